set_option maxRecDepth 100000 in
set_option maxHeartbeats 4000000 in
theorem re_X_shift_30_69_71 {ex : az_X} {I : Nat → Nat → Int32} {J : Nat → Nat → Int64} {R : Nat → Nat → Option Nat} {v2 : Int32} {v4 : Int32} {v5 : Int32} {x : Int32 × (Nat → Nat → Int64)} (h : rs_X_shift_30 69 71 I J v2 v4 v5 = some x) {Q : Option Value → az_S → Prop} (hQ : Q (some (.int x.1)) (97, I, x.2, R)) : az_E az_F ex 2 128 30 [.retAddr 0, .retAddr 0, .int v2, .retAddr 0, .int v4, .int v5, .ref 69, .retAddr 0] [.ref 71] (97, I, J, R) Q := by
  unfold rs_X_shift_30 at h
  refine az_E.sn 2 (pc' := 34) (L' := [.retAddr 0, .retAddr 0, .int v2, .retAddr 0, .int v4, .int v5, .ref 69, .ref 71]) (S' := [.ref 69]) (σ' := (97, I, J, R)) rfl ?_
  refine az_E.call (d := 1) (k' := 54) (vs := [.ref 69]) (pc' := 37) (S' := []) rfl ?_ (fun _ _ hq => hq)
  show az_E az_F ex 1 54 0 [.ref 69] [] (97, I, J, R) _
  refine az_E.sn 3 (pc' := 5) (L' := [.ref 69]) (S' := [.int (-1 : Int32), .int (I 69 0)]) (σ' := (97, I, J, R)) rfl ?_
  refine az_E.br (c := (I 69 0) = (-1 : Int32)) (tt := 8) (ff := 20) (L' := [.ref 69]) (S' := []) (σ' := (97, I, J, R)) rfl (fun hc_1577 => ?_) (fun hc_1577 => ?_)
  · rw [if_pos hc_1577] at h
    refine az_E.sn 3 (pc' := 13) (L' := [.ref 69]) (S' := [.int (-1 : Int32), .int (I 69 1)]) (σ' := (97, I, J, R)) rfl ?_
    refine az_E.br (c := (I 69 1) = (-1 : Int32)) (tt := 16) (ff := 20) (L' := [.ref 69]) (S' := []) (σ' := (97, I, J, R)) rfl (fun hc_1578 => ?_) (fun hc_1578 => ?_)
    · rw [if_pos hc_1578] at h
      refine az_E.sn 2 (pc' := 21) (L' := [.ref 69]) (S' := [.int (1 : Int32)]) (σ' := (97, I, J, R)) rfl ?_
      refine az_E.ret (v := some (.int (1 : Int32))) (σ' := (97, I, J, R)) rfl ?_
      show az_E az_F ex 2 128 37 [.retAddr 0, .retAddr 0, .int v2, .retAddr 0, .int v4, .int v5, .ref 69, .ref 71] [.int (1 : Int32)] (97, I, J, R) _
      refine az_E.br (c := (1 : Int32) = 0) (tt := 40) (ff := 48) (L' := [.retAddr 0, .retAddr 0, .int v2, .retAddr 0, .int v4, .int v5, .ref 69, .ref 71]) (S' := []) (σ' := (97, I, J, R)) rfl (fun hn => absurd hn (by decide)) (fun _ => ?_)
      refine az_E.sn 1 (pc' := 50) (L' := [.retAddr 0, .retAddr 0, .int v2, .retAddr 0, .int v4, .int v5, .ref 69, .ref 71]) (S' := [.int (-11 : Int32)]) (σ' := (97, I, J, R)) rfl ?_
      have h := Option.some.inj h
      subst h
      exact az_E.ret (v := some (.int (-11 : Int32))) (σ' := (97, I, J, R)) rfl hQ
    · rw [if_neg hc_1578] at h
      refine az_E.sn 1 (pc' := 21) (L' := [.ref 69]) (S' := [.int (0 : Int32)]) (σ' := (97, I, J, R)) rfl ?_
      refine az_E.ret (v := some (.int (0 : Int32))) (σ' := (97, I, J, R)) rfl ?_
      show az_E az_F ex 2 128 37 [.retAddr 0, .retAddr 0, .int v2, .retAddr 0, .int v4, .int v5, .ref 69, .ref 71] [.int (0 : Int32)] (97, I, J, R) _
      refine az_E.br (c := (0 : Int32) = 0) (tt := 40) (ff := 48) (L' := [.retAddr 0, .retAddr 0, .int v2, .retAddr 0, .int v4, .int v5, .ref 69, .ref 71]) (S' := []) (σ' := (97, I, J, R)) rfl (fun _ => ?_) (fun hn => absurd (by decide) hn)
      refine az_E.sn 1 (pc' := 42) (L' := [.retAddr 0, .retAddr 0, .int v2, .retAddr 0, .int v4, .int v5, .ref 69, .ref 71]) (S' := [.ref 71]) (σ' := (97, I, J, R)) rfl ?_
      refine az_E.call (d := 1) (k' := 54) (vs := [.ref 71]) (pc' := 45) (S' := []) rfl ?_ (fun _ _ hq => hq)
      show az_E az_F ex 1 54 0 [.ref 71] [] (97, I, J, R) _
      refine az_E.sn 3 (pc' := 5) (L' := [.ref 71]) (S' := [.int (-1 : Int32), .int (I 71 0)]) (σ' := (97, I, J, R)) rfl ?_
      refine az_E.br (c := (I 71 0) = (-1 : Int32)) (tt := 8) (ff := 20) (L' := [.ref 71]) (S' := []) (σ' := (97, I, J, R)) rfl (fun hc_1579 => ?_) (fun hc_1579 => ?_)
      · rw [if_pos hc_1579] at h
        refine az_E.sn 3 (pc' := 13) (L' := [.ref 71]) (S' := [.int (-1 : Int32), .int (I 71 1)]) (σ' := (97, I, J, R)) rfl ?_
        refine az_E.br (c := (I 71 1) = (-1 : Int32)) (tt := 16) (ff := 20) (L' := [.ref 71]) (S' := []) (σ' := (97, I, J, R)) rfl (fun hc_1580 => ?_) (fun hc_1580 => ?_)
        · rw [if_pos hc_1580] at h
          refine az_E.sn 2 (pc' := 21) (L' := [.ref 71]) (S' := [.int (1 : Int32)]) (σ' := (97, I, J, R)) rfl ?_
          refine az_E.ret (v := some (.int (1 : Int32))) (σ' := (97, I, J, R)) rfl ?_
          show az_E az_F ex 2 128 45 [.retAddr 0, .retAddr 0, .int v2, .retAddr 0, .int v4, .int v5, .ref 69, .ref 71] [.int (1 : Int32)] (97, I, J, R) _
          refine az_E.br (c := (1 : Int32) = 0) (tt := 51) (ff := 48) (L' := [.retAddr 0, .retAddr 0, .int v2, .retAddr 0, .int v4, .int v5, .ref 69, .ref 71]) (S' := []) (σ' := (97, I, J, R)) rfl (fun hn => absurd hn (by decide)) (fun _ => ?_)
          refine az_E.sn 1 (pc' := 50) (L' := [.retAddr 0, .retAddr 0, .int v2, .retAddr 0, .int v4, .int v5, .ref 69, .ref 71]) (S' := [.int (-11 : Int32)]) (σ' := (97, I, J, R)) rfl ?_
          have h := Option.some.inj h
          subst h
          exact az_E.ret (v := some (.int (-11 : Int32))) (σ' := (97, I, J, R)) rfl hQ
        · rw [if_neg hc_1580] at h
          refine az_E.sn 1 (pc' := 21) (L' := [.ref 71]) (S' := [.int (0 : Int32)]) (σ' := (97, I, J, R)) rfl ?_
          refine az_E.ret (v := some (.int (0 : Int32))) (σ' := (97, I, J, R)) rfl ?_
          show az_E az_F ex 2 128 45 [.retAddr 0, .retAddr 0, .int v2, .retAddr 0, .int v4, .int v5, .ref 69, .ref 71] [.int (0 : Int32)] (97, I, J, R) _
          refine az_E.br (c := (0 : Int32) = 0) (tt := 51) (ff := 48) (L' := [.retAddr 0, .retAddr 0, .int v2, .retAddr 0, .int v4, .int v5, .ref 69, .ref 71]) (S' := []) (σ' := (97, I, J, R)) rfl (fun _ => ?_) (fun hn => absurd (by decide) hn)
          refine az_E.sn 1 (pc' := 53) (L' := [.retAddr 0, .retAddr 0, .int v2, .retAddr 0, .int v4, .int v5, .ref 69, .ref 71]) (S' := [.ref 69]) (σ' := (97, I, J, R)) rfl ?_
          refine az_E.call (d := 1) (k' := 55) (vs := [.ref 69]) (pc' := 56) (S' := []) rfl ?_ (fun _ _ hq => hq)
          show az_E az_F ex 1 55 0 [.ref 69] [] (97, I, J, R) _
          refine az_E.sn 3 (pc' := 5) (L' := [.ref 69]) (S' := [.int (-1 : Int32), .int (I 69 1)]) (σ' := (97, I, J, R)) rfl ?_
          refine az_E.br (c := (I 69 1) = (-1 : Int32)) (tt := 12) (ff := 8) (L' := [.ref 69]) (S' := []) (σ' := (97, I, J, R)) rfl (fun hc_1581 => ?_) (fun hc_1581 => ?_)
          · rw [if_pos hc_1581] at h
            refine az_E.sn 1 (pc' := 13) (L' := [.ref 69]) (S' := [.int (0 : Int32)]) (σ' := (97, I, J, R)) rfl ?_
            refine az_E.ret (v := some (.int (0 : Int32))) (σ' := (97, I, J, R)) rfl ?_
            show az_E az_F ex 2 128 56 [.retAddr 0, .retAddr 0, .int v2, .retAddr 0, .int v4, .int v5, .ref 69, .ref 71] [.int (0 : Int32)] (97, I, J, R) _
            refine az_E.br (c := (0 : Int32) = 0) (tt := 72) (ff := 59) (L' := [.retAddr 0, .retAddr 0, .int v2, .retAddr 0, .int v4, .int v5, .ref 69, .ref 71]) (S' := []) (σ' := (97, I, J, R)) rfl (fun _ => ?_) (fun hn => absurd (by decide) hn)
            refine az_E.sn 1 (pc' := 74) (L' := [.retAddr 0, .retAddr 0, .int v2, .retAddr 0, .int v4, .int v5, .ref 69, .ref 71]) (S' := [.int (-12 : Int32)]) (σ' := (97, I, J, R)) rfl ?_
            have h := Option.some.inj h
            subst h
            exact az_E.ret (v := some (.int (-12 : Int32))) (σ' := (97, I, J, R)) rfl hQ
          · rw [if_neg hc_1581] at h
            refine az_E.sn 2 (pc' := 13) (L' := [.ref 69]) (S' := [.int (1 : Int32)]) (σ' := (97, I, J, R)) rfl ?_
            refine az_E.ret (v := some (.int (1 : Int32))) (σ' := (97, I, J, R)) rfl ?_
            show az_E az_F ex 2 128 56 [.retAddr 0, .retAddr 0, .int v2, .retAddr 0, .int v4, .int v5, .ref 69, .ref 71] [.int (1 : Int32)] (97, I, J, R) _
            refine az_E.br (c := (1 : Int32) = 0) (tt := 72) (ff := 59) (L' := [.retAddr 0, .retAddr 0, .int v2, .retAddr 0, .int v4, .int v5, .ref 69, .ref 71]) (S' := []) (σ' := (97, I, J, R)) rfl (fun hn => absurd hn (by decide)) (fun _ => ?_)
            refine az_E.sn 3 (pc' := 66) (L' := [.retAddr 0, .retAddr 0, .int v2, .retAddr 0, .int v4, .int v5, .ref 69, .ref 71]) (S' := [.int (I 69 1), .ref 71]) (σ' := (97, I, J, R)) rfl ?_
            refine az_E.call (d := 1) (k' := 56) (vs := [.ref 71, .int (I 69 1)]) (pc' := 69) (S' := []) rfl ?_ (fun _ _ hq => hq)
            show az_E az_F ex 1 56 0 [.ref 71, .int (I 69 1)] [] (97, I, J, R) _
            refine az_E.sn 1 (pc' := 1) (L' := [.ref 71, .int (I 69 1)]) (S' := [.ref 71]) (σ' := (97, I, J, R)) rfl ?_
            refine az_E.call (d := 0) (k' := 55) (vs := [.ref 71]) (pc' := 4) (S' := []) rfl ?_ (fun _ _ hq => hq)
            show az_E az_F ex 0 55 0 [.ref 71] [] (97, I, J, R) _
            refine az_E.sn 3 (pc' := 5) (L' := [.ref 71]) (S' := [.int (-1 : Int32), .int (I 71 1)]) (σ' := (97, I, J, R)) rfl ?_
            refine az_E.br (c := (I 71 1) = (-1 : Int32)) (tt := 12) (ff := 8) (L' := [.ref 71]) (S' := []) (σ' := (97, I, J, R)) rfl (fun hc_1582 => ?_) (fun hc_1582 => ?_)
            · rw [if_pos hc_1582] at h
              refine az_E.sn 1 (pc' := 13) (L' := [.ref 71]) (S' := [.int (0 : Int32)]) (σ' := (97, I, J, R)) rfl ?_
              refine az_E.ret (v := some (.int (0 : Int32))) (σ' := (97, I, J, R)) rfl ?_
              show az_E az_F ex 1 56 4 [.ref 71, .int (I 69 1)] [.int (0 : Int32)] (97, I, J, R) _
              refine az_E.br (c := (0 : Int32) = 0) (tt := 19) (ff := 7) (L' := [.ref 71, .int (I 69 1)]) (S' := []) (σ' := (97, I, J, R)) rfl (fun _ => ?_) (fun hn => absurd (by decide) hn)
              refine az_E.sn 1 (pc' := 20) (L' := [.ref 71, .int (I 69 1)]) (S' := [.int (0 : Int32)]) (σ' := (97, I, J, R)) rfl ?_
              refine az_E.ret (v := some (.int (0 : Int32))) (σ' := (97, I, J, R)) rfl ?_
              show az_E az_F ex 2 128 69 [.retAddr 0, .retAddr 0, .int v2, .retAddr 0, .int v4, .int v5, .ref 69, .ref 71] [.int (0 : Int32)] (97, I, J, R) _
              refine az_E.br (c := (0 : Int32) = 0) (tt := 72) (ff := 75) (L' := [.retAddr 0, .retAddr 0, .int v2, .retAddr 0, .int v4, .int v5, .ref 69, .ref 71]) (S' := []) (σ' := (97, I, J, R)) rfl (fun _ => ?_) (fun hn => absurd (by decide) hn)
              refine az_E.sn 1 (pc' := 74) (L' := [.retAddr 0, .retAddr 0, .int v2, .retAddr 0, .int v4, .int v5, .ref 69, .ref 71]) (S' := [.int (-12 : Int32)]) (σ' := (97, I, J, R)) rfl ?_
              have h := Option.some.inj h
              subst h
              exact az_E.ret (v := some (.int (-12 : Int32))) (σ' := (97, I, J, R)) rfl hQ
            · rw [if_neg hc_1582] at h
              refine az_E.sn 2 (pc' := 13) (L' := [.ref 71]) (S' := [.int (1 : Int32)]) (σ' := (97, I, J, R)) rfl ?_
              refine az_E.ret (v := some (.int (1 : Int32))) (σ' := (97, I, J, R)) rfl ?_
              show az_E az_F ex 1 56 4 [.ref 71, .int (I 69 1)] [.int (1 : Int32)] (97, I, J, R) _
              refine az_E.br (c := (1 : Int32) = 0) (tt := 19) (ff := 7) (L' := [.ref 71, .int (I 69 1)]) (S' := []) (σ' := (97, I, J, R)) rfl (fun hn => absurd hn (by decide)) (fun _ => ?_)
              refine az_E.sn 3 (pc' := 12) (L' := [.ref 71, .int (I 69 1)]) (S' := [.int (I 69 1), .int (I 71 1)]) (σ' := (97, I, J, R)) rfl ?_
              refine az_E.br (c := (I 71 1) = (I 69 1)) (tt := 15) (ff := 19) (L' := [.ref 71, .int (I 69 1)]) (S' := []) (σ' := (97, I, J, R)) rfl (fun hc_1583 => ?_) (fun hc_1583 => ?_)
              · rw [if_pos hc_1583] at h
                refine az_E.sn 2 (pc' := 20) (L' := [.ref 71, .int (I 69 1)]) (S' := [.int (1 : Int32)]) (σ' := (97, I, J, R)) rfl ?_
                refine az_E.ret (v := some (.int (1 : Int32))) (σ' := (97, I, J, R)) rfl ?_
                show az_E az_F ex 2 128 69 [.retAddr 0, .retAddr 0, .int v2, .retAddr 0, .int v4, .int v5, .ref 69, .ref 71] [.int (1 : Int32)] (97, I, J, R) _
                refine az_E.br (c := (1 : Int32) = 0) (tt := 72) (ff := 75) (L' := [.retAddr 0, .retAddr 0, .int v2, .retAddr 0, .int v4, .int v5, .ref 69, .ref 71]) (S' := []) (σ' := (97, I, J, R)) rfl (fun hn => absurd hn (by decide)) (fun _ => ?_)
                refine az_E.sn 3 (pc' := 80) (L' := [.retAddr 0, .retAddr 0, .int v2, .retAddr 0, .int v4, .int v5, .ref 69, .ref 71]) (S' := [.int v5, .int v2, .ref 69]) (σ' := (97, I, J, R)) rfl ?_
                refine az_E.call (d := 1) (k' := 60) (vs := [.ref 69, .int v2, .int v5]) (pc' := 83) (S' := []) rfl ?_ (fun _ _ hq => hq)
                show az_E az_F ex 1 60 0 [.ref 69, .int v2, .int v5] [] (97, I, J, R) _
                refine az_E.sn 1 (pc' := 1) (L' := [.ref 69, .int v2, .int v5]) (S' := [.int v2]) (σ' := (97, I, J, R)) rfl ?_
                refine az_E.br (c := v2 < 0) (tt := 30) (ff := 4) (L' := [.ref 69, .int v2, .int v5]) (S' := []) (σ' := (97, I, J, R)) rfl (fun hc_1584 => ?_) (fun hc_1584 => ?_)
                · rw [if_pos hc_1584] at h
                  refine az_E.sn 1 (pc' := 31) (L' := [.ref 69, .int v2, .int v5]) (S' := [.int (0 : Int32)]) (σ' := (97, I, J, R)) rfl ?_
                  refine az_E.ret (v := some (.int (0 : Int32))) (σ' := (97, I, J, R)) rfl ?_
                  show az_E az_F ex 2 128 83 [.retAddr 0, .retAddr 0, .int v2, .retAddr 0, .int v4, .int v5, .ref 69, .ref 71] [.int (0 : Int32)] (97, I, J, R) _
                  refine az_E.br (c := (0 : Int32) = 0) (tt := 98) (ff := 86) (L' := [.retAddr 0, .retAddr 0, .int v2, .retAddr 0, .int v4, .int v5, .ref 69, .ref 71]) (S' := []) (σ' := (97, I, J, R)) rfl (fun _ => ?_) (fun hn => absurd (by decide) hn)
                  refine az_E.sn 1 (pc' := 100) (L' := [.retAddr 0, .retAddr 0, .int v2, .retAddr 0, .int v4, .int v5, .ref 69, .ref 71]) (S' := [.int (-13 : Int32)]) (σ' := (97, I, J, R)) rfl ?_
                  have h := Option.some.inj h
                  subst h
                  exact az_E.ret (v := some (.int (-13 : Int32))) (σ' := (97, I, J, R)) rfl hQ
                · rw [if_neg hc_1584] at h
                  refine az_E.sn 1 (pc' := 5) (L' := [.ref 69, .int v2, .int v5]) (S' := [.int v5]) (σ' := (97, I, J, R)) rfl ?_
                  refine az_E.br (c := v5 < 0) (tt := 30) (ff := 8) (L' := [.ref 69, .int v2, .int v5]) (S' := []) (σ' := (97, I, J, R)) rfl (fun hc_1585 => ?_) (fun hc_1585 => ?_)
                  · rw [if_pos hc_1585] at h
                    refine az_E.sn 1 (pc' := 31) (L' := [.ref 69, .int v2, .int v5]) (S' := [.int (0 : Int32)]) (σ' := (97, I, J, R)) rfl ?_
                    refine az_E.ret (v := some (.int (0 : Int32))) (σ' := (97, I, J, R)) rfl ?_
                    show az_E az_F ex 2 128 83 [.retAddr 0, .retAddr 0, .int v2, .retAddr 0, .int v4, .int v5, .ref 69, .ref 71] [.int (0 : Int32)] (97, I, J, R) _
                    refine az_E.br (c := (0 : Int32) = 0) (tt := 98) (ff := 86) (L' := [.retAddr 0, .retAddr 0, .int v2, .retAddr 0, .int v4, .int v5, .ref 69, .ref 71]) (S' := []) (σ' := (97, I, J, R)) rfl (fun _ => ?_) (fun hn => absurd (by decide) hn)
                    refine az_E.sn 1 (pc' := 100) (L' := [.retAddr 0, .retAddr 0, .int v2, .retAddr 0, .int v4, .int v5, .ref 69, .ref 71]) (S' := [.int (-13 : Int32)]) (σ' := (97, I, J, R)) rfl ?_
                    have h := Option.some.inj h
                    subst h
                    exact az_E.ret (v := some (.int (-13 : Int32))) (σ' := (97, I, J, R)) rfl hQ
                  · rw [if_neg hc_1585] at h
                    refine az_E.sn 3 (pc' := 13) (L' := [.ref 69, .int v2, .int v5]) (S' := [.int (I 69 2), .int v2]) (σ' := (97, I, J, R)) rfl ?_
                    refine az_E.br (c := (I 69 2) < v2) (tt := 30) (ff := 16) (L' := [.ref 69, .int v2, .int v5]) (S' := []) (σ' := (97, I, J, R)) rfl (fun hc_1586 => ?_) (fun hc_1586 => ?_)
                    · rw [if_pos hc_1586] at h
                      refine az_E.sn 1 (pc' := 31) (L' := [.ref 69, .int v2, .int v5]) (S' := [.int (0 : Int32)]) (σ' := (97, I, J, R)) rfl ?_
                      refine az_E.ret (v := some (.int (0 : Int32))) (σ' := (97, I, J, R)) rfl ?_
                      show az_E az_F ex 2 128 83 [.retAddr 0, .retAddr 0, .int v2, .retAddr 0, .int v4, .int v5, .ref 69, .ref 71] [.int (0 : Int32)] (97, I, J, R) _
                      refine az_E.br (c := (0 : Int32) = 0) (tt := 98) (ff := 86) (L' := [.retAddr 0, .retAddr 0, .int v2, .retAddr 0, .int v4, .int v5, .ref 69, .ref 71]) (S' := []) (σ' := (97, I, J, R)) rfl (fun _ => ?_) (fun hn => absurd (by decide) hn)
                      refine az_E.sn 1 (pc' := 100) (L' := [.retAddr 0, .retAddr 0, .int v2, .retAddr 0, .int v4, .int v5, .ref 69, .ref 71]) (S' := [.int (-13 : Int32)]) (σ' := (97, I, J, R)) rfl ?_
                      have h := Option.some.inj h
                      subst h
                      exact az_E.ret (v := some (.int (-13 : Int32))) (σ' := (97, I, J, R)) rfl hQ
                    · rw [if_neg hc_1586] at h
                      refine az_E.sn 5 (pc' := 23) (L' := [.ref 69, .int v2, .int v5]) (S' := [.int ((I 69 2) - v2), .int v5]) (σ' := (97, I, J, R)) rfl ?_
                      refine az_E.br (c := ((I 69 2) - v2) < v5) (tt := 30) (ff := 26) (L' := [.ref 69, .int v2, .int v5]) (S' := []) (σ' := (97, I, J, R)) rfl (fun hc_1587 => ?_) (fun hc_1587 => ?_)
                      · rw [if_pos hc_1587] at h
                        refine az_E.sn 1 (pc' := 31) (L' := [.ref 69, .int v2, .int v5]) (S' := [.int (0 : Int32)]) (σ' := (97, I, J, R)) rfl ?_
                        refine az_E.ret (v := some (.int (0 : Int32))) (σ' := (97, I, J, R)) rfl ?_
                        show az_E az_F ex 2 128 83 [.retAddr 0, .retAddr 0, .int v2, .retAddr 0, .int v4, .int v5, .ref 69, .ref 71] [.int (0 : Int32)] (97, I, J, R) _
                        refine az_E.br (c := (0 : Int32) = 0) (tt := 98) (ff := 86) (L' := [.retAddr 0, .retAddr 0, .int v2, .retAddr 0, .int v4, .int v5, .ref 69, .ref 71]) (S' := []) (σ' := (97, I, J, R)) rfl (fun _ => ?_) (fun hn => absurd (by decide) hn)
                        refine az_E.sn 1 (pc' := 100) (L' := [.retAddr 0, .retAddr 0, .int v2, .retAddr 0, .int v4, .int v5, .ref 69, .ref 71]) (S' := [.int (-13 : Int32)]) (σ' := (97, I, J, R)) rfl ?_
                        have h := Option.some.inj h
                        subst h
                        exact az_E.ret (v := some (.int (-13 : Int32))) (σ' := (97, I, J, R)) rfl hQ
                      · rw [if_neg hc_1587] at h
                        refine az_E.sn 2 (pc' := 31) (L' := [.ref 69, .int v2, .int v5]) (S' := [.int (1 : Int32)]) (σ' := (97, I, J, R)) rfl ?_
                        refine az_E.ret (v := some (.int (1 : Int32))) (σ' := (97, I, J, R)) rfl ?_
                        show az_E az_F ex 2 128 83 [.retAddr 0, .retAddr 0, .int v2, .retAddr 0, .int v4, .int v5, .ref 69, .ref 71] [.int (1 : Int32)] (97, I, J, R) _
                        refine az_E.br (c := (1 : Int32) = 0) (tt := 98) (ff := 86) (L' := [.retAddr 0, .retAddr 0, .int v2, .retAddr 0, .int v4, .int v5, .ref 69, .ref 71]) (S' := []) (σ' := (97, I, J, R)) rfl (fun hn => absurd hn (by decide)) (fun _ => ?_)
                        refine az_E.sn 3 (pc' := 92) (L' := [.retAddr 0, .retAddr 0, .int v2, .retAddr 0, .int v4, .int v5, .ref 69, .ref 71]) (S' := [.int v5, .int v4, .ref 71]) (σ' := (97, I, J, R)) rfl ?_
                        refine az_E.call (d := 1) (k' := 60) (vs := [.ref 71, .int v4, .int v5]) (pc' := 95) (S' := []) rfl ?_ (fun _ _ hq => hq)
                        show az_E az_F ex 1 60 0 [.ref 71, .int v4, .int v5] [] (97, I, J, R) _
                        refine az_E.sn 1 (pc' := 1) (L' := [.ref 71, .int v4, .int v5]) (S' := [.int v4]) (σ' := (97, I, J, R)) rfl ?_
                        refine az_E.br (c := v4 < 0) (tt := 30) (ff := 4) (L' := [.ref 71, .int v4, .int v5]) (S' := []) (σ' := (97, I, J, R)) rfl (fun hc_1588 => ?_) (fun hc_1588 => ?_)
                        · rw [if_pos hc_1588] at h
                          refine az_E.sn 1 (pc' := 31) (L' := [.ref 71, .int v4, .int v5]) (S' := [.int (0 : Int32)]) (σ' := (97, I, J, R)) rfl ?_
                          refine az_E.ret (v := some (.int (0 : Int32))) (σ' := (97, I, J, R)) rfl ?_
                          show az_E az_F ex 2 128 95 [.retAddr 0, .retAddr 0, .int v2, .retAddr 0, .int v4, .int v5, .ref 69, .ref 71] [.int (0 : Int32)] (97, I, J, R) _
                          refine az_E.br (c := (0 : Int32) = 0) (tt := 98) (ff := 101) (L' := [.retAddr 0, .retAddr 0, .int v2, .retAddr 0, .int v4, .int v5, .ref 69, .ref 71]) (S' := []) (σ' := (97, I, J, R)) rfl (fun _ => ?_) (fun hn => absurd (by decide) hn)
                          refine az_E.sn 1 (pc' := 100) (L' := [.retAddr 0, .retAddr 0, .int v2, .retAddr 0, .int v4, .int v5, .ref 69, .ref 71]) (S' := [.int (-13 : Int32)]) (σ' := (97, I, J, R)) rfl ?_
                          have h := Option.some.inj h
                          subst h
                          exact az_E.ret (v := some (.int (-13 : Int32))) (σ' := (97, I, J, R)) rfl hQ
                        · rw [if_neg hc_1588] at h
                          refine az_E.sn 1 (pc' := 5) (L' := [.ref 71, .int v4, .int v5]) (S' := [.int v5]) (σ' := (97, I, J, R)) rfl ?_
                          refine az_E.br (c := v5 < 0) (tt := 30) (ff := 8) (L' := [.ref 71, .int v4, .int v5]) (S' := []) (σ' := (97, I, J, R)) rfl (fun hc_1589 => ?_) (fun hc_1589 => ?_)
                          · rw [if_pos hc_1589] at h
                            refine az_E.sn 1 (pc' := 31) (L' := [.ref 71, .int v4, .int v5]) (S' := [.int (0 : Int32)]) (σ' := (97, I, J, R)) rfl ?_
                            refine az_E.ret (v := some (.int (0 : Int32))) (σ' := (97, I, J, R)) rfl ?_
                            show az_E az_F ex 2 128 95 [.retAddr 0, .retAddr 0, .int v2, .retAddr 0, .int v4, .int v5, .ref 69, .ref 71] [.int (0 : Int32)] (97, I, J, R) _
                            refine az_E.br (c := (0 : Int32) = 0) (tt := 98) (ff := 101) (L' := [.retAddr 0, .retAddr 0, .int v2, .retAddr 0, .int v4, .int v5, .ref 69, .ref 71]) (S' := []) (σ' := (97, I, J, R)) rfl (fun _ => ?_) (fun hn => absurd (by decide) hn)
                            refine az_E.sn 1 (pc' := 100) (L' := [.retAddr 0, .retAddr 0, .int v2, .retAddr 0, .int v4, .int v5, .ref 69, .ref 71]) (S' := [.int (-13 : Int32)]) (σ' := (97, I, J, R)) rfl ?_
                            have h := Option.some.inj h
                            subst h
                            exact az_E.ret (v := some (.int (-13 : Int32))) (σ' := (97, I, J, R)) rfl hQ
                          · rw [if_neg hc_1589] at h
                            refine az_E.sn 3 (pc' := 13) (L' := [.ref 71, .int v4, .int v5]) (S' := [.int (I 71 2), .int v4]) (σ' := (97, I, J, R)) rfl ?_
                            refine az_E.br (c := (I 71 2) < v4) (tt := 30) (ff := 16) (L' := [.ref 71, .int v4, .int v5]) (S' := []) (σ' := (97, I, J, R)) rfl (fun hc_1590 => ?_) (fun hc_1590 => ?_)
                            · rw [if_pos hc_1590] at h
                              refine az_E.sn 1 (pc' := 31) (L' := [.ref 71, .int v4, .int v5]) (S' := [.int (0 : Int32)]) (σ' := (97, I, J, R)) rfl ?_
                              refine az_E.ret (v := some (.int (0 : Int32))) (σ' := (97, I, J, R)) rfl ?_
                              show az_E az_F ex 2 128 95 [.retAddr 0, .retAddr 0, .int v2, .retAddr 0, .int v4, .int v5, .ref 69, .ref 71] [.int (0 : Int32)] (97, I, J, R) _
                              refine az_E.br (c := (0 : Int32) = 0) (tt := 98) (ff := 101) (L' := [.retAddr 0, .retAddr 0, .int v2, .retAddr 0, .int v4, .int v5, .ref 69, .ref 71]) (S' := []) (σ' := (97, I, J, R)) rfl (fun _ => ?_) (fun hn => absurd (by decide) hn)
                              refine az_E.sn 1 (pc' := 100) (L' := [.retAddr 0, .retAddr 0, .int v2, .retAddr 0, .int v4, .int v5, .ref 69, .ref 71]) (S' := [.int (-13 : Int32)]) (σ' := (97, I, J, R)) rfl ?_
                              have h := Option.some.inj h
                              subst h
                              exact az_E.ret (v := some (.int (-13 : Int32))) (σ' := (97, I, J, R)) rfl hQ
                            · rw [if_neg hc_1590] at h
                              refine az_E.sn 5 (pc' := 23) (L' := [.ref 71, .int v4, .int v5]) (S' := [.int ((I 71 2) - v4), .int v5]) (σ' := (97, I, J, R)) rfl ?_
                              refine az_E.br (c := ((I 71 2) - v4) < v5) (tt := 30) (ff := 26) (L' := [.ref 71, .int v4, .int v5]) (S' := []) (σ' := (97, I, J, R)) rfl (fun hc_1591 => ?_) (fun hc_1591 => ?_)
                              · rw [if_pos hc_1591] at h
                                refine az_E.sn 1 (pc' := 31) (L' := [.ref 71, .int v4, .int v5]) (S' := [.int (0 : Int32)]) (σ' := (97, I, J, R)) rfl ?_
                                refine az_E.ret (v := some (.int (0 : Int32))) (σ' := (97, I, J, R)) rfl ?_
                                show az_E az_F ex 2 128 95 [.retAddr 0, .retAddr 0, .int v2, .retAddr 0, .int v4, .int v5, .ref 69, .ref 71] [.int (0 : Int32)] (97, I, J, R) _
                                refine az_E.br (c := (0 : Int32) = 0) (tt := 98) (ff := 101) (L' := [.retAddr 0, .retAddr 0, .int v2, .retAddr 0, .int v4, .int v5, .ref 69, .ref 71]) (S' := []) (σ' := (97, I, J, R)) rfl (fun _ => ?_) (fun hn => absurd (by decide) hn)
                                refine az_E.sn 1 (pc' := 100) (L' := [.retAddr 0, .retAddr 0, .int v2, .retAddr 0, .int v4, .int v5, .ref 69, .ref 71]) (S' := [.int (-13 : Int32)]) (σ' := (97, I, J, R)) rfl ?_
                                have h := Option.some.inj h
                                subst h
                                exact az_E.ret (v := some (.int (-13 : Int32))) (σ' := (97, I, J, R)) rfl hQ
                              · rw [if_neg hc_1591] at h
                                refine az_E.sn 2 (pc' := 31) (L' := [.ref 71, .int v4, .int v5]) (S' := [.int (1 : Int32)]) (σ' := (97, I, J, R)) rfl ?_
                                refine az_E.ret (v := some (.int (1 : Int32))) (σ' := (97, I, J, R)) rfl ?_
                                show az_E az_F ex 2 128 95 [.retAddr 0, .retAddr 0, .int v2, .retAddr 0, .int v4, .int v5, .ref 69, .ref 71] [.int (1 : Int32)] (97, I, J, R) _
                                refine az_E.br (c := (1 : Int32) = 0) (tt := 98) (ff := 101) (L' := [.retAddr 0, .retAddr 0, .int v2, .retAddr 0, .int v4, .int v5, .ref 69, .ref 71]) (S' := []) (σ' := (97, I, J, R)) rfl (fun hn => absurd hn (by decide)) (fun _ => ?_)
                                refine az_E.sn 7 (pc' := 116) (L' := [.retAddr 0, .retAddr 0, .int v2, .retAddr 0, .int v4, .int v5, .ref 69, .ref 71]) (S' := [.int v5, .int v4, .ref (71 + 1), .int v2, .ref (69 + 1)]) (σ' := (97, I, J, R)) rfl ?_
                                by_cases hc_1592 : v2 < 0 ∨ v4 < 0 ∨ v5 < 0 ∨ 60 < v2.toNatClampNeg + v5.toNatClampNeg ∨ 60 < v4.toNatClampNeg + v5.toNatClampNeg
                                · rw [if_pos hc_1592] at h; cases h
                                · rw [if_neg hc_1592] at h
                                  refine az_E.o (o := az_cp az_F (97, I, J, R) (69 + 1) v2 (71 + 1) v4 v5) (pc' := 119) (L' := [.retAddr 0, .retAddr 0, .int v2, .retAddr 0, .int v4, .int v5, .ref 69, .ref 71]) (S' := []) (x := (97, I, (az_ur J (71 + 1) (va_cpy (J (69 + 1)) (J (71 + 1)) v2.toNatClampNeg v4.toNatClampNeg v5.toNatClampNeg)), R)) rfl (if_neg hc_1592) ?_
                                  refine az_E.sn 1 (pc' := 121) (L' := [.retAddr 0, .retAddr 0, .int v2, .retAddr 0, .int v4, .int v5, .ref 69, .ref 71]) (S' := [.int v5]) (σ' := (97, I, (az_ur J (71 + 1) (va_cpy (J (69 + 1)) (J (71 + 1)) v2.toNatClampNeg v4.toNatClampNeg v5.toNatClampNeg)), R)) rfl ?_
                                  have h := Option.some.inj h
                                  subst h
                                  exact az_E.ret (v := some (.int v5)) (σ' := (97, I, (az_ur J (71 + 1) (va_cpy (J (69 + 1)) (J (71 + 1)) v2.toNatClampNeg v4.toNatClampNeg v5.toNatClampNeg)), R)) rfl hQ
              · rw [if_neg hc_1583] at h
                refine az_E.sn 1 (pc' := 20) (L' := [.ref 71, .int (I 69 1)]) (S' := [.int (0 : Int32)]) (σ' := (97, I, J, R)) rfl ?_
                refine az_E.ret (v := some (.int (0 : Int32))) (σ' := (97, I, J, R)) rfl ?_
                show az_E az_F ex 2 128 69 [.retAddr 0, .retAddr 0, .int v2, .retAddr 0, .int v4, .int v5, .ref 69, .ref 71] [.int (0 : Int32)] (97, I, J, R) _
                refine az_E.br (c := (0 : Int32) = 0) (tt := 72) (ff := 75) (L' := [.retAddr 0, .retAddr 0, .int v2, .retAddr 0, .int v4, .int v5, .ref 69, .ref 71]) (S' := []) (σ' := (97, I, J, R)) rfl (fun _ => ?_) (fun hn => absurd (by decide) hn)
                refine az_E.sn 1 (pc' := 74) (L' := [.retAddr 0, .retAddr 0, .int v2, .retAddr 0, .int v4, .int v5, .ref 69, .ref 71]) (S' := [.int (-12 : Int32)]) (σ' := (97, I, J, R)) rfl ?_
                have h := Option.some.inj h
                subst h
                exact az_E.ret (v := some (.int (-12 : Int32))) (σ' := (97, I, J, R)) rfl hQ
      · rw [if_neg hc_1579] at h
        refine az_E.sn 1 (pc' := 21) (L' := [.ref 71]) (S' := [.int (0 : Int32)]) (σ' := (97, I, J, R)) rfl ?_
        refine az_E.ret (v := some (.int (0 : Int32))) (σ' := (97, I, J, R)) rfl ?_
        show az_E az_F ex 2 128 45 [.retAddr 0, .retAddr 0, .int v2, .retAddr 0, .int v4, .int v5, .ref 69, .ref 71] [.int (0 : Int32)] (97, I, J, R) _
        refine az_E.br (c := (0 : Int32) = 0) (tt := 51) (ff := 48) (L' := [.retAddr 0, .retAddr 0, .int v2, .retAddr 0, .int v4, .int v5, .ref 69, .ref 71]) (S' := []) (σ' := (97, I, J, R)) rfl (fun _ => ?_) (fun hn => absurd (by decide) hn)
        refine az_E.sn 1 (pc' := 53) (L' := [.retAddr 0, .retAddr 0, .int v2, .retAddr 0, .int v4, .int v5, .ref 69, .ref 71]) (S' := [.ref 69]) (σ' := (97, I, J, R)) rfl ?_
        refine az_E.call (d := 1) (k' := 55) (vs := [.ref 69]) (pc' := 56) (S' := []) rfl ?_ (fun _ _ hq => hq)
        show az_E az_F ex 1 55 0 [.ref 69] [] (97, I, J, R) _
        refine az_E.sn 3 (pc' := 5) (L' := [.ref 69]) (S' := [.int (-1 : Int32), .int (I 69 1)]) (σ' := (97, I, J, R)) rfl ?_
        refine az_E.br (c := (I 69 1) = (-1 : Int32)) (tt := 12) (ff := 8) (L' := [.ref 69]) (S' := []) (σ' := (97, I, J, R)) rfl (fun hc_1593 => ?_) (fun hc_1593 => ?_)
        · rw [if_pos hc_1593] at h
          refine az_E.sn 1 (pc' := 13) (L' := [.ref 69]) (S' := [.int (0 : Int32)]) (σ' := (97, I, J, R)) rfl ?_
          refine az_E.ret (v := some (.int (0 : Int32))) (σ' := (97, I, J, R)) rfl ?_
          show az_E az_F ex 2 128 56 [.retAddr 0, .retAddr 0, .int v2, .retAddr 0, .int v4, .int v5, .ref 69, .ref 71] [.int (0 : Int32)] (97, I, J, R) _
          refine az_E.br (c := (0 : Int32) = 0) (tt := 72) (ff := 59) (L' := [.retAddr 0, .retAddr 0, .int v2, .retAddr 0, .int v4, .int v5, .ref 69, .ref 71]) (S' := []) (σ' := (97, I, J, R)) rfl (fun _ => ?_) (fun hn => absurd (by decide) hn)
          refine az_E.sn 1 (pc' := 74) (L' := [.retAddr 0, .retAddr 0, .int v2, .retAddr 0, .int v4, .int v5, .ref 69, .ref 71]) (S' := [.int (-12 : Int32)]) (σ' := (97, I, J, R)) rfl ?_
          have h := Option.some.inj h
          subst h
          exact az_E.ret (v := some (.int (-12 : Int32))) (σ' := (97, I, J, R)) rfl hQ
        · rw [if_neg hc_1593] at h
          refine az_E.sn 2 (pc' := 13) (L' := [.ref 69]) (S' := [.int (1 : Int32)]) (σ' := (97, I, J, R)) rfl ?_
          refine az_E.ret (v := some (.int (1 : Int32))) (σ' := (97, I, J, R)) rfl ?_
          show az_E az_F ex 2 128 56 [.retAddr 0, .retAddr 0, .int v2, .retAddr 0, .int v4, .int v5, .ref 69, .ref 71] [.int (1 : Int32)] (97, I, J, R) _
          refine az_E.br (c := (1 : Int32) = 0) (tt := 72) (ff := 59) (L' := [.retAddr 0, .retAddr 0, .int v2, .retAddr 0, .int v4, .int v5, .ref 69, .ref 71]) (S' := []) (σ' := (97, I, J, R)) rfl (fun hn => absurd hn (by decide)) (fun _ => ?_)
          refine az_E.sn 3 (pc' := 66) (L' := [.retAddr 0, .retAddr 0, .int v2, .retAddr 0, .int v4, .int v5, .ref 69, .ref 71]) (S' := [.int (I 69 1), .ref 71]) (σ' := (97, I, J, R)) rfl ?_
          refine az_E.call (d := 1) (k' := 56) (vs := [.ref 71, .int (I 69 1)]) (pc' := 69) (S' := []) rfl ?_ (fun _ _ hq => hq)
          show az_E az_F ex 1 56 0 [.ref 71, .int (I 69 1)] [] (97, I, J, R) _
          refine az_E.sn 1 (pc' := 1) (L' := [.ref 71, .int (I 69 1)]) (S' := [.ref 71]) (σ' := (97, I, J, R)) rfl ?_
          refine az_E.call (d := 0) (k' := 55) (vs := [.ref 71]) (pc' := 4) (S' := []) rfl ?_ (fun _ _ hq => hq)
          show az_E az_F ex 0 55 0 [.ref 71] [] (97, I, J, R) _
          refine az_E.sn 3 (pc' := 5) (L' := [.ref 71]) (S' := [.int (-1 : Int32), .int (I 71 1)]) (σ' := (97, I, J, R)) rfl ?_
          refine az_E.br (c := (I 71 1) = (-1 : Int32)) (tt := 12) (ff := 8) (L' := [.ref 71]) (S' := []) (σ' := (97, I, J, R)) rfl (fun hc_1594 => ?_) (fun hc_1594 => ?_)
          · rw [if_pos hc_1594] at h
            refine az_E.sn 1 (pc' := 13) (L' := [.ref 71]) (S' := [.int (0 : Int32)]) (σ' := (97, I, J, R)) rfl ?_
            refine az_E.ret (v := some (.int (0 : Int32))) (σ' := (97, I, J, R)) rfl ?_
            show az_E az_F ex 1 56 4 [.ref 71, .int (I 69 1)] [.int (0 : Int32)] (97, I, J, R) _
            refine az_E.br (c := (0 : Int32) = 0) (tt := 19) (ff := 7) (L' := [.ref 71, .int (I 69 1)]) (S' := []) (σ' := (97, I, J, R)) rfl (fun _ => ?_) (fun hn => absurd (by decide) hn)
            refine az_E.sn 1 (pc' := 20) (L' := [.ref 71, .int (I 69 1)]) (S' := [.int (0 : Int32)]) (σ' := (97, I, J, R)) rfl ?_
            refine az_E.ret (v := some (.int (0 : Int32))) (σ' := (97, I, J, R)) rfl ?_
            show az_E az_F ex 2 128 69 [.retAddr 0, .retAddr 0, .int v2, .retAddr 0, .int v4, .int v5, .ref 69, .ref 71] [.int (0 : Int32)] (97, I, J, R) _
            refine az_E.br (c := (0 : Int32) = 0) (tt := 72) (ff := 75) (L' := [.retAddr 0, .retAddr 0, .int v2, .retAddr 0, .int v4, .int v5, .ref 69, .ref 71]) (S' := []) (σ' := (97, I, J, R)) rfl (fun _ => ?_) (fun hn => absurd (by decide) hn)
            refine az_E.sn 1 (pc' := 74) (L' := [.retAddr 0, .retAddr 0, .int v2, .retAddr 0, .int v4, .int v5, .ref 69, .ref 71]) (S' := [.int (-12 : Int32)]) (σ' := (97, I, J, R)) rfl ?_
            have h := Option.some.inj h
            subst h
            exact az_E.ret (v := some (.int (-12 : Int32))) (σ' := (97, I, J, R)) rfl hQ
          · rw [if_neg hc_1594] at h
            refine az_E.sn 2 (pc' := 13) (L' := [.ref 71]) (S' := [.int (1 : Int32)]) (σ' := (97, I, J, R)) rfl ?_
            refine az_E.ret (v := some (.int (1 : Int32))) (σ' := (97, I, J, R)) rfl ?_
            show az_E az_F ex 1 56 4 [.ref 71, .int (I 69 1)] [.int (1 : Int32)] (97, I, J, R) _
            refine az_E.br (c := (1 : Int32) = 0) (tt := 19) (ff := 7) (L' := [.ref 71, .int (I 69 1)]) (S' := []) (σ' := (97, I, J, R)) rfl (fun hn => absurd hn (by decide)) (fun _ => ?_)
            refine az_E.sn 3 (pc' := 12) (L' := [.ref 71, .int (I 69 1)]) (S' := [.int (I 69 1), .int (I 71 1)]) (σ' := (97, I, J, R)) rfl ?_
            refine az_E.br (c := (I 71 1) = (I 69 1)) (tt := 15) (ff := 19) (L' := [.ref 71, .int (I 69 1)]) (S' := []) (σ' := (97, I, J, R)) rfl (fun hc_1595 => ?_) (fun hc_1595 => ?_)
            · rw [if_pos hc_1595] at h
              refine az_E.sn 2 (pc' := 20) (L' := [.ref 71, .int (I 69 1)]) (S' := [.int (1 : Int32)]) (σ' := (97, I, J, R)) rfl ?_
              refine az_E.ret (v := some (.int (1 : Int32))) (σ' := (97, I, J, R)) rfl ?_
              show az_E az_F ex 2 128 69 [.retAddr 0, .retAddr 0, .int v2, .retAddr 0, .int v4, .int v5, .ref 69, .ref 71] [.int (1 : Int32)] (97, I, J, R) _
              refine az_E.br (c := (1 : Int32) = 0) (tt := 72) (ff := 75) (L' := [.retAddr 0, .retAddr 0, .int v2, .retAddr 0, .int v4, .int v5, .ref 69, .ref 71]) (S' := []) (σ' := (97, I, J, R)) rfl (fun hn => absurd hn (by decide)) (fun _ => ?_)
              refine az_E.sn 3 (pc' := 80) (L' := [.retAddr 0, .retAddr 0, .int v2, .retAddr 0, .int v4, .int v5, .ref 69, .ref 71]) (S' := [.int v5, .int v2, .ref 69]) (σ' := (97, I, J, R)) rfl ?_
              refine az_E.call (d := 1) (k' := 60) (vs := [.ref 69, .int v2, .int v5]) (pc' := 83) (S' := []) rfl ?_ (fun _ _ hq => hq)
              show az_E az_F ex 1 60 0 [.ref 69, .int v2, .int v5] [] (97, I, J, R) _
              refine az_E.sn 1 (pc' := 1) (L' := [.ref 69, .int v2, .int v5]) (S' := [.int v2]) (σ' := (97, I, J, R)) rfl ?_
              refine az_E.br (c := v2 < 0) (tt := 30) (ff := 4) (L' := [.ref 69, .int v2, .int v5]) (S' := []) (σ' := (97, I, J, R)) rfl (fun hc_1596 => ?_) (fun hc_1596 => ?_)
              · rw [if_pos hc_1596] at h
                refine az_E.sn 1 (pc' := 31) (L' := [.ref 69, .int v2, .int v5]) (S' := [.int (0 : Int32)]) (σ' := (97, I, J, R)) rfl ?_
                refine az_E.ret (v := some (.int (0 : Int32))) (σ' := (97, I, J, R)) rfl ?_
                show az_E az_F ex 2 128 83 [.retAddr 0, .retAddr 0, .int v2, .retAddr 0, .int v4, .int v5, .ref 69, .ref 71] [.int (0 : Int32)] (97, I, J, R) _
                refine az_E.br (c := (0 : Int32) = 0) (tt := 98) (ff := 86) (L' := [.retAddr 0, .retAddr 0, .int v2, .retAddr 0, .int v4, .int v5, .ref 69, .ref 71]) (S' := []) (σ' := (97, I, J, R)) rfl (fun _ => ?_) (fun hn => absurd (by decide) hn)
                refine az_E.sn 1 (pc' := 100) (L' := [.retAddr 0, .retAddr 0, .int v2, .retAddr 0, .int v4, .int v5, .ref 69, .ref 71]) (S' := [.int (-13 : Int32)]) (σ' := (97, I, J, R)) rfl ?_
                have h := Option.some.inj h
                subst h
                exact az_E.ret (v := some (.int (-13 : Int32))) (σ' := (97, I, J, R)) rfl hQ
              · rw [if_neg hc_1596] at h
                refine az_E.sn 1 (pc' := 5) (L' := [.ref 69, .int v2, .int v5]) (S' := [.int v5]) (σ' := (97, I, J, R)) rfl ?_
                refine az_E.br (c := v5 < 0) (tt := 30) (ff := 8) (L' := [.ref 69, .int v2, .int v5]) (S' := []) (σ' := (97, I, J, R)) rfl (fun hc_1597 => ?_) (fun hc_1597 => ?_)
                · rw [if_pos hc_1597] at h
                  refine az_E.sn 1 (pc' := 31) (L' := [.ref 69, .int v2, .int v5]) (S' := [.int (0 : Int32)]) (σ' := (97, I, J, R)) rfl ?_
                  refine az_E.ret (v := some (.int (0 : Int32))) (σ' := (97, I, J, R)) rfl ?_
                  show az_E az_F ex 2 128 83 [.retAddr 0, .retAddr 0, .int v2, .retAddr 0, .int v4, .int v5, .ref 69, .ref 71] [.int (0 : Int32)] (97, I, J, R) _
                  refine az_E.br (c := (0 : Int32) = 0) (tt := 98) (ff := 86) (L' := [.retAddr 0, .retAddr 0, .int v2, .retAddr 0, .int v4, .int v5, .ref 69, .ref 71]) (S' := []) (σ' := (97, I, J, R)) rfl (fun _ => ?_) (fun hn => absurd (by decide) hn)
                  refine az_E.sn 1 (pc' := 100) (L' := [.retAddr 0, .retAddr 0, .int v2, .retAddr 0, .int v4, .int v5, .ref 69, .ref 71]) (S' := [.int (-13 : Int32)]) (σ' := (97, I, J, R)) rfl ?_
                  have h := Option.some.inj h
                  subst h
                  exact az_E.ret (v := some (.int (-13 : Int32))) (σ' := (97, I, J, R)) rfl hQ
                · rw [if_neg hc_1597] at h
                  refine az_E.sn 3 (pc' := 13) (L' := [.ref 69, .int v2, .int v5]) (S' := [.int (I 69 2), .int v2]) (σ' := (97, I, J, R)) rfl ?_
                  refine az_E.br (c := (I 69 2) < v2) (tt := 30) (ff := 16) (L' := [.ref 69, .int v2, .int v5]) (S' := []) (σ' := (97, I, J, R)) rfl (fun hc_1598 => ?_) (fun hc_1598 => ?_)
                  · rw [if_pos hc_1598] at h
                    refine az_E.sn 1 (pc' := 31) (L' := [.ref 69, .int v2, .int v5]) (S' := [.int (0 : Int32)]) (σ' := (97, I, J, R)) rfl ?_
                    refine az_E.ret (v := some (.int (0 : Int32))) (σ' := (97, I, J, R)) rfl ?_
                    show az_E az_F ex 2 128 83 [.retAddr 0, .retAddr 0, .int v2, .retAddr 0, .int v4, .int v5, .ref 69, .ref 71] [.int (0 : Int32)] (97, I, J, R) _
                    refine az_E.br (c := (0 : Int32) = 0) (tt := 98) (ff := 86) (L' := [.retAddr 0, .retAddr 0, .int v2, .retAddr 0, .int v4, .int v5, .ref 69, .ref 71]) (S' := []) (σ' := (97, I, J, R)) rfl (fun _ => ?_) (fun hn => absurd (by decide) hn)
                    refine az_E.sn 1 (pc' := 100) (L' := [.retAddr 0, .retAddr 0, .int v2, .retAddr 0, .int v4, .int v5, .ref 69, .ref 71]) (S' := [.int (-13 : Int32)]) (σ' := (97, I, J, R)) rfl ?_
                    have h := Option.some.inj h
                    subst h
                    exact az_E.ret (v := some (.int (-13 : Int32))) (σ' := (97, I, J, R)) rfl hQ
                  · rw [if_neg hc_1598] at h
                    refine az_E.sn 5 (pc' := 23) (L' := [.ref 69, .int v2, .int v5]) (S' := [.int ((I 69 2) - v2), .int v5]) (σ' := (97, I, J, R)) rfl ?_
                    refine az_E.br (c := ((I 69 2) - v2) < v5) (tt := 30) (ff := 26) (L' := [.ref 69, .int v2, .int v5]) (S' := []) (σ' := (97, I, J, R)) rfl (fun hc_1599 => ?_) (fun hc_1599 => ?_)
                    · rw [if_pos hc_1599] at h
                      refine az_E.sn 1 (pc' := 31) (L' := [.ref 69, .int v2, .int v5]) (S' := [.int (0 : Int32)]) (σ' := (97, I, J, R)) rfl ?_
                      refine az_E.ret (v := some (.int (0 : Int32))) (σ' := (97, I, J, R)) rfl ?_
                      show az_E az_F ex 2 128 83 [.retAddr 0, .retAddr 0, .int v2, .retAddr 0, .int v4, .int v5, .ref 69, .ref 71] [.int (0 : Int32)] (97, I, J, R) _
                      refine az_E.br (c := (0 : Int32) = 0) (tt := 98) (ff := 86) (L' := [.retAddr 0, .retAddr 0, .int v2, .retAddr 0, .int v4, .int v5, .ref 69, .ref 71]) (S' := []) (σ' := (97, I, J, R)) rfl (fun _ => ?_) (fun hn => absurd (by decide) hn)
                      refine az_E.sn 1 (pc' := 100) (L' := [.retAddr 0, .retAddr 0, .int v2, .retAddr 0, .int v4, .int v5, .ref 69, .ref 71]) (S' := [.int (-13 : Int32)]) (σ' := (97, I, J, R)) rfl ?_
                      have h := Option.some.inj h
                      subst h
                      exact az_E.ret (v := some (.int (-13 : Int32))) (σ' := (97, I, J, R)) rfl hQ
                    · rw [if_neg hc_1599] at h
                      refine az_E.sn 2 (pc' := 31) (L' := [.ref 69, .int v2, .int v5]) (S' := [.int (1 : Int32)]) (σ' := (97, I, J, R)) rfl ?_
                      refine az_E.ret (v := some (.int (1 : Int32))) (σ' := (97, I, J, R)) rfl ?_
                      show az_E az_F ex 2 128 83 [.retAddr 0, .retAddr 0, .int v2, .retAddr 0, .int v4, .int v5, .ref 69, .ref 71] [.int (1 : Int32)] (97, I, J, R) _
                      refine az_E.br (c := (1 : Int32) = 0) (tt := 98) (ff := 86) (L' := [.retAddr 0, .retAddr 0, .int v2, .retAddr 0, .int v4, .int v5, .ref 69, .ref 71]) (S' := []) (σ' := (97, I, J, R)) rfl (fun hn => absurd hn (by decide)) (fun _ => ?_)
                      refine az_E.sn 3 (pc' := 92) (L' := [.retAddr 0, .retAddr 0, .int v2, .retAddr 0, .int v4, .int v5, .ref 69, .ref 71]) (S' := [.int v5, .int v4, .ref 71]) (σ' := (97, I, J, R)) rfl ?_
                      refine az_E.call (d := 1) (k' := 60) (vs := [.ref 71, .int v4, .int v5]) (pc' := 95) (S' := []) rfl ?_ (fun _ _ hq => hq)
                      show az_E az_F ex 1 60 0 [.ref 71, .int v4, .int v5] [] (97, I, J, R) _
                      refine az_E.sn 1 (pc' := 1) (L' := [.ref 71, .int v4, .int v5]) (S' := [.int v4]) (σ' := (97, I, J, R)) rfl ?_
                      refine az_E.br (c := v4 < 0) (tt := 30) (ff := 4) (L' := [.ref 71, .int v4, .int v5]) (S' := []) (σ' := (97, I, J, R)) rfl (fun hc_1600 => ?_) (fun hc_1600 => ?_)
                      · rw [if_pos hc_1600] at h
                        refine az_E.sn 1 (pc' := 31) (L' := [.ref 71, .int v4, .int v5]) (S' := [.int (0 : Int32)]) (σ' := (97, I, J, R)) rfl ?_
                        refine az_E.ret (v := some (.int (0 : Int32))) (σ' := (97, I, J, R)) rfl ?_
                        show az_E az_F ex 2 128 95 [.retAddr 0, .retAddr 0, .int v2, .retAddr 0, .int v4, .int v5, .ref 69, .ref 71] [.int (0 : Int32)] (97, I, J, R) _
                        refine az_E.br (c := (0 : Int32) = 0) (tt := 98) (ff := 101) (L' := [.retAddr 0, .retAddr 0, .int v2, .retAddr 0, .int v4, .int v5, .ref 69, .ref 71]) (S' := []) (σ' := (97, I, J, R)) rfl (fun _ => ?_) (fun hn => absurd (by decide) hn)
                        refine az_E.sn 1 (pc' := 100) (L' := [.retAddr 0, .retAddr 0, .int v2, .retAddr 0, .int v4, .int v5, .ref 69, .ref 71]) (S' := [.int (-13 : Int32)]) (σ' := (97, I, J, R)) rfl ?_
                        have h := Option.some.inj h
                        subst h
                        exact az_E.ret (v := some (.int (-13 : Int32))) (σ' := (97, I, J, R)) rfl hQ
                      · rw [if_neg hc_1600] at h
                        refine az_E.sn 1 (pc' := 5) (L' := [.ref 71, .int v4, .int v5]) (S' := [.int v5]) (σ' := (97, I, J, R)) rfl ?_
                        refine az_E.br (c := v5 < 0) (tt := 30) (ff := 8) (L' := [.ref 71, .int v4, .int v5]) (S' := []) (σ' := (97, I, J, R)) rfl (fun hc_1601 => ?_) (fun hc_1601 => ?_)
                        · rw [if_pos hc_1601] at h
                          refine az_E.sn 1 (pc' := 31) (L' := [.ref 71, .int v4, .int v5]) (S' := [.int (0 : Int32)]) (σ' := (97, I, J, R)) rfl ?_
                          refine az_E.ret (v := some (.int (0 : Int32))) (σ' := (97, I, J, R)) rfl ?_
                          show az_E az_F ex 2 128 95 [.retAddr 0, .retAddr 0, .int v2, .retAddr 0, .int v4, .int v5, .ref 69, .ref 71] [.int (0 : Int32)] (97, I, J, R) _
                          refine az_E.br (c := (0 : Int32) = 0) (tt := 98) (ff := 101) (L' := [.retAddr 0, .retAddr 0, .int v2, .retAddr 0, .int v4, .int v5, .ref 69, .ref 71]) (S' := []) (σ' := (97, I, J, R)) rfl (fun _ => ?_) (fun hn => absurd (by decide) hn)
                          refine az_E.sn 1 (pc' := 100) (L' := [.retAddr 0, .retAddr 0, .int v2, .retAddr 0, .int v4, .int v5, .ref 69, .ref 71]) (S' := [.int (-13 : Int32)]) (σ' := (97, I, J, R)) rfl ?_
                          have h := Option.some.inj h
                          subst h
                          exact az_E.ret (v := some (.int (-13 : Int32))) (σ' := (97, I, J, R)) rfl hQ
                        · rw [if_neg hc_1601] at h
                          refine az_E.sn 3 (pc' := 13) (L' := [.ref 71, .int v4, .int v5]) (S' := [.int (I 71 2), .int v4]) (σ' := (97, I, J, R)) rfl ?_
                          refine az_E.br (c := (I 71 2) < v4) (tt := 30) (ff := 16) (L' := [.ref 71, .int v4, .int v5]) (S' := []) (σ' := (97, I, J, R)) rfl (fun hc_1602 => ?_) (fun hc_1602 => ?_)
                          · rw [if_pos hc_1602] at h
                            refine az_E.sn 1 (pc' := 31) (L' := [.ref 71, .int v4, .int v5]) (S' := [.int (0 : Int32)]) (σ' := (97, I, J, R)) rfl ?_
                            refine az_E.ret (v := some (.int (0 : Int32))) (σ' := (97, I, J, R)) rfl ?_
                            show az_E az_F ex 2 128 95 [.retAddr 0, .retAddr 0, .int v2, .retAddr 0, .int v4, .int v5, .ref 69, .ref 71] [.int (0 : Int32)] (97, I, J, R) _
                            refine az_E.br (c := (0 : Int32) = 0) (tt := 98) (ff := 101) (L' := [.retAddr 0, .retAddr 0, .int v2, .retAddr 0, .int v4, .int v5, .ref 69, .ref 71]) (S' := []) (σ' := (97, I, J, R)) rfl (fun _ => ?_) (fun hn => absurd (by decide) hn)
                            refine az_E.sn 1 (pc' := 100) (L' := [.retAddr 0, .retAddr 0, .int v2, .retAddr 0, .int v4, .int v5, .ref 69, .ref 71]) (S' := [.int (-13 : Int32)]) (σ' := (97, I, J, R)) rfl ?_
                            have h := Option.some.inj h
                            subst h
                            exact az_E.ret (v := some (.int (-13 : Int32))) (σ' := (97, I, J, R)) rfl hQ
                          · rw [if_neg hc_1602] at h
                            refine az_E.sn 5 (pc' := 23) (L' := [.ref 71, .int v4, .int v5]) (S' := [.int ((I 71 2) - v4), .int v5]) (σ' := (97, I, J, R)) rfl ?_
                            refine az_E.br (c := ((I 71 2) - v4) < v5) (tt := 30) (ff := 26) (L' := [.ref 71, .int v4, .int v5]) (S' := []) (σ' := (97, I, J, R)) rfl (fun hc_1603 => ?_) (fun hc_1603 => ?_)
                            · rw [if_pos hc_1603] at h
                              refine az_E.sn 1 (pc' := 31) (L' := [.ref 71, .int v4, .int v5]) (S' := [.int (0 : Int32)]) (σ' := (97, I, J, R)) rfl ?_
                              refine az_E.ret (v := some (.int (0 : Int32))) (σ' := (97, I, J, R)) rfl ?_
                              show az_E az_F ex 2 128 95 [.retAddr 0, .retAddr 0, .int v2, .retAddr 0, .int v4, .int v5, .ref 69, .ref 71] [.int (0 : Int32)] (97, I, J, R) _
                              refine az_E.br (c := (0 : Int32) = 0) (tt := 98) (ff := 101) (L' := [.retAddr 0, .retAddr 0, .int v2, .retAddr 0, .int v4, .int v5, .ref 69, .ref 71]) (S' := []) (σ' := (97, I, J, R)) rfl (fun _ => ?_) (fun hn => absurd (by decide) hn)
                              refine az_E.sn 1 (pc' := 100) (L' := [.retAddr 0, .retAddr 0, .int v2, .retAddr 0, .int v4, .int v5, .ref 69, .ref 71]) (S' := [.int (-13 : Int32)]) (σ' := (97, I, J, R)) rfl ?_
                              have h := Option.some.inj h
                              subst h
                              exact az_E.ret (v := some (.int (-13 : Int32))) (σ' := (97, I, J, R)) rfl hQ
                            · rw [if_neg hc_1603] at h
                              refine az_E.sn 2 (pc' := 31) (L' := [.ref 71, .int v4, .int v5]) (S' := [.int (1 : Int32)]) (σ' := (97, I, J, R)) rfl ?_
                              refine az_E.ret (v := some (.int (1 : Int32))) (σ' := (97, I, J, R)) rfl ?_
                              show az_E az_F ex 2 128 95 [.retAddr 0, .retAddr 0, .int v2, .retAddr 0, .int v4, .int v5, .ref 69, .ref 71] [.int (1 : Int32)] (97, I, J, R) _
                              refine az_E.br (c := (1 : Int32) = 0) (tt := 98) (ff := 101) (L' := [.retAddr 0, .retAddr 0, .int v2, .retAddr 0, .int v4, .int v5, .ref 69, .ref 71]) (S' := []) (σ' := (97, I, J, R)) rfl (fun hn => absurd hn (by decide)) (fun _ => ?_)
                              refine az_E.sn 7 (pc' := 116) (L' := [.retAddr 0, .retAddr 0, .int v2, .retAddr 0, .int v4, .int v5, .ref 69, .ref 71]) (S' := [.int v5, .int v4, .ref (71 + 1), .int v2, .ref (69 + 1)]) (σ' := (97, I, J, R)) rfl ?_
                              by_cases hc_1604 : v2 < 0 ∨ v4 < 0 ∨ v5 < 0 ∨ 60 < v2.toNatClampNeg + v5.toNatClampNeg ∨ 60 < v4.toNatClampNeg + v5.toNatClampNeg
                              · rw [if_pos hc_1604] at h; cases h
                              · rw [if_neg hc_1604] at h
                                refine az_E.o (o := az_cp az_F (97, I, J, R) (69 + 1) v2 (71 + 1) v4 v5) (pc' := 119) (L' := [.retAddr 0, .retAddr 0, .int v2, .retAddr 0, .int v4, .int v5, .ref 69, .ref 71]) (S' := []) (x := (97, I, (az_ur J (71 + 1) (va_cpy (J (69 + 1)) (J (71 + 1)) v2.toNatClampNeg v4.toNatClampNeg v5.toNatClampNeg)), R)) rfl (if_neg hc_1604) ?_
                                refine az_E.sn 1 (pc' := 121) (L' := [.retAddr 0, .retAddr 0, .int v2, .retAddr 0, .int v4, .int v5, .ref 69, .ref 71]) (S' := [.int v5]) (σ' := (97, I, (az_ur J (71 + 1) (va_cpy (J (69 + 1)) (J (71 + 1)) v2.toNatClampNeg v4.toNatClampNeg v5.toNatClampNeg)), R)) rfl ?_
                                have h := Option.some.inj h
                                subst h
                                exact az_E.ret (v := some (.int v5)) (σ' := (97, I, (az_ur J (71 + 1) (va_cpy (J (69 + 1)) (J (71 + 1)) v2.toNatClampNeg v4.toNatClampNeg v5.toNatClampNeg)), R)) rfl hQ
            · rw [if_neg hc_1595] at h
              refine az_E.sn 1 (pc' := 20) (L' := [.ref 71, .int (I 69 1)]) (S' := [.int (0 : Int32)]) (σ' := (97, I, J, R)) rfl ?_
              refine az_E.ret (v := some (.int (0 : Int32))) (σ' := (97, I, J, R)) rfl ?_
              show az_E az_F ex 2 128 69 [.retAddr 0, .retAddr 0, .int v2, .retAddr 0, .int v4, .int v5, .ref 69, .ref 71] [.int (0 : Int32)] (97, I, J, R) _
              refine az_E.br (c := (0 : Int32) = 0) (tt := 72) (ff := 75) (L' := [.retAddr 0, .retAddr 0, .int v2, .retAddr 0, .int v4, .int v5, .ref 69, .ref 71]) (S' := []) (σ' := (97, I, J, R)) rfl (fun _ => ?_) (fun hn => absurd (by decide) hn)
              refine az_E.sn 1 (pc' := 74) (L' := [.retAddr 0, .retAddr 0, .int v2, .retAddr 0, .int v4, .int v5, .ref 69, .ref 71]) (S' := [.int (-12 : Int32)]) (σ' := (97, I, J, R)) rfl ?_
              have h := Option.some.inj h
              subst h
              exact az_E.ret (v := some (.int (-12 : Int32))) (σ' := (97, I, J, R)) rfl hQ
  · rw [if_neg hc_1577] at h
    refine az_E.sn 1 (pc' := 21) (L' := [.ref 69]) (S' := [.int (0 : Int32)]) (σ' := (97, I, J, R)) rfl ?_
    refine az_E.ret (v := some (.int (0 : Int32))) (σ' := (97, I, J, R)) rfl ?_
    show az_E az_F ex 2 128 37 [.retAddr 0, .retAddr 0, .int v2, .retAddr 0, .int v4, .int v5, .ref 69, .ref 71] [.int (0 : Int32)] (97, I, J, R) _
    refine az_E.br (c := (0 : Int32) = 0) (tt := 40) (ff := 48) (L' := [.retAddr 0, .retAddr 0, .int v2, .retAddr 0, .int v4, .int v5, .ref 69, .ref 71]) (S' := []) (σ' := (97, I, J, R)) rfl (fun _ => ?_) (fun hn => absurd (by decide) hn)
    refine az_E.sn 1 (pc' := 42) (L' := [.retAddr 0, .retAddr 0, .int v2, .retAddr 0, .int v4, .int v5, .ref 69, .ref 71]) (S' := [.ref 71]) (σ' := (97, I, J, R)) rfl ?_
    refine az_E.call (d := 1) (k' := 54) (vs := [.ref 71]) (pc' := 45) (S' := []) rfl ?_ (fun _ _ hq => hq)
    show az_E az_F ex 1 54 0 [.ref 71] [] (97, I, J, R) _
    refine az_E.sn 3 (pc' := 5) (L' := [.ref 71]) (S' := [.int (-1 : Int32), .int (I 71 0)]) (σ' := (97, I, J, R)) rfl ?_
    refine az_E.br (c := (I 71 0) = (-1 : Int32)) (tt := 8) (ff := 20) (L' := [.ref 71]) (S' := []) (σ' := (97, I, J, R)) rfl (fun hc_1605 => ?_) (fun hc_1605 => ?_)
    · rw [if_pos hc_1605] at h
      refine az_E.sn 3 (pc' := 13) (L' := [.ref 71]) (S' := [.int (-1 : Int32), .int (I 71 1)]) (σ' := (97, I, J, R)) rfl ?_
      refine az_E.br (c := (I 71 1) = (-1 : Int32)) (tt := 16) (ff := 20) (L' := [.ref 71]) (S' := []) (σ' := (97, I, J, R)) rfl (fun hc_1606 => ?_) (fun hc_1606 => ?_)
      · rw [if_pos hc_1606] at h
        refine az_E.sn 2 (pc' := 21) (L' := [.ref 71]) (S' := [.int (1 : Int32)]) (σ' := (97, I, J, R)) rfl ?_
        refine az_E.ret (v := some (.int (1 : Int32))) (σ' := (97, I, J, R)) rfl ?_
        show az_E az_F ex 2 128 45 [.retAddr 0, .retAddr 0, .int v2, .retAddr 0, .int v4, .int v5, .ref 69, .ref 71] [.int (1 : Int32)] (97, I, J, R) _
        refine az_E.br (c := (1 : Int32) = 0) (tt := 51) (ff := 48) (L' := [.retAddr 0, .retAddr 0, .int v2, .retAddr 0, .int v4, .int v5, .ref 69, .ref 71]) (S' := []) (σ' := (97, I, J, R)) rfl (fun hn => absurd hn (by decide)) (fun _ => ?_)
        refine az_E.sn 1 (pc' := 50) (L' := [.retAddr 0, .retAddr 0, .int v2, .retAddr 0, .int v4, .int v5, .ref 69, .ref 71]) (S' := [.int (-11 : Int32)]) (σ' := (97, I, J, R)) rfl ?_
        have h := Option.some.inj h
        subst h
        exact az_E.ret (v := some (.int (-11 : Int32))) (σ' := (97, I, J, R)) rfl hQ
      · rw [if_neg hc_1606] at h
        refine az_E.sn 1 (pc' := 21) (L' := [.ref 71]) (S' := [.int (0 : Int32)]) (σ' := (97, I, J, R)) rfl ?_
        refine az_E.ret (v := some (.int (0 : Int32))) (σ' := (97, I, J, R)) rfl ?_
        show az_E az_F ex 2 128 45 [.retAddr 0, .retAddr 0, .int v2, .retAddr 0, .int v4, .int v5, .ref 69, .ref 71] [.int (0 : Int32)] (97, I, J, R) _
        refine az_E.br (c := (0 : Int32) = 0) (tt := 51) (ff := 48) (L' := [.retAddr 0, .retAddr 0, .int v2, .retAddr 0, .int v4, .int v5, .ref 69, .ref 71]) (S' := []) (σ' := (97, I, J, R)) rfl (fun _ => ?_) (fun hn => absurd (by decide) hn)
        refine az_E.sn 1 (pc' := 53) (L' := [.retAddr 0, .retAddr 0, .int v2, .retAddr 0, .int v4, .int v5, .ref 69, .ref 71]) (S' := [.ref 69]) (σ' := (97, I, J, R)) rfl ?_
        refine az_E.call (d := 1) (k' := 55) (vs := [.ref 69]) (pc' := 56) (S' := []) rfl ?_ (fun _ _ hq => hq)
        show az_E az_F ex 1 55 0 [.ref 69] [] (97, I, J, R) _
        refine az_E.sn 3 (pc' := 5) (L' := [.ref 69]) (S' := [.int (-1 : Int32), .int (I 69 1)]) (σ' := (97, I, J, R)) rfl ?_
        refine az_E.br (c := (I 69 1) = (-1 : Int32)) (tt := 12) (ff := 8) (L' := [.ref 69]) (S' := []) (σ' := (97, I, J, R)) rfl (fun hc_1607 => ?_) (fun hc_1607 => ?_)
        · rw [if_pos hc_1607] at h
          refine az_E.sn 1 (pc' := 13) (L' := [.ref 69]) (S' := [.int (0 : Int32)]) (σ' := (97, I, J, R)) rfl ?_
          refine az_E.ret (v := some (.int (0 : Int32))) (σ' := (97, I, J, R)) rfl ?_
          show az_E az_F ex 2 128 56 [.retAddr 0, .retAddr 0, .int v2, .retAddr 0, .int v4, .int v5, .ref 69, .ref 71] [.int (0 : Int32)] (97, I, J, R) _
          refine az_E.br (c := (0 : Int32) = 0) (tt := 72) (ff := 59) (L' := [.retAddr 0, .retAddr 0, .int v2, .retAddr 0, .int v4, .int v5, .ref 69, .ref 71]) (S' := []) (σ' := (97, I, J, R)) rfl (fun _ => ?_) (fun hn => absurd (by decide) hn)
          refine az_E.sn 1 (pc' := 74) (L' := [.retAddr 0, .retAddr 0, .int v2, .retAddr 0, .int v4, .int v5, .ref 69, .ref 71]) (S' := [.int (-12 : Int32)]) (σ' := (97, I, J, R)) rfl ?_
          have h := Option.some.inj h
          subst h
          exact az_E.ret (v := some (.int (-12 : Int32))) (σ' := (97, I, J, R)) rfl hQ
        · rw [if_neg hc_1607] at h
          refine az_E.sn 2 (pc' := 13) (L' := [.ref 69]) (S' := [.int (1 : Int32)]) (σ' := (97, I, J, R)) rfl ?_
          refine az_E.ret (v := some (.int (1 : Int32))) (σ' := (97, I, J, R)) rfl ?_
          show az_E az_F ex 2 128 56 [.retAddr 0, .retAddr 0, .int v2, .retAddr 0, .int v4, .int v5, .ref 69, .ref 71] [.int (1 : Int32)] (97, I, J, R) _
          refine az_E.br (c := (1 : Int32) = 0) (tt := 72) (ff := 59) (L' := [.retAddr 0, .retAddr 0, .int v2, .retAddr 0, .int v4, .int v5, .ref 69, .ref 71]) (S' := []) (σ' := (97, I, J, R)) rfl (fun hn => absurd hn (by decide)) (fun _ => ?_)
          refine az_E.sn 3 (pc' := 66) (L' := [.retAddr 0, .retAddr 0, .int v2, .retAddr 0, .int v4, .int v5, .ref 69, .ref 71]) (S' := [.int (I 69 1), .ref 71]) (σ' := (97, I, J, R)) rfl ?_
          refine az_E.call (d := 1) (k' := 56) (vs := [.ref 71, .int (I 69 1)]) (pc' := 69) (S' := []) rfl ?_ (fun _ _ hq => hq)
          show az_E az_F ex 1 56 0 [.ref 71, .int (I 69 1)] [] (97, I, J, R) _
          refine az_E.sn 1 (pc' := 1) (L' := [.ref 71, .int (I 69 1)]) (S' := [.ref 71]) (σ' := (97, I, J, R)) rfl ?_
          refine az_E.call (d := 0) (k' := 55) (vs := [.ref 71]) (pc' := 4) (S' := []) rfl ?_ (fun _ _ hq => hq)
          show az_E az_F ex 0 55 0 [.ref 71] [] (97, I, J, R) _
          refine az_E.sn 3 (pc' := 5) (L' := [.ref 71]) (S' := [.int (-1 : Int32), .int (I 71 1)]) (σ' := (97, I, J, R)) rfl ?_
          refine az_E.br (c := (I 71 1) = (-1 : Int32)) (tt := 12) (ff := 8) (L' := [.ref 71]) (S' := []) (σ' := (97, I, J, R)) rfl (fun hc_1608 => ?_) (fun hc_1608 => ?_)
          · rw [if_pos hc_1608] at h
            refine az_E.sn 1 (pc' := 13) (L' := [.ref 71]) (S' := [.int (0 : Int32)]) (σ' := (97, I, J, R)) rfl ?_
            refine az_E.ret (v := some (.int (0 : Int32))) (σ' := (97, I, J, R)) rfl ?_
            show az_E az_F ex 1 56 4 [.ref 71, .int (I 69 1)] [.int (0 : Int32)] (97, I, J, R) _
            refine az_E.br (c := (0 : Int32) = 0) (tt := 19) (ff := 7) (L' := [.ref 71, .int (I 69 1)]) (S' := []) (σ' := (97, I, J, R)) rfl (fun _ => ?_) (fun hn => absurd (by decide) hn)
            refine az_E.sn 1 (pc' := 20) (L' := [.ref 71, .int (I 69 1)]) (S' := [.int (0 : Int32)]) (σ' := (97, I, J, R)) rfl ?_
            refine az_E.ret (v := some (.int (0 : Int32))) (σ' := (97, I, J, R)) rfl ?_
            show az_E az_F ex 2 128 69 [.retAddr 0, .retAddr 0, .int v2, .retAddr 0, .int v4, .int v5, .ref 69, .ref 71] [.int (0 : Int32)] (97, I, J, R) _
            refine az_E.br (c := (0 : Int32) = 0) (tt := 72) (ff := 75) (L' := [.retAddr 0, .retAddr 0, .int v2, .retAddr 0, .int v4, .int v5, .ref 69, .ref 71]) (S' := []) (σ' := (97, I, J, R)) rfl (fun _ => ?_) (fun hn => absurd (by decide) hn)
            refine az_E.sn 1 (pc' := 74) (L' := [.retAddr 0, .retAddr 0, .int v2, .retAddr 0, .int v4, .int v5, .ref 69, .ref 71]) (S' := [.int (-12 : Int32)]) (σ' := (97, I, J, R)) rfl ?_
            have h := Option.some.inj h
            subst h
            exact az_E.ret (v := some (.int (-12 : Int32))) (σ' := (97, I, J, R)) rfl hQ
          · rw [if_neg hc_1608] at h
            refine az_E.sn 2 (pc' := 13) (L' := [.ref 71]) (S' := [.int (1 : Int32)]) (σ' := (97, I, J, R)) rfl ?_
            refine az_E.ret (v := some (.int (1 : Int32))) (σ' := (97, I, J, R)) rfl ?_
            show az_E az_F ex 1 56 4 [.ref 71, .int (I 69 1)] [.int (1 : Int32)] (97, I, J, R) _
            refine az_E.br (c := (1 : Int32) = 0) (tt := 19) (ff := 7) (L' := [.ref 71, .int (I 69 1)]) (S' := []) (σ' := (97, I, J, R)) rfl (fun hn => absurd hn (by decide)) (fun _ => ?_)
            refine az_E.sn 3 (pc' := 12) (L' := [.ref 71, .int (I 69 1)]) (S' := [.int (I 69 1), .int (I 71 1)]) (σ' := (97, I, J, R)) rfl ?_
            refine az_E.br (c := (I 71 1) = (I 69 1)) (tt := 15) (ff := 19) (L' := [.ref 71, .int (I 69 1)]) (S' := []) (σ' := (97, I, J, R)) rfl (fun hc_1609 => ?_) (fun hc_1609 => ?_)
            · rw [if_pos hc_1609] at h
              refine az_E.sn 2 (pc' := 20) (L' := [.ref 71, .int (I 69 1)]) (S' := [.int (1 : Int32)]) (σ' := (97, I, J, R)) rfl ?_
              refine az_E.ret (v := some (.int (1 : Int32))) (σ' := (97, I, J, R)) rfl ?_
              show az_E az_F ex 2 128 69 [.retAddr 0, .retAddr 0, .int v2, .retAddr 0, .int v4, .int v5, .ref 69, .ref 71] [.int (1 : Int32)] (97, I, J, R) _
              refine az_E.br (c := (1 : Int32) = 0) (tt := 72) (ff := 75) (L' := [.retAddr 0, .retAddr 0, .int v2, .retAddr 0, .int v4, .int v5, .ref 69, .ref 71]) (S' := []) (σ' := (97, I, J, R)) rfl (fun hn => absurd hn (by decide)) (fun _ => ?_)
              refine az_E.sn 3 (pc' := 80) (L' := [.retAddr 0, .retAddr 0, .int v2, .retAddr 0, .int v4, .int v5, .ref 69, .ref 71]) (S' := [.int v5, .int v2, .ref 69]) (σ' := (97, I, J, R)) rfl ?_
              refine az_E.call (d := 1) (k' := 60) (vs := [.ref 69, .int v2, .int v5]) (pc' := 83) (S' := []) rfl ?_ (fun _ _ hq => hq)
              show az_E az_F ex 1 60 0 [.ref 69, .int v2, .int v5] [] (97, I, J, R) _
              refine az_E.sn 1 (pc' := 1) (L' := [.ref 69, .int v2, .int v5]) (S' := [.int v2]) (σ' := (97, I, J, R)) rfl ?_
              refine az_E.br (c := v2 < 0) (tt := 30) (ff := 4) (L' := [.ref 69, .int v2, .int v5]) (S' := []) (σ' := (97, I, J, R)) rfl (fun hc_1610 => ?_) (fun hc_1610 => ?_)
              · rw [if_pos hc_1610] at h
                refine az_E.sn 1 (pc' := 31) (L' := [.ref 69, .int v2, .int v5]) (S' := [.int (0 : Int32)]) (σ' := (97, I, J, R)) rfl ?_
                refine az_E.ret (v := some (.int (0 : Int32))) (σ' := (97, I, J, R)) rfl ?_
                show az_E az_F ex 2 128 83 [.retAddr 0, .retAddr 0, .int v2, .retAddr 0, .int v4, .int v5, .ref 69, .ref 71] [.int (0 : Int32)] (97, I, J, R) _
                refine az_E.br (c := (0 : Int32) = 0) (tt := 98) (ff := 86) (L' := [.retAddr 0, .retAddr 0, .int v2, .retAddr 0, .int v4, .int v5, .ref 69, .ref 71]) (S' := []) (σ' := (97, I, J, R)) rfl (fun _ => ?_) (fun hn => absurd (by decide) hn)
                refine az_E.sn 1 (pc' := 100) (L' := [.retAddr 0, .retAddr 0, .int v2, .retAddr 0, .int v4, .int v5, .ref 69, .ref 71]) (S' := [.int (-13 : Int32)]) (σ' := (97, I, J, R)) rfl ?_
                have h := Option.some.inj h
                subst h
                exact az_E.ret (v := some (.int (-13 : Int32))) (σ' := (97, I, J, R)) rfl hQ
              · rw [if_neg hc_1610] at h
                refine az_E.sn 1 (pc' := 5) (L' := [.ref 69, .int v2, .int v5]) (S' := [.int v5]) (σ' := (97, I, J, R)) rfl ?_
                refine az_E.br (c := v5 < 0) (tt := 30) (ff := 8) (L' := [.ref 69, .int v2, .int v5]) (S' := []) (σ' := (97, I, J, R)) rfl (fun hc_1611 => ?_) (fun hc_1611 => ?_)
                · rw [if_pos hc_1611] at h
                  refine az_E.sn 1 (pc' := 31) (L' := [.ref 69, .int v2, .int v5]) (S' := [.int (0 : Int32)]) (σ' := (97, I, J, R)) rfl ?_
                  refine az_E.ret (v := some (.int (0 : Int32))) (σ' := (97, I, J, R)) rfl ?_
                  show az_E az_F ex 2 128 83 [.retAddr 0, .retAddr 0, .int v2, .retAddr 0, .int v4, .int v5, .ref 69, .ref 71] [.int (0 : Int32)] (97, I, J, R) _
                  refine az_E.br (c := (0 : Int32) = 0) (tt := 98) (ff := 86) (L' := [.retAddr 0, .retAddr 0, .int v2, .retAddr 0, .int v4, .int v5, .ref 69, .ref 71]) (S' := []) (σ' := (97, I, J, R)) rfl (fun _ => ?_) (fun hn => absurd (by decide) hn)
                  refine az_E.sn 1 (pc' := 100) (L' := [.retAddr 0, .retAddr 0, .int v2, .retAddr 0, .int v4, .int v5, .ref 69, .ref 71]) (S' := [.int (-13 : Int32)]) (σ' := (97, I, J, R)) rfl ?_
                  have h := Option.some.inj h
                  subst h
                  exact az_E.ret (v := some (.int (-13 : Int32))) (σ' := (97, I, J, R)) rfl hQ
                · rw [if_neg hc_1611] at h
                  refine az_E.sn 3 (pc' := 13) (L' := [.ref 69, .int v2, .int v5]) (S' := [.int (I 69 2), .int v2]) (σ' := (97, I, J, R)) rfl ?_
                  refine az_E.br (c := (I 69 2) < v2) (tt := 30) (ff := 16) (L' := [.ref 69, .int v2, .int v5]) (S' := []) (σ' := (97, I, J, R)) rfl (fun hc_1612 => ?_) (fun hc_1612 => ?_)
                  · rw [if_pos hc_1612] at h
                    refine az_E.sn 1 (pc' := 31) (L' := [.ref 69, .int v2, .int v5]) (S' := [.int (0 : Int32)]) (σ' := (97, I, J, R)) rfl ?_
                    refine az_E.ret (v := some (.int (0 : Int32))) (σ' := (97, I, J, R)) rfl ?_
                    show az_E az_F ex 2 128 83 [.retAddr 0, .retAddr 0, .int v2, .retAddr 0, .int v4, .int v5, .ref 69, .ref 71] [.int (0 : Int32)] (97, I, J, R) _
                    refine az_E.br (c := (0 : Int32) = 0) (tt := 98) (ff := 86) (L' := [.retAddr 0, .retAddr 0, .int v2, .retAddr 0, .int v4, .int v5, .ref 69, .ref 71]) (S' := []) (σ' := (97, I, J, R)) rfl (fun _ => ?_) (fun hn => absurd (by decide) hn)
                    refine az_E.sn 1 (pc' := 100) (L' := [.retAddr 0, .retAddr 0, .int v2, .retAddr 0, .int v4, .int v5, .ref 69, .ref 71]) (S' := [.int (-13 : Int32)]) (σ' := (97, I, J, R)) rfl ?_
                    have h := Option.some.inj h
                    subst h
                    exact az_E.ret (v := some (.int (-13 : Int32))) (σ' := (97, I, J, R)) rfl hQ
                  · rw [if_neg hc_1612] at h
                    refine az_E.sn 5 (pc' := 23) (L' := [.ref 69, .int v2, .int v5]) (S' := [.int ((I 69 2) - v2), .int v5]) (σ' := (97, I, J, R)) rfl ?_
                    refine az_E.br (c := ((I 69 2) - v2) < v5) (tt := 30) (ff := 26) (L' := [.ref 69, .int v2, .int v5]) (S' := []) (σ' := (97, I, J, R)) rfl (fun hc_1613 => ?_) (fun hc_1613 => ?_)
                    · rw [if_pos hc_1613] at h
                      refine az_E.sn 1 (pc' := 31) (L' := [.ref 69, .int v2, .int v5]) (S' := [.int (0 : Int32)]) (σ' := (97, I, J, R)) rfl ?_
                      refine az_E.ret (v := some (.int (0 : Int32))) (σ' := (97, I, J, R)) rfl ?_
                      show az_E az_F ex 2 128 83 [.retAddr 0, .retAddr 0, .int v2, .retAddr 0, .int v4, .int v5, .ref 69, .ref 71] [.int (0 : Int32)] (97, I, J, R) _
                      refine az_E.br (c := (0 : Int32) = 0) (tt := 98) (ff := 86) (L' := [.retAddr 0, .retAddr 0, .int v2, .retAddr 0, .int v4, .int v5, .ref 69, .ref 71]) (S' := []) (σ' := (97, I, J, R)) rfl (fun _ => ?_) (fun hn => absurd (by decide) hn)
                      refine az_E.sn 1 (pc' := 100) (L' := [.retAddr 0, .retAddr 0, .int v2, .retAddr 0, .int v4, .int v5, .ref 69, .ref 71]) (S' := [.int (-13 : Int32)]) (σ' := (97, I, J, R)) rfl ?_
                      have h := Option.some.inj h
                      subst h
                      exact az_E.ret (v := some (.int (-13 : Int32))) (σ' := (97, I, J, R)) rfl hQ
                    · rw [if_neg hc_1613] at h
                      refine az_E.sn 2 (pc' := 31) (L' := [.ref 69, .int v2, .int v5]) (S' := [.int (1 : Int32)]) (σ' := (97, I, J, R)) rfl ?_
                      refine az_E.ret (v := some (.int (1 : Int32))) (σ' := (97, I, J, R)) rfl ?_
                      show az_E az_F ex 2 128 83 [.retAddr 0, .retAddr 0, .int v2, .retAddr 0, .int v4, .int v5, .ref 69, .ref 71] [.int (1 : Int32)] (97, I, J, R) _
                      refine az_E.br (c := (1 : Int32) = 0) (tt := 98) (ff := 86) (L' := [.retAddr 0, .retAddr 0, .int v2, .retAddr 0, .int v4, .int v5, .ref 69, .ref 71]) (S' := []) (σ' := (97, I, J, R)) rfl (fun hn => absurd hn (by decide)) (fun _ => ?_)
                      refine az_E.sn 3 (pc' := 92) (L' := [.retAddr 0, .retAddr 0, .int v2, .retAddr 0, .int v4, .int v5, .ref 69, .ref 71]) (S' := [.int v5, .int v4, .ref 71]) (σ' := (97, I, J, R)) rfl ?_
                      refine az_E.call (d := 1) (k' := 60) (vs := [.ref 71, .int v4, .int v5]) (pc' := 95) (S' := []) rfl ?_ (fun _ _ hq => hq)
                      show az_E az_F ex 1 60 0 [.ref 71, .int v4, .int v5] [] (97, I, J, R) _
                      refine az_E.sn 1 (pc' := 1) (L' := [.ref 71, .int v4, .int v5]) (S' := [.int v4]) (σ' := (97, I, J, R)) rfl ?_
                      refine az_E.br (c := v4 < 0) (tt := 30) (ff := 4) (L' := [.ref 71, .int v4, .int v5]) (S' := []) (σ' := (97, I, J, R)) rfl (fun hc_1614 => ?_) (fun hc_1614 => ?_)
                      · rw [if_pos hc_1614] at h
                        refine az_E.sn 1 (pc' := 31) (L' := [.ref 71, .int v4, .int v5]) (S' := [.int (0 : Int32)]) (σ' := (97, I, J, R)) rfl ?_
                        refine az_E.ret (v := some (.int (0 : Int32))) (σ' := (97, I, J, R)) rfl ?_
                        show az_E az_F ex 2 128 95 [.retAddr 0, .retAddr 0, .int v2, .retAddr 0, .int v4, .int v5, .ref 69, .ref 71] [.int (0 : Int32)] (97, I, J, R) _
                        refine az_E.br (c := (0 : Int32) = 0) (tt := 98) (ff := 101) (L' := [.retAddr 0, .retAddr 0, .int v2, .retAddr 0, .int v4, .int v5, .ref 69, .ref 71]) (S' := []) (σ' := (97, I, J, R)) rfl (fun _ => ?_) (fun hn => absurd (by decide) hn)
                        refine az_E.sn 1 (pc' := 100) (L' := [.retAddr 0, .retAddr 0, .int v2, .retAddr 0, .int v4, .int v5, .ref 69, .ref 71]) (S' := [.int (-13 : Int32)]) (σ' := (97, I, J, R)) rfl ?_
                        have h := Option.some.inj h
                        subst h
                        exact az_E.ret (v := some (.int (-13 : Int32))) (σ' := (97, I, J, R)) rfl hQ
                      · rw [if_neg hc_1614] at h
                        refine az_E.sn 1 (pc' := 5) (L' := [.ref 71, .int v4, .int v5]) (S' := [.int v5]) (σ' := (97, I, J, R)) rfl ?_
                        refine az_E.br (c := v5 < 0) (tt := 30) (ff := 8) (L' := [.ref 71, .int v4, .int v5]) (S' := []) (σ' := (97, I, J, R)) rfl (fun hc_1615 => ?_) (fun hc_1615 => ?_)
                        · rw [if_pos hc_1615] at h
                          refine az_E.sn 1 (pc' := 31) (L' := [.ref 71, .int v4, .int v5]) (S' := [.int (0 : Int32)]) (σ' := (97, I, J, R)) rfl ?_
                          refine az_E.ret (v := some (.int (0 : Int32))) (σ' := (97, I, J, R)) rfl ?_
                          show az_E az_F ex 2 128 95 [.retAddr 0, .retAddr 0, .int v2, .retAddr 0, .int v4, .int v5, .ref 69, .ref 71] [.int (0 : Int32)] (97, I, J, R) _
                          refine az_E.br (c := (0 : Int32) = 0) (tt := 98) (ff := 101) (L' := [.retAddr 0, .retAddr 0, .int v2, .retAddr 0, .int v4, .int v5, .ref 69, .ref 71]) (S' := []) (σ' := (97, I, J, R)) rfl (fun _ => ?_) (fun hn => absurd (by decide) hn)
                          refine az_E.sn 1 (pc' := 100) (L' := [.retAddr 0, .retAddr 0, .int v2, .retAddr 0, .int v4, .int v5, .ref 69, .ref 71]) (S' := [.int (-13 : Int32)]) (σ' := (97, I, J, R)) rfl ?_
                          have h := Option.some.inj h
                          subst h
                          exact az_E.ret (v := some (.int (-13 : Int32))) (σ' := (97, I, J, R)) rfl hQ
                        · rw [if_neg hc_1615] at h
                          refine az_E.sn 3 (pc' := 13) (L' := [.ref 71, .int v4, .int v5]) (S' := [.int (I 71 2), .int v4]) (σ' := (97, I, J, R)) rfl ?_
                          refine az_E.br (c := (I 71 2) < v4) (tt := 30) (ff := 16) (L' := [.ref 71, .int v4, .int v5]) (S' := []) (σ' := (97, I, J, R)) rfl (fun hc_1616 => ?_) (fun hc_1616 => ?_)
                          · rw [if_pos hc_1616] at h
                            refine az_E.sn 1 (pc' := 31) (L' := [.ref 71, .int v4, .int v5]) (S' := [.int (0 : Int32)]) (σ' := (97, I, J, R)) rfl ?_
                            refine az_E.ret (v := some (.int (0 : Int32))) (σ' := (97, I, J, R)) rfl ?_
                            show az_E az_F ex 2 128 95 [.retAddr 0, .retAddr 0, .int v2, .retAddr 0, .int v4, .int v5, .ref 69, .ref 71] [.int (0 : Int32)] (97, I, J, R) _
                            refine az_E.br (c := (0 : Int32) = 0) (tt := 98) (ff := 101) (L' := [.retAddr 0, .retAddr 0, .int v2, .retAddr 0, .int v4, .int v5, .ref 69, .ref 71]) (S' := []) (σ' := (97, I, J, R)) rfl (fun _ => ?_) (fun hn => absurd (by decide) hn)
                            refine az_E.sn 1 (pc' := 100) (L' := [.retAddr 0, .retAddr 0, .int v2, .retAddr 0, .int v4, .int v5, .ref 69, .ref 71]) (S' := [.int (-13 : Int32)]) (σ' := (97, I, J, R)) rfl ?_
                            have h := Option.some.inj h
                            subst h
                            exact az_E.ret (v := some (.int (-13 : Int32))) (σ' := (97, I, J, R)) rfl hQ
                          · rw [if_neg hc_1616] at h
                            refine az_E.sn 5 (pc' := 23) (L' := [.ref 71, .int v4, .int v5]) (S' := [.int ((I 71 2) - v4), .int v5]) (σ' := (97, I, J, R)) rfl ?_
                            refine az_E.br (c := ((I 71 2) - v4) < v5) (tt := 30) (ff := 26) (L' := [.ref 71, .int v4, .int v5]) (S' := []) (σ' := (97, I, J, R)) rfl (fun hc_1617 => ?_) (fun hc_1617 => ?_)
                            · rw [if_pos hc_1617] at h
                              refine az_E.sn 1 (pc' := 31) (L' := [.ref 71, .int v4, .int v5]) (S' := [.int (0 : Int32)]) (σ' := (97, I, J, R)) rfl ?_
                              refine az_E.ret (v := some (.int (0 : Int32))) (σ' := (97, I, J, R)) rfl ?_
                              show az_E az_F ex 2 128 95 [.retAddr 0, .retAddr 0, .int v2, .retAddr 0, .int v4, .int v5, .ref 69, .ref 71] [.int (0 : Int32)] (97, I, J, R) _
                              refine az_E.br (c := (0 : Int32) = 0) (tt := 98) (ff := 101) (L' := [.retAddr 0, .retAddr 0, .int v2, .retAddr 0, .int v4, .int v5, .ref 69, .ref 71]) (S' := []) (σ' := (97, I, J, R)) rfl (fun _ => ?_) (fun hn => absurd (by decide) hn)
                              refine az_E.sn 1 (pc' := 100) (L' := [.retAddr 0, .retAddr 0, .int v2, .retAddr 0, .int v4, .int v5, .ref 69, .ref 71]) (S' := [.int (-13 : Int32)]) (σ' := (97, I, J, R)) rfl ?_
                              have h := Option.some.inj h
                              subst h
                              exact az_E.ret (v := some (.int (-13 : Int32))) (σ' := (97, I, J, R)) rfl hQ
                            · rw [if_neg hc_1617] at h
                              refine az_E.sn 2 (pc' := 31) (L' := [.ref 71, .int v4, .int v5]) (S' := [.int (1 : Int32)]) (σ' := (97, I, J, R)) rfl ?_
                              refine az_E.ret (v := some (.int (1 : Int32))) (σ' := (97, I, J, R)) rfl ?_
                              show az_E az_F ex 2 128 95 [.retAddr 0, .retAddr 0, .int v2, .retAddr 0, .int v4, .int v5, .ref 69, .ref 71] [.int (1 : Int32)] (97, I, J, R) _
                              refine az_E.br (c := (1 : Int32) = 0) (tt := 98) (ff := 101) (L' := [.retAddr 0, .retAddr 0, .int v2, .retAddr 0, .int v4, .int v5, .ref 69, .ref 71]) (S' := []) (σ' := (97, I, J, R)) rfl (fun hn => absurd hn (by decide)) (fun _ => ?_)
                              refine az_E.sn 7 (pc' := 116) (L' := [.retAddr 0, .retAddr 0, .int v2, .retAddr 0, .int v4, .int v5, .ref 69, .ref 71]) (S' := [.int v5, .int v4, .ref (71 + 1), .int v2, .ref (69 + 1)]) (σ' := (97, I, J, R)) rfl ?_
                              by_cases hc_1618 : v2 < 0 ∨ v4 < 0 ∨ v5 < 0 ∨ 60 < v2.toNatClampNeg + v5.toNatClampNeg ∨ 60 < v4.toNatClampNeg + v5.toNatClampNeg
                              · rw [if_pos hc_1618] at h; cases h
                              · rw [if_neg hc_1618] at h
                                refine az_E.o (o := az_cp az_F (97, I, J, R) (69 + 1) v2 (71 + 1) v4 v5) (pc' := 119) (L' := [.retAddr 0, .retAddr 0, .int v2, .retAddr 0, .int v4, .int v5, .ref 69, .ref 71]) (S' := []) (x := (97, I, (az_ur J (71 + 1) (va_cpy (J (69 + 1)) (J (71 + 1)) v2.toNatClampNeg v4.toNatClampNeg v5.toNatClampNeg)), R)) rfl (if_neg hc_1618) ?_
                                refine az_E.sn 1 (pc' := 121) (L' := [.retAddr 0, .retAddr 0, .int v2, .retAddr 0, .int v4, .int v5, .ref 69, .ref 71]) (S' := [.int v5]) (σ' := (97, I, (az_ur J (71 + 1) (va_cpy (J (69 + 1)) (J (71 + 1)) v2.toNatClampNeg v4.toNatClampNeg v5.toNatClampNeg)), R)) rfl ?_
                                have h := Option.some.inj h
                                subst h
                                exact az_E.ret (v := some (.int v5)) (σ' := (97, I, (az_ur J (71 + 1) (va_cpy (J (69 + 1)) (J (71 + 1)) v2.toNatClampNeg v4.toNatClampNeg v5.toNatClampNeg)), R)) rfl hQ
            · rw [if_neg hc_1609] at h
              refine az_E.sn 1 (pc' := 20) (L' := [.ref 71, .int (I 69 1)]) (S' := [.int (0 : Int32)]) (σ' := (97, I, J, R)) rfl ?_
              refine az_E.ret (v := some (.int (0 : Int32))) (σ' := (97, I, J, R)) rfl ?_
              show az_E az_F ex 2 128 69 [.retAddr 0, .retAddr 0, .int v2, .retAddr 0, .int v4, .int v5, .ref 69, .ref 71] [.int (0 : Int32)] (97, I, J, R) _
              refine az_E.br (c := (0 : Int32) = 0) (tt := 72) (ff := 75) (L' := [.retAddr 0, .retAddr 0, .int v2, .retAddr 0, .int v4, .int v5, .ref 69, .ref 71]) (S' := []) (σ' := (97, I, J, R)) rfl (fun _ => ?_) (fun hn => absurd (by decide) hn)
              refine az_E.sn 1 (pc' := 74) (L' := [.retAddr 0, .retAddr 0, .int v2, .retAddr 0, .int v4, .int v5, .ref 69, .ref 71]) (S' := [.int (-12 : Int32)]) (σ' := (97, I, J, R)) rfl ?_
              have h := Option.some.inj h
              subst h
              exact az_E.ret (v := some (.int (-12 : Int32))) (σ' := (97, I, J, R)) rfl hQ
    · rw [if_neg hc_1605] at h
      refine az_E.sn 1 (pc' := 21) (L' := [.ref 71]) (S' := [.int (0 : Int32)]) (σ' := (97, I, J, R)) rfl ?_
      refine az_E.ret (v := some (.int (0 : Int32))) (σ' := (97, I, J, R)) rfl ?_
      show az_E az_F ex 2 128 45 [.retAddr 0, .retAddr 0, .int v2, .retAddr 0, .int v4, .int v5, .ref 69, .ref 71] [.int (0 : Int32)] (97, I, J, R) _
      refine az_E.br (c := (0 : Int32) = 0) (tt := 51) (ff := 48) (L' := [.retAddr 0, .retAddr 0, .int v2, .retAddr 0, .int v4, .int v5, .ref 69, .ref 71]) (S' := []) (σ' := (97, I, J, R)) rfl (fun _ => ?_) (fun hn => absurd (by decide) hn)
      refine az_E.sn 1 (pc' := 53) (L' := [.retAddr 0, .retAddr 0, .int v2, .retAddr 0, .int v4, .int v5, .ref 69, .ref 71]) (S' := [.ref 69]) (σ' := (97, I, J, R)) rfl ?_
      refine az_E.call (d := 1) (k' := 55) (vs := [.ref 69]) (pc' := 56) (S' := []) rfl ?_ (fun _ _ hq => hq)
      show az_E az_F ex 1 55 0 [.ref 69] [] (97, I, J, R) _
      refine az_E.sn 3 (pc' := 5) (L' := [.ref 69]) (S' := [.int (-1 : Int32), .int (I 69 1)]) (σ' := (97, I, J, R)) rfl ?_
      refine az_E.br (c := (I 69 1) = (-1 : Int32)) (tt := 12) (ff := 8) (L' := [.ref 69]) (S' := []) (σ' := (97, I, J, R)) rfl (fun hc_1619 => ?_) (fun hc_1619 => ?_)
      · rw [if_pos hc_1619] at h
        refine az_E.sn 1 (pc' := 13) (L' := [.ref 69]) (S' := [.int (0 : Int32)]) (σ' := (97, I, J, R)) rfl ?_
        refine az_E.ret (v := some (.int (0 : Int32))) (σ' := (97, I, J, R)) rfl ?_
        show az_E az_F ex 2 128 56 [.retAddr 0, .retAddr 0, .int v2, .retAddr 0, .int v4, .int v5, .ref 69, .ref 71] [.int (0 : Int32)] (97, I, J, R) _
        refine az_E.br (c := (0 : Int32) = 0) (tt := 72) (ff := 59) (L' := [.retAddr 0, .retAddr 0, .int v2, .retAddr 0, .int v4, .int v5, .ref 69, .ref 71]) (S' := []) (σ' := (97, I, J, R)) rfl (fun _ => ?_) (fun hn => absurd (by decide) hn)
        refine az_E.sn 1 (pc' := 74) (L' := [.retAddr 0, .retAddr 0, .int v2, .retAddr 0, .int v4, .int v5, .ref 69, .ref 71]) (S' := [.int (-12 : Int32)]) (σ' := (97, I, J, R)) rfl ?_
        have h := Option.some.inj h
        subst h
        exact az_E.ret (v := some (.int (-12 : Int32))) (σ' := (97, I, J, R)) rfl hQ
      · rw [if_neg hc_1619] at h
        refine az_E.sn 2 (pc' := 13) (L' := [.ref 69]) (S' := [.int (1 : Int32)]) (σ' := (97, I, J, R)) rfl ?_
        refine az_E.ret (v := some (.int (1 : Int32))) (σ' := (97, I, J, R)) rfl ?_
        show az_E az_F ex 2 128 56 [.retAddr 0, .retAddr 0, .int v2, .retAddr 0, .int v4, .int v5, .ref 69, .ref 71] [.int (1 : Int32)] (97, I, J, R) _
        refine az_E.br (c := (1 : Int32) = 0) (tt := 72) (ff := 59) (L' := [.retAddr 0, .retAddr 0, .int v2, .retAddr 0, .int v4, .int v5, .ref 69, .ref 71]) (S' := []) (σ' := (97, I, J, R)) rfl (fun hn => absurd hn (by decide)) (fun _ => ?_)
        refine az_E.sn 3 (pc' := 66) (L' := [.retAddr 0, .retAddr 0, .int v2, .retAddr 0, .int v4, .int v5, .ref 69, .ref 71]) (S' := [.int (I 69 1), .ref 71]) (σ' := (97, I, J, R)) rfl ?_
        refine az_E.call (d := 1) (k' := 56) (vs := [.ref 71, .int (I 69 1)]) (pc' := 69) (S' := []) rfl ?_ (fun _ _ hq => hq)
        show az_E az_F ex 1 56 0 [.ref 71, .int (I 69 1)] [] (97, I, J, R) _
        refine az_E.sn 1 (pc' := 1) (L' := [.ref 71, .int (I 69 1)]) (S' := [.ref 71]) (σ' := (97, I, J, R)) rfl ?_
        refine az_E.call (d := 0) (k' := 55) (vs := [.ref 71]) (pc' := 4) (S' := []) rfl ?_ (fun _ _ hq => hq)
        show az_E az_F ex 0 55 0 [.ref 71] [] (97, I, J, R) _
        refine az_E.sn 3 (pc' := 5) (L' := [.ref 71]) (S' := [.int (-1 : Int32), .int (I 71 1)]) (σ' := (97, I, J, R)) rfl ?_
        refine az_E.br (c := (I 71 1) = (-1 : Int32)) (tt := 12) (ff := 8) (L' := [.ref 71]) (S' := []) (σ' := (97, I, J, R)) rfl (fun hc_1620 => ?_) (fun hc_1620 => ?_)
        · rw [if_pos hc_1620] at h
          refine az_E.sn 1 (pc' := 13) (L' := [.ref 71]) (S' := [.int (0 : Int32)]) (σ' := (97, I, J, R)) rfl ?_
          refine az_E.ret (v := some (.int (0 : Int32))) (σ' := (97, I, J, R)) rfl ?_
          show az_E az_F ex 1 56 4 [.ref 71, .int (I 69 1)] [.int (0 : Int32)] (97, I, J, R) _
          refine az_E.br (c := (0 : Int32) = 0) (tt := 19) (ff := 7) (L' := [.ref 71, .int (I 69 1)]) (S' := []) (σ' := (97, I, J, R)) rfl (fun _ => ?_) (fun hn => absurd (by decide) hn)
          refine az_E.sn 1 (pc' := 20) (L' := [.ref 71, .int (I 69 1)]) (S' := [.int (0 : Int32)]) (σ' := (97, I, J, R)) rfl ?_
          refine az_E.ret (v := some (.int (0 : Int32))) (σ' := (97, I, J, R)) rfl ?_
          show az_E az_F ex 2 128 69 [.retAddr 0, .retAddr 0, .int v2, .retAddr 0, .int v4, .int v5, .ref 69, .ref 71] [.int (0 : Int32)] (97, I, J, R) _
          refine az_E.br (c := (0 : Int32) = 0) (tt := 72) (ff := 75) (L' := [.retAddr 0, .retAddr 0, .int v2, .retAddr 0, .int v4, .int v5, .ref 69, .ref 71]) (S' := []) (σ' := (97, I, J, R)) rfl (fun _ => ?_) (fun hn => absurd (by decide) hn)
          refine az_E.sn 1 (pc' := 74) (L' := [.retAddr 0, .retAddr 0, .int v2, .retAddr 0, .int v4, .int v5, .ref 69, .ref 71]) (S' := [.int (-12 : Int32)]) (σ' := (97, I, J, R)) rfl ?_
          have h := Option.some.inj h
          subst h
          exact az_E.ret (v := some (.int (-12 : Int32))) (σ' := (97, I, J, R)) rfl hQ
        · rw [if_neg hc_1620] at h
          refine az_E.sn 2 (pc' := 13) (L' := [.ref 71]) (S' := [.int (1 : Int32)]) (σ' := (97, I, J, R)) rfl ?_
          refine az_E.ret (v := some (.int (1 : Int32))) (σ' := (97, I, J, R)) rfl ?_
          show az_E az_F ex 1 56 4 [.ref 71, .int (I 69 1)] [.int (1 : Int32)] (97, I, J, R) _
          refine az_E.br (c := (1 : Int32) = 0) (tt := 19) (ff := 7) (L' := [.ref 71, .int (I 69 1)]) (S' := []) (σ' := (97, I, J, R)) rfl (fun hn => absurd hn (by decide)) (fun _ => ?_)
          refine az_E.sn 3 (pc' := 12) (L' := [.ref 71, .int (I 69 1)]) (S' := [.int (I 69 1), .int (I 71 1)]) (σ' := (97, I, J, R)) rfl ?_
          refine az_E.br (c := (I 71 1) = (I 69 1)) (tt := 15) (ff := 19) (L' := [.ref 71, .int (I 69 1)]) (S' := []) (σ' := (97, I, J, R)) rfl (fun hc_1621 => ?_) (fun hc_1621 => ?_)
          · rw [if_pos hc_1621] at h
            refine az_E.sn 2 (pc' := 20) (L' := [.ref 71, .int (I 69 1)]) (S' := [.int (1 : Int32)]) (σ' := (97, I, J, R)) rfl ?_
            refine az_E.ret (v := some (.int (1 : Int32))) (σ' := (97, I, J, R)) rfl ?_
            show az_E az_F ex 2 128 69 [.retAddr 0, .retAddr 0, .int v2, .retAddr 0, .int v4, .int v5, .ref 69, .ref 71] [.int (1 : Int32)] (97, I, J, R) _
            refine az_E.br (c := (1 : Int32) = 0) (tt := 72) (ff := 75) (L' := [.retAddr 0, .retAddr 0, .int v2, .retAddr 0, .int v4, .int v5, .ref 69, .ref 71]) (S' := []) (σ' := (97, I, J, R)) rfl (fun hn => absurd hn (by decide)) (fun _ => ?_)
            refine az_E.sn 3 (pc' := 80) (L' := [.retAddr 0, .retAddr 0, .int v2, .retAddr 0, .int v4, .int v5, .ref 69, .ref 71]) (S' := [.int v5, .int v2, .ref 69]) (σ' := (97, I, J, R)) rfl ?_
            refine az_E.call (d := 1) (k' := 60) (vs := [.ref 69, .int v2, .int v5]) (pc' := 83) (S' := []) rfl ?_ (fun _ _ hq => hq)
            show az_E az_F ex 1 60 0 [.ref 69, .int v2, .int v5] [] (97, I, J, R) _
            refine az_E.sn 1 (pc' := 1) (L' := [.ref 69, .int v2, .int v5]) (S' := [.int v2]) (σ' := (97, I, J, R)) rfl ?_
            refine az_E.br (c := v2 < 0) (tt := 30) (ff := 4) (L' := [.ref 69, .int v2, .int v5]) (S' := []) (σ' := (97, I, J, R)) rfl (fun hc_1622 => ?_) (fun hc_1622 => ?_)
            · rw [if_pos hc_1622] at h
              refine az_E.sn 1 (pc' := 31) (L' := [.ref 69, .int v2, .int v5]) (S' := [.int (0 : Int32)]) (σ' := (97, I, J, R)) rfl ?_
              refine az_E.ret (v := some (.int (0 : Int32))) (σ' := (97, I, J, R)) rfl ?_
              show az_E az_F ex 2 128 83 [.retAddr 0, .retAddr 0, .int v2, .retAddr 0, .int v4, .int v5, .ref 69, .ref 71] [.int (0 : Int32)] (97, I, J, R) _
              refine az_E.br (c := (0 : Int32) = 0) (tt := 98) (ff := 86) (L' := [.retAddr 0, .retAddr 0, .int v2, .retAddr 0, .int v4, .int v5, .ref 69, .ref 71]) (S' := []) (σ' := (97, I, J, R)) rfl (fun _ => ?_) (fun hn => absurd (by decide) hn)
              refine az_E.sn 1 (pc' := 100) (L' := [.retAddr 0, .retAddr 0, .int v2, .retAddr 0, .int v4, .int v5, .ref 69, .ref 71]) (S' := [.int (-13 : Int32)]) (σ' := (97, I, J, R)) rfl ?_
              have h := Option.some.inj h
              subst h
              exact az_E.ret (v := some (.int (-13 : Int32))) (σ' := (97, I, J, R)) rfl hQ
            · rw [if_neg hc_1622] at h
              refine az_E.sn 1 (pc' := 5) (L' := [.ref 69, .int v2, .int v5]) (S' := [.int v5]) (σ' := (97, I, J, R)) rfl ?_
              refine az_E.br (c := v5 < 0) (tt := 30) (ff := 8) (L' := [.ref 69, .int v2, .int v5]) (S' := []) (σ' := (97, I, J, R)) rfl (fun hc_1623 => ?_) (fun hc_1623 => ?_)
              · rw [if_pos hc_1623] at h
                refine az_E.sn 1 (pc' := 31) (L' := [.ref 69, .int v2, .int v5]) (S' := [.int (0 : Int32)]) (σ' := (97, I, J, R)) rfl ?_
                refine az_E.ret (v := some (.int (0 : Int32))) (σ' := (97, I, J, R)) rfl ?_
                show az_E az_F ex 2 128 83 [.retAddr 0, .retAddr 0, .int v2, .retAddr 0, .int v4, .int v5, .ref 69, .ref 71] [.int (0 : Int32)] (97, I, J, R) _
                refine az_E.br (c := (0 : Int32) = 0) (tt := 98) (ff := 86) (L' := [.retAddr 0, .retAddr 0, .int v2, .retAddr 0, .int v4, .int v5, .ref 69, .ref 71]) (S' := []) (σ' := (97, I, J, R)) rfl (fun _ => ?_) (fun hn => absurd (by decide) hn)
                refine az_E.sn 1 (pc' := 100) (L' := [.retAddr 0, .retAddr 0, .int v2, .retAddr 0, .int v4, .int v5, .ref 69, .ref 71]) (S' := [.int (-13 : Int32)]) (σ' := (97, I, J, R)) rfl ?_
                have h := Option.some.inj h
                subst h
                exact az_E.ret (v := some (.int (-13 : Int32))) (σ' := (97, I, J, R)) rfl hQ
              · rw [if_neg hc_1623] at h
                refine az_E.sn 3 (pc' := 13) (L' := [.ref 69, .int v2, .int v5]) (S' := [.int (I 69 2), .int v2]) (σ' := (97, I, J, R)) rfl ?_
                refine az_E.br (c := (I 69 2) < v2) (tt := 30) (ff := 16) (L' := [.ref 69, .int v2, .int v5]) (S' := []) (σ' := (97, I, J, R)) rfl (fun hc_1624 => ?_) (fun hc_1624 => ?_)
                · rw [if_pos hc_1624] at h
                  refine az_E.sn 1 (pc' := 31) (L' := [.ref 69, .int v2, .int v5]) (S' := [.int (0 : Int32)]) (σ' := (97, I, J, R)) rfl ?_
                  refine az_E.ret (v := some (.int (0 : Int32))) (σ' := (97, I, J, R)) rfl ?_
                  show az_E az_F ex 2 128 83 [.retAddr 0, .retAddr 0, .int v2, .retAddr 0, .int v4, .int v5, .ref 69, .ref 71] [.int (0 : Int32)] (97, I, J, R) _
                  refine az_E.br (c := (0 : Int32) = 0) (tt := 98) (ff := 86) (L' := [.retAddr 0, .retAddr 0, .int v2, .retAddr 0, .int v4, .int v5, .ref 69, .ref 71]) (S' := []) (σ' := (97, I, J, R)) rfl (fun _ => ?_) (fun hn => absurd (by decide) hn)
                  refine az_E.sn 1 (pc' := 100) (L' := [.retAddr 0, .retAddr 0, .int v2, .retAddr 0, .int v4, .int v5, .ref 69, .ref 71]) (S' := [.int (-13 : Int32)]) (σ' := (97, I, J, R)) rfl ?_
                  have h := Option.some.inj h
                  subst h
                  exact az_E.ret (v := some (.int (-13 : Int32))) (σ' := (97, I, J, R)) rfl hQ
                · rw [if_neg hc_1624] at h
                  refine az_E.sn 5 (pc' := 23) (L' := [.ref 69, .int v2, .int v5]) (S' := [.int ((I 69 2) - v2), .int v5]) (σ' := (97, I, J, R)) rfl ?_
                  refine az_E.br (c := ((I 69 2) - v2) < v5) (tt := 30) (ff := 26) (L' := [.ref 69, .int v2, .int v5]) (S' := []) (σ' := (97, I, J, R)) rfl (fun hc_1625 => ?_) (fun hc_1625 => ?_)
                  · rw [if_pos hc_1625] at h
                    refine az_E.sn 1 (pc' := 31) (L' := [.ref 69, .int v2, .int v5]) (S' := [.int (0 : Int32)]) (σ' := (97, I, J, R)) rfl ?_
                    refine az_E.ret (v := some (.int (0 : Int32))) (σ' := (97, I, J, R)) rfl ?_
                    show az_E az_F ex 2 128 83 [.retAddr 0, .retAddr 0, .int v2, .retAddr 0, .int v4, .int v5, .ref 69, .ref 71] [.int (0 : Int32)] (97, I, J, R) _
                    refine az_E.br (c := (0 : Int32) = 0) (tt := 98) (ff := 86) (L' := [.retAddr 0, .retAddr 0, .int v2, .retAddr 0, .int v4, .int v5, .ref 69, .ref 71]) (S' := []) (σ' := (97, I, J, R)) rfl (fun _ => ?_) (fun hn => absurd (by decide) hn)
                    refine az_E.sn 1 (pc' := 100) (L' := [.retAddr 0, .retAddr 0, .int v2, .retAddr 0, .int v4, .int v5, .ref 69, .ref 71]) (S' := [.int (-13 : Int32)]) (σ' := (97, I, J, R)) rfl ?_
                    have h := Option.some.inj h
                    subst h
                    exact az_E.ret (v := some (.int (-13 : Int32))) (σ' := (97, I, J, R)) rfl hQ
                  · rw [if_neg hc_1625] at h
                    refine az_E.sn 2 (pc' := 31) (L' := [.ref 69, .int v2, .int v5]) (S' := [.int (1 : Int32)]) (σ' := (97, I, J, R)) rfl ?_
                    refine az_E.ret (v := some (.int (1 : Int32))) (σ' := (97, I, J, R)) rfl ?_
                    show az_E az_F ex 2 128 83 [.retAddr 0, .retAddr 0, .int v2, .retAddr 0, .int v4, .int v5, .ref 69, .ref 71] [.int (1 : Int32)] (97, I, J, R) _
                    refine az_E.br (c := (1 : Int32) = 0) (tt := 98) (ff := 86) (L' := [.retAddr 0, .retAddr 0, .int v2, .retAddr 0, .int v4, .int v5, .ref 69, .ref 71]) (S' := []) (σ' := (97, I, J, R)) rfl (fun hn => absurd hn (by decide)) (fun _ => ?_)
                    refine az_E.sn 3 (pc' := 92) (L' := [.retAddr 0, .retAddr 0, .int v2, .retAddr 0, .int v4, .int v5, .ref 69, .ref 71]) (S' := [.int v5, .int v4, .ref 71]) (σ' := (97, I, J, R)) rfl ?_
                    refine az_E.call (d := 1) (k' := 60) (vs := [.ref 71, .int v4, .int v5]) (pc' := 95) (S' := []) rfl ?_ (fun _ _ hq => hq)
                    show az_E az_F ex 1 60 0 [.ref 71, .int v4, .int v5] [] (97, I, J, R) _
                    refine az_E.sn 1 (pc' := 1) (L' := [.ref 71, .int v4, .int v5]) (S' := [.int v4]) (σ' := (97, I, J, R)) rfl ?_
                    refine az_E.br (c := v4 < 0) (tt := 30) (ff := 4) (L' := [.ref 71, .int v4, .int v5]) (S' := []) (σ' := (97, I, J, R)) rfl (fun hc_1626 => ?_) (fun hc_1626 => ?_)
                    · rw [if_pos hc_1626] at h
                      refine az_E.sn 1 (pc' := 31) (L' := [.ref 71, .int v4, .int v5]) (S' := [.int (0 : Int32)]) (σ' := (97, I, J, R)) rfl ?_
                      refine az_E.ret (v := some (.int (0 : Int32))) (σ' := (97, I, J, R)) rfl ?_
                      show az_E az_F ex 2 128 95 [.retAddr 0, .retAddr 0, .int v2, .retAddr 0, .int v4, .int v5, .ref 69, .ref 71] [.int (0 : Int32)] (97, I, J, R) _
                      refine az_E.br (c := (0 : Int32) = 0) (tt := 98) (ff := 101) (L' := [.retAddr 0, .retAddr 0, .int v2, .retAddr 0, .int v4, .int v5, .ref 69, .ref 71]) (S' := []) (σ' := (97, I, J, R)) rfl (fun _ => ?_) (fun hn => absurd (by decide) hn)
                      refine az_E.sn 1 (pc' := 100) (L' := [.retAddr 0, .retAddr 0, .int v2, .retAddr 0, .int v4, .int v5, .ref 69, .ref 71]) (S' := [.int (-13 : Int32)]) (σ' := (97, I, J, R)) rfl ?_
                      have h := Option.some.inj h
                      subst h
                      exact az_E.ret (v := some (.int (-13 : Int32))) (σ' := (97, I, J, R)) rfl hQ
                    · rw [if_neg hc_1626] at h
                      refine az_E.sn 1 (pc' := 5) (L' := [.ref 71, .int v4, .int v5]) (S' := [.int v5]) (σ' := (97, I, J, R)) rfl ?_
                      refine az_E.br (c := v5 < 0) (tt := 30) (ff := 8) (L' := [.ref 71, .int v4, .int v5]) (S' := []) (σ' := (97, I, J, R)) rfl (fun hc_1627 => ?_) (fun hc_1627 => ?_)
                      · rw [if_pos hc_1627] at h
                        refine az_E.sn 1 (pc' := 31) (L' := [.ref 71, .int v4, .int v5]) (S' := [.int (0 : Int32)]) (σ' := (97, I, J, R)) rfl ?_
                        refine az_E.ret (v := some (.int (0 : Int32))) (σ' := (97, I, J, R)) rfl ?_
                        show az_E az_F ex 2 128 95 [.retAddr 0, .retAddr 0, .int v2, .retAddr 0, .int v4, .int v5, .ref 69, .ref 71] [.int (0 : Int32)] (97, I, J, R) _
                        refine az_E.br (c := (0 : Int32) = 0) (tt := 98) (ff := 101) (L' := [.retAddr 0, .retAddr 0, .int v2, .retAddr 0, .int v4, .int v5, .ref 69, .ref 71]) (S' := []) (σ' := (97, I, J, R)) rfl (fun _ => ?_) (fun hn => absurd (by decide) hn)
                        refine az_E.sn 1 (pc' := 100) (L' := [.retAddr 0, .retAddr 0, .int v2, .retAddr 0, .int v4, .int v5, .ref 69, .ref 71]) (S' := [.int (-13 : Int32)]) (σ' := (97, I, J, R)) rfl ?_
                        have h := Option.some.inj h
                        subst h
                        exact az_E.ret (v := some (.int (-13 : Int32))) (σ' := (97, I, J, R)) rfl hQ
                      · rw [if_neg hc_1627] at h
                        refine az_E.sn 3 (pc' := 13) (L' := [.ref 71, .int v4, .int v5]) (S' := [.int (I 71 2), .int v4]) (σ' := (97, I, J, R)) rfl ?_
                        refine az_E.br (c := (I 71 2) < v4) (tt := 30) (ff := 16) (L' := [.ref 71, .int v4, .int v5]) (S' := []) (σ' := (97, I, J, R)) rfl (fun hc_1628 => ?_) (fun hc_1628 => ?_)
                        · rw [if_pos hc_1628] at h
                          refine az_E.sn 1 (pc' := 31) (L' := [.ref 71, .int v4, .int v5]) (S' := [.int (0 : Int32)]) (σ' := (97, I, J, R)) rfl ?_
                          refine az_E.ret (v := some (.int (0 : Int32))) (σ' := (97, I, J, R)) rfl ?_
                          show az_E az_F ex 2 128 95 [.retAddr 0, .retAddr 0, .int v2, .retAddr 0, .int v4, .int v5, .ref 69, .ref 71] [.int (0 : Int32)] (97, I, J, R) _
                          refine az_E.br (c := (0 : Int32) = 0) (tt := 98) (ff := 101) (L' := [.retAddr 0, .retAddr 0, .int v2, .retAddr 0, .int v4, .int v5, .ref 69, .ref 71]) (S' := []) (σ' := (97, I, J, R)) rfl (fun _ => ?_) (fun hn => absurd (by decide) hn)
                          refine az_E.sn 1 (pc' := 100) (L' := [.retAddr 0, .retAddr 0, .int v2, .retAddr 0, .int v4, .int v5, .ref 69, .ref 71]) (S' := [.int (-13 : Int32)]) (σ' := (97, I, J, R)) rfl ?_
                          have h := Option.some.inj h
                          subst h
                          exact az_E.ret (v := some (.int (-13 : Int32))) (σ' := (97, I, J, R)) rfl hQ
                        · rw [if_neg hc_1628] at h
                          refine az_E.sn 5 (pc' := 23) (L' := [.ref 71, .int v4, .int v5]) (S' := [.int ((I 71 2) - v4), .int v5]) (σ' := (97, I, J, R)) rfl ?_
                          refine az_E.br (c := ((I 71 2) - v4) < v5) (tt := 30) (ff := 26) (L' := [.ref 71, .int v4, .int v5]) (S' := []) (σ' := (97, I, J, R)) rfl (fun hc_1629 => ?_) (fun hc_1629 => ?_)
                          · rw [if_pos hc_1629] at h
                            refine az_E.sn 1 (pc' := 31) (L' := [.ref 71, .int v4, .int v5]) (S' := [.int (0 : Int32)]) (σ' := (97, I, J, R)) rfl ?_
                            refine az_E.ret (v := some (.int (0 : Int32))) (σ' := (97, I, J, R)) rfl ?_
                            show az_E az_F ex 2 128 95 [.retAddr 0, .retAddr 0, .int v2, .retAddr 0, .int v4, .int v5, .ref 69, .ref 71] [.int (0 : Int32)] (97, I, J, R) _
                            refine az_E.br (c := (0 : Int32) = 0) (tt := 98) (ff := 101) (L' := [.retAddr 0, .retAddr 0, .int v2, .retAddr 0, .int v4, .int v5, .ref 69, .ref 71]) (S' := []) (σ' := (97, I, J, R)) rfl (fun _ => ?_) (fun hn => absurd (by decide) hn)
                            refine az_E.sn 1 (pc' := 100) (L' := [.retAddr 0, .retAddr 0, .int v2, .retAddr 0, .int v4, .int v5, .ref 69, .ref 71]) (S' := [.int (-13 : Int32)]) (σ' := (97, I, J, R)) rfl ?_
                            have h := Option.some.inj h
                            subst h
                            exact az_E.ret (v := some (.int (-13 : Int32))) (σ' := (97, I, J, R)) rfl hQ
                          · rw [if_neg hc_1629] at h
                            refine az_E.sn 2 (pc' := 31) (L' := [.ref 71, .int v4, .int v5]) (S' := [.int (1 : Int32)]) (σ' := (97, I, J, R)) rfl ?_
                            refine az_E.ret (v := some (.int (1 : Int32))) (σ' := (97, I, J, R)) rfl ?_
                            show az_E az_F ex 2 128 95 [.retAddr 0, .retAddr 0, .int v2, .retAddr 0, .int v4, .int v5, .ref 69, .ref 71] [.int (1 : Int32)] (97, I, J, R) _
                            refine az_E.br (c := (1 : Int32) = 0) (tt := 98) (ff := 101) (L' := [.retAddr 0, .retAddr 0, .int v2, .retAddr 0, .int v4, .int v5, .ref 69, .ref 71]) (S' := []) (σ' := (97, I, J, R)) rfl (fun hn => absurd hn (by decide)) (fun _ => ?_)
                            refine az_E.sn 7 (pc' := 116) (L' := [.retAddr 0, .retAddr 0, .int v2, .retAddr 0, .int v4, .int v5, .ref 69, .ref 71]) (S' := [.int v5, .int v4, .ref (71 + 1), .int v2, .ref (69 + 1)]) (σ' := (97, I, J, R)) rfl ?_
                            by_cases hc_1630 : v2 < 0 ∨ v4 < 0 ∨ v5 < 0 ∨ 60 < v2.toNatClampNeg + v5.toNatClampNeg ∨ 60 < v4.toNatClampNeg + v5.toNatClampNeg
                            · rw [if_pos hc_1630] at h; cases h
                            · rw [if_neg hc_1630] at h
                              refine az_E.o (o := az_cp az_F (97, I, J, R) (69 + 1) v2 (71 + 1) v4 v5) (pc' := 119) (L' := [.retAddr 0, .retAddr 0, .int v2, .retAddr 0, .int v4, .int v5, .ref 69, .ref 71]) (S' := []) (x := (97, I, (az_ur J (71 + 1) (va_cpy (J (69 + 1)) (J (71 + 1)) v2.toNatClampNeg v4.toNatClampNeg v5.toNatClampNeg)), R)) rfl (if_neg hc_1630) ?_
                              refine az_E.sn 1 (pc' := 121) (L' := [.retAddr 0, .retAddr 0, .int v2, .retAddr 0, .int v4, .int v5, .ref 69, .ref 71]) (S' := [.int v5]) (σ' := (97, I, (az_ur J (71 + 1) (va_cpy (J (69 + 1)) (J (71 + 1)) v2.toNatClampNeg v4.toNatClampNeg v5.toNatClampNeg)), R)) rfl ?_
                              have h := Option.some.inj h
                              subst h
                              exact az_E.ret (v := some (.int v5)) (σ' := (97, I, (az_ur J (71 + 1) (va_cpy (J (69 + 1)) (J (71 + 1)) v2.toNatClampNeg v4.toNatClampNeg v5.toNatClampNeg)), R)) rfl hQ
          · rw [if_neg hc_1621] at h
            refine az_E.sn 1 (pc' := 20) (L' := [.ref 71, .int (I 69 1)]) (S' := [.int (0 : Int32)]) (σ' := (97, I, J, R)) rfl ?_
            refine az_E.ret (v := some (.int (0 : Int32))) (σ' := (97, I, J, R)) rfl ?_
            show az_E az_F ex 2 128 69 [.retAddr 0, .retAddr 0, .int v2, .retAddr 0, .int v4, .int v5, .ref 69, .ref 71] [.int (0 : Int32)] (97, I, J, R) _
            refine az_E.br (c := (0 : Int32) = 0) (tt := 72) (ff := 75) (L' := [.retAddr 0, .retAddr 0, .int v2, .retAddr 0, .int v4, .int v5, .ref 69, .ref 71]) (S' := []) (σ' := (97, I, J, R)) rfl (fun _ => ?_) (fun hn => absurd (by decide) hn)
            refine az_E.sn 1 (pc' := 74) (L' := [.retAddr 0, .retAddr 0, .int v2, .retAddr 0, .int v4, .int v5, .ref 69, .ref 71]) (S' := [.int (-12 : Int32)]) (σ' := (97, I, J, R)) rfl ?_
            have h := Option.some.inj h
            subst h
            exact az_E.ret (v := some (.int (-12 : Int32))) (σ' := (97, I, J, R)) rfl hQ
set_option maxRecDepth 100000 in
set_option maxHeartbeats 4000000 in
theorem re_X_shift_22_69 {ex : az_X} {I : Nat → Nat → Int32} {J : Nat → Nat → Int64} {R : Nat → Nat → Option Nat} {v2 : Int32} {v3 : Int32} {v4 : Int32} {v5 : Int32} {x : Int32 × (Nat → Nat → Int64)} (h : rs_X_shift_22 69 I J v2 v3 v4 v5 = some x) {Q : Option Value → az_S → Prop} (hQ : Q (some (.int x.1)) (97, I, x.2, R)) : az_E az_F ex 2 128 22 [.ref 3, .retAddr 0, .int v2, .int v3, .int v4, .int v5, .retAddr 0, .retAddr 0] [.ref 69] (97, I, J, R) Q := by
  unfold rs_X_shift_22 at h
  refine az_E.sn 4 (pc' := 29) (L' := [.ref 3, .retAddr 0, .int v2, .int v3, .int v4, .int v5, .ref 69, .retAddr 0]) (S' := [.int v3, .ref 58]) (σ' := (97, I, J, R)) rfl ?_
  by_cases hc_1306 : v3 < 0 ∨ 6 ≤ v3.toNatClampNeg
  · rw [if_pos hc_1306] at h; cases h
  · rw [if_neg hc_1306] at h
    rcases az_six hc_1306 with ehc_1306 | ehc_1306 | ehc_1306 | ehc_1306 | ehc_1306 | ehc_1306
    · rw [ehc_1306] at h ⊢; (try rw [ehc_1306] at hQ)
      refine az_E.ov (pc' := 30) (L' := [.ref 3, .retAddr 0, .int v2, .int (0 : Int32), .int v4, .int v5, .ref 69, .retAddr 0]) (S' := []) (σ' := (97, I, J, R)) (x := .ref 61) (o := az_aa az_F (97, I, J, R) 58 (0 : Int32)) rfl rfl ?_
      exact az_E.forget (L := [.retAddr 0, .retAddr 0, .int v2, .retAddr 0, .int v4, .int v5, .ref 69, .retAddr 0]) ⟨trivial, trivial, rfl, trivial, rfl, rfl, rfl, trivial, trivial⟩ (re_X_shift_30_69_61 (I := I) (J := J) (R := R)  h hQ)
    · rw [ehc_1306] at h ⊢; (try rw [ehc_1306] at hQ)
      refine az_E.ov (pc' := 30) (L' := [.ref 3, .retAddr 0, .int v2, .int (1 : Int32), .int v4, .int v5, .ref 69, .retAddr 0]) (S' := []) (σ' := (97, I, J, R)) (x := .ref 63) (o := az_aa az_F (97, I, J, R) 58 (1 : Int32)) rfl rfl ?_
      exact az_E.forget (L := [.retAddr 0, .retAddr 0, .int v2, .retAddr 0, .int v4, .int v5, .ref 69, .retAddr 0]) ⟨trivial, trivial, rfl, trivial, rfl, rfl, rfl, trivial, trivial⟩ (re_X_shift_30_69_63 (I := I) (J := J) (R := R)  h hQ)
    · rw [ehc_1306] at h ⊢; (try rw [ehc_1306] at hQ)
      refine az_E.ov (pc' := 30) (L' := [.ref 3, .retAddr 0, .int v2, .int (2 : Int32), .int v4, .int v5, .ref 69, .retAddr 0]) (S' := []) (σ' := (97, I, J, R)) (x := .ref 65) (o := az_aa az_F (97, I, J, R) 58 (2 : Int32)) rfl rfl ?_
      exact az_E.forget (L := [.retAddr 0, .retAddr 0, .int v2, .retAddr 0, .int v4, .int v5, .ref 69, .retAddr 0]) ⟨trivial, trivial, rfl, trivial, rfl, rfl, rfl, trivial, trivial⟩ (re_X_shift_30_69_65 (I := I) (J := J) (R := R)  h hQ)
    · rw [ehc_1306] at h ⊢; (try rw [ehc_1306] at hQ)
      refine az_E.ov (pc' := 30) (L' := [.ref 3, .retAddr 0, .int v2, .int (3 : Int32), .int v4, .int v5, .ref 69, .retAddr 0]) (S' := []) (σ' := (97, I, J, R)) (x := .ref 67) (o := az_aa az_F (97, I, J, R) 58 (3 : Int32)) rfl rfl ?_
      exact az_E.forget (L := [.retAddr 0, .retAddr 0, .int v2, .retAddr 0, .int v4, .int v5, .ref 69, .retAddr 0]) ⟨trivial, trivial, rfl, trivial, rfl, rfl, rfl, trivial, trivial⟩ (re_X_shift_30_69_67 (I := I) (J := J) (R := R)  h hQ)
    · rw [ehc_1306] at h ⊢; (try rw [ehc_1306] at hQ)
      refine az_E.ov (pc' := 30) (L' := [.ref 3, .retAddr 0, .int v2, .int (4 : Int32), .int v4, .int v5, .ref 69, .retAddr 0]) (S' := []) (σ' := (97, I, J, R)) (x := .ref 69) (o := az_aa az_F (97, I, J, R) 58 (4 : Int32)) rfl rfl ?_
      exact az_E.forget (L := [.retAddr 0, .retAddr 0, .int v2, .retAddr 0, .int v4, .int v5, .ref 69, .retAddr 0]) ⟨trivial, trivial, rfl, trivial, rfl, rfl, rfl, trivial, trivial⟩ (re_X_shift_30_69_69 (I := I) (J := J) (R := R)  h hQ)
    · rw [ehc_1306] at h ⊢; (try rw [ehc_1306] at hQ)
      refine az_E.ov (pc' := 30) (L' := [.ref 3, .retAddr 0, .int v2, .int (5 : Int32), .int v4, .int v5, .ref 69, .retAddr 0]) (S' := []) (σ' := (97, I, J, R)) (x := .ref 71) (o := az_aa az_F (97, I, J, R) 58 (5 : Int32)) rfl rfl ?_
      exact az_E.forget (L := [.retAddr 0, .retAddr 0, .int v2, .retAddr 0, .int v4, .int v5, .ref 69, .retAddr 0]) ⟨trivial, trivial, rfl, trivial, rfl, rfl, rfl, trivial, trivial⟩ (re_X_shift_30_69_71 (I := I) (J := J) (R := R)  h hQ)
set_option maxRecDepth 100000 in
set_option maxHeartbeats 4000000 in
theorem re_X_shift_30_71_61 {ex : az_X} {I : Nat → Nat → Int32} {J : Nat → Nat → Int64} {R : Nat → Nat → Option Nat} {v2 : Int32} {v4 : Int32} {v5 : Int32} {x : Int32 × (Nat → Nat → Int64)} (h : rs_X_shift_30 71 61 I J v2 v4 v5 = some x) {Q : Option Value → az_S → Prop} (hQ : Q (some (.int x.1)) (97, I, x.2, R)) : az_E az_F ex 2 128 30 [.retAddr 0, .retAddr 0, .int v2, .retAddr 0, .int v4, .int v5, .ref 71, .retAddr 0] [.ref 61] (97, I, J, R) Q := by
  unfold rs_X_shift_30 at h
  refine az_E.sn 2 (pc' := 34) (L' := [.retAddr 0, .retAddr 0, .int v2, .retAddr 0, .int v4, .int v5, .ref 71, .ref 61]) (S' := [.ref 71]) (σ' := (97, I, J, R)) rfl ?_
  refine az_E.call (d := 1) (k' := 54) (vs := [.ref 71]) (pc' := 37) (S' := []) rfl ?_ (fun _ _ hq => hq)
  show az_E az_F ex 1 54 0 [.ref 71] [] (97, I, J, R) _
  refine az_E.sn 3 (pc' := 5) (L' := [.ref 71]) (S' := [.int (-1 : Int32), .int (I 71 0)]) (σ' := (97, I, J, R)) rfl ?_
  refine az_E.br (c := (I 71 0) = (-1 : Int32)) (tt := 8) (ff := 20) (L' := [.ref 71]) (S' := []) (σ' := (97, I, J, R)) rfl (fun hc_1632 => ?_) (fun hc_1632 => ?_)
  · rw [if_pos hc_1632] at h
    refine az_E.sn 3 (pc' := 13) (L' := [.ref 71]) (S' := [.int (-1 : Int32), .int (I 71 1)]) (σ' := (97, I, J, R)) rfl ?_
    refine az_E.br (c := (I 71 1) = (-1 : Int32)) (tt := 16) (ff := 20) (L' := [.ref 71]) (S' := []) (σ' := (97, I, J, R)) rfl (fun hc_1633 => ?_) (fun hc_1633 => ?_)
    · rw [if_pos hc_1633] at h
      refine az_E.sn 2 (pc' := 21) (L' := [.ref 71]) (S' := [.int (1 : Int32)]) (σ' := (97, I, J, R)) rfl ?_
      refine az_E.ret (v := some (.int (1 : Int32))) (σ' := (97, I, J, R)) rfl ?_
      show az_E az_F ex 2 128 37 [.retAddr 0, .retAddr 0, .int v2, .retAddr 0, .int v4, .int v5, .ref 71, .ref 61] [.int (1 : Int32)] (97, I, J, R) _
      refine az_E.br (c := (1 : Int32) = 0) (tt := 40) (ff := 48) (L' := [.retAddr 0, .retAddr 0, .int v2, .retAddr 0, .int v4, .int v5, .ref 71, .ref 61]) (S' := []) (σ' := (97, I, J, R)) rfl (fun hn => absurd hn (by decide)) (fun _ => ?_)
      refine az_E.sn 1 (pc' := 50) (L' := [.retAddr 0, .retAddr 0, .int v2, .retAddr 0, .int v4, .int v5, .ref 71, .ref 61]) (S' := [.int (-11 : Int32)]) (σ' := (97, I, J, R)) rfl ?_
      have h := Option.some.inj h
      subst h
      exact az_E.ret (v := some (.int (-11 : Int32))) (σ' := (97, I, J, R)) rfl hQ
    · rw [if_neg hc_1633] at h
      refine az_E.sn 1 (pc' := 21) (L' := [.ref 71]) (S' := [.int (0 : Int32)]) (σ' := (97, I, J, R)) rfl ?_
      refine az_E.ret (v := some (.int (0 : Int32))) (σ' := (97, I, J, R)) rfl ?_
      show az_E az_F ex 2 128 37 [.retAddr 0, .retAddr 0, .int v2, .retAddr 0, .int v4, .int v5, .ref 71, .ref 61] [.int (0 : Int32)] (97, I, J, R) _
      refine az_E.br (c := (0 : Int32) = 0) (tt := 40) (ff := 48) (L' := [.retAddr 0, .retAddr 0, .int v2, .retAddr 0, .int v4, .int v5, .ref 71, .ref 61]) (S' := []) (σ' := (97, I, J, R)) rfl (fun _ => ?_) (fun hn => absurd (by decide) hn)
      refine az_E.sn 1 (pc' := 42) (L' := [.retAddr 0, .retAddr 0, .int v2, .retAddr 0, .int v4, .int v5, .ref 71, .ref 61]) (S' := [.ref 61]) (σ' := (97, I, J, R)) rfl ?_
      refine az_E.call (d := 1) (k' := 54) (vs := [.ref 61]) (pc' := 45) (S' := []) rfl ?_ (fun _ _ hq => hq)
      show az_E az_F ex 1 54 0 [.ref 61] [] (97, I, J, R) _
      refine az_E.sn 3 (pc' := 5) (L' := [.ref 61]) (S' := [.int (-1 : Int32), .int (I 61 0)]) (σ' := (97, I, J, R)) rfl ?_
      refine az_E.br (c := (I 61 0) = (-1 : Int32)) (tt := 8) (ff := 20) (L' := [.ref 61]) (S' := []) (σ' := (97, I, J, R)) rfl (fun hc_1634 => ?_) (fun hc_1634 => ?_)
      · rw [if_pos hc_1634] at h
        refine az_E.sn 3 (pc' := 13) (L' := [.ref 61]) (S' := [.int (-1 : Int32), .int (I 61 1)]) (σ' := (97, I, J, R)) rfl ?_
        refine az_E.br (c := (I 61 1) = (-1 : Int32)) (tt := 16) (ff := 20) (L' := [.ref 61]) (S' := []) (σ' := (97, I, J, R)) rfl (fun hc_1635 => ?_) (fun hc_1635 => ?_)
        · rw [if_pos hc_1635] at h
          refine az_E.sn 2 (pc' := 21) (L' := [.ref 61]) (S' := [.int (1 : Int32)]) (σ' := (97, I, J, R)) rfl ?_
          refine az_E.ret (v := some (.int (1 : Int32))) (σ' := (97, I, J, R)) rfl ?_
          show az_E az_F ex 2 128 45 [.retAddr 0, .retAddr 0, .int v2, .retAddr 0, .int v4, .int v5, .ref 71, .ref 61] [.int (1 : Int32)] (97, I, J, R) _
          refine az_E.br (c := (1 : Int32) = 0) (tt := 51) (ff := 48) (L' := [.retAddr 0, .retAddr 0, .int v2, .retAddr 0, .int v4, .int v5, .ref 71, .ref 61]) (S' := []) (σ' := (97, I, J, R)) rfl (fun hn => absurd hn (by decide)) (fun _ => ?_)
          refine az_E.sn 1 (pc' := 50) (L' := [.retAddr 0, .retAddr 0, .int v2, .retAddr 0, .int v4, .int v5, .ref 71, .ref 61]) (S' := [.int (-11 : Int32)]) (σ' := (97, I, J, R)) rfl ?_
          have h := Option.some.inj h
          subst h
          exact az_E.ret (v := some (.int (-11 : Int32))) (σ' := (97, I, J, R)) rfl hQ
        · rw [if_neg hc_1635] at h
          refine az_E.sn 1 (pc' := 21) (L' := [.ref 61]) (S' := [.int (0 : Int32)]) (σ' := (97, I, J, R)) rfl ?_
          refine az_E.ret (v := some (.int (0 : Int32))) (σ' := (97, I, J, R)) rfl ?_
          show az_E az_F ex 2 128 45 [.retAddr 0, .retAddr 0, .int v2, .retAddr 0, .int v4, .int v5, .ref 71, .ref 61] [.int (0 : Int32)] (97, I, J, R) _
          refine az_E.br (c := (0 : Int32) = 0) (tt := 51) (ff := 48) (L' := [.retAddr 0, .retAddr 0, .int v2, .retAddr 0, .int v4, .int v5, .ref 71, .ref 61]) (S' := []) (σ' := (97, I, J, R)) rfl (fun _ => ?_) (fun hn => absurd (by decide) hn)
          refine az_E.sn 1 (pc' := 53) (L' := [.retAddr 0, .retAddr 0, .int v2, .retAddr 0, .int v4, .int v5, .ref 71, .ref 61]) (S' := [.ref 71]) (σ' := (97, I, J, R)) rfl ?_
          refine az_E.call (d := 1) (k' := 55) (vs := [.ref 71]) (pc' := 56) (S' := []) rfl ?_ (fun _ _ hq => hq)
          show az_E az_F ex 1 55 0 [.ref 71] [] (97, I, J, R) _
          refine az_E.sn 3 (pc' := 5) (L' := [.ref 71]) (S' := [.int (-1 : Int32), .int (I 71 1)]) (σ' := (97, I, J, R)) rfl ?_
          refine az_E.br (c := (I 71 1) = (-1 : Int32)) (tt := 12) (ff := 8) (L' := [.ref 71]) (S' := []) (σ' := (97, I, J, R)) rfl (fun hc_1636 => ?_) (fun hc_1636 => ?_)
          · rw [if_pos hc_1636] at h
            refine az_E.sn 1 (pc' := 13) (L' := [.ref 71]) (S' := [.int (0 : Int32)]) (σ' := (97, I, J, R)) rfl ?_
            refine az_E.ret (v := some (.int (0 : Int32))) (σ' := (97, I, J, R)) rfl ?_
            show az_E az_F ex 2 128 56 [.retAddr 0, .retAddr 0, .int v2, .retAddr 0, .int v4, .int v5, .ref 71, .ref 61] [.int (0 : Int32)] (97, I, J, R) _
            refine az_E.br (c := (0 : Int32) = 0) (tt := 72) (ff := 59) (L' := [.retAddr 0, .retAddr 0, .int v2, .retAddr 0, .int v4, .int v5, .ref 71, .ref 61]) (S' := []) (σ' := (97, I, J, R)) rfl (fun _ => ?_) (fun hn => absurd (by decide) hn)
            refine az_E.sn 1 (pc' := 74) (L' := [.retAddr 0, .retAddr 0, .int v2, .retAddr 0, .int v4, .int v5, .ref 71, .ref 61]) (S' := [.int (-12 : Int32)]) (σ' := (97, I, J, R)) rfl ?_
            have h := Option.some.inj h
            subst h
            exact az_E.ret (v := some (.int (-12 : Int32))) (σ' := (97, I, J, R)) rfl hQ
          · rw [if_neg hc_1636] at h
            refine az_E.sn 2 (pc' := 13) (L' := [.ref 71]) (S' := [.int (1 : Int32)]) (σ' := (97, I, J, R)) rfl ?_
            refine az_E.ret (v := some (.int (1 : Int32))) (σ' := (97, I, J, R)) rfl ?_
            show az_E az_F ex 2 128 56 [.retAddr 0, .retAddr 0, .int v2, .retAddr 0, .int v4, .int v5, .ref 71, .ref 61] [.int (1 : Int32)] (97, I, J, R) _
            refine az_E.br (c := (1 : Int32) = 0) (tt := 72) (ff := 59) (L' := [.retAddr 0, .retAddr 0, .int v2, .retAddr 0, .int v4, .int v5, .ref 71, .ref 61]) (S' := []) (σ' := (97, I, J, R)) rfl (fun hn => absurd hn (by decide)) (fun _ => ?_)
            refine az_E.sn 3 (pc' := 66) (L' := [.retAddr 0, .retAddr 0, .int v2, .retAddr 0, .int v4, .int v5, .ref 71, .ref 61]) (S' := [.int (I 71 1), .ref 61]) (σ' := (97, I, J, R)) rfl ?_
            refine az_E.call (d := 1) (k' := 56) (vs := [.ref 61, .int (I 71 1)]) (pc' := 69) (S' := []) rfl ?_ (fun _ _ hq => hq)
            show az_E az_F ex 1 56 0 [.ref 61, .int (I 71 1)] [] (97, I, J, R) _
            refine az_E.sn 1 (pc' := 1) (L' := [.ref 61, .int (I 71 1)]) (S' := [.ref 61]) (σ' := (97, I, J, R)) rfl ?_
            refine az_E.call (d := 0) (k' := 55) (vs := [.ref 61]) (pc' := 4) (S' := []) rfl ?_ (fun _ _ hq => hq)
            show az_E az_F ex 0 55 0 [.ref 61] [] (97, I, J, R) _
            refine az_E.sn 3 (pc' := 5) (L' := [.ref 61]) (S' := [.int (-1 : Int32), .int (I 61 1)]) (σ' := (97, I, J, R)) rfl ?_
            refine az_E.br (c := (I 61 1) = (-1 : Int32)) (tt := 12) (ff := 8) (L' := [.ref 61]) (S' := []) (σ' := (97, I, J, R)) rfl (fun hc_1637 => ?_) (fun hc_1637 => ?_)
            · rw [if_pos hc_1637] at h
              refine az_E.sn 1 (pc' := 13) (L' := [.ref 61]) (S' := [.int (0 : Int32)]) (σ' := (97, I, J, R)) rfl ?_
              refine az_E.ret (v := some (.int (0 : Int32))) (σ' := (97, I, J, R)) rfl ?_
              show az_E az_F ex 1 56 4 [.ref 61, .int (I 71 1)] [.int (0 : Int32)] (97, I, J, R) _
              refine az_E.br (c := (0 : Int32) = 0) (tt := 19) (ff := 7) (L' := [.ref 61, .int (I 71 1)]) (S' := []) (σ' := (97, I, J, R)) rfl (fun _ => ?_) (fun hn => absurd (by decide) hn)
              refine az_E.sn 1 (pc' := 20) (L' := [.ref 61, .int (I 71 1)]) (S' := [.int (0 : Int32)]) (σ' := (97, I, J, R)) rfl ?_
              refine az_E.ret (v := some (.int (0 : Int32))) (σ' := (97, I, J, R)) rfl ?_
              show az_E az_F ex 2 128 69 [.retAddr 0, .retAddr 0, .int v2, .retAddr 0, .int v4, .int v5, .ref 71, .ref 61] [.int (0 : Int32)] (97, I, J, R) _
              refine az_E.br (c := (0 : Int32) = 0) (tt := 72) (ff := 75) (L' := [.retAddr 0, .retAddr 0, .int v2, .retAddr 0, .int v4, .int v5, .ref 71, .ref 61]) (S' := []) (σ' := (97, I, J, R)) rfl (fun _ => ?_) (fun hn => absurd (by decide) hn)
              refine az_E.sn 1 (pc' := 74) (L' := [.retAddr 0, .retAddr 0, .int v2, .retAddr 0, .int v4, .int v5, .ref 71, .ref 61]) (S' := [.int (-12 : Int32)]) (σ' := (97, I, J, R)) rfl ?_
              have h := Option.some.inj h
              subst h
              exact az_E.ret (v := some (.int (-12 : Int32))) (σ' := (97, I, J, R)) rfl hQ
            · rw [if_neg hc_1637] at h
              refine az_E.sn 2 (pc' := 13) (L' := [.ref 61]) (S' := [.int (1 : Int32)]) (σ' := (97, I, J, R)) rfl ?_
              refine az_E.ret (v := some (.int (1 : Int32))) (σ' := (97, I, J, R)) rfl ?_
              show az_E az_F ex 1 56 4 [.ref 61, .int (I 71 1)] [.int (1 : Int32)] (97, I, J, R) _
              refine az_E.br (c := (1 : Int32) = 0) (tt := 19) (ff := 7) (L' := [.ref 61, .int (I 71 1)]) (S' := []) (σ' := (97, I, J, R)) rfl (fun hn => absurd hn (by decide)) (fun _ => ?_)
              refine az_E.sn 3 (pc' := 12) (L' := [.ref 61, .int (I 71 1)]) (S' := [.int (I 71 1), .int (I 61 1)]) (σ' := (97, I, J, R)) rfl ?_
              refine az_E.br (c := (I 61 1) = (I 71 1)) (tt := 15) (ff := 19) (L' := [.ref 61, .int (I 71 1)]) (S' := []) (σ' := (97, I, J, R)) rfl (fun hc_1638 => ?_) (fun hc_1638 => ?_)
              · rw [if_pos hc_1638] at h
                refine az_E.sn 2 (pc' := 20) (L' := [.ref 61, .int (I 71 1)]) (S' := [.int (1 : Int32)]) (σ' := (97, I, J, R)) rfl ?_
                refine az_E.ret (v := some (.int (1 : Int32))) (σ' := (97, I, J, R)) rfl ?_
                show az_E az_F ex 2 128 69 [.retAddr 0, .retAddr 0, .int v2, .retAddr 0, .int v4, .int v5, .ref 71, .ref 61] [.int (1 : Int32)] (97, I, J, R) _
                refine az_E.br (c := (1 : Int32) = 0) (tt := 72) (ff := 75) (L' := [.retAddr 0, .retAddr 0, .int v2, .retAddr 0, .int v4, .int v5, .ref 71, .ref 61]) (S' := []) (σ' := (97, I, J, R)) rfl (fun hn => absurd hn (by decide)) (fun _ => ?_)
                refine az_E.sn 3 (pc' := 80) (L' := [.retAddr 0, .retAddr 0, .int v2, .retAddr 0, .int v4, .int v5, .ref 71, .ref 61]) (S' := [.int v5, .int v2, .ref 71]) (σ' := (97, I, J, R)) rfl ?_
                refine az_E.call (d := 1) (k' := 60) (vs := [.ref 71, .int v2, .int v5]) (pc' := 83) (S' := []) rfl ?_ (fun _ _ hq => hq)
                show az_E az_F ex 1 60 0 [.ref 71, .int v2, .int v5] [] (97, I, J, R) _
                refine az_E.sn 1 (pc' := 1) (L' := [.ref 71, .int v2, .int v5]) (S' := [.int v2]) (σ' := (97, I, J, R)) rfl ?_
                refine az_E.br (c := v2 < 0) (tt := 30) (ff := 4) (L' := [.ref 71, .int v2, .int v5]) (S' := []) (σ' := (97, I, J, R)) rfl (fun hc_1639 => ?_) (fun hc_1639 => ?_)
                · rw [if_pos hc_1639] at h
                  refine az_E.sn 1 (pc' := 31) (L' := [.ref 71, .int v2, .int v5]) (S' := [.int (0 : Int32)]) (σ' := (97, I, J, R)) rfl ?_
                  refine az_E.ret (v := some (.int (0 : Int32))) (σ' := (97, I, J, R)) rfl ?_
                  show az_E az_F ex 2 128 83 [.retAddr 0, .retAddr 0, .int v2, .retAddr 0, .int v4, .int v5, .ref 71, .ref 61] [.int (0 : Int32)] (97, I, J, R) _
                  refine az_E.br (c := (0 : Int32) = 0) (tt := 98) (ff := 86) (L' := [.retAddr 0, .retAddr 0, .int v2, .retAddr 0, .int v4, .int v5, .ref 71, .ref 61]) (S' := []) (σ' := (97, I, J, R)) rfl (fun _ => ?_) (fun hn => absurd (by decide) hn)
                  refine az_E.sn 1 (pc' := 100) (L' := [.retAddr 0, .retAddr 0, .int v2, .retAddr 0, .int v4, .int v5, .ref 71, .ref 61]) (S' := [.int (-13 : Int32)]) (σ' := (97, I, J, R)) rfl ?_
                  have h := Option.some.inj h
                  subst h
                  exact az_E.ret (v := some (.int (-13 : Int32))) (σ' := (97, I, J, R)) rfl hQ
                · rw [if_neg hc_1639] at h
                  refine az_E.sn 1 (pc' := 5) (L' := [.ref 71, .int v2, .int v5]) (S' := [.int v5]) (σ' := (97, I, J, R)) rfl ?_
                  refine az_E.br (c := v5 < 0) (tt := 30) (ff := 8) (L' := [.ref 71, .int v2, .int v5]) (S' := []) (σ' := (97, I, J, R)) rfl (fun hc_1640 => ?_) (fun hc_1640 => ?_)
                  · rw [if_pos hc_1640] at h
                    refine az_E.sn 1 (pc' := 31) (L' := [.ref 71, .int v2, .int v5]) (S' := [.int (0 : Int32)]) (σ' := (97, I, J, R)) rfl ?_
                    refine az_E.ret (v := some (.int (0 : Int32))) (σ' := (97, I, J, R)) rfl ?_
                    show az_E az_F ex 2 128 83 [.retAddr 0, .retAddr 0, .int v2, .retAddr 0, .int v4, .int v5, .ref 71, .ref 61] [.int (0 : Int32)] (97, I, J, R) _
                    refine az_E.br (c := (0 : Int32) = 0) (tt := 98) (ff := 86) (L' := [.retAddr 0, .retAddr 0, .int v2, .retAddr 0, .int v4, .int v5, .ref 71, .ref 61]) (S' := []) (σ' := (97, I, J, R)) rfl (fun _ => ?_) (fun hn => absurd (by decide) hn)
                    refine az_E.sn 1 (pc' := 100) (L' := [.retAddr 0, .retAddr 0, .int v2, .retAddr 0, .int v4, .int v5, .ref 71, .ref 61]) (S' := [.int (-13 : Int32)]) (σ' := (97, I, J, R)) rfl ?_
                    have h := Option.some.inj h
                    subst h
                    exact az_E.ret (v := some (.int (-13 : Int32))) (σ' := (97, I, J, R)) rfl hQ
                  · rw [if_neg hc_1640] at h
                    refine az_E.sn 3 (pc' := 13) (L' := [.ref 71, .int v2, .int v5]) (S' := [.int (I 71 2), .int v2]) (σ' := (97, I, J, R)) rfl ?_
                    refine az_E.br (c := (I 71 2) < v2) (tt := 30) (ff := 16) (L' := [.ref 71, .int v2, .int v5]) (S' := []) (σ' := (97, I, J, R)) rfl (fun hc_1641 => ?_) (fun hc_1641 => ?_)
                    · rw [if_pos hc_1641] at h
                      refine az_E.sn 1 (pc' := 31) (L' := [.ref 71, .int v2, .int v5]) (S' := [.int (0 : Int32)]) (σ' := (97, I, J, R)) rfl ?_
                      refine az_E.ret (v := some (.int (0 : Int32))) (σ' := (97, I, J, R)) rfl ?_
                      show az_E az_F ex 2 128 83 [.retAddr 0, .retAddr 0, .int v2, .retAddr 0, .int v4, .int v5, .ref 71, .ref 61] [.int (0 : Int32)] (97, I, J, R) _
                      refine az_E.br (c := (0 : Int32) = 0) (tt := 98) (ff := 86) (L' := [.retAddr 0, .retAddr 0, .int v2, .retAddr 0, .int v4, .int v5, .ref 71, .ref 61]) (S' := []) (σ' := (97, I, J, R)) rfl (fun _ => ?_) (fun hn => absurd (by decide) hn)
                      refine az_E.sn 1 (pc' := 100) (L' := [.retAddr 0, .retAddr 0, .int v2, .retAddr 0, .int v4, .int v5, .ref 71, .ref 61]) (S' := [.int (-13 : Int32)]) (σ' := (97, I, J, R)) rfl ?_
                      have h := Option.some.inj h
                      subst h
                      exact az_E.ret (v := some (.int (-13 : Int32))) (σ' := (97, I, J, R)) rfl hQ
                    · rw [if_neg hc_1641] at h
                      refine az_E.sn 5 (pc' := 23) (L' := [.ref 71, .int v2, .int v5]) (S' := [.int ((I 71 2) - v2), .int v5]) (σ' := (97, I, J, R)) rfl ?_
                      refine az_E.br (c := ((I 71 2) - v2) < v5) (tt := 30) (ff := 26) (L' := [.ref 71, .int v2, .int v5]) (S' := []) (σ' := (97, I, J, R)) rfl (fun hc_1642 => ?_) (fun hc_1642 => ?_)
                      · rw [if_pos hc_1642] at h
                        refine az_E.sn 1 (pc' := 31) (L' := [.ref 71, .int v2, .int v5]) (S' := [.int (0 : Int32)]) (σ' := (97, I, J, R)) rfl ?_
                        refine az_E.ret (v := some (.int (0 : Int32))) (σ' := (97, I, J, R)) rfl ?_
                        show az_E az_F ex 2 128 83 [.retAddr 0, .retAddr 0, .int v2, .retAddr 0, .int v4, .int v5, .ref 71, .ref 61] [.int (0 : Int32)] (97, I, J, R) _
                        refine az_E.br (c := (0 : Int32) = 0) (tt := 98) (ff := 86) (L' := [.retAddr 0, .retAddr 0, .int v2, .retAddr 0, .int v4, .int v5, .ref 71, .ref 61]) (S' := []) (σ' := (97, I, J, R)) rfl (fun _ => ?_) (fun hn => absurd (by decide) hn)
                        refine az_E.sn 1 (pc' := 100) (L' := [.retAddr 0, .retAddr 0, .int v2, .retAddr 0, .int v4, .int v5, .ref 71, .ref 61]) (S' := [.int (-13 : Int32)]) (σ' := (97, I, J, R)) rfl ?_
                        have h := Option.some.inj h
                        subst h
                        exact az_E.ret (v := some (.int (-13 : Int32))) (σ' := (97, I, J, R)) rfl hQ
                      · rw [if_neg hc_1642] at h
                        refine az_E.sn 2 (pc' := 31) (L' := [.ref 71, .int v2, .int v5]) (S' := [.int (1 : Int32)]) (σ' := (97, I, J, R)) rfl ?_
                        refine az_E.ret (v := some (.int (1 : Int32))) (σ' := (97, I, J, R)) rfl ?_
                        show az_E az_F ex 2 128 83 [.retAddr 0, .retAddr 0, .int v2, .retAddr 0, .int v4, .int v5, .ref 71, .ref 61] [.int (1 : Int32)] (97, I, J, R) _
                        refine az_E.br (c := (1 : Int32) = 0) (tt := 98) (ff := 86) (L' := [.retAddr 0, .retAddr 0, .int v2, .retAddr 0, .int v4, .int v5, .ref 71, .ref 61]) (S' := []) (σ' := (97, I, J, R)) rfl (fun hn => absurd hn (by decide)) (fun _ => ?_)
                        refine az_E.sn 3 (pc' := 92) (L' := [.retAddr 0, .retAddr 0, .int v2, .retAddr 0, .int v4, .int v5, .ref 71, .ref 61]) (S' := [.int v5, .int v4, .ref 61]) (σ' := (97, I, J, R)) rfl ?_
                        refine az_E.call (d := 1) (k' := 60) (vs := [.ref 61, .int v4, .int v5]) (pc' := 95) (S' := []) rfl ?_ (fun _ _ hq => hq)
                        show az_E az_F ex 1 60 0 [.ref 61, .int v4, .int v5] [] (97, I, J, R) _
                        refine az_E.sn 1 (pc' := 1) (L' := [.ref 61, .int v4, .int v5]) (S' := [.int v4]) (σ' := (97, I, J, R)) rfl ?_
                        refine az_E.br (c := v4 < 0) (tt := 30) (ff := 4) (L' := [.ref 61, .int v4, .int v5]) (S' := []) (σ' := (97, I, J, R)) rfl (fun hc_1643 => ?_) (fun hc_1643 => ?_)
                        · rw [if_pos hc_1643] at h
                          refine az_E.sn 1 (pc' := 31) (L' := [.ref 61, .int v4, .int v5]) (S' := [.int (0 : Int32)]) (σ' := (97, I, J, R)) rfl ?_
                          refine az_E.ret (v := some (.int (0 : Int32))) (σ' := (97, I, J, R)) rfl ?_
                          show az_E az_F ex 2 128 95 [.retAddr 0, .retAddr 0, .int v2, .retAddr 0, .int v4, .int v5, .ref 71, .ref 61] [.int (0 : Int32)] (97, I, J, R) _
                          refine az_E.br (c := (0 : Int32) = 0) (tt := 98) (ff := 101) (L' := [.retAddr 0, .retAddr 0, .int v2, .retAddr 0, .int v4, .int v5, .ref 71, .ref 61]) (S' := []) (σ' := (97, I, J, R)) rfl (fun _ => ?_) (fun hn => absurd (by decide) hn)
                          refine az_E.sn 1 (pc' := 100) (L' := [.retAddr 0, .retAddr 0, .int v2, .retAddr 0, .int v4, .int v5, .ref 71, .ref 61]) (S' := [.int (-13 : Int32)]) (σ' := (97, I, J, R)) rfl ?_
                          have h := Option.some.inj h
                          subst h
                          exact az_E.ret (v := some (.int (-13 : Int32))) (σ' := (97, I, J, R)) rfl hQ
                        · rw [if_neg hc_1643] at h
                          refine az_E.sn 1 (pc' := 5) (L' := [.ref 61, .int v4, .int v5]) (S' := [.int v5]) (σ' := (97, I, J, R)) rfl ?_
                          refine az_E.br (c := v5 < 0) (tt := 30) (ff := 8) (L' := [.ref 61, .int v4, .int v5]) (S' := []) (σ' := (97, I, J, R)) rfl (fun hc_1644 => ?_) (fun hc_1644 => ?_)
                          · rw [if_pos hc_1644] at h
                            refine az_E.sn 1 (pc' := 31) (L' := [.ref 61, .int v4, .int v5]) (S' := [.int (0 : Int32)]) (σ' := (97, I, J, R)) rfl ?_
                            refine az_E.ret (v := some (.int (0 : Int32))) (σ' := (97, I, J, R)) rfl ?_
                            show az_E az_F ex 2 128 95 [.retAddr 0, .retAddr 0, .int v2, .retAddr 0, .int v4, .int v5, .ref 71, .ref 61] [.int (0 : Int32)] (97, I, J, R) _
                            refine az_E.br (c := (0 : Int32) = 0) (tt := 98) (ff := 101) (L' := [.retAddr 0, .retAddr 0, .int v2, .retAddr 0, .int v4, .int v5, .ref 71, .ref 61]) (S' := []) (σ' := (97, I, J, R)) rfl (fun _ => ?_) (fun hn => absurd (by decide) hn)
                            refine az_E.sn 1 (pc' := 100) (L' := [.retAddr 0, .retAddr 0, .int v2, .retAddr 0, .int v4, .int v5, .ref 71, .ref 61]) (S' := [.int (-13 : Int32)]) (σ' := (97, I, J, R)) rfl ?_
                            have h := Option.some.inj h
                            subst h
                            exact az_E.ret (v := some (.int (-13 : Int32))) (σ' := (97, I, J, R)) rfl hQ
                          · rw [if_neg hc_1644] at h
                            refine az_E.sn 3 (pc' := 13) (L' := [.ref 61, .int v4, .int v5]) (S' := [.int (I 61 2), .int v4]) (σ' := (97, I, J, R)) rfl ?_
                            refine az_E.br (c := (I 61 2) < v4) (tt := 30) (ff := 16) (L' := [.ref 61, .int v4, .int v5]) (S' := []) (σ' := (97, I, J, R)) rfl (fun hc_1645 => ?_) (fun hc_1645 => ?_)
                            · rw [if_pos hc_1645] at h
                              refine az_E.sn 1 (pc' := 31) (L' := [.ref 61, .int v4, .int v5]) (S' := [.int (0 : Int32)]) (σ' := (97, I, J, R)) rfl ?_
                              refine az_E.ret (v := some (.int (0 : Int32))) (σ' := (97, I, J, R)) rfl ?_
                              show az_E az_F ex 2 128 95 [.retAddr 0, .retAddr 0, .int v2, .retAddr 0, .int v4, .int v5, .ref 71, .ref 61] [.int (0 : Int32)] (97, I, J, R) _
                              refine az_E.br (c := (0 : Int32) = 0) (tt := 98) (ff := 101) (L' := [.retAddr 0, .retAddr 0, .int v2, .retAddr 0, .int v4, .int v5, .ref 71, .ref 61]) (S' := []) (σ' := (97, I, J, R)) rfl (fun _ => ?_) (fun hn => absurd (by decide) hn)
                              refine az_E.sn 1 (pc' := 100) (L' := [.retAddr 0, .retAddr 0, .int v2, .retAddr 0, .int v4, .int v5, .ref 71, .ref 61]) (S' := [.int (-13 : Int32)]) (σ' := (97, I, J, R)) rfl ?_
                              have h := Option.some.inj h
                              subst h
                              exact az_E.ret (v := some (.int (-13 : Int32))) (σ' := (97, I, J, R)) rfl hQ
                            · rw [if_neg hc_1645] at h
                              refine az_E.sn 5 (pc' := 23) (L' := [.ref 61, .int v4, .int v5]) (S' := [.int ((I 61 2) - v4), .int v5]) (σ' := (97, I, J, R)) rfl ?_
                              refine az_E.br (c := ((I 61 2) - v4) < v5) (tt := 30) (ff := 26) (L' := [.ref 61, .int v4, .int v5]) (S' := []) (σ' := (97, I, J, R)) rfl (fun hc_1646 => ?_) (fun hc_1646 => ?_)
                              · rw [if_pos hc_1646] at h
                                refine az_E.sn 1 (pc' := 31) (L' := [.ref 61, .int v4, .int v5]) (S' := [.int (0 : Int32)]) (σ' := (97, I, J, R)) rfl ?_
                                refine az_E.ret (v := some (.int (0 : Int32))) (σ' := (97, I, J, R)) rfl ?_
                                show az_E az_F ex 2 128 95 [.retAddr 0, .retAddr 0, .int v2, .retAddr 0, .int v4, .int v5, .ref 71, .ref 61] [.int (0 : Int32)] (97, I, J, R) _
                                refine az_E.br (c := (0 : Int32) = 0) (tt := 98) (ff := 101) (L' := [.retAddr 0, .retAddr 0, .int v2, .retAddr 0, .int v4, .int v5, .ref 71, .ref 61]) (S' := []) (σ' := (97, I, J, R)) rfl (fun _ => ?_) (fun hn => absurd (by decide) hn)
                                refine az_E.sn 1 (pc' := 100) (L' := [.retAddr 0, .retAddr 0, .int v2, .retAddr 0, .int v4, .int v5, .ref 71, .ref 61]) (S' := [.int (-13 : Int32)]) (σ' := (97, I, J, R)) rfl ?_
                                have h := Option.some.inj h
                                subst h
                                exact az_E.ret (v := some (.int (-13 : Int32))) (σ' := (97, I, J, R)) rfl hQ
                              · rw [if_neg hc_1646] at h
                                refine az_E.sn 2 (pc' := 31) (L' := [.ref 61, .int v4, .int v5]) (S' := [.int (1 : Int32)]) (σ' := (97, I, J, R)) rfl ?_
                                refine az_E.ret (v := some (.int (1 : Int32))) (σ' := (97, I, J, R)) rfl ?_
                                show az_E az_F ex 2 128 95 [.retAddr 0, .retAddr 0, .int v2, .retAddr 0, .int v4, .int v5, .ref 71, .ref 61] [.int (1 : Int32)] (97, I, J, R) _
                                refine az_E.br (c := (1 : Int32) = 0) (tt := 98) (ff := 101) (L' := [.retAddr 0, .retAddr 0, .int v2, .retAddr 0, .int v4, .int v5, .ref 71, .ref 61]) (S' := []) (σ' := (97, I, J, R)) rfl (fun hn => absurd hn (by decide)) (fun _ => ?_)
                                refine az_E.sn 7 (pc' := 116) (L' := [.retAddr 0, .retAddr 0, .int v2, .retAddr 0, .int v4, .int v5, .ref 71, .ref 61]) (S' := [.int v5, .int v4, .ref (61 + 1), .int v2, .ref (71 + 1)]) (σ' := (97, I, J, R)) rfl ?_
                                by_cases hc_1647 : v2 < 0 ∨ v4 < 0 ∨ v5 < 0 ∨ 60 < v2.toNatClampNeg + v5.toNatClampNeg ∨ 60 < v4.toNatClampNeg + v5.toNatClampNeg
                                · rw [if_pos hc_1647] at h; cases h
                                · rw [if_neg hc_1647] at h
                                  refine az_E.o (o := az_cp az_F (97, I, J, R) (71 + 1) v2 (61 + 1) v4 v5) (pc' := 119) (L' := [.retAddr 0, .retAddr 0, .int v2, .retAddr 0, .int v4, .int v5, .ref 71, .ref 61]) (S' := []) (x := (97, I, (az_ur J (61 + 1) (va_cpy (J (71 + 1)) (J (61 + 1)) v2.toNatClampNeg v4.toNatClampNeg v5.toNatClampNeg)), R)) rfl (if_neg hc_1647) ?_
                                  refine az_E.sn 1 (pc' := 121) (L' := [.retAddr 0, .retAddr 0, .int v2, .retAddr 0, .int v4, .int v5, .ref 71, .ref 61]) (S' := [.int v5]) (σ' := (97, I, (az_ur J (61 + 1) (va_cpy (J (71 + 1)) (J (61 + 1)) v2.toNatClampNeg v4.toNatClampNeg v5.toNatClampNeg)), R)) rfl ?_
                                  have h := Option.some.inj h
                                  subst h
                                  exact az_E.ret (v := some (.int v5)) (σ' := (97, I, (az_ur J (61 + 1) (va_cpy (J (71 + 1)) (J (61 + 1)) v2.toNatClampNeg v4.toNatClampNeg v5.toNatClampNeg)), R)) rfl hQ
              · rw [if_neg hc_1638] at h
                refine az_E.sn 1 (pc' := 20) (L' := [.ref 61, .int (I 71 1)]) (S' := [.int (0 : Int32)]) (σ' := (97, I, J, R)) rfl ?_
                refine az_E.ret (v := some (.int (0 : Int32))) (σ' := (97, I, J, R)) rfl ?_
                show az_E az_F ex 2 128 69 [.retAddr 0, .retAddr 0, .int v2, .retAddr 0, .int v4, .int v5, .ref 71, .ref 61] [.int (0 : Int32)] (97, I, J, R) _
                refine az_E.br (c := (0 : Int32) = 0) (tt := 72) (ff := 75) (L' := [.retAddr 0, .retAddr 0, .int v2, .retAddr 0, .int v4, .int v5, .ref 71, .ref 61]) (S' := []) (σ' := (97, I, J, R)) rfl (fun _ => ?_) (fun hn => absurd (by decide) hn)
                refine az_E.sn 1 (pc' := 74) (L' := [.retAddr 0, .retAddr 0, .int v2, .retAddr 0, .int v4, .int v5, .ref 71, .ref 61]) (S' := [.int (-12 : Int32)]) (σ' := (97, I, J, R)) rfl ?_
                have h := Option.some.inj h
                subst h
                exact az_E.ret (v := some (.int (-12 : Int32))) (σ' := (97, I, J, R)) rfl hQ
      · rw [if_neg hc_1634] at h
        refine az_E.sn 1 (pc' := 21) (L' := [.ref 61]) (S' := [.int (0 : Int32)]) (σ' := (97, I, J, R)) rfl ?_
        refine az_E.ret (v := some (.int (0 : Int32))) (σ' := (97, I, J, R)) rfl ?_
        show az_E az_F ex 2 128 45 [.retAddr 0, .retAddr 0, .int v2, .retAddr 0, .int v4, .int v5, .ref 71, .ref 61] [.int (0 : Int32)] (97, I, J, R) _
        refine az_E.br (c := (0 : Int32) = 0) (tt := 51) (ff := 48) (L' := [.retAddr 0, .retAddr 0, .int v2, .retAddr 0, .int v4, .int v5, .ref 71, .ref 61]) (S' := []) (σ' := (97, I, J, R)) rfl (fun _ => ?_) (fun hn => absurd (by decide) hn)
        refine az_E.sn 1 (pc' := 53) (L' := [.retAddr 0, .retAddr 0, .int v2, .retAddr 0, .int v4, .int v5, .ref 71, .ref 61]) (S' := [.ref 71]) (σ' := (97, I, J, R)) rfl ?_
        refine az_E.call (d := 1) (k' := 55) (vs := [.ref 71]) (pc' := 56) (S' := []) rfl ?_ (fun _ _ hq => hq)
        show az_E az_F ex 1 55 0 [.ref 71] [] (97, I, J, R) _
        refine az_E.sn 3 (pc' := 5) (L' := [.ref 71]) (S' := [.int (-1 : Int32), .int (I 71 1)]) (σ' := (97, I, J, R)) rfl ?_
        refine az_E.br (c := (I 71 1) = (-1 : Int32)) (tt := 12) (ff := 8) (L' := [.ref 71]) (S' := []) (σ' := (97, I, J, R)) rfl (fun hc_1648 => ?_) (fun hc_1648 => ?_)
        · rw [if_pos hc_1648] at h
          refine az_E.sn 1 (pc' := 13) (L' := [.ref 71]) (S' := [.int (0 : Int32)]) (σ' := (97, I, J, R)) rfl ?_
          refine az_E.ret (v := some (.int (0 : Int32))) (σ' := (97, I, J, R)) rfl ?_
          show az_E az_F ex 2 128 56 [.retAddr 0, .retAddr 0, .int v2, .retAddr 0, .int v4, .int v5, .ref 71, .ref 61] [.int (0 : Int32)] (97, I, J, R) _
          refine az_E.br (c := (0 : Int32) = 0) (tt := 72) (ff := 59) (L' := [.retAddr 0, .retAddr 0, .int v2, .retAddr 0, .int v4, .int v5, .ref 71, .ref 61]) (S' := []) (σ' := (97, I, J, R)) rfl (fun _ => ?_) (fun hn => absurd (by decide) hn)
          refine az_E.sn 1 (pc' := 74) (L' := [.retAddr 0, .retAddr 0, .int v2, .retAddr 0, .int v4, .int v5, .ref 71, .ref 61]) (S' := [.int (-12 : Int32)]) (σ' := (97, I, J, R)) rfl ?_
          have h := Option.some.inj h
          subst h
          exact az_E.ret (v := some (.int (-12 : Int32))) (σ' := (97, I, J, R)) rfl hQ
        · rw [if_neg hc_1648] at h
          refine az_E.sn 2 (pc' := 13) (L' := [.ref 71]) (S' := [.int (1 : Int32)]) (σ' := (97, I, J, R)) rfl ?_
          refine az_E.ret (v := some (.int (1 : Int32))) (σ' := (97, I, J, R)) rfl ?_
          show az_E az_F ex 2 128 56 [.retAddr 0, .retAddr 0, .int v2, .retAddr 0, .int v4, .int v5, .ref 71, .ref 61] [.int (1 : Int32)] (97, I, J, R) _
          refine az_E.br (c := (1 : Int32) = 0) (tt := 72) (ff := 59) (L' := [.retAddr 0, .retAddr 0, .int v2, .retAddr 0, .int v4, .int v5, .ref 71, .ref 61]) (S' := []) (σ' := (97, I, J, R)) rfl (fun hn => absurd hn (by decide)) (fun _ => ?_)
          refine az_E.sn 3 (pc' := 66) (L' := [.retAddr 0, .retAddr 0, .int v2, .retAddr 0, .int v4, .int v5, .ref 71, .ref 61]) (S' := [.int (I 71 1), .ref 61]) (σ' := (97, I, J, R)) rfl ?_
          refine az_E.call (d := 1) (k' := 56) (vs := [.ref 61, .int (I 71 1)]) (pc' := 69) (S' := []) rfl ?_ (fun _ _ hq => hq)
          show az_E az_F ex 1 56 0 [.ref 61, .int (I 71 1)] [] (97, I, J, R) _
          refine az_E.sn 1 (pc' := 1) (L' := [.ref 61, .int (I 71 1)]) (S' := [.ref 61]) (σ' := (97, I, J, R)) rfl ?_
          refine az_E.call (d := 0) (k' := 55) (vs := [.ref 61]) (pc' := 4) (S' := []) rfl ?_ (fun _ _ hq => hq)
          show az_E az_F ex 0 55 0 [.ref 61] [] (97, I, J, R) _
          refine az_E.sn 3 (pc' := 5) (L' := [.ref 61]) (S' := [.int (-1 : Int32), .int (I 61 1)]) (σ' := (97, I, J, R)) rfl ?_
          refine az_E.br (c := (I 61 1) = (-1 : Int32)) (tt := 12) (ff := 8) (L' := [.ref 61]) (S' := []) (σ' := (97, I, J, R)) rfl (fun hc_1649 => ?_) (fun hc_1649 => ?_)
          · rw [if_pos hc_1649] at h
            refine az_E.sn 1 (pc' := 13) (L' := [.ref 61]) (S' := [.int (0 : Int32)]) (σ' := (97, I, J, R)) rfl ?_
            refine az_E.ret (v := some (.int (0 : Int32))) (σ' := (97, I, J, R)) rfl ?_
            show az_E az_F ex 1 56 4 [.ref 61, .int (I 71 1)] [.int (0 : Int32)] (97, I, J, R) _
            refine az_E.br (c := (0 : Int32) = 0) (tt := 19) (ff := 7) (L' := [.ref 61, .int (I 71 1)]) (S' := []) (σ' := (97, I, J, R)) rfl (fun _ => ?_) (fun hn => absurd (by decide) hn)
            refine az_E.sn 1 (pc' := 20) (L' := [.ref 61, .int (I 71 1)]) (S' := [.int (0 : Int32)]) (σ' := (97, I, J, R)) rfl ?_
            refine az_E.ret (v := some (.int (0 : Int32))) (σ' := (97, I, J, R)) rfl ?_
            show az_E az_F ex 2 128 69 [.retAddr 0, .retAddr 0, .int v2, .retAddr 0, .int v4, .int v5, .ref 71, .ref 61] [.int (0 : Int32)] (97, I, J, R) _
            refine az_E.br (c := (0 : Int32) = 0) (tt := 72) (ff := 75) (L' := [.retAddr 0, .retAddr 0, .int v2, .retAddr 0, .int v4, .int v5, .ref 71, .ref 61]) (S' := []) (σ' := (97, I, J, R)) rfl (fun _ => ?_) (fun hn => absurd (by decide) hn)
            refine az_E.sn 1 (pc' := 74) (L' := [.retAddr 0, .retAddr 0, .int v2, .retAddr 0, .int v4, .int v5, .ref 71, .ref 61]) (S' := [.int (-12 : Int32)]) (σ' := (97, I, J, R)) rfl ?_
            have h := Option.some.inj h
            subst h
            exact az_E.ret (v := some (.int (-12 : Int32))) (σ' := (97, I, J, R)) rfl hQ
          · rw [if_neg hc_1649] at h
            refine az_E.sn 2 (pc' := 13) (L' := [.ref 61]) (S' := [.int (1 : Int32)]) (σ' := (97, I, J, R)) rfl ?_
            refine az_E.ret (v := some (.int (1 : Int32))) (σ' := (97, I, J, R)) rfl ?_
            show az_E az_F ex 1 56 4 [.ref 61, .int (I 71 1)] [.int (1 : Int32)] (97, I, J, R) _
            refine az_E.br (c := (1 : Int32) = 0) (tt := 19) (ff := 7) (L' := [.ref 61, .int (I 71 1)]) (S' := []) (σ' := (97, I, J, R)) rfl (fun hn => absurd hn (by decide)) (fun _ => ?_)
            refine az_E.sn 3 (pc' := 12) (L' := [.ref 61, .int (I 71 1)]) (S' := [.int (I 71 1), .int (I 61 1)]) (σ' := (97, I, J, R)) rfl ?_
            refine az_E.br (c := (I 61 1) = (I 71 1)) (tt := 15) (ff := 19) (L' := [.ref 61, .int (I 71 1)]) (S' := []) (σ' := (97, I, J, R)) rfl (fun hc_1650 => ?_) (fun hc_1650 => ?_)
            · rw [if_pos hc_1650] at h
              refine az_E.sn 2 (pc' := 20) (L' := [.ref 61, .int (I 71 1)]) (S' := [.int (1 : Int32)]) (σ' := (97, I, J, R)) rfl ?_
              refine az_E.ret (v := some (.int (1 : Int32))) (σ' := (97, I, J, R)) rfl ?_
              show az_E az_F ex 2 128 69 [.retAddr 0, .retAddr 0, .int v2, .retAddr 0, .int v4, .int v5, .ref 71, .ref 61] [.int (1 : Int32)] (97, I, J, R) _
              refine az_E.br (c := (1 : Int32) = 0) (tt := 72) (ff := 75) (L' := [.retAddr 0, .retAddr 0, .int v2, .retAddr 0, .int v4, .int v5, .ref 71, .ref 61]) (S' := []) (σ' := (97, I, J, R)) rfl (fun hn => absurd hn (by decide)) (fun _ => ?_)
              refine az_E.sn 3 (pc' := 80) (L' := [.retAddr 0, .retAddr 0, .int v2, .retAddr 0, .int v4, .int v5, .ref 71, .ref 61]) (S' := [.int v5, .int v2, .ref 71]) (σ' := (97, I, J, R)) rfl ?_
              refine az_E.call (d := 1) (k' := 60) (vs := [.ref 71, .int v2, .int v5]) (pc' := 83) (S' := []) rfl ?_ (fun _ _ hq => hq)
              show az_E az_F ex 1 60 0 [.ref 71, .int v2, .int v5] [] (97, I, J, R) _
              refine az_E.sn 1 (pc' := 1) (L' := [.ref 71, .int v2, .int v5]) (S' := [.int v2]) (σ' := (97, I, J, R)) rfl ?_
              refine az_E.br (c := v2 < 0) (tt := 30) (ff := 4) (L' := [.ref 71, .int v2, .int v5]) (S' := []) (σ' := (97, I, J, R)) rfl (fun hc_1651 => ?_) (fun hc_1651 => ?_)
              · rw [if_pos hc_1651] at h
                refine az_E.sn 1 (pc' := 31) (L' := [.ref 71, .int v2, .int v5]) (S' := [.int (0 : Int32)]) (σ' := (97, I, J, R)) rfl ?_
                refine az_E.ret (v := some (.int (0 : Int32))) (σ' := (97, I, J, R)) rfl ?_
                show az_E az_F ex 2 128 83 [.retAddr 0, .retAddr 0, .int v2, .retAddr 0, .int v4, .int v5, .ref 71, .ref 61] [.int (0 : Int32)] (97, I, J, R) _
                refine az_E.br (c := (0 : Int32) = 0) (tt := 98) (ff := 86) (L' := [.retAddr 0, .retAddr 0, .int v2, .retAddr 0, .int v4, .int v5, .ref 71, .ref 61]) (S' := []) (σ' := (97, I, J, R)) rfl (fun _ => ?_) (fun hn => absurd (by decide) hn)
                refine az_E.sn 1 (pc' := 100) (L' := [.retAddr 0, .retAddr 0, .int v2, .retAddr 0, .int v4, .int v5, .ref 71, .ref 61]) (S' := [.int (-13 : Int32)]) (σ' := (97, I, J, R)) rfl ?_
                have h := Option.some.inj h
                subst h
                exact az_E.ret (v := some (.int (-13 : Int32))) (σ' := (97, I, J, R)) rfl hQ
              · rw [if_neg hc_1651] at h
                refine az_E.sn 1 (pc' := 5) (L' := [.ref 71, .int v2, .int v5]) (S' := [.int v5]) (σ' := (97, I, J, R)) rfl ?_
                refine az_E.br (c := v5 < 0) (tt := 30) (ff := 8) (L' := [.ref 71, .int v2, .int v5]) (S' := []) (σ' := (97, I, J, R)) rfl (fun hc_1652 => ?_) (fun hc_1652 => ?_)
                · rw [if_pos hc_1652] at h
                  refine az_E.sn 1 (pc' := 31) (L' := [.ref 71, .int v2, .int v5]) (S' := [.int (0 : Int32)]) (σ' := (97, I, J, R)) rfl ?_
                  refine az_E.ret (v := some (.int (0 : Int32))) (σ' := (97, I, J, R)) rfl ?_
                  show az_E az_F ex 2 128 83 [.retAddr 0, .retAddr 0, .int v2, .retAddr 0, .int v4, .int v5, .ref 71, .ref 61] [.int (0 : Int32)] (97, I, J, R) _
                  refine az_E.br (c := (0 : Int32) = 0) (tt := 98) (ff := 86) (L' := [.retAddr 0, .retAddr 0, .int v2, .retAddr 0, .int v4, .int v5, .ref 71, .ref 61]) (S' := []) (σ' := (97, I, J, R)) rfl (fun _ => ?_) (fun hn => absurd (by decide) hn)
                  refine az_E.sn 1 (pc' := 100) (L' := [.retAddr 0, .retAddr 0, .int v2, .retAddr 0, .int v4, .int v5, .ref 71, .ref 61]) (S' := [.int (-13 : Int32)]) (σ' := (97, I, J, R)) rfl ?_
                  have h := Option.some.inj h
                  subst h
                  exact az_E.ret (v := some (.int (-13 : Int32))) (σ' := (97, I, J, R)) rfl hQ
                · rw [if_neg hc_1652] at h
                  refine az_E.sn 3 (pc' := 13) (L' := [.ref 71, .int v2, .int v5]) (S' := [.int (I 71 2), .int v2]) (σ' := (97, I, J, R)) rfl ?_
                  refine az_E.br (c := (I 71 2) < v2) (tt := 30) (ff := 16) (L' := [.ref 71, .int v2, .int v5]) (S' := []) (σ' := (97, I, J, R)) rfl (fun hc_1653 => ?_) (fun hc_1653 => ?_)
                  · rw [if_pos hc_1653] at h
                    refine az_E.sn 1 (pc' := 31) (L' := [.ref 71, .int v2, .int v5]) (S' := [.int (0 : Int32)]) (σ' := (97, I, J, R)) rfl ?_
                    refine az_E.ret (v := some (.int (0 : Int32))) (σ' := (97, I, J, R)) rfl ?_
                    show az_E az_F ex 2 128 83 [.retAddr 0, .retAddr 0, .int v2, .retAddr 0, .int v4, .int v5, .ref 71, .ref 61] [.int (0 : Int32)] (97, I, J, R) _
                    refine az_E.br (c := (0 : Int32) = 0) (tt := 98) (ff := 86) (L' := [.retAddr 0, .retAddr 0, .int v2, .retAddr 0, .int v4, .int v5, .ref 71, .ref 61]) (S' := []) (σ' := (97, I, J, R)) rfl (fun _ => ?_) (fun hn => absurd (by decide) hn)
                    refine az_E.sn 1 (pc' := 100) (L' := [.retAddr 0, .retAddr 0, .int v2, .retAddr 0, .int v4, .int v5, .ref 71, .ref 61]) (S' := [.int (-13 : Int32)]) (σ' := (97, I, J, R)) rfl ?_
                    have h := Option.some.inj h
                    subst h
                    exact az_E.ret (v := some (.int (-13 : Int32))) (σ' := (97, I, J, R)) rfl hQ
                  · rw [if_neg hc_1653] at h
                    refine az_E.sn 5 (pc' := 23) (L' := [.ref 71, .int v2, .int v5]) (S' := [.int ((I 71 2) - v2), .int v5]) (σ' := (97, I, J, R)) rfl ?_
                    refine az_E.br (c := ((I 71 2) - v2) < v5) (tt := 30) (ff := 26) (L' := [.ref 71, .int v2, .int v5]) (S' := []) (σ' := (97, I, J, R)) rfl (fun hc_1654 => ?_) (fun hc_1654 => ?_)
                    · rw [if_pos hc_1654] at h
                      refine az_E.sn 1 (pc' := 31) (L' := [.ref 71, .int v2, .int v5]) (S' := [.int (0 : Int32)]) (σ' := (97, I, J, R)) rfl ?_
                      refine az_E.ret (v := some (.int (0 : Int32))) (σ' := (97, I, J, R)) rfl ?_
                      show az_E az_F ex 2 128 83 [.retAddr 0, .retAddr 0, .int v2, .retAddr 0, .int v4, .int v5, .ref 71, .ref 61] [.int (0 : Int32)] (97, I, J, R) _
                      refine az_E.br (c := (0 : Int32) = 0) (tt := 98) (ff := 86) (L' := [.retAddr 0, .retAddr 0, .int v2, .retAddr 0, .int v4, .int v5, .ref 71, .ref 61]) (S' := []) (σ' := (97, I, J, R)) rfl (fun _ => ?_) (fun hn => absurd (by decide) hn)
                      refine az_E.sn 1 (pc' := 100) (L' := [.retAddr 0, .retAddr 0, .int v2, .retAddr 0, .int v4, .int v5, .ref 71, .ref 61]) (S' := [.int (-13 : Int32)]) (σ' := (97, I, J, R)) rfl ?_
                      have h := Option.some.inj h
                      subst h
                      exact az_E.ret (v := some (.int (-13 : Int32))) (σ' := (97, I, J, R)) rfl hQ
                    · rw [if_neg hc_1654] at h
                      refine az_E.sn 2 (pc' := 31) (L' := [.ref 71, .int v2, .int v5]) (S' := [.int (1 : Int32)]) (σ' := (97, I, J, R)) rfl ?_
                      refine az_E.ret (v := some (.int (1 : Int32))) (σ' := (97, I, J, R)) rfl ?_
                      show az_E az_F ex 2 128 83 [.retAddr 0, .retAddr 0, .int v2, .retAddr 0, .int v4, .int v5, .ref 71, .ref 61] [.int (1 : Int32)] (97, I, J, R) _
                      refine az_E.br (c := (1 : Int32) = 0) (tt := 98) (ff := 86) (L' := [.retAddr 0, .retAddr 0, .int v2, .retAddr 0, .int v4, .int v5, .ref 71, .ref 61]) (S' := []) (σ' := (97, I, J, R)) rfl (fun hn => absurd hn (by decide)) (fun _ => ?_)
                      refine az_E.sn 3 (pc' := 92) (L' := [.retAddr 0, .retAddr 0, .int v2, .retAddr 0, .int v4, .int v5, .ref 71, .ref 61]) (S' := [.int v5, .int v4, .ref 61]) (σ' := (97, I, J, R)) rfl ?_
                      refine az_E.call (d := 1) (k' := 60) (vs := [.ref 61, .int v4, .int v5]) (pc' := 95) (S' := []) rfl ?_ (fun _ _ hq => hq)
                      show az_E az_F ex 1 60 0 [.ref 61, .int v4, .int v5] [] (97, I, J, R) _
                      refine az_E.sn 1 (pc' := 1) (L' := [.ref 61, .int v4, .int v5]) (S' := [.int v4]) (σ' := (97, I, J, R)) rfl ?_
                      refine az_E.br (c := v4 < 0) (tt := 30) (ff := 4) (L' := [.ref 61, .int v4, .int v5]) (S' := []) (σ' := (97, I, J, R)) rfl (fun hc_1655 => ?_) (fun hc_1655 => ?_)
                      · rw [if_pos hc_1655] at h
                        refine az_E.sn 1 (pc' := 31) (L' := [.ref 61, .int v4, .int v5]) (S' := [.int (0 : Int32)]) (σ' := (97, I, J, R)) rfl ?_
                        refine az_E.ret (v := some (.int (0 : Int32))) (σ' := (97, I, J, R)) rfl ?_
                        show az_E az_F ex 2 128 95 [.retAddr 0, .retAddr 0, .int v2, .retAddr 0, .int v4, .int v5, .ref 71, .ref 61] [.int (0 : Int32)] (97, I, J, R) _
                        refine az_E.br (c := (0 : Int32) = 0) (tt := 98) (ff := 101) (L' := [.retAddr 0, .retAddr 0, .int v2, .retAddr 0, .int v4, .int v5, .ref 71, .ref 61]) (S' := []) (σ' := (97, I, J, R)) rfl (fun _ => ?_) (fun hn => absurd (by decide) hn)
                        refine az_E.sn 1 (pc' := 100) (L' := [.retAddr 0, .retAddr 0, .int v2, .retAddr 0, .int v4, .int v5, .ref 71, .ref 61]) (S' := [.int (-13 : Int32)]) (σ' := (97, I, J, R)) rfl ?_
                        have h := Option.some.inj h
                        subst h
                        exact az_E.ret (v := some (.int (-13 : Int32))) (σ' := (97, I, J, R)) rfl hQ
                      · rw [if_neg hc_1655] at h
                        refine az_E.sn 1 (pc' := 5) (L' := [.ref 61, .int v4, .int v5]) (S' := [.int v5]) (σ' := (97, I, J, R)) rfl ?_
                        refine az_E.br (c := v5 < 0) (tt := 30) (ff := 8) (L' := [.ref 61, .int v4, .int v5]) (S' := []) (σ' := (97, I, J, R)) rfl (fun hc_1656 => ?_) (fun hc_1656 => ?_)
                        · rw [if_pos hc_1656] at h
                          refine az_E.sn 1 (pc' := 31) (L' := [.ref 61, .int v4, .int v5]) (S' := [.int (0 : Int32)]) (σ' := (97, I, J, R)) rfl ?_
                          refine az_E.ret (v := some (.int (0 : Int32))) (σ' := (97, I, J, R)) rfl ?_
                          show az_E az_F ex 2 128 95 [.retAddr 0, .retAddr 0, .int v2, .retAddr 0, .int v4, .int v5, .ref 71, .ref 61] [.int (0 : Int32)] (97, I, J, R) _
                          refine az_E.br (c := (0 : Int32) = 0) (tt := 98) (ff := 101) (L' := [.retAddr 0, .retAddr 0, .int v2, .retAddr 0, .int v4, .int v5, .ref 71, .ref 61]) (S' := []) (σ' := (97, I, J, R)) rfl (fun _ => ?_) (fun hn => absurd (by decide) hn)
                          refine az_E.sn 1 (pc' := 100) (L' := [.retAddr 0, .retAddr 0, .int v2, .retAddr 0, .int v4, .int v5, .ref 71, .ref 61]) (S' := [.int (-13 : Int32)]) (σ' := (97, I, J, R)) rfl ?_
                          have h := Option.some.inj h
                          subst h
                          exact az_E.ret (v := some (.int (-13 : Int32))) (σ' := (97, I, J, R)) rfl hQ
                        · rw [if_neg hc_1656] at h
                          refine az_E.sn 3 (pc' := 13) (L' := [.ref 61, .int v4, .int v5]) (S' := [.int (I 61 2), .int v4]) (σ' := (97, I, J, R)) rfl ?_
                          refine az_E.br (c := (I 61 2) < v4) (tt := 30) (ff := 16) (L' := [.ref 61, .int v4, .int v5]) (S' := []) (σ' := (97, I, J, R)) rfl (fun hc_1657 => ?_) (fun hc_1657 => ?_)
                          · rw [if_pos hc_1657] at h
                            refine az_E.sn 1 (pc' := 31) (L' := [.ref 61, .int v4, .int v5]) (S' := [.int (0 : Int32)]) (σ' := (97, I, J, R)) rfl ?_
                            refine az_E.ret (v := some (.int (0 : Int32))) (σ' := (97, I, J, R)) rfl ?_
                            show az_E az_F ex 2 128 95 [.retAddr 0, .retAddr 0, .int v2, .retAddr 0, .int v4, .int v5, .ref 71, .ref 61] [.int (0 : Int32)] (97, I, J, R) _
                            refine az_E.br (c := (0 : Int32) = 0) (tt := 98) (ff := 101) (L' := [.retAddr 0, .retAddr 0, .int v2, .retAddr 0, .int v4, .int v5, .ref 71, .ref 61]) (S' := []) (σ' := (97, I, J, R)) rfl (fun _ => ?_) (fun hn => absurd (by decide) hn)
                            refine az_E.sn 1 (pc' := 100) (L' := [.retAddr 0, .retAddr 0, .int v2, .retAddr 0, .int v4, .int v5, .ref 71, .ref 61]) (S' := [.int (-13 : Int32)]) (σ' := (97, I, J, R)) rfl ?_
                            have h := Option.some.inj h
                            subst h
                            exact az_E.ret (v := some (.int (-13 : Int32))) (σ' := (97, I, J, R)) rfl hQ
                          · rw [if_neg hc_1657] at h
                            refine az_E.sn 5 (pc' := 23) (L' := [.ref 61, .int v4, .int v5]) (S' := [.int ((I 61 2) - v4), .int v5]) (σ' := (97, I, J, R)) rfl ?_
                            refine az_E.br (c := ((I 61 2) - v4) < v5) (tt := 30) (ff := 26) (L' := [.ref 61, .int v4, .int v5]) (S' := []) (σ' := (97, I, J, R)) rfl (fun hc_1658 => ?_) (fun hc_1658 => ?_)
                            · rw [if_pos hc_1658] at h
                              refine az_E.sn 1 (pc' := 31) (L' := [.ref 61, .int v4, .int v5]) (S' := [.int (0 : Int32)]) (σ' := (97, I, J, R)) rfl ?_
                              refine az_E.ret (v := some (.int (0 : Int32))) (σ' := (97, I, J, R)) rfl ?_
                              show az_E az_F ex 2 128 95 [.retAddr 0, .retAddr 0, .int v2, .retAddr 0, .int v4, .int v5, .ref 71, .ref 61] [.int (0 : Int32)] (97, I, J, R) _
                              refine az_E.br (c := (0 : Int32) = 0) (tt := 98) (ff := 101) (L' := [.retAddr 0, .retAddr 0, .int v2, .retAddr 0, .int v4, .int v5, .ref 71, .ref 61]) (S' := []) (σ' := (97, I, J, R)) rfl (fun _ => ?_) (fun hn => absurd (by decide) hn)
                              refine az_E.sn 1 (pc' := 100) (L' := [.retAddr 0, .retAddr 0, .int v2, .retAddr 0, .int v4, .int v5, .ref 71, .ref 61]) (S' := [.int (-13 : Int32)]) (σ' := (97, I, J, R)) rfl ?_
                              have h := Option.some.inj h
                              subst h
                              exact az_E.ret (v := some (.int (-13 : Int32))) (σ' := (97, I, J, R)) rfl hQ
                            · rw [if_neg hc_1658] at h
                              refine az_E.sn 2 (pc' := 31) (L' := [.ref 61, .int v4, .int v5]) (S' := [.int (1 : Int32)]) (σ' := (97, I, J, R)) rfl ?_
                              refine az_E.ret (v := some (.int (1 : Int32))) (σ' := (97, I, J, R)) rfl ?_
                              show az_E az_F ex 2 128 95 [.retAddr 0, .retAddr 0, .int v2, .retAddr 0, .int v4, .int v5, .ref 71, .ref 61] [.int (1 : Int32)] (97, I, J, R) _
                              refine az_E.br (c := (1 : Int32) = 0) (tt := 98) (ff := 101) (L' := [.retAddr 0, .retAddr 0, .int v2, .retAddr 0, .int v4, .int v5, .ref 71, .ref 61]) (S' := []) (σ' := (97, I, J, R)) rfl (fun hn => absurd hn (by decide)) (fun _ => ?_)
                              refine az_E.sn 7 (pc' := 116) (L' := [.retAddr 0, .retAddr 0, .int v2, .retAddr 0, .int v4, .int v5, .ref 71, .ref 61]) (S' := [.int v5, .int v4, .ref (61 + 1), .int v2, .ref (71 + 1)]) (σ' := (97, I, J, R)) rfl ?_
                              by_cases hc_1659 : v2 < 0 ∨ v4 < 0 ∨ v5 < 0 ∨ 60 < v2.toNatClampNeg + v5.toNatClampNeg ∨ 60 < v4.toNatClampNeg + v5.toNatClampNeg
                              · rw [if_pos hc_1659] at h; cases h
                              · rw [if_neg hc_1659] at h
                                refine az_E.o (o := az_cp az_F (97, I, J, R) (71 + 1) v2 (61 + 1) v4 v5) (pc' := 119) (L' := [.retAddr 0, .retAddr 0, .int v2, .retAddr 0, .int v4, .int v5, .ref 71, .ref 61]) (S' := []) (x := (97, I, (az_ur J (61 + 1) (va_cpy (J (71 + 1)) (J (61 + 1)) v2.toNatClampNeg v4.toNatClampNeg v5.toNatClampNeg)), R)) rfl (if_neg hc_1659) ?_
                                refine az_E.sn 1 (pc' := 121) (L' := [.retAddr 0, .retAddr 0, .int v2, .retAddr 0, .int v4, .int v5, .ref 71, .ref 61]) (S' := [.int v5]) (σ' := (97, I, (az_ur J (61 + 1) (va_cpy (J (71 + 1)) (J (61 + 1)) v2.toNatClampNeg v4.toNatClampNeg v5.toNatClampNeg)), R)) rfl ?_
                                have h := Option.some.inj h
                                subst h
                                exact az_E.ret (v := some (.int v5)) (σ' := (97, I, (az_ur J (61 + 1) (va_cpy (J (71 + 1)) (J (61 + 1)) v2.toNatClampNeg v4.toNatClampNeg v5.toNatClampNeg)), R)) rfl hQ
            · rw [if_neg hc_1650] at h
              refine az_E.sn 1 (pc' := 20) (L' := [.ref 61, .int (I 71 1)]) (S' := [.int (0 : Int32)]) (σ' := (97, I, J, R)) rfl ?_
              refine az_E.ret (v := some (.int (0 : Int32))) (σ' := (97, I, J, R)) rfl ?_
              show az_E az_F ex 2 128 69 [.retAddr 0, .retAddr 0, .int v2, .retAddr 0, .int v4, .int v5, .ref 71, .ref 61] [.int (0 : Int32)] (97, I, J, R) _
              refine az_E.br (c := (0 : Int32) = 0) (tt := 72) (ff := 75) (L' := [.retAddr 0, .retAddr 0, .int v2, .retAddr 0, .int v4, .int v5, .ref 71, .ref 61]) (S' := []) (σ' := (97, I, J, R)) rfl (fun _ => ?_) (fun hn => absurd (by decide) hn)
              refine az_E.sn 1 (pc' := 74) (L' := [.retAddr 0, .retAddr 0, .int v2, .retAddr 0, .int v4, .int v5, .ref 71, .ref 61]) (S' := [.int (-12 : Int32)]) (σ' := (97, I, J, R)) rfl ?_
              have h := Option.some.inj h
              subst h
              exact az_E.ret (v := some (.int (-12 : Int32))) (σ' := (97, I, J, R)) rfl hQ
  · rw [if_neg hc_1632] at h
    refine az_E.sn 1 (pc' := 21) (L' := [.ref 71]) (S' := [.int (0 : Int32)]) (σ' := (97, I, J, R)) rfl ?_
    refine az_E.ret (v := some (.int (0 : Int32))) (σ' := (97, I, J, R)) rfl ?_
    show az_E az_F ex 2 128 37 [.retAddr 0, .retAddr 0, .int v2, .retAddr 0, .int v4, .int v5, .ref 71, .ref 61] [.int (0 : Int32)] (97, I, J, R) _
    refine az_E.br (c := (0 : Int32) = 0) (tt := 40) (ff := 48) (L' := [.retAddr 0, .retAddr 0, .int v2, .retAddr 0, .int v4, .int v5, .ref 71, .ref 61]) (S' := []) (σ' := (97, I, J, R)) rfl (fun _ => ?_) (fun hn => absurd (by decide) hn)
    refine az_E.sn 1 (pc' := 42) (L' := [.retAddr 0, .retAddr 0, .int v2, .retAddr 0, .int v4, .int v5, .ref 71, .ref 61]) (S' := [.ref 61]) (σ' := (97, I, J, R)) rfl ?_
    refine az_E.call (d := 1) (k' := 54) (vs := [.ref 61]) (pc' := 45) (S' := []) rfl ?_ (fun _ _ hq => hq)
    show az_E az_F ex 1 54 0 [.ref 61] [] (97, I, J, R) _
    refine az_E.sn 3 (pc' := 5) (L' := [.ref 61]) (S' := [.int (-1 : Int32), .int (I 61 0)]) (σ' := (97, I, J, R)) rfl ?_
    refine az_E.br (c := (I 61 0) = (-1 : Int32)) (tt := 8) (ff := 20) (L' := [.ref 61]) (S' := []) (σ' := (97, I, J, R)) rfl (fun hc_1660 => ?_) (fun hc_1660 => ?_)
    · rw [if_pos hc_1660] at h
      refine az_E.sn 3 (pc' := 13) (L' := [.ref 61]) (S' := [.int (-1 : Int32), .int (I 61 1)]) (σ' := (97, I, J, R)) rfl ?_
      refine az_E.br (c := (I 61 1) = (-1 : Int32)) (tt := 16) (ff := 20) (L' := [.ref 61]) (S' := []) (σ' := (97, I, J, R)) rfl (fun hc_1661 => ?_) (fun hc_1661 => ?_)
      · rw [if_pos hc_1661] at h
        refine az_E.sn 2 (pc' := 21) (L' := [.ref 61]) (S' := [.int (1 : Int32)]) (σ' := (97, I, J, R)) rfl ?_
        refine az_E.ret (v := some (.int (1 : Int32))) (σ' := (97, I, J, R)) rfl ?_
        show az_E az_F ex 2 128 45 [.retAddr 0, .retAddr 0, .int v2, .retAddr 0, .int v4, .int v5, .ref 71, .ref 61] [.int (1 : Int32)] (97, I, J, R) _
        refine az_E.br (c := (1 : Int32) = 0) (tt := 51) (ff := 48) (L' := [.retAddr 0, .retAddr 0, .int v2, .retAddr 0, .int v4, .int v5, .ref 71, .ref 61]) (S' := []) (σ' := (97, I, J, R)) rfl (fun hn => absurd hn (by decide)) (fun _ => ?_)
        refine az_E.sn 1 (pc' := 50) (L' := [.retAddr 0, .retAddr 0, .int v2, .retAddr 0, .int v4, .int v5, .ref 71, .ref 61]) (S' := [.int (-11 : Int32)]) (σ' := (97, I, J, R)) rfl ?_
        have h := Option.some.inj h
        subst h
        exact az_E.ret (v := some (.int (-11 : Int32))) (σ' := (97, I, J, R)) rfl hQ
      · rw [if_neg hc_1661] at h
        refine az_E.sn 1 (pc' := 21) (L' := [.ref 61]) (S' := [.int (0 : Int32)]) (σ' := (97, I, J, R)) rfl ?_
        refine az_E.ret (v := some (.int (0 : Int32))) (σ' := (97, I, J, R)) rfl ?_
        show az_E az_F ex 2 128 45 [.retAddr 0, .retAddr 0, .int v2, .retAddr 0, .int v4, .int v5, .ref 71, .ref 61] [.int (0 : Int32)] (97, I, J, R) _
        refine az_E.br (c := (0 : Int32) = 0) (tt := 51) (ff := 48) (L' := [.retAddr 0, .retAddr 0, .int v2, .retAddr 0, .int v4, .int v5, .ref 71, .ref 61]) (S' := []) (σ' := (97, I, J, R)) rfl (fun _ => ?_) (fun hn => absurd (by decide) hn)
        refine az_E.sn 1 (pc' := 53) (L' := [.retAddr 0, .retAddr 0, .int v2, .retAddr 0, .int v4, .int v5, .ref 71, .ref 61]) (S' := [.ref 71]) (σ' := (97, I, J, R)) rfl ?_
        refine az_E.call (d := 1) (k' := 55) (vs := [.ref 71]) (pc' := 56) (S' := []) rfl ?_ (fun _ _ hq => hq)
        show az_E az_F ex 1 55 0 [.ref 71] [] (97, I, J, R) _
        refine az_E.sn 3 (pc' := 5) (L' := [.ref 71]) (S' := [.int (-1 : Int32), .int (I 71 1)]) (σ' := (97, I, J, R)) rfl ?_
        refine az_E.br (c := (I 71 1) = (-1 : Int32)) (tt := 12) (ff := 8) (L' := [.ref 71]) (S' := []) (σ' := (97, I, J, R)) rfl (fun hc_1662 => ?_) (fun hc_1662 => ?_)
        · rw [if_pos hc_1662] at h
          refine az_E.sn 1 (pc' := 13) (L' := [.ref 71]) (S' := [.int (0 : Int32)]) (σ' := (97, I, J, R)) rfl ?_
          refine az_E.ret (v := some (.int (0 : Int32))) (σ' := (97, I, J, R)) rfl ?_
          show az_E az_F ex 2 128 56 [.retAddr 0, .retAddr 0, .int v2, .retAddr 0, .int v4, .int v5, .ref 71, .ref 61] [.int (0 : Int32)] (97, I, J, R) _
          refine az_E.br (c := (0 : Int32) = 0) (tt := 72) (ff := 59) (L' := [.retAddr 0, .retAddr 0, .int v2, .retAddr 0, .int v4, .int v5, .ref 71, .ref 61]) (S' := []) (σ' := (97, I, J, R)) rfl (fun _ => ?_) (fun hn => absurd (by decide) hn)
          refine az_E.sn 1 (pc' := 74) (L' := [.retAddr 0, .retAddr 0, .int v2, .retAddr 0, .int v4, .int v5, .ref 71, .ref 61]) (S' := [.int (-12 : Int32)]) (σ' := (97, I, J, R)) rfl ?_
          have h := Option.some.inj h
          subst h
          exact az_E.ret (v := some (.int (-12 : Int32))) (σ' := (97, I, J, R)) rfl hQ
        · rw [if_neg hc_1662] at h
          refine az_E.sn 2 (pc' := 13) (L' := [.ref 71]) (S' := [.int (1 : Int32)]) (σ' := (97, I, J, R)) rfl ?_
          refine az_E.ret (v := some (.int (1 : Int32))) (σ' := (97, I, J, R)) rfl ?_
          show az_E az_F ex 2 128 56 [.retAddr 0, .retAddr 0, .int v2, .retAddr 0, .int v4, .int v5, .ref 71, .ref 61] [.int (1 : Int32)] (97, I, J, R) _
          refine az_E.br (c := (1 : Int32) = 0) (tt := 72) (ff := 59) (L' := [.retAddr 0, .retAddr 0, .int v2, .retAddr 0, .int v4, .int v5, .ref 71, .ref 61]) (S' := []) (σ' := (97, I, J, R)) rfl (fun hn => absurd hn (by decide)) (fun _ => ?_)
          refine az_E.sn 3 (pc' := 66) (L' := [.retAddr 0, .retAddr 0, .int v2, .retAddr 0, .int v4, .int v5, .ref 71, .ref 61]) (S' := [.int (I 71 1), .ref 61]) (σ' := (97, I, J, R)) rfl ?_
          refine az_E.call (d := 1) (k' := 56) (vs := [.ref 61, .int (I 71 1)]) (pc' := 69) (S' := []) rfl ?_ (fun _ _ hq => hq)
          show az_E az_F ex 1 56 0 [.ref 61, .int (I 71 1)] [] (97, I, J, R) _
          refine az_E.sn 1 (pc' := 1) (L' := [.ref 61, .int (I 71 1)]) (S' := [.ref 61]) (σ' := (97, I, J, R)) rfl ?_
          refine az_E.call (d := 0) (k' := 55) (vs := [.ref 61]) (pc' := 4) (S' := []) rfl ?_ (fun _ _ hq => hq)
          show az_E az_F ex 0 55 0 [.ref 61] [] (97, I, J, R) _
          refine az_E.sn 3 (pc' := 5) (L' := [.ref 61]) (S' := [.int (-1 : Int32), .int (I 61 1)]) (σ' := (97, I, J, R)) rfl ?_
          refine az_E.br (c := (I 61 1) = (-1 : Int32)) (tt := 12) (ff := 8) (L' := [.ref 61]) (S' := []) (σ' := (97, I, J, R)) rfl (fun hc_1663 => ?_) (fun hc_1663 => ?_)
          · rw [if_pos hc_1663] at h
            refine az_E.sn 1 (pc' := 13) (L' := [.ref 61]) (S' := [.int (0 : Int32)]) (σ' := (97, I, J, R)) rfl ?_
            refine az_E.ret (v := some (.int (0 : Int32))) (σ' := (97, I, J, R)) rfl ?_
            show az_E az_F ex 1 56 4 [.ref 61, .int (I 71 1)] [.int (0 : Int32)] (97, I, J, R) _
            refine az_E.br (c := (0 : Int32) = 0) (tt := 19) (ff := 7) (L' := [.ref 61, .int (I 71 1)]) (S' := []) (σ' := (97, I, J, R)) rfl (fun _ => ?_) (fun hn => absurd (by decide) hn)
            refine az_E.sn 1 (pc' := 20) (L' := [.ref 61, .int (I 71 1)]) (S' := [.int (0 : Int32)]) (σ' := (97, I, J, R)) rfl ?_
            refine az_E.ret (v := some (.int (0 : Int32))) (σ' := (97, I, J, R)) rfl ?_
            show az_E az_F ex 2 128 69 [.retAddr 0, .retAddr 0, .int v2, .retAddr 0, .int v4, .int v5, .ref 71, .ref 61] [.int (0 : Int32)] (97, I, J, R) _
            refine az_E.br (c := (0 : Int32) = 0) (tt := 72) (ff := 75) (L' := [.retAddr 0, .retAddr 0, .int v2, .retAddr 0, .int v4, .int v5, .ref 71, .ref 61]) (S' := []) (σ' := (97, I, J, R)) rfl (fun _ => ?_) (fun hn => absurd (by decide) hn)
            refine az_E.sn 1 (pc' := 74) (L' := [.retAddr 0, .retAddr 0, .int v2, .retAddr 0, .int v4, .int v5, .ref 71, .ref 61]) (S' := [.int (-12 : Int32)]) (σ' := (97, I, J, R)) rfl ?_
            have h := Option.some.inj h
            subst h
            exact az_E.ret (v := some (.int (-12 : Int32))) (σ' := (97, I, J, R)) rfl hQ
          · rw [if_neg hc_1663] at h
            refine az_E.sn 2 (pc' := 13) (L' := [.ref 61]) (S' := [.int (1 : Int32)]) (σ' := (97, I, J, R)) rfl ?_
            refine az_E.ret (v := some (.int (1 : Int32))) (σ' := (97, I, J, R)) rfl ?_
            show az_E az_F ex 1 56 4 [.ref 61, .int (I 71 1)] [.int (1 : Int32)] (97, I, J, R) _
            refine az_E.br (c := (1 : Int32) = 0) (tt := 19) (ff := 7) (L' := [.ref 61, .int (I 71 1)]) (S' := []) (σ' := (97, I, J, R)) rfl (fun hn => absurd hn (by decide)) (fun _ => ?_)
            refine az_E.sn 3 (pc' := 12) (L' := [.ref 61, .int (I 71 1)]) (S' := [.int (I 71 1), .int (I 61 1)]) (σ' := (97, I, J, R)) rfl ?_
            refine az_E.br (c := (I 61 1) = (I 71 1)) (tt := 15) (ff := 19) (L' := [.ref 61, .int (I 71 1)]) (S' := []) (σ' := (97, I, J, R)) rfl (fun hc_1664 => ?_) (fun hc_1664 => ?_)
            · rw [if_pos hc_1664] at h
              refine az_E.sn 2 (pc' := 20) (L' := [.ref 61, .int (I 71 1)]) (S' := [.int (1 : Int32)]) (σ' := (97, I, J, R)) rfl ?_
              refine az_E.ret (v := some (.int (1 : Int32))) (σ' := (97, I, J, R)) rfl ?_
              show az_E az_F ex 2 128 69 [.retAddr 0, .retAddr 0, .int v2, .retAddr 0, .int v4, .int v5, .ref 71, .ref 61] [.int (1 : Int32)] (97, I, J, R) _
              refine az_E.br (c := (1 : Int32) = 0) (tt := 72) (ff := 75) (L' := [.retAddr 0, .retAddr 0, .int v2, .retAddr 0, .int v4, .int v5, .ref 71, .ref 61]) (S' := []) (σ' := (97, I, J, R)) rfl (fun hn => absurd hn (by decide)) (fun _ => ?_)
              refine az_E.sn 3 (pc' := 80) (L' := [.retAddr 0, .retAddr 0, .int v2, .retAddr 0, .int v4, .int v5, .ref 71, .ref 61]) (S' := [.int v5, .int v2, .ref 71]) (σ' := (97, I, J, R)) rfl ?_
              refine az_E.call (d := 1) (k' := 60) (vs := [.ref 71, .int v2, .int v5]) (pc' := 83) (S' := []) rfl ?_ (fun _ _ hq => hq)
              show az_E az_F ex 1 60 0 [.ref 71, .int v2, .int v5] [] (97, I, J, R) _
              refine az_E.sn 1 (pc' := 1) (L' := [.ref 71, .int v2, .int v5]) (S' := [.int v2]) (σ' := (97, I, J, R)) rfl ?_
              refine az_E.br (c := v2 < 0) (tt := 30) (ff := 4) (L' := [.ref 71, .int v2, .int v5]) (S' := []) (σ' := (97, I, J, R)) rfl (fun hc_1665 => ?_) (fun hc_1665 => ?_)
              · rw [if_pos hc_1665] at h
                refine az_E.sn 1 (pc' := 31) (L' := [.ref 71, .int v2, .int v5]) (S' := [.int (0 : Int32)]) (σ' := (97, I, J, R)) rfl ?_
                refine az_E.ret (v := some (.int (0 : Int32))) (σ' := (97, I, J, R)) rfl ?_
                show az_E az_F ex 2 128 83 [.retAddr 0, .retAddr 0, .int v2, .retAddr 0, .int v4, .int v5, .ref 71, .ref 61] [.int (0 : Int32)] (97, I, J, R) _
                refine az_E.br (c := (0 : Int32) = 0) (tt := 98) (ff := 86) (L' := [.retAddr 0, .retAddr 0, .int v2, .retAddr 0, .int v4, .int v5, .ref 71, .ref 61]) (S' := []) (σ' := (97, I, J, R)) rfl (fun _ => ?_) (fun hn => absurd (by decide) hn)
                refine az_E.sn 1 (pc' := 100) (L' := [.retAddr 0, .retAddr 0, .int v2, .retAddr 0, .int v4, .int v5, .ref 71, .ref 61]) (S' := [.int (-13 : Int32)]) (σ' := (97, I, J, R)) rfl ?_
                have h := Option.some.inj h
                subst h
                exact az_E.ret (v := some (.int (-13 : Int32))) (σ' := (97, I, J, R)) rfl hQ
              · rw [if_neg hc_1665] at h
                refine az_E.sn 1 (pc' := 5) (L' := [.ref 71, .int v2, .int v5]) (S' := [.int v5]) (σ' := (97, I, J, R)) rfl ?_
                refine az_E.br (c := v5 < 0) (tt := 30) (ff := 8) (L' := [.ref 71, .int v2, .int v5]) (S' := []) (σ' := (97, I, J, R)) rfl (fun hc_1666 => ?_) (fun hc_1666 => ?_)
                · rw [if_pos hc_1666] at h
                  refine az_E.sn 1 (pc' := 31) (L' := [.ref 71, .int v2, .int v5]) (S' := [.int (0 : Int32)]) (σ' := (97, I, J, R)) rfl ?_
                  refine az_E.ret (v := some (.int (0 : Int32))) (σ' := (97, I, J, R)) rfl ?_
                  show az_E az_F ex 2 128 83 [.retAddr 0, .retAddr 0, .int v2, .retAddr 0, .int v4, .int v5, .ref 71, .ref 61] [.int (0 : Int32)] (97, I, J, R) _
                  refine az_E.br (c := (0 : Int32) = 0) (tt := 98) (ff := 86) (L' := [.retAddr 0, .retAddr 0, .int v2, .retAddr 0, .int v4, .int v5, .ref 71, .ref 61]) (S' := []) (σ' := (97, I, J, R)) rfl (fun _ => ?_) (fun hn => absurd (by decide) hn)
                  refine az_E.sn 1 (pc' := 100) (L' := [.retAddr 0, .retAddr 0, .int v2, .retAddr 0, .int v4, .int v5, .ref 71, .ref 61]) (S' := [.int (-13 : Int32)]) (σ' := (97, I, J, R)) rfl ?_
                  have h := Option.some.inj h
                  subst h
                  exact az_E.ret (v := some (.int (-13 : Int32))) (σ' := (97, I, J, R)) rfl hQ
                · rw [if_neg hc_1666] at h
                  refine az_E.sn 3 (pc' := 13) (L' := [.ref 71, .int v2, .int v5]) (S' := [.int (I 71 2), .int v2]) (σ' := (97, I, J, R)) rfl ?_
                  refine az_E.br (c := (I 71 2) < v2) (tt := 30) (ff := 16) (L' := [.ref 71, .int v2, .int v5]) (S' := []) (σ' := (97, I, J, R)) rfl (fun hc_1667 => ?_) (fun hc_1667 => ?_)
                  · rw [if_pos hc_1667] at h
                    refine az_E.sn 1 (pc' := 31) (L' := [.ref 71, .int v2, .int v5]) (S' := [.int (0 : Int32)]) (σ' := (97, I, J, R)) rfl ?_
                    refine az_E.ret (v := some (.int (0 : Int32))) (σ' := (97, I, J, R)) rfl ?_
                    show az_E az_F ex 2 128 83 [.retAddr 0, .retAddr 0, .int v2, .retAddr 0, .int v4, .int v5, .ref 71, .ref 61] [.int (0 : Int32)] (97, I, J, R) _
                    refine az_E.br (c := (0 : Int32) = 0) (tt := 98) (ff := 86) (L' := [.retAddr 0, .retAddr 0, .int v2, .retAddr 0, .int v4, .int v5, .ref 71, .ref 61]) (S' := []) (σ' := (97, I, J, R)) rfl (fun _ => ?_) (fun hn => absurd (by decide) hn)
                    refine az_E.sn 1 (pc' := 100) (L' := [.retAddr 0, .retAddr 0, .int v2, .retAddr 0, .int v4, .int v5, .ref 71, .ref 61]) (S' := [.int (-13 : Int32)]) (σ' := (97, I, J, R)) rfl ?_
                    have h := Option.some.inj h
                    subst h
                    exact az_E.ret (v := some (.int (-13 : Int32))) (σ' := (97, I, J, R)) rfl hQ
                  · rw [if_neg hc_1667] at h
                    refine az_E.sn 5 (pc' := 23) (L' := [.ref 71, .int v2, .int v5]) (S' := [.int ((I 71 2) - v2), .int v5]) (σ' := (97, I, J, R)) rfl ?_
                    refine az_E.br (c := ((I 71 2) - v2) < v5) (tt := 30) (ff := 26) (L' := [.ref 71, .int v2, .int v5]) (S' := []) (σ' := (97, I, J, R)) rfl (fun hc_1668 => ?_) (fun hc_1668 => ?_)
                    · rw [if_pos hc_1668] at h
                      refine az_E.sn 1 (pc' := 31) (L' := [.ref 71, .int v2, .int v5]) (S' := [.int (0 : Int32)]) (σ' := (97, I, J, R)) rfl ?_
                      refine az_E.ret (v := some (.int (0 : Int32))) (σ' := (97, I, J, R)) rfl ?_
                      show az_E az_F ex 2 128 83 [.retAddr 0, .retAddr 0, .int v2, .retAddr 0, .int v4, .int v5, .ref 71, .ref 61] [.int (0 : Int32)] (97, I, J, R) _
                      refine az_E.br (c := (0 : Int32) = 0) (tt := 98) (ff := 86) (L' := [.retAddr 0, .retAddr 0, .int v2, .retAddr 0, .int v4, .int v5, .ref 71, .ref 61]) (S' := []) (σ' := (97, I, J, R)) rfl (fun _ => ?_) (fun hn => absurd (by decide) hn)
                      refine az_E.sn 1 (pc' := 100) (L' := [.retAddr 0, .retAddr 0, .int v2, .retAddr 0, .int v4, .int v5, .ref 71, .ref 61]) (S' := [.int (-13 : Int32)]) (σ' := (97, I, J, R)) rfl ?_
                      have h := Option.some.inj h
                      subst h
                      exact az_E.ret (v := some (.int (-13 : Int32))) (σ' := (97, I, J, R)) rfl hQ
                    · rw [if_neg hc_1668] at h
                      refine az_E.sn 2 (pc' := 31) (L' := [.ref 71, .int v2, .int v5]) (S' := [.int (1 : Int32)]) (σ' := (97, I, J, R)) rfl ?_
                      refine az_E.ret (v := some (.int (1 : Int32))) (σ' := (97, I, J, R)) rfl ?_
                      show az_E az_F ex 2 128 83 [.retAddr 0, .retAddr 0, .int v2, .retAddr 0, .int v4, .int v5, .ref 71, .ref 61] [.int (1 : Int32)] (97, I, J, R) _
                      refine az_E.br (c := (1 : Int32) = 0) (tt := 98) (ff := 86) (L' := [.retAddr 0, .retAddr 0, .int v2, .retAddr 0, .int v4, .int v5, .ref 71, .ref 61]) (S' := []) (σ' := (97, I, J, R)) rfl (fun hn => absurd hn (by decide)) (fun _ => ?_)
                      refine az_E.sn 3 (pc' := 92) (L' := [.retAddr 0, .retAddr 0, .int v2, .retAddr 0, .int v4, .int v5, .ref 71, .ref 61]) (S' := [.int v5, .int v4, .ref 61]) (σ' := (97, I, J, R)) rfl ?_
                      refine az_E.call (d := 1) (k' := 60) (vs := [.ref 61, .int v4, .int v5]) (pc' := 95) (S' := []) rfl ?_ (fun _ _ hq => hq)
                      show az_E az_F ex 1 60 0 [.ref 61, .int v4, .int v5] [] (97, I, J, R) _
                      refine az_E.sn 1 (pc' := 1) (L' := [.ref 61, .int v4, .int v5]) (S' := [.int v4]) (σ' := (97, I, J, R)) rfl ?_
                      refine az_E.br (c := v4 < 0) (tt := 30) (ff := 4) (L' := [.ref 61, .int v4, .int v5]) (S' := []) (σ' := (97, I, J, R)) rfl (fun hc_1669 => ?_) (fun hc_1669 => ?_)
                      · rw [if_pos hc_1669] at h
                        refine az_E.sn 1 (pc' := 31) (L' := [.ref 61, .int v4, .int v5]) (S' := [.int (0 : Int32)]) (σ' := (97, I, J, R)) rfl ?_
                        refine az_E.ret (v := some (.int (0 : Int32))) (σ' := (97, I, J, R)) rfl ?_
                        show az_E az_F ex 2 128 95 [.retAddr 0, .retAddr 0, .int v2, .retAddr 0, .int v4, .int v5, .ref 71, .ref 61] [.int (0 : Int32)] (97, I, J, R) _
                        refine az_E.br (c := (0 : Int32) = 0) (tt := 98) (ff := 101) (L' := [.retAddr 0, .retAddr 0, .int v2, .retAddr 0, .int v4, .int v5, .ref 71, .ref 61]) (S' := []) (σ' := (97, I, J, R)) rfl (fun _ => ?_) (fun hn => absurd (by decide) hn)
                        refine az_E.sn 1 (pc' := 100) (L' := [.retAddr 0, .retAddr 0, .int v2, .retAddr 0, .int v4, .int v5, .ref 71, .ref 61]) (S' := [.int (-13 : Int32)]) (σ' := (97, I, J, R)) rfl ?_
                        have h := Option.some.inj h
                        subst h
                        exact az_E.ret (v := some (.int (-13 : Int32))) (σ' := (97, I, J, R)) rfl hQ
                      · rw [if_neg hc_1669] at h
                        refine az_E.sn 1 (pc' := 5) (L' := [.ref 61, .int v4, .int v5]) (S' := [.int v5]) (σ' := (97, I, J, R)) rfl ?_
                        refine az_E.br (c := v5 < 0) (tt := 30) (ff := 8) (L' := [.ref 61, .int v4, .int v5]) (S' := []) (σ' := (97, I, J, R)) rfl (fun hc_1670 => ?_) (fun hc_1670 => ?_)
                        · rw [if_pos hc_1670] at h
                          refine az_E.sn 1 (pc' := 31) (L' := [.ref 61, .int v4, .int v5]) (S' := [.int (0 : Int32)]) (σ' := (97, I, J, R)) rfl ?_
                          refine az_E.ret (v := some (.int (0 : Int32))) (σ' := (97, I, J, R)) rfl ?_
                          show az_E az_F ex 2 128 95 [.retAddr 0, .retAddr 0, .int v2, .retAddr 0, .int v4, .int v5, .ref 71, .ref 61] [.int (0 : Int32)] (97, I, J, R) _
                          refine az_E.br (c := (0 : Int32) = 0) (tt := 98) (ff := 101) (L' := [.retAddr 0, .retAddr 0, .int v2, .retAddr 0, .int v4, .int v5, .ref 71, .ref 61]) (S' := []) (σ' := (97, I, J, R)) rfl (fun _ => ?_) (fun hn => absurd (by decide) hn)
                          refine az_E.sn 1 (pc' := 100) (L' := [.retAddr 0, .retAddr 0, .int v2, .retAddr 0, .int v4, .int v5, .ref 71, .ref 61]) (S' := [.int (-13 : Int32)]) (σ' := (97, I, J, R)) rfl ?_
                          have h := Option.some.inj h
                          subst h
                          exact az_E.ret (v := some (.int (-13 : Int32))) (σ' := (97, I, J, R)) rfl hQ
                        · rw [if_neg hc_1670] at h
                          refine az_E.sn 3 (pc' := 13) (L' := [.ref 61, .int v4, .int v5]) (S' := [.int (I 61 2), .int v4]) (σ' := (97, I, J, R)) rfl ?_
                          refine az_E.br (c := (I 61 2) < v4) (tt := 30) (ff := 16) (L' := [.ref 61, .int v4, .int v5]) (S' := []) (σ' := (97, I, J, R)) rfl (fun hc_1671 => ?_) (fun hc_1671 => ?_)
                          · rw [if_pos hc_1671] at h
                            refine az_E.sn 1 (pc' := 31) (L' := [.ref 61, .int v4, .int v5]) (S' := [.int (0 : Int32)]) (σ' := (97, I, J, R)) rfl ?_
                            refine az_E.ret (v := some (.int (0 : Int32))) (σ' := (97, I, J, R)) rfl ?_
                            show az_E az_F ex 2 128 95 [.retAddr 0, .retAddr 0, .int v2, .retAddr 0, .int v4, .int v5, .ref 71, .ref 61] [.int (0 : Int32)] (97, I, J, R) _
                            refine az_E.br (c := (0 : Int32) = 0) (tt := 98) (ff := 101) (L' := [.retAddr 0, .retAddr 0, .int v2, .retAddr 0, .int v4, .int v5, .ref 71, .ref 61]) (S' := []) (σ' := (97, I, J, R)) rfl (fun _ => ?_) (fun hn => absurd (by decide) hn)
                            refine az_E.sn 1 (pc' := 100) (L' := [.retAddr 0, .retAddr 0, .int v2, .retAddr 0, .int v4, .int v5, .ref 71, .ref 61]) (S' := [.int (-13 : Int32)]) (σ' := (97, I, J, R)) rfl ?_
                            have h := Option.some.inj h
                            subst h
                            exact az_E.ret (v := some (.int (-13 : Int32))) (σ' := (97, I, J, R)) rfl hQ
                          · rw [if_neg hc_1671] at h
                            refine az_E.sn 5 (pc' := 23) (L' := [.ref 61, .int v4, .int v5]) (S' := [.int ((I 61 2) - v4), .int v5]) (σ' := (97, I, J, R)) rfl ?_
                            refine az_E.br (c := ((I 61 2) - v4) < v5) (tt := 30) (ff := 26) (L' := [.ref 61, .int v4, .int v5]) (S' := []) (σ' := (97, I, J, R)) rfl (fun hc_1672 => ?_) (fun hc_1672 => ?_)
                            · rw [if_pos hc_1672] at h
                              refine az_E.sn 1 (pc' := 31) (L' := [.ref 61, .int v4, .int v5]) (S' := [.int (0 : Int32)]) (σ' := (97, I, J, R)) rfl ?_
                              refine az_E.ret (v := some (.int (0 : Int32))) (σ' := (97, I, J, R)) rfl ?_
                              show az_E az_F ex 2 128 95 [.retAddr 0, .retAddr 0, .int v2, .retAddr 0, .int v4, .int v5, .ref 71, .ref 61] [.int (0 : Int32)] (97, I, J, R) _
                              refine az_E.br (c := (0 : Int32) = 0) (tt := 98) (ff := 101) (L' := [.retAddr 0, .retAddr 0, .int v2, .retAddr 0, .int v4, .int v5, .ref 71, .ref 61]) (S' := []) (σ' := (97, I, J, R)) rfl (fun _ => ?_) (fun hn => absurd (by decide) hn)
                              refine az_E.sn 1 (pc' := 100) (L' := [.retAddr 0, .retAddr 0, .int v2, .retAddr 0, .int v4, .int v5, .ref 71, .ref 61]) (S' := [.int (-13 : Int32)]) (σ' := (97, I, J, R)) rfl ?_
                              have h := Option.some.inj h
                              subst h
                              exact az_E.ret (v := some (.int (-13 : Int32))) (σ' := (97, I, J, R)) rfl hQ
                            · rw [if_neg hc_1672] at h
                              refine az_E.sn 2 (pc' := 31) (L' := [.ref 61, .int v4, .int v5]) (S' := [.int (1 : Int32)]) (σ' := (97, I, J, R)) rfl ?_
                              refine az_E.ret (v := some (.int (1 : Int32))) (σ' := (97, I, J, R)) rfl ?_
                              show az_E az_F ex 2 128 95 [.retAddr 0, .retAddr 0, .int v2, .retAddr 0, .int v4, .int v5, .ref 71, .ref 61] [.int (1 : Int32)] (97, I, J, R) _
                              refine az_E.br (c := (1 : Int32) = 0) (tt := 98) (ff := 101) (L' := [.retAddr 0, .retAddr 0, .int v2, .retAddr 0, .int v4, .int v5, .ref 71, .ref 61]) (S' := []) (σ' := (97, I, J, R)) rfl (fun hn => absurd hn (by decide)) (fun _ => ?_)
                              refine az_E.sn 7 (pc' := 116) (L' := [.retAddr 0, .retAddr 0, .int v2, .retAddr 0, .int v4, .int v5, .ref 71, .ref 61]) (S' := [.int v5, .int v4, .ref (61 + 1), .int v2, .ref (71 + 1)]) (σ' := (97, I, J, R)) rfl ?_
                              by_cases hc_1673 : v2 < 0 ∨ v4 < 0 ∨ v5 < 0 ∨ 60 < v2.toNatClampNeg + v5.toNatClampNeg ∨ 60 < v4.toNatClampNeg + v5.toNatClampNeg
                              · rw [if_pos hc_1673] at h; cases h
                              · rw [if_neg hc_1673] at h
                                refine az_E.o (o := az_cp az_F (97, I, J, R) (71 + 1) v2 (61 + 1) v4 v5) (pc' := 119) (L' := [.retAddr 0, .retAddr 0, .int v2, .retAddr 0, .int v4, .int v5, .ref 71, .ref 61]) (S' := []) (x := (97, I, (az_ur J (61 + 1) (va_cpy (J (71 + 1)) (J (61 + 1)) v2.toNatClampNeg v4.toNatClampNeg v5.toNatClampNeg)), R)) rfl (if_neg hc_1673) ?_
                                refine az_E.sn 1 (pc' := 121) (L' := [.retAddr 0, .retAddr 0, .int v2, .retAddr 0, .int v4, .int v5, .ref 71, .ref 61]) (S' := [.int v5]) (σ' := (97, I, (az_ur J (61 + 1) (va_cpy (J (71 + 1)) (J (61 + 1)) v2.toNatClampNeg v4.toNatClampNeg v5.toNatClampNeg)), R)) rfl ?_
                                have h := Option.some.inj h
                                subst h
                                exact az_E.ret (v := some (.int v5)) (σ' := (97, I, (az_ur J (61 + 1) (va_cpy (J (71 + 1)) (J (61 + 1)) v2.toNatClampNeg v4.toNatClampNeg v5.toNatClampNeg)), R)) rfl hQ
            · rw [if_neg hc_1664] at h
              refine az_E.sn 1 (pc' := 20) (L' := [.ref 61, .int (I 71 1)]) (S' := [.int (0 : Int32)]) (σ' := (97, I, J, R)) rfl ?_
              refine az_E.ret (v := some (.int (0 : Int32))) (σ' := (97, I, J, R)) rfl ?_
              show az_E az_F ex 2 128 69 [.retAddr 0, .retAddr 0, .int v2, .retAddr 0, .int v4, .int v5, .ref 71, .ref 61] [.int (0 : Int32)] (97, I, J, R) _
              refine az_E.br (c := (0 : Int32) = 0) (tt := 72) (ff := 75) (L' := [.retAddr 0, .retAddr 0, .int v2, .retAddr 0, .int v4, .int v5, .ref 71, .ref 61]) (S' := []) (σ' := (97, I, J, R)) rfl (fun _ => ?_) (fun hn => absurd (by decide) hn)
              refine az_E.sn 1 (pc' := 74) (L' := [.retAddr 0, .retAddr 0, .int v2, .retAddr 0, .int v4, .int v5, .ref 71, .ref 61]) (S' := [.int (-12 : Int32)]) (σ' := (97, I, J, R)) rfl ?_
              have h := Option.some.inj h
              subst h
              exact az_E.ret (v := some (.int (-12 : Int32))) (σ' := (97, I, J, R)) rfl hQ
    · rw [if_neg hc_1660] at h
      refine az_E.sn 1 (pc' := 21) (L' := [.ref 61]) (S' := [.int (0 : Int32)]) (σ' := (97, I, J, R)) rfl ?_
      refine az_E.ret (v := some (.int (0 : Int32))) (σ' := (97, I, J, R)) rfl ?_
      show az_E az_F ex 2 128 45 [.retAddr 0, .retAddr 0, .int v2, .retAddr 0, .int v4, .int v5, .ref 71, .ref 61] [.int (0 : Int32)] (97, I, J, R) _
      refine az_E.br (c := (0 : Int32) = 0) (tt := 51) (ff := 48) (L' := [.retAddr 0, .retAddr 0, .int v2, .retAddr 0, .int v4, .int v5, .ref 71, .ref 61]) (S' := []) (σ' := (97, I, J, R)) rfl (fun _ => ?_) (fun hn => absurd (by decide) hn)
      refine az_E.sn 1 (pc' := 53) (L' := [.retAddr 0, .retAddr 0, .int v2, .retAddr 0, .int v4, .int v5, .ref 71, .ref 61]) (S' := [.ref 71]) (σ' := (97, I, J, R)) rfl ?_
      refine az_E.call (d := 1) (k' := 55) (vs := [.ref 71]) (pc' := 56) (S' := []) rfl ?_ (fun _ _ hq => hq)
      show az_E az_F ex 1 55 0 [.ref 71] [] (97, I, J, R) _
      refine az_E.sn 3 (pc' := 5) (L' := [.ref 71]) (S' := [.int (-1 : Int32), .int (I 71 1)]) (σ' := (97, I, J, R)) rfl ?_
      refine az_E.br (c := (I 71 1) = (-1 : Int32)) (tt := 12) (ff := 8) (L' := [.ref 71]) (S' := []) (σ' := (97, I, J, R)) rfl (fun hc_1674 => ?_) (fun hc_1674 => ?_)
      · rw [if_pos hc_1674] at h
        refine az_E.sn 1 (pc' := 13) (L' := [.ref 71]) (S' := [.int (0 : Int32)]) (σ' := (97, I, J, R)) rfl ?_
        refine az_E.ret (v := some (.int (0 : Int32))) (σ' := (97, I, J, R)) rfl ?_
        show az_E az_F ex 2 128 56 [.retAddr 0, .retAddr 0, .int v2, .retAddr 0, .int v4, .int v5, .ref 71, .ref 61] [.int (0 : Int32)] (97, I, J, R) _
        refine az_E.br (c := (0 : Int32) = 0) (tt := 72) (ff := 59) (L' := [.retAddr 0, .retAddr 0, .int v2, .retAddr 0, .int v4, .int v5, .ref 71, .ref 61]) (S' := []) (σ' := (97, I, J, R)) rfl (fun _ => ?_) (fun hn => absurd (by decide) hn)
        refine az_E.sn 1 (pc' := 74) (L' := [.retAddr 0, .retAddr 0, .int v2, .retAddr 0, .int v4, .int v5, .ref 71, .ref 61]) (S' := [.int (-12 : Int32)]) (σ' := (97, I, J, R)) rfl ?_
        have h := Option.some.inj h
        subst h
        exact az_E.ret (v := some (.int (-12 : Int32))) (σ' := (97, I, J, R)) rfl hQ
      · rw [if_neg hc_1674] at h
        refine az_E.sn 2 (pc' := 13) (L' := [.ref 71]) (S' := [.int (1 : Int32)]) (σ' := (97, I, J, R)) rfl ?_
        refine az_E.ret (v := some (.int (1 : Int32))) (σ' := (97, I, J, R)) rfl ?_
        show az_E az_F ex 2 128 56 [.retAddr 0, .retAddr 0, .int v2, .retAddr 0, .int v4, .int v5, .ref 71, .ref 61] [.int (1 : Int32)] (97, I, J, R) _
        refine az_E.br (c := (1 : Int32) = 0) (tt := 72) (ff := 59) (L' := [.retAddr 0, .retAddr 0, .int v2, .retAddr 0, .int v4, .int v5, .ref 71, .ref 61]) (S' := []) (σ' := (97, I, J, R)) rfl (fun hn => absurd hn (by decide)) (fun _ => ?_)
        refine az_E.sn 3 (pc' := 66) (L' := [.retAddr 0, .retAddr 0, .int v2, .retAddr 0, .int v4, .int v5, .ref 71, .ref 61]) (S' := [.int (I 71 1), .ref 61]) (σ' := (97, I, J, R)) rfl ?_
        refine az_E.call (d := 1) (k' := 56) (vs := [.ref 61, .int (I 71 1)]) (pc' := 69) (S' := []) rfl ?_ (fun _ _ hq => hq)
        show az_E az_F ex 1 56 0 [.ref 61, .int (I 71 1)] [] (97, I, J, R) _
        refine az_E.sn 1 (pc' := 1) (L' := [.ref 61, .int (I 71 1)]) (S' := [.ref 61]) (σ' := (97, I, J, R)) rfl ?_
        refine az_E.call (d := 0) (k' := 55) (vs := [.ref 61]) (pc' := 4) (S' := []) rfl ?_ (fun _ _ hq => hq)
        show az_E az_F ex 0 55 0 [.ref 61] [] (97, I, J, R) _
        refine az_E.sn 3 (pc' := 5) (L' := [.ref 61]) (S' := [.int (-1 : Int32), .int (I 61 1)]) (σ' := (97, I, J, R)) rfl ?_
        refine az_E.br (c := (I 61 1) = (-1 : Int32)) (tt := 12) (ff := 8) (L' := [.ref 61]) (S' := []) (σ' := (97, I, J, R)) rfl (fun hc_1675 => ?_) (fun hc_1675 => ?_)
        · rw [if_pos hc_1675] at h
          refine az_E.sn 1 (pc' := 13) (L' := [.ref 61]) (S' := [.int (0 : Int32)]) (σ' := (97, I, J, R)) rfl ?_
          refine az_E.ret (v := some (.int (0 : Int32))) (σ' := (97, I, J, R)) rfl ?_
          show az_E az_F ex 1 56 4 [.ref 61, .int (I 71 1)] [.int (0 : Int32)] (97, I, J, R) _
          refine az_E.br (c := (0 : Int32) = 0) (tt := 19) (ff := 7) (L' := [.ref 61, .int (I 71 1)]) (S' := []) (σ' := (97, I, J, R)) rfl (fun _ => ?_) (fun hn => absurd (by decide) hn)
          refine az_E.sn 1 (pc' := 20) (L' := [.ref 61, .int (I 71 1)]) (S' := [.int (0 : Int32)]) (σ' := (97, I, J, R)) rfl ?_
          refine az_E.ret (v := some (.int (0 : Int32))) (σ' := (97, I, J, R)) rfl ?_
          show az_E az_F ex 2 128 69 [.retAddr 0, .retAddr 0, .int v2, .retAddr 0, .int v4, .int v5, .ref 71, .ref 61] [.int (0 : Int32)] (97, I, J, R) _
          refine az_E.br (c := (0 : Int32) = 0) (tt := 72) (ff := 75) (L' := [.retAddr 0, .retAddr 0, .int v2, .retAddr 0, .int v4, .int v5, .ref 71, .ref 61]) (S' := []) (σ' := (97, I, J, R)) rfl (fun _ => ?_) (fun hn => absurd (by decide) hn)
          refine az_E.sn 1 (pc' := 74) (L' := [.retAddr 0, .retAddr 0, .int v2, .retAddr 0, .int v4, .int v5, .ref 71, .ref 61]) (S' := [.int (-12 : Int32)]) (σ' := (97, I, J, R)) rfl ?_
          have h := Option.some.inj h
          subst h
          exact az_E.ret (v := some (.int (-12 : Int32))) (σ' := (97, I, J, R)) rfl hQ
        · rw [if_neg hc_1675] at h
          refine az_E.sn 2 (pc' := 13) (L' := [.ref 61]) (S' := [.int (1 : Int32)]) (σ' := (97, I, J, R)) rfl ?_
          refine az_E.ret (v := some (.int (1 : Int32))) (σ' := (97, I, J, R)) rfl ?_
          show az_E az_F ex 1 56 4 [.ref 61, .int (I 71 1)] [.int (1 : Int32)] (97, I, J, R) _
          refine az_E.br (c := (1 : Int32) = 0) (tt := 19) (ff := 7) (L' := [.ref 61, .int (I 71 1)]) (S' := []) (σ' := (97, I, J, R)) rfl (fun hn => absurd hn (by decide)) (fun _ => ?_)
          refine az_E.sn 3 (pc' := 12) (L' := [.ref 61, .int (I 71 1)]) (S' := [.int (I 71 1), .int (I 61 1)]) (σ' := (97, I, J, R)) rfl ?_
          refine az_E.br (c := (I 61 1) = (I 71 1)) (tt := 15) (ff := 19) (L' := [.ref 61, .int (I 71 1)]) (S' := []) (σ' := (97, I, J, R)) rfl (fun hc_1676 => ?_) (fun hc_1676 => ?_)
          · rw [if_pos hc_1676] at h
            refine az_E.sn 2 (pc' := 20) (L' := [.ref 61, .int (I 71 1)]) (S' := [.int (1 : Int32)]) (σ' := (97, I, J, R)) rfl ?_
            refine az_E.ret (v := some (.int (1 : Int32))) (σ' := (97, I, J, R)) rfl ?_
            show az_E az_F ex 2 128 69 [.retAddr 0, .retAddr 0, .int v2, .retAddr 0, .int v4, .int v5, .ref 71, .ref 61] [.int (1 : Int32)] (97, I, J, R) _
            refine az_E.br (c := (1 : Int32) = 0) (tt := 72) (ff := 75) (L' := [.retAddr 0, .retAddr 0, .int v2, .retAddr 0, .int v4, .int v5, .ref 71, .ref 61]) (S' := []) (σ' := (97, I, J, R)) rfl (fun hn => absurd hn (by decide)) (fun _ => ?_)
            refine az_E.sn 3 (pc' := 80) (L' := [.retAddr 0, .retAddr 0, .int v2, .retAddr 0, .int v4, .int v5, .ref 71, .ref 61]) (S' := [.int v5, .int v2, .ref 71]) (σ' := (97, I, J, R)) rfl ?_
            refine az_E.call (d := 1) (k' := 60) (vs := [.ref 71, .int v2, .int v5]) (pc' := 83) (S' := []) rfl ?_ (fun _ _ hq => hq)
            show az_E az_F ex 1 60 0 [.ref 71, .int v2, .int v5] [] (97, I, J, R) _
            refine az_E.sn 1 (pc' := 1) (L' := [.ref 71, .int v2, .int v5]) (S' := [.int v2]) (σ' := (97, I, J, R)) rfl ?_
            refine az_E.br (c := v2 < 0) (tt := 30) (ff := 4) (L' := [.ref 71, .int v2, .int v5]) (S' := []) (σ' := (97, I, J, R)) rfl (fun hc_1677 => ?_) (fun hc_1677 => ?_)
            · rw [if_pos hc_1677] at h
              refine az_E.sn 1 (pc' := 31) (L' := [.ref 71, .int v2, .int v5]) (S' := [.int (0 : Int32)]) (σ' := (97, I, J, R)) rfl ?_
              refine az_E.ret (v := some (.int (0 : Int32))) (σ' := (97, I, J, R)) rfl ?_
              show az_E az_F ex 2 128 83 [.retAddr 0, .retAddr 0, .int v2, .retAddr 0, .int v4, .int v5, .ref 71, .ref 61] [.int (0 : Int32)] (97, I, J, R) _
              refine az_E.br (c := (0 : Int32) = 0) (tt := 98) (ff := 86) (L' := [.retAddr 0, .retAddr 0, .int v2, .retAddr 0, .int v4, .int v5, .ref 71, .ref 61]) (S' := []) (σ' := (97, I, J, R)) rfl (fun _ => ?_) (fun hn => absurd (by decide) hn)
              refine az_E.sn 1 (pc' := 100) (L' := [.retAddr 0, .retAddr 0, .int v2, .retAddr 0, .int v4, .int v5, .ref 71, .ref 61]) (S' := [.int (-13 : Int32)]) (σ' := (97, I, J, R)) rfl ?_
              have h := Option.some.inj h
              subst h
              exact az_E.ret (v := some (.int (-13 : Int32))) (σ' := (97, I, J, R)) rfl hQ
            · rw [if_neg hc_1677] at h
              refine az_E.sn 1 (pc' := 5) (L' := [.ref 71, .int v2, .int v5]) (S' := [.int v5]) (σ' := (97, I, J, R)) rfl ?_
              refine az_E.br (c := v5 < 0) (tt := 30) (ff := 8) (L' := [.ref 71, .int v2, .int v5]) (S' := []) (σ' := (97, I, J, R)) rfl (fun hc_1678 => ?_) (fun hc_1678 => ?_)
              · rw [if_pos hc_1678] at h
                refine az_E.sn 1 (pc' := 31) (L' := [.ref 71, .int v2, .int v5]) (S' := [.int (0 : Int32)]) (σ' := (97, I, J, R)) rfl ?_
                refine az_E.ret (v := some (.int (0 : Int32))) (σ' := (97, I, J, R)) rfl ?_
                show az_E az_F ex 2 128 83 [.retAddr 0, .retAddr 0, .int v2, .retAddr 0, .int v4, .int v5, .ref 71, .ref 61] [.int (0 : Int32)] (97, I, J, R) _
                refine az_E.br (c := (0 : Int32) = 0) (tt := 98) (ff := 86) (L' := [.retAddr 0, .retAddr 0, .int v2, .retAddr 0, .int v4, .int v5, .ref 71, .ref 61]) (S' := []) (σ' := (97, I, J, R)) rfl (fun _ => ?_) (fun hn => absurd (by decide) hn)
                refine az_E.sn 1 (pc' := 100) (L' := [.retAddr 0, .retAddr 0, .int v2, .retAddr 0, .int v4, .int v5, .ref 71, .ref 61]) (S' := [.int (-13 : Int32)]) (σ' := (97, I, J, R)) rfl ?_
                have h := Option.some.inj h
                subst h
                exact az_E.ret (v := some (.int (-13 : Int32))) (σ' := (97, I, J, R)) rfl hQ
              · rw [if_neg hc_1678] at h
                refine az_E.sn 3 (pc' := 13) (L' := [.ref 71, .int v2, .int v5]) (S' := [.int (I 71 2), .int v2]) (σ' := (97, I, J, R)) rfl ?_
                refine az_E.br (c := (I 71 2) < v2) (tt := 30) (ff := 16) (L' := [.ref 71, .int v2, .int v5]) (S' := []) (σ' := (97, I, J, R)) rfl (fun hc_1679 => ?_) (fun hc_1679 => ?_)
                · rw [if_pos hc_1679] at h
                  refine az_E.sn 1 (pc' := 31) (L' := [.ref 71, .int v2, .int v5]) (S' := [.int (0 : Int32)]) (σ' := (97, I, J, R)) rfl ?_
                  refine az_E.ret (v := some (.int (0 : Int32))) (σ' := (97, I, J, R)) rfl ?_
                  show az_E az_F ex 2 128 83 [.retAddr 0, .retAddr 0, .int v2, .retAddr 0, .int v4, .int v5, .ref 71, .ref 61] [.int (0 : Int32)] (97, I, J, R) _
                  refine az_E.br (c := (0 : Int32) = 0) (tt := 98) (ff := 86) (L' := [.retAddr 0, .retAddr 0, .int v2, .retAddr 0, .int v4, .int v5, .ref 71, .ref 61]) (S' := []) (σ' := (97, I, J, R)) rfl (fun _ => ?_) (fun hn => absurd (by decide) hn)
                  refine az_E.sn 1 (pc' := 100) (L' := [.retAddr 0, .retAddr 0, .int v2, .retAddr 0, .int v4, .int v5, .ref 71, .ref 61]) (S' := [.int (-13 : Int32)]) (σ' := (97, I, J, R)) rfl ?_
                  have h := Option.some.inj h
                  subst h
                  exact az_E.ret (v := some (.int (-13 : Int32))) (σ' := (97, I, J, R)) rfl hQ
                · rw [if_neg hc_1679] at h
                  refine az_E.sn 5 (pc' := 23) (L' := [.ref 71, .int v2, .int v5]) (S' := [.int ((I 71 2) - v2), .int v5]) (σ' := (97, I, J, R)) rfl ?_
                  refine az_E.br (c := ((I 71 2) - v2) < v5) (tt := 30) (ff := 26) (L' := [.ref 71, .int v2, .int v5]) (S' := []) (σ' := (97, I, J, R)) rfl (fun hc_1680 => ?_) (fun hc_1680 => ?_)
                  · rw [if_pos hc_1680] at h
                    refine az_E.sn 1 (pc' := 31) (L' := [.ref 71, .int v2, .int v5]) (S' := [.int (0 : Int32)]) (σ' := (97, I, J, R)) rfl ?_
                    refine az_E.ret (v := some (.int (0 : Int32))) (σ' := (97, I, J, R)) rfl ?_
                    show az_E az_F ex 2 128 83 [.retAddr 0, .retAddr 0, .int v2, .retAddr 0, .int v4, .int v5, .ref 71, .ref 61] [.int (0 : Int32)] (97, I, J, R) _
                    refine az_E.br (c := (0 : Int32) = 0) (tt := 98) (ff := 86) (L' := [.retAddr 0, .retAddr 0, .int v2, .retAddr 0, .int v4, .int v5, .ref 71, .ref 61]) (S' := []) (σ' := (97, I, J, R)) rfl (fun _ => ?_) (fun hn => absurd (by decide) hn)
                    refine az_E.sn 1 (pc' := 100) (L' := [.retAddr 0, .retAddr 0, .int v2, .retAddr 0, .int v4, .int v5, .ref 71, .ref 61]) (S' := [.int (-13 : Int32)]) (σ' := (97, I, J, R)) rfl ?_
                    have h := Option.some.inj h
                    subst h
                    exact az_E.ret (v := some (.int (-13 : Int32))) (σ' := (97, I, J, R)) rfl hQ
                  · rw [if_neg hc_1680] at h
                    refine az_E.sn 2 (pc' := 31) (L' := [.ref 71, .int v2, .int v5]) (S' := [.int (1 : Int32)]) (σ' := (97, I, J, R)) rfl ?_
                    refine az_E.ret (v := some (.int (1 : Int32))) (σ' := (97, I, J, R)) rfl ?_
                    show az_E az_F ex 2 128 83 [.retAddr 0, .retAddr 0, .int v2, .retAddr 0, .int v4, .int v5, .ref 71, .ref 61] [.int (1 : Int32)] (97, I, J, R) _
                    refine az_E.br (c := (1 : Int32) = 0) (tt := 98) (ff := 86) (L' := [.retAddr 0, .retAddr 0, .int v2, .retAddr 0, .int v4, .int v5, .ref 71, .ref 61]) (S' := []) (σ' := (97, I, J, R)) rfl (fun hn => absurd hn (by decide)) (fun _ => ?_)
                    refine az_E.sn 3 (pc' := 92) (L' := [.retAddr 0, .retAddr 0, .int v2, .retAddr 0, .int v4, .int v5, .ref 71, .ref 61]) (S' := [.int v5, .int v4, .ref 61]) (σ' := (97, I, J, R)) rfl ?_
                    refine az_E.call (d := 1) (k' := 60) (vs := [.ref 61, .int v4, .int v5]) (pc' := 95) (S' := []) rfl ?_ (fun _ _ hq => hq)
                    show az_E az_F ex 1 60 0 [.ref 61, .int v4, .int v5] [] (97, I, J, R) _
                    refine az_E.sn 1 (pc' := 1) (L' := [.ref 61, .int v4, .int v5]) (S' := [.int v4]) (σ' := (97, I, J, R)) rfl ?_
                    refine az_E.br (c := v4 < 0) (tt := 30) (ff := 4) (L' := [.ref 61, .int v4, .int v5]) (S' := []) (σ' := (97, I, J, R)) rfl (fun hc_1681 => ?_) (fun hc_1681 => ?_)
                    · rw [if_pos hc_1681] at h
                      refine az_E.sn 1 (pc' := 31) (L' := [.ref 61, .int v4, .int v5]) (S' := [.int (0 : Int32)]) (σ' := (97, I, J, R)) rfl ?_
                      refine az_E.ret (v := some (.int (0 : Int32))) (σ' := (97, I, J, R)) rfl ?_
                      show az_E az_F ex 2 128 95 [.retAddr 0, .retAddr 0, .int v2, .retAddr 0, .int v4, .int v5, .ref 71, .ref 61] [.int (0 : Int32)] (97, I, J, R) _
                      refine az_E.br (c := (0 : Int32) = 0) (tt := 98) (ff := 101) (L' := [.retAddr 0, .retAddr 0, .int v2, .retAddr 0, .int v4, .int v5, .ref 71, .ref 61]) (S' := []) (σ' := (97, I, J, R)) rfl (fun _ => ?_) (fun hn => absurd (by decide) hn)
                      refine az_E.sn 1 (pc' := 100) (L' := [.retAddr 0, .retAddr 0, .int v2, .retAddr 0, .int v4, .int v5, .ref 71, .ref 61]) (S' := [.int (-13 : Int32)]) (σ' := (97, I, J, R)) rfl ?_
                      have h := Option.some.inj h
                      subst h
                      exact az_E.ret (v := some (.int (-13 : Int32))) (σ' := (97, I, J, R)) rfl hQ
                    · rw [if_neg hc_1681] at h
                      refine az_E.sn 1 (pc' := 5) (L' := [.ref 61, .int v4, .int v5]) (S' := [.int v5]) (σ' := (97, I, J, R)) rfl ?_
                      refine az_E.br (c := v5 < 0) (tt := 30) (ff := 8) (L' := [.ref 61, .int v4, .int v5]) (S' := []) (σ' := (97, I, J, R)) rfl (fun hc_1682 => ?_) (fun hc_1682 => ?_)
                      · rw [if_pos hc_1682] at h
                        refine az_E.sn 1 (pc' := 31) (L' := [.ref 61, .int v4, .int v5]) (S' := [.int (0 : Int32)]) (σ' := (97, I, J, R)) rfl ?_
                        refine az_E.ret (v := some (.int (0 : Int32))) (σ' := (97, I, J, R)) rfl ?_
                        show az_E az_F ex 2 128 95 [.retAddr 0, .retAddr 0, .int v2, .retAddr 0, .int v4, .int v5, .ref 71, .ref 61] [.int (0 : Int32)] (97, I, J, R) _
                        refine az_E.br (c := (0 : Int32) = 0) (tt := 98) (ff := 101) (L' := [.retAddr 0, .retAddr 0, .int v2, .retAddr 0, .int v4, .int v5, .ref 71, .ref 61]) (S' := []) (σ' := (97, I, J, R)) rfl (fun _ => ?_) (fun hn => absurd (by decide) hn)
                        refine az_E.sn 1 (pc' := 100) (L' := [.retAddr 0, .retAddr 0, .int v2, .retAddr 0, .int v4, .int v5, .ref 71, .ref 61]) (S' := [.int (-13 : Int32)]) (σ' := (97, I, J, R)) rfl ?_
                        have h := Option.some.inj h
                        subst h
                        exact az_E.ret (v := some (.int (-13 : Int32))) (σ' := (97, I, J, R)) rfl hQ
                      · rw [if_neg hc_1682] at h
                        refine az_E.sn 3 (pc' := 13) (L' := [.ref 61, .int v4, .int v5]) (S' := [.int (I 61 2), .int v4]) (σ' := (97, I, J, R)) rfl ?_
                        refine az_E.br (c := (I 61 2) < v4) (tt := 30) (ff := 16) (L' := [.ref 61, .int v4, .int v5]) (S' := []) (σ' := (97, I, J, R)) rfl (fun hc_1683 => ?_) (fun hc_1683 => ?_)
                        · rw [if_pos hc_1683] at h
                          refine az_E.sn 1 (pc' := 31) (L' := [.ref 61, .int v4, .int v5]) (S' := [.int (0 : Int32)]) (σ' := (97, I, J, R)) rfl ?_
                          refine az_E.ret (v := some (.int (0 : Int32))) (σ' := (97, I, J, R)) rfl ?_
                          show az_E az_F ex 2 128 95 [.retAddr 0, .retAddr 0, .int v2, .retAddr 0, .int v4, .int v5, .ref 71, .ref 61] [.int (0 : Int32)] (97, I, J, R) _
                          refine az_E.br (c := (0 : Int32) = 0) (tt := 98) (ff := 101) (L' := [.retAddr 0, .retAddr 0, .int v2, .retAddr 0, .int v4, .int v5, .ref 71, .ref 61]) (S' := []) (σ' := (97, I, J, R)) rfl (fun _ => ?_) (fun hn => absurd (by decide) hn)
                          refine az_E.sn 1 (pc' := 100) (L' := [.retAddr 0, .retAddr 0, .int v2, .retAddr 0, .int v4, .int v5, .ref 71, .ref 61]) (S' := [.int (-13 : Int32)]) (σ' := (97, I, J, R)) rfl ?_
                          have h := Option.some.inj h
                          subst h
                          exact az_E.ret (v := some (.int (-13 : Int32))) (σ' := (97, I, J, R)) rfl hQ
                        · rw [if_neg hc_1683] at h
                          refine az_E.sn 5 (pc' := 23) (L' := [.ref 61, .int v4, .int v5]) (S' := [.int ((I 61 2) - v4), .int v5]) (σ' := (97, I, J, R)) rfl ?_
                          refine az_E.br (c := ((I 61 2) - v4) < v5) (tt := 30) (ff := 26) (L' := [.ref 61, .int v4, .int v5]) (S' := []) (σ' := (97, I, J, R)) rfl (fun hc_1684 => ?_) (fun hc_1684 => ?_)
                          · rw [if_pos hc_1684] at h
                            refine az_E.sn 1 (pc' := 31) (L' := [.ref 61, .int v4, .int v5]) (S' := [.int (0 : Int32)]) (σ' := (97, I, J, R)) rfl ?_
                            refine az_E.ret (v := some (.int (0 : Int32))) (σ' := (97, I, J, R)) rfl ?_
                            show az_E az_F ex 2 128 95 [.retAddr 0, .retAddr 0, .int v2, .retAddr 0, .int v4, .int v5, .ref 71, .ref 61] [.int (0 : Int32)] (97, I, J, R) _
                            refine az_E.br (c := (0 : Int32) = 0) (tt := 98) (ff := 101) (L' := [.retAddr 0, .retAddr 0, .int v2, .retAddr 0, .int v4, .int v5, .ref 71, .ref 61]) (S' := []) (σ' := (97, I, J, R)) rfl (fun _ => ?_) (fun hn => absurd (by decide) hn)
                            refine az_E.sn 1 (pc' := 100) (L' := [.retAddr 0, .retAddr 0, .int v2, .retAddr 0, .int v4, .int v5, .ref 71, .ref 61]) (S' := [.int (-13 : Int32)]) (σ' := (97, I, J, R)) rfl ?_
                            have h := Option.some.inj h
                            subst h
                            exact az_E.ret (v := some (.int (-13 : Int32))) (σ' := (97, I, J, R)) rfl hQ
                          · rw [if_neg hc_1684] at h
                            refine az_E.sn 2 (pc' := 31) (L' := [.ref 61, .int v4, .int v5]) (S' := [.int (1 : Int32)]) (σ' := (97, I, J, R)) rfl ?_
                            refine az_E.ret (v := some (.int (1 : Int32))) (σ' := (97, I, J, R)) rfl ?_
                            show az_E az_F ex 2 128 95 [.retAddr 0, .retAddr 0, .int v2, .retAddr 0, .int v4, .int v5, .ref 71, .ref 61] [.int (1 : Int32)] (97, I, J, R) _
                            refine az_E.br (c := (1 : Int32) = 0) (tt := 98) (ff := 101) (L' := [.retAddr 0, .retAddr 0, .int v2, .retAddr 0, .int v4, .int v5, .ref 71, .ref 61]) (S' := []) (σ' := (97, I, J, R)) rfl (fun hn => absurd hn (by decide)) (fun _ => ?_)
                            refine az_E.sn 7 (pc' := 116) (L' := [.retAddr 0, .retAddr 0, .int v2, .retAddr 0, .int v4, .int v5, .ref 71, .ref 61]) (S' := [.int v5, .int v4, .ref (61 + 1), .int v2, .ref (71 + 1)]) (σ' := (97, I, J, R)) rfl ?_
                            by_cases hc_1685 : v2 < 0 ∨ v4 < 0 ∨ v5 < 0 ∨ 60 < v2.toNatClampNeg + v5.toNatClampNeg ∨ 60 < v4.toNatClampNeg + v5.toNatClampNeg
                            · rw [if_pos hc_1685] at h; cases h
                            · rw [if_neg hc_1685] at h
                              refine az_E.o (o := az_cp az_F (97, I, J, R) (71 + 1) v2 (61 + 1) v4 v5) (pc' := 119) (L' := [.retAddr 0, .retAddr 0, .int v2, .retAddr 0, .int v4, .int v5, .ref 71, .ref 61]) (S' := []) (x := (97, I, (az_ur J (61 + 1) (va_cpy (J (71 + 1)) (J (61 + 1)) v2.toNatClampNeg v4.toNatClampNeg v5.toNatClampNeg)), R)) rfl (if_neg hc_1685) ?_
                              refine az_E.sn 1 (pc' := 121) (L' := [.retAddr 0, .retAddr 0, .int v2, .retAddr 0, .int v4, .int v5, .ref 71, .ref 61]) (S' := [.int v5]) (σ' := (97, I, (az_ur J (61 + 1) (va_cpy (J (71 + 1)) (J (61 + 1)) v2.toNatClampNeg v4.toNatClampNeg v5.toNatClampNeg)), R)) rfl ?_
                              have h := Option.some.inj h
                              subst h
                              exact az_E.ret (v := some (.int v5)) (σ' := (97, I, (az_ur J (61 + 1) (va_cpy (J (71 + 1)) (J (61 + 1)) v2.toNatClampNeg v4.toNatClampNeg v5.toNatClampNeg)), R)) rfl hQ
          · rw [if_neg hc_1676] at h
            refine az_E.sn 1 (pc' := 20) (L' := [.ref 61, .int (I 71 1)]) (S' := [.int (0 : Int32)]) (σ' := (97, I, J, R)) rfl ?_
            refine az_E.ret (v := some (.int (0 : Int32))) (σ' := (97, I, J, R)) rfl ?_
            show az_E az_F ex 2 128 69 [.retAddr 0, .retAddr 0, .int v2, .retAddr 0, .int v4, .int v5, .ref 71, .ref 61] [.int (0 : Int32)] (97, I, J, R) _
            refine az_E.br (c := (0 : Int32) = 0) (tt := 72) (ff := 75) (L' := [.retAddr 0, .retAddr 0, .int v2, .retAddr 0, .int v4, .int v5, .ref 71, .ref 61]) (S' := []) (σ' := (97, I, J, R)) rfl (fun _ => ?_) (fun hn => absurd (by decide) hn)
            refine az_E.sn 1 (pc' := 74) (L' := [.retAddr 0, .retAddr 0, .int v2, .retAddr 0, .int v4, .int v5, .ref 71, .ref 61]) (S' := [.int (-12 : Int32)]) (σ' := (97, I, J, R)) rfl ?_
            have h := Option.some.inj h
            subst h
            exact az_E.ret (v := some (.int (-12 : Int32))) (σ' := (97, I, J, R)) rfl hQ
set_option maxRecDepth 100000 in
set_option maxHeartbeats 4000000 in
theorem re_X_shift_30_71_63 {ex : az_X} {I : Nat → Nat → Int32} {J : Nat → Nat → Int64} {R : Nat → Nat → Option Nat} {v2 : Int32} {v4 : Int32} {v5 : Int32} {x : Int32 × (Nat → Nat → Int64)} (h : rs_X_shift_30 71 63 I J v2 v4 v5 = some x) {Q : Option Value → az_S → Prop} (hQ : Q (some (.int x.1)) (97, I, x.2, R)) : az_E az_F ex 2 128 30 [.retAddr 0, .retAddr 0, .int v2, .retAddr 0, .int v4, .int v5, .ref 71, .retAddr 0] [.ref 63] (97, I, J, R) Q := by
  unfold rs_X_shift_30 at h
  refine az_E.sn 2 (pc' := 34) (L' := [.retAddr 0, .retAddr 0, .int v2, .retAddr 0, .int v4, .int v5, .ref 71, .ref 63]) (S' := [.ref 71]) (σ' := (97, I, J, R)) rfl ?_
  refine az_E.call (d := 1) (k' := 54) (vs := [.ref 71]) (pc' := 37) (S' := []) rfl ?_ (fun _ _ hq => hq)
  show az_E az_F ex 1 54 0 [.ref 71] [] (97, I, J, R) _
  refine az_E.sn 3 (pc' := 5) (L' := [.ref 71]) (S' := [.int (-1 : Int32), .int (I 71 0)]) (σ' := (97, I, J, R)) rfl ?_
  refine az_E.br (c := (I 71 0) = (-1 : Int32)) (tt := 8) (ff := 20) (L' := [.ref 71]) (S' := []) (σ' := (97, I, J, R)) rfl (fun hc_1686 => ?_) (fun hc_1686 => ?_)
  · rw [if_pos hc_1686] at h
    refine az_E.sn 3 (pc' := 13) (L' := [.ref 71]) (S' := [.int (-1 : Int32), .int (I 71 1)]) (σ' := (97, I, J, R)) rfl ?_
    refine az_E.br (c := (I 71 1) = (-1 : Int32)) (tt := 16) (ff := 20) (L' := [.ref 71]) (S' := []) (σ' := (97, I, J, R)) rfl (fun hc_1687 => ?_) (fun hc_1687 => ?_)
    · rw [if_pos hc_1687] at h
      refine az_E.sn 2 (pc' := 21) (L' := [.ref 71]) (S' := [.int (1 : Int32)]) (σ' := (97, I, J, R)) rfl ?_
      refine az_E.ret (v := some (.int (1 : Int32))) (σ' := (97, I, J, R)) rfl ?_
      show az_E az_F ex 2 128 37 [.retAddr 0, .retAddr 0, .int v2, .retAddr 0, .int v4, .int v5, .ref 71, .ref 63] [.int (1 : Int32)] (97, I, J, R) _
      refine az_E.br (c := (1 : Int32) = 0) (tt := 40) (ff := 48) (L' := [.retAddr 0, .retAddr 0, .int v2, .retAddr 0, .int v4, .int v5, .ref 71, .ref 63]) (S' := []) (σ' := (97, I, J, R)) rfl (fun hn => absurd hn (by decide)) (fun _ => ?_)
      refine az_E.sn 1 (pc' := 50) (L' := [.retAddr 0, .retAddr 0, .int v2, .retAddr 0, .int v4, .int v5, .ref 71, .ref 63]) (S' := [.int (-11 : Int32)]) (σ' := (97, I, J, R)) rfl ?_
      have h := Option.some.inj h
      subst h
      exact az_E.ret (v := some (.int (-11 : Int32))) (σ' := (97, I, J, R)) rfl hQ
    · rw [if_neg hc_1687] at h
      refine az_E.sn 1 (pc' := 21) (L' := [.ref 71]) (S' := [.int (0 : Int32)]) (σ' := (97, I, J, R)) rfl ?_
      refine az_E.ret (v := some (.int (0 : Int32))) (σ' := (97, I, J, R)) rfl ?_
      show az_E az_F ex 2 128 37 [.retAddr 0, .retAddr 0, .int v2, .retAddr 0, .int v4, .int v5, .ref 71, .ref 63] [.int (0 : Int32)] (97, I, J, R) _
      refine az_E.br (c := (0 : Int32) = 0) (tt := 40) (ff := 48) (L' := [.retAddr 0, .retAddr 0, .int v2, .retAddr 0, .int v4, .int v5, .ref 71, .ref 63]) (S' := []) (σ' := (97, I, J, R)) rfl (fun _ => ?_) (fun hn => absurd (by decide) hn)
      refine az_E.sn 1 (pc' := 42) (L' := [.retAddr 0, .retAddr 0, .int v2, .retAddr 0, .int v4, .int v5, .ref 71, .ref 63]) (S' := [.ref 63]) (σ' := (97, I, J, R)) rfl ?_
      refine az_E.call (d := 1) (k' := 54) (vs := [.ref 63]) (pc' := 45) (S' := []) rfl ?_ (fun _ _ hq => hq)
      show az_E az_F ex 1 54 0 [.ref 63] [] (97, I, J, R) _
      refine az_E.sn 3 (pc' := 5) (L' := [.ref 63]) (S' := [.int (-1 : Int32), .int (I 63 0)]) (σ' := (97, I, J, R)) rfl ?_
      refine az_E.br (c := (I 63 0) = (-1 : Int32)) (tt := 8) (ff := 20) (L' := [.ref 63]) (S' := []) (σ' := (97, I, J, R)) rfl (fun hc_1688 => ?_) (fun hc_1688 => ?_)
      · rw [if_pos hc_1688] at h
        refine az_E.sn 3 (pc' := 13) (L' := [.ref 63]) (S' := [.int (-1 : Int32), .int (I 63 1)]) (σ' := (97, I, J, R)) rfl ?_
        refine az_E.br (c := (I 63 1) = (-1 : Int32)) (tt := 16) (ff := 20) (L' := [.ref 63]) (S' := []) (σ' := (97, I, J, R)) rfl (fun hc_1689 => ?_) (fun hc_1689 => ?_)
        · rw [if_pos hc_1689] at h
          refine az_E.sn 2 (pc' := 21) (L' := [.ref 63]) (S' := [.int (1 : Int32)]) (σ' := (97, I, J, R)) rfl ?_
          refine az_E.ret (v := some (.int (1 : Int32))) (σ' := (97, I, J, R)) rfl ?_
          show az_E az_F ex 2 128 45 [.retAddr 0, .retAddr 0, .int v2, .retAddr 0, .int v4, .int v5, .ref 71, .ref 63] [.int (1 : Int32)] (97, I, J, R) _
          refine az_E.br (c := (1 : Int32) = 0) (tt := 51) (ff := 48) (L' := [.retAddr 0, .retAddr 0, .int v2, .retAddr 0, .int v4, .int v5, .ref 71, .ref 63]) (S' := []) (σ' := (97, I, J, R)) rfl (fun hn => absurd hn (by decide)) (fun _ => ?_)
          refine az_E.sn 1 (pc' := 50) (L' := [.retAddr 0, .retAddr 0, .int v2, .retAddr 0, .int v4, .int v5, .ref 71, .ref 63]) (S' := [.int (-11 : Int32)]) (σ' := (97, I, J, R)) rfl ?_
          have h := Option.some.inj h
          subst h
          exact az_E.ret (v := some (.int (-11 : Int32))) (σ' := (97, I, J, R)) rfl hQ
        · rw [if_neg hc_1689] at h
          refine az_E.sn 1 (pc' := 21) (L' := [.ref 63]) (S' := [.int (0 : Int32)]) (σ' := (97, I, J, R)) rfl ?_
          refine az_E.ret (v := some (.int (0 : Int32))) (σ' := (97, I, J, R)) rfl ?_
          show az_E az_F ex 2 128 45 [.retAddr 0, .retAddr 0, .int v2, .retAddr 0, .int v4, .int v5, .ref 71, .ref 63] [.int (0 : Int32)] (97, I, J, R) _
          refine az_E.br (c := (0 : Int32) = 0) (tt := 51) (ff := 48) (L' := [.retAddr 0, .retAddr 0, .int v2, .retAddr 0, .int v4, .int v5, .ref 71, .ref 63]) (S' := []) (σ' := (97, I, J, R)) rfl (fun _ => ?_) (fun hn => absurd (by decide) hn)
          refine az_E.sn 1 (pc' := 53) (L' := [.retAddr 0, .retAddr 0, .int v2, .retAddr 0, .int v4, .int v5, .ref 71, .ref 63]) (S' := [.ref 71]) (σ' := (97, I, J, R)) rfl ?_
          refine az_E.call (d := 1) (k' := 55) (vs := [.ref 71]) (pc' := 56) (S' := []) rfl ?_ (fun _ _ hq => hq)
          show az_E az_F ex 1 55 0 [.ref 71] [] (97, I, J, R) _
          refine az_E.sn 3 (pc' := 5) (L' := [.ref 71]) (S' := [.int (-1 : Int32), .int (I 71 1)]) (σ' := (97, I, J, R)) rfl ?_
          refine az_E.br (c := (I 71 1) = (-1 : Int32)) (tt := 12) (ff := 8) (L' := [.ref 71]) (S' := []) (σ' := (97, I, J, R)) rfl (fun hc_1690 => ?_) (fun hc_1690 => ?_)
          · rw [if_pos hc_1690] at h
            refine az_E.sn 1 (pc' := 13) (L' := [.ref 71]) (S' := [.int (0 : Int32)]) (σ' := (97, I, J, R)) rfl ?_
            refine az_E.ret (v := some (.int (0 : Int32))) (σ' := (97, I, J, R)) rfl ?_
            show az_E az_F ex 2 128 56 [.retAddr 0, .retAddr 0, .int v2, .retAddr 0, .int v4, .int v5, .ref 71, .ref 63] [.int (0 : Int32)] (97, I, J, R) _
            refine az_E.br (c := (0 : Int32) = 0) (tt := 72) (ff := 59) (L' := [.retAddr 0, .retAddr 0, .int v2, .retAddr 0, .int v4, .int v5, .ref 71, .ref 63]) (S' := []) (σ' := (97, I, J, R)) rfl (fun _ => ?_) (fun hn => absurd (by decide) hn)
            refine az_E.sn 1 (pc' := 74) (L' := [.retAddr 0, .retAddr 0, .int v2, .retAddr 0, .int v4, .int v5, .ref 71, .ref 63]) (S' := [.int (-12 : Int32)]) (σ' := (97, I, J, R)) rfl ?_
            have h := Option.some.inj h
            subst h
            exact az_E.ret (v := some (.int (-12 : Int32))) (σ' := (97, I, J, R)) rfl hQ
          · rw [if_neg hc_1690] at h
            refine az_E.sn 2 (pc' := 13) (L' := [.ref 71]) (S' := [.int (1 : Int32)]) (σ' := (97, I, J, R)) rfl ?_
            refine az_E.ret (v := some (.int (1 : Int32))) (σ' := (97, I, J, R)) rfl ?_
            show az_E az_F ex 2 128 56 [.retAddr 0, .retAddr 0, .int v2, .retAddr 0, .int v4, .int v5, .ref 71, .ref 63] [.int (1 : Int32)] (97, I, J, R) _
            refine az_E.br (c := (1 : Int32) = 0) (tt := 72) (ff := 59) (L' := [.retAddr 0, .retAddr 0, .int v2, .retAddr 0, .int v4, .int v5, .ref 71, .ref 63]) (S' := []) (σ' := (97, I, J, R)) rfl (fun hn => absurd hn (by decide)) (fun _ => ?_)
            refine az_E.sn 3 (pc' := 66) (L' := [.retAddr 0, .retAddr 0, .int v2, .retAddr 0, .int v4, .int v5, .ref 71, .ref 63]) (S' := [.int (I 71 1), .ref 63]) (σ' := (97, I, J, R)) rfl ?_
            refine az_E.call (d := 1) (k' := 56) (vs := [.ref 63, .int (I 71 1)]) (pc' := 69) (S' := []) rfl ?_ (fun _ _ hq => hq)
            show az_E az_F ex 1 56 0 [.ref 63, .int (I 71 1)] [] (97, I, J, R) _
            refine az_E.sn 1 (pc' := 1) (L' := [.ref 63, .int (I 71 1)]) (S' := [.ref 63]) (σ' := (97, I, J, R)) rfl ?_
            refine az_E.call (d := 0) (k' := 55) (vs := [.ref 63]) (pc' := 4) (S' := []) rfl ?_ (fun _ _ hq => hq)
            show az_E az_F ex 0 55 0 [.ref 63] [] (97, I, J, R) _
            refine az_E.sn 3 (pc' := 5) (L' := [.ref 63]) (S' := [.int (-1 : Int32), .int (I 63 1)]) (σ' := (97, I, J, R)) rfl ?_
            refine az_E.br (c := (I 63 1) = (-1 : Int32)) (tt := 12) (ff := 8) (L' := [.ref 63]) (S' := []) (σ' := (97, I, J, R)) rfl (fun hc_1691 => ?_) (fun hc_1691 => ?_)
            · rw [if_pos hc_1691] at h
              refine az_E.sn 1 (pc' := 13) (L' := [.ref 63]) (S' := [.int (0 : Int32)]) (σ' := (97, I, J, R)) rfl ?_
              refine az_E.ret (v := some (.int (0 : Int32))) (σ' := (97, I, J, R)) rfl ?_
              show az_E az_F ex 1 56 4 [.ref 63, .int (I 71 1)] [.int (0 : Int32)] (97, I, J, R) _
              refine az_E.br (c := (0 : Int32) = 0) (tt := 19) (ff := 7) (L' := [.ref 63, .int (I 71 1)]) (S' := []) (σ' := (97, I, J, R)) rfl (fun _ => ?_) (fun hn => absurd (by decide) hn)
              refine az_E.sn 1 (pc' := 20) (L' := [.ref 63, .int (I 71 1)]) (S' := [.int (0 : Int32)]) (σ' := (97, I, J, R)) rfl ?_
              refine az_E.ret (v := some (.int (0 : Int32))) (σ' := (97, I, J, R)) rfl ?_
              show az_E az_F ex 2 128 69 [.retAddr 0, .retAddr 0, .int v2, .retAddr 0, .int v4, .int v5, .ref 71, .ref 63] [.int (0 : Int32)] (97, I, J, R) _
              refine az_E.br (c := (0 : Int32) = 0) (tt := 72) (ff := 75) (L' := [.retAddr 0, .retAddr 0, .int v2, .retAddr 0, .int v4, .int v5, .ref 71, .ref 63]) (S' := []) (σ' := (97, I, J, R)) rfl (fun _ => ?_) (fun hn => absurd (by decide) hn)
              refine az_E.sn 1 (pc' := 74) (L' := [.retAddr 0, .retAddr 0, .int v2, .retAddr 0, .int v4, .int v5, .ref 71, .ref 63]) (S' := [.int (-12 : Int32)]) (σ' := (97, I, J, R)) rfl ?_
              have h := Option.some.inj h
              subst h
              exact az_E.ret (v := some (.int (-12 : Int32))) (σ' := (97, I, J, R)) rfl hQ
            · rw [if_neg hc_1691] at h
              refine az_E.sn 2 (pc' := 13) (L' := [.ref 63]) (S' := [.int (1 : Int32)]) (σ' := (97, I, J, R)) rfl ?_
              refine az_E.ret (v := some (.int (1 : Int32))) (σ' := (97, I, J, R)) rfl ?_
              show az_E az_F ex 1 56 4 [.ref 63, .int (I 71 1)] [.int (1 : Int32)] (97, I, J, R) _
              refine az_E.br (c := (1 : Int32) = 0) (tt := 19) (ff := 7) (L' := [.ref 63, .int (I 71 1)]) (S' := []) (σ' := (97, I, J, R)) rfl (fun hn => absurd hn (by decide)) (fun _ => ?_)
              refine az_E.sn 3 (pc' := 12) (L' := [.ref 63, .int (I 71 1)]) (S' := [.int (I 71 1), .int (I 63 1)]) (σ' := (97, I, J, R)) rfl ?_
              refine az_E.br (c := (I 63 1) = (I 71 1)) (tt := 15) (ff := 19) (L' := [.ref 63, .int (I 71 1)]) (S' := []) (σ' := (97, I, J, R)) rfl (fun hc_1692 => ?_) (fun hc_1692 => ?_)
              · rw [if_pos hc_1692] at h
                refine az_E.sn 2 (pc' := 20) (L' := [.ref 63, .int (I 71 1)]) (S' := [.int (1 : Int32)]) (σ' := (97, I, J, R)) rfl ?_
                refine az_E.ret (v := some (.int (1 : Int32))) (σ' := (97, I, J, R)) rfl ?_
                show az_E az_F ex 2 128 69 [.retAddr 0, .retAddr 0, .int v2, .retAddr 0, .int v4, .int v5, .ref 71, .ref 63] [.int (1 : Int32)] (97, I, J, R) _
                refine az_E.br (c := (1 : Int32) = 0) (tt := 72) (ff := 75) (L' := [.retAddr 0, .retAddr 0, .int v2, .retAddr 0, .int v4, .int v5, .ref 71, .ref 63]) (S' := []) (σ' := (97, I, J, R)) rfl (fun hn => absurd hn (by decide)) (fun _ => ?_)
                refine az_E.sn 3 (pc' := 80) (L' := [.retAddr 0, .retAddr 0, .int v2, .retAddr 0, .int v4, .int v5, .ref 71, .ref 63]) (S' := [.int v5, .int v2, .ref 71]) (σ' := (97, I, J, R)) rfl ?_
                refine az_E.call (d := 1) (k' := 60) (vs := [.ref 71, .int v2, .int v5]) (pc' := 83) (S' := []) rfl ?_ (fun _ _ hq => hq)
                show az_E az_F ex 1 60 0 [.ref 71, .int v2, .int v5] [] (97, I, J, R) _
                refine az_E.sn 1 (pc' := 1) (L' := [.ref 71, .int v2, .int v5]) (S' := [.int v2]) (σ' := (97, I, J, R)) rfl ?_
                refine az_E.br (c := v2 < 0) (tt := 30) (ff := 4) (L' := [.ref 71, .int v2, .int v5]) (S' := []) (σ' := (97, I, J, R)) rfl (fun hc_1693 => ?_) (fun hc_1693 => ?_)
                · rw [if_pos hc_1693] at h
                  refine az_E.sn 1 (pc' := 31) (L' := [.ref 71, .int v2, .int v5]) (S' := [.int (0 : Int32)]) (σ' := (97, I, J, R)) rfl ?_
                  refine az_E.ret (v := some (.int (0 : Int32))) (σ' := (97, I, J, R)) rfl ?_
                  show az_E az_F ex 2 128 83 [.retAddr 0, .retAddr 0, .int v2, .retAddr 0, .int v4, .int v5, .ref 71, .ref 63] [.int (0 : Int32)] (97, I, J, R) _
                  refine az_E.br (c := (0 : Int32) = 0) (tt := 98) (ff := 86) (L' := [.retAddr 0, .retAddr 0, .int v2, .retAddr 0, .int v4, .int v5, .ref 71, .ref 63]) (S' := []) (σ' := (97, I, J, R)) rfl (fun _ => ?_) (fun hn => absurd (by decide) hn)
                  refine az_E.sn 1 (pc' := 100) (L' := [.retAddr 0, .retAddr 0, .int v2, .retAddr 0, .int v4, .int v5, .ref 71, .ref 63]) (S' := [.int (-13 : Int32)]) (σ' := (97, I, J, R)) rfl ?_
                  have h := Option.some.inj h
                  subst h
                  exact az_E.ret (v := some (.int (-13 : Int32))) (σ' := (97, I, J, R)) rfl hQ
                · rw [if_neg hc_1693] at h
                  refine az_E.sn 1 (pc' := 5) (L' := [.ref 71, .int v2, .int v5]) (S' := [.int v5]) (σ' := (97, I, J, R)) rfl ?_
                  refine az_E.br (c := v5 < 0) (tt := 30) (ff := 8) (L' := [.ref 71, .int v2, .int v5]) (S' := []) (σ' := (97, I, J, R)) rfl (fun hc_1694 => ?_) (fun hc_1694 => ?_)
                  · rw [if_pos hc_1694] at h
                    refine az_E.sn 1 (pc' := 31) (L' := [.ref 71, .int v2, .int v5]) (S' := [.int (0 : Int32)]) (σ' := (97, I, J, R)) rfl ?_
                    refine az_E.ret (v := some (.int (0 : Int32))) (σ' := (97, I, J, R)) rfl ?_
                    show az_E az_F ex 2 128 83 [.retAddr 0, .retAddr 0, .int v2, .retAddr 0, .int v4, .int v5, .ref 71, .ref 63] [.int (0 : Int32)] (97, I, J, R) _
                    refine az_E.br (c := (0 : Int32) = 0) (tt := 98) (ff := 86) (L' := [.retAddr 0, .retAddr 0, .int v2, .retAddr 0, .int v4, .int v5, .ref 71, .ref 63]) (S' := []) (σ' := (97, I, J, R)) rfl (fun _ => ?_) (fun hn => absurd (by decide) hn)
                    refine az_E.sn 1 (pc' := 100) (L' := [.retAddr 0, .retAddr 0, .int v2, .retAddr 0, .int v4, .int v5, .ref 71, .ref 63]) (S' := [.int (-13 : Int32)]) (σ' := (97, I, J, R)) rfl ?_
                    have h := Option.some.inj h
                    subst h
                    exact az_E.ret (v := some (.int (-13 : Int32))) (σ' := (97, I, J, R)) rfl hQ
                  · rw [if_neg hc_1694] at h
                    refine az_E.sn 3 (pc' := 13) (L' := [.ref 71, .int v2, .int v5]) (S' := [.int (I 71 2), .int v2]) (σ' := (97, I, J, R)) rfl ?_
                    refine az_E.br (c := (I 71 2) < v2) (tt := 30) (ff := 16) (L' := [.ref 71, .int v2, .int v5]) (S' := []) (σ' := (97, I, J, R)) rfl (fun hc_1695 => ?_) (fun hc_1695 => ?_)
                    · rw [if_pos hc_1695] at h
                      refine az_E.sn 1 (pc' := 31) (L' := [.ref 71, .int v2, .int v5]) (S' := [.int (0 : Int32)]) (σ' := (97, I, J, R)) rfl ?_
                      refine az_E.ret (v := some (.int (0 : Int32))) (σ' := (97, I, J, R)) rfl ?_
                      show az_E az_F ex 2 128 83 [.retAddr 0, .retAddr 0, .int v2, .retAddr 0, .int v4, .int v5, .ref 71, .ref 63] [.int (0 : Int32)] (97, I, J, R) _
                      refine az_E.br (c := (0 : Int32) = 0) (tt := 98) (ff := 86) (L' := [.retAddr 0, .retAddr 0, .int v2, .retAddr 0, .int v4, .int v5, .ref 71, .ref 63]) (S' := []) (σ' := (97, I, J, R)) rfl (fun _ => ?_) (fun hn => absurd (by decide) hn)
                      refine az_E.sn 1 (pc' := 100) (L' := [.retAddr 0, .retAddr 0, .int v2, .retAddr 0, .int v4, .int v5, .ref 71, .ref 63]) (S' := [.int (-13 : Int32)]) (σ' := (97, I, J, R)) rfl ?_
                      have h := Option.some.inj h
                      subst h
                      exact az_E.ret (v := some (.int (-13 : Int32))) (σ' := (97, I, J, R)) rfl hQ
                    · rw [if_neg hc_1695] at h
                      refine az_E.sn 5 (pc' := 23) (L' := [.ref 71, .int v2, .int v5]) (S' := [.int ((I 71 2) - v2), .int v5]) (σ' := (97, I, J, R)) rfl ?_
                      refine az_E.br (c := ((I 71 2) - v2) < v5) (tt := 30) (ff := 26) (L' := [.ref 71, .int v2, .int v5]) (S' := []) (σ' := (97, I, J, R)) rfl (fun hc_1696 => ?_) (fun hc_1696 => ?_)
                      · rw [if_pos hc_1696] at h
                        refine az_E.sn 1 (pc' := 31) (L' := [.ref 71, .int v2, .int v5]) (S' := [.int (0 : Int32)]) (σ' := (97, I, J, R)) rfl ?_
                        refine az_E.ret (v := some (.int (0 : Int32))) (σ' := (97, I, J, R)) rfl ?_
                        show az_E az_F ex 2 128 83 [.retAddr 0, .retAddr 0, .int v2, .retAddr 0, .int v4, .int v5, .ref 71, .ref 63] [.int (0 : Int32)] (97, I, J, R) _
                        refine az_E.br (c := (0 : Int32) = 0) (tt := 98) (ff := 86) (L' := [.retAddr 0, .retAddr 0, .int v2, .retAddr 0, .int v4, .int v5, .ref 71, .ref 63]) (S' := []) (σ' := (97, I, J, R)) rfl (fun _ => ?_) (fun hn => absurd (by decide) hn)
                        refine az_E.sn 1 (pc' := 100) (L' := [.retAddr 0, .retAddr 0, .int v2, .retAddr 0, .int v4, .int v5, .ref 71, .ref 63]) (S' := [.int (-13 : Int32)]) (σ' := (97, I, J, R)) rfl ?_
                        have h := Option.some.inj h
                        subst h
                        exact az_E.ret (v := some (.int (-13 : Int32))) (σ' := (97, I, J, R)) rfl hQ
                      · rw [if_neg hc_1696] at h
                        refine az_E.sn 2 (pc' := 31) (L' := [.ref 71, .int v2, .int v5]) (S' := [.int (1 : Int32)]) (σ' := (97, I, J, R)) rfl ?_
                        refine az_E.ret (v := some (.int (1 : Int32))) (σ' := (97, I, J, R)) rfl ?_
                        show az_E az_F ex 2 128 83 [.retAddr 0, .retAddr 0, .int v2, .retAddr 0, .int v4, .int v5, .ref 71, .ref 63] [.int (1 : Int32)] (97, I, J, R) _
                        refine az_E.br (c := (1 : Int32) = 0) (tt := 98) (ff := 86) (L' := [.retAddr 0, .retAddr 0, .int v2, .retAddr 0, .int v4, .int v5, .ref 71, .ref 63]) (S' := []) (σ' := (97, I, J, R)) rfl (fun hn => absurd hn (by decide)) (fun _ => ?_)
                        refine az_E.sn 3 (pc' := 92) (L' := [.retAddr 0, .retAddr 0, .int v2, .retAddr 0, .int v4, .int v5, .ref 71, .ref 63]) (S' := [.int v5, .int v4, .ref 63]) (σ' := (97, I, J, R)) rfl ?_
                        refine az_E.call (d := 1) (k' := 60) (vs := [.ref 63, .int v4, .int v5]) (pc' := 95) (S' := []) rfl ?_ (fun _ _ hq => hq)
                        show az_E az_F ex 1 60 0 [.ref 63, .int v4, .int v5] [] (97, I, J, R) _
                        refine az_E.sn 1 (pc' := 1) (L' := [.ref 63, .int v4, .int v5]) (S' := [.int v4]) (σ' := (97, I, J, R)) rfl ?_
                        refine az_E.br (c := v4 < 0) (tt := 30) (ff := 4) (L' := [.ref 63, .int v4, .int v5]) (S' := []) (σ' := (97, I, J, R)) rfl (fun hc_1697 => ?_) (fun hc_1697 => ?_)
                        · rw [if_pos hc_1697] at h
                          refine az_E.sn 1 (pc' := 31) (L' := [.ref 63, .int v4, .int v5]) (S' := [.int (0 : Int32)]) (σ' := (97, I, J, R)) rfl ?_
                          refine az_E.ret (v := some (.int (0 : Int32))) (σ' := (97, I, J, R)) rfl ?_
                          show az_E az_F ex 2 128 95 [.retAddr 0, .retAddr 0, .int v2, .retAddr 0, .int v4, .int v5, .ref 71, .ref 63] [.int (0 : Int32)] (97, I, J, R) _
                          refine az_E.br (c := (0 : Int32) = 0) (tt := 98) (ff := 101) (L' := [.retAddr 0, .retAddr 0, .int v2, .retAddr 0, .int v4, .int v5, .ref 71, .ref 63]) (S' := []) (σ' := (97, I, J, R)) rfl (fun _ => ?_) (fun hn => absurd (by decide) hn)
                          refine az_E.sn 1 (pc' := 100) (L' := [.retAddr 0, .retAddr 0, .int v2, .retAddr 0, .int v4, .int v5, .ref 71, .ref 63]) (S' := [.int (-13 : Int32)]) (σ' := (97, I, J, R)) rfl ?_
                          have h := Option.some.inj h
                          subst h
                          exact az_E.ret (v := some (.int (-13 : Int32))) (σ' := (97, I, J, R)) rfl hQ
                        · rw [if_neg hc_1697] at h
                          refine az_E.sn 1 (pc' := 5) (L' := [.ref 63, .int v4, .int v5]) (S' := [.int v5]) (σ' := (97, I, J, R)) rfl ?_
                          refine az_E.br (c := v5 < 0) (tt := 30) (ff := 8) (L' := [.ref 63, .int v4, .int v5]) (S' := []) (σ' := (97, I, J, R)) rfl (fun hc_1698 => ?_) (fun hc_1698 => ?_)
                          · rw [if_pos hc_1698] at h
                            refine az_E.sn 1 (pc' := 31) (L' := [.ref 63, .int v4, .int v5]) (S' := [.int (0 : Int32)]) (σ' := (97, I, J, R)) rfl ?_
                            refine az_E.ret (v := some (.int (0 : Int32))) (σ' := (97, I, J, R)) rfl ?_
                            show az_E az_F ex 2 128 95 [.retAddr 0, .retAddr 0, .int v2, .retAddr 0, .int v4, .int v5, .ref 71, .ref 63] [.int (0 : Int32)] (97, I, J, R) _
                            refine az_E.br (c := (0 : Int32) = 0) (tt := 98) (ff := 101) (L' := [.retAddr 0, .retAddr 0, .int v2, .retAddr 0, .int v4, .int v5, .ref 71, .ref 63]) (S' := []) (σ' := (97, I, J, R)) rfl (fun _ => ?_) (fun hn => absurd (by decide) hn)
                            refine az_E.sn 1 (pc' := 100) (L' := [.retAddr 0, .retAddr 0, .int v2, .retAddr 0, .int v4, .int v5, .ref 71, .ref 63]) (S' := [.int (-13 : Int32)]) (σ' := (97, I, J, R)) rfl ?_
                            have h := Option.some.inj h
                            subst h
                            exact az_E.ret (v := some (.int (-13 : Int32))) (σ' := (97, I, J, R)) rfl hQ
                          · rw [if_neg hc_1698] at h
                            refine az_E.sn 3 (pc' := 13) (L' := [.ref 63, .int v4, .int v5]) (S' := [.int (I 63 2), .int v4]) (σ' := (97, I, J, R)) rfl ?_
                            refine az_E.br (c := (I 63 2) < v4) (tt := 30) (ff := 16) (L' := [.ref 63, .int v4, .int v5]) (S' := []) (σ' := (97, I, J, R)) rfl (fun hc_1699 => ?_) (fun hc_1699 => ?_)
                            · rw [if_pos hc_1699] at h
                              refine az_E.sn 1 (pc' := 31) (L' := [.ref 63, .int v4, .int v5]) (S' := [.int (0 : Int32)]) (σ' := (97, I, J, R)) rfl ?_
                              refine az_E.ret (v := some (.int (0 : Int32))) (σ' := (97, I, J, R)) rfl ?_
                              show az_E az_F ex 2 128 95 [.retAddr 0, .retAddr 0, .int v2, .retAddr 0, .int v4, .int v5, .ref 71, .ref 63] [.int (0 : Int32)] (97, I, J, R) _
                              refine az_E.br (c := (0 : Int32) = 0) (tt := 98) (ff := 101) (L' := [.retAddr 0, .retAddr 0, .int v2, .retAddr 0, .int v4, .int v5, .ref 71, .ref 63]) (S' := []) (σ' := (97, I, J, R)) rfl (fun _ => ?_) (fun hn => absurd (by decide) hn)
                              refine az_E.sn 1 (pc' := 100) (L' := [.retAddr 0, .retAddr 0, .int v2, .retAddr 0, .int v4, .int v5, .ref 71, .ref 63]) (S' := [.int (-13 : Int32)]) (σ' := (97, I, J, R)) rfl ?_
                              have h := Option.some.inj h
                              subst h
                              exact az_E.ret (v := some (.int (-13 : Int32))) (σ' := (97, I, J, R)) rfl hQ
                            · rw [if_neg hc_1699] at h
                              refine az_E.sn 5 (pc' := 23) (L' := [.ref 63, .int v4, .int v5]) (S' := [.int ((I 63 2) - v4), .int v5]) (σ' := (97, I, J, R)) rfl ?_
                              refine az_E.br (c := ((I 63 2) - v4) < v5) (tt := 30) (ff := 26) (L' := [.ref 63, .int v4, .int v5]) (S' := []) (σ' := (97, I, J, R)) rfl (fun hc_1700 => ?_) (fun hc_1700 => ?_)
                              · rw [if_pos hc_1700] at h
                                refine az_E.sn 1 (pc' := 31) (L' := [.ref 63, .int v4, .int v5]) (S' := [.int (0 : Int32)]) (σ' := (97, I, J, R)) rfl ?_
                                refine az_E.ret (v := some (.int (0 : Int32))) (σ' := (97, I, J, R)) rfl ?_
                                show az_E az_F ex 2 128 95 [.retAddr 0, .retAddr 0, .int v2, .retAddr 0, .int v4, .int v5, .ref 71, .ref 63] [.int (0 : Int32)] (97, I, J, R) _
                                refine az_E.br (c := (0 : Int32) = 0) (tt := 98) (ff := 101) (L' := [.retAddr 0, .retAddr 0, .int v2, .retAddr 0, .int v4, .int v5, .ref 71, .ref 63]) (S' := []) (σ' := (97, I, J, R)) rfl (fun _ => ?_) (fun hn => absurd (by decide) hn)
                                refine az_E.sn 1 (pc' := 100) (L' := [.retAddr 0, .retAddr 0, .int v2, .retAddr 0, .int v4, .int v5, .ref 71, .ref 63]) (S' := [.int (-13 : Int32)]) (σ' := (97, I, J, R)) rfl ?_
                                have h := Option.some.inj h
                                subst h
                                exact az_E.ret (v := some (.int (-13 : Int32))) (σ' := (97, I, J, R)) rfl hQ
                              · rw [if_neg hc_1700] at h
                                refine az_E.sn 2 (pc' := 31) (L' := [.ref 63, .int v4, .int v5]) (S' := [.int (1 : Int32)]) (σ' := (97, I, J, R)) rfl ?_
                                refine az_E.ret (v := some (.int (1 : Int32))) (σ' := (97, I, J, R)) rfl ?_
                                show az_E az_F ex 2 128 95 [.retAddr 0, .retAddr 0, .int v2, .retAddr 0, .int v4, .int v5, .ref 71, .ref 63] [.int (1 : Int32)] (97, I, J, R) _
                                refine az_E.br (c := (1 : Int32) = 0) (tt := 98) (ff := 101) (L' := [.retAddr 0, .retAddr 0, .int v2, .retAddr 0, .int v4, .int v5, .ref 71, .ref 63]) (S' := []) (σ' := (97, I, J, R)) rfl (fun hn => absurd hn (by decide)) (fun _ => ?_)
                                refine az_E.sn 7 (pc' := 116) (L' := [.retAddr 0, .retAddr 0, .int v2, .retAddr 0, .int v4, .int v5, .ref 71, .ref 63]) (S' := [.int v5, .int v4, .ref (63 + 1), .int v2, .ref (71 + 1)]) (σ' := (97, I, J, R)) rfl ?_
                                by_cases hc_1701 : v2 < 0 ∨ v4 < 0 ∨ v5 < 0 ∨ 60 < v2.toNatClampNeg + v5.toNatClampNeg ∨ 60 < v4.toNatClampNeg + v5.toNatClampNeg
                                · rw [if_pos hc_1701] at h; cases h
                                · rw [if_neg hc_1701] at h
                                  refine az_E.o (o := az_cp az_F (97, I, J, R) (71 + 1) v2 (63 + 1) v4 v5) (pc' := 119) (L' := [.retAddr 0, .retAddr 0, .int v2, .retAddr 0, .int v4, .int v5, .ref 71, .ref 63]) (S' := []) (x := (97, I, (az_ur J (63 + 1) (va_cpy (J (71 + 1)) (J (63 + 1)) v2.toNatClampNeg v4.toNatClampNeg v5.toNatClampNeg)), R)) rfl (if_neg hc_1701) ?_
                                  refine az_E.sn 1 (pc' := 121) (L' := [.retAddr 0, .retAddr 0, .int v2, .retAddr 0, .int v4, .int v5, .ref 71, .ref 63]) (S' := [.int v5]) (σ' := (97, I, (az_ur J (63 + 1) (va_cpy (J (71 + 1)) (J (63 + 1)) v2.toNatClampNeg v4.toNatClampNeg v5.toNatClampNeg)), R)) rfl ?_
                                  have h := Option.some.inj h
                                  subst h
                                  exact az_E.ret (v := some (.int v5)) (σ' := (97, I, (az_ur J (63 + 1) (va_cpy (J (71 + 1)) (J (63 + 1)) v2.toNatClampNeg v4.toNatClampNeg v5.toNatClampNeg)), R)) rfl hQ
              · rw [if_neg hc_1692] at h
                refine az_E.sn 1 (pc' := 20) (L' := [.ref 63, .int (I 71 1)]) (S' := [.int (0 : Int32)]) (σ' := (97, I, J, R)) rfl ?_
                refine az_E.ret (v := some (.int (0 : Int32))) (σ' := (97, I, J, R)) rfl ?_
                show az_E az_F ex 2 128 69 [.retAddr 0, .retAddr 0, .int v2, .retAddr 0, .int v4, .int v5, .ref 71, .ref 63] [.int (0 : Int32)] (97, I, J, R) _
                refine az_E.br (c := (0 : Int32) = 0) (tt := 72) (ff := 75) (L' := [.retAddr 0, .retAddr 0, .int v2, .retAddr 0, .int v4, .int v5, .ref 71, .ref 63]) (S' := []) (σ' := (97, I, J, R)) rfl (fun _ => ?_) (fun hn => absurd (by decide) hn)
                refine az_E.sn 1 (pc' := 74) (L' := [.retAddr 0, .retAddr 0, .int v2, .retAddr 0, .int v4, .int v5, .ref 71, .ref 63]) (S' := [.int (-12 : Int32)]) (σ' := (97, I, J, R)) rfl ?_
                have h := Option.some.inj h
                subst h
                exact az_E.ret (v := some (.int (-12 : Int32))) (σ' := (97, I, J, R)) rfl hQ
      · rw [if_neg hc_1688] at h
        refine az_E.sn 1 (pc' := 21) (L' := [.ref 63]) (S' := [.int (0 : Int32)]) (σ' := (97, I, J, R)) rfl ?_
        refine az_E.ret (v := some (.int (0 : Int32))) (σ' := (97, I, J, R)) rfl ?_
        show az_E az_F ex 2 128 45 [.retAddr 0, .retAddr 0, .int v2, .retAddr 0, .int v4, .int v5, .ref 71, .ref 63] [.int (0 : Int32)] (97, I, J, R) _
        refine az_E.br (c := (0 : Int32) = 0) (tt := 51) (ff := 48) (L' := [.retAddr 0, .retAddr 0, .int v2, .retAddr 0, .int v4, .int v5, .ref 71, .ref 63]) (S' := []) (σ' := (97, I, J, R)) rfl (fun _ => ?_) (fun hn => absurd (by decide) hn)
        refine az_E.sn 1 (pc' := 53) (L' := [.retAddr 0, .retAddr 0, .int v2, .retAddr 0, .int v4, .int v5, .ref 71, .ref 63]) (S' := [.ref 71]) (σ' := (97, I, J, R)) rfl ?_
        refine az_E.call (d := 1) (k' := 55) (vs := [.ref 71]) (pc' := 56) (S' := []) rfl ?_ (fun _ _ hq => hq)
        show az_E az_F ex 1 55 0 [.ref 71] [] (97, I, J, R) _
        refine az_E.sn 3 (pc' := 5) (L' := [.ref 71]) (S' := [.int (-1 : Int32), .int (I 71 1)]) (σ' := (97, I, J, R)) rfl ?_
        refine az_E.br (c := (I 71 1) = (-1 : Int32)) (tt := 12) (ff := 8) (L' := [.ref 71]) (S' := []) (σ' := (97, I, J, R)) rfl (fun hc_1702 => ?_) (fun hc_1702 => ?_)
        · rw [if_pos hc_1702] at h
          refine az_E.sn 1 (pc' := 13) (L' := [.ref 71]) (S' := [.int (0 : Int32)]) (σ' := (97, I, J, R)) rfl ?_
          refine az_E.ret (v := some (.int (0 : Int32))) (σ' := (97, I, J, R)) rfl ?_
          show az_E az_F ex 2 128 56 [.retAddr 0, .retAddr 0, .int v2, .retAddr 0, .int v4, .int v5, .ref 71, .ref 63] [.int (0 : Int32)] (97, I, J, R) _
          refine az_E.br (c := (0 : Int32) = 0) (tt := 72) (ff := 59) (L' := [.retAddr 0, .retAddr 0, .int v2, .retAddr 0, .int v4, .int v5, .ref 71, .ref 63]) (S' := []) (σ' := (97, I, J, R)) rfl (fun _ => ?_) (fun hn => absurd (by decide) hn)
          refine az_E.sn 1 (pc' := 74) (L' := [.retAddr 0, .retAddr 0, .int v2, .retAddr 0, .int v4, .int v5, .ref 71, .ref 63]) (S' := [.int (-12 : Int32)]) (σ' := (97, I, J, R)) rfl ?_
          have h := Option.some.inj h
          subst h
          exact az_E.ret (v := some (.int (-12 : Int32))) (σ' := (97, I, J, R)) rfl hQ
        · rw [if_neg hc_1702] at h
          refine az_E.sn 2 (pc' := 13) (L' := [.ref 71]) (S' := [.int (1 : Int32)]) (σ' := (97, I, J, R)) rfl ?_
          refine az_E.ret (v := some (.int (1 : Int32))) (σ' := (97, I, J, R)) rfl ?_
          show az_E az_F ex 2 128 56 [.retAddr 0, .retAddr 0, .int v2, .retAddr 0, .int v4, .int v5, .ref 71, .ref 63] [.int (1 : Int32)] (97, I, J, R) _
          refine az_E.br (c := (1 : Int32) = 0) (tt := 72) (ff := 59) (L' := [.retAddr 0, .retAddr 0, .int v2, .retAddr 0, .int v4, .int v5, .ref 71, .ref 63]) (S' := []) (σ' := (97, I, J, R)) rfl (fun hn => absurd hn (by decide)) (fun _ => ?_)
          refine az_E.sn 3 (pc' := 66) (L' := [.retAddr 0, .retAddr 0, .int v2, .retAddr 0, .int v4, .int v5, .ref 71, .ref 63]) (S' := [.int (I 71 1), .ref 63]) (σ' := (97, I, J, R)) rfl ?_
          refine az_E.call (d := 1) (k' := 56) (vs := [.ref 63, .int (I 71 1)]) (pc' := 69) (S' := []) rfl ?_ (fun _ _ hq => hq)
          show az_E az_F ex 1 56 0 [.ref 63, .int (I 71 1)] [] (97, I, J, R) _
          refine az_E.sn 1 (pc' := 1) (L' := [.ref 63, .int (I 71 1)]) (S' := [.ref 63]) (σ' := (97, I, J, R)) rfl ?_
          refine az_E.call (d := 0) (k' := 55) (vs := [.ref 63]) (pc' := 4) (S' := []) rfl ?_ (fun _ _ hq => hq)
          show az_E az_F ex 0 55 0 [.ref 63] [] (97, I, J, R) _
          refine az_E.sn 3 (pc' := 5) (L' := [.ref 63]) (S' := [.int (-1 : Int32), .int (I 63 1)]) (σ' := (97, I, J, R)) rfl ?_
          refine az_E.br (c := (I 63 1) = (-1 : Int32)) (tt := 12) (ff := 8) (L' := [.ref 63]) (S' := []) (σ' := (97, I, J, R)) rfl (fun hc_1703 => ?_) (fun hc_1703 => ?_)
          · rw [if_pos hc_1703] at h
            refine az_E.sn 1 (pc' := 13) (L' := [.ref 63]) (S' := [.int (0 : Int32)]) (σ' := (97, I, J, R)) rfl ?_
            refine az_E.ret (v := some (.int (0 : Int32))) (σ' := (97, I, J, R)) rfl ?_
            show az_E az_F ex 1 56 4 [.ref 63, .int (I 71 1)] [.int (0 : Int32)] (97, I, J, R) _
            refine az_E.br (c := (0 : Int32) = 0) (tt := 19) (ff := 7) (L' := [.ref 63, .int (I 71 1)]) (S' := []) (σ' := (97, I, J, R)) rfl (fun _ => ?_) (fun hn => absurd (by decide) hn)
            refine az_E.sn 1 (pc' := 20) (L' := [.ref 63, .int (I 71 1)]) (S' := [.int (0 : Int32)]) (σ' := (97, I, J, R)) rfl ?_
            refine az_E.ret (v := some (.int (0 : Int32))) (σ' := (97, I, J, R)) rfl ?_
            show az_E az_F ex 2 128 69 [.retAddr 0, .retAddr 0, .int v2, .retAddr 0, .int v4, .int v5, .ref 71, .ref 63] [.int (0 : Int32)] (97, I, J, R) _
            refine az_E.br (c := (0 : Int32) = 0) (tt := 72) (ff := 75) (L' := [.retAddr 0, .retAddr 0, .int v2, .retAddr 0, .int v4, .int v5, .ref 71, .ref 63]) (S' := []) (σ' := (97, I, J, R)) rfl (fun _ => ?_) (fun hn => absurd (by decide) hn)
            refine az_E.sn 1 (pc' := 74) (L' := [.retAddr 0, .retAddr 0, .int v2, .retAddr 0, .int v4, .int v5, .ref 71, .ref 63]) (S' := [.int (-12 : Int32)]) (σ' := (97, I, J, R)) rfl ?_
            have h := Option.some.inj h
            subst h
            exact az_E.ret (v := some (.int (-12 : Int32))) (σ' := (97, I, J, R)) rfl hQ
          · rw [if_neg hc_1703] at h
            refine az_E.sn 2 (pc' := 13) (L' := [.ref 63]) (S' := [.int (1 : Int32)]) (σ' := (97, I, J, R)) rfl ?_
            refine az_E.ret (v := some (.int (1 : Int32))) (σ' := (97, I, J, R)) rfl ?_
            show az_E az_F ex 1 56 4 [.ref 63, .int (I 71 1)] [.int (1 : Int32)] (97, I, J, R) _
            refine az_E.br (c := (1 : Int32) = 0) (tt := 19) (ff := 7) (L' := [.ref 63, .int (I 71 1)]) (S' := []) (σ' := (97, I, J, R)) rfl (fun hn => absurd hn (by decide)) (fun _ => ?_)
            refine az_E.sn 3 (pc' := 12) (L' := [.ref 63, .int (I 71 1)]) (S' := [.int (I 71 1), .int (I 63 1)]) (σ' := (97, I, J, R)) rfl ?_
            refine az_E.br (c := (I 63 1) = (I 71 1)) (tt := 15) (ff := 19) (L' := [.ref 63, .int (I 71 1)]) (S' := []) (σ' := (97, I, J, R)) rfl (fun hc_1704 => ?_) (fun hc_1704 => ?_)
            · rw [if_pos hc_1704] at h
              refine az_E.sn 2 (pc' := 20) (L' := [.ref 63, .int (I 71 1)]) (S' := [.int (1 : Int32)]) (σ' := (97, I, J, R)) rfl ?_
              refine az_E.ret (v := some (.int (1 : Int32))) (σ' := (97, I, J, R)) rfl ?_
              show az_E az_F ex 2 128 69 [.retAddr 0, .retAddr 0, .int v2, .retAddr 0, .int v4, .int v5, .ref 71, .ref 63] [.int (1 : Int32)] (97, I, J, R) _
              refine az_E.br (c := (1 : Int32) = 0) (tt := 72) (ff := 75) (L' := [.retAddr 0, .retAddr 0, .int v2, .retAddr 0, .int v4, .int v5, .ref 71, .ref 63]) (S' := []) (σ' := (97, I, J, R)) rfl (fun hn => absurd hn (by decide)) (fun _ => ?_)
              refine az_E.sn 3 (pc' := 80) (L' := [.retAddr 0, .retAddr 0, .int v2, .retAddr 0, .int v4, .int v5, .ref 71, .ref 63]) (S' := [.int v5, .int v2, .ref 71]) (σ' := (97, I, J, R)) rfl ?_
              refine az_E.call (d := 1) (k' := 60) (vs := [.ref 71, .int v2, .int v5]) (pc' := 83) (S' := []) rfl ?_ (fun _ _ hq => hq)
              show az_E az_F ex 1 60 0 [.ref 71, .int v2, .int v5] [] (97, I, J, R) _
              refine az_E.sn 1 (pc' := 1) (L' := [.ref 71, .int v2, .int v5]) (S' := [.int v2]) (σ' := (97, I, J, R)) rfl ?_
              refine az_E.br (c := v2 < 0) (tt := 30) (ff := 4) (L' := [.ref 71, .int v2, .int v5]) (S' := []) (σ' := (97, I, J, R)) rfl (fun hc_1705 => ?_) (fun hc_1705 => ?_)
              · rw [if_pos hc_1705] at h
                refine az_E.sn 1 (pc' := 31) (L' := [.ref 71, .int v2, .int v5]) (S' := [.int (0 : Int32)]) (σ' := (97, I, J, R)) rfl ?_
                refine az_E.ret (v := some (.int (0 : Int32))) (σ' := (97, I, J, R)) rfl ?_
                show az_E az_F ex 2 128 83 [.retAddr 0, .retAddr 0, .int v2, .retAddr 0, .int v4, .int v5, .ref 71, .ref 63] [.int (0 : Int32)] (97, I, J, R) _
                refine az_E.br (c := (0 : Int32) = 0) (tt := 98) (ff := 86) (L' := [.retAddr 0, .retAddr 0, .int v2, .retAddr 0, .int v4, .int v5, .ref 71, .ref 63]) (S' := []) (σ' := (97, I, J, R)) rfl (fun _ => ?_) (fun hn => absurd (by decide) hn)
                refine az_E.sn 1 (pc' := 100) (L' := [.retAddr 0, .retAddr 0, .int v2, .retAddr 0, .int v4, .int v5, .ref 71, .ref 63]) (S' := [.int (-13 : Int32)]) (σ' := (97, I, J, R)) rfl ?_
                have h := Option.some.inj h
                subst h
                exact az_E.ret (v := some (.int (-13 : Int32))) (σ' := (97, I, J, R)) rfl hQ
              · rw [if_neg hc_1705] at h
                refine az_E.sn 1 (pc' := 5) (L' := [.ref 71, .int v2, .int v5]) (S' := [.int v5]) (σ' := (97, I, J, R)) rfl ?_
                refine az_E.br (c := v5 < 0) (tt := 30) (ff := 8) (L' := [.ref 71, .int v2, .int v5]) (S' := []) (σ' := (97, I, J, R)) rfl (fun hc_1706 => ?_) (fun hc_1706 => ?_)
                · rw [if_pos hc_1706] at h
                  refine az_E.sn 1 (pc' := 31) (L' := [.ref 71, .int v2, .int v5]) (S' := [.int (0 : Int32)]) (σ' := (97, I, J, R)) rfl ?_
                  refine az_E.ret (v := some (.int (0 : Int32))) (σ' := (97, I, J, R)) rfl ?_
                  show az_E az_F ex 2 128 83 [.retAddr 0, .retAddr 0, .int v2, .retAddr 0, .int v4, .int v5, .ref 71, .ref 63] [.int (0 : Int32)] (97, I, J, R) _
                  refine az_E.br (c := (0 : Int32) = 0) (tt := 98) (ff := 86) (L' := [.retAddr 0, .retAddr 0, .int v2, .retAddr 0, .int v4, .int v5, .ref 71, .ref 63]) (S' := []) (σ' := (97, I, J, R)) rfl (fun _ => ?_) (fun hn => absurd (by decide) hn)
                  refine az_E.sn 1 (pc' := 100) (L' := [.retAddr 0, .retAddr 0, .int v2, .retAddr 0, .int v4, .int v5, .ref 71, .ref 63]) (S' := [.int (-13 : Int32)]) (σ' := (97, I, J, R)) rfl ?_
                  have h := Option.some.inj h
                  subst h
                  exact az_E.ret (v := some (.int (-13 : Int32))) (σ' := (97, I, J, R)) rfl hQ
                · rw [if_neg hc_1706] at h
                  refine az_E.sn 3 (pc' := 13) (L' := [.ref 71, .int v2, .int v5]) (S' := [.int (I 71 2), .int v2]) (σ' := (97, I, J, R)) rfl ?_
                  refine az_E.br (c := (I 71 2) < v2) (tt := 30) (ff := 16) (L' := [.ref 71, .int v2, .int v5]) (S' := []) (σ' := (97, I, J, R)) rfl (fun hc_1707 => ?_) (fun hc_1707 => ?_)
                  · rw [if_pos hc_1707] at h
                    refine az_E.sn 1 (pc' := 31) (L' := [.ref 71, .int v2, .int v5]) (S' := [.int (0 : Int32)]) (σ' := (97, I, J, R)) rfl ?_
                    refine az_E.ret (v := some (.int (0 : Int32))) (σ' := (97, I, J, R)) rfl ?_
                    show az_E az_F ex 2 128 83 [.retAddr 0, .retAddr 0, .int v2, .retAddr 0, .int v4, .int v5, .ref 71, .ref 63] [.int (0 : Int32)] (97, I, J, R) _
                    refine az_E.br (c := (0 : Int32) = 0) (tt := 98) (ff := 86) (L' := [.retAddr 0, .retAddr 0, .int v2, .retAddr 0, .int v4, .int v5, .ref 71, .ref 63]) (S' := []) (σ' := (97, I, J, R)) rfl (fun _ => ?_) (fun hn => absurd (by decide) hn)
                    refine az_E.sn 1 (pc' := 100) (L' := [.retAddr 0, .retAddr 0, .int v2, .retAddr 0, .int v4, .int v5, .ref 71, .ref 63]) (S' := [.int (-13 : Int32)]) (σ' := (97, I, J, R)) rfl ?_
                    have h := Option.some.inj h
                    subst h
                    exact az_E.ret (v := some (.int (-13 : Int32))) (σ' := (97, I, J, R)) rfl hQ
                  · rw [if_neg hc_1707] at h
                    refine az_E.sn 5 (pc' := 23) (L' := [.ref 71, .int v2, .int v5]) (S' := [.int ((I 71 2) - v2), .int v5]) (σ' := (97, I, J, R)) rfl ?_
                    refine az_E.br (c := ((I 71 2) - v2) < v5) (tt := 30) (ff := 26) (L' := [.ref 71, .int v2, .int v5]) (S' := []) (σ' := (97, I, J, R)) rfl (fun hc_1708 => ?_) (fun hc_1708 => ?_)
                    · rw [if_pos hc_1708] at h
                      refine az_E.sn 1 (pc' := 31) (L' := [.ref 71, .int v2, .int v5]) (S' := [.int (0 : Int32)]) (σ' := (97, I, J, R)) rfl ?_
                      refine az_E.ret (v := some (.int (0 : Int32))) (σ' := (97, I, J, R)) rfl ?_
                      show az_E az_F ex 2 128 83 [.retAddr 0, .retAddr 0, .int v2, .retAddr 0, .int v4, .int v5, .ref 71, .ref 63] [.int (0 : Int32)] (97, I, J, R) _
                      refine az_E.br (c := (0 : Int32) = 0) (tt := 98) (ff := 86) (L' := [.retAddr 0, .retAddr 0, .int v2, .retAddr 0, .int v4, .int v5, .ref 71, .ref 63]) (S' := []) (σ' := (97, I, J, R)) rfl (fun _ => ?_) (fun hn => absurd (by decide) hn)
                      refine az_E.sn 1 (pc' := 100) (L' := [.retAddr 0, .retAddr 0, .int v2, .retAddr 0, .int v4, .int v5, .ref 71, .ref 63]) (S' := [.int (-13 : Int32)]) (σ' := (97, I, J, R)) rfl ?_
                      have h := Option.some.inj h
                      subst h
                      exact az_E.ret (v := some (.int (-13 : Int32))) (σ' := (97, I, J, R)) rfl hQ
                    · rw [if_neg hc_1708] at h
                      refine az_E.sn 2 (pc' := 31) (L' := [.ref 71, .int v2, .int v5]) (S' := [.int (1 : Int32)]) (σ' := (97, I, J, R)) rfl ?_
                      refine az_E.ret (v := some (.int (1 : Int32))) (σ' := (97, I, J, R)) rfl ?_
                      show az_E az_F ex 2 128 83 [.retAddr 0, .retAddr 0, .int v2, .retAddr 0, .int v4, .int v5, .ref 71, .ref 63] [.int (1 : Int32)] (97, I, J, R) _
                      refine az_E.br (c := (1 : Int32) = 0) (tt := 98) (ff := 86) (L' := [.retAddr 0, .retAddr 0, .int v2, .retAddr 0, .int v4, .int v5, .ref 71, .ref 63]) (S' := []) (σ' := (97, I, J, R)) rfl (fun hn => absurd hn (by decide)) (fun _ => ?_)
                      refine az_E.sn 3 (pc' := 92) (L' := [.retAddr 0, .retAddr 0, .int v2, .retAddr 0, .int v4, .int v5, .ref 71, .ref 63]) (S' := [.int v5, .int v4, .ref 63]) (σ' := (97, I, J, R)) rfl ?_
                      refine az_E.call (d := 1) (k' := 60) (vs := [.ref 63, .int v4, .int v5]) (pc' := 95) (S' := []) rfl ?_ (fun _ _ hq => hq)
                      show az_E az_F ex 1 60 0 [.ref 63, .int v4, .int v5] [] (97, I, J, R) _
                      refine az_E.sn 1 (pc' := 1) (L' := [.ref 63, .int v4, .int v5]) (S' := [.int v4]) (σ' := (97, I, J, R)) rfl ?_
                      refine az_E.br (c := v4 < 0) (tt := 30) (ff := 4) (L' := [.ref 63, .int v4, .int v5]) (S' := []) (σ' := (97, I, J, R)) rfl (fun hc_1709 => ?_) (fun hc_1709 => ?_)
                      · rw [if_pos hc_1709] at h
                        refine az_E.sn 1 (pc' := 31) (L' := [.ref 63, .int v4, .int v5]) (S' := [.int (0 : Int32)]) (σ' := (97, I, J, R)) rfl ?_
                        refine az_E.ret (v := some (.int (0 : Int32))) (σ' := (97, I, J, R)) rfl ?_
                        show az_E az_F ex 2 128 95 [.retAddr 0, .retAddr 0, .int v2, .retAddr 0, .int v4, .int v5, .ref 71, .ref 63] [.int (0 : Int32)] (97, I, J, R) _
                        refine az_E.br (c := (0 : Int32) = 0) (tt := 98) (ff := 101) (L' := [.retAddr 0, .retAddr 0, .int v2, .retAddr 0, .int v4, .int v5, .ref 71, .ref 63]) (S' := []) (σ' := (97, I, J, R)) rfl (fun _ => ?_) (fun hn => absurd (by decide) hn)
                        refine az_E.sn 1 (pc' := 100) (L' := [.retAddr 0, .retAddr 0, .int v2, .retAddr 0, .int v4, .int v5, .ref 71, .ref 63]) (S' := [.int (-13 : Int32)]) (σ' := (97, I, J, R)) rfl ?_
                        have h := Option.some.inj h
                        subst h
                        exact az_E.ret (v := some (.int (-13 : Int32))) (σ' := (97, I, J, R)) rfl hQ
                      · rw [if_neg hc_1709] at h
                        refine az_E.sn 1 (pc' := 5) (L' := [.ref 63, .int v4, .int v5]) (S' := [.int v5]) (σ' := (97, I, J, R)) rfl ?_
                        refine az_E.br (c := v5 < 0) (tt := 30) (ff := 8) (L' := [.ref 63, .int v4, .int v5]) (S' := []) (σ' := (97, I, J, R)) rfl (fun hc_1710 => ?_) (fun hc_1710 => ?_)
                        · rw [if_pos hc_1710] at h
                          refine az_E.sn 1 (pc' := 31) (L' := [.ref 63, .int v4, .int v5]) (S' := [.int (0 : Int32)]) (σ' := (97, I, J, R)) rfl ?_
                          refine az_E.ret (v := some (.int (0 : Int32))) (σ' := (97, I, J, R)) rfl ?_
                          show az_E az_F ex 2 128 95 [.retAddr 0, .retAddr 0, .int v2, .retAddr 0, .int v4, .int v5, .ref 71, .ref 63] [.int (0 : Int32)] (97, I, J, R) _
                          refine az_E.br (c := (0 : Int32) = 0) (tt := 98) (ff := 101) (L' := [.retAddr 0, .retAddr 0, .int v2, .retAddr 0, .int v4, .int v5, .ref 71, .ref 63]) (S' := []) (σ' := (97, I, J, R)) rfl (fun _ => ?_) (fun hn => absurd (by decide) hn)
                          refine az_E.sn 1 (pc' := 100) (L' := [.retAddr 0, .retAddr 0, .int v2, .retAddr 0, .int v4, .int v5, .ref 71, .ref 63]) (S' := [.int (-13 : Int32)]) (σ' := (97, I, J, R)) rfl ?_
                          have h := Option.some.inj h
                          subst h
                          exact az_E.ret (v := some (.int (-13 : Int32))) (σ' := (97, I, J, R)) rfl hQ
                        · rw [if_neg hc_1710] at h
                          refine az_E.sn 3 (pc' := 13) (L' := [.ref 63, .int v4, .int v5]) (S' := [.int (I 63 2), .int v4]) (σ' := (97, I, J, R)) rfl ?_
                          refine az_E.br (c := (I 63 2) < v4) (tt := 30) (ff := 16) (L' := [.ref 63, .int v4, .int v5]) (S' := []) (σ' := (97, I, J, R)) rfl (fun hc_1711 => ?_) (fun hc_1711 => ?_)
                          · rw [if_pos hc_1711] at h
                            refine az_E.sn 1 (pc' := 31) (L' := [.ref 63, .int v4, .int v5]) (S' := [.int (0 : Int32)]) (σ' := (97, I, J, R)) rfl ?_
                            refine az_E.ret (v := some (.int (0 : Int32))) (σ' := (97, I, J, R)) rfl ?_
                            show az_E az_F ex 2 128 95 [.retAddr 0, .retAddr 0, .int v2, .retAddr 0, .int v4, .int v5, .ref 71, .ref 63] [.int (0 : Int32)] (97, I, J, R) _
                            refine az_E.br (c := (0 : Int32) = 0) (tt := 98) (ff := 101) (L' := [.retAddr 0, .retAddr 0, .int v2, .retAddr 0, .int v4, .int v5, .ref 71, .ref 63]) (S' := []) (σ' := (97, I, J, R)) rfl (fun _ => ?_) (fun hn => absurd (by decide) hn)
                            refine az_E.sn 1 (pc' := 100) (L' := [.retAddr 0, .retAddr 0, .int v2, .retAddr 0, .int v4, .int v5, .ref 71, .ref 63]) (S' := [.int (-13 : Int32)]) (σ' := (97, I, J, R)) rfl ?_
                            have h := Option.some.inj h
                            subst h
                            exact az_E.ret (v := some (.int (-13 : Int32))) (σ' := (97, I, J, R)) rfl hQ
                          · rw [if_neg hc_1711] at h
                            refine az_E.sn 5 (pc' := 23) (L' := [.ref 63, .int v4, .int v5]) (S' := [.int ((I 63 2) - v4), .int v5]) (σ' := (97, I, J, R)) rfl ?_
                            refine az_E.br (c := ((I 63 2) - v4) < v5) (tt := 30) (ff := 26) (L' := [.ref 63, .int v4, .int v5]) (S' := []) (σ' := (97, I, J, R)) rfl (fun hc_1712 => ?_) (fun hc_1712 => ?_)
                            · rw [if_pos hc_1712] at h
                              refine az_E.sn 1 (pc' := 31) (L' := [.ref 63, .int v4, .int v5]) (S' := [.int (0 : Int32)]) (σ' := (97, I, J, R)) rfl ?_
                              refine az_E.ret (v := some (.int (0 : Int32))) (σ' := (97, I, J, R)) rfl ?_
                              show az_E az_F ex 2 128 95 [.retAddr 0, .retAddr 0, .int v2, .retAddr 0, .int v4, .int v5, .ref 71, .ref 63] [.int (0 : Int32)] (97, I, J, R) _
                              refine az_E.br (c := (0 : Int32) = 0) (tt := 98) (ff := 101) (L' := [.retAddr 0, .retAddr 0, .int v2, .retAddr 0, .int v4, .int v5, .ref 71, .ref 63]) (S' := []) (σ' := (97, I, J, R)) rfl (fun _ => ?_) (fun hn => absurd (by decide) hn)
                              refine az_E.sn 1 (pc' := 100) (L' := [.retAddr 0, .retAddr 0, .int v2, .retAddr 0, .int v4, .int v5, .ref 71, .ref 63]) (S' := [.int (-13 : Int32)]) (σ' := (97, I, J, R)) rfl ?_
                              have h := Option.some.inj h
                              subst h
                              exact az_E.ret (v := some (.int (-13 : Int32))) (σ' := (97, I, J, R)) rfl hQ
                            · rw [if_neg hc_1712] at h
                              refine az_E.sn 2 (pc' := 31) (L' := [.ref 63, .int v4, .int v5]) (S' := [.int (1 : Int32)]) (σ' := (97, I, J, R)) rfl ?_
                              refine az_E.ret (v := some (.int (1 : Int32))) (σ' := (97, I, J, R)) rfl ?_
                              show az_E az_F ex 2 128 95 [.retAddr 0, .retAddr 0, .int v2, .retAddr 0, .int v4, .int v5, .ref 71, .ref 63] [.int (1 : Int32)] (97, I, J, R) _
                              refine az_E.br (c := (1 : Int32) = 0) (tt := 98) (ff := 101) (L' := [.retAddr 0, .retAddr 0, .int v2, .retAddr 0, .int v4, .int v5, .ref 71, .ref 63]) (S' := []) (σ' := (97, I, J, R)) rfl (fun hn => absurd hn (by decide)) (fun _ => ?_)
                              refine az_E.sn 7 (pc' := 116) (L' := [.retAddr 0, .retAddr 0, .int v2, .retAddr 0, .int v4, .int v5, .ref 71, .ref 63]) (S' := [.int v5, .int v4, .ref (63 + 1), .int v2, .ref (71 + 1)]) (σ' := (97, I, J, R)) rfl ?_
                              by_cases hc_1713 : v2 < 0 ∨ v4 < 0 ∨ v5 < 0 ∨ 60 < v2.toNatClampNeg + v5.toNatClampNeg ∨ 60 < v4.toNatClampNeg + v5.toNatClampNeg
                              · rw [if_pos hc_1713] at h; cases h
                              · rw [if_neg hc_1713] at h
                                refine az_E.o (o := az_cp az_F (97, I, J, R) (71 + 1) v2 (63 + 1) v4 v5) (pc' := 119) (L' := [.retAddr 0, .retAddr 0, .int v2, .retAddr 0, .int v4, .int v5, .ref 71, .ref 63]) (S' := []) (x := (97, I, (az_ur J (63 + 1) (va_cpy (J (71 + 1)) (J (63 + 1)) v2.toNatClampNeg v4.toNatClampNeg v5.toNatClampNeg)), R)) rfl (if_neg hc_1713) ?_
                                refine az_E.sn 1 (pc' := 121) (L' := [.retAddr 0, .retAddr 0, .int v2, .retAddr 0, .int v4, .int v5, .ref 71, .ref 63]) (S' := [.int v5]) (σ' := (97, I, (az_ur J (63 + 1) (va_cpy (J (71 + 1)) (J (63 + 1)) v2.toNatClampNeg v4.toNatClampNeg v5.toNatClampNeg)), R)) rfl ?_
                                have h := Option.some.inj h
                                subst h
                                exact az_E.ret (v := some (.int v5)) (σ' := (97, I, (az_ur J (63 + 1) (va_cpy (J (71 + 1)) (J (63 + 1)) v2.toNatClampNeg v4.toNatClampNeg v5.toNatClampNeg)), R)) rfl hQ
            · rw [if_neg hc_1704] at h
              refine az_E.sn 1 (pc' := 20) (L' := [.ref 63, .int (I 71 1)]) (S' := [.int (0 : Int32)]) (σ' := (97, I, J, R)) rfl ?_
              refine az_E.ret (v := some (.int (0 : Int32))) (σ' := (97, I, J, R)) rfl ?_
              show az_E az_F ex 2 128 69 [.retAddr 0, .retAddr 0, .int v2, .retAddr 0, .int v4, .int v5, .ref 71, .ref 63] [.int (0 : Int32)] (97, I, J, R) _
              refine az_E.br (c := (0 : Int32) = 0) (tt := 72) (ff := 75) (L' := [.retAddr 0, .retAddr 0, .int v2, .retAddr 0, .int v4, .int v5, .ref 71, .ref 63]) (S' := []) (σ' := (97, I, J, R)) rfl (fun _ => ?_) (fun hn => absurd (by decide) hn)
              refine az_E.sn 1 (pc' := 74) (L' := [.retAddr 0, .retAddr 0, .int v2, .retAddr 0, .int v4, .int v5, .ref 71, .ref 63]) (S' := [.int (-12 : Int32)]) (σ' := (97, I, J, R)) rfl ?_
              have h := Option.some.inj h
              subst h
              exact az_E.ret (v := some (.int (-12 : Int32))) (σ' := (97, I, J, R)) rfl hQ
  · rw [if_neg hc_1686] at h
    refine az_E.sn 1 (pc' := 21) (L' := [.ref 71]) (S' := [.int (0 : Int32)]) (σ' := (97, I, J, R)) rfl ?_
    refine az_E.ret (v := some (.int (0 : Int32))) (σ' := (97, I, J, R)) rfl ?_
    show az_E az_F ex 2 128 37 [.retAddr 0, .retAddr 0, .int v2, .retAddr 0, .int v4, .int v5, .ref 71, .ref 63] [.int (0 : Int32)] (97, I, J, R) _
    refine az_E.br (c := (0 : Int32) = 0) (tt := 40) (ff := 48) (L' := [.retAddr 0, .retAddr 0, .int v2, .retAddr 0, .int v4, .int v5, .ref 71, .ref 63]) (S' := []) (σ' := (97, I, J, R)) rfl (fun _ => ?_) (fun hn => absurd (by decide) hn)
    refine az_E.sn 1 (pc' := 42) (L' := [.retAddr 0, .retAddr 0, .int v2, .retAddr 0, .int v4, .int v5, .ref 71, .ref 63]) (S' := [.ref 63]) (σ' := (97, I, J, R)) rfl ?_
    refine az_E.call (d := 1) (k' := 54) (vs := [.ref 63]) (pc' := 45) (S' := []) rfl ?_ (fun _ _ hq => hq)
    show az_E az_F ex 1 54 0 [.ref 63] [] (97, I, J, R) _
    refine az_E.sn 3 (pc' := 5) (L' := [.ref 63]) (S' := [.int (-1 : Int32), .int (I 63 0)]) (σ' := (97, I, J, R)) rfl ?_
    refine az_E.br (c := (I 63 0) = (-1 : Int32)) (tt := 8) (ff := 20) (L' := [.ref 63]) (S' := []) (σ' := (97, I, J, R)) rfl (fun hc_1714 => ?_) (fun hc_1714 => ?_)
    · rw [if_pos hc_1714] at h
      refine az_E.sn 3 (pc' := 13) (L' := [.ref 63]) (S' := [.int (-1 : Int32), .int (I 63 1)]) (σ' := (97, I, J, R)) rfl ?_
      refine az_E.br (c := (I 63 1) = (-1 : Int32)) (tt := 16) (ff := 20) (L' := [.ref 63]) (S' := []) (σ' := (97, I, J, R)) rfl (fun hc_1715 => ?_) (fun hc_1715 => ?_)
      · rw [if_pos hc_1715] at h
        refine az_E.sn 2 (pc' := 21) (L' := [.ref 63]) (S' := [.int (1 : Int32)]) (σ' := (97, I, J, R)) rfl ?_
        refine az_E.ret (v := some (.int (1 : Int32))) (σ' := (97, I, J, R)) rfl ?_
        show az_E az_F ex 2 128 45 [.retAddr 0, .retAddr 0, .int v2, .retAddr 0, .int v4, .int v5, .ref 71, .ref 63] [.int (1 : Int32)] (97, I, J, R) _
        refine az_E.br (c := (1 : Int32) = 0) (tt := 51) (ff := 48) (L' := [.retAddr 0, .retAddr 0, .int v2, .retAddr 0, .int v4, .int v5, .ref 71, .ref 63]) (S' := []) (σ' := (97, I, J, R)) rfl (fun hn => absurd hn (by decide)) (fun _ => ?_)
        refine az_E.sn 1 (pc' := 50) (L' := [.retAddr 0, .retAddr 0, .int v2, .retAddr 0, .int v4, .int v5, .ref 71, .ref 63]) (S' := [.int (-11 : Int32)]) (σ' := (97, I, J, R)) rfl ?_
        have h := Option.some.inj h
        subst h
        exact az_E.ret (v := some (.int (-11 : Int32))) (σ' := (97, I, J, R)) rfl hQ
      · rw [if_neg hc_1715] at h
        refine az_E.sn 1 (pc' := 21) (L' := [.ref 63]) (S' := [.int (0 : Int32)]) (σ' := (97, I, J, R)) rfl ?_
        refine az_E.ret (v := some (.int (0 : Int32))) (σ' := (97, I, J, R)) rfl ?_
        show az_E az_F ex 2 128 45 [.retAddr 0, .retAddr 0, .int v2, .retAddr 0, .int v4, .int v5, .ref 71, .ref 63] [.int (0 : Int32)] (97, I, J, R) _
        refine az_E.br (c := (0 : Int32) = 0) (tt := 51) (ff := 48) (L' := [.retAddr 0, .retAddr 0, .int v2, .retAddr 0, .int v4, .int v5, .ref 71, .ref 63]) (S' := []) (σ' := (97, I, J, R)) rfl (fun _ => ?_) (fun hn => absurd (by decide) hn)
        refine az_E.sn 1 (pc' := 53) (L' := [.retAddr 0, .retAddr 0, .int v2, .retAddr 0, .int v4, .int v5, .ref 71, .ref 63]) (S' := [.ref 71]) (σ' := (97, I, J, R)) rfl ?_
        refine az_E.call (d := 1) (k' := 55) (vs := [.ref 71]) (pc' := 56) (S' := []) rfl ?_ (fun _ _ hq => hq)
        show az_E az_F ex 1 55 0 [.ref 71] [] (97, I, J, R) _
        refine az_E.sn 3 (pc' := 5) (L' := [.ref 71]) (S' := [.int (-1 : Int32), .int (I 71 1)]) (σ' := (97, I, J, R)) rfl ?_
        refine az_E.br (c := (I 71 1) = (-1 : Int32)) (tt := 12) (ff := 8) (L' := [.ref 71]) (S' := []) (σ' := (97, I, J, R)) rfl (fun hc_1716 => ?_) (fun hc_1716 => ?_)
        · rw [if_pos hc_1716] at h
          refine az_E.sn 1 (pc' := 13) (L' := [.ref 71]) (S' := [.int (0 : Int32)]) (σ' := (97, I, J, R)) rfl ?_
          refine az_E.ret (v := some (.int (0 : Int32))) (σ' := (97, I, J, R)) rfl ?_
          show az_E az_F ex 2 128 56 [.retAddr 0, .retAddr 0, .int v2, .retAddr 0, .int v4, .int v5, .ref 71, .ref 63] [.int (0 : Int32)] (97, I, J, R) _
          refine az_E.br (c := (0 : Int32) = 0) (tt := 72) (ff := 59) (L' := [.retAddr 0, .retAddr 0, .int v2, .retAddr 0, .int v4, .int v5, .ref 71, .ref 63]) (S' := []) (σ' := (97, I, J, R)) rfl (fun _ => ?_) (fun hn => absurd (by decide) hn)
          refine az_E.sn 1 (pc' := 74) (L' := [.retAddr 0, .retAddr 0, .int v2, .retAddr 0, .int v4, .int v5, .ref 71, .ref 63]) (S' := [.int (-12 : Int32)]) (σ' := (97, I, J, R)) rfl ?_
          have h := Option.some.inj h
          subst h
          exact az_E.ret (v := some (.int (-12 : Int32))) (σ' := (97, I, J, R)) rfl hQ
        · rw [if_neg hc_1716] at h
          refine az_E.sn 2 (pc' := 13) (L' := [.ref 71]) (S' := [.int (1 : Int32)]) (σ' := (97, I, J, R)) rfl ?_
          refine az_E.ret (v := some (.int (1 : Int32))) (σ' := (97, I, J, R)) rfl ?_
          show az_E az_F ex 2 128 56 [.retAddr 0, .retAddr 0, .int v2, .retAddr 0, .int v4, .int v5, .ref 71, .ref 63] [.int (1 : Int32)] (97, I, J, R) _
          refine az_E.br (c := (1 : Int32) = 0) (tt := 72) (ff := 59) (L' := [.retAddr 0, .retAddr 0, .int v2, .retAddr 0, .int v4, .int v5, .ref 71, .ref 63]) (S' := []) (σ' := (97, I, J, R)) rfl (fun hn => absurd hn (by decide)) (fun _ => ?_)
          refine az_E.sn 3 (pc' := 66) (L' := [.retAddr 0, .retAddr 0, .int v2, .retAddr 0, .int v4, .int v5, .ref 71, .ref 63]) (S' := [.int (I 71 1), .ref 63]) (σ' := (97, I, J, R)) rfl ?_
          refine az_E.call (d := 1) (k' := 56) (vs := [.ref 63, .int (I 71 1)]) (pc' := 69) (S' := []) rfl ?_ (fun _ _ hq => hq)
          show az_E az_F ex 1 56 0 [.ref 63, .int (I 71 1)] [] (97, I, J, R) _
          refine az_E.sn 1 (pc' := 1) (L' := [.ref 63, .int (I 71 1)]) (S' := [.ref 63]) (σ' := (97, I, J, R)) rfl ?_
          refine az_E.call (d := 0) (k' := 55) (vs := [.ref 63]) (pc' := 4) (S' := []) rfl ?_ (fun _ _ hq => hq)
          show az_E az_F ex 0 55 0 [.ref 63] [] (97, I, J, R) _
          refine az_E.sn 3 (pc' := 5) (L' := [.ref 63]) (S' := [.int (-1 : Int32), .int (I 63 1)]) (σ' := (97, I, J, R)) rfl ?_
          refine az_E.br (c := (I 63 1) = (-1 : Int32)) (tt := 12) (ff := 8) (L' := [.ref 63]) (S' := []) (σ' := (97, I, J, R)) rfl (fun hc_1717 => ?_) (fun hc_1717 => ?_)
          · rw [if_pos hc_1717] at h
            refine az_E.sn 1 (pc' := 13) (L' := [.ref 63]) (S' := [.int (0 : Int32)]) (σ' := (97, I, J, R)) rfl ?_
            refine az_E.ret (v := some (.int (0 : Int32))) (σ' := (97, I, J, R)) rfl ?_
            show az_E az_F ex 1 56 4 [.ref 63, .int (I 71 1)] [.int (0 : Int32)] (97, I, J, R) _
            refine az_E.br (c := (0 : Int32) = 0) (tt := 19) (ff := 7) (L' := [.ref 63, .int (I 71 1)]) (S' := []) (σ' := (97, I, J, R)) rfl (fun _ => ?_) (fun hn => absurd (by decide) hn)
            refine az_E.sn 1 (pc' := 20) (L' := [.ref 63, .int (I 71 1)]) (S' := [.int (0 : Int32)]) (σ' := (97, I, J, R)) rfl ?_
            refine az_E.ret (v := some (.int (0 : Int32))) (σ' := (97, I, J, R)) rfl ?_
            show az_E az_F ex 2 128 69 [.retAddr 0, .retAddr 0, .int v2, .retAddr 0, .int v4, .int v5, .ref 71, .ref 63] [.int (0 : Int32)] (97, I, J, R) _
            refine az_E.br (c := (0 : Int32) = 0) (tt := 72) (ff := 75) (L' := [.retAddr 0, .retAddr 0, .int v2, .retAddr 0, .int v4, .int v5, .ref 71, .ref 63]) (S' := []) (σ' := (97, I, J, R)) rfl (fun _ => ?_) (fun hn => absurd (by decide) hn)
            refine az_E.sn 1 (pc' := 74) (L' := [.retAddr 0, .retAddr 0, .int v2, .retAddr 0, .int v4, .int v5, .ref 71, .ref 63]) (S' := [.int (-12 : Int32)]) (σ' := (97, I, J, R)) rfl ?_
            have h := Option.some.inj h
            subst h
            exact az_E.ret (v := some (.int (-12 : Int32))) (σ' := (97, I, J, R)) rfl hQ
          · rw [if_neg hc_1717] at h
            refine az_E.sn 2 (pc' := 13) (L' := [.ref 63]) (S' := [.int (1 : Int32)]) (σ' := (97, I, J, R)) rfl ?_
            refine az_E.ret (v := some (.int (1 : Int32))) (σ' := (97, I, J, R)) rfl ?_
            show az_E az_F ex 1 56 4 [.ref 63, .int (I 71 1)] [.int (1 : Int32)] (97, I, J, R) _
            refine az_E.br (c := (1 : Int32) = 0) (tt := 19) (ff := 7) (L' := [.ref 63, .int (I 71 1)]) (S' := []) (σ' := (97, I, J, R)) rfl (fun hn => absurd hn (by decide)) (fun _ => ?_)
            refine az_E.sn 3 (pc' := 12) (L' := [.ref 63, .int (I 71 1)]) (S' := [.int (I 71 1), .int (I 63 1)]) (σ' := (97, I, J, R)) rfl ?_
            refine az_E.br (c := (I 63 1) = (I 71 1)) (tt := 15) (ff := 19) (L' := [.ref 63, .int (I 71 1)]) (S' := []) (σ' := (97, I, J, R)) rfl (fun hc_1718 => ?_) (fun hc_1718 => ?_)
            · rw [if_pos hc_1718] at h
              refine az_E.sn 2 (pc' := 20) (L' := [.ref 63, .int (I 71 1)]) (S' := [.int (1 : Int32)]) (σ' := (97, I, J, R)) rfl ?_
              refine az_E.ret (v := some (.int (1 : Int32))) (σ' := (97, I, J, R)) rfl ?_
              show az_E az_F ex 2 128 69 [.retAddr 0, .retAddr 0, .int v2, .retAddr 0, .int v4, .int v5, .ref 71, .ref 63] [.int (1 : Int32)] (97, I, J, R) _
              refine az_E.br (c := (1 : Int32) = 0) (tt := 72) (ff := 75) (L' := [.retAddr 0, .retAddr 0, .int v2, .retAddr 0, .int v4, .int v5, .ref 71, .ref 63]) (S' := []) (σ' := (97, I, J, R)) rfl (fun hn => absurd hn (by decide)) (fun _ => ?_)
              refine az_E.sn 3 (pc' := 80) (L' := [.retAddr 0, .retAddr 0, .int v2, .retAddr 0, .int v4, .int v5, .ref 71, .ref 63]) (S' := [.int v5, .int v2, .ref 71]) (σ' := (97, I, J, R)) rfl ?_
              refine az_E.call (d := 1) (k' := 60) (vs := [.ref 71, .int v2, .int v5]) (pc' := 83) (S' := []) rfl ?_ (fun _ _ hq => hq)
              show az_E az_F ex 1 60 0 [.ref 71, .int v2, .int v5] [] (97, I, J, R) _
              refine az_E.sn 1 (pc' := 1) (L' := [.ref 71, .int v2, .int v5]) (S' := [.int v2]) (σ' := (97, I, J, R)) rfl ?_
              refine az_E.br (c := v2 < 0) (tt := 30) (ff := 4) (L' := [.ref 71, .int v2, .int v5]) (S' := []) (σ' := (97, I, J, R)) rfl (fun hc_1719 => ?_) (fun hc_1719 => ?_)
              · rw [if_pos hc_1719] at h
                refine az_E.sn 1 (pc' := 31) (L' := [.ref 71, .int v2, .int v5]) (S' := [.int (0 : Int32)]) (σ' := (97, I, J, R)) rfl ?_
                refine az_E.ret (v := some (.int (0 : Int32))) (σ' := (97, I, J, R)) rfl ?_
                show az_E az_F ex 2 128 83 [.retAddr 0, .retAddr 0, .int v2, .retAddr 0, .int v4, .int v5, .ref 71, .ref 63] [.int (0 : Int32)] (97, I, J, R) _
                refine az_E.br (c := (0 : Int32) = 0) (tt := 98) (ff := 86) (L' := [.retAddr 0, .retAddr 0, .int v2, .retAddr 0, .int v4, .int v5, .ref 71, .ref 63]) (S' := []) (σ' := (97, I, J, R)) rfl (fun _ => ?_) (fun hn => absurd (by decide) hn)
                refine az_E.sn 1 (pc' := 100) (L' := [.retAddr 0, .retAddr 0, .int v2, .retAddr 0, .int v4, .int v5, .ref 71, .ref 63]) (S' := [.int (-13 : Int32)]) (σ' := (97, I, J, R)) rfl ?_
                have h := Option.some.inj h
                subst h
                exact az_E.ret (v := some (.int (-13 : Int32))) (σ' := (97, I, J, R)) rfl hQ
              · rw [if_neg hc_1719] at h
                refine az_E.sn 1 (pc' := 5) (L' := [.ref 71, .int v2, .int v5]) (S' := [.int v5]) (σ' := (97, I, J, R)) rfl ?_
                refine az_E.br (c := v5 < 0) (tt := 30) (ff := 8) (L' := [.ref 71, .int v2, .int v5]) (S' := []) (σ' := (97, I, J, R)) rfl (fun hc_1720 => ?_) (fun hc_1720 => ?_)
                · rw [if_pos hc_1720] at h
                  refine az_E.sn 1 (pc' := 31) (L' := [.ref 71, .int v2, .int v5]) (S' := [.int (0 : Int32)]) (σ' := (97, I, J, R)) rfl ?_
                  refine az_E.ret (v := some (.int (0 : Int32))) (σ' := (97, I, J, R)) rfl ?_
                  show az_E az_F ex 2 128 83 [.retAddr 0, .retAddr 0, .int v2, .retAddr 0, .int v4, .int v5, .ref 71, .ref 63] [.int (0 : Int32)] (97, I, J, R) _
                  refine az_E.br (c := (0 : Int32) = 0) (tt := 98) (ff := 86) (L' := [.retAddr 0, .retAddr 0, .int v2, .retAddr 0, .int v4, .int v5, .ref 71, .ref 63]) (S' := []) (σ' := (97, I, J, R)) rfl (fun _ => ?_) (fun hn => absurd (by decide) hn)
                  refine az_E.sn 1 (pc' := 100) (L' := [.retAddr 0, .retAddr 0, .int v2, .retAddr 0, .int v4, .int v5, .ref 71, .ref 63]) (S' := [.int (-13 : Int32)]) (σ' := (97, I, J, R)) rfl ?_
                  have h := Option.some.inj h
                  subst h
                  exact az_E.ret (v := some (.int (-13 : Int32))) (σ' := (97, I, J, R)) rfl hQ
                · rw [if_neg hc_1720] at h
                  refine az_E.sn 3 (pc' := 13) (L' := [.ref 71, .int v2, .int v5]) (S' := [.int (I 71 2), .int v2]) (σ' := (97, I, J, R)) rfl ?_
                  refine az_E.br (c := (I 71 2) < v2) (tt := 30) (ff := 16) (L' := [.ref 71, .int v2, .int v5]) (S' := []) (σ' := (97, I, J, R)) rfl (fun hc_1721 => ?_) (fun hc_1721 => ?_)
                  · rw [if_pos hc_1721] at h
                    refine az_E.sn 1 (pc' := 31) (L' := [.ref 71, .int v2, .int v5]) (S' := [.int (0 : Int32)]) (σ' := (97, I, J, R)) rfl ?_
                    refine az_E.ret (v := some (.int (0 : Int32))) (σ' := (97, I, J, R)) rfl ?_
                    show az_E az_F ex 2 128 83 [.retAddr 0, .retAddr 0, .int v2, .retAddr 0, .int v4, .int v5, .ref 71, .ref 63] [.int (0 : Int32)] (97, I, J, R) _
                    refine az_E.br (c := (0 : Int32) = 0) (tt := 98) (ff := 86) (L' := [.retAddr 0, .retAddr 0, .int v2, .retAddr 0, .int v4, .int v5, .ref 71, .ref 63]) (S' := []) (σ' := (97, I, J, R)) rfl (fun _ => ?_) (fun hn => absurd (by decide) hn)
                    refine az_E.sn 1 (pc' := 100) (L' := [.retAddr 0, .retAddr 0, .int v2, .retAddr 0, .int v4, .int v5, .ref 71, .ref 63]) (S' := [.int (-13 : Int32)]) (σ' := (97, I, J, R)) rfl ?_
                    have h := Option.some.inj h
                    subst h
                    exact az_E.ret (v := some (.int (-13 : Int32))) (σ' := (97, I, J, R)) rfl hQ
                  · rw [if_neg hc_1721] at h
                    refine az_E.sn 5 (pc' := 23) (L' := [.ref 71, .int v2, .int v5]) (S' := [.int ((I 71 2) - v2), .int v5]) (σ' := (97, I, J, R)) rfl ?_
                    refine az_E.br (c := ((I 71 2) - v2) < v5) (tt := 30) (ff := 26) (L' := [.ref 71, .int v2, .int v5]) (S' := []) (σ' := (97, I, J, R)) rfl (fun hc_1722 => ?_) (fun hc_1722 => ?_)
                    · rw [if_pos hc_1722] at h
                      refine az_E.sn 1 (pc' := 31) (L' := [.ref 71, .int v2, .int v5]) (S' := [.int (0 : Int32)]) (σ' := (97, I, J, R)) rfl ?_
                      refine az_E.ret (v := some (.int (0 : Int32))) (σ' := (97, I, J, R)) rfl ?_
                      show az_E az_F ex 2 128 83 [.retAddr 0, .retAddr 0, .int v2, .retAddr 0, .int v4, .int v5, .ref 71, .ref 63] [.int (0 : Int32)] (97, I, J, R) _
                      refine az_E.br (c := (0 : Int32) = 0) (tt := 98) (ff := 86) (L' := [.retAddr 0, .retAddr 0, .int v2, .retAddr 0, .int v4, .int v5, .ref 71, .ref 63]) (S' := []) (σ' := (97, I, J, R)) rfl (fun _ => ?_) (fun hn => absurd (by decide) hn)
                      refine az_E.sn 1 (pc' := 100) (L' := [.retAddr 0, .retAddr 0, .int v2, .retAddr 0, .int v4, .int v5, .ref 71, .ref 63]) (S' := [.int (-13 : Int32)]) (σ' := (97, I, J, R)) rfl ?_
                      have h := Option.some.inj h
                      subst h
                      exact az_E.ret (v := some (.int (-13 : Int32))) (σ' := (97, I, J, R)) rfl hQ
                    · rw [if_neg hc_1722] at h
                      refine az_E.sn 2 (pc' := 31) (L' := [.ref 71, .int v2, .int v5]) (S' := [.int (1 : Int32)]) (σ' := (97, I, J, R)) rfl ?_
                      refine az_E.ret (v := some (.int (1 : Int32))) (σ' := (97, I, J, R)) rfl ?_
                      show az_E az_F ex 2 128 83 [.retAddr 0, .retAddr 0, .int v2, .retAddr 0, .int v4, .int v5, .ref 71, .ref 63] [.int (1 : Int32)] (97, I, J, R) _
                      refine az_E.br (c := (1 : Int32) = 0) (tt := 98) (ff := 86) (L' := [.retAddr 0, .retAddr 0, .int v2, .retAddr 0, .int v4, .int v5, .ref 71, .ref 63]) (S' := []) (σ' := (97, I, J, R)) rfl (fun hn => absurd hn (by decide)) (fun _ => ?_)
                      refine az_E.sn 3 (pc' := 92) (L' := [.retAddr 0, .retAddr 0, .int v2, .retAddr 0, .int v4, .int v5, .ref 71, .ref 63]) (S' := [.int v5, .int v4, .ref 63]) (σ' := (97, I, J, R)) rfl ?_
                      refine az_E.call (d := 1) (k' := 60) (vs := [.ref 63, .int v4, .int v5]) (pc' := 95) (S' := []) rfl ?_ (fun _ _ hq => hq)
                      show az_E az_F ex 1 60 0 [.ref 63, .int v4, .int v5] [] (97, I, J, R) _
                      refine az_E.sn 1 (pc' := 1) (L' := [.ref 63, .int v4, .int v5]) (S' := [.int v4]) (σ' := (97, I, J, R)) rfl ?_
                      refine az_E.br (c := v4 < 0) (tt := 30) (ff := 4) (L' := [.ref 63, .int v4, .int v5]) (S' := []) (σ' := (97, I, J, R)) rfl (fun hc_1723 => ?_) (fun hc_1723 => ?_)
                      · rw [if_pos hc_1723] at h
                        refine az_E.sn 1 (pc' := 31) (L' := [.ref 63, .int v4, .int v5]) (S' := [.int (0 : Int32)]) (σ' := (97, I, J, R)) rfl ?_
                        refine az_E.ret (v := some (.int (0 : Int32))) (σ' := (97, I, J, R)) rfl ?_
                        show az_E az_F ex 2 128 95 [.retAddr 0, .retAddr 0, .int v2, .retAddr 0, .int v4, .int v5, .ref 71, .ref 63] [.int (0 : Int32)] (97, I, J, R) _
                        refine az_E.br (c := (0 : Int32) = 0) (tt := 98) (ff := 101) (L' := [.retAddr 0, .retAddr 0, .int v2, .retAddr 0, .int v4, .int v5, .ref 71, .ref 63]) (S' := []) (σ' := (97, I, J, R)) rfl (fun _ => ?_) (fun hn => absurd (by decide) hn)
                        refine az_E.sn 1 (pc' := 100) (L' := [.retAddr 0, .retAddr 0, .int v2, .retAddr 0, .int v4, .int v5, .ref 71, .ref 63]) (S' := [.int (-13 : Int32)]) (σ' := (97, I, J, R)) rfl ?_
                        have h := Option.some.inj h
                        subst h
                        exact az_E.ret (v := some (.int (-13 : Int32))) (σ' := (97, I, J, R)) rfl hQ
                      · rw [if_neg hc_1723] at h
                        refine az_E.sn 1 (pc' := 5) (L' := [.ref 63, .int v4, .int v5]) (S' := [.int v5]) (σ' := (97, I, J, R)) rfl ?_
                        refine az_E.br (c := v5 < 0) (tt := 30) (ff := 8) (L' := [.ref 63, .int v4, .int v5]) (S' := []) (σ' := (97, I, J, R)) rfl (fun hc_1724 => ?_) (fun hc_1724 => ?_)
                        · rw [if_pos hc_1724] at h
                          refine az_E.sn 1 (pc' := 31) (L' := [.ref 63, .int v4, .int v5]) (S' := [.int (0 : Int32)]) (σ' := (97, I, J, R)) rfl ?_
                          refine az_E.ret (v := some (.int (0 : Int32))) (σ' := (97, I, J, R)) rfl ?_
                          show az_E az_F ex 2 128 95 [.retAddr 0, .retAddr 0, .int v2, .retAddr 0, .int v4, .int v5, .ref 71, .ref 63] [.int (0 : Int32)] (97, I, J, R) _
                          refine az_E.br (c := (0 : Int32) = 0) (tt := 98) (ff := 101) (L' := [.retAddr 0, .retAddr 0, .int v2, .retAddr 0, .int v4, .int v5, .ref 71, .ref 63]) (S' := []) (σ' := (97, I, J, R)) rfl (fun _ => ?_) (fun hn => absurd (by decide) hn)
                          refine az_E.sn 1 (pc' := 100) (L' := [.retAddr 0, .retAddr 0, .int v2, .retAddr 0, .int v4, .int v5, .ref 71, .ref 63]) (S' := [.int (-13 : Int32)]) (σ' := (97, I, J, R)) rfl ?_
                          have h := Option.some.inj h
                          subst h
                          exact az_E.ret (v := some (.int (-13 : Int32))) (σ' := (97, I, J, R)) rfl hQ
                        · rw [if_neg hc_1724] at h
                          refine az_E.sn 3 (pc' := 13) (L' := [.ref 63, .int v4, .int v5]) (S' := [.int (I 63 2), .int v4]) (σ' := (97, I, J, R)) rfl ?_
                          refine az_E.br (c := (I 63 2) < v4) (tt := 30) (ff := 16) (L' := [.ref 63, .int v4, .int v5]) (S' := []) (σ' := (97, I, J, R)) rfl (fun hc_1725 => ?_) (fun hc_1725 => ?_)
                          · rw [if_pos hc_1725] at h
                            refine az_E.sn 1 (pc' := 31) (L' := [.ref 63, .int v4, .int v5]) (S' := [.int (0 : Int32)]) (σ' := (97, I, J, R)) rfl ?_
                            refine az_E.ret (v := some (.int (0 : Int32))) (σ' := (97, I, J, R)) rfl ?_
                            show az_E az_F ex 2 128 95 [.retAddr 0, .retAddr 0, .int v2, .retAddr 0, .int v4, .int v5, .ref 71, .ref 63] [.int (0 : Int32)] (97, I, J, R) _
                            refine az_E.br (c := (0 : Int32) = 0) (tt := 98) (ff := 101) (L' := [.retAddr 0, .retAddr 0, .int v2, .retAddr 0, .int v4, .int v5, .ref 71, .ref 63]) (S' := []) (σ' := (97, I, J, R)) rfl (fun _ => ?_) (fun hn => absurd (by decide) hn)
                            refine az_E.sn 1 (pc' := 100) (L' := [.retAddr 0, .retAddr 0, .int v2, .retAddr 0, .int v4, .int v5, .ref 71, .ref 63]) (S' := [.int (-13 : Int32)]) (σ' := (97, I, J, R)) rfl ?_
                            have h := Option.some.inj h
                            subst h
                            exact az_E.ret (v := some (.int (-13 : Int32))) (σ' := (97, I, J, R)) rfl hQ
                          · rw [if_neg hc_1725] at h
                            refine az_E.sn 5 (pc' := 23) (L' := [.ref 63, .int v4, .int v5]) (S' := [.int ((I 63 2) - v4), .int v5]) (σ' := (97, I, J, R)) rfl ?_
                            refine az_E.br (c := ((I 63 2) - v4) < v5) (tt := 30) (ff := 26) (L' := [.ref 63, .int v4, .int v5]) (S' := []) (σ' := (97, I, J, R)) rfl (fun hc_1726 => ?_) (fun hc_1726 => ?_)
                            · rw [if_pos hc_1726] at h
                              refine az_E.sn 1 (pc' := 31) (L' := [.ref 63, .int v4, .int v5]) (S' := [.int (0 : Int32)]) (σ' := (97, I, J, R)) rfl ?_
                              refine az_E.ret (v := some (.int (0 : Int32))) (σ' := (97, I, J, R)) rfl ?_
                              show az_E az_F ex 2 128 95 [.retAddr 0, .retAddr 0, .int v2, .retAddr 0, .int v4, .int v5, .ref 71, .ref 63] [.int (0 : Int32)] (97, I, J, R) _
                              refine az_E.br (c := (0 : Int32) = 0) (tt := 98) (ff := 101) (L' := [.retAddr 0, .retAddr 0, .int v2, .retAddr 0, .int v4, .int v5, .ref 71, .ref 63]) (S' := []) (σ' := (97, I, J, R)) rfl (fun _ => ?_) (fun hn => absurd (by decide) hn)
                              refine az_E.sn 1 (pc' := 100) (L' := [.retAddr 0, .retAddr 0, .int v2, .retAddr 0, .int v4, .int v5, .ref 71, .ref 63]) (S' := [.int (-13 : Int32)]) (σ' := (97, I, J, R)) rfl ?_
                              have h := Option.some.inj h
                              subst h
                              exact az_E.ret (v := some (.int (-13 : Int32))) (σ' := (97, I, J, R)) rfl hQ
                            · rw [if_neg hc_1726] at h
                              refine az_E.sn 2 (pc' := 31) (L' := [.ref 63, .int v4, .int v5]) (S' := [.int (1 : Int32)]) (σ' := (97, I, J, R)) rfl ?_
                              refine az_E.ret (v := some (.int (1 : Int32))) (σ' := (97, I, J, R)) rfl ?_
                              show az_E az_F ex 2 128 95 [.retAddr 0, .retAddr 0, .int v2, .retAddr 0, .int v4, .int v5, .ref 71, .ref 63] [.int (1 : Int32)] (97, I, J, R) _
                              refine az_E.br (c := (1 : Int32) = 0) (tt := 98) (ff := 101) (L' := [.retAddr 0, .retAddr 0, .int v2, .retAddr 0, .int v4, .int v5, .ref 71, .ref 63]) (S' := []) (σ' := (97, I, J, R)) rfl (fun hn => absurd hn (by decide)) (fun _ => ?_)
                              refine az_E.sn 7 (pc' := 116) (L' := [.retAddr 0, .retAddr 0, .int v2, .retAddr 0, .int v4, .int v5, .ref 71, .ref 63]) (S' := [.int v5, .int v4, .ref (63 + 1), .int v2, .ref (71 + 1)]) (σ' := (97, I, J, R)) rfl ?_
                              by_cases hc_1727 : v2 < 0 ∨ v4 < 0 ∨ v5 < 0 ∨ 60 < v2.toNatClampNeg + v5.toNatClampNeg ∨ 60 < v4.toNatClampNeg + v5.toNatClampNeg
                              · rw [if_pos hc_1727] at h; cases h
                              · rw [if_neg hc_1727] at h
                                refine az_E.o (o := az_cp az_F (97, I, J, R) (71 + 1) v2 (63 + 1) v4 v5) (pc' := 119) (L' := [.retAddr 0, .retAddr 0, .int v2, .retAddr 0, .int v4, .int v5, .ref 71, .ref 63]) (S' := []) (x := (97, I, (az_ur J (63 + 1) (va_cpy (J (71 + 1)) (J (63 + 1)) v2.toNatClampNeg v4.toNatClampNeg v5.toNatClampNeg)), R)) rfl (if_neg hc_1727) ?_
                                refine az_E.sn 1 (pc' := 121) (L' := [.retAddr 0, .retAddr 0, .int v2, .retAddr 0, .int v4, .int v5, .ref 71, .ref 63]) (S' := [.int v5]) (σ' := (97, I, (az_ur J (63 + 1) (va_cpy (J (71 + 1)) (J (63 + 1)) v2.toNatClampNeg v4.toNatClampNeg v5.toNatClampNeg)), R)) rfl ?_
                                have h := Option.some.inj h
                                subst h
                                exact az_E.ret (v := some (.int v5)) (σ' := (97, I, (az_ur J (63 + 1) (va_cpy (J (71 + 1)) (J (63 + 1)) v2.toNatClampNeg v4.toNatClampNeg v5.toNatClampNeg)), R)) rfl hQ
            · rw [if_neg hc_1718] at h
              refine az_E.sn 1 (pc' := 20) (L' := [.ref 63, .int (I 71 1)]) (S' := [.int (0 : Int32)]) (σ' := (97, I, J, R)) rfl ?_
              refine az_E.ret (v := some (.int (0 : Int32))) (σ' := (97, I, J, R)) rfl ?_
              show az_E az_F ex 2 128 69 [.retAddr 0, .retAddr 0, .int v2, .retAddr 0, .int v4, .int v5, .ref 71, .ref 63] [.int (0 : Int32)] (97, I, J, R) _
              refine az_E.br (c := (0 : Int32) = 0) (tt := 72) (ff := 75) (L' := [.retAddr 0, .retAddr 0, .int v2, .retAddr 0, .int v4, .int v5, .ref 71, .ref 63]) (S' := []) (σ' := (97, I, J, R)) rfl (fun _ => ?_) (fun hn => absurd (by decide) hn)
              refine az_E.sn 1 (pc' := 74) (L' := [.retAddr 0, .retAddr 0, .int v2, .retAddr 0, .int v4, .int v5, .ref 71, .ref 63]) (S' := [.int (-12 : Int32)]) (σ' := (97, I, J, R)) rfl ?_
              have h := Option.some.inj h
              subst h
              exact az_E.ret (v := some (.int (-12 : Int32))) (σ' := (97, I, J, R)) rfl hQ
    · rw [if_neg hc_1714] at h
      refine az_E.sn 1 (pc' := 21) (L' := [.ref 63]) (S' := [.int (0 : Int32)]) (σ' := (97, I, J, R)) rfl ?_
      refine az_E.ret (v := some (.int (0 : Int32))) (σ' := (97, I, J, R)) rfl ?_
      show az_E az_F ex 2 128 45 [.retAddr 0, .retAddr 0, .int v2, .retAddr 0, .int v4, .int v5, .ref 71, .ref 63] [.int (0 : Int32)] (97, I, J, R) _
      refine az_E.br (c := (0 : Int32) = 0) (tt := 51) (ff := 48) (L' := [.retAddr 0, .retAddr 0, .int v2, .retAddr 0, .int v4, .int v5, .ref 71, .ref 63]) (S' := []) (σ' := (97, I, J, R)) rfl (fun _ => ?_) (fun hn => absurd (by decide) hn)
      refine az_E.sn 1 (pc' := 53) (L' := [.retAddr 0, .retAddr 0, .int v2, .retAddr 0, .int v4, .int v5, .ref 71, .ref 63]) (S' := [.ref 71]) (σ' := (97, I, J, R)) rfl ?_
      refine az_E.call (d := 1) (k' := 55) (vs := [.ref 71]) (pc' := 56) (S' := []) rfl ?_ (fun _ _ hq => hq)
      show az_E az_F ex 1 55 0 [.ref 71] [] (97, I, J, R) _
      refine az_E.sn 3 (pc' := 5) (L' := [.ref 71]) (S' := [.int (-1 : Int32), .int (I 71 1)]) (σ' := (97, I, J, R)) rfl ?_
      refine az_E.br (c := (I 71 1) = (-1 : Int32)) (tt := 12) (ff := 8) (L' := [.ref 71]) (S' := []) (σ' := (97, I, J, R)) rfl (fun hc_1728 => ?_) (fun hc_1728 => ?_)
      · rw [if_pos hc_1728] at h
        refine az_E.sn 1 (pc' := 13) (L' := [.ref 71]) (S' := [.int (0 : Int32)]) (σ' := (97, I, J, R)) rfl ?_
        refine az_E.ret (v := some (.int (0 : Int32))) (σ' := (97, I, J, R)) rfl ?_
        show az_E az_F ex 2 128 56 [.retAddr 0, .retAddr 0, .int v2, .retAddr 0, .int v4, .int v5, .ref 71, .ref 63] [.int (0 : Int32)] (97, I, J, R) _
        refine az_E.br (c := (0 : Int32) = 0) (tt := 72) (ff := 59) (L' := [.retAddr 0, .retAddr 0, .int v2, .retAddr 0, .int v4, .int v5, .ref 71, .ref 63]) (S' := []) (σ' := (97, I, J, R)) rfl (fun _ => ?_) (fun hn => absurd (by decide) hn)
        refine az_E.sn 1 (pc' := 74) (L' := [.retAddr 0, .retAddr 0, .int v2, .retAddr 0, .int v4, .int v5, .ref 71, .ref 63]) (S' := [.int (-12 : Int32)]) (σ' := (97, I, J, R)) rfl ?_
        have h := Option.some.inj h
        subst h
        exact az_E.ret (v := some (.int (-12 : Int32))) (σ' := (97, I, J, R)) rfl hQ
      · rw [if_neg hc_1728] at h
        refine az_E.sn 2 (pc' := 13) (L' := [.ref 71]) (S' := [.int (1 : Int32)]) (σ' := (97, I, J, R)) rfl ?_
        refine az_E.ret (v := some (.int (1 : Int32))) (σ' := (97, I, J, R)) rfl ?_
        show az_E az_F ex 2 128 56 [.retAddr 0, .retAddr 0, .int v2, .retAddr 0, .int v4, .int v5, .ref 71, .ref 63] [.int (1 : Int32)] (97, I, J, R) _
        refine az_E.br (c := (1 : Int32) = 0) (tt := 72) (ff := 59) (L' := [.retAddr 0, .retAddr 0, .int v2, .retAddr 0, .int v4, .int v5, .ref 71, .ref 63]) (S' := []) (σ' := (97, I, J, R)) rfl (fun hn => absurd hn (by decide)) (fun _ => ?_)
        refine az_E.sn 3 (pc' := 66) (L' := [.retAddr 0, .retAddr 0, .int v2, .retAddr 0, .int v4, .int v5, .ref 71, .ref 63]) (S' := [.int (I 71 1), .ref 63]) (σ' := (97, I, J, R)) rfl ?_
        refine az_E.call (d := 1) (k' := 56) (vs := [.ref 63, .int (I 71 1)]) (pc' := 69) (S' := []) rfl ?_ (fun _ _ hq => hq)
        show az_E az_F ex 1 56 0 [.ref 63, .int (I 71 1)] [] (97, I, J, R) _
        refine az_E.sn 1 (pc' := 1) (L' := [.ref 63, .int (I 71 1)]) (S' := [.ref 63]) (σ' := (97, I, J, R)) rfl ?_
        refine az_E.call (d := 0) (k' := 55) (vs := [.ref 63]) (pc' := 4) (S' := []) rfl ?_ (fun _ _ hq => hq)
        show az_E az_F ex 0 55 0 [.ref 63] [] (97, I, J, R) _
        refine az_E.sn 3 (pc' := 5) (L' := [.ref 63]) (S' := [.int (-1 : Int32), .int (I 63 1)]) (σ' := (97, I, J, R)) rfl ?_
        refine az_E.br (c := (I 63 1) = (-1 : Int32)) (tt := 12) (ff := 8) (L' := [.ref 63]) (S' := []) (σ' := (97, I, J, R)) rfl (fun hc_1729 => ?_) (fun hc_1729 => ?_)
        · rw [if_pos hc_1729] at h
          refine az_E.sn 1 (pc' := 13) (L' := [.ref 63]) (S' := [.int (0 : Int32)]) (σ' := (97, I, J, R)) rfl ?_
          refine az_E.ret (v := some (.int (0 : Int32))) (σ' := (97, I, J, R)) rfl ?_
          show az_E az_F ex 1 56 4 [.ref 63, .int (I 71 1)] [.int (0 : Int32)] (97, I, J, R) _
          refine az_E.br (c := (0 : Int32) = 0) (tt := 19) (ff := 7) (L' := [.ref 63, .int (I 71 1)]) (S' := []) (σ' := (97, I, J, R)) rfl (fun _ => ?_) (fun hn => absurd (by decide) hn)
          refine az_E.sn 1 (pc' := 20) (L' := [.ref 63, .int (I 71 1)]) (S' := [.int (0 : Int32)]) (σ' := (97, I, J, R)) rfl ?_
          refine az_E.ret (v := some (.int (0 : Int32))) (σ' := (97, I, J, R)) rfl ?_
          show az_E az_F ex 2 128 69 [.retAddr 0, .retAddr 0, .int v2, .retAddr 0, .int v4, .int v5, .ref 71, .ref 63] [.int (0 : Int32)] (97, I, J, R) _
          refine az_E.br (c := (0 : Int32) = 0) (tt := 72) (ff := 75) (L' := [.retAddr 0, .retAddr 0, .int v2, .retAddr 0, .int v4, .int v5, .ref 71, .ref 63]) (S' := []) (σ' := (97, I, J, R)) rfl (fun _ => ?_) (fun hn => absurd (by decide) hn)
          refine az_E.sn 1 (pc' := 74) (L' := [.retAddr 0, .retAddr 0, .int v2, .retAddr 0, .int v4, .int v5, .ref 71, .ref 63]) (S' := [.int (-12 : Int32)]) (σ' := (97, I, J, R)) rfl ?_
          have h := Option.some.inj h
          subst h
          exact az_E.ret (v := some (.int (-12 : Int32))) (σ' := (97, I, J, R)) rfl hQ
        · rw [if_neg hc_1729] at h
          refine az_E.sn 2 (pc' := 13) (L' := [.ref 63]) (S' := [.int (1 : Int32)]) (σ' := (97, I, J, R)) rfl ?_
          refine az_E.ret (v := some (.int (1 : Int32))) (σ' := (97, I, J, R)) rfl ?_
          show az_E az_F ex 1 56 4 [.ref 63, .int (I 71 1)] [.int (1 : Int32)] (97, I, J, R) _
          refine az_E.br (c := (1 : Int32) = 0) (tt := 19) (ff := 7) (L' := [.ref 63, .int (I 71 1)]) (S' := []) (σ' := (97, I, J, R)) rfl (fun hn => absurd hn (by decide)) (fun _ => ?_)
          refine az_E.sn 3 (pc' := 12) (L' := [.ref 63, .int (I 71 1)]) (S' := [.int (I 71 1), .int (I 63 1)]) (σ' := (97, I, J, R)) rfl ?_
          refine az_E.br (c := (I 63 1) = (I 71 1)) (tt := 15) (ff := 19) (L' := [.ref 63, .int (I 71 1)]) (S' := []) (σ' := (97, I, J, R)) rfl (fun hc_1730 => ?_) (fun hc_1730 => ?_)
          · rw [if_pos hc_1730] at h
            refine az_E.sn 2 (pc' := 20) (L' := [.ref 63, .int (I 71 1)]) (S' := [.int (1 : Int32)]) (σ' := (97, I, J, R)) rfl ?_
            refine az_E.ret (v := some (.int (1 : Int32))) (σ' := (97, I, J, R)) rfl ?_
            show az_E az_F ex 2 128 69 [.retAddr 0, .retAddr 0, .int v2, .retAddr 0, .int v4, .int v5, .ref 71, .ref 63] [.int (1 : Int32)] (97, I, J, R) _
            refine az_E.br (c := (1 : Int32) = 0) (tt := 72) (ff := 75) (L' := [.retAddr 0, .retAddr 0, .int v2, .retAddr 0, .int v4, .int v5, .ref 71, .ref 63]) (S' := []) (σ' := (97, I, J, R)) rfl (fun hn => absurd hn (by decide)) (fun _ => ?_)
            refine az_E.sn 3 (pc' := 80) (L' := [.retAddr 0, .retAddr 0, .int v2, .retAddr 0, .int v4, .int v5, .ref 71, .ref 63]) (S' := [.int v5, .int v2, .ref 71]) (σ' := (97, I, J, R)) rfl ?_
            refine az_E.call (d := 1) (k' := 60) (vs := [.ref 71, .int v2, .int v5]) (pc' := 83) (S' := []) rfl ?_ (fun _ _ hq => hq)
            show az_E az_F ex 1 60 0 [.ref 71, .int v2, .int v5] [] (97, I, J, R) _
            refine az_E.sn 1 (pc' := 1) (L' := [.ref 71, .int v2, .int v5]) (S' := [.int v2]) (σ' := (97, I, J, R)) rfl ?_
            refine az_E.br (c := v2 < 0) (tt := 30) (ff := 4) (L' := [.ref 71, .int v2, .int v5]) (S' := []) (σ' := (97, I, J, R)) rfl (fun hc_1731 => ?_) (fun hc_1731 => ?_)
            · rw [if_pos hc_1731] at h
              refine az_E.sn 1 (pc' := 31) (L' := [.ref 71, .int v2, .int v5]) (S' := [.int (0 : Int32)]) (σ' := (97, I, J, R)) rfl ?_
              refine az_E.ret (v := some (.int (0 : Int32))) (σ' := (97, I, J, R)) rfl ?_
              show az_E az_F ex 2 128 83 [.retAddr 0, .retAddr 0, .int v2, .retAddr 0, .int v4, .int v5, .ref 71, .ref 63] [.int (0 : Int32)] (97, I, J, R) _
              refine az_E.br (c := (0 : Int32) = 0) (tt := 98) (ff := 86) (L' := [.retAddr 0, .retAddr 0, .int v2, .retAddr 0, .int v4, .int v5, .ref 71, .ref 63]) (S' := []) (σ' := (97, I, J, R)) rfl (fun _ => ?_) (fun hn => absurd (by decide) hn)
              refine az_E.sn 1 (pc' := 100) (L' := [.retAddr 0, .retAddr 0, .int v2, .retAddr 0, .int v4, .int v5, .ref 71, .ref 63]) (S' := [.int (-13 : Int32)]) (σ' := (97, I, J, R)) rfl ?_
              have h := Option.some.inj h
              subst h
              exact az_E.ret (v := some (.int (-13 : Int32))) (σ' := (97, I, J, R)) rfl hQ
            · rw [if_neg hc_1731] at h
              refine az_E.sn 1 (pc' := 5) (L' := [.ref 71, .int v2, .int v5]) (S' := [.int v5]) (σ' := (97, I, J, R)) rfl ?_
              refine az_E.br (c := v5 < 0) (tt := 30) (ff := 8) (L' := [.ref 71, .int v2, .int v5]) (S' := []) (σ' := (97, I, J, R)) rfl (fun hc_1732 => ?_) (fun hc_1732 => ?_)
              · rw [if_pos hc_1732] at h
                refine az_E.sn 1 (pc' := 31) (L' := [.ref 71, .int v2, .int v5]) (S' := [.int (0 : Int32)]) (σ' := (97, I, J, R)) rfl ?_
                refine az_E.ret (v := some (.int (0 : Int32))) (σ' := (97, I, J, R)) rfl ?_
                show az_E az_F ex 2 128 83 [.retAddr 0, .retAddr 0, .int v2, .retAddr 0, .int v4, .int v5, .ref 71, .ref 63] [.int (0 : Int32)] (97, I, J, R) _
                refine az_E.br (c := (0 : Int32) = 0) (tt := 98) (ff := 86) (L' := [.retAddr 0, .retAddr 0, .int v2, .retAddr 0, .int v4, .int v5, .ref 71, .ref 63]) (S' := []) (σ' := (97, I, J, R)) rfl (fun _ => ?_) (fun hn => absurd (by decide) hn)
                refine az_E.sn 1 (pc' := 100) (L' := [.retAddr 0, .retAddr 0, .int v2, .retAddr 0, .int v4, .int v5, .ref 71, .ref 63]) (S' := [.int (-13 : Int32)]) (σ' := (97, I, J, R)) rfl ?_
                have h := Option.some.inj h
                subst h
                exact az_E.ret (v := some (.int (-13 : Int32))) (σ' := (97, I, J, R)) rfl hQ
              · rw [if_neg hc_1732] at h
                refine az_E.sn 3 (pc' := 13) (L' := [.ref 71, .int v2, .int v5]) (S' := [.int (I 71 2), .int v2]) (σ' := (97, I, J, R)) rfl ?_
                refine az_E.br (c := (I 71 2) < v2) (tt := 30) (ff := 16) (L' := [.ref 71, .int v2, .int v5]) (S' := []) (σ' := (97, I, J, R)) rfl (fun hc_1733 => ?_) (fun hc_1733 => ?_)
                · rw [if_pos hc_1733] at h
                  refine az_E.sn 1 (pc' := 31) (L' := [.ref 71, .int v2, .int v5]) (S' := [.int (0 : Int32)]) (σ' := (97, I, J, R)) rfl ?_
                  refine az_E.ret (v := some (.int (0 : Int32))) (σ' := (97, I, J, R)) rfl ?_
                  show az_E az_F ex 2 128 83 [.retAddr 0, .retAddr 0, .int v2, .retAddr 0, .int v4, .int v5, .ref 71, .ref 63] [.int (0 : Int32)] (97, I, J, R) _
                  refine az_E.br (c := (0 : Int32) = 0) (tt := 98) (ff := 86) (L' := [.retAddr 0, .retAddr 0, .int v2, .retAddr 0, .int v4, .int v5, .ref 71, .ref 63]) (S' := []) (σ' := (97, I, J, R)) rfl (fun _ => ?_) (fun hn => absurd (by decide) hn)
                  refine az_E.sn 1 (pc' := 100) (L' := [.retAddr 0, .retAddr 0, .int v2, .retAddr 0, .int v4, .int v5, .ref 71, .ref 63]) (S' := [.int (-13 : Int32)]) (σ' := (97, I, J, R)) rfl ?_
                  have h := Option.some.inj h
                  subst h
                  exact az_E.ret (v := some (.int (-13 : Int32))) (σ' := (97, I, J, R)) rfl hQ
                · rw [if_neg hc_1733] at h
                  refine az_E.sn 5 (pc' := 23) (L' := [.ref 71, .int v2, .int v5]) (S' := [.int ((I 71 2) - v2), .int v5]) (σ' := (97, I, J, R)) rfl ?_
                  refine az_E.br (c := ((I 71 2) - v2) < v5) (tt := 30) (ff := 26) (L' := [.ref 71, .int v2, .int v5]) (S' := []) (σ' := (97, I, J, R)) rfl (fun hc_1734 => ?_) (fun hc_1734 => ?_)
                  · rw [if_pos hc_1734] at h
                    refine az_E.sn 1 (pc' := 31) (L' := [.ref 71, .int v2, .int v5]) (S' := [.int (0 : Int32)]) (σ' := (97, I, J, R)) rfl ?_
                    refine az_E.ret (v := some (.int (0 : Int32))) (σ' := (97, I, J, R)) rfl ?_
                    show az_E az_F ex 2 128 83 [.retAddr 0, .retAddr 0, .int v2, .retAddr 0, .int v4, .int v5, .ref 71, .ref 63] [.int (0 : Int32)] (97, I, J, R) _
                    refine az_E.br (c := (0 : Int32) = 0) (tt := 98) (ff := 86) (L' := [.retAddr 0, .retAddr 0, .int v2, .retAddr 0, .int v4, .int v5, .ref 71, .ref 63]) (S' := []) (σ' := (97, I, J, R)) rfl (fun _ => ?_) (fun hn => absurd (by decide) hn)
                    refine az_E.sn 1 (pc' := 100) (L' := [.retAddr 0, .retAddr 0, .int v2, .retAddr 0, .int v4, .int v5, .ref 71, .ref 63]) (S' := [.int (-13 : Int32)]) (σ' := (97, I, J, R)) rfl ?_
                    have h := Option.some.inj h
                    subst h
                    exact az_E.ret (v := some (.int (-13 : Int32))) (σ' := (97, I, J, R)) rfl hQ
                  · rw [if_neg hc_1734] at h
                    refine az_E.sn 2 (pc' := 31) (L' := [.ref 71, .int v2, .int v5]) (S' := [.int (1 : Int32)]) (σ' := (97, I, J, R)) rfl ?_
                    refine az_E.ret (v := some (.int (1 : Int32))) (σ' := (97, I, J, R)) rfl ?_
                    show az_E az_F ex 2 128 83 [.retAddr 0, .retAddr 0, .int v2, .retAddr 0, .int v4, .int v5, .ref 71, .ref 63] [.int (1 : Int32)] (97, I, J, R) _
                    refine az_E.br (c := (1 : Int32) = 0) (tt := 98) (ff := 86) (L' := [.retAddr 0, .retAddr 0, .int v2, .retAddr 0, .int v4, .int v5, .ref 71, .ref 63]) (S' := []) (σ' := (97, I, J, R)) rfl (fun hn => absurd hn (by decide)) (fun _ => ?_)
                    refine az_E.sn 3 (pc' := 92) (L' := [.retAddr 0, .retAddr 0, .int v2, .retAddr 0, .int v4, .int v5, .ref 71, .ref 63]) (S' := [.int v5, .int v4, .ref 63]) (σ' := (97, I, J, R)) rfl ?_
                    refine az_E.call (d := 1) (k' := 60) (vs := [.ref 63, .int v4, .int v5]) (pc' := 95) (S' := []) rfl ?_ (fun _ _ hq => hq)
                    show az_E az_F ex 1 60 0 [.ref 63, .int v4, .int v5] [] (97, I, J, R) _
                    refine az_E.sn 1 (pc' := 1) (L' := [.ref 63, .int v4, .int v5]) (S' := [.int v4]) (σ' := (97, I, J, R)) rfl ?_
                    refine az_E.br (c := v4 < 0) (tt := 30) (ff := 4) (L' := [.ref 63, .int v4, .int v5]) (S' := []) (σ' := (97, I, J, R)) rfl (fun hc_1735 => ?_) (fun hc_1735 => ?_)
                    · rw [if_pos hc_1735] at h
                      refine az_E.sn 1 (pc' := 31) (L' := [.ref 63, .int v4, .int v5]) (S' := [.int (0 : Int32)]) (σ' := (97, I, J, R)) rfl ?_
                      refine az_E.ret (v := some (.int (0 : Int32))) (σ' := (97, I, J, R)) rfl ?_
                      show az_E az_F ex 2 128 95 [.retAddr 0, .retAddr 0, .int v2, .retAddr 0, .int v4, .int v5, .ref 71, .ref 63] [.int (0 : Int32)] (97, I, J, R) _
                      refine az_E.br (c := (0 : Int32) = 0) (tt := 98) (ff := 101) (L' := [.retAddr 0, .retAddr 0, .int v2, .retAddr 0, .int v4, .int v5, .ref 71, .ref 63]) (S' := []) (σ' := (97, I, J, R)) rfl (fun _ => ?_) (fun hn => absurd (by decide) hn)
                      refine az_E.sn 1 (pc' := 100) (L' := [.retAddr 0, .retAddr 0, .int v2, .retAddr 0, .int v4, .int v5, .ref 71, .ref 63]) (S' := [.int (-13 : Int32)]) (σ' := (97, I, J, R)) rfl ?_
                      have h := Option.some.inj h
                      subst h
                      exact az_E.ret (v := some (.int (-13 : Int32))) (σ' := (97, I, J, R)) rfl hQ
                    · rw [if_neg hc_1735] at h
                      refine az_E.sn 1 (pc' := 5) (L' := [.ref 63, .int v4, .int v5]) (S' := [.int v5]) (σ' := (97, I, J, R)) rfl ?_
                      refine az_E.br (c := v5 < 0) (tt := 30) (ff := 8) (L' := [.ref 63, .int v4, .int v5]) (S' := []) (σ' := (97, I, J, R)) rfl (fun hc_1736 => ?_) (fun hc_1736 => ?_)
                      · rw [if_pos hc_1736] at h
                        refine az_E.sn 1 (pc' := 31) (L' := [.ref 63, .int v4, .int v5]) (S' := [.int (0 : Int32)]) (σ' := (97, I, J, R)) rfl ?_
                        refine az_E.ret (v := some (.int (0 : Int32))) (σ' := (97, I, J, R)) rfl ?_
                        show az_E az_F ex 2 128 95 [.retAddr 0, .retAddr 0, .int v2, .retAddr 0, .int v4, .int v5, .ref 71, .ref 63] [.int (0 : Int32)] (97, I, J, R) _
                        refine az_E.br (c := (0 : Int32) = 0) (tt := 98) (ff := 101) (L' := [.retAddr 0, .retAddr 0, .int v2, .retAddr 0, .int v4, .int v5, .ref 71, .ref 63]) (S' := []) (σ' := (97, I, J, R)) rfl (fun _ => ?_) (fun hn => absurd (by decide) hn)
                        refine az_E.sn 1 (pc' := 100) (L' := [.retAddr 0, .retAddr 0, .int v2, .retAddr 0, .int v4, .int v5, .ref 71, .ref 63]) (S' := [.int (-13 : Int32)]) (σ' := (97, I, J, R)) rfl ?_
                        have h := Option.some.inj h
                        subst h
                        exact az_E.ret (v := some (.int (-13 : Int32))) (σ' := (97, I, J, R)) rfl hQ
                      · rw [if_neg hc_1736] at h
                        refine az_E.sn 3 (pc' := 13) (L' := [.ref 63, .int v4, .int v5]) (S' := [.int (I 63 2), .int v4]) (σ' := (97, I, J, R)) rfl ?_
                        refine az_E.br (c := (I 63 2) < v4) (tt := 30) (ff := 16) (L' := [.ref 63, .int v4, .int v5]) (S' := []) (σ' := (97, I, J, R)) rfl (fun hc_1737 => ?_) (fun hc_1737 => ?_)
                        · rw [if_pos hc_1737] at h
                          refine az_E.sn 1 (pc' := 31) (L' := [.ref 63, .int v4, .int v5]) (S' := [.int (0 : Int32)]) (σ' := (97, I, J, R)) rfl ?_
                          refine az_E.ret (v := some (.int (0 : Int32))) (σ' := (97, I, J, R)) rfl ?_
                          show az_E az_F ex 2 128 95 [.retAddr 0, .retAddr 0, .int v2, .retAddr 0, .int v4, .int v5, .ref 71, .ref 63] [.int (0 : Int32)] (97, I, J, R) _
                          refine az_E.br (c := (0 : Int32) = 0) (tt := 98) (ff := 101) (L' := [.retAddr 0, .retAddr 0, .int v2, .retAddr 0, .int v4, .int v5, .ref 71, .ref 63]) (S' := []) (σ' := (97, I, J, R)) rfl (fun _ => ?_) (fun hn => absurd (by decide) hn)
                          refine az_E.sn 1 (pc' := 100) (L' := [.retAddr 0, .retAddr 0, .int v2, .retAddr 0, .int v4, .int v5, .ref 71, .ref 63]) (S' := [.int (-13 : Int32)]) (σ' := (97, I, J, R)) rfl ?_
                          have h := Option.some.inj h
                          subst h
                          exact az_E.ret (v := some (.int (-13 : Int32))) (σ' := (97, I, J, R)) rfl hQ
                        · rw [if_neg hc_1737] at h
                          refine az_E.sn 5 (pc' := 23) (L' := [.ref 63, .int v4, .int v5]) (S' := [.int ((I 63 2) - v4), .int v5]) (σ' := (97, I, J, R)) rfl ?_
                          refine az_E.br (c := ((I 63 2) - v4) < v5) (tt := 30) (ff := 26) (L' := [.ref 63, .int v4, .int v5]) (S' := []) (σ' := (97, I, J, R)) rfl (fun hc_1738 => ?_) (fun hc_1738 => ?_)
                          · rw [if_pos hc_1738] at h
                            refine az_E.sn 1 (pc' := 31) (L' := [.ref 63, .int v4, .int v5]) (S' := [.int (0 : Int32)]) (σ' := (97, I, J, R)) rfl ?_
                            refine az_E.ret (v := some (.int (0 : Int32))) (σ' := (97, I, J, R)) rfl ?_
                            show az_E az_F ex 2 128 95 [.retAddr 0, .retAddr 0, .int v2, .retAddr 0, .int v4, .int v5, .ref 71, .ref 63] [.int (0 : Int32)] (97, I, J, R) _
                            refine az_E.br (c := (0 : Int32) = 0) (tt := 98) (ff := 101) (L' := [.retAddr 0, .retAddr 0, .int v2, .retAddr 0, .int v4, .int v5, .ref 71, .ref 63]) (S' := []) (σ' := (97, I, J, R)) rfl (fun _ => ?_) (fun hn => absurd (by decide) hn)
                            refine az_E.sn 1 (pc' := 100) (L' := [.retAddr 0, .retAddr 0, .int v2, .retAddr 0, .int v4, .int v5, .ref 71, .ref 63]) (S' := [.int (-13 : Int32)]) (σ' := (97, I, J, R)) rfl ?_
                            have h := Option.some.inj h
                            subst h
                            exact az_E.ret (v := some (.int (-13 : Int32))) (σ' := (97, I, J, R)) rfl hQ
                          · rw [if_neg hc_1738] at h
                            refine az_E.sn 2 (pc' := 31) (L' := [.ref 63, .int v4, .int v5]) (S' := [.int (1 : Int32)]) (σ' := (97, I, J, R)) rfl ?_
                            refine az_E.ret (v := some (.int (1 : Int32))) (σ' := (97, I, J, R)) rfl ?_
                            show az_E az_F ex 2 128 95 [.retAddr 0, .retAddr 0, .int v2, .retAddr 0, .int v4, .int v5, .ref 71, .ref 63] [.int (1 : Int32)] (97, I, J, R) _
                            refine az_E.br (c := (1 : Int32) = 0) (tt := 98) (ff := 101) (L' := [.retAddr 0, .retAddr 0, .int v2, .retAddr 0, .int v4, .int v5, .ref 71, .ref 63]) (S' := []) (σ' := (97, I, J, R)) rfl (fun hn => absurd hn (by decide)) (fun _ => ?_)
                            refine az_E.sn 7 (pc' := 116) (L' := [.retAddr 0, .retAddr 0, .int v2, .retAddr 0, .int v4, .int v5, .ref 71, .ref 63]) (S' := [.int v5, .int v4, .ref (63 + 1), .int v2, .ref (71 + 1)]) (σ' := (97, I, J, R)) rfl ?_
                            by_cases hc_1739 : v2 < 0 ∨ v4 < 0 ∨ v5 < 0 ∨ 60 < v2.toNatClampNeg + v5.toNatClampNeg ∨ 60 < v4.toNatClampNeg + v5.toNatClampNeg
                            · rw [if_pos hc_1739] at h; cases h
                            · rw [if_neg hc_1739] at h
                              refine az_E.o (o := az_cp az_F (97, I, J, R) (71 + 1) v2 (63 + 1) v4 v5) (pc' := 119) (L' := [.retAddr 0, .retAddr 0, .int v2, .retAddr 0, .int v4, .int v5, .ref 71, .ref 63]) (S' := []) (x := (97, I, (az_ur J (63 + 1) (va_cpy (J (71 + 1)) (J (63 + 1)) v2.toNatClampNeg v4.toNatClampNeg v5.toNatClampNeg)), R)) rfl (if_neg hc_1739) ?_
                              refine az_E.sn 1 (pc' := 121) (L' := [.retAddr 0, .retAddr 0, .int v2, .retAddr 0, .int v4, .int v5, .ref 71, .ref 63]) (S' := [.int v5]) (σ' := (97, I, (az_ur J (63 + 1) (va_cpy (J (71 + 1)) (J (63 + 1)) v2.toNatClampNeg v4.toNatClampNeg v5.toNatClampNeg)), R)) rfl ?_
                              have h := Option.some.inj h
                              subst h
                              exact az_E.ret (v := some (.int v5)) (σ' := (97, I, (az_ur J (63 + 1) (va_cpy (J (71 + 1)) (J (63 + 1)) v2.toNatClampNeg v4.toNatClampNeg v5.toNatClampNeg)), R)) rfl hQ
          · rw [if_neg hc_1730] at h
            refine az_E.sn 1 (pc' := 20) (L' := [.ref 63, .int (I 71 1)]) (S' := [.int (0 : Int32)]) (σ' := (97, I, J, R)) rfl ?_
            refine az_E.ret (v := some (.int (0 : Int32))) (σ' := (97, I, J, R)) rfl ?_
            show az_E az_F ex 2 128 69 [.retAddr 0, .retAddr 0, .int v2, .retAddr 0, .int v4, .int v5, .ref 71, .ref 63] [.int (0 : Int32)] (97, I, J, R) _
            refine az_E.br (c := (0 : Int32) = 0) (tt := 72) (ff := 75) (L' := [.retAddr 0, .retAddr 0, .int v2, .retAddr 0, .int v4, .int v5, .ref 71, .ref 63]) (S' := []) (σ' := (97, I, J, R)) rfl (fun _ => ?_) (fun hn => absurd (by decide) hn)
            refine az_E.sn 1 (pc' := 74) (L' := [.retAddr 0, .retAddr 0, .int v2, .retAddr 0, .int v4, .int v5, .ref 71, .ref 63]) (S' := [.int (-12 : Int32)]) (σ' := (97, I, J, R)) rfl ?_
            have h := Option.some.inj h
            subst h
            exact az_E.ret (v := some (.int (-12 : Int32))) (σ' := (97, I, J, R)) rfl hQ
set_option maxRecDepth 100000 in
set_option maxHeartbeats 4000000 in
theorem re_X_shift_30_71_65 {ex : az_X} {I : Nat → Nat → Int32} {J : Nat → Nat → Int64} {R : Nat → Nat → Option Nat} {v2 : Int32} {v4 : Int32} {v5 : Int32} {x : Int32 × (Nat → Nat → Int64)} (h : rs_X_shift_30 71 65 I J v2 v4 v5 = some x) {Q : Option Value → az_S → Prop} (hQ : Q (some (.int x.1)) (97, I, x.2, R)) : az_E az_F ex 2 128 30 [.retAddr 0, .retAddr 0, .int v2, .retAddr 0, .int v4, .int v5, .ref 71, .retAddr 0] [.ref 65] (97, I, J, R) Q := by
  unfold rs_X_shift_30 at h
  refine az_E.sn 2 (pc' := 34) (L' := [.retAddr 0, .retAddr 0, .int v2, .retAddr 0, .int v4, .int v5, .ref 71, .ref 65]) (S' := [.ref 71]) (σ' := (97, I, J, R)) rfl ?_
  refine az_E.call (d := 1) (k' := 54) (vs := [.ref 71]) (pc' := 37) (S' := []) rfl ?_ (fun _ _ hq => hq)
  show az_E az_F ex 1 54 0 [.ref 71] [] (97, I, J, R) _
  refine az_E.sn 3 (pc' := 5) (L' := [.ref 71]) (S' := [.int (-1 : Int32), .int (I 71 0)]) (σ' := (97, I, J, R)) rfl ?_
  refine az_E.br (c := (I 71 0) = (-1 : Int32)) (tt := 8) (ff := 20) (L' := [.ref 71]) (S' := []) (σ' := (97, I, J, R)) rfl (fun hc_1740 => ?_) (fun hc_1740 => ?_)
  · rw [if_pos hc_1740] at h
    refine az_E.sn 3 (pc' := 13) (L' := [.ref 71]) (S' := [.int (-1 : Int32), .int (I 71 1)]) (σ' := (97, I, J, R)) rfl ?_
    refine az_E.br (c := (I 71 1) = (-1 : Int32)) (tt := 16) (ff := 20) (L' := [.ref 71]) (S' := []) (σ' := (97, I, J, R)) rfl (fun hc_1741 => ?_) (fun hc_1741 => ?_)
    · rw [if_pos hc_1741] at h
      refine az_E.sn 2 (pc' := 21) (L' := [.ref 71]) (S' := [.int (1 : Int32)]) (σ' := (97, I, J, R)) rfl ?_
      refine az_E.ret (v := some (.int (1 : Int32))) (σ' := (97, I, J, R)) rfl ?_
      show az_E az_F ex 2 128 37 [.retAddr 0, .retAddr 0, .int v2, .retAddr 0, .int v4, .int v5, .ref 71, .ref 65] [.int (1 : Int32)] (97, I, J, R) _
      refine az_E.br (c := (1 : Int32) = 0) (tt := 40) (ff := 48) (L' := [.retAddr 0, .retAddr 0, .int v2, .retAddr 0, .int v4, .int v5, .ref 71, .ref 65]) (S' := []) (σ' := (97, I, J, R)) rfl (fun hn => absurd hn (by decide)) (fun _ => ?_)
      refine az_E.sn 1 (pc' := 50) (L' := [.retAddr 0, .retAddr 0, .int v2, .retAddr 0, .int v4, .int v5, .ref 71, .ref 65]) (S' := [.int (-11 : Int32)]) (σ' := (97, I, J, R)) rfl ?_
      have h := Option.some.inj h
      subst h
      exact az_E.ret (v := some (.int (-11 : Int32))) (σ' := (97, I, J, R)) rfl hQ
    · rw [if_neg hc_1741] at h
      refine az_E.sn 1 (pc' := 21) (L' := [.ref 71]) (S' := [.int (0 : Int32)]) (σ' := (97, I, J, R)) rfl ?_
      refine az_E.ret (v := some (.int (0 : Int32))) (σ' := (97, I, J, R)) rfl ?_
      show az_E az_F ex 2 128 37 [.retAddr 0, .retAddr 0, .int v2, .retAddr 0, .int v4, .int v5, .ref 71, .ref 65] [.int (0 : Int32)] (97, I, J, R) _
      refine az_E.br (c := (0 : Int32) = 0) (tt := 40) (ff := 48) (L' := [.retAddr 0, .retAddr 0, .int v2, .retAddr 0, .int v4, .int v5, .ref 71, .ref 65]) (S' := []) (σ' := (97, I, J, R)) rfl (fun _ => ?_) (fun hn => absurd (by decide) hn)
      refine az_E.sn 1 (pc' := 42) (L' := [.retAddr 0, .retAddr 0, .int v2, .retAddr 0, .int v4, .int v5, .ref 71, .ref 65]) (S' := [.ref 65]) (σ' := (97, I, J, R)) rfl ?_
      refine az_E.call (d := 1) (k' := 54) (vs := [.ref 65]) (pc' := 45) (S' := []) rfl ?_ (fun _ _ hq => hq)
      show az_E az_F ex 1 54 0 [.ref 65] [] (97, I, J, R) _
      refine az_E.sn 3 (pc' := 5) (L' := [.ref 65]) (S' := [.int (-1 : Int32), .int (I 65 0)]) (σ' := (97, I, J, R)) rfl ?_
      refine az_E.br (c := (I 65 0) = (-1 : Int32)) (tt := 8) (ff := 20) (L' := [.ref 65]) (S' := []) (σ' := (97, I, J, R)) rfl (fun hc_1742 => ?_) (fun hc_1742 => ?_)
      · rw [if_pos hc_1742] at h
        refine az_E.sn 3 (pc' := 13) (L' := [.ref 65]) (S' := [.int (-1 : Int32), .int (I 65 1)]) (σ' := (97, I, J, R)) rfl ?_
        refine az_E.br (c := (I 65 1) = (-1 : Int32)) (tt := 16) (ff := 20) (L' := [.ref 65]) (S' := []) (σ' := (97, I, J, R)) rfl (fun hc_1743 => ?_) (fun hc_1743 => ?_)
        · rw [if_pos hc_1743] at h
          refine az_E.sn 2 (pc' := 21) (L' := [.ref 65]) (S' := [.int (1 : Int32)]) (σ' := (97, I, J, R)) rfl ?_
          refine az_E.ret (v := some (.int (1 : Int32))) (σ' := (97, I, J, R)) rfl ?_
          show az_E az_F ex 2 128 45 [.retAddr 0, .retAddr 0, .int v2, .retAddr 0, .int v4, .int v5, .ref 71, .ref 65] [.int (1 : Int32)] (97, I, J, R) _
          refine az_E.br (c := (1 : Int32) = 0) (tt := 51) (ff := 48) (L' := [.retAddr 0, .retAddr 0, .int v2, .retAddr 0, .int v4, .int v5, .ref 71, .ref 65]) (S' := []) (σ' := (97, I, J, R)) rfl (fun hn => absurd hn (by decide)) (fun _ => ?_)
          refine az_E.sn 1 (pc' := 50) (L' := [.retAddr 0, .retAddr 0, .int v2, .retAddr 0, .int v4, .int v5, .ref 71, .ref 65]) (S' := [.int (-11 : Int32)]) (σ' := (97, I, J, R)) rfl ?_
          have h := Option.some.inj h
          subst h
          exact az_E.ret (v := some (.int (-11 : Int32))) (σ' := (97, I, J, R)) rfl hQ
        · rw [if_neg hc_1743] at h
          refine az_E.sn 1 (pc' := 21) (L' := [.ref 65]) (S' := [.int (0 : Int32)]) (σ' := (97, I, J, R)) rfl ?_
          refine az_E.ret (v := some (.int (0 : Int32))) (σ' := (97, I, J, R)) rfl ?_
          show az_E az_F ex 2 128 45 [.retAddr 0, .retAddr 0, .int v2, .retAddr 0, .int v4, .int v5, .ref 71, .ref 65] [.int (0 : Int32)] (97, I, J, R) _
          refine az_E.br (c := (0 : Int32) = 0) (tt := 51) (ff := 48) (L' := [.retAddr 0, .retAddr 0, .int v2, .retAddr 0, .int v4, .int v5, .ref 71, .ref 65]) (S' := []) (σ' := (97, I, J, R)) rfl (fun _ => ?_) (fun hn => absurd (by decide) hn)
          refine az_E.sn 1 (pc' := 53) (L' := [.retAddr 0, .retAddr 0, .int v2, .retAddr 0, .int v4, .int v5, .ref 71, .ref 65]) (S' := [.ref 71]) (σ' := (97, I, J, R)) rfl ?_
          refine az_E.call (d := 1) (k' := 55) (vs := [.ref 71]) (pc' := 56) (S' := []) rfl ?_ (fun _ _ hq => hq)
          show az_E az_F ex 1 55 0 [.ref 71] [] (97, I, J, R) _
          refine az_E.sn 3 (pc' := 5) (L' := [.ref 71]) (S' := [.int (-1 : Int32), .int (I 71 1)]) (σ' := (97, I, J, R)) rfl ?_
          refine az_E.br (c := (I 71 1) = (-1 : Int32)) (tt := 12) (ff := 8) (L' := [.ref 71]) (S' := []) (σ' := (97, I, J, R)) rfl (fun hc_1744 => ?_) (fun hc_1744 => ?_)
          · rw [if_pos hc_1744] at h
            refine az_E.sn 1 (pc' := 13) (L' := [.ref 71]) (S' := [.int (0 : Int32)]) (σ' := (97, I, J, R)) rfl ?_
            refine az_E.ret (v := some (.int (0 : Int32))) (σ' := (97, I, J, R)) rfl ?_
            show az_E az_F ex 2 128 56 [.retAddr 0, .retAddr 0, .int v2, .retAddr 0, .int v4, .int v5, .ref 71, .ref 65] [.int (0 : Int32)] (97, I, J, R) _
            refine az_E.br (c := (0 : Int32) = 0) (tt := 72) (ff := 59) (L' := [.retAddr 0, .retAddr 0, .int v2, .retAddr 0, .int v4, .int v5, .ref 71, .ref 65]) (S' := []) (σ' := (97, I, J, R)) rfl (fun _ => ?_) (fun hn => absurd (by decide) hn)
            refine az_E.sn 1 (pc' := 74) (L' := [.retAddr 0, .retAddr 0, .int v2, .retAddr 0, .int v4, .int v5, .ref 71, .ref 65]) (S' := [.int (-12 : Int32)]) (σ' := (97, I, J, R)) rfl ?_
            have h := Option.some.inj h
            subst h
            exact az_E.ret (v := some (.int (-12 : Int32))) (σ' := (97, I, J, R)) rfl hQ
          · rw [if_neg hc_1744] at h
            refine az_E.sn 2 (pc' := 13) (L' := [.ref 71]) (S' := [.int (1 : Int32)]) (σ' := (97, I, J, R)) rfl ?_
            refine az_E.ret (v := some (.int (1 : Int32))) (σ' := (97, I, J, R)) rfl ?_
            show az_E az_F ex 2 128 56 [.retAddr 0, .retAddr 0, .int v2, .retAddr 0, .int v4, .int v5, .ref 71, .ref 65] [.int (1 : Int32)] (97, I, J, R) _
            refine az_E.br (c := (1 : Int32) = 0) (tt := 72) (ff := 59) (L' := [.retAddr 0, .retAddr 0, .int v2, .retAddr 0, .int v4, .int v5, .ref 71, .ref 65]) (S' := []) (σ' := (97, I, J, R)) rfl (fun hn => absurd hn (by decide)) (fun _ => ?_)
            refine az_E.sn 3 (pc' := 66) (L' := [.retAddr 0, .retAddr 0, .int v2, .retAddr 0, .int v4, .int v5, .ref 71, .ref 65]) (S' := [.int (I 71 1), .ref 65]) (σ' := (97, I, J, R)) rfl ?_
            refine az_E.call (d := 1) (k' := 56) (vs := [.ref 65, .int (I 71 1)]) (pc' := 69) (S' := []) rfl ?_ (fun _ _ hq => hq)
            show az_E az_F ex 1 56 0 [.ref 65, .int (I 71 1)] [] (97, I, J, R) _
            refine az_E.sn 1 (pc' := 1) (L' := [.ref 65, .int (I 71 1)]) (S' := [.ref 65]) (σ' := (97, I, J, R)) rfl ?_
            refine az_E.call (d := 0) (k' := 55) (vs := [.ref 65]) (pc' := 4) (S' := []) rfl ?_ (fun _ _ hq => hq)
            show az_E az_F ex 0 55 0 [.ref 65] [] (97, I, J, R) _
            refine az_E.sn 3 (pc' := 5) (L' := [.ref 65]) (S' := [.int (-1 : Int32), .int (I 65 1)]) (σ' := (97, I, J, R)) rfl ?_
            refine az_E.br (c := (I 65 1) = (-1 : Int32)) (tt := 12) (ff := 8) (L' := [.ref 65]) (S' := []) (σ' := (97, I, J, R)) rfl (fun hc_1745 => ?_) (fun hc_1745 => ?_)
            · rw [if_pos hc_1745] at h
              refine az_E.sn 1 (pc' := 13) (L' := [.ref 65]) (S' := [.int (0 : Int32)]) (σ' := (97, I, J, R)) rfl ?_
              refine az_E.ret (v := some (.int (0 : Int32))) (σ' := (97, I, J, R)) rfl ?_
              show az_E az_F ex 1 56 4 [.ref 65, .int (I 71 1)] [.int (0 : Int32)] (97, I, J, R) _
              refine az_E.br (c := (0 : Int32) = 0) (tt := 19) (ff := 7) (L' := [.ref 65, .int (I 71 1)]) (S' := []) (σ' := (97, I, J, R)) rfl (fun _ => ?_) (fun hn => absurd (by decide) hn)
              refine az_E.sn 1 (pc' := 20) (L' := [.ref 65, .int (I 71 1)]) (S' := [.int (0 : Int32)]) (σ' := (97, I, J, R)) rfl ?_
              refine az_E.ret (v := some (.int (0 : Int32))) (σ' := (97, I, J, R)) rfl ?_
              show az_E az_F ex 2 128 69 [.retAddr 0, .retAddr 0, .int v2, .retAddr 0, .int v4, .int v5, .ref 71, .ref 65] [.int (0 : Int32)] (97, I, J, R) _
              refine az_E.br (c := (0 : Int32) = 0) (tt := 72) (ff := 75) (L' := [.retAddr 0, .retAddr 0, .int v2, .retAddr 0, .int v4, .int v5, .ref 71, .ref 65]) (S' := []) (σ' := (97, I, J, R)) rfl (fun _ => ?_) (fun hn => absurd (by decide) hn)
              refine az_E.sn 1 (pc' := 74) (L' := [.retAddr 0, .retAddr 0, .int v2, .retAddr 0, .int v4, .int v5, .ref 71, .ref 65]) (S' := [.int (-12 : Int32)]) (σ' := (97, I, J, R)) rfl ?_
              have h := Option.some.inj h
              subst h
              exact az_E.ret (v := some (.int (-12 : Int32))) (σ' := (97, I, J, R)) rfl hQ
            · rw [if_neg hc_1745] at h
              refine az_E.sn 2 (pc' := 13) (L' := [.ref 65]) (S' := [.int (1 : Int32)]) (σ' := (97, I, J, R)) rfl ?_
              refine az_E.ret (v := some (.int (1 : Int32))) (σ' := (97, I, J, R)) rfl ?_
              show az_E az_F ex 1 56 4 [.ref 65, .int (I 71 1)] [.int (1 : Int32)] (97, I, J, R) _
              refine az_E.br (c := (1 : Int32) = 0) (tt := 19) (ff := 7) (L' := [.ref 65, .int (I 71 1)]) (S' := []) (σ' := (97, I, J, R)) rfl (fun hn => absurd hn (by decide)) (fun _ => ?_)
              refine az_E.sn 3 (pc' := 12) (L' := [.ref 65, .int (I 71 1)]) (S' := [.int (I 71 1), .int (I 65 1)]) (σ' := (97, I, J, R)) rfl ?_
              refine az_E.br (c := (I 65 1) = (I 71 1)) (tt := 15) (ff := 19) (L' := [.ref 65, .int (I 71 1)]) (S' := []) (σ' := (97, I, J, R)) rfl (fun hc_1746 => ?_) (fun hc_1746 => ?_)
              · rw [if_pos hc_1746] at h
                refine az_E.sn 2 (pc' := 20) (L' := [.ref 65, .int (I 71 1)]) (S' := [.int (1 : Int32)]) (σ' := (97, I, J, R)) rfl ?_
                refine az_E.ret (v := some (.int (1 : Int32))) (σ' := (97, I, J, R)) rfl ?_
                show az_E az_F ex 2 128 69 [.retAddr 0, .retAddr 0, .int v2, .retAddr 0, .int v4, .int v5, .ref 71, .ref 65] [.int (1 : Int32)] (97, I, J, R) _
                refine az_E.br (c := (1 : Int32) = 0) (tt := 72) (ff := 75) (L' := [.retAddr 0, .retAddr 0, .int v2, .retAddr 0, .int v4, .int v5, .ref 71, .ref 65]) (S' := []) (σ' := (97, I, J, R)) rfl (fun hn => absurd hn (by decide)) (fun _ => ?_)
                refine az_E.sn 3 (pc' := 80) (L' := [.retAddr 0, .retAddr 0, .int v2, .retAddr 0, .int v4, .int v5, .ref 71, .ref 65]) (S' := [.int v5, .int v2, .ref 71]) (σ' := (97, I, J, R)) rfl ?_
                refine az_E.call (d := 1) (k' := 60) (vs := [.ref 71, .int v2, .int v5]) (pc' := 83) (S' := []) rfl ?_ (fun _ _ hq => hq)
                show az_E az_F ex 1 60 0 [.ref 71, .int v2, .int v5] [] (97, I, J, R) _
                refine az_E.sn 1 (pc' := 1) (L' := [.ref 71, .int v2, .int v5]) (S' := [.int v2]) (σ' := (97, I, J, R)) rfl ?_
                refine az_E.br (c := v2 < 0) (tt := 30) (ff := 4) (L' := [.ref 71, .int v2, .int v5]) (S' := []) (σ' := (97, I, J, R)) rfl (fun hc_1747 => ?_) (fun hc_1747 => ?_)
                · rw [if_pos hc_1747] at h
                  refine az_E.sn 1 (pc' := 31) (L' := [.ref 71, .int v2, .int v5]) (S' := [.int (0 : Int32)]) (σ' := (97, I, J, R)) rfl ?_
                  refine az_E.ret (v := some (.int (0 : Int32))) (σ' := (97, I, J, R)) rfl ?_
                  show az_E az_F ex 2 128 83 [.retAddr 0, .retAddr 0, .int v2, .retAddr 0, .int v4, .int v5, .ref 71, .ref 65] [.int (0 : Int32)] (97, I, J, R) _
                  refine az_E.br (c := (0 : Int32) = 0) (tt := 98) (ff := 86) (L' := [.retAddr 0, .retAddr 0, .int v2, .retAddr 0, .int v4, .int v5, .ref 71, .ref 65]) (S' := []) (σ' := (97, I, J, R)) rfl (fun _ => ?_) (fun hn => absurd (by decide) hn)
                  refine az_E.sn 1 (pc' := 100) (L' := [.retAddr 0, .retAddr 0, .int v2, .retAddr 0, .int v4, .int v5, .ref 71, .ref 65]) (S' := [.int (-13 : Int32)]) (σ' := (97, I, J, R)) rfl ?_
                  have h := Option.some.inj h
                  subst h
                  exact az_E.ret (v := some (.int (-13 : Int32))) (σ' := (97, I, J, R)) rfl hQ
                · rw [if_neg hc_1747] at h
                  refine az_E.sn 1 (pc' := 5) (L' := [.ref 71, .int v2, .int v5]) (S' := [.int v5]) (σ' := (97, I, J, R)) rfl ?_
                  refine az_E.br (c := v5 < 0) (tt := 30) (ff := 8) (L' := [.ref 71, .int v2, .int v5]) (S' := []) (σ' := (97, I, J, R)) rfl (fun hc_1748 => ?_) (fun hc_1748 => ?_)
                  · rw [if_pos hc_1748] at h
                    refine az_E.sn 1 (pc' := 31) (L' := [.ref 71, .int v2, .int v5]) (S' := [.int (0 : Int32)]) (σ' := (97, I, J, R)) rfl ?_
                    refine az_E.ret (v := some (.int (0 : Int32))) (σ' := (97, I, J, R)) rfl ?_
                    show az_E az_F ex 2 128 83 [.retAddr 0, .retAddr 0, .int v2, .retAddr 0, .int v4, .int v5, .ref 71, .ref 65] [.int (0 : Int32)] (97, I, J, R) _
                    refine az_E.br (c := (0 : Int32) = 0) (tt := 98) (ff := 86) (L' := [.retAddr 0, .retAddr 0, .int v2, .retAddr 0, .int v4, .int v5, .ref 71, .ref 65]) (S' := []) (σ' := (97, I, J, R)) rfl (fun _ => ?_) (fun hn => absurd (by decide) hn)
                    refine az_E.sn 1 (pc' := 100) (L' := [.retAddr 0, .retAddr 0, .int v2, .retAddr 0, .int v4, .int v5, .ref 71, .ref 65]) (S' := [.int (-13 : Int32)]) (σ' := (97, I, J, R)) rfl ?_
                    have h := Option.some.inj h
                    subst h
                    exact az_E.ret (v := some (.int (-13 : Int32))) (σ' := (97, I, J, R)) rfl hQ
                  · rw [if_neg hc_1748] at h
                    refine az_E.sn 3 (pc' := 13) (L' := [.ref 71, .int v2, .int v5]) (S' := [.int (I 71 2), .int v2]) (σ' := (97, I, J, R)) rfl ?_
                    refine az_E.br (c := (I 71 2) < v2) (tt := 30) (ff := 16) (L' := [.ref 71, .int v2, .int v5]) (S' := []) (σ' := (97, I, J, R)) rfl (fun hc_1749 => ?_) (fun hc_1749 => ?_)
                    · rw [if_pos hc_1749] at h
                      refine az_E.sn 1 (pc' := 31) (L' := [.ref 71, .int v2, .int v5]) (S' := [.int (0 : Int32)]) (σ' := (97, I, J, R)) rfl ?_
                      refine az_E.ret (v := some (.int (0 : Int32))) (σ' := (97, I, J, R)) rfl ?_
                      show az_E az_F ex 2 128 83 [.retAddr 0, .retAddr 0, .int v2, .retAddr 0, .int v4, .int v5, .ref 71, .ref 65] [.int (0 : Int32)] (97, I, J, R) _
                      refine az_E.br (c := (0 : Int32) = 0) (tt := 98) (ff := 86) (L' := [.retAddr 0, .retAddr 0, .int v2, .retAddr 0, .int v4, .int v5, .ref 71, .ref 65]) (S' := []) (σ' := (97, I, J, R)) rfl (fun _ => ?_) (fun hn => absurd (by decide) hn)
                      refine az_E.sn 1 (pc' := 100) (L' := [.retAddr 0, .retAddr 0, .int v2, .retAddr 0, .int v4, .int v5, .ref 71, .ref 65]) (S' := [.int (-13 : Int32)]) (σ' := (97, I, J, R)) rfl ?_
                      have h := Option.some.inj h
                      subst h
                      exact az_E.ret (v := some (.int (-13 : Int32))) (σ' := (97, I, J, R)) rfl hQ
                    · rw [if_neg hc_1749] at h
                      refine az_E.sn 5 (pc' := 23) (L' := [.ref 71, .int v2, .int v5]) (S' := [.int ((I 71 2) - v2), .int v5]) (σ' := (97, I, J, R)) rfl ?_
                      refine az_E.br (c := ((I 71 2) - v2) < v5) (tt := 30) (ff := 26) (L' := [.ref 71, .int v2, .int v5]) (S' := []) (σ' := (97, I, J, R)) rfl (fun hc_1750 => ?_) (fun hc_1750 => ?_)
                      · rw [if_pos hc_1750] at h
                        refine az_E.sn 1 (pc' := 31) (L' := [.ref 71, .int v2, .int v5]) (S' := [.int (0 : Int32)]) (σ' := (97, I, J, R)) rfl ?_
                        refine az_E.ret (v := some (.int (0 : Int32))) (σ' := (97, I, J, R)) rfl ?_
                        show az_E az_F ex 2 128 83 [.retAddr 0, .retAddr 0, .int v2, .retAddr 0, .int v4, .int v5, .ref 71, .ref 65] [.int (0 : Int32)] (97, I, J, R) _
                        refine az_E.br (c := (0 : Int32) = 0) (tt := 98) (ff := 86) (L' := [.retAddr 0, .retAddr 0, .int v2, .retAddr 0, .int v4, .int v5, .ref 71, .ref 65]) (S' := []) (σ' := (97, I, J, R)) rfl (fun _ => ?_) (fun hn => absurd (by decide) hn)
                        refine az_E.sn 1 (pc' := 100) (L' := [.retAddr 0, .retAddr 0, .int v2, .retAddr 0, .int v4, .int v5, .ref 71, .ref 65]) (S' := [.int (-13 : Int32)]) (σ' := (97, I, J, R)) rfl ?_
                        have h := Option.some.inj h
                        subst h
                        exact az_E.ret (v := some (.int (-13 : Int32))) (σ' := (97, I, J, R)) rfl hQ
                      · rw [if_neg hc_1750] at h
                        refine az_E.sn 2 (pc' := 31) (L' := [.ref 71, .int v2, .int v5]) (S' := [.int (1 : Int32)]) (σ' := (97, I, J, R)) rfl ?_
                        refine az_E.ret (v := some (.int (1 : Int32))) (σ' := (97, I, J, R)) rfl ?_
                        show az_E az_F ex 2 128 83 [.retAddr 0, .retAddr 0, .int v2, .retAddr 0, .int v4, .int v5, .ref 71, .ref 65] [.int (1 : Int32)] (97, I, J, R) _
                        refine az_E.br (c := (1 : Int32) = 0) (tt := 98) (ff := 86) (L' := [.retAddr 0, .retAddr 0, .int v2, .retAddr 0, .int v4, .int v5, .ref 71, .ref 65]) (S' := []) (σ' := (97, I, J, R)) rfl (fun hn => absurd hn (by decide)) (fun _ => ?_)
                        refine az_E.sn 3 (pc' := 92) (L' := [.retAddr 0, .retAddr 0, .int v2, .retAddr 0, .int v4, .int v5, .ref 71, .ref 65]) (S' := [.int v5, .int v4, .ref 65]) (σ' := (97, I, J, R)) rfl ?_
                        refine az_E.call (d := 1) (k' := 60) (vs := [.ref 65, .int v4, .int v5]) (pc' := 95) (S' := []) rfl ?_ (fun _ _ hq => hq)
                        show az_E az_F ex 1 60 0 [.ref 65, .int v4, .int v5] [] (97, I, J, R) _
                        refine az_E.sn 1 (pc' := 1) (L' := [.ref 65, .int v4, .int v5]) (S' := [.int v4]) (σ' := (97, I, J, R)) rfl ?_
                        refine az_E.br (c := v4 < 0) (tt := 30) (ff := 4) (L' := [.ref 65, .int v4, .int v5]) (S' := []) (σ' := (97, I, J, R)) rfl (fun hc_1751 => ?_) (fun hc_1751 => ?_)
                        · rw [if_pos hc_1751] at h
                          refine az_E.sn 1 (pc' := 31) (L' := [.ref 65, .int v4, .int v5]) (S' := [.int (0 : Int32)]) (σ' := (97, I, J, R)) rfl ?_
                          refine az_E.ret (v := some (.int (0 : Int32))) (σ' := (97, I, J, R)) rfl ?_
                          show az_E az_F ex 2 128 95 [.retAddr 0, .retAddr 0, .int v2, .retAddr 0, .int v4, .int v5, .ref 71, .ref 65] [.int (0 : Int32)] (97, I, J, R) _
                          refine az_E.br (c := (0 : Int32) = 0) (tt := 98) (ff := 101) (L' := [.retAddr 0, .retAddr 0, .int v2, .retAddr 0, .int v4, .int v5, .ref 71, .ref 65]) (S' := []) (σ' := (97, I, J, R)) rfl (fun _ => ?_) (fun hn => absurd (by decide) hn)
                          refine az_E.sn 1 (pc' := 100) (L' := [.retAddr 0, .retAddr 0, .int v2, .retAddr 0, .int v4, .int v5, .ref 71, .ref 65]) (S' := [.int (-13 : Int32)]) (σ' := (97, I, J, R)) rfl ?_
                          have h := Option.some.inj h
                          subst h
                          exact az_E.ret (v := some (.int (-13 : Int32))) (σ' := (97, I, J, R)) rfl hQ
                        · rw [if_neg hc_1751] at h
                          refine az_E.sn 1 (pc' := 5) (L' := [.ref 65, .int v4, .int v5]) (S' := [.int v5]) (σ' := (97, I, J, R)) rfl ?_
                          refine az_E.br (c := v5 < 0) (tt := 30) (ff := 8) (L' := [.ref 65, .int v4, .int v5]) (S' := []) (σ' := (97, I, J, R)) rfl (fun hc_1752 => ?_) (fun hc_1752 => ?_)
                          · rw [if_pos hc_1752] at h
                            refine az_E.sn 1 (pc' := 31) (L' := [.ref 65, .int v4, .int v5]) (S' := [.int (0 : Int32)]) (σ' := (97, I, J, R)) rfl ?_
                            refine az_E.ret (v := some (.int (0 : Int32))) (σ' := (97, I, J, R)) rfl ?_
                            show az_E az_F ex 2 128 95 [.retAddr 0, .retAddr 0, .int v2, .retAddr 0, .int v4, .int v5, .ref 71, .ref 65] [.int (0 : Int32)] (97, I, J, R) _
                            refine az_E.br (c := (0 : Int32) = 0) (tt := 98) (ff := 101) (L' := [.retAddr 0, .retAddr 0, .int v2, .retAddr 0, .int v4, .int v5, .ref 71, .ref 65]) (S' := []) (σ' := (97, I, J, R)) rfl (fun _ => ?_) (fun hn => absurd (by decide) hn)
                            refine az_E.sn 1 (pc' := 100) (L' := [.retAddr 0, .retAddr 0, .int v2, .retAddr 0, .int v4, .int v5, .ref 71, .ref 65]) (S' := [.int (-13 : Int32)]) (σ' := (97, I, J, R)) rfl ?_
                            have h := Option.some.inj h
                            subst h
                            exact az_E.ret (v := some (.int (-13 : Int32))) (σ' := (97, I, J, R)) rfl hQ
                          · rw [if_neg hc_1752] at h
                            refine az_E.sn 3 (pc' := 13) (L' := [.ref 65, .int v4, .int v5]) (S' := [.int (I 65 2), .int v4]) (σ' := (97, I, J, R)) rfl ?_
                            refine az_E.br (c := (I 65 2) < v4) (tt := 30) (ff := 16) (L' := [.ref 65, .int v4, .int v5]) (S' := []) (σ' := (97, I, J, R)) rfl (fun hc_1753 => ?_) (fun hc_1753 => ?_)
                            · rw [if_pos hc_1753] at h
                              refine az_E.sn 1 (pc' := 31) (L' := [.ref 65, .int v4, .int v5]) (S' := [.int (0 : Int32)]) (σ' := (97, I, J, R)) rfl ?_
                              refine az_E.ret (v := some (.int (0 : Int32))) (σ' := (97, I, J, R)) rfl ?_
                              show az_E az_F ex 2 128 95 [.retAddr 0, .retAddr 0, .int v2, .retAddr 0, .int v4, .int v5, .ref 71, .ref 65] [.int (0 : Int32)] (97, I, J, R) _
                              refine az_E.br (c := (0 : Int32) = 0) (tt := 98) (ff := 101) (L' := [.retAddr 0, .retAddr 0, .int v2, .retAddr 0, .int v4, .int v5, .ref 71, .ref 65]) (S' := []) (σ' := (97, I, J, R)) rfl (fun _ => ?_) (fun hn => absurd (by decide) hn)
                              refine az_E.sn 1 (pc' := 100) (L' := [.retAddr 0, .retAddr 0, .int v2, .retAddr 0, .int v4, .int v5, .ref 71, .ref 65]) (S' := [.int (-13 : Int32)]) (σ' := (97, I, J, R)) rfl ?_
                              have h := Option.some.inj h
                              subst h
                              exact az_E.ret (v := some (.int (-13 : Int32))) (σ' := (97, I, J, R)) rfl hQ
                            · rw [if_neg hc_1753] at h
                              refine az_E.sn 5 (pc' := 23) (L' := [.ref 65, .int v4, .int v5]) (S' := [.int ((I 65 2) - v4), .int v5]) (σ' := (97, I, J, R)) rfl ?_
                              refine az_E.br (c := ((I 65 2) - v4) < v5) (tt := 30) (ff := 26) (L' := [.ref 65, .int v4, .int v5]) (S' := []) (σ' := (97, I, J, R)) rfl (fun hc_1754 => ?_) (fun hc_1754 => ?_)
                              · rw [if_pos hc_1754] at h
                                refine az_E.sn 1 (pc' := 31) (L' := [.ref 65, .int v4, .int v5]) (S' := [.int (0 : Int32)]) (σ' := (97, I, J, R)) rfl ?_
                                refine az_E.ret (v := some (.int (0 : Int32))) (σ' := (97, I, J, R)) rfl ?_
                                show az_E az_F ex 2 128 95 [.retAddr 0, .retAddr 0, .int v2, .retAddr 0, .int v4, .int v5, .ref 71, .ref 65] [.int (0 : Int32)] (97, I, J, R) _
                                refine az_E.br (c := (0 : Int32) = 0) (tt := 98) (ff := 101) (L' := [.retAddr 0, .retAddr 0, .int v2, .retAddr 0, .int v4, .int v5, .ref 71, .ref 65]) (S' := []) (σ' := (97, I, J, R)) rfl (fun _ => ?_) (fun hn => absurd (by decide) hn)
                                refine az_E.sn 1 (pc' := 100) (L' := [.retAddr 0, .retAddr 0, .int v2, .retAddr 0, .int v4, .int v5, .ref 71, .ref 65]) (S' := [.int (-13 : Int32)]) (σ' := (97, I, J, R)) rfl ?_
                                have h := Option.some.inj h
                                subst h
                                exact az_E.ret (v := some (.int (-13 : Int32))) (σ' := (97, I, J, R)) rfl hQ
                              · rw [if_neg hc_1754] at h
                                refine az_E.sn 2 (pc' := 31) (L' := [.ref 65, .int v4, .int v5]) (S' := [.int (1 : Int32)]) (σ' := (97, I, J, R)) rfl ?_
                                refine az_E.ret (v := some (.int (1 : Int32))) (σ' := (97, I, J, R)) rfl ?_
                                show az_E az_F ex 2 128 95 [.retAddr 0, .retAddr 0, .int v2, .retAddr 0, .int v4, .int v5, .ref 71, .ref 65] [.int (1 : Int32)] (97, I, J, R) _
                                refine az_E.br (c := (1 : Int32) = 0) (tt := 98) (ff := 101) (L' := [.retAddr 0, .retAddr 0, .int v2, .retAddr 0, .int v4, .int v5, .ref 71, .ref 65]) (S' := []) (σ' := (97, I, J, R)) rfl (fun hn => absurd hn (by decide)) (fun _ => ?_)
                                refine az_E.sn 7 (pc' := 116) (L' := [.retAddr 0, .retAddr 0, .int v2, .retAddr 0, .int v4, .int v5, .ref 71, .ref 65]) (S' := [.int v5, .int v4, .ref (65 + 1), .int v2, .ref (71 + 1)]) (σ' := (97, I, J, R)) rfl ?_
                                by_cases hc_1755 : v2 < 0 ∨ v4 < 0 ∨ v5 < 0 ∨ 60 < v2.toNatClampNeg + v5.toNatClampNeg ∨ 60 < v4.toNatClampNeg + v5.toNatClampNeg
                                · rw [if_pos hc_1755] at h; cases h
                                · rw [if_neg hc_1755] at h
                                  refine az_E.o (o := az_cp az_F (97, I, J, R) (71 + 1) v2 (65 + 1) v4 v5) (pc' := 119) (L' := [.retAddr 0, .retAddr 0, .int v2, .retAddr 0, .int v4, .int v5, .ref 71, .ref 65]) (S' := []) (x := (97, I, (az_ur J (65 + 1) (va_cpy (J (71 + 1)) (J (65 + 1)) v2.toNatClampNeg v4.toNatClampNeg v5.toNatClampNeg)), R)) rfl (if_neg hc_1755) ?_
                                  refine az_E.sn 1 (pc' := 121) (L' := [.retAddr 0, .retAddr 0, .int v2, .retAddr 0, .int v4, .int v5, .ref 71, .ref 65]) (S' := [.int v5]) (σ' := (97, I, (az_ur J (65 + 1) (va_cpy (J (71 + 1)) (J (65 + 1)) v2.toNatClampNeg v4.toNatClampNeg v5.toNatClampNeg)), R)) rfl ?_
                                  have h := Option.some.inj h
                                  subst h
                                  exact az_E.ret (v := some (.int v5)) (σ' := (97, I, (az_ur J (65 + 1) (va_cpy (J (71 + 1)) (J (65 + 1)) v2.toNatClampNeg v4.toNatClampNeg v5.toNatClampNeg)), R)) rfl hQ
              · rw [if_neg hc_1746] at h
                refine az_E.sn 1 (pc' := 20) (L' := [.ref 65, .int (I 71 1)]) (S' := [.int (0 : Int32)]) (σ' := (97, I, J, R)) rfl ?_
                refine az_E.ret (v := some (.int (0 : Int32))) (σ' := (97, I, J, R)) rfl ?_
                show az_E az_F ex 2 128 69 [.retAddr 0, .retAddr 0, .int v2, .retAddr 0, .int v4, .int v5, .ref 71, .ref 65] [.int (0 : Int32)] (97, I, J, R) _
                refine az_E.br (c := (0 : Int32) = 0) (tt := 72) (ff := 75) (L' := [.retAddr 0, .retAddr 0, .int v2, .retAddr 0, .int v4, .int v5, .ref 71, .ref 65]) (S' := []) (σ' := (97, I, J, R)) rfl (fun _ => ?_) (fun hn => absurd (by decide) hn)
                refine az_E.sn 1 (pc' := 74) (L' := [.retAddr 0, .retAddr 0, .int v2, .retAddr 0, .int v4, .int v5, .ref 71, .ref 65]) (S' := [.int (-12 : Int32)]) (σ' := (97, I, J, R)) rfl ?_
                have h := Option.some.inj h
                subst h
                exact az_E.ret (v := some (.int (-12 : Int32))) (σ' := (97, I, J, R)) rfl hQ
      · rw [if_neg hc_1742] at h
        refine az_E.sn 1 (pc' := 21) (L' := [.ref 65]) (S' := [.int (0 : Int32)]) (σ' := (97, I, J, R)) rfl ?_
        refine az_E.ret (v := some (.int (0 : Int32))) (σ' := (97, I, J, R)) rfl ?_
        show az_E az_F ex 2 128 45 [.retAddr 0, .retAddr 0, .int v2, .retAddr 0, .int v4, .int v5, .ref 71, .ref 65] [.int (0 : Int32)] (97, I, J, R) _
        refine az_E.br (c := (0 : Int32) = 0) (tt := 51) (ff := 48) (L' := [.retAddr 0, .retAddr 0, .int v2, .retAddr 0, .int v4, .int v5, .ref 71, .ref 65]) (S' := []) (σ' := (97, I, J, R)) rfl (fun _ => ?_) (fun hn => absurd (by decide) hn)
        refine az_E.sn 1 (pc' := 53) (L' := [.retAddr 0, .retAddr 0, .int v2, .retAddr 0, .int v4, .int v5, .ref 71, .ref 65]) (S' := [.ref 71]) (σ' := (97, I, J, R)) rfl ?_
        refine az_E.call (d := 1) (k' := 55) (vs := [.ref 71]) (pc' := 56) (S' := []) rfl ?_ (fun _ _ hq => hq)
        show az_E az_F ex 1 55 0 [.ref 71] [] (97, I, J, R) _
        refine az_E.sn 3 (pc' := 5) (L' := [.ref 71]) (S' := [.int (-1 : Int32), .int (I 71 1)]) (σ' := (97, I, J, R)) rfl ?_
        refine az_E.br (c := (I 71 1) = (-1 : Int32)) (tt := 12) (ff := 8) (L' := [.ref 71]) (S' := []) (σ' := (97, I, J, R)) rfl (fun hc_1756 => ?_) (fun hc_1756 => ?_)
        · rw [if_pos hc_1756] at h
          refine az_E.sn 1 (pc' := 13) (L' := [.ref 71]) (S' := [.int (0 : Int32)]) (σ' := (97, I, J, R)) rfl ?_
          refine az_E.ret (v := some (.int (0 : Int32))) (σ' := (97, I, J, R)) rfl ?_
          show az_E az_F ex 2 128 56 [.retAddr 0, .retAddr 0, .int v2, .retAddr 0, .int v4, .int v5, .ref 71, .ref 65] [.int (0 : Int32)] (97, I, J, R) _
          refine az_E.br (c := (0 : Int32) = 0) (tt := 72) (ff := 59) (L' := [.retAddr 0, .retAddr 0, .int v2, .retAddr 0, .int v4, .int v5, .ref 71, .ref 65]) (S' := []) (σ' := (97, I, J, R)) rfl (fun _ => ?_) (fun hn => absurd (by decide) hn)
          refine az_E.sn 1 (pc' := 74) (L' := [.retAddr 0, .retAddr 0, .int v2, .retAddr 0, .int v4, .int v5, .ref 71, .ref 65]) (S' := [.int (-12 : Int32)]) (σ' := (97, I, J, R)) rfl ?_
          have h := Option.some.inj h
          subst h
          exact az_E.ret (v := some (.int (-12 : Int32))) (σ' := (97, I, J, R)) rfl hQ
        · rw [if_neg hc_1756] at h
          refine az_E.sn 2 (pc' := 13) (L' := [.ref 71]) (S' := [.int (1 : Int32)]) (σ' := (97, I, J, R)) rfl ?_
          refine az_E.ret (v := some (.int (1 : Int32))) (σ' := (97, I, J, R)) rfl ?_
          show az_E az_F ex 2 128 56 [.retAddr 0, .retAddr 0, .int v2, .retAddr 0, .int v4, .int v5, .ref 71, .ref 65] [.int (1 : Int32)] (97, I, J, R) _
          refine az_E.br (c := (1 : Int32) = 0) (tt := 72) (ff := 59) (L' := [.retAddr 0, .retAddr 0, .int v2, .retAddr 0, .int v4, .int v5, .ref 71, .ref 65]) (S' := []) (σ' := (97, I, J, R)) rfl (fun hn => absurd hn (by decide)) (fun _ => ?_)
          refine az_E.sn 3 (pc' := 66) (L' := [.retAddr 0, .retAddr 0, .int v2, .retAddr 0, .int v4, .int v5, .ref 71, .ref 65]) (S' := [.int (I 71 1), .ref 65]) (σ' := (97, I, J, R)) rfl ?_
          refine az_E.call (d := 1) (k' := 56) (vs := [.ref 65, .int (I 71 1)]) (pc' := 69) (S' := []) rfl ?_ (fun _ _ hq => hq)
          show az_E az_F ex 1 56 0 [.ref 65, .int (I 71 1)] [] (97, I, J, R) _
          refine az_E.sn 1 (pc' := 1) (L' := [.ref 65, .int (I 71 1)]) (S' := [.ref 65]) (σ' := (97, I, J, R)) rfl ?_
          refine az_E.call (d := 0) (k' := 55) (vs := [.ref 65]) (pc' := 4) (S' := []) rfl ?_ (fun _ _ hq => hq)
          show az_E az_F ex 0 55 0 [.ref 65] [] (97, I, J, R) _
          refine az_E.sn 3 (pc' := 5) (L' := [.ref 65]) (S' := [.int (-1 : Int32), .int (I 65 1)]) (σ' := (97, I, J, R)) rfl ?_
          refine az_E.br (c := (I 65 1) = (-1 : Int32)) (tt := 12) (ff := 8) (L' := [.ref 65]) (S' := []) (σ' := (97, I, J, R)) rfl (fun hc_1757 => ?_) (fun hc_1757 => ?_)
          · rw [if_pos hc_1757] at h
            refine az_E.sn 1 (pc' := 13) (L' := [.ref 65]) (S' := [.int (0 : Int32)]) (σ' := (97, I, J, R)) rfl ?_
            refine az_E.ret (v := some (.int (0 : Int32))) (σ' := (97, I, J, R)) rfl ?_
            show az_E az_F ex 1 56 4 [.ref 65, .int (I 71 1)] [.int (0 : Int32)] (97, I, J, R) _
            refine az_E.br (c := (0 : Int32) = 0) (tt := 19) (ff := 7) (L' := [.ref 65, .int (I 71 1)]) (S' := []) (σ' := (97, I, J, R)) rfl (fun _ => ?_) (fun hn => absurd (by decide) hn)
            refine az_E.sn 1 (pc' := 20) (L' := [.ref 65, .int (I 71 1)]) (S' := [.int (0 : Int32)]) (σ' := (97, I, J, R)) rfl ?_
            refine az_E.ret (v := some (.int (0 : Int32))) (σ' := (97, I, J, R)) rfl ?_
            show az_E az_F ex 2 128 69 [.retAddr 0, .retAddr 0, .int v2, .retAddr 0, .int v4, .int v5, .ref 71, .ref 65] [.int (0 : Int32)] (97, I, J, R) _
            refine az_E.br (c := (0 : Int32) = 0) (tt := 72) (ff := 75) (L' := [.retAddr 0, .retAddr 0, .int v2, .retAddr 0, .int v4, .int v5, .ref 71, .ref 65]) (S' := []) (σ' := (97, I, J, R)) rfl (fun _ => ?_) (fun hn => absurd (by decide) hn)
            refine az_E.sn 1 (pc' := 74) (L' := [.retAddr 0, .retAddr 0, .int v2, .retAddr 0, .int v4, .int v5, .ref 71, .ref 65]) (S' := [.int (-12 : Int32)]) (σ' := (97, I, J, R)) rfl ?_
            have h := Option.some.inj h
            subst h
            exact az_E.ret (v := some (.int (-12 : Int32))) (σ' := (97, I, J, R)) rfl hQ
          · rw [if_neg hc_1757] at h
            refine az_E.sn 2 (pc' := 13) (L' := [.ref 65]) (S' := [.int (1 : Int32)]) (σ' := (97, I, J, R)) rfl ?_
            refine az_E.ret (v := some (.int (1 : Int32))) (σ' := (97, I, J, R)) rfl ?_
            show az_E az_F ex 1 56 4 [.ref 65, .int (I 71 1)] [.int (1 : Int32)] (97, I, J, R) _
            refine az_E.br (c := (1 : Int32) = 0) (tt := 19) (ff := 7) (L' := [.ref 65, .int (I 71 1)]) (S' := []) (σ' := (97, I, J, R)) rfl (fun hn => absurd hn (by decide)) (fun _ => ?_)
            refine az_E.sn 3 (pc' := 12) (L' := [.ref 65, .int (I 71 1)]) (S' := [.int (I 71 1), .int (I 65 1)]) (σ' := (97, I, J, R)) rfl ?_
            refine az_E.br (c := (I 65 1) = (I 71 1)) (tt := 15) (ff := 19) (L' := [.ref 65, .int (I 71 1)]) (S' := []) (σ' := (97, I, J, R)) rfl (fun hc_1758 => ?_) (fun hc_1758 => ?_)
            · rw [if_pos hc_1758] at h
              refine az_E.sn 2 (pc' := 20) (L' := [.ref 65, .int (I 71 1)]) (S' := [.int (1 : Int32)]) (σ' := (97, I, J, R)) rfl ?_
              refine az_E.ret (v := some (.int (1 : Int32))) (σ' := (97, I, J, R)) rfl ?_
              show az_E az_F ex 2 128 69 [.retAddr 0, .retAddr 0, .int v2, .retAddr 0, .int v4, .int v5, .ref 71, .ref 65] [.int (1 : Int32)] (97, I, J, R) _
              refine az_E.br (c := (1 : Int32) = 0) (tt := 72) (ff := 75) (L' := [.retAddr 0, .retAddr 0, .int v2, .retAddr 0, .int v4, .int v5, .ref 71, .ref 65]) (S' := []) (σ' := (97, I, J, R)) rfl (fun hn => absurd hn (by decide)) (fun _ => ?_)
              refine az_E.sn 3 (pc' := 80) (L' := [.retAddr 0, .retAddr 0, .int v2, .retAddr 0, .int v4, .int v5, .ref 71, .ref 65]) (S' := [.int v5, .int v2, .ref 71]) (σ' := (97, I, J, R)) rfl ?_
              refine az_E.call (d := 1) (k' := 60) (vs := [.ref 71, .int v2, .int v5]) (pc' := 83) (S' := []) rfl ?_ (fun _ _ hq => hq)
              show az_E az_F ex 1 60 0 [.ref 71, .int v2, .int v5] [] (97, I, J, R) _
              refine az_E.sn 1 (pc' := 1) (L' := [.ref 71, .int v2, .int v5]) (S' := [.int v2]) (σ' := (97, I, J, R)) rfl ?_
              refine az_E.br (c := v2 < 0) (tt := 30) (ff := 4) (L' := [.ref 71, .int v2, .int v5]) (S' := []) (σ' := (97, I, J, R)) rfl (fun hc_1759 => ?_) (fun hc_1759 => ?_)
              · rw [if_pos hc_1759] at h
                refine az_E.sn 1 (pc' := 31) (L' := [.ref 71, .int v2, .int v5]) (S' := [.int (0 : Int32)]) (σ' := (97, I, J, R)) rfl ?_
                refine az_E.ret (v := some (.int (0 : Int32))) (σ' := (97, I, J, R)) rfl ?_
                show az_E az_F ex 2 128 83 [.retAddr 0, .retAddr 0, .int v2, .retAddr 0, .int v4, .int v5, .ref 71, .ref 65] [.int (0 : Int32)] (97, I, J, R) _
                refine az_E.br (c := (0 : Int32) = 0) (tt := 98) (ff := 86) (L' := [.retAddr 0, .retAddr 0, .int v2, .retAddr 0, .int v4, .int v5, .ref 71, .ref 65]) (S' := []) (σ' := (97, I, J, R)) rfl (fun _ => ?_) (fun hn => absurd (by decide) hn)
                refine az_E.sn 1 (pc' := 100) (L' := [.retAddr 0, .retAddr 0, .int v2, .retAddr 0, .int v4, .int v5, .ref 71, .ref 65]) (S' := [.int (-13 : Int32)]) (σ' := (97, I, J, R)) rfl ?_
                have h := Option.some.inj h
                subst h
                exact az_E.ret (v := some (.int (-13 : Int32))) (σ' := (97, I, J, R)) rfl hQ
              · rw [if_neg hc_1759] at h
                refine az_E.sn 1 (pc' := 5) (L' := [.ref 71, .int v2, .int v5]) (S' := [.int v5]) (σ' := (97, I, J, R)) rfl ?_
                refine az_E.br (c := v5 < 0) (tt := 30) (ff := 8) (L' := [.ref 71, .int v2, .int v5]) (S' := []) (σ' := (97, I, J, R)) rfl (fun hc_1760 => ?_) (fun hc_1760 => ?_)
                · rw [if_pos hc_1760] at h
                  refine az_E.sn 1 (pc' := 31) (L' := [.ref 71, .int v2, .int v5]) (S' := [.int (0 : Int32)]) (σ' := (97, I, J, R)) rfl ?_
                  refine az_E.ret (v := some (.int (0 : Int32))) (σ' := (97, I, J, R)) rfl ?_
                  show az_E az_F ex 2 128 83 [.retAddr 0, .retAddr 0, .int v2, .retAddr 0, .int v4, .int v5, .ref 71, .ref 65] [.int (0 : Int32)] (97, I, J, R) _
                  refine az_E.br (c := (0 : Int32) = 0) (tt := 98) (ff := 86) (L' := [.retAddr 0, .retAddr 0, .int v2, .retAddr 0, .int v4, .int v5, .ref 71, .ref 65]) (S' := []) (σ' := (97, I, J, R)) rfl (fun _ => ?_) (fun hn => absurd (by decide) hn)
                  refine az_E.sn 1 (pc' := 100) (L' := [.retAddr 0, .retAddr 0, .int v2, .retAddr 0, .int v4, .int v5, .ref 71, .ref 65]) (S' := [.int (-13 : Int32)]) (σ' := (97, I, J, R)) rfl ?_
                  have h := Option.some.inj h
                  subst h
                  exact az_E.ret (v := some (.int (-13 : Int32))) (σ' := (97, I, J, R)) rfl hQ
                · rw [if_neg hc_1760] at h
                  refine az_E.sn 3 (pc' := 13) (L' := [.ref 71, .int v2, .int v5]) (S' := [.int (I 71 2), .int v2]) (σ' := (97, I, J, R)) rfl ?_
                  refine az_E.br (c := (I 71 2) < v2) (tt := 30) (ff := 16) (L' := [.ref 71, .int v2, .int v5]) (S' := []) (σ' := (97, I, J, R)) rfl (fun hc_1761 => ?_) (fun hc_1761 => ?_)
                  · rw [if_pos hc_1761] at h
                    refine az_E.sn 1 (pc' := 31) (L' := [.ref 71, .int v2, .int v5]) (S' := [.int (0 : Int32)]) (σ' := (97, I, J, R)) rfl ?_
                    refine az_E.ret (v := some (.int (0 : Int32))) (σ' := (97, I, J, R)) rfl ?_
                    show az_E az_F ex 2 128 83 [.retAddr 0, .retAddr 0, .int v2, .retAddr 0, .int v4, .int v5, .ref 71, .ref 65] [.int (0 : Int32)] (97, I, J, R) _
                    refine az_E.br (c := (0 : Int32) = 0) (tt := 98) (ff := 86) (L' := [.retAddr 0, .retAddr 0, .int v2, .retAddr 0, .int v4, .int v5, .ref 71, .ref 65]) (S' := []) (σ' := (97, I, J, R)) rfl (fun _ => ?_) (fun hn => absurd (by decide) hn)
                    refine az_E.sn 1 (pc' := 100) (L' := [.retAddr 0, .retAddr 0, .int v2, .retAddr 0, .int v4, .int v5, .ref 71, .ref 65]) (S' := [.int (-13 : Int32)]) (σ' := (97, I, J, R)) rfl ?_
                    have h := Option.some.inj h
                    subst h
                    exact az_E.ret (v := some (.int (-13 : Int32))) (σ' := (97, I, J, R)) rfl hQ
                  · rw [if_neg hc_1761] at h
                    refine az_E.sn 5 (pc' := 23) (L' := [.ref 71, .int v2, .int v5]) (S' := [.int ((I 71 2) - v2), .int v5]) (σ' := (97, I, J, R)) rfl ?_
                    refine az_E.br (c := ((I 71 2) - v2) < v5) (tt := 30) (ff := 26) (L' := [.ref 71, .int v2, .int v5]) (S' := []) (σ' := (97, I, J, R)) rfl (fun hc_1762 => ?_) (fun hc_1762 => ?_)
                    · rw [if_pos hc_1762] at h
                      refine az_E.sn 1 (pc' := 31) (L' := [.ref 71, .int v2, .int v5]) (S' := [.int (0 : Int32)]) (σ' := (97, I, J, R)) rfl ?_
                      refine az_E.ret (v := some (.int (0 : Int32))) (σ' := (97, I, J, R)) rfl ?_
                      show az_E az_F ex 2 128 83 [.retAddr 0, .retAddr 0, .int v2, .retAddr 0, .int v4, .int v5, .ref 71, .ref 65] [.int (0 : Int32)] (97, I, J, R) _
                      refine az_E.br (c := (0 : Int32) = 0) (tt := 98) (ff := 86) (L' := [.retAddr 0, .retAddr 0, .int v2, .retAddr 0, .int v4, .int v5, .ref 71, .ref 65]) (S' := []) (σ' := (97, I, J, R)) rfl (fun _ => ?_) (fun hn => absurd (by decide) hn)
                      refine az_E.sn 1 (pc' := 100) (L' := [.retAddr 0, .retAddr 0, .int v2, .retAddr 0, .int v4, .int v5, .ref 71, .ref 65]) (S' := [.int (-13 : Int32)]) (σ' := (97, I, J, R)) rfl ?_
                      have h := Option.some.inj h
                      subst h
                      exact az_E.ret (v := some (.int (-13 : Int32))) (σ' := (97, I, J, R)) rfl hQ
                    · rw [if_neg hc_1762] at h
                      refine az_E.sn 2 (pc' := 31) (L' := [.ref 71, .int v2, .int v5]) (S' := [.int (1 : Int32)]) (σ' := (97, I, J, R)) rfl ?_
                      refine az_E.ret (v := some (.int (1 : Int32))) (σ' := (97, I, J, R)) rfl ?_
                      show az_E az_F ex 2 128 83 [.retAddr 0, .retAddr 0, .int v2, .retAddr 0, .int v4, .int v5, .ref 71, .ref 65] [.int (1 : Int32)] (97, I, J, R) _
                      refine az_E.br (c := (1 : Int32) = 0) (tt := 98) (ff := 86) (L' := [.retAddr 0, .retAddr 0, .int v2, .retAddr 0, .int v4, .int v5, .ref 71, .ref 65]) (S' := []) (σ' := (97, I, J, R)) rfl (fun hn => absurd hn (by decide)) (fun _ => ?_)
                      refine az_E.sn 3 (pc' := 92) (L' := [.retAddr 0, .retAddr 0, .int v2, .retAddr 0, .int v4, .int v5, .ref 71, .ref 65]) (S' := [.int v5, .int v4, .ref 65]) (σ' := (97, I, J, R)) rfl ?_
                      refine az_E.call (d := 1) (k' := 60) (vs := [.ref 65, .int v4, .int v5]) (pc' := 95) (S' := []) rfl ?_ (fun _ _ hq => hq)
                      show az_E az_F ex 1 60 0 [.ref 65, .int v4, .int v5] [] (97, I, J, R) _
                      refine az_E.sn 1 (pc' := 1) (L' := [.ref 65, .int v4, .int v5]) (S' := [.int v4]) (σ' := (97, I, J, R)) rfl ?_
                      refine az_E.br (c := v4 < 0) (tt := 30) (ff := 4) (L' := [.ref 65, .int v4, .int v5]) (S' := []) (σ' := (97, I, J, R)) rfl (fun hc_1763 => ?_) (fun hc_1763 => ?_)
                      · rw [if_pos hc_1763] at h
                        refine az_E.sn 1 (pc' := 31) (L' := [.ref 65, .int v4, .int v5]) (S' := [.int (0 : Int32)]) (σ' := (97, I, J, R)) rfl ?_
                        refine az_E.ret (v := some (.int (0 : Int32))) (σ' := (97, I, J, R)) rfl ?_
                        show az_E az_F ex 2 128 95 [.retAddr 0, .retAddr 0, .int v2, .retAddr 0, .int v4, .int v5, .ref 71, .ref 65] [.int (0 : Int32)] (97, I, J, R) _
                        refine az_E.br (c := (0 : Int32) = 0) (tt := 98) (ff := 101) (L' := [.retAddr 0, .retAddr 0, .int v2, .retAddr 0, .int v4, .int v5, .ref 71, .ref 65]) (S' := []) (σ' := (97, I, J, R)) rfl (fun _ => ?_) (fun hn => absurd (by decide) hn)
                        refine az_E.sn 1 (pc' := 100) (L' := [.retAddr 0, .retAddr 0, .int v2, .retAddr 0, .int v4, .int v5, .ref 71, .ref 65]) (S' := [.int (-13 : Int32)]) (σ' := (97, I, J, R)) rfl ?_
                        have h := Option.some.inj h
                        subst h
                        exact az_E.ret (v := some (.int (-13 : Int32))) (σ' := (97, I, J, R)) rfl hQ
                      · rw [if_neg hc_1763] at h
                        refine az_E.sn 1 (pc' := 5) (L' := [.ref 65, .int v4, .int v5]) (S' := [.int v5]) (σ' := (97, I, J, R)) rfl ?_
                        refine az_E.br (c := v5 < 0) (tt := 30) (ff := 8) (L' := [.ref 65, .int v4, .int v5]) (S' := []) (σ' := (97, I, J, R)) rfl (fun hc_1764 => ?_) (fun hc_1764 => ?_)
                        · rw [if_pos hc_1764] at h
                          refine az_E.sn 1 (pc' := 31) (L' := [.ref 65, .int v4, .int v5]) (S' := [.int (0 : Int32)]) (σ' := (97, I, J, R)) rfl ?_
                          refine az_E.ret (v := some (.int (0 : Int32))) (σ' := (97, I, J, R)) rfl ?_
                          show az_E az_F ex 2 128 95 [.retAddr 0, .retAddr 0, .int v2, .retAddr 0, .int v4, .int v5, .ref 71, .ref 65] [.int (0 : Int32)] (97, I, J, R) _
                          refine az_E.br (c := (0 : Int32) = 0) (tt := 98) (ff := 101) (L' := [.retAddr 0, .retAddr 0, .int v2, .retAddr 0, .int v4, .int v5, .ref 71, .ref 65]) (S' := []) (σ' := (97, I, J, R)) rfl (fun _ => ?_) (fun hn => absurd (by decide) hn)
                          refine az_E.sn 1 (pc' := 100) (L' := [.retAddr 0, .retAddr 0, .int v2, .retAddr 0, .int v4, .int v5, .ref 71, .ref 65]) (S' := [.int (-13 : Int32)]) (σ' := (97, I, J, R)) rfl ?_
                          have h := Option.some.inj h
                          subst h
                          exact az_E.ret (v := some (.int (-13 : Int32))) (σ' := (97, I, J, R)) rfl hQ
                        · rw [if_neg hc_1764] at h
                          refine az_E.sn 3 (pc' := 13) (L' := [.ref 65, .int v4, .int v5]) (S' := [.int (I 65 2), .int v4]) (σ' := (97, I, J, R)) rfl ?_
                          refine az_E.br (c := (I 65 2) < v4) (tt := 30) (ff := 16) (L' := [.ref 65, .int v4, .int v5]) (S' := []) (σ' := (97, I, J, R)) rfl (fun hc_1765 => ?_) (fun hc_1765 => ?_)
                          · rw [if_pos hc_1765] at h
                            refine az_E.sn 1 (pc' := 31) (L' := [.ref 65, .int v4, .int v5]) (S' := [.int (0 : Int32)]) (σ' := (97, I, J, R)) rfl ?_
                            refine az_E.ret (v := some (.int (0 : Int32))) (σ' := (97, I, J, R)) rfl ?_
                            show az_E az_F ex 2 128 95 [.retAddr 0, .retAddr 0, .int v2, .retAddr 0, .int v4, .int v5, .ref 71, .ref 65] [.int (0 : Int32)] (97, I, J, R) _
                            refine az_E.br (c := (0 : Int32) = 0) (tt := 98) (ff := 101) (L' := [.retAddr 0, .retAddr 0, .int v2, .retAddr 0, .int v4, .int v5, .ref 71, .ref 65]) (S' := []) (σ' := (97, I, J, R)) rfl (fun _ => ?_) (fun hn => absurd (by decide) hn)
                            refine az_E.sn 1 (pc' := 100) (L' := [.retAddr 0, .retAddr 0, .int v2, .retAddr 0, .int v4, .int v5, .ref 71, .ref 65]) (S' := [.int (-13 : Int32)]) (σ' := (97, I, J, R)) rfl ?_
                            have h := Option.some.inj h
                            subst h
                            exact az_E.ret (v := some (.int (-13 : Int32))) (σ' := (97, I, J, R)) rfl hQ
                          · rw [if_neg hc_1765] at h
                            refine az_E.sn 5 (pc' := 23) (L' := [.ref 65, .int v4, .int v5]) (S' := [.int ((I 65 2) - v4), .int v5]) (σ' := (97, I, J, R)) rfl ?_
                            refine az_E.br (c := ((I 65 2) - v4) < v5) (tt := 30) (ff := 26) (L' := [.ref 65, .int v4, .int v5]) (S' := []) (σ' := (97, I, J, R)) rfl (fun hc_1766 => ?_) (fun hc_1766 => ?_)
                            · rw [if_pos hc_1766] at h
                              refine az_E.sn 1 (pc' := 31) (L' := [.ref 65, .int v4, .int v5]) (S' := [.int (0 : Int32)]) (σ' := (97, I, J, R)) rfl ?_
                              refine az_E.ret (v := some (.int (0 : Int32))) (σ' := (97, I, J, R)) rfl ?_
                              show az_E az_F ex 2 128 95 [.retAddr 0, .retAddr 0, .int v2, .retAddr 0, .int v4, .int v5, .ref 71, .ref 65] [.int (0 : Int32)] (97, I, J, R) _
                              refine az_E.br (c := (0 : Int32) = 0) (tt := 98) (ff := 101) (L' := [.retAddr 0, .retAddr 0, .int v2, .retAddr 0, .int v4, .int v5, .ref 71, .ref 65]) (S' := []) (σ' := (97, I, J, R)) rfl (fun _ => ?_) (fun hn => absurd (by decide) hn)
                              refine az_E.sn 1 (pc' := 100) (L' := [.retAddr 0, .retAddr 0, .int v2, .retAddr 0, .int v4, .int v5, .ref 71, .ref 65]) (S' := [.int (-13 : Int32)]) (σ' := (97, I, J, R)) rfl ?_
                              have h := Option.some.inj h
                              subst h
                              exact az_E.ret (v := some (.int (-13 : Int32))) (σ' := (97, I, J, R)) rfl hQ
                            · rw [if_neg hc_1766] at h
                              refine az_E.sn 2 (pc' := 31) (L' := [.ref 65, .int v4, .int v5]) (S' := [.int (1 : Int32)]) (σ' := (97, I, J, R)) rfl ?_
                              refine az_E.ret (v := some (.int (1 : Int32))) (σ' := (97, I, J, R)) rfl ?_
                              show az_E az_F ex 2 128 95 [.retAddr 0, .retAddr 0, .int v2, .retAddr 0, .int v4, .int v5, .ref 71, .ref 65] [.int (1 : Int32)] (97, I, J, R) _
                              refine az_E.br (c := (1 : Int32) = 0) (tt := 98) (ff := 101) (L' := [.retAddr 0, .retAddr 0, .int v2, .retAddr 0, .int v4, .int v5, .ref 71, .ref 65]) (S' := []) (σ' := (97, I, J, R)) rfl (fun hn => absurd hn (by decide)) (fun _ => ?_)
                              refine az_E.sn 7 (pc' := 116) (L' := [.retAddr 0, .retAddr 0, .int v2, .retAddr 0, .int v4, .int v5, .ref 71, .ref 65]) (S' := [.int v5, .int v4, .ref (65 + 1), .int v2, .ref (71 + 1)]) (σ' := (97, I, J, R)) rfl ?_
                              by_cases hc_1767 : v2 < 0 ∨ v4 < 0 ∨ v5 < 0 ∨ 60 < v2.toNatClampNeg + v5.toNatClampNeg ∨ 60 < v4.toNatClampNeg + v5.toNatClampNeg
                              · rw [if_pos hc_1767] at h; cases h
                              · rw [if_neg hc_1767] at h
                                refine az_E.o (o := az_cp az_F (97, I, J, R) (71 + 1) v2 (65 + 1) v4 v5) (pc' := 119) (L' := [.retAddr 0, .retAddr 0, .int v2, .retAddr 0, .int v4, .int v5, .ref 71, .ref 65]) (S' := []) (x := (97, I, (az_ur J (65 + 1) (va_cpy (J (71 + 1)) (J (65 + 1)) v2.toNatClampNeg v4.toNatClampNeg v5.toNatClampNeg)), R)) rfl (if_neg hc_1767) ?_
                                refine az_E.sn 1 (pc' := 121) (L' := [.retAddr 0, .retAddr 0, .int v2, .retAddr 0, .int v4, .int v5, .ref 71, .ref 65]) (S' := [.int v5]) (σ' := (97, I, (az_ur J (65 + 1) (va_cpy (J (71 + 1)) (J (65 + 1)) v2.toNatClampNeg v4.toNatClampNeg v5.toNatClampNeg)), R)) rfl ?_
                                have h := Option.some.inj h
                                subst h
                                exact az_E.ret (v := some (.int v5)) (σ' := (97, I, (az_ur J (65 + 1) (va_cpy (J (71 + 1)) (J (65 + 1)) v2.toNatClampNeg v4.toNatClampNeg v5.toNatClampNeg)), R)) rfl hQ
            · rw [if_neg hc_1758] at h
              refine az_E.sn 1 (pc' := 20) (L' := [.ref 65, .int (I 71 1)]) (S' := [.int (0 : Int32)]) (σ' := (97, I, J, R)) rfl ?_
              refine az_E.ret (v := some (.int (0 : Int32))) (σ' := (97, I, J, R)) rfl ?_
              show az_E az_F ex 2 128 69 [.retAddr 0, .retAddr 0, .int v2, .retAddr 0, .int v4, .int v5, .ref 71, .ref 65] [.int (0 : Int32)] (97, I, J, R) _
              refine az_E.br (c := (0 : Int32) = 0) (tt := 72) (ff := 75) (L' := [.retAddr 0, .retAddr 0, .int v2, .retAddr 0, .int v4, .int v5, .ref 71, .ref 65]) (S' := []) (σ' := (97, I, J, R)) rfl (fun _ => ?_) (fun hn => absurd (by decide) hn)
              refine az_E.sn 1 (pc' := 74) (L' := [.retAddr 0, .retAddr 0, .int v2, .retAddr 0, .int v4, .int v5, .ref 71, .ref 65]) (S' := [.int (-12 : Int32)]) (σ' := (97, I, J, R)) rfl ?_
              have h := Option.some.inj h
              subst h
              exact az_E.ret (v := some (.int (-12 : Int32))) (σ' := (97, I, J, R)) rfl hQ
  · rw [if_neg hc_1740] at h
    refine az_E.sn 1 (pc' := 21) (L' := [.ref 71]) (S' := [.int (0 : Int32)]) (σ' := (97, I, J, R)) rfl ?_
    refine az_E.ret (v := some (.int (0 : Int32))) (σ' := (97, I, J, R)) rfl ?_
    show az_E az_F ex 2 128 37 [.retAddr 0, .retAddr 0, .int v2, .retAddr 0, .int v4, .int v5, .ref 71, .ref 65] [.int (0 : Int32)] (97, I, J, R) _
    refine az_E.br (c := (0 : Int32) = 0) (tt := 40) (ff := 48) (L' := [.retAddr 0, .retAddr 0, .int v2, .retAddr 0, .int v4, .int v5, .ref 71, .ref 65]) (S' := []) (σ' := (97, I, J, R)) rfl (fun _ => ?_) (fun hn => absurd (by decide) hn)
    refine az_E.sn 1 (pc' := 42) (L' := [.retAddr 0, .retAddr 0, .int v2, .retAddr 0, .int v4, .int v5, .ref 71, .ref 65]) (S' := [.ref 65]) (σ' := (97, I, J, R)) rfl ?_
    refine az_E.call (d := 1) (k' := 54) (vs := [.ref 65]) (pc' := 45) (S' := []) rfl ?_ (fun _ _ hq => hq)
    show az_E az_F ex 1 54 0 [.ref 65] [] (97, I, J, R) _
    refine az_E.sn 3 (pc' := 5) (L' := [.ref 65]) (S' := [.int (-1 : Int32), .int (I 65 0)]) (σ' := (97, I, J, R)) rfl ?_
    refine az_E.br (c := (I 65 0) = (-1 : Int32)) (tt := 8) (ff := 20) (L' := [.ref 65]) (S' := []) (σ' := (97, I, J, R)) rfl (fun hc_1768 => ?_) (fun hc_1768 => ?_)
    · rw [if_pos hc_1768] at h
      refine az_E.sn 3 (pc' := 13) (L' := [.ref 65]) (S' := [.int (-1 : Int32), .int (I 65 1)]) (σ' := (97, I, J, R)) rfl ?_
      refine az_E.br (c := (I 65 1) = (-1 : Int32)) (tt := 16) (ff := 20) (L' := [.ref 65]) (S' := []) (σ' := (97, I, J, R)) rfl (fun hc_1769 => ?_) (fun hc_1769 => ?_)
      · rw [if_pos hc_1769] at h
        refine az_E.sn 2 (pc' := 21) (L' := [.ref 65]) (S' := [.int (1 : Int32)]) (σ' := (97, I, J, R)) rfl ?_
        refine az_E.ret (v := some (.int (1 : Int32))) (σ' := (97, I, J, R)) rfl ?_
        show az_E az_F ex 2 128 45 [.retAddr 0, .retAddr 0, .int v2, .retAddr 0, .int v4, .int v5, .ref 71, .ref 65] [.int (1 : Int32)] (97, I, J, R) _
        refine az_E.br (c := (1 : Int32) = 0) (tt := 51) (ff := 48) (L' := [.retAddr 0, .retAddr 0, .int v2, .retAddr 0, .int v4, .int v5, .ref 71, .ref 65]) (S' := []) (σ' := (97, I, J, R)) rfl (fun hn => absurd hn (by decide)) (fun _ => ?_)
        refine az_E.sn 1 (pc' := 50) (L' := [.retAddr 0, .retAddr 0, .int v2, .retAddr 0, .int v4, .int v5, .ref 71, .ref 65]) (S' := [.int (-11 : Int32)]) (σ' := (97, I, J, R)) rfl ?_
        have h := Option.some.inj h
        subst h
        exact az_E.ret (v := some (.int (-11 : Int32))) (σ' := (97, I, J, R)) rfl hQ
      · rw [if_neg hc_1769] at h
        refine az_E.sn 1 (pc' := 21) (L' := [.ref 65]) (S' := [.int (0 : Int32)]) (σ' := (97, I, J, R)) rfl ?_
        refine az_E.ret (v := some (.int (0 : Int32))) (σ' := (97, I, J, R)) rfl ?_
        show az_E az_F ex 2 128 45 [.retAddr 0, .retAddr 0, .int v2, .retAddr 0, .int v4, .int v5, .ref 71, .ref 65] [.int (0 : Int32)] (97, I, J, R) _
        refine az_E.br (c := (0 : Int32) = 0) (tt := 51) (ff := 48) (L' := [.retAddr 0, .retAddr 0, .int v2, .retAddr 0, .int v4, .int v5, .ref 71, .ref 65]) (S' := []) (σ' := (97, I, J, R)) rfl (fun _ => ?_) (fun hn => absurd (by decide) hn)
        refine az_E.sn 1 (pc' := 53) (L' := [.retAddr 0, .retAddr 0, .int v2, .retAddr 0, .int v4, .int v5, .ref 71, .ref 65]) (S' := [.ref 71]) (σ' := (97, I, J, R)) rfl ?_
        refine az_E.call (d := 1) (k' := 55) (vs := [.ref 71]) (pc' := 56) (S' := []) rfl ?_ (fun _ _ hq => hq)
        show az_E az_F ex 1 55 0 [.ref 71] [] (97, I, J, R) _
        refine az_E.sn 3 (pc' := 5) (L' := [.ref 71]) (S' := [.int (-1 : Int32), .int (I 71 1)]) (σ' := (97, I, J, R)) rfl ?_
        refine az_E.br (c := (I 71 1) = (-1 : Int32)) (tt := 12) (ff := 8) (L' := [.ref 71]) (S' := []) (σ' := (97, I, J, R)) rfl (fun hc_1770 => ?_) (fun hc_1770 => ?_)
        · rw [if_pos hc_1770] at h
          refine az_E.sn 1 (pc' := 13) (L' := [.ref 71]) (S' := [.int (0 : Int32)]) (σ' := (97, I, J, R)) rfl ?_
          refine az_E.ret (v := some (.int (0 : Int32))) (σ' := (97, I, J, R)) rfl ?_
          show az_E az_F ex 2 128 56 [.retAddr 0, .retAddr 0, .int v2, .retAddr 0, .int v4, .int v5, .ref 71, .ref 65] [.int (0 : Int32)] (97, I, J, R) _
          refine az_E.br (c := (0 : Int32) = 0) (tt := 72) (ff := 59) (L' := [.retAddr 0, .retAddr 0, .int v2, .retAddr 0, .int v4, .int v5, .ref 71, .ref 65]) (S' := []) (σ' := (97, I, J, R)) rfl (fun _ => ?_) (fun hn => absurd (by decide) hn)
          refine az_E.sn 1 (pc' := 74) (L' := [.retAddr 0, .retAddr 0, .int v2, .retAddr 0, .int v4, .int v5, .ref 71, .ref 65]) (S' := [.int (-12 : Int32)]) (σ' := (97, I, J, R)) rfl ?_
          have h := Option.some.inj h
          subst h
          exact az_E.ret (v := some (.int (-12 : Int32))) (σ' := (97, I, J, R)) rfl hQ
        · rw [if_neg hc_1770] at h
          refine az_E.sn 2 (pc' := 13) (L' := [.ref 71]) (S' := [.int (1 : Int32)]) (σ' := (97, I, J, R)) rfl ?_
          refine az_E.ret (v := some (.int (1 : Int32))) (σ' := (97, I, J, R)) rfl ?_
          show az_E az_F ex 2 128 56 [.retAddr 0, .retAddr 0, .int v2, .retAddr 0, .int v4, .int v5, .ref 71, .ref 65] [.int (1 : Int32)] (97, I, J, R) _
          refine az_E.br (c := (1 : Int32) = 0) (tt := 72) (ff := 59) (L' := [.retAddr 0, .retAddr 0, .int v2, .retAddr 0, .int v4, .int v5, .ref 71, .ref 65]) (S' := []) (σ' := (97, I, J, R)) rfl (fun hn => absurd hn (by decide)) (fun _ => ?_)
          refine az_E.sn 3 (pc' := 66) (L' := [.retAddr 0, .retAddr 0, .int v2, .retAddr 0, .int v4, .int v5, .ref 71, .ref 65]) (S' := [.int (I 71 1), .ref 65]) (σ' := (97, I, J, R)) rfl ?_
          refine az_E.call (d := 1) (k' := 56) (vs := [.ref 65, .int (I 71 1)]) (pc' := 69) (S' := []) rfl ?_ (fun _ _ hq => hq)
          show az_E az_F ex 1 56 0 [.ref 65, .int (I 71 1)] [] (97, I, J, R) _
          refine az_E.sn 1 (pc' := 1) (L' := [.ref 65, .int (I 71 1)]) (S' := [.ref 65]) (σ' := (97, I, J, R)) rfl ?_
          refine az_E.call (d := 0) (k' := 55) (vs := [.ref 65]) (pc' := 4) (S' := []) rfl ?_ (fun _ _ hq => hq)
          show az_E az_F ex 0 55 0 [.ref 65] [] (97, I, J, R) _
          refine az_E.sn 3 (pc' := 5) (L' := [.ref 65]) (S' := [.int (-1 : Int32), .int (I 65 1)]) (σ' := (97, I, J, R)) rfl ?_
          refine az_E.br (c := (I 65 1) = (-1 : Int32)) (tt := 12) (ff := 8) (L' := [.ref 65]) (S' := []) (σ' := (97, I, J, R)) rfl (fun hc_1771 => ?_) (fun hc_1771 => ?_)
          · rw [if_pos hc_1771] at h
            refine az_E.sn 1 (pc' := 13) (L' := [.ref 65]) (S' := [.int (0 : Int32)]) (σ' := (97, I, J, R)) rfl ?_
            refine az_E.ret (v := some (.int (0 : Int32))) (σ' := (97, I, J, R)) rfl ?_
            show az_E az_F ex 1 56 4 [.ref 65, .int (I 71 1)] [.int (0 : Int32)] (97, I, J, R) _
            refine az_E.br (c := (0 : Int32) = 0) (tt := 19) (ff := 7) (L' := [.ref 65, .int (I 71 1)]) (S' := []) (σ' := (97, I, J, R)) rfl (fun _ => ?_) (fun hn => absurd (by decide) hn)
            refine az_E.sn 1 (pc' := 20) (L' := [.ref 65, .int (I 71 1)]) (S' := [.int (0 : Int32)]) (σ' := (97, I, J, R)) rfl ?_
            refine az_E.ret (v := some (.int (0 : Int32))) (σ' := (97, I, J, R)) rfl ?_
            show az_E az_F ex 2 128 69 [.retAddr 0, .retAddr 0, .int v2, .retAddr 0, .int v4, .int v5, .ref 71, .ref 65] [.int (0 : Int32)] (97, I, J, R) _
            refine az_E.br (c := (0 : Int32) = 0) (tt := 72) (ff := 75) (L' := [.retAddr 0, .retAddr 0, .int v2, .retAddr 0, .int v4, .int v5, .ref 71, .ref 65]) (S' := []) (σ' := (97, I, J, R)) rfl (fun _ => ?_) (fun hn => absurd (by decide) hn)
            refine az_E.sn 1 (pc' := 74) (L' := [.retAddr 0, .retAddr 0, .int v2, .retAddr 0, .int v4, .int v5, .ref 71, .ref 65]) (S' := [.int (-12 : Int32)]) (σ' := (97, I, J, R)) rfl ?_
            have h := Option.some.inj h
            subst h
            exact az_E.ret (v := some (.int (-12 : Int32))) (σ' := (97, I, J, R)) rfl hQ
          · rw [if_neg hc_1771] at h
            refine az_E.sn 2 (pc' := 13) (L' := [.ref 65]) (S' := [.int (1 : Int32)]) (σ' := (97, I, J, R)) rfl ?_
            refine az_E.ret (v := some (.int (1 : Int32))) (σ' := (97, I, J, R)) rfl ?_
            show az_E az_F ex 1 56 4 [.ref 65, .int (I 71 1)] [.int (1 : Int32)] (97, I, J, R) _
            refine az_E.br (c := (1 : Int32) = 0) (tt := 19) (ff := 7) (L' := [.ref 65, .int (I 71 1)]) (S' := []) (σ' := (97, I, J, R)) rfl (fun hn => absurd hn (by decide)) (fun _ => ?_)
            refine az_E.sn 3 (pc' := 12) (L' := [.ref 65, .int (I 71 1)]) (S' := [.int (I 71 1), .int (I 65 1)]) (σ' := (97, I, J, R)) rfl ?_
            refine az_E.br (c := (I 65 1) = (I 71 1)) (tt := 15) (ff := 19) (L' := [.ref 65, .int (I 71 1)]) (S' := []) (σ' := (97, I, J, R)) rfl (fun hc_1772 => ?_) (fun hc_1772 => ?_)
            · rw [if_pos hc_1772] at h
              refine az_E.sn 2 (pc' := 20) (L' := [.ref 65, .int (I 71 1)]) (S' := [.int (1 : Int32)]) (σ' := (97, I, J, R)) rfl ?_
              refine az_E.ret (v := some (.int (1 : Int32))) (σ' := (97, I, J, R)) rfl ?_
              show az_E az_F ex 2 128 69 [.retAddr 0, .retAddr 0, .int v2, .retAddr 0, .int v4, .int v5, .ref 71, .ref 65] [.int (1 : Int32)] (97, I, J, R) _
              refine az_E.br (c := (1 : Int32) = 0) (tt := 72) (ff := 75) (L' := [.retAddr 0, .retAddr 0, .int v2, .retAddr 0, .int v4, .int v5, .ref 71, .ref 65]) (S' := []) (σ' := (97, I, J, R)) rfl (fun hn => absurd hn (by decide)) (fun _ => ?_)
              refine az_E.sn 3 (pc' := 80) (L' := [.retAddr 0, .retAddr 0, .int v2, .retAddr 0, .int v4, .int v5, .ref 71, .ref 65]) (S' := [.int v5, .int v2, .ref 71]) (σ' := (97, I, J, R)) rfl ?_
              refine az_E.call (d := 1) (k' := 60) (vs := [.ref 71, .int v2, .int v5]) (pc' := 83) (S' := []) rfl ?_ (fun _ _ hq => hq)
              show az_E az_F ex 1 60 0 [.ref 71, .int v2, .int v5] [] (97, I, J, R) _
              refine az_E.sn 1 (pc' := 1) (L' := [.ref 71, .int v2, .int v5]) (S' := [.int v2]) (σ' := (97, I, J, R)) rfl ?_
              refine az_E.br (c := v2 < 0) (tt := 30) (ff := 4) (L' := [.ref 71, .int v2, .int v5]) (S' := []) (σ' := (97, I, J, R)) rfl (fun hc_1773 => ?_) (fun hc_1773 => ?_)
              · rw [if_pos hc_1773] at h
                refine az_E.sn 1 (pc' := 31) (L' := [.ref 71, .int v2, .int v5]) (S' := [.int (0 : Int32)]) (σ' := (97, I, J, R)) rfl ?_
                refine az_E.ret (v := some (.int (0 : Int32))) (σ' := (97, I, J, R)) rfl ?_
                show az_E az_F ex 2 128 83 [.retAddr 0, .retAddr 0, .int v2, .retAddr 0, .int v4, .int v5, .ref 71, .ref 65] [.int (0 : Int32)] (97, I, J, R) _
                refine az_E.br (c := (0 : Int32) = 0) (tt := 98) (ff := 86) (L' := [.retAddr 0, .retAddr 0, .int v2, .retAddr 0, .int v4, .int v5, .ref 71, .ref 65]) (S' := []) (σ' := (97, I, J, R)) rfl (fun _ => ?_) (fun hn => absurd (by decide) hn)
                refine az_E.sn 1 (pc' := 100) (L' := [.retAddr 0, .retAddr 0, .int v2, .retAddr 0, .int v4, .int v5, .ref 71, .ref 65]) (S' := [.int (-13 : Int32)]) (σ' := (97, I, J, R)) rfl ?_
                have h := Option.some.inj h
                subst h
                exact az_E.ret (v := some (.int (-13 : Int32))) (σ' := (97, I, J, R)) rfl hQ
              · rw [if_neg hc_1773] at h
                refine az_E.sn 1 (pc' := 5) (L' := [.ref 71, .int v2, .int v5]) (S' := [.int v5]) (σ' := (97, I, J, R)) rfl ?_
                refine az_E.br (c := v5 < 0) (tt := 30) (ff := 8) (L' := [.ref 71, .int v2, .int v5]) (S' := []) (σ' := (97, I, J, R)) rfl (fun hc_1774 => ?_) (fun hc_1774 => ?_)
                · rw [if_pos hc_1774] at h
                  refine az_E.sn 1 (pc' := 31) (L' := [.ref 71, .int v2, .int v5]) (S' := [.int (0 : Int32)]) (σ' := (97, I, J, R)) rfl ?_
                  refine az_E.ret (v := some (.int (0 : Int32))) (σ' := (97, I, J, R)) rfl ?_
                  show az_E az_F ex 2 128 83 [.retAddr 0, .retAddr 0, .int v2, .retAddr 0, .int v4, .int v5, .ref 71, .ref 65] [.int (0 : Int32)] (97, I, J, R) _
                  refine az_E.br (c := (0 : Int32) = 0) (tt := 98) (ff := 86) (L' := [.retAddr 0, .retAddr 0, .int v2, .retAddr 0, .int v4, .int v5, .ref 71, .ref 65]) (S' := []) (σ' := (97, I, J, R)) rfl (fun _ => ?_) (fun hn => absurd (by decide) hn)
                  refine az_E.sn 1 (pc' := 100) (L' := [.retAddr 0, .retAddr 0, .int v2, .retAddr 0, .int v4, .int v5, .ref 71, .ref 65]) (S' := [.int (-13 : Int32)]) (σ' := (97, I, J, R)) rfl ?_
                  have h := Option.some.inj h
                  subst h
                  exact az_E.ret (v := some (.int (-13 : Int32))) (σ' := (97, I, J, R)) rfl hQ
                · rw [if_neg hc_1774] at h
                  refine az_E.sn 3 (pc' := 13) (L' := [.ref 71, .int v2, .int v5]) (S' := [.int (I 71 2), .int v2]) (σ' := (97, I, J, R)) rfl ?_
                  refine az_E.br (c := (I 71 2) < v2) (tt := 30) (ff := 16) (L' := [.ref 71, .int v2, .int v5]) (S' := []) (σ' := (97, I, J, R)) rfl (fun hc_1775 => ?_) (fun hc_1775 => ?_)
                  · rw [if_pos hc_1775] at h
                    refine az_E.sn 1 (pc' := 31) (L' := [.ref 71, .int v2, .int v5]) (S' := [.int (0 : Int32)]) (σ' := (97, I, J, R)) rfl ?_
                    refine az_E.ret (v := some (.int (0 : Int32))) (σ' := (97, I, J, R)) rfl ?_
                    show az_E az_F ex 2 128 83 [.retAddr 0, .retAddr 0, .int v2, .retAddr 0, .int v4, .int v5, .ref 71, .ref 65] [.int (0 : Int32)] (97, I, J, R) _
                    refine az_E.br (c := (0 : Int32) = 0) (tt := 98) (ff := 86) (L' := [.retAddr 0, .retAddr 0, .int v2, .retAddr 0, .int v4, .int v5, .ref 71, .ref 65]) (S' := []) (σ' := (97, I, J, R)) rfl (fun _ => ?_) (fun hn => absurd (by decide) hn)
                    refine az_E.sn 1 (pc' := 100) (L' := [.retAddr 0, .retAddr 0, .int v2, .retAddr 0, .int v4, .int v5, .ref 71, .ref 65]) (S' := [.int (-13 : Int32)]) (σ' := (97, I, J, R)) rfl ?_
                    have h := Option.some.inj h
                    subst h
                    exact az_E.ret (v := some (.int (-13 : Int32))) (σ' := (97, I, J, R)) rfl hQ
                  · rw [if_neg hc_1775] at h
                    refine az_E.sn 5 (pc' := 23) (L' := [.ref 71, .int v2, .int v5]) (S' := [.int ((I 71 2) - v2), .int v5]) (σ' := (97, I, J, R)) rfl ?_
                    refine az_E.br (c := ((I 71 2) - v2) < v5) (tt := 30) (ff := 26) (L' := [.ref 71, .int v2, .int v5]) (S' := []) (σ' := (97, I, J, R)) rfl (fun hc_1776 => ?_) (fun hc_1776 => ?_)
                    · rw [if_pos hc_1776] at h
                      refine az_E.sn 1 (pc' := 31) (L' := [.ref 71, .int v2, .int v5]) (S' := [.int (0 : Int32)]) (σ' := (97, I, J, R)) rfl ?_
                      refine az_E.ret (v := some (.int (0 : Int32))) (σ' := (97, I, J, R)) rfl ?_
                      show az_E az_F ex 2 128 83 [.retAddr 0, .retAddr 0, .int v2, .retAddr 0, .int v4, .int v5, .ref 71, .ref 65] [.int (0 : Int32)] (97, I, J, R) _
                      refine az_E.br (c := (0 : Int32) = 0) (tt := 98) (ff := 86) (L' := [.retAddr 0, .retAddr 0, .int v2, .retAddr 0, .int v4, .int v5, .ref 71, .ref 65]) (S' := []) (σ' := (97, I, J, R)) rfl (fun _ => ?_) (fun hn => absurd (by decide) hn)
                      refine az_E.sn 1 (pc' := 100) (L' := [.retAddr 0, .retAddr 0, .int v2, .retAddr 0, .int v4, .int v5, .ref 71, .ref 65]) (S' := [.int (-13 : Int32)]) (σ' := (97, I, J, R)) rfl ?_
                      have h := Option.some.inj h
                      subst h
                      exact az_E.ret (v := some (.int (-13 : Int32))) (σ' := (97, I, J, R)) rfl hQ
                    · rw [if_neg hc_1776] at h
                      refine az_E.sn 2 (pc' := 31) (L' := [.ref 71, .int v2, .int v5]) (S' := [.int (1 : Int32)]) (σ' := (97, I, J, R)) rfl ?_
                      refine az_E.ret (v := some (.int (1 : Int32))) (σ' := (97, I, J, R)) rfl ?_
                      show az_E az_F ex 2 128 83 [.retAddr 0, .retAddr 0, .int v2, .retAddr 0, .int v4, .int v5, .ref 71, .ref 65] [.int (1 : Int32)] (97, I, J, R) _
                      refine az_E.br (c := (1 : Int32) = 0) (tt := 98) (ff := 86) (L' := [.retAddr 0, .retAddr 0, .int v2, .retAddr 0, .int v4, .int v5, .ref 71, .ref 65]) (S' := []) (σ' := (97, I, J, R)) rfl (fun hn => absurd hn (by decide)) (fun _ => ?_)
                      refine az_E.sn 3 (pc' := 92) (L' := [.retAddr 0, .retAddr 0, .int v2, .retAddr 0, .int v4, .int v5, .ref 71, .ref 65]) (S' := [.int v5, .int v4, .ref 65]) (σ' := (97, I, J, R)) rfl ?_
                      refine az_E.call (d := 1) (k' := 60) (vs := [.ref 65, .int v4, .int v5]) (pc' := 95) (S' := []) rfl ?_ (fun _ _ hq => hq)
                      show az_E az_F ex 1 60 0 [.ref 65, .int v4, .int v5] [] (97, I, J, R) _
                      refine az_E.sn 1 (pc' := 1) (L' := [.ref 65, .int v4, .int v5]) (S' := [.int v4]) (σ' := (97, I, J, R)) rfl ?_
                      refine az_E.br (c := v4 < 0) (tt := 30) (ff := 4) (L' := [.ref 65, .int v4, .int v5]) (S' := []) (σ' := (97, I, J, R)) rfl (fun hc_1777 => ?_) (fun hc_1777 => ?_)
                      · rw [if_pos hc_1777] at h
                        refine az_E.sn 1 (pc' := 31) (L' := [.ref 65, .int v4, .int v5]) (S' := [.int (0 : Int32)]) (σ' := (97, I, J, R)) rfl ?_
                        refine az_E.ret (v := some (.int (0 : Int32))) (σ' := (97, I, J, R)) rfl ?_
                        show az_E az_F ex 2 128 95 [.retAddr 0, .retAddr 0, .int v2, .retAddr 0, .int v4, .int v5, .ref 71, .ref 65] [.int (0 : Int32)] (97, I, J, R) _
                        refine az_E.br (c := (0 : Int32) = 0) (tt := 98) (ff := 101) (L' := [.retAddr 0, .retAddr 0, .int v2, .retAddr 0, .int v4, .int v5, .ref 71, .ref 65]) (S' := []) (σ' := (97, I, J, R)) rfl (fun _ => ?_) (fun hn => absurd (by decide) hn)
                        refine az_E.sn 1 (pc' := 100) (L' := [.retAddr 0, .retAddr 0, .int v2, .retAddr 0, .int v4, .int v5, .ref 71, .ref 65]) (S' := [.int (-13 : Int32)]) (σ' := (97, I, J, R)) rfl ?_
                        have h := Option.some.inj h
                        subst h
                        exact az_E.ret (v := some (.int (-13 : Int32))) (σ' := (97, I, J, R)) rfl hQ
                      · rw [if_neg hc_1777] at h
                        refine az_E.sn 1 (pc' := 5) (L' := [.ref 65, .int v4, .int v5]) (S' := [.int v5]) (σ' := (97, I, J, R)) rfl ?_
                        refine az_E.br (c := v5 < 0) (tt := 30) (ff := 8) (L' := [.ref 65, .int v4, .int v5]) (S' := []) (σ' := (97, I, J, R)) rfl (fun hc_1778 => ?_) (fun hc_1778 => ?_)
                        · rw [if_pos hc_1778] at h
                          refine az_E.sn 1 (pc' := 31) (L' := [.ref 65, .int v4, .int v5]) (S' := [.int (0 : Int32)]) (σ' := (97, I, J, R)) rfl ?_
                          refine az_E.ret (v := some (.int (0 : Int32))) (σ' := (97, I, J, R)) rfl ?_
                          show az_E az_F ex 2 128 95 [.retAddr 0, .retAddr 0, .int v2, .retAddr 0, .int v4, .int v5, .ref 71, .ref 65] [.int (0 : Int32)] (97, I, J, R) _
                          refine az_E.br (c := (0 : Int32) = 0) (tt := 98) (ff := 101) (L' := [.retAddr 0, .retAddr 0, .int v2, .retAddr 0, .int v4, .int v5, .ref 71, .ref 65]) (S' := []) (σ' := (97, I, J, R)) rfl (fun _ => ?_) (fun hn => absurd (by decide) hn)
                          refine az_E.sn 1 (pc' := 100) (L' := [.retAddr 0, .retAddr 0, .int v2, .retAddr 0, .int v4, .int v5, .ref 71, .ref 65]) (S' := [.int (-13 : Int32)]) (σ' := (97, I, J, R)) rfl ?_
                          have h := Option.some.inj h
                          subst h
                          exact az_E.ret (v := some (.int (-13 : Int32))) (σ' := (97, I, J, R)) rfl hQ
                        · rw [if_neg hc_1778] at h
                          refine az_E.sn 3 (pc' := 13) (L' := [.ref 65, .int v4, .int v5]) (S' := [.int (I 65 2), .int v4]) (σ' := (97, I, J, R)) rfl ?_
                          refine az_E.br (c := (I 65 2) < v4) (tt := 30) (ff := 16) (L' := [.ref 65, .int v4, .int v5]) (S' := []) (σ' := (97, I, J, R)) rfl (fun hc_1779 => ?_) (fun hc_1779 => ?_)
                          · rw [if_pos hc_1779] at h
                            refine az_E.sn 1 (pc' := 31) (L' := [.ref 65, .int v4, .int v5]) (S' := [.int (0 : Int32)]) (σ' := (97, I, J, R)) rfl ?_
                            refine az_E.ret (v := some (.int (0 : Int32))) (σ' := (97, I, J, R)) rfl ?_
                            show az_E az_F ex 2 128 95 [.retAddr 0, .retAddr 0, .int v2, .retAddr 0, .int v4, .int v5, .ref 71, .ref 65] [.int (0 : Int32)] (97, I, J, R) _
                            refine az_E.br (c := (0 : Int32) = 0) (tt := 98) (ff := 101) (L' := [.retAddr 0, .retAddr 0, .int v2, .retAddr 0, .int v4, .int v5, .ref 71, .ref 65]) (S' := []) (σ' := (97, I, J, R)) rfl (fun _ => ?_) (fun hn => absurd (by decide) hn)
                            refine az_E.sn 1 (pc' := 100) (L' := [.retAddr 0, .retAddr 0, .int v2, .retAddr 0, .int v4, .int v5, .ref 71, .ref 65]) (S' := [.int (-13 : Int32)]) (σ' := (97, I, J, R)) rfl ?_
                            have h := Option.some.inj h
                            subst h
                            exact az_E.ret (v := some (.int (-13 : Int32))) (σ' := (97, I, J, R)) rfl hQ
                          · rw [if_neg hc_1779] at h
                            refine az_E.sn 5 (pc' := 23) (L' := [.ref 65, .int v4, .int v5]) (S' := [.int ((I 65 2) - v4), .int v5]) (σ' := (97, I, J, R)) rfl ?_
                            refine az_E.br (c := ((I 65 2) - v4) < v5) (tt := 30) (ff := 26) (L' := [.ref 65, .int v4, .int v5]) (S' := []) (σ' := (97, I, J, R)) rfl (fun hc_1780 => ?_) (fun hc_1780 => ?_)
                            · rw [if_pos hc_1780] at h
                              refine az_E.sn 1 (pc' := 31) (L' := [.ref 65, .int v4, .int v5]) (S' := [.int (0 : Int32)]) (σ' := (97, I, J, R)) rfl ?_
                              refine az_E.ret (v := some (.int (0 : Int32))) (σ' := (97, I, J, R)) rfl ?_
                              show az_E az_F ex 2 128 95 [.retAddr 0, .retAddr 0, .int v2, .retAddr 0, .int v4, .int v5, .ref 71, .ref 65] [.int (0 : Int32)] (97, I, J, R) _
                              refine az_E.br (c := (0 : Int32) = 0) (tt := 98) (ff := 101) (L' := [.retAddr 0, .retAddr 0, .int v2, .retAddr 0, .int v4, .int v5, .ref 71, .ref 65]) (S' := []) (σ' := (97, I, J, R)) rfl (fun _ => ?_) (fun hn => absurd (by decide) hn)
                              refine az_E.sn 1 (pc' := 100) (L' := [.retAddr 0, .retAddr 0, .int v2, .retAddr 0, .int v4, .int v5, .ref 71, .ref 65]) (S' := [.int (-13 : Int32)]) (σ' := (97, I, J, R)) rfl ?_
                              have h := Option.some.inj h
                              subst h
                              exact az_E.ret (v := some (.int (-13 : Int32))) (σ' := (97, I, J, R)) rfl hQ
                            · rw [if_neg hc_1780] at h
                              refine az_E.sn 2 (pc' := 31) (L' := [.ref 65, .int v4, .int v5]) (S' := [.int (1 : Int32)]) (σ' := (97, I, J, R)) rfl ?_
                              refine az_E.ret (v := some (.int (1 : Int32))) (σ' := (97, I, J, R)) rfl ?_
                              show az_E az_F ex 2 128 95 [.retAddr 0, .retAddr 0, .int v2, .retAddr 0, .int v4, .int v5, .ref 71, .ref 65] [.int (1 : Int32)] (97, I, J, R) _
                              refine az_E.br (c := (1 : Int32) = 0) (tt := 98) (ff := 101) (L' := [.retAddr 0, .retAddr 0, .int v2, .retAddr 0, .int v4, .int v5, .ref 71, .ref 65]) (S' := []) (σ' := (97, I, J, R)) rfl (fun hn => absurd hn (by decide)) (fun _ => ?_)
                              refine az_E.sn 7 (pc' := 116) (L' := [.retAddr 0, .retAddr 0, .int v2, .retAddr 0, .int v4, .int v5, .ref 71, .ref 65]) (S' := [.int v5, .int v4, .ref (65 + 1), .int v2, .ref (71 + 1)]) (σ' := (97, I, J, R)) rfl ?_
                              by_cases hc_1781 : v2 < 0 ∨ v4 < 0 ∨ v5 < 0 ∨ 60 < v2.toNatClampNeg + v5.toNatClampNeg ∨ 60 < v4.toNatClampNeg + v5.toNatClampNeg
                              · rw [if_pos hc_1781] at h; cases h
                              · rw [if_neg hc_1781] at h
                                refine az_E.o (o := az_cp az_F (97, I, J, R) (71 + 1) v2 (65 + 1) v4 v5) (pc' := 119) (L' := [.retAddr 0, .retAddr 0, .int v2, .retAddr 0, .int v4, .int v5, .ref 71, .ref 65]) (S' := []) (x := (97, I, (az_ur J (65 + 1) (va_cpy (J (71 + 1)) (J (65 + 1)) v2.toNatClampNeg v4.toNatClampNeg v5.toNatClampNeg)), R)) rfl (if_neg hc_1781) ?_
                                refine az_E.sn 1 (pc' := 121) (L' := [.retAddr 0, .retAddr 0, .int v2, .retAddr 0, .int v4, .int v5, .ref 71, .ref 65]) (S' := [.int v5]) (σ' := (97, I, (az_ur J (65 + 1) (va_cpy (J (71 + 1)) (J (65 + 1)) v2.toNatClampNeg v4.toNatClampNeg v5.toNatClampNeg)), R)) rfl ?_
                                have h := Option.some.inj h
                                subst h
                                exact az_E.ret (v := some (.int v5)) (σ' := (97, I, (az_ur J (65 + 1) (va_cpy (J (71 + 1)) (J (65 + 1)) v2.toNatClampNeg v4.toNatClampNeg v5.toNatClampNeg)), R)) rfl hQ
            · rw [if_neg hc_1772] at h
              refine az_E.sn 1 (pc' := 20) (L' := [.ref 65, .int (I 71 1)]) (S' := [.int (0 : Int32)]) (σ' := (97, I, J, R)) rfl ?_
              refine az_E.ret (v := some (.int (0 : Int32))) (σ' := (97, I, J, R)) rfl ?_
              show az_E az_F ex 2 128 69 [.retAddr 0, .retAddr 0, .int v2, .retAddr 0, .int v4, .int v5, .ref 71, .ref 65] [.int (0 : Int32)] (97, I, J, R) _
              refine az_E.br (c := (0 : Int32) = 0) (tt := 72) (ff := 75) (L' := [.retAddr 0, .retAddr 0, .int v2, .retAddr 0, .int v4, .int v5, .ref 71, .ref 65]) (S' := []) (σ' := (97, I, J, R)) rfl (fun _ => ?_) (fun hn => absurd (by decide) hn)
              refine az_E.sn 1 (pc' := 74) (L' := [.retAddr 0, .retAddr 0, .int v2, .retAddr 0, .int v4, .int v5, .ref 71, .ref 65]) (S' := [.int (-12 : Int32)]) (σ' := (97, I, J, R)) rfl ?_
              have h := Option.some.inj h
              subst h
              exact az_E.ret (v := some (.int (-12 : Int32))) (σ' := (97, I, J, R)) rfl hQ
    · rw [if_neg hc_1768] at h
      refine az_E.sn 1 (pc' := 21) (L' := [.ref 65]) (S' := [.int (0 : Int32)]) (σ' := (97, I, J, R)) rfl ?_
      refine az_E.ret (v := some (.int (0 : Int32))) (σ' := (97, I, J, R)) rfl ?_
      show az_E az_F ex 2 128 45 [.retAddr 0, .retAddr 0, .int v2, .retAddr 0, .int v4, .int v5, .ref 71, .ref 65] [.int (0 : Int32)] (97, I, J, R) _
      refine az_E.br (c := (0 : Int32) = 0) (tt := 51) (ff := 48) (L' := [.retAddr 0, .retAddr 0, .int v2, .retAddr 0, .int v4, .int v5, .ref 71, .ref 65]) (S' := []) (σ' := (97, I, J, R)) rfl (fun _ => ?_) (fun hn => absurd (by decide) hn)
      refine az_E.sn 1 (pc' := 53) (L' := [.retAddr 0, .retAddr 0, .int v2, .retAddr 0, .int v4, .int v5, .ref 71, .ref 65]) (S' := [.ref 71]) (σ' := (97, I, J, R)) rfl ?_
      refine az_E.call (d := 1) (k' := 55) (vs := [.ref 71]) (pc' := 56) (S' := []) rfl ?_ (fun _ _ hq => hq)
      show az_E az_F ex 1 55 0 [.ref 71] [] (97, I, J, R) _
      refine az_E.sn 3 (pc' := 5) (L' := [.ref 71]) (S' := [.int (-1 : Int32), .int (I 71 1)]) (σ' := (97, I, J, R)) rfl ?_
      refine az_E.br (c := (I 71 1) = (-1 : Int32)) (tt := 12) (ff := 8) (L' := [.ref 71]) (S' := []) (σ' := (97, I, J, R)) rfl (fun hc_1782 => ?_) (fun hc_1782 => ?_)
      · rw [if_pos hc_1782] at h
        refine az_E.sn 1 (pc' := 13) (L' := [.ref 71]) (S' := [.int (0 : Int32)]) (σ' := (97, I, J, R)) rfl ?_
        refine az_E.ret (v := some (.int (0 : Int32))) (σ' := (97, I, J, R)) rfl ?_
        show az_E az_F ex 2 128 56 [.retAddr 0, .retAddr 0, .int v2, .retAddr 0, .int v4, .int v5, .ref 71, .ref 65] [.int (0 : Int32)] (97, I, J, R) _
        refine az_E.br (c := (0 : Int32) = 0) (tt := 72) (ff := 59) (L' := [.retAddr 0, .retAddr 0, .int v2, .retAddr 0, .int v4, .int v5, .ref 71, .ref 65]) (S' := []) (σ' := (97, I, J, R)) rfl (fun _ => ?_) (fun hn => absurd (by decide) hn)
        refine az_E.sn 1 (pc' := 74) (L' := [.retAddr 0, .retAddr 0, .int v2, .retAddr 0, .int v4, .int v5, .ref 71, .ref 65]) (S' := [.int (-12 : Int32)]) (σ' := (97, I, J, R)) rfl ?_
        have h := Option.some.inj h
        subst h
        exact az_E.ret (v := some (.int (-12 : Int32))) (σ' := (97, I, J, R)) rfl hQ
      · rw [if_neg hc_1782] at h
        refine az_E.sn 2 (pc' := 13) (L' := [.ref 71]) (S' := [.int (1 : Int32)]) (σ' := (97, I, J, R)) rfl ?_
        refine az_E.ret (v := some (.int (1 : Int32))) (σ' := (97, I, J, R)) rfl ?_
        show az_E az_F ex 2 128 56 [.retAddr 0, .retAddr 0, .int v2, .retAddr 0, .int v4, .int v5, .ref 71, .ref 65] [.int (1 : Int32)] (97, I, J, R) _
        refine az_E.br (c := (1 : Int32) = 0) (tt := 72) (ff := 59) (L' := [.retAddr 0, .retAddr 0, .int v2, .retAddr 0, .int v4, .int v5, .ref 71, .ref 65]) (S' := []) (σ' := (97, I, J, R)) rfl (fun hn => absurd hn (by decide)) (fun _ => ?_)
        refine az_E.sn 3 (pc' := 66) (L' := [.retAddr 0, .retAddr 0, .int v2, .retAddr 0, .int v4, .int v5, .ref 71, .ref 65]) (S' := [.int (I 71 1), .ref 65]) (σ' := (97, I, J, R)) rfl ?_
        refine az_E.call (d := 1) (k' := 56) (vs := [.ref 65, .int (I 71 1)]) (pc' := 69) (S' := []) rfl ?_ (fun _ _ hq => hq)
        show az_E az_F ex 1 56 0 [.ref 65, .int (I 71 1)] [] (97, I, J, R) _
        refine az_E.sn 1 (pc' := 1) (L' := [.ref 65, .int (I 71 1)]) (S' := [.ref 65]) (σ' := (97, I, J, R)) rfl ?_
        refine az_E.call (d := 0) (k' := 55) (vs := [.ref 65]) (pc' := 4) (S' := []) rfl ?_ (fun _ _ hq => hq)
        show az_E az_F ex 0 55 0 [.ref 65] [] (97, I, J, R) _
        refine az_E.sn 3 (pc' := 5) (L' := [.ref 65]) (S' := [.int (-1 : Int32), .int (I 65 1)]) (σ' := (97, I, J, R)) rfl ?_
        refine az_E.br (c := (I 65 1) = (-1 : Int32)) (tt := 12) (ff := 8) (L' := [.ref 65]) (S' := []) (σ' := (97, I, J, R)) rfl (fun hc_1783 => ?_) (fun hc_1783 => ?_)
        · rw [if_pos hc_1783] at h
          refine az_E.sn 1 (pc' := 13) (L' := [.ref 65]) (S' := [.int (0 : Int32)]) (σ' := (97, I, J, R)) rfl ?_
          refine az_E.ret (v := some (.int (0 : Int32))) (σ' := (97, I, J, R)) rfl ?_
          show az_E az_F ex 1 56 4 [.ref 65, .int (I 71 1)] [.int (0 : Int32)] (97, I, J, R) _
          refine az_E.br (c := (0 : Int32) = 0) (tt := 19) (ff := 7) (L' := [.ref 65, .int (I 71 1)]) (S' := []) (σ' := (97, I, J, R)) rfl (fun _ => ?_) (fun hn => absurd (by decide) hn)
          refine az_E.sn 1 (pc' := 20) (L' := [.ref 65, .int (I 71 1)]) (S' := [.int (0 : Int32)]) (σ' := (97, I, J, R)) rfl ?_
          refine az_E.ret (v := some (.int (0 : Int32))) (σ' := (97, I, J, R)) rfl ?_
          show az_E az_F ex 2 128 69 [.retAddr 0, .retAddr 0, .int v2, .retAddr 0, .int v4, .int v5, .ref 71, .ref 65] [.int (0 : Int32)] (97, I, J, R) _
          refine az_E.br (c := (0 : Int32) = 0) (tt := 72) (ff := 75) (L' := [.retAddr 0, .retAddr 0, .int v2, .retAddr 0, .int v4, .int v5, .ref 71, .ref 65]) (S' := []) (σ' := (97, I, J, R)) rfl (fun _ => ?_) (fun hn => absurd (by decide) hn)
          refine az_E.sn 1 (pc' := 74) (L' := [.retAddr 0, .retAddr 0, .int v2, .retAddr 0, .int v4, .int v5, .ref 71, .ref 65]) (S' := [.int (-12 : Int32)]) (σ' := (97, I, J, R)) rfl ?_
          have h := Option.some.inj h
          subst h
          exact az_E.ret (v := some (.int (-12 : Int32))) (σ' := (97, I, J, R)) rfl hQ
        · rw [if_neg hc_1783] at h
          refine az_E.sn 2 (pc' := 13) (L' := [.ref 65]) (S' := [.int (1 : Int32)]) (σ' := (97, I, J, R)) rfl ?_
          refine az_E.ret (v := some (.int (1 : Int32))) (σ' := (97, I, J, R)) rfl ?_
          show az_E az_F ex 1 56 4 [.ref 65, .int (I 71 1)] [.int (1 : Int32)] (97, I, J, R) _
          refine az_E.br (c := (1 : Int32) = 0) (tt := 19) (ff := 7) (L' := [.ref 65, .int (I 71 1)]) (S' := []) (σ' := (97, I, J, R)) rfl (fun hn => absurd hn (by decide)) (fun _ => ?_)
          refine az_E.sn 3 (pc' := 12) (L' := [.ref 65, .int (I 71 1)]) (S' := [.int (I 71 1), .int (I 65 1)]) (σ' := (97, I, J, R)) rfl ?_
          refine az_E.br (c := (I 65 1) = (I 71 1)) (tt := 15) (ff := 19) (L' := [.ref 65, .int (I 71 1)]) (S' := []) (σ' := (97, I, J, R)) rfl (fun hc_1784 => ?_) (fun hc_1784 => ?_)
          · rw [if_pos hc_1784] at h
            refine az_E.sn 2 (pc' := 20) (L' := [.ref 65, .int (I 71 1)]) (S' := [.int (1 : Int32)]) (σ' := (97, I, J, R)) rfl ?_
            refine az_E.ret (v := some (.int (1 : Int32))) (σ' := (97, I, J, R)) rfl ?_
            show az_E az_F ex 2 128 69 [.retAddr 0, .retAddr 0, .int v2, .retAddr 0, .int v4, .int v5, .ref 71, .ref 65] [.int (1 : Int32)] (97, I, J, R) _
            refine az_E.br (c := (1 : Int32) = 0) (tt := 72) (ff := 75) (L' := [.retAddr 0, .retAddr 0, .int v2, .retAddr 0, .int v4, .int v5, .ref 71, .ref 65]) (S' := []) (σ' := (97, I, J, R)) rfl (fun hn => absurd hn (by decide)) (fun _ => ?_)
            refine az_E.sn 3 (pc' := 80) (L' := [.retAddr 0, .retAddr 0, .int v2, .retAddr 0, .int v4, .int v5, .ref 71, .ref 65]) (S' := [.int v5, .int v2, .ref 71]) (σ' := (97, I, J, R)) rfl ?_
            refine az_E.call (d := 1) (k' := 60) (vs := [.ref 71, .int v2, .int v5]) (pc' := 83) (S' := []) rfl ?_ (fun _ _ hq => hq)
            show az_E az_F ex 1 60 0 [.ref 71, .int v2, .int v5] [] (97, I, J, R) _
            refine az_E.sn 1 (pc' := 1) (L' := [.ref 71, .int v2, .int v5]) (S' := [.int v2]) (σ' := (97, I, J, R)) rfl ?_
            refine az_E.br (c := v2 < 0) (tt := 30) (ff := 4) (L' := [.ref 71, .int v2, .int v5]) (S' := []) (σ' := (97, I, J, R)) rfl (fun hc_1785 => ?_) (fun hc_1785 => ?_)
            · rw [if_pos hc_1785] at h
              refine az_E.sn 1 (pc' := 31) (L' := [.ref 71, .int v2, .int v5]) (S' := [.int (0 : Int32)]) (σ' := (97, I, J, R)) rfl ?_
              refine az_E.ret (v := some (.int (0 : Int32))) (σ' := (97, I, J, R)) rfl ?_
              show az_E az_F ex 2 128 83 [.retAddr 0, .retAddr 0, .int v2, .retAddr 0, .int v4, .int v5, .ref 71, .ref 65] [.int (0 : Int32)] (97, I, J, R) _
              refine az_E.br (c := (0 : Int32) = 0) (tt := 98) (ff := 86) (L' := [.retAddr 0, .retAddr 0, .int v2, .retAddr 0, .int v4, .int v5, .ref 71, .ref 65]) (S' := []) (σ' := (97, I, J, R)) rfl (fun _ => ?_) (fun hn => absurd (by decide) hn)
              refine az_E.sn 1 (pc' := 100) (L' := [.retAddr 0, .retAddr 0, .int v2, .retAddr 0, .int v4, .int v5, .ref 71, .ref 65]) (S' := [.int (-13 : Int32)]) (σ' := (97, I, J, R)) rfl ?_
              have h := Option.some.inj h
              subst h
              exact az_E.ret (v := some (.int (-13 : Int32))) (σ' := (97, I, J, R)) rfl hQ
            · rw [if_neg hc_1785] at h
              refine az_E.sn 1 (pc' := 5) (L' := [.ref 71, .int v2, .int v5]) (S' := [.int v5]) (σ' := (97, I, J, R)) rfl ?_
              refine az_E.br (c := v5 < 0) (tt := 30) (ff := 8) (L' := [.ref 71, .int v2, .int v5]) (S' := []) (σ' := (97, I, J, R)) rfl (fun hc_1786 => ?_) (fun hc_1786 => ?_)
              · rw [if_pos hc_1786] at h
                refine az_E.sn 1 (pc' := 31) (L' := [.ref 71, .int v2, .int v5]) (S' := [.int (0 : Int32)]) (σ' := (97, I, J, R)) rfl ?_
                refine az_E.ret (v := some (.int (0 : Int32))) (σ' := (97, I, J, R)) rfl ?_
                show az_E az_F ex 2 128 83 [.retAddr 0, .retAddr 0, .int v2, .retAddr 0, .int v4, .int v5, .ref 71, .ref 65] [.int (0 : Int32)] (97, I, J, R) _
                refine az_E.br (c := (0 : Int32) = 0) (tt := 98) (ff := 86) (L' := [.retAddr 0, .retAddr 0, .int v2, .retAddr 0, .int v4, .int v5, .ref 71, .ref 65]) (S' := []) (σ' := (97, I, J, R)) rfl (fun _ => ?_) (fun hn => absurd (by decide) hn)
                refine az_E.sn 1 (pc' := 100) (L' := [.retAddr 0, .retAddr 0, .int v2, .retAddr 0, .int v4, .int v5, .ref 71, .ref 65]) (S' := [.int (-13 : Int32)]) (σ' := (97, I, J, R)) rfl ?_
                have h := Option.some.inj h
                subst h
                exact az_E.ret (v := some (.int (-13 : Int32))) (σ' := (97, I, J, R)) rfl hQ
              · rw [if_neg hc_1786] at h
                refine az_E.sn 3 (pc' := 13) (L' := [.ref 71, .int v2, .int v5]) (S' := [.int (I 71 2), .int v2]) (σ' := (97, I, J, R)) rfl ?_
                refine az_E.br (c := (I 71 2) < v2) (tt := 30) (ff := 16) (L' := [.ref 71, .int v2, .int v5]) (S' := []) (σ' := (97, I, J, R)) rfl (fun hc_1787 => ?_) (fun hc_1787 => ?_)
                · rw [if_pos hc_1787] at h
                  refine az_E.sn 1 (pc' := 31) (L' := [.ref 71, .int v2, .int v5]) (S' := [.int (0 : Int32)]) (σ' := (97, I, J, R)) rfl ?_
                  refine az_E.ret (v := some (.int (0 : Int32))) (σ' := (97, I, J, R)) rfl ?_
                  show az_E az_F ex 2 128 83 [.retAddr 0, .retAddr 0, .int v2, .retAddr 0, .int v4, .int v5, .ref 71, .ref 65] [.int (0 : Int32)] (97, I, J, R) _
                  refine az_E.br (c := (0 : Int32) = 0) (tt := 98) (ff := 86) (L' := [.retAddr 0, .retAddr 0, .int v2, .retAddr 0, .int v4, .int v5, .ref 71, .ref 65]) (S' := []) (σ' := (97, I, J, R)) rfl (fun _ => ?_) (fun hn => absurd (by decide) hn)
                  refine az_E.sn 1 (pc' := 100) (L' := [.retAddr 0, .retAddr 0, .int v2, .retAddr 0, .int v4, .int v5, .ref 71, .ref 65]) (S' := [.int (-13 : Int32)]) (σ' := (97, I, J, R)) rfl ?_
                  have h := Option.some.inj h
                  subst h
                  exact az_E.ret (v := some (.int (-13 : Int32))) (σ' := (97, I, J, R)) rfl hQ
                · rw [if_neg hc_1787] at h
                  refine az_E.sn 5 (pc' := 23) (L' := [.ref 71, .int v2, .int v5]) (S' := [.int ((I 71 2) - v2), .int v5]) (σ' := (97, I, J, R)) rfl ?_
                  refine az_E.br (c := ((I 71 2) - v2) < v5) (tt := 30) (ff := 26) (L' := [.ref 71, .int v2, .int v5]) (S' := []) (σ' := (97, I, J, R)) rfl (fun hc_1788 => ?_) (fun hc_1788 => ?_)
                  · rw [if_pos hc_1788] at h
                    refine az_E.sn 1 (pc' := 31) (L' := [.ref 71, .int v2, .int v5]) (S' := [.int (0 : Int32)]) (σ' := (97, I, J, R)) rfl ?_
                    refine az_E.ret (v := some (.int (0 : Int32))) (σ' := (97, I, J, R)) rfl ?_
                    show az_E az_F ex 2 128 83 [.retAddr 0, .retAddr 0, .int v2, .retAddr 0, .int v4, .int v5, .ref 71, .ref 65] [.int (0 : Int32)] (97, I, J, R) _
                    refine az_E.br (c := (0 : Int32) = 0) (tt := 98) (ff := 86) (L' := [.retAddr 0, .retAddr 0, .int v2, .retAddr 0, .int v4, .int v5, .ref 71, .ref 65]) (S' := []) (σ' := (97, I, J, R)) rfl (fun _ => ?_) (fun hn => absurd (by decide) hn)
                    refine az_E.sn 1 (pc' := 100) (L' := [.retAddr 0, .retAddr 0, .int v2, .retAddr 0, .int v4, .int v5, .ref 71, .ref 65]) (S' := [.int (-13 : Int32)]) (σ' := (97, I, J, R)) rfl ?_
                    have h := Option.some.inj h
                    subst h
                    exact az_E.ret (v := some (.int (-13 : Int32))) (σ' := (97, I, J, R)) rfl hQ
                  · rw [if_neg hc_1788] at h
                    refine az_E.sn 2 (pc' := 31) (L' := [.ref 71, .int v2, .int v5]) (S' := [.int (1 : Int32)]) (σ' := (97, I, J, R)) rfl ?_
                    refine az_E.ret (v := some (.int (1 : Int32))) (σ' := (97, I, J, R)) rfl ?_
                    show az_E az_F ex 2 128 83 [.retAddr 0, .retAddr 0, .int v2, .retAddr 0, .int v4, .int v5, .ref 71, .ref 65] [.int (1 : Int32)] (97, I, J, R) _
                    refine az_E.br (c := (1 : Int32) = 0) (tt := 98) (ff := 86) (L' := [.retAddr 0, .retAddr 0, .int v2, .retAddr 0, .int v4, .int v5, .ref 71, .ref 65]) (S' := []) (σ' := (97, I, J, R)) rfl (fun hn => absurd hn (by decide)) (fun _ => ?_)
                    refine az_E.sn 3 (pc' := 92) (L' := [.retAddr 0, .retAddr 0, .int v2, .retAddr 0, .int v4, .int v5, .ref 71, .ref 65]) (S' := [.int v5, .int v4, .ref 65]) (σ' := (97, I, J, R)) rfl ?_
                    refine az_E.call (d := 1) (k' := 60) (vs := [.ref 65, .int v4, .int v5]) (pc' := 95) (S' := []) rfl ?_ (fun _ _ hq => hq)
                    show az_E az_F ex 1 60 0 [.ref 65, .int v4, .int v5] [] (97, I, J, R) _
                    refine az_E.sn 1 (pc' := 1) (L' := [.ref 65, .int v4, .int v5]) (S' := [.int v4]) (σ' := (97, I, J, R)) rfl ?_
                    refine az_E.br (c := v4 < 0) (tt := 30) (ff := 4) (L' := [.ref 65, .int v4, .int v5]) (S' := []) (σ' := (97, I, J, R)) rfl (fun hc_1789 => ?_) (fun hc_1789 => ?_)
                    · rw [if_pos hc_1789] at h
                      refine az_E.sn 1 (pc' := 31) (L' := [.ref 65, .int v4, .int v5]) (S' := [.int (0 : Int32)]) (σ' := (97, I, J, R)) rfl ?_
                      refine az_E.ret (v := some (.int (0 : Int32))) (σ' := (97, I, J, R)) rfl ?_
                      show az_E az_F ex 2 128 95 [.retAddr 0, .retAddr 0, .int v2, .retAddr 0, .int v4, .int v5, .ref 71, .ref 65] [.int (0 : Int32)] (97, I, J, R) _
                      refine az_E.br (c := (0 : Int32) = 0) (tt := 98) (ff := 101) (L' := [.retAddr 0, .retAddr 0, .int v2, .retAddr 0, .int v4, .int v5, .ref 71, .ref 65]) (S' := []) (σ' := (97, I, J, R)) rfl (fun _ => ?_) (fun hn => absurd (by decide) hn)
                      refine az_E.sn 1 (pc' := 100) (L' := [.retAddr 0, .retAddr 0, .int v2, .retAddr 0, .int v4, .int v5, .ref 71, .ref 65]) (S' := [.int (-13 : Int32)]) (σ' := (97, I, J, R)) rfl ?_
                      have h := Option.some.inj h
                      subst h
                      exact az_E.ret (v := some (.int (-13 : Int32))) (σ' := (97, I, J, R)) rfl hQ
                    · rw [if_neg hc_1789] at h
                      refine az_E.sn 1 (pc' := 5) (L' := [.ref 65, .int v4, .int v5]) (S' := [.int v5]) (σ' := (97, I, J, R)) rfl ?_
                      refine az_E.br (c := v5 < 0) (tt := 30) (ff := 8) (L' := [.ref 65, .int v4, .int v5]) (S' := []) (σ' := (97, I, J, R)) rfl (fun hc_1790 => ?_) (fun hc_1790 => ?_)
                      · rw [if_pos hc_1790] at h
                        refine az_E.sn 1 (pc' := 31) (L' := [.ref 65, .int v4, .int v5]) (S' := [.int (0 : Int32)]) (σ' := (97, I, J, R)) rfl ?_
                        refine az_E.ret (v := some (.int (0 : Int32))) (σ' := (97, I, J, R)) rfl ?_
                        show az_E az_F ex 2 128 95 [.retAddr 0, .retAddr 0, .int v2, .retAddr 0, .int v4, .int v5, .ref 71, .ref 65] [.int (0 : Int32)] (97, I, J, R) _
                        refine az_E.br (c := (0 : Int32) = 0) (tt := 98) (ff := 101) (L' := [.retAddr 0, .retAddr 0, .int v2, .retAddr 0, .int v4, .int v5, .ref 71, .ref 65]) (S' := []) (σ' := (97, I, J, R)) rfl (fun _ => ?_) (fun hn => absurd (by decide) hn)
                        refine az_E.sn 1 (pc' := 100) (L' := [.retAddr 0, .retAddr 0, .int v2, .retAddr 0, .int v4, .int v5, .ref 71, .ref 65]) (S' := [.int (-13 : Int32)]) (σ' := (97, I, J, R)) rfl ?_
                        have h := Option.some.inj h
                        subst h
                        exact az_E.ret (v := some (.int (-13 : Int32))) (σ' := (97, I, J, R)) rfl hQ
                      · rw [if_neg hc_1790] at h
                        refine az_E.sn 3 (pc' := 13) (L' := [.ref 65, .int v4, .int v5]) (S' := [.int (I 65 2), .int v4]) (σ' := (97, I, J, R)) rfl ?_
                        refine az_E.br (c := (I 65 2) < v4) (tt := 30) (ff := 16) (L' := [.ref 65, .int v4, .int v5]) (S' := []) (σ' := (97, I, J, R)) rfl (fun hc_1791 => ?_) (fun hc_1791 => ?_)
                        · rw [if_pos hc_1791] at h
                          refine az_E.sn 1 (pc' := 31) (L' := [.ref 65, .int v4, .int v5]) (S' := [.int (0 : Int32)]) (σ' := (97, I, J, R)) rfl ?_
                          refine az_E.ret (v := some (.int (0 : Int32))) (σ' := (97, I, J, R)) rfl ?_
                          show az_E az_F ex 2 128 95 [.retAddr 0, .retAddr 0, .int v2, .retAddr 0, .int v4, .int v5, .ref 71, .ref 65] [.int (0 : Int32)] (97, I, J, R) _
                          refine az_E.br (c := (0 : Int32) = 0) (tt := 98) (ff := 101) (L' := [.retAddr 0, .retAddr 0, .int v2, .retAddr 0, .int v4, .int v5, .ref 71, .ref 65]) (S' := []) (σ' := (97, I, J, R)) rfl (fun _ => ?_) (fun hn => absurd (by decide) hn)
                          refine az_E.sn 1 (pc' := 100) (L' := [.retAddr 0, .retAddr 0, .int v2, .retAddr 0, .int v4, .int v5, .ref 71, .ref 65]) (S' := [.int (-13 : Int32)]) (σ' := (97, I, J, R)) rfl ?_
                          have h := Option.some.inj h
                          subst h
                          exact az_E.ret (v := some (.int (-13 : Int32))) (σ' := (97, I, J, R)) rfl hQ
                        · rw [if_neg hc_1791] at h
                          refine az_E.sn 5 (pc' := 23) (L' := [.ref 65, .int v4, .int v5]) (S' := [.int ((I 65 2) - v4), .int v5]) (σ' := (97, I, J, R)) rfl ?_
                          refine az_E.br (c := ((I 65 2) - v4) < v5) (tt := 30) (ff := 26) (L' := [.ref 65, .int v4, .int v5]) (S' := []) (σ' := (97, I, J, R)) rfl (fun hc_1792 => ?_) (fun hc_1792 => ?_)
                          · rw [if_pos hc_1792] at h
                            refine az_E.sn 1 (pc' := 31) (L' := [.ref 65, .int v4, .int v5]) (S' := [.int (0 : Int32)]) (σ' := (97, I, J, R)) rfl ?_
                            refine az_E.ret (v := some (.int (0 : Int32))) (σ' := (97, I, J, R)) rfl ?_
                            show az_E az_F ex 2 128 95 [.retAddr 0, .retAddr 0, .int v2, .retAddr 0, .int v4, .int v5, .ref 71, .ref 65] [.int (0 : Int32)] (97, I, J, R) _
                            refine az_E.br (c := (0 : Int32) = 0) (tt := 98) (ff := 101) (L' := [.retAddr 0, .retAddr 0, .int v2, .retAddr 0, .int v4, .int v5, .ref 71, .ref 65]) (S' := []) (σ' := (97, I, J, R)) rfl (fun _ => ?_) (fun hn => absurd (by decide) hn)
                            refine az_E.sn 1 (pc' := 100) (L' := [.retAddr 0, .retAddr 0, .int v2, .retAddr 0, .int v4, .int v5, .ref 71, .ref 65]) (S' := [.int (-13 : Int32)]) (σ' := (97, I, J, R)) rfl ?_
                            have h := Option.some.inj h
                            subst h
                            exact az_E.ret (v := some (.int (-13 : Int32))) (σ' := (97, I, J, R)) rfl hQ
                          · rw [if_neg hc_1792] at h
                            refine az_E.sn 2 (pc' := 31) (L' := [.ref 65, .int v4, .int v5]) (S' := [.int (1 : Int32)]) (σ' := (97, I, J, R)) rfl ?_
                            refine az_E.ret (v := some (.int (1 : Int32))) (σ' := (97, I, J, R)) rfl ?_
                            show az_E az_F ex 2 128 95 [.retAddr 0, .retAddr 0, .int v2, .retAddr 0, .int v4, .int v5, .ref 71, .ref 65] [.int (1 : Int32)] (97, I, J, R) _
                            refine az_E.br (c := (1 : Int32) = 0) (tt := 98) (ff := 101) (L' := [.retAddr 0, .retAddr 0, .int v2, .retAddr 0, .int v4, .int v5, .ref 71, .ref 65]) (S' := []) (σ' := (97, I, J, R)) rfl (fun hn => absurd hn (by decide)) (fun _ => ?_)
                            refine az_E.sn 7 (pc' := 116) (L' := [.retAddr 0, .retAddr 0, .int v2, .retAddr 0, .int v4, .int v5, .ref 71, .ref 65]) (S' := [.int v5, .int v4, .ref (65 + 1), .int v2, .ref (71 + 1)]) (σ' := (97, I, J, R)) rfl ?_
                            by_cases hc_1793 : v2 < 0 ∨ v4 < 0 ∨ v5 < 0 ∨ 60 < v2.toNatClampNeg + v5.toNatClampNeg ∨ 60 < v4.toNatClampNeg + v5.toNatClampNeg
                            · rw [if_pos hc_1793] at h; cases h
                            · rw [if_neg hc_1793] at h
                              refine az_E.o (o := az_cp az_F (97, I, J, R) (71 + 1) v2 (65 + 1) v4 v5) (pc' := 119) (L' := [.retAddr 0, .retAddr 0, .int v2, .retAddr 0, .int v4, .int v5, .ref 71, .ref 65]) (S' := []) (x := (97, I, (az_ur J (65 + 1) (va_cpy (J (71 + 1)) (J (65 + 1)) v2.toNatClampNeg v4.toNatClampNeg v5.toNatClampNeg)), R)) rfl (if_neg hc_1793) ?_
                              refine az_E.sn 1 (pc' := 121) (L' := [.retAddr 0, .retAddr 0, .int v2, .retAddr 0, .int v4, .int v5, .ref 71, .ref 65]) (S' := [.int v5]) (σ' := (97, I, (az_ur J (65 + 1) (va_cpy (J (71 + 1)) (J (65 + 1)) v2.toNatClampNeg v4.toNatClampNeg v5.toNatClampNeg)), R)) rfl ?_
                              have h := Option.some.inj h
                              subst h
                              exact az_E.ret (v := some (.int v5)) (σ' := (97, I, (az_ur J (65 + 1) (va_cpy (J (71 + 1)) (J (65 + 1)) v2.toNatClampNeg v4.toNatClampNeg v5.toNatClampNeg)), R)) rfl hQ
          · rw [if_neg hc_1784] at h
            refine az_E.sn 1 (pc' := 20) (L' := [.ref 65, .int (I 71 1)]) (S' := [.int (0 : Int32)]) (σ' := (97, I, J, R)) rfl ?_
            refine az_E.ret (v := some (.int (0 : Int32))) (σ' := (97, I, J, R)) rfl ?_
            show az_E az_F ex 2 128 69 [.retAddr 0, .retAddr 0, .int v2, .retAddr 0, .int v4, .int v5, .ref 71, .ref 65] [.int (0 : Int32)] (97, I, J, R) _
            refine az_E.br (c := (0 : Int32) = 0) (tt := 72) (ff := 75) (L' := [.retAddr 0, .retAddr 0, .int v2, .retAddr 0, .int v4, .int v5, .ref 71, .ref 65]) (S' := []) (σ' := (97, I, J, R)) rfl (fun _ => ?_) (fun hn => absurd (by decide) hn)
            refine az_E.sn 1 (pc' := 74) (L' := [.retAddr 0, .retAddr 0, .int v2, .retAddr 0, .int v4, .int v5, .ref 71, .ref 65]) (S' := [.int (-12 : Int32)]) (σ' := (97, I, J, R)) rfl ?_
            have h := Option.some.inj h
            subst h
            exact az_E.ret (v := some (.int (-12 : Int32))) (σ' := (97, I, J, R)) rfl hQ
set_option maxRecDepth 100000 in
set_option maxHeartbeats 4000000 in
theorem re_X_shift_30_71_67 {ex : az_X} {I : Nat → Nat → Int32} {J : Nat → Nat → Int64} {R : Nat → Nat → Option Nat} {v2 : Int32} {v4 : Int32} {v5 : Int32} {x : Int32 × (Nat → Nat → Int64)} (h : rs_X_shift_30 71 67 I J v2 v4 v5 = some x) {Q : Option Value → az_S → Prop} (hQ : Q (some (.int x.1)) (97, I, x.2, R)) : az_E az_F ex 2 128 30 [.retAddr 0, .retAddr 0, .int v2, .retAddr 0, .int v4, .int v5, .ref 71, .retAddr 0] [.ref 67] (97, I, J, R) Q := by
  unfold rs_X_shift_30 at h
  refine az_E.sn 2 (pc' := 34) (L' := [.retAddr 0, .retAddr 0, .int v2, .retAddr 0, .int v4, .int v5, .ref 71, .ref 67]) (S' := [.ref 71]) (σ' := (97, I, J, R)) rfl ?_
  refine az_E.call (d := 1) (k' := 54) (vs := [.ref 71]) (pc' := 37) (S' := []) rfl ?_ (fun _ _ hq => hq)
  show az_E az_F ex 1 54 0 [.ref 71] [] (97, I, J, R) _
  refine az_E.sn 3 (pc' := 5) (L' := [.ref 71]) (S' := [.int (-1 : Int32), .int (I 71 0)]) (σ' := (97, I, J, R)) rfl ?_
  refine az_E.br (c := (I 71 0) = (-1 : Int32)) (tt := 8) (ff := 20) (L' := [.ref 71]) (S' := []) (σ' := (97, I, J, R)) rfl (fun hc_1794 => ?_) (fun hc_1794 => ?_)
  · rw [if_pos hc_1794] at h
    refine az_E.sn 3 (pc' := 13) (L' := [.ref 71]) (S' := [.int (-1 : Int32), .int (I 71 1)]) (σ' := (97, I, J, R)) rfl ?_
    refine az_E.br (c := (I 71 1) = (-1 : Int32)) (tt := 16) (ff := 20) (L' := [.ref 71]) (S' := []) (σ' := (97, I, J, R)) rfl (fun hc_1795 => ?_) (fun hc_1795 => ?_)
    · rw [if_pos hc_1795] at h
      refine az_E.sn 2 (pc' := 21) (L' := [.ref 71]) (S' := [.int (1 : Int32)]) (σ' := (97, I, J, R)) rfl ?_
      refine az_E.ret (v := some (.int (1 : Int32))) (σ' := (97, I, J, R)) rfl ?_
      show az_E az_F ex 2 128 37 [.retAddr 0, .retAddr 0, .int v2, .retAddr 0, .int v4, .int v5, .ref 71, .ref 67] [.int (1 : Int32)] (97, I, J, R) _
      refine az_E.br (c := (1 : Int32) = 0) (tt := 40) (ff := 48) (L' := [.retAddr 0, .retAddr 0, .int v2, .retAddr 0, .int v4, .int v5, .ref 71, .ref 67]) (S' := []) (σ' := (97, I, J, R)) rfl (fun hn => absurd hn (by decide)) (fun _ => ?_)
      refine az_E.sn 1 (pc' := 50) (L' := [.retAddr 0, .retAddr 0, .int v2, .retAddr 0, .int v4, .int v5, .ref 71, .ref 67]) (S' := [.int (-11 : Int32)]) (σ' := (97, I, J, R)) rfl ?_
      have h := Option.some.inj h
      subst h
      exact az_E.ret (v := some (.int (-11 : Int32))) (σ' := (97, I, J, R)) rfl hQ
    · rw [if_neg hc_1795] at h
      refine az_E.sn 1 (pc' := 21) (L' := [.ref 71]) (S' := [.int (0 : Int32)]) (σ' := (97, I, J, R)) rfl ?_
      refine az_E.ret (v := some (.int (0 : Int32))) (σ' := (97, I, J, R)) rfl ?_
      show az_E az_F ex 2 128 37 [.retAddr 0, .retAddr 0, .int v2, .retAddr 0, .int v4, .int v5, .ref 71, .ref 67] [.int (0 : Int32)] (97, I, J, R) _
      refine az_E.br (c := (0 : Int32) = 0) (tt := 40) (ff := 48) (L' := [.retAddr 0, .retAddr 0, .int v2, .retAddr 0, .int v4, .int v5, .ref 71, .ref 67]) (S' := []) (σ' := (97, I, J, R)) rfl (fun _ => ?_) (fun hn => absurd (by decide) hn)
      refine az_E.sn 1 (pc' := 42) (L' := [.retAddr 0, .retAddr 0, .int v2, .retAddr 0, .int v4, .int v5, .ref 71, .ref 67]) (S' := [.ref 67]) (σ' := (97, I, J, R)) rfl ?_
      refine az_E.call (d := 1) (k' := 54) (vs := [.ref 67]) (pc' := 45) (S' := []) rfl ?_ (fun _ _ hq => hq)
      show az_E az_F ex 1 54 0 [.ref 67] [] (97, I, J, R) _
      refine az_E.sn 3 (pc' := 5) (L' := [.ref 67]) (S' := [.int (-1 : Int32), .int (I 67 0)]) (σ' := (97, I, J, R)) rfl ?_
      refine az_E.br (c := (I 67 0) = (-1 : Int32)) (tt := 8) (ff := 20) (L' := [.ref 67]) (S' := []) (σ' := (97, I, J, R)) rfl (fun hc_1796 => ?_) (fun hc_1796 => ?_)
      · rw [if_pos hc_1796] at h
        refine az_E.sn 3 (pc' := 13) (L' := [.ref 67]) (S' := [.int (-1 : Int32), .int (I 67 1)]) (σ' := (97, I, J, R)) rfl ?_
        refine az_E.br (c := (I 67 1) = (-1 : Int32)) (tt := 16) (ff := 20) (L' := [.ref 67]) (S' := []) (σ' := (97, I, J, R)) rfl (fun hc_1797 => ?_) (fun hc_1797 => ?_)
        · rw [if_pos hc_1797] at h
          refine az_E.sn 2 (pc' := 21) (L' := [.ref 67]) (S' := [.int (1 : Int32)]) (σ' := (97, I, J, R)) rfl ?_
          refine az_E.ret (v := some (.int (1 : Int32))) (σ' := (97, I, J, R)) rfl ?_
          show az_E az_F ex 2 128 45 [.retAddr 0, .retAddr 0, .int v2, .retAddr 0, .int v4, .int v5, .ref 71, .ref 67] [.int (1 : Int32)] (97, I, J, R) _
          refine az_E.br (c := (1 : Int32) = 0) (tt := 51) (ff := 48) (L' := [.retAddr 0, .retAddr 0, .int v2, .retAddr 0, .int v4, .int v5, .ref 71, .ref 67]) (S' := []) (σ' := (97, I, J, R)) rfl (fun hn => absurd hn (by decide)) (fun _ => ?_)
          refine az_E.sn 1 (pc' := 50) (L' := [.retAddr 0, .retAddr 0, .int v2, .retAddr 0, .int v4, .int v5, .ref 71, .ref 67]) (S' := [.int (-11 : Int32)]) (σ' := (97, I, J, R)) rfl ?_
          have h := Option.some.inj h
          subst h
          exact az_E.ret (v := some (.int (-11 : Int32))) (σ' := (97, I, J, R)) rfl hQ
        · rw [if_neg hc_1797] at h
          refine az_E.sn 1 (pc' := 21) (L' := [.ref 67]) (S' := [.int (0 : Int32)]) (σ' := (97, I, J, R)) rfl ?_
          refine az_E.ret (v := some (.int (0 : Int32))) (σ' := (97, I, J, R)) rfl ?_
          show az_E az_F ex 2 128 45 [.retAddr 0, .retAddr 0, .int v2, .retAddr 0, .int v4, .int v5, .ref 71, .ref 67] [.int (0 : Int32)] (97, I, J, R) _
          refine az_E.br (c := (0 : Int32) = 0) (tt := 51) (ff := 48) (L' := [.retAddr 0, .retAddr 0, .int v2, .retAddr 0, .int v4, .int v5, .ref 71, .ref 67]) (S' := []) (σ' := (97, I, J, R)) rfl (fun _ => ?_) (fun hn => absurd (by decide) hn)
          refine az_E.sn 1 (pc' := 53) (L' := [.retAddr 0, .retAddr 0, .int v2, .retAddr 0, .int v4, .int v5, .ref 71, .ref 67]) (S' := [.ref 71]) (σ' := (97, I, J, R)) rfl ?_
          refine az_E.call (d := 1) (k' := 55) (vs := [.ref 71]) (pc' := 56) (S' := []) rfl ?_ (fun _ _ hq => hq)
          show az_E az_F ex 1 55 0 [.ref 71] [] (97, I, J, R) _
          refine az_E.sn 3 (pc' := 5) (L' := [.ref 71]) (S' := [.int (-1 : Int32), .int (I 71 1)]) (σ' := (97, I, J, R)) rfl ?_
          refine az_E.br (c := (I 71 1) = (-1 : Int32)) (tt := 12) (ff := 8) (L' := [.ref 71]) (S' := []) (σ' := (97, I, J, R)) rfl (fun hc_1798 => ?_) (fun hc_1798 => ?_)
          · rw [if_pos hc_1798] at h
            refine az_E.sn 1 (pc' := 13) (L' := [.ref 71]) (S' := [.int (0 : Int32)]) (σ' := (97, I, J, R)) rfl ?_
            refine az_E.ret (v := some (.int (0 : Int32))) (σ' := (97, I, J, R)) rfl ?_
            show az_E az_F ex 2 128 56 [.retAddr 0, .retAddr 0, .int v2, .retAddr 0, .int v4, .int v5, .ref 71, .ref 67] [.int (0 : Int32)] (97, I, J, R) _
            refine az_E.br (c := (0 : Int32) = 0) (tt := 72) (ff := 59) (L' := [.retAddr 0, .retAddr 0, .int v2, .retAddr 0, .int v4, .int v5, .ref 71, .ref 67]) (S' := []) (σ' := (97, I, J, R)) rfl (fun _ => ?_) (fun hn => absurd (by decide) hn)
            refine az_E.sn 1 (pc' := 74) (L' := [.retAddr 0, .retAddr 0, .int v2, .retAddr 0, .int v4, .int v5, .ref 71, .ref 67]) (S' := [.int (-12 : Int32)]) (σ' := (97, I, J, R)) rfl ?_
            have h := Option.some.inj h
            subst h
            exact az_E.ret (v := some (.int (-12 : Int32))) (σ' := (97, I, J, R)) rfl hQ
          · rw [if_neg hc_1798] at h
            refine az_E.sn 2 (pc' := 13) (L' := [.ref 71]) (S' := [.int (1 : Int32)]) (σ' := (97, I, J, R)) rfl ?_
            refine az_E.ret (v := some (.int (1 : Int32))) (σ' := (97, I, J, R)) rfl ?_
            show az_E az_F ex 2 128 56 [.retAddr 0, .retAddr 0, .int v2, .retAddr 0, .int v4, .int v5, .ref 71, .ref 67] [.int (1 : Int32)] (97, I, J, R) _
            refine az_E.br (c := (1 : Int32) = 0) (tt := 72) (ff := 59) (L' := [.retAddr 0, .retAddr 0, .int v2, .retAddr 0, .int v4, .int v5, .ref 71, .ref 67]) (S' := []) (σ' := (97, I, J, R)) rfl (fun hn => absurd hn (by decide)) (fun _ => ?_)
            refine az_E.sn 3 (pc' := 66) (L' := [.retAddr 0, .retAddr 0, .int v2, .retAddr 0, .int v4, .int v5, .ref 71, .ref 67]) (S' := [.int (I 71 1), .ref 67]) (σ' := (97, I, J, R)) rfl ?_
            refine az_E.call (d := 1) (k' := 56) (vs := [.ref 67, .int (I 71 1)]) (pc' := 69) (S' := []) rfl ?_ (fun _ _ hq => hq)
            show az_E az_F ex 1 56 0 [.ref 67, .int (I 71 1)] [] (97, I, J, R) _
            refine az_E.sn 1 (pc' := 1) (L' := [.ref 67, .int (I 71 1)]) (S' := [.ref 67]) (σ' := (97, I, J, R)) rfl ?_
            refine az_E.call (d := 0) (k' := 55) (vs := [.ref 67]) (pc' := 4) (S' := []) rfl ?_ (fun _ _ hq => hq)
            show az_E az_F ex 0 55 0 [.ref 67] [] (97, I, J, R) _
            refine az_E.sn 3 (pc' := 5) (L' := [.ref 67]) (S' := [.int (-1 : Int32), .int (I 67 1)]) (σ' := (97, I, J, R)) rfl ?_
            refine az_E.br (c := (I 67 1) = (-1 : Int32)) (tt := 12) (ff := 8) (L' := [.ref 67]) (S' := []) (σ' := (97, I, J, R)) rfl (fun hc_1799 => ?_) (fun hc_1799 => ?_)
            · rw [if_pos hc_1799] at h
              refine az_E.sn 1 (pc' := 13) (L' := [.ref 67]) (S' := [.int (0 : Int32)]) (σ' := (97, I, J, R)) rfl ?_
              refine az_E.ret (v := some (.int (0 : Int32))) (σ' := (97, I, J, R)) rfl ?_
              show az_E az_F ex 1 56 4 [.ref 67, .int (I 71 1)] [.int (0 : Int32)] (97, I, J, R) _
              refine az_E.br (c := (0 : Int32) = 0) (tt := 19) (ff := 7) (L' := [.ref 67, .int (I 71 1)]) (S' := []) (σ' := (97, I, J, R)) rfl (fun _ => ?_) (fun hn => absurd (by decide) hn)
              refine az_E.sn 1 (pc' := 20) (L' := [.ref 67, .int (I 71 1)]) (S' := [.int (0 : Int32)]) (σ' := (97, I, J, R)) rfl ?_
              refine az_E.ret (v := some (.int (0 : Int32))) (σ' := (97, I, J, R)) rfl ?_
              show az_E az_F ex 2 128 69 [.retAddr 0, .retAddr 0, .int v2, .retAddr 0, .int v4, .int v5, .ref 71, .ref 67] [.int (0 : Int32)] (97, I, J, R) _
              refine az_E.br (c := (0 : Int32) = 0) (tt := 72) (ff := 75) (L' := [.retAddr 0, .retAddr 0, .int v2, .retAddr 0, .int v4, .int v5, .ref 71, .ref 67]) (S' := []) (σ' := (97, I, J, R)) rfl (fun _ => ?_) (fun hn => absurd (by decide) hn)
              refine az_E.sn 1 (pc' := 74) (L' := [.retAddr 0, .retAddr 0, .int v2, .retAddr 0, .int v4, .int v5, .ref 71, .ref 67]) (S' := [.int (-12 : Int32)]) (σ' := (97, I, J, R)) rfl ?_
              have h := Option.some.inj h
              subst h
              exact az_E.ret (v := some (.int (-12 : Int32))) (σ' := (97, I, J, R)) rfl hQ
            · rw [if_neg hc_1799] at h
              refine az_E.sn 2 (pc' := 13) (L' := [.ref 67]) (S' := [.int (1 : Int32)]) (σ' := (97, I, J, R)) rfl ?_
              refine az_E.ret (v := some (.int (1 : Int32))) (σ' := (97, I, J, R)) rfl ?_
              show az_E az_F ex 1 56 4 [.ref 67, .int (I 71 1)] [.int (1 : Int32)] (97, I, J, R) _
              refine az_E.br (c := (1 : Int32) = 0) (tt := 19) (ff := 7) (L' := [.ref 67, .int (I 71 1)]) (S' := []) (σ' := (97, I, J, R)) rfl (fun hn => absurd hn (by decide)) (fun _ => ?_)
              refine az_E.sn 3 (pc' := 12) (L' := [.ref 67, .int (I 71 1)]) (S' := [.int (I 71 1), .int (I 67 1)]) (σ' := (97, I, J, R)) rfl ?_
              refine az_E.br (c := (I 67 1) = (I 71 1)) (tt := 15) (ff := 19) (L' := [.ref 67, .int (I 71 1)]) (S' := []) (σ' := (97, I, J, R)) rfl (fun hc_1800 => ?_) (fun hc_1800 => ?_)
              · rw [if_pos hc_1800] at h
                refine az_E.sn 2 (pc' := 20) (L' := [.ref 67, .int (I 71 1)]) (S' := [.int (1 : Int32)]) (σ' := (97, I, J, R)) rfl ?_
                refine az_E.ret (v := some (.int (1 : Int32))) (σ' := (97, I, J, R)) rfl ?_
                show az_E az_F ex 2 128 69 [.retAddr 0, .retAddr 0, .int v2, .retAddr 0, .int v4, .int v5, .ref 71, .ref 67] [.int (1 : Int32)] (97, I, J, R) _
                refine az_E.br (c := (1 : Int32) = 0) (tt := 72) (ff := 75) (L' := [.retAddr 0, .retAddr 0, .int v2, .retAddr 0, .int v4, .int v5, .ref 71, .ref 67]) (S' := []) (σ' := (97, I, J, R)) rfl (fun hn => absurd hn (by decide)) (fun _ => ?_)
                refine az_E.sn 3 (pc' := 80) (L' := [.retAddr 0, .retAddr 0, .int v2, .retAddr 0, .int v4, .int v5, .ref 71, .ref 67]) (S' := [.int v5, .int v2, .ref 71]) (σ' := (97, I, J, R)) rfl ?_
                refine az_E.call (d := 1) (k' := 60) (vs := [.ref 71, .int v2, .int v5]) (pc' := 83) (S' := []) rfl ?_ (fun _ _ hq => hq)
                show az_E az_F ex 1 60 0 [.ref 71, .int v2, .int v5] [] (97, I, J, R) _
                refine az_E.sn 1 (pc' := 1) (L' := [.ref 71, .int v2, .int v5]) (S' := [.int v2]) (σ' := (97, I, J, R)) rfl ?_
                refine az_E.br (c := v2 < 0) (tt := 30) (ff := 4) (L' := [.ref 71, .int v2, .int v5]) (S' := []) (σ' := (97, I, J, R)) rfl (fun hc_1801 => ?_) (fun hc_1801 => ?_)
                · rw [if_pos hc_1801] at h
                  refine az_E.sn 1 (pc' := 31) (L' := [.ref 71, .int v2, .int v5]) (S' := [.int (0 : Int32)]) (σ' := (97, I, J, R)) rfl ?_
                  refine az_E.ret (v := some (.int (0 : Int32))) (σ' := (97, I, J, R)) rfl ?_
                  show az_E az_F ex 2 128 83 [.retAddr 0, .retAddr 0, .int v2, .retAddr 0, .int v4, .int v5, .ref 71, .ref 67] [.int (0 : Int32)] (97, I, J, R) _
                  refine az_E.br (c := (0 : Int32) = 0) (tt := 98) (ff := 86) (L' := [.retAddr 0, .retAddr 0, .int v2, .retAddr 0, .int v4, .int v5, .ref 71, .ref 67]) (S' := []) (σ' := (97, I, J, R)) rfl (fun _ => ?_) (fun hn => absurd (by decide) hn)
                  refine az_E.sn 1 (pc' := 100) (L' := [.retAddr 0, .retAddr 0, .int v2, .retAddr 0, .int v4, .int v5, .ref 71, .ref 67]) (S' := [.int (-13 : Int32)]) (σ' := (97, I, J, R)) rfl ?_
                  have h := Option.some.inj h
                  subst h
                  exact az_E.ret (v := some (.int (-13 : Int32))) (σ' := (97, I, J, R)) rfl hQ
                · rw [if_neg hc_1801] at h
                  refine az_E.sn 1 (pc' := 5) (L' := [.ref 71, .int v2, .int v5]) (S' := [.int v5]) (σ' := (97, I, J, R)) rfl ?_
                  refine az_E.br (c := v5 < 0) (tt := 30) (ff := 8) (L' := [.ref 71, .int v2, .int v5]) (S' := []) (σ' := (97, I, J, R)) rfl (fun hc_1802 => ?_) (fun hc_1802 => ?_)
                  · rw [if_pos hc_1802] at h
                    refine az_E.sn 1 (pc' := 31) (L' := [.ref 71, .int v2, .int v5]) (S' := [.int (0 : Int32)]) (σ' := (97, I, J, R)) rfl ?_
                    refine az_E.ret (v := some (.int (0 : Int32))) (σ' := (97, I, J, R)) rfl ?_
                    show az_E az_F ex 2 128 83 [.retAddr 0, .retAddr 0, .int v2, .retAddr 0, .int v4, .int v5, .ref 71, .ref 67] [.int (0 : Int32)] (97, I, J, R) _
                    refine az_E.br (c := (0 : Int32) = 0) (tt := 98) (ff := 86) (L' := [.retAddr 0, .retAddr 0, .int v2, .retAddr 0, .int v4, .int v5, .ref 71, .ref 67]) (S' := []) (σ' := (97, I, J, R)) rfl (fun _ => ?_) (fun hn => absurd (by decide) hn)
                    refine az_E.sn 1 (pc' := 100) (L' := [.retAddr 0, .retAddr 0, .int v2, .retAddr 0, .int v4, .int v5, .ref 71, .ref 67]) (S' := [.int (-13 : Int32)]) (σ' := (97, I, J, R)) rfl ?_
                    have h := Option.some.inj h
                    subst h
                    exact az_E.ret (v := some (.int (-13 : Int32))) (σ' := (97, I, J, R)) rfl hQ
                  · rw [if_neg hc_1802] at h
                    refine az_E.sn 3 (pc' := 13) (L' := [.ref 71, .int v2, .int v5]) (S' := [.int (I 71 2), .int v2]) (σ' := (97, I, J, R)) rfl ?_
                    refine az_E.br (c := (I 71 2) < v2) (tt := 30) (ff := 16) (L' := [.ref 71, .int v2, .int v5]) (S' := []) (σ' := (97, I, J, R)) rfl (fun hc_1803 => ?_) (fun hc_1803 => ?_)
                    · rw [if_pos hc_1803] at h
                      refine az_E.sn 1 (pc' := 31) (L' := [.ref 71, .int v2, .int v5]) (S' := [.int (0 : Int32)]) (σ' := (97, I, J, R)) rfl ?_
                      refine az_E.ret (v := some (.int (0 : Int32))) (σ' := (97, I, J, R)) rfl ?_
                      show az_E az_F ex 2 128 83 [.retAddr 0, .retAddr 0, .int v2, .retAddr 0, .int v4, .int v5, .ref 71, .ref 67] [.int (0 : Int32)] (97, I, J, R) _
                      refine az_E.br (c := (0 : Int32) = 0) (tt := 98) (ff := 86) (L' := [.retAddr 0, .retAddr 0, .int v2, .retAddr 0, .int v4, .int v5, .ref 71, .ref 67]) (S' := []) (σ' := (97, I, J, R)) rfl (fun _ => ?_) (fun hn => absurd (by decide) hn)
                      refine az_E.sn 1 (pc' := 100) (L' := [.retAddr 0, .retAddr 0, .int v2, .retAddr 0, .int v4, .int v5, .ref 71, .ref 67]) (S' := [.int (-13 : Int32)]) (σ' := (97, I, J, R)) rfl ?_
                      have h := Option.some.inj h
                      subst h
                      exact az_E.ret (v := some (.int (-13 : Int32))) (σ' := (97, I, J, R)) rfl hQ
                    · rw [if_neg hc_1803] at h
                      refine az_E.sn 5 (pc' := 23) (L' := [.ref 71, .int v2, .int v5]) (S' := [.int ((I 71 2) - v2), .int v5]) (σ' := (97, I, J, R)) rfl ?_
                      refine az_E.br (c := ((I 71 2) - v2) < v5) (tt := 30) (ff := 26) (L' := [.ref 71, .int v2, .int v5]) (S' := []) (σ' := (97, I, J, R)) rfl (fun hc_1804 => ?_) (fun hc_1804 => ?_)
                      · rw [if_pos hc_1804] at h
                        refine az_E.sn 1 (pc' := 31) (L' := [.ref 71, .int v2, .int v5]) (S' := [.int (0 : Int32)]) (σ' := (97, I, J, R)) rfl ?_
                        refine az_E.ret (v := some (.int (0 : Int32))) (σ' := (97, I, J, R)) rfl ?_
                        show az_E az_F ex 2 128 83 [.retAddr 0, .retAddr 0, .int v2, .retAddr 0, .int v4, .int v5, .ref 71, .ref 67] [.int (0 : Int32)] (97, I, J, R) _
                        refine az_E.br (c := (0 : Int32) = 0) (tt := 98) (ff := 86) (L' := [.retAddr 0, .retAddr 0, .int v2, .retAddr 0, .int v4, .int v5, .ref 71, .ref 67]) (S' := []) (σ' := (97, I, J, R)) rfl (fun _ => ?_) (fun hn => absurd (by decide) hn)
                        refine az_E.sn 1 (pc' := 100) (L' := [.retAddr 0, .retAddr 0, .int v2, .retAddr 0, .int v4, .int v5, .ref 71, .ref 67]) (S' := [.int (-13 : Int32)]) (σ' := (97, I, J, R)) rfl ?_
                        have h := Option.some.inj h
                        subst h
                        exact az_E.ret (v := some (.int (-13 : Int32))) (σ' := (97, I, J, R)) rfl hQ
                      · rw [if_neg hc_1804] at h
                        refine az_E.sn 2 (pc' := 31) (L' := [.ref 71, .int v2, .int v5]) (S' := [.int (1 : Int32)]) (σ' := (97, I, J, R)) rfl ?_
                        refine az_E.ret (v := some (.int (1 : Int32))) (σ' := (97, I, J, R)) rfl ?_
                        show az_E az_F ex 2 128 83 [.retAddr 0, .retAddr 0, .int v2, .retAddr 0, .int v4, .int v5, .ref 71, .ref 67] [.int (1 : Int32)] (97, I, J, R) _
                        refine az_E.br (c := (1 : Int32) = 0) (tt := 98) (ff := 86) (L' := [.retAddr 0, .retAddr 0, .int v2, .retAddr 0, .int v4, .int v5, .ref 71, .ref 67]) (S' := []) (σ' := (97, I, J, R)) rfl (fun hn => absurd hn (by decide)) (fun _ => ?_)
                        refine az_E.sn 3 (pc' := 92) (L' := [.retAddr 0, .retAddr 0, .int v2, .retAddr 0, .int v4, .int v5, .ref 71, .ref 67]) (S' := [.int v5, .int v4, .ref 67]) (σ' := (97, I, J, R)) rfl ?_
                        refine az_E.call (d := 1) (k' := 60) (vs := [.ref 67, .int v4, .int v5]) (pc' := 95) (S' := []) rfl ?_ (fun _ _ hq => hq)
                        show az_E az_F ex 1 60 0 [.ref 67, .int v4, .int v5] [] (97, I, J, R) _
                        refine az_E.sn 1 (pc' := 1) (L' := [.ref 67, .int v4, .int v5]) (S' := [.int v4]) (σ' := (97, I, J, R)) rfl ?_
                        refine az_E.br (c := v4 < 0) (tt := 30) (ff := 4) (L' := [.ref 67, .int v4, .int v5]) (S' := []) (σ' := (97, I, J, R)) rfl (fun hc_1805 => ?_) (fun hc_1805 => ?_)
                        · rw [if_pos hc_1805] at h
                          refine az_E.sn 1 (pc' := 31) (L' := [.ref 67, .int v4, .int v5]) (S' := [.int (0 : Int32)]) (σ' := (97, I, J, R)) rfl ?_
                          refine az_E.ret (v := some (.int (0 : Int32))) (σ' := (97, I, J, R)) rfl ?_
                          show az_E az_F ex 2 128 95 [.retAddr 0, .retAddr 0, .int v2, .retAddr 0, .int v4, .int v5, .ref 71, .ref 67] [.int (0 : Int32)] (97, I, J, R) _
                          refine az_E.br (c := (0 : Int32) = 0) (tt := 98) (ff := 101) (L' := [.retAddr 0, .retAddr 0, .int v2, .retAddr 0, .int v4, .int v5, .ref 71, .ref 67]) (S' := []) (σ' := (97, I, J, R)) rfl (fun _ => ?_) (fun hn => absurd (by decide) hn)
                          refine az_E.sn 1 (pc' := 100) (L' := [.retAddr 0, .retAddr 0, .int v2, .retAddr 0, .int v4, .int v5, .ref 71, .ref 67]) (S' := [.int (-13 : Int32)]) (σ' := (97, I, J, R)) rfl ?_
                          have h := Option.some.inj h
                          subst h
                          exact az_E.ret (v := some (.int (-13 : Int32))) (σ' := (97, I, J, R)) rfl hQ
                        · rw [if_neg hc_1805] at h
                          refine az_E.sn 1 (pc' := 5) (L' := [.ref 67, .int v4, .int v5]) (S' := [.int v5]) (σ' := (97, I, J, R)) rfl ?_
                          refine az_E.br (c := v5 < 0) (tt := 30) (ff := 8) (L' := [.ref 67, .int v4, .int v5]) (S' := []) (σ' := (97, I, J, R)) rfl (fun hc_1806 => ?_) (fun hc_1806 => ?_)
                          · rw [if_pos hc_1806] at h
                            refine az_E.sn 1 (pc' := 31) (L' := [.ref 67, .int v4, .int v5]) (S' := [.int (0 : Int32)]) (σ' := (97, I, J, R)) rfl ?_
                            refine az_E.ret (v := some (.int (0 : Int32))) (σ' := (97, I, J, R)) rfl ?_
                            show az_E az_F ex 2 128 95 [.retAddr 0, .retAddr 0, .int v2, .retAddr 0, .int v4, .int v5, .ref 71, .ref 67] [.int (0 : Int32)] (97, I, J, R) _
                            refine az_E.br (c := (0 : Int32) = 0) (tt := 98) (ff := 101) (L' := [.retAddr 0, .retAddr 0, .int v2, .retAddr 0, .int v4, .int v5, .ref 71, .ref 67]) (S' := []) (σ' := (97, I, J, R)) rfl (fun _ => ?_) (fun hn => absurd (by decide) hn)
                            refine az_E.sn 1 (pc' := 100) (L' := [.retAddr 0, .retAddr 0, .int v2, .retAddr 0, .int v4, .int v5, .ref 71, .ref 67]) (S' := [.int (-13 : Int32)]) (σ' := (97, I, J, R)) rfl ?_
                            have h := Option.some.inj h
                            subst h
                            exact az_E.ret (v := some (.int (-13 : Int32))) (σ' := (97, I, J, R)) rfl hQ
                          · rw [if_neg hc_1806] at h
                            refine az_E.sn 3 (pc' := 13) (L' := [.ref 67, .int v4, .int v5]) (S' := [.int (I 67 2), .int v4]) (σ' := (97, I, J, R)) rfl ?_
                            refine az_E.br (c := (I 67 2) < v4) (tt := 30) (ff := 16) (L' := [.ref 67, .int v4, .int v5]) (S' := []) (σ' := (97, I, J, R)) rfl (fun hc_1807 => ?_) (fun hc_1807 => ?_)
                            · rw [if_pos hc_1807] at h
                              refine az_E.sn 1 (pc' := 31) (L' := [.ref 67, .int v4, .int v5]) (S' := [.int (0 : Int32)]) (σ' := (97, I, J, R)) rfl ?_
                              refine az_E.ret (v := some (.int (0 : Int32))) (σ' := (97, I, J, R)) rfl ?_
                              show az_E az_F ex 2 128 95 [.retAddr 0, .retAddr 0, .int v2, .retAddr 0, .int v4, .int v5, .ref 71, .ref 67] [.int (0 : Int32)] (97, I, J, R) _
                              refine az_E.br (c := (0 : Int32) = 0) (tt := 98) (ff := 101) (L' := [.retAddr 0, .retAddr 0, .int v2, .retAddr 0, .int v4, .int v5, .ref 71, .ref 67]) (S' := []) (σ' := (97, I, J, R)) rfl (fun _ => ?_) (fun hn => absurd (by decide) hn)
                              refine az_E.sn 1 (pc' := 100) (L' := [.retAddr 0, .retAddr 0, .int v2, .retAddr 0, .int v4, .int v5, .ref 71, .ref 67]) (S' := [.int (-13 : Int32)]) (σ' := (97, I, J, R)) rfl ?_
                              have h := Option.some.inj h
                              subst h
                              exact az_E.ret (v := some (.int (-13 : Int32))) (σ' := (97, I, J, R)) rfl hQ
                            · rw [if_neg hc_1807] at h
                              refine az_E.sn 5 (pc' := 23) (L' := [.ref 67, .int v4, .int v5]) (S' := [.int ((I 67 2) - v4), .int v5]) (σ' := (97, I, J, R)) rfl ?_
                              refine az_E.br (c := ((I 67 2) - v4) < v5) (tt := 30) (ff := 26) (L' := [.ref 67, .int v4, .int v5]) (S' := []) (σ' := (97, I, J, R)) rfl (fun hc_1808 => ?_) (fun hc_1808 => ?_)
                              · rw [if_pos hc_1808] at h
                                refine az_E.sn 1 (pc' := 31) (L' := [.ref 67, .int v4, .int v5]) (S' := [.int (0 : Int32)]) (σ' := (97, I, J, R)) rfl ?_
                                refine az_E.ret (v := some (.int (0 : Int32))) (σ' := (97, I, J, R)) rfl ?_
                                show az_E az_F ex 2 128 95 [.retAddr 0, .retAddr 0, .int v2, .retAddr 0, .int v4, .int v5, .ref 71, .ref 67] [.int (0 : Int32)] (97, I, J, R) _
                                refine az_E.br (c := (0 : Int32) = 0) (tt := 98) (ff := 101) (L' := [.retAddr 0, .retAddr 0, .int v2, .retAddr 0, .int v4, .int v5, .ref 71, .ref 67]) (S' := []) (σ' := (97, I, J, R)) rfl (fun _ => ?_) (fun hn => absurd (by decide) hn)
                                refine az_E.sn 1 (pc' := 100) (L' := [.retAddr 0, .retAddr 0, .int v2, .retAddr 0, .int v4, .int v5, .ref 71, .ref 67]) (S' := [.int (-13 : Int32)]) (σ' := (97, I, J, R)) rfl ?_
                                have h := Option.some.inj h
                                subst h
                                exact az_E.ret (v := some (.int (-13 : Int32))) (σ' := (97, I, J, R)) rfl hQ
                              · rw [if_neg hc_1808] at h
                                refine az_E.sn 2 (pc' := 31) (L' := [.ref 67, .int v4, .int v5]) (S' := [.int (1 : Int32)]) (σ' := (97, I, J, R)) rfl ?_
                                refine az_E.ret (v := some (.int (1 : Int32))) (σ' := (97, I, J, R)) rfl ?_
                                show az_E az_F ex 2 128 95 [.retAddr 0, .retAddr 0, .int v2, .retAddr 0, .int v4, .int v5, .ref 71, .ref 67] [.int (1 : Int32)] (97, I, J, R) _
                                refine az_E.br (c := (1 : Int32) = 0) (tt := 98) (ff := 101) (L' := [.retAddr 0, .retAddr 0, .int v2, .retAddr 0, .int v4, .int v5, .ref 71, .ref 67]) (S' := []) (σ' := (97, I, J, R)) rfl (fun hn => absurd hn (by decide)) (fun _ => ?_)
                                refine az_E.sn 7 (pc' := 116) (L' := [.retAddr 0, .retAddr 0, .int v2, .retAddr 0, .int v4, .int v5, .ref 71, .ref 67]) (S' := [.int v5, .int v4, .ref (67 + 1), .int v2, .ref (71 + 1)]) (σ' := (97, I, J, R)) rfl ?_
                                by_cases hc_1809 : v2 < 0 ∨ v4 < 0 ∨ v5 < 0 ∨ 60 < v2.toNatClampNeg + v5.toNatClampNeg ∨ 60 < v4.toNatClampNeg + v5.toNatClampNeg
                                · rw [if_pos hc_1809] at h; cases h
                                · rw [if_neg hc_1809] at h
                                  refine az_E.o (o := az_cp az_F (97, I, J, R) (71 + 1) v2 (67 + 1) v4 v5) (pc' := 119) (L' := [.retAddr 0, .retAddr 0, .int v2, .retAddr 0, .int v4, .int v5, .ref 71, .ref 67]) (S' := []) (x := (97, I, (az_ur J (67 + 1) (va_cpy (J (71 + 1)) (J (67 + 1)) v2.toNatClampNeg v4.toNatClampNeg v5.toNatClampNeg)), R)) rfl (if_neg hc_1809) ?_
                                  refine az_E.sn 1 (pc' := 121) (L' := [.retAddr 0, .retAddr 0, .int v2, .retAddr 0, .int v4, .int v5, .ref 71, .ref 67]) (S' := [.int v5]) (σ' := (97, I, (az_ur J (67 + 1) (va_cpy (J (71 + 1)) (J (67 + 1)) v2.toNatClampNeg v4.toNatClampNeg v5.toNatClampNeg)), R)) rfl ?_
                                  have h := Option.some.inj h
                                  subst h
                                  exact az_E.ret (v := some (.int v5)) (σ' := (97, I, (az_ur J (67 + 1) (va_cpy (J (71 + 1)) (J (67 + 1)) v2.toNatClampNeg v4.toNatClampNeg v5.toNatClampNeg)), R)) rfl hQ
              · rw [if_neg hc_1800] at h
                refine az_E.sn 1 (pc' := 20) (L' := [.ref 67, .int (I 71 1)]) (S' := [.int (0 : Int32)]) (σ' := (97, I, J, R)) rfl ?_
                refine az_E.ret (v := some (.int (0 : Int32))) (σ' := (97, I, J, R)) rfl ?_
                show az_E az_F ex 2 128 69 [.retAddr 0, .retAddr 0, .int v2, .retAddr 0, .int v4, .int v5, .ref 71, .ref 67] [.int (0 : Int32)] (97, I, J, R) _
                refine az_E.br (c := (0 : Int32) = 0) (tt := 72) (ff := 75) (L' := [.retAddr 0, .retAddr 0, .int v2, .retAddr 0, .int v4, .int v5, .ref 71, .ref 67]) (S' := []) (σ' := (97, I, J, R)) rfl (fun _ => ?_) (fun hn => absurd (by decide) hn)
                refine az_E.sn 1 (pc' := 74) (L' := [.retAddr 0, .retAddr 0, .int v2, .retAddr 0, .int v4, .int v5, .ref 71, .ref 67]) (S' := [.int (-12 : Int32)]) (σ' := (97, I, J, R)) rfl ?_
                have h := Option.some.inj h
                subst h
                exact az_E.ret (v := some (.int (-12 : Int32))) (σ' := (97, I, J, R)) rfl hQ
      · rw [if_neg hc_1796] at h
        refine az_E.sn 1 (pc' := 21) (L' := [.ref 67]) (S' := [.int (0 : Int32)]) (σ' := (97, I, J, R)) rfl ?_
        refine az_E.ret (v := some (.int (0 : Int32))) (σ' := (97, I, J, R)) rfl ?_
        show az_E az_F ex 2 128 45 [.retAddr 0, .retAddr 0, .int v2, .retAddr 0, .int v4, .int v5, .ref 71, .ref 67] [.int (0 : Int32)] (97, I, J, R) _
        refine az_E.br (c := (0 : Int32) = 0) (tt := 51) (ff := 48) (L' := [.retAddr 0, .retAddr 0, .int v2, .retAddr 0, .int v4, .int v5, .ref 71, .ref 67]) (S' := []) (σ' := (97, I, J, R)) rfl (fun _ => ?_) (fun hn => absurd (by decide) hn)
        refine az_E.sn 1 (pc' := 53) (L' := [.retAddr 0, .retAddr 0, .int v2, .retAddr 0, .int v4, .int v5, .ref 71, .ref 67]) (S' := [.ref 71]) (σ' := (97, I, J, R)) rfl ?_
        refine az_E.call (d := 1) (k' := 55) (vs := [.ref 71]) (pc' := 56) (S' := []) rfl ?_ (fun _ _ hq => hq)
        show az_E az_F ex 1 55 0 [.ref 71] [] (97, I, J, R) _
        refine az_E.sn 3 (pc' := 5) (L' := [.ref 71]) (S' := [.int (-1 : Int32), .int (I 71 1)]) (σ' := (97, I, J, R)) rfl ?_
        refine az_E.br (c := (I 71 1) = (-1 : Int32)) (tt := 12) (ff := 8) (L' := [.ref 71]) (S' := []) (σ' := (97, I, J, R)) rfl (fun hc_1810 => ?_) (fun hc_1810 => ?_)
        · rw [if_pos hc_1810] at h
          refine az_E.sn 1 (pc' := 13) (L' := [.ref 71]) (S' := [.int (0 : Int32)]) (σ' := (97, I, J, R)) rfl ?_
          refine az_E.ret (v := some (.int (0 : Int32))) (σ' := (97, I, J, R)) rfl ?_
          show az_E az_F ex 2 128 56 [.retAddr 0, .retAddr 0, .int v2, .retAddr 0, .int v4, .int v5, .ref 71, .ref 67] [.int (0 : Int32)] (97, I, J, R) _
          refine az_E.br (c := (0 : Int32) = 0) (tt := 72) (ff := 59) (L' := [.retAddr 0, .retAddr 0, .int v2, .retAddr 0, .int v4, .int v5, .ref 71, .ref 67]) (S' := []) (σ' := (97, I, J, R)) rfl (fun _ => ?_) (fun hn => absurd (by decide) hn)
          refine az_E.sn 1 (pc' := 74) (L' := [.retAddr 0, .retAddr 0, .int v2, .retAddr 0, .int v4, .int v5, .ref 71, .ref 67]) (S' := [.int (-12 : Int32)]) (σ' := (97, I, J, R)) rfl ?_
          have h := Option.some.inj h
          subst h
          exact az_E.ret (v := some (.int (-12 : Int32))) (σ' := (97, I, J, R)) rfl hQ
        · rw [if_neg hc_1810] at h
          refine az_E.sn 2 (pc' := 13) (L' := [.ref 71]) (S' := [.int (1 : Int32)]) (σ' := (97, I, J, R)) rfl ?_
          refine az_E.ret (v := some (.int (1 : Int32))) (σ' := (97, I, J, R)) rfl ?_
          show az_E az_F ex 2 128 56 [.retAddr 0, .retAddr 0, .int v2, .retAddr 0, .int v4, .int v5, .ref 71, .ref 67] [.int (1 : Int32)] (97, I, J, R) _
          refine az_E.br (c := (1 : Int32) = 0) (tt := 72) (ff := 59) (L' := [.retAddr 0, .retAddr 0, .int v2, .retAddr 0, .int v4, .int v5, .ref 71, .ref 67]) (S' := []) (σ' := (97, I, J, R)) rfl (fun hn => absurd hn (by decide)) (fun _ => ?_)
          refine az_E.sn 3 (pc' := 66) (L' := [.retAddr 0, .retAddr 0, .int v2, .retAddr 0, .int v4, .int v5, .ref 71, .ref 67]) (S' := [.int (I 71 1), .ref 67]) (σ' := (97, I, J, R)) rfl ?_
          refine az_E.call (d := 1) (k' := 56) (vs := [.ref 67, .int (I 71 1)]) (pc' := 69) (S' := []) rfl ?_ (fun _ _ hq => hq)
          show az_E az_F ex 1 56 0 [.ref 67, .int (I 71 1)] [] (97, I, J, R) _
          refine az_E.sn 1 (pc' := 1) (L' := [.ref 67, .int (I 71 1)]) (S' := [.ref 67]) (σ' := (97, I, J, R)) rfl ?_
          refine az_E.call (d := 0) (k' := 55) (vs := [.ref 67]) (pc' := 4) (S' := []) rfl ?_ (fun _ _ hq => hq)
          show az_E az_F ex 0 55 0 [.ref 67] [] (97, I, J, R) _
          refine az_E.sn 3 (pc' := 5) (L' := [.ref 67]) (S' := [.int (-1 : Int32), .int (I 67 1)]) (σ' := (97, I, J, R)) rfl ?_
          refine az_E.br (c := (I 67 1) = (-1 : Int32)) (tt := 12) (ff := 8) (L' := [.ref 67]) (S' := []) (σ' := (97, I, J, R)) rfl (fun hc_1811 => ?_) (fun hc_1811 => ?_)
          · rw [if_pos hc_1811] at h
            refine az_E.sn 1 (pc' := 13) (L' := [.ref 67]) (S' := [.int (0 : Int32)]) (σ' := (97, I, J, R)) rfl ?_
            refine az_E.ret (v := some (.int (0 : Int32))) (σ' := (97, I, J, R)) rfl ?_
            show az_E az_F ex 1 56 4 [.ref 67, .int (I 71 1)] [.int (0 : Int32)] (97, I, J, R) _
            refine az_E.br (c := (0 : Int32) = 0) (tt := 19) (ff := 7) (L' := [.ref 67, .int (I 71 1)]) (S' := []) (σ' := (97, I, J, R)) rfl (fun _ => ?_) (fun hn => absurd (by decide) hn)
            refine az_E.sn 1 (pc' := 20) (L' := [.ref 67, .int (I 71 1)]) (S' := [.int (0 : Int32)]) (σ' := (97, I, J, R)) rfl ?_
            refine az_E.ret (v := some (.int (0 : Int32))) (σ' := (97, I, J, R)) rfl ?_
            show az_E az_F ex 2 128 69 [.retAddr 0, .retAddr 0, .int v2, .retAddr 0, .int v4, .int v5, .ref 71, .ref 67] [.int (0 : Int32)] (97, I, J, R) _
            refine az_E.br (c := (0 : Int32) = 0) (tt := 72) (ff := 75) (L' := [.retAddr 0, .retAddr 0, .int v2, .retAddr 0, .int v4, .int v5, .ref 71, .ref 67]) (S' := []) (σ' := (97, I, J, R)) rfl (fun _ => ?_) (fun hn => absurd (by decide) hn)
            refine az_E.sn 1 (pc' := 74) (L' := [.retAddr 0, .retAddr 0, .int v2, .retAddr 0, .int v4, .int v5, .ref 71, .ref 67]) (S' := [.int (-12 : Int32)]) (σ' := (97, I, J, R)) rfl ?_
            have h := Option.some.inj h
            subst h
            exact az_E.ret (v := some (.int (-12 : Int32))) (σ' := (97, I, J, R)) rfl hQ
          · rw [if_neg hc_1811] at h
            refine az_E.sn 2 (pc' := 13) (L' := [.ref 67]) (S' := [.int (1 : Int32)]) (σ' := (97, I, J, R)) rfl ?_
            refine az_E.ret (v := some (.int (1 : Int32))) (σ' := (97, I, J, R)) rfl ?_
            show az_E az_F ex 1 56 4 [.ref 67, .int (I 71 1)] [.int (1 : Int32)] (97, I, J, R) _
            refine az_E.br (c := (1 : Int32) = 0) (tt := 19) (ff := 7) (L' := [.ref 67, .int (I 71 1)]) (S' := []) (σ' := (97, I, J, R)) rfl (fun hn => absurd hn (by decide)) (fun _ => ?_)
            refine az_E.sn 3 (pc' := 12) (L' := [.ref 67, .int (I 71 1)]) (S' := [.int (I 71 1), .int (I 67 1)]) (σ' := (97, I, J, R)) rfl ?_
            refine az_E.br (c := (I 67 1) = (I 71 1)) (tt := 15) (ff := 19) (L' := [.ref 67, .int (I 71 1)]) (S' := []) (σ' := (97, I, J, R)) rfl (fun hc_1812 => ?_) (fun hc_1812 => ?_)
            · rw [if_pos hc_1812] at h
              refine az_E.sn 2 (pc' := 20) (L' := [.ref 67, .int (I 71 1)]) (S' := [.int (1 : Int32)]) (σ' := (97, I, J, R)) rfl ?_
              refine az_E.ret (v := some (.int (1 : Int32))) (σ' := (97, I, J, R)) rfl ?_
              show az_E az_F ex 2 128 69 [.retAddr 0, .retAddr 0, .int v2, .retAddr 0, .int v4, .int v5, .ref 71, .ref 67] [.int (1 : Int32)] (97, I, J, R) _
              refine az_E.br (c := (1 : Int32) = 0) (tt := 72) (ff := 75) (L' := [.retAddr 0, .retAddr 0, .int v2, .retAddr 0, .int v4, .int v5, .ref 71, .ref 67]) (S' := []) (σ' := (97, I, J, R)) rfl (fun hn => absurd hn (by decide)) (fun _ => ?_)
              refine az_E.sn 3 (pc' := 80) (L' := [.retAddr 0, .retAddr 0, .int v2, .retAddr 0, .int v4, .int v5, .ref 71, .ref 67]) (S' := [.int v5, .int v2, .ref 71]) (σ' := (97, I, J, R)) rfl ?_
              refine az_E.call (d := 1) (k' := 60) (vs := [.ref 71, .int v2, .int v5]) (pc' := 83) (S' := []) rfl ?_ (fun _ _ hq => hq)
              show az_E az_F ex 1 60 0 [.ref 71, .int v2, .int v5] [] (97, I, J, R) _
              refine az_E.sn 1 (pc' := 1) (L' := [.ref 71, .int v2, .int v5]) (S' := [.int v2]) (σ' := (97, I, J, R)) rfl ?_
              refine az_E.br (c := v2 < 0) (tt := 30) (ff := 4) (L' := [.ref 71, .int v2, .int v5]) (S' := []) (σ' := (97, I, J, R)) rfl (fun hc_1813 => ?_) (fun hc_1813 => ?_)
              · rw [if_pos hc_1813] at h
                refine az_E.sn 1 (pc' := 31) (L' := [.ref 71, .int v2, .int v5]) (S' := [.int (0 : Int32)]) (σ' := (97, I, J, R)) rfl ?_
                refine az_E.ret (v := some (.int (0 : Int32))) (σ' := (97, I, J, R)) rfl ?_
                show az_E az_F ex 2 128 83 [.retAddr 0, .retAddr 0, .int v2, .retAddr 0, .int v4, .int v5, .ref 71, .ref 67] [.int (0 : Int32)] (97, I, J, R) _
                refine az_E.br (c := (0 : Int32) = 0) (tt := 98) (ff := 86) (L' := [.retAddr 0, .retAddr 0, .int v2, .retAddr 0, .int v4, .int v5, .ref 71, .ref 67]) (S' := []) (σ' := (97, I, J, R)) rfl (fun _ => ?_) (fun hn => absurd (by decide) hn)
                refine az_E.sn 1 (pc' := 100) (L' := [.retAddr 0, .retAddr 0, .int v2, .retAddr 0, .int v4, .int v5, .ref 71, .ref 67]) (S' := [.int (-13 : Int32)]) (σ' := (97, I, J, R)) rfl ?_
                have h := Option.some.inj h
                subst h
                exact az_E.ret (v := some (.int (-13 : Int32))) (σ' := (97, I, J, R)) rfl hQ
              · rw [if_neg hc_1813] at h
                refine az_E.sn 1 (pc' := 5) (L' := [.ref 71, .int v2, .int v5]) (S' := [.int v5]) (σ' := (97, I, J, R)) rfl ?_
                refine az_E.br (c := v5 < 0) (tt := 30) (ff := 8) (L' := [.ref 71, .int v2, .int v5]) (S' := []) (σ' := (97, I, J, R)) rfl (fun hc_1814 => ?_) (fun hc_1814 => ?_)
                · rw [if_pos hc_1814] at h
                  refine az_E.sn 1 (pc' := 31) (L' := [.ref 71, .int v2, .int v5]) (S' := [.int (0 : Int32)]) (σ' := (97, I, J, R)) rfl ?_
                  refine az_E.ret (v := some (.int (0 : Int32))) (σ' := (97, I, J, R)) rfl ?_
                  show az_E az_F ex 2 128 83 [.retAddr 0, .retAddr 0, .int v2, .retAddr 0, .int v4, .int v5, .ref 71, .ref 67] [.int (0 : Int32)] (97, I, J, R) _
                  refine az_E.br (c := (0 : Int32) = 0) (tt := 98) (ff := 86) (L' := [.retAddr 0, .retAddr 0, .int v2, .retAddr 0, .int v4, .int v5, .ref 71, .ref 67]) (S' := []) (σ' := (97, I, J, R)) rfl (fun _ => ?_) (fun hn => absurd (by decide) hn)
                  refine az_E.sn 1 (pc' := 100) (L' := [.retAddr 0, .retAddr 0, .int v2, .retAddr 0, .int v4, .int v5, .ref 71, .ref 67]) (S' := [.int (-13 : Int32)]) (σ' := (97, I, J, R)) rfl ?_
                  have h := Option.some.inj h
                  subst h
                  exact az_E.ret (v := some (.int (-13 : Int32))) (σ' := (97, I, J, R)) rfl hQ
                · rw [if_neg hc_1814] at h
                  refine az_E.sn 3 (pc' := 13) (L' := [.ref 71, .int v2, .int v5]) (S' := [.int (I 71 2), .int v2]) (σ' := (97, I, J, R)) rfl ?_
                  refine az_E.br (c := (I 71 2) < v2) (tt := 30) (ff := 16) (L' := [.ref 71, .int v2, .int v5]) (S' := []) (σ' := (97, I, J, R)) rfl (fun hc_1815 => ?_) (fun hc_1815 => ?_)
                  · rw [if_pos hc_1815] at h
                    refine az_E.sn 1 (pc' := 31) (L' := [.ref 71, .int v2, .int v5]) (S' := [.int (0 : Int32)]) (σ' := (97, I, J, R)) rfl ?_
                    refine az_E.ret (v := some (.int (0 : Int32))) (σ' := (97, I, J, R)) rfl ?_
                    show az_E az_F ex 2 128 83 [.retAddr 0, .retAddr 0, .int v2, .retAddr 0, .int v4, .int v5, .ref 71, .ref 67] [.int (0 : Int32)] (97, I, J, R) _
                    refine az_E.br (c := (0 : Int32) = 0) (tt := 98) (ff := 86) (L' := [.retAddr 0, .retAddr 0, .int v2, .retAddr 0, .int v4, .int v5, .ref 71, .ref 67]) (S' := []) (σ' := (97, I, J, R)) rfl (fun _ => ?_) (fun hn => absurd (by decide) hn)
                    refine az_E.sn 1 (pc' := 100) (L' := [.retAddr 0, .retAddr 0, .int v2, .retAddr 0, .int v4, .int v5, .ref 71, .ref 67]) (S' := [.int (-13 : Int32)]) (σ' := (97, I, J, R)) rfl ?_
                    have h := Option.some.inj h
                    subst h
                    exact az_E.ret (v := some (.int (-13 : Int32))) (σ' := (97, I, J, R)) rfl hQ
                  · rw [if_neg hc_1815] at h
                    refine az_E.sn 5 (pc' := 23) (L' := [.ref 71, .int v2, .int v5]) (S' := [.int ((I 71 2) - v2), .int v5]) (σ' := (97, I, J, R)) rfl ?_
                    refine az_E.br (c := ((I 71 2) - v2) < v5) (tt := 30) (ff := 26) (L' := [.ref 71, .int v2, .int v5]) (S' := []) (σ' := (97, I, J, R)) rfl (fun hc_1816 => ?_) (fun hc_1816 => ?_)
                    · rw [if_pos hc_1816] at h
                      refine az_E.sn 1 (pc' := 31) (L' := [.ref 71, .int v2, .int v5]) (S' := [.int (0 : Int32)]) (σ' := (97, I, J, R)) rfl ?_
                      refine az_E.ret (v := some (.int (0 : Int32))) (σ' := (97, I, J, R)) rfl ?_
                      show az_E az_F ex 2 128 83 [.retAddr 0, .retAddr 0, .int v2, .retAddr 0, .int v4, .int v5, .ref 71, .ref 67] [.int (0 : Int32)] (97, I, J, R) _
                      refine az_E.br (c := (0 : Int32) = 0) (tt := 98) (ff := 86) (L' := [.retAddr 0, .retAddr 0, .int v2, .retAddr 0, .int v4, .int v5, .ref 71, .ref 67]) (S' := []) (σ' := (97, I, J, R)) rfl (fun _ => ?_) (fun hn => absurd (by decide) hn)
                      refine az_E.sn 1 (pc' := 100) (L' := [.retAddr 0, .retAddr 0, .int v2, .retAddr 0, .int v4, .int v5, .ref 71, .ref 67]) (S' := [.int (-13 : Int32)]) (σ' := (97, I, J, R)) rfl ?_
                      have h := Option.some.inj h
                      subst h
                      exact az_E.ret (v := some (.int (-13 : Int32))) (σ' := (97, I, J, R)) rfl hQ
                    · rw [if_neg hc_1816] at h
                      refine az_E.sn 2 (pc' := 31) (L' := [.ref 71, .int v2, .int v5]) (S' := [.int (1 : Int32)]) (σ' := (97, I, J, R)) rfl ?_
                      refine az_E.ret (v := some (.int (1 : Int32))) (σ' := (97, I, J, R)) rfl ?_
                      show az_E az_F ex 2 128 83 [.retAddr 0, .retAddr 0, .int v2, .retAddr 0, .int v4, .int v5, .ref 71, .ref 67] [.int (1 : Int32)] (97, I, J, R) _
                      refine az_E.br (c := (1 : Int32) = 0) (tt := 98) (ff := 86) (L' := [.retAddr 0, .retAddr 0, .int v2, .retAddr 0, .int v4, .int v5, .ref 71, .ref 67]) (S' := []) (σ' := (97, I, J, R)) rfl (fun hn => absurd hn (by decide)) (fun _ => ?_)
                      refine az_E.sn 3 (pc' := 92) (L' := [.retAddr 0, .retAddr 0, .int v2, .retAddr 0, .int v4, .int v5, .ref 71, .ref 67]) (S' := [.int v5, .int v4, .ref 67]) (σ' := (97, I, J, R)) rfl ?_
                      refine az_E.call (d := 1) (k' := 60) (vs := [.ref 67, .int v4, .int v5]) (pc' := 95) (S' := []) rfl ?_ (fun _ _ hq => hq)
                      show az_E az_F ex 1 60 0 [.ref 67, .int v4, .int v5] [] (97, I, J, R) _
                      refine az_E.sn 1 (pc' := 1) (L' := [.ref 67, .int v4, .int v5]) (S' := [.int v4]) (σ' := (97, I, J, R)) rfl ?_
                      refine az_E.br (c := v4 < 0) (tt := 30) (ff := 4) (L' := [.ref 67, .int v4, .int v5]) (S' := []) (σ' := (97, I, J, R)) rfl (fun hc_1817 => ?_) (fun hc_1817 => ?_)
                      · rw [if_pos hc_1817] at h
                        refine az_E.sn 1 (pc' := 31) (L' := [.ref 67, .int v4, .int v5]) (S' := [.int (0 : Int32)]) (σ' := (97, I, J, R)) rfl ?_
                        refine az_E.ret (v := some (.int (0 : Int32))) (σ' := (97, I, J, R)) rfl ?_
                        show az_E az_F ex 2 128 95 [.retAddr 0, .retAddr 0, .int v2, .retAddr 0, .int v4, .int v5, .ref 71, .ref 67] [.int (0 : Int32)] (97, I, J, R) _
                        refine az_E.br (c := (0 : Int32) = 0) (tt := 98) (ff := 101) (L' := [.retAddr 0, .retAddr 0, .int v2, .retAddr 0, .int v4, .int v5, .ref 71, .ref 67]) (S' := []) (σ' := (97, I, J, R)) rfl (fun _ => ?_) (fun hn => absurd (by decide) hn)
                        refine az_E.sn 1 (pc' := 100) (L' := [.retAddr 0, .retAddr 0, .int v2, .retAddr 0, .int v4, .int v5, .ref 71, .ref 67]) (S' := [.int (-13 : Int32)]) (σ' := (97, I, J, R)) rfl ?_
                        have h := Option.some.inj h
                        subst h
                        exact az_E.ret (v := some (.int (-13 : Int32))) (σ' := (97, I, J, R)) rfl hQ
                      · rw [if_neg hc_1817] at h
                        refine az_E.sn 1 (pc' := 5) (L' := [.ref 67, .int v4, .int v5]) (S' := [.int v5]) (σ' := (97, I, J, R)) rfl ?_
                        refine az_E.br (c := v5 < 0) (tt := 30) (ff := 8) (L' := [.ref 67, .int v4, .int v5]) (S' := []) (σ' := (97, I, J, R)) rfl (fun hc_1818 => ?_) (fun hc_1818 => ?_)
                        · rw [if_pos hc_1818] at h
                          refine az_E.sn 1 (pc' := 31) (L' := [.ref 67, .int v4, .int v5]) (S' := [.int (0 : Int32)]) (σ' := (97, I, J, R)) rfl ?_
                          refine az_E.ret (v := some (.int (0 : Int32))) (σ' := (97, I, J, R)) rfl ?_
                          show az_E az_F ex 2 128 95 [.retAddr 0, .retAddr 0, .int v2, .retAddr 0, .int v4, .int v5, .ref 71, .ref 67] [.int (0 : Int32)] (97, I, J, R) _
                          refine az_E.br (c := (0 : Int32) = 0) (tt := 98) (ff := 101) (L' := [.retAddr 0, .retAddr 0, .int v2, .retAddr 0, .int v4, .int v5, .ref 71, .ref 67]) (S' := []) (σ' := (97, I, J, R)) rfl (fun _ => ?_) (fun hn => absurd (by decide) hn)
                          refine az_E.sn 1 (pc' := 100) (L' := [.retAddr 0, .retAddr 0, .int v2, .retAddr 0, .int v4, .int v5, .ref 71, .ref 67]) (S' := [.int (-13 : Int32)]) (σ' := (97, I, J, R)) rfl ?_
                          have h := Option.some.inj h
                          subst h
                          exact az_E.ret (v := some (.int (-13 : Int32))) (σ' := (97, I, J, R)) rfl hQ
                        · rw [if_neg hc_1818] at h
                          refine az_E.sn 3 (pc' := 13) (L' := [.ref 67, .int v4, .int v5]) (S' := [.int (I 67 2), .int v4]) (σ' := (97, I, J, R)) rfl ?_
                          refine az_E.br (c := (I 67 2) < v4) (tt := 30) (ff := 16) (L' := [.ref 67, .int v4, .int v5]) (S' := []) (σ' := (97, I, J, R)) rfl (fun hc_1819 => ?_) (fun hc_1819 => ?_)
                          · rw [if_pos hc_1819] at h
                            refine az_E.sn 1 (pc' := 31) (L' := [.ref 67, .int v4, .int v5]) (S' := [.int (0 : Int32)]) (σ' := (97, I, J, R)) rfl ?_
                            refine az_E.ret (v := some (.int (0 : Int32))) (σ' := (97, I, J, R)) rfl ?_
                            show az_E az_F ex 2 128 95 [.retAddr 0, .retAddr 0, .int v2, .retAddr 0, .int v4, .int v5, .ref 71, .ref 67] [.int (0 : Int32)] (97, I, J, R) _
                            refine az_E.br (c := (0 : Int32) = 0) (tt := 98) (ff := 101) (L' := [.retAddr 0, .retAddr 0, .int v2, .retAddr 0, .int v4, .int v5, .ref 71, .ref 67]) (S' := []) (σ' := (97, I, J, R)) rfl (fun _ => ?_) (fun hn => absurd (by decide) hn)
                            refine az_E.sn 1 (pc' := 100) (L' := [.retAddr 0, .retAddr 0, .int v2, .retAddr 0, .int v4, .int v5, .ref 71, .ref 67]) (S' := [.int (-13 : Int32)]) (σ' := (97, I, J, R)) rfl ?_
                            have h := Option.some.inj h
                            subst h
                            exact az_E.ret (v := some (.int (-13 : Int32))) (σ' := (97, I, J, R)) rfl hQ
                          · rw [if_neg hc_1819] at h
                            refine az_E.sn 5 (pc' := 23) (L' := [.ref 67, .int v4, .int v5]) (S' := [.int ((I 67 2) - v4), .int v5]) (σ' := (97, I, J, R)) rfl ?_
                            refine az_E.br (c := ((I 67 2) - v4) < v5) (tt := 30) (ff := 26) (L' := [.ref 67, .int v4, .int v5]) (S' := []) (σ' := (97, I, J, R)) rfl (fun hc_1820 => ?_) (fun hc_1820 => ?_)
                            · rw [if_pos hc_1820] at h
                              refine az_E.sn 1 (pc' := 31) (L' := [.ref 67, .int v4, .int v5]) (S' := [.int (0 : Int32)]) (σ' := (97, I, J, R)) rfl ?_
                              refine az_E.ret (v := some (.int (0 : Int32))) (σ' := (97, I, J, R)) rfl ?_
                              show az_E az_F ex 2 128 95 [.retAddr 0, .retAddr 0, .int v2, .retAddr 0, .int v4, .int v5, .ref 71, .ref 67] [.int (0 : Int32)] (97, I, J, R) _
                              refine az_E.br (c := (0 : Int32) = 0) (tt := 98) (ff := 101) (L' := [.retAddr 0, .retAddr 0, .int v2, .retAddr 0, .int v4, .int v5, .ref 71, .ref 67]) (S' := []) (σ' := (97, I, J, R)) rfl (fun _ => ?_) (fun hn => absurd (by decide) hn)
                              refine az_E.sn 1 (pc' := 100) (L' := [.retAddr 0, .retAddr 0, .int v2, .retAddr 0, .int v4, .int v5, .ref 71, .ref 67]) (S' := [.int (-13 : Int32)]) (σ' := (97, I, J, R)) rfl ?_
                              have h := Option.some.inj h
                              subst h
                              exact az_E.ret (v := some (.int (-13 : Int32))) (σ' := (97, I, J, R)) rfl hQ
                            · rw [if_neg hc_1820] at h
                              refine az_E.sn 2 (pc' := 31) (L' := [.ref 67, .int v4, .int v5]) (S' := [.int (1 : Int32)]) (σ' := (97, I, J, R)) rfl ?_
                              refine az_E.ret (v := some (.int (1 : Int32))) (σ' := (97, I, J, R)) rfl ?_
                              show az_E az_F ex 2 128 95 [.retAddr 0, .retAddr 0, .int v2, .retAddr 0, .int v4, .int v5, .ref 71, .ref 67] [.int (1 : Int32)] (97, I, J, R) _
                              refine az_E.br (c := (1 : Int32) = 0) (tt := 98) (ff := 101) (L' := [.retAddr 0, .retAddr 0, .int v2, .retAddr 0, .int v4, .int v5, .ref 71, .ref 67]) (S' := []) (σ' := (97, I, J, R)) rfl (fun hn => absurd hn (by decide)) (fun _ => ?_)
                              refine az_E.sn 7 (pc' := 116) (L' := [.retAddr 0, .retAddr 0, .int v2, .retAddr 0, .int v4, .int v5, .ref 71, .ref 67]) (S' := [.int v5, .int v4, .ref (67 + 1), .int v2, .ref (71 + 1)]) (σ' := (97, I, J, R)) rfl ?_
                              by_cases hc_1821 : v2 < 0 ∨ v4 < 0 ∨ v5 < 0 ∨ 60 < v2.toNatClampNeg + v5.toNatClampNeg ∨ 60 < v4.toNatClampNeg + v5.toNatClampNeg
                              · rw [if_pos hc_1821] at h; cases h
                              · rw [if_neg hc_1821] at h
                                refine az_E.o (o := az_cp az_F (97, I, J, R) (71 + 1) v2 (67 + 1) v4 v5) (pc' := 119) (L' := [.retAddr 0, .retAddr 0, .int v2, .retAddr 0, .int v4, .int v5, .ref 71, .ref 67]) (S' := []) (x := (97, I, (az_ur J (67 + 1) (va_cpy (J (71 + 1)) (J (67 + 1)) v2.toNatClampNeg v4.toNatClampNeg v5.toNatClampNeg)), R)) rfl (if_neg hc_1821) ?_
                                refine az_E.sn 1 (pc' := 121) (L' := [.retAddr 0, .retAddr 0, .int v2, .retAddr 0, .int v4, .int v5, .ref 71, .ref 67]) (S' := [.int v5]) (σ' := (97, I, (az_ur J (67 + 1) (va_cpy (J (71 + 1)) (J (67 + 1)) v2.toNatClampNeg v4.toNatClampNeg v5.toNatClampNeg)), R)) rfl ?_
                                have h := Option.some.inj h
                                subst h
                                exact az_E.ret (v := some (.int v5)) (σ' := (97, I, (az_ur J (67 + 1) (va_cpy (J (71 + 1)) (J (67 + 1)) v2.toNatClampNeg v4.toNatClampNeg v5.toNatClampNeg)), R)) rfl hQ
            · rw [if_neg hc_1812] at h
              refine az_E.sn 1 (pc' := 20) (L' := [.ref 67, .int (I 71 1)]) (S' := [.int (0 : Int32)]) (σ' := (97, I, J, R)) rfl ?_
              refine az_E.ret (v := some (.int (0 : Int32))) (σ' := (97, I, J, R)) rfl ?_
              show az_E az_F ex 2 128 69 [.retAddr 0, .retAddr 0, .int v2, .retAddr 0, .int v4, .int v5, .ref 71, .ref 67] [.int (0 : Int32)] (97, I, J, R) _
              refine az_E.br (c := (0 : Int32) = 0) (tt := 72) (ff := 75) (L' := [.retAddr 0, .retAddr 0, .int v2, .retAddr 0, .int v4, .int v5, .ref 71, .ref 67]) (S' := []) (σ' := (97, I, J, R)) rfl (fun _ => ?_) (fun hn => absurd (by decide) hn)
              refine az_E.sn 1 (pc' := 74) (L' := [.retAddr 0, .retAddr 0, .int v2, .retAddr 0, .int v4, .int v5, .ref 71, .ref 67]) (S' := [.int (-12 : Int32)]) (σ' := (97, I, J, R)) rfl ?_
              have h := Option.some.inj h
              subst h
              exact az_E.ret (v := some (.int (-12 : Int32))) (σ' := (97, I, J, R)) rfl hQ
  · rw [if_neg hc_1794] at h
    refine az_E.sn 1 (pc' := 21) (L' := [.ref 71]) (S' := [.int (0 : Int32)]) (σ' := (97, I, J, R)) rfl ?_
    refine az_E.ret (v := some (.int (0 : Int32))) (σ' := (97, I, J, R)) rfl ?_
    show az_E az_F ex 2 128 37 [.retAddr 0, .retAddr 0, .int v2, .retAddr 0, .int v4, .int v5, .ref 71, .ref 67] [.int (0 : Int32)] (97, I, J, R) _
    refine az_E.br (c := (0 : Int32) = 0) (tt := 40) (ff := 48) (L' := [.retAddr 0, .retAddr 0, .int v2, .retAddr 0, .int v4, .int v5, .ref 71, .ref 67]) (S' := []) (σ' := (97, I, J, R)) rfl (fun _ => ?_) (fun hn => absurd (by decide) hn)
    refine az_E.sn 1 (pc' := 42) (L' := [.retAddr 0, .retAddr 0, .int v2, .retAddr 0, .int v4, .int v5, .ref 71, .ref 67]) (S' := [.ref 67]) (σ' := (97, I, J, R)) rfl ?_
    refine az_E.call (d := 1) (k' := 54) (vs := [.ref 67]) (pc' := 45) (S' := []) rfl ?_ (fun _ _ hq => hq)
    show az_E az_F ex 1 54 0 [.ref 67] [] (97, I, J, R) _
    refine az_E.sn 3 (pc' := 5) (L' := [.ref 67]) (S' := [.int (-1 : Int32), .int (I 67 0)]) (σ' := (97, I, J, R)) rfl ?_
    refine az_E.br (c := (I 67 0) = (-1 : Int32)) (tt := 8) (ff := 20) (L' := [.ref 67]) (S' := []) (σ' := (97, I, J, R)) rfl (fun hc_1822 => ?_) (fun hc_1822 => ?_)
    · rw [if_pos hc_1822] at h
      refine az_E.sn 3 (pc' := 13) (L' := [.ref 67]) (S' := [.int (-1 : Int32), .int (I 67 1)]) (σ' := (97, I, J, R)) rfl ?_
      refine az_E.br (c := (I 67 1) = (-1 : Int32)) (tt := 16) (ff := 20) (L' := [.ref 67]) (S' := []) (σ' := (97, I, J, R)) rfl (fun hc_1823 => ?_) (fun hc_1823 => ?_)
      · rw [if_pos hc_1823] at h
        refine az_E.sn 2 (pc' := 21) (L' := [.ref 67]) (S' := [.int (1 : Int32)]) (σ' := (97, I, J, R)) rfl ?_
        refine az_E.ret (v := some (.int (1 : Int32))) (σ' := (97, I, J, R)) rfl ?_
        show az_E az_F ex 2 128 45 [.retAddr 0, .retAddr 0, .int v2, .retAddr 0, .int v4, .int v5, .ref 71, .ref 67] [.int (1 : Int32)] (97, I, J, R) _
        refine az_E.br (c := (1 : Int32) = 0) (tt := 51) (ff := 48) (L' := [.retAddr 0, .retAddr 0, .int v2, .retAddr 0, .int v4, .int v5, .ref 71, .ref 67]) (S' := []) (σ' := (97, I, J, R)) rfl (fun hn => absurd hn (by decide)) (fun _ => ?_)
        refine az_E.sn 1 (pc' := 50) (L' := [.retAddr 0, .retAddr 0, .int v2, .retAddr 0, .int v4, .int v5, .ref 71, .ref 67]) (S' := [.int (-11 : Int32)]) (σ' := (97, I, J, R)) rfl ?_
        have h := Option.some.inj h
        subst h
        exact az_E.ret (v := some (.int (-11 : Int32))) (σ' := (97, I, J, R)) rfl hQ
      · rw [if_neg hc_1823] at h
        refine az_E.sn 1 (pc' := 21) (L' := [.ref 67]) (S' := [.int (0 : Int32)]) (σ' := (97, I, J, R)) rfl ?_
        refine az_E.ret (v := some (.int (0 : Int32))) (σ' := (97, I, J, R)) rfl ?_
        show az_E az_F ex 2 128 45 [.retAddr 0, .retAddr 0, .int v2, .retAddr 0, .int v4, .int v5, .ref 71, .ref 67] [.int (0 : Int32)] (97, I, J, R) _
        refine az_E.br (c := (0 : Int32) = 0) (tt := 51) (ff := 48) (L' := [.retAddr 0, .retAddr 0, .int v2, .retAddr 0, .int v4, .int v5, .ref 71, .ref 67]) (S' := []) (σ' := (97, I, J, R)) rfl (fun _ => ?_) (fun hn => absurd (by decide) hn)
        refine az_E.sn 1 (pc' := 53) (L' := [.retAddr 0, .retAddr 0, .int v2, .retAddr 0, .int v4, .int v5, .ref 71, .ref 67]) (S' := [.ref 71]) (σ' := (97, I, J, R)) rfl ?_
        refine az_E.call (d := 1) (k' := 55) (vs := [.ref 71]) (pc' := 56) (S' := []) rfl ?_ (fun _ _ hq => hq)
        show az_E az_F ex 1 55 0 [.ref 71] [] (97, I, J, R) _
        refine az_E.sn 3 (pc' := 5) (L' := [.ref 71]) (S' := [.int (-1 : Int32), .int (I 71 1)]) (σ' := (97, I, J, R)) rfl ?_
        refine az_E.br (c := (I 71 1) = (-1 : Int32)) (tt := 12) (ff := 8) (L' := [.ref 71]) (S' := []) (σ' := (97, I, J, R)) rfl (fun hc_1824 => ?_) (fun hc_1824 => ?_)
        · rw [if_pos hc_1824] at h
          refine az_E.sn 1 (pc' := 13) (L' := [.ref 71]) (S' := [.int (0 : Int32)]) (σ' := (97, I, J, R)) rfl ?_
          refine az_E.ret (v := some (.int (0 : Int32))) (σ' := (97, I, J, R)) rfl ?_
          show az_E az_F ex 2 128 56 [.retAddr 0, .retAddr 0, .int v2, .retAddr 0, .int v4, .int v5, .ref 71, .ref 67] [.int (0 : Int32)] (97, I, J, R) _
          refine az_E.br (c := (0 : Int32) = 0) (tt := 72) (ff := 59) (L' := [.retAddr 0, .retAddr 0, .int v2, .retAddr 0, .int v4, .int v5, .ref 71, .ref 67]) (S' := []) (σ' := (97, I, J, R)) rfl (fun _ => ?_) (fun hn => absurd (by decide) hn)
          refine az_E.sn 1 (pc' := 74) (L' := [.retAddr 0, .retAddr 0, .int v2, .retAddr 0, .int v4, .int v5, .ref 71, .ref 67]) (S' := [.int (-12 : Int32)]) (σ' := (97, I, J, R)) rfl ?_
          have h := Option.some.inj h
          subst h
          exact az_E.ret (v := some (.int (-12 : Int32))) (σ' := (97, I, J, R)) rfl hQ
        · rw [if_neg hc_1824] at h
          refine az_E.sn 2 (pc' := 13) (L' := [.ref 71]) (S' := [.int (1 : Int32)]) (σ' := (97, I, J, R)) rfl ?_
          refine az_E.ret (v := some (.int (1 : Int32))) (σ' := (97, I, J, R)) rfl ?_
          show az_E az_F ex 2 128 56 [.retAddr 0, .retAddr 0, .int v2, .retAddr 0, .int v4, .int v5, .ref 71, .ref 67] [.int (1 : Int32)] (97, I, J, R) _
          refine az_E.br (c := (1 : Int32) = 0) (tt := 72) (ff := 59) (L' := [.retAddr 0, .retAddr 0, .int v2, .retAddr 0, .int v4, .int v5, .ref 71, .ref 67]) (S' := []) (σ' := (97, I, J, R)) rfl (fun hn => absurd hn (by decide)) (fun _ => ?_)
          refine az_E.sn 3 (pc' := 66) (L' := [.retAddr 0, .retAddr 0, .int v2, .retAddr 0, .int v4, .int v5, .ref 71, .ref 67]) (S' := [.int (I 71 1), .ref 67]) (σ' := (97, I, J, R)) rfl ?_
          refine az_E.call (d := 1) (k' := 56) (vs := [.ref 67, .int (I 71 1)]) (pc' := 69) (S' := []) rfl ?_ (fun _ _ hq => hq)
          show az_E az_F ex 1 56 0 [.ref 67, .int (I 71 1)] [] (97, I, J, R) _
          refine az_E.sn 1 (pc' := 1) (L' := [.ref 67, .int (I 71 1)]) (S' := [.ref 67]) (σ' := (97, I, J, R)) rfl ?_
          refine az_E.call (d := 0) (k' := 55) (vs := [.ref 67]) (pc' := 4) (S' := []) rfl ?_ (fun _ _ hq => hq)
          show az_E az_F ex 0 55 0 [.ref 67] [] (97, I, J, R) _
          refine az_E.sn 3 (pc' := 5) (L' := [.ref 67]) (S' := [.int (-1 : Int32), .int (I 67 1)]) (σ' := (97, I, J, R)) rfl ?_
          refine az_E.br (c := (I 67 1) = (-1 : Int32)) (tt := 12) (ff := 8) (L' := [.ref 67]) (S' := []) (σ' := (97, I, J, R)) rfl (fun hc_1825 => ?_) (fun hc_1825 => ?_)
          · rw [if_pos hc_1825] at h
            refine az_E.sn 1 (pc' := 13) (L' := [.ref 67]) (S' := [.int (0 : Int32)]) (σ' := (97, I, J, R)) rfl ?_
            refine az_E.ret (v := some (.int (0 : Int32))) (σ' := (97, I, J, R)) rfl ?_
            show az_E az_F ex 1 56 4 [.ref 67, .int (I 71 1)] [.int (0 : Int32)] (97, I, J, R) _
            refine az_E.br (c := (0 : Int32) = 0) (tt := 19) (ff := 7) (L' := [.ref 67, .int (I 71 1)]) (S' := []) (σ' := (97, I, J, R)) rfl (fun _ => ?_) (fun hn => absurd (by decide) hn)
            refine az_E.sn 1 (pc' := 20) (L' := [.ref 67, .int (I 71 1)]) (S' := [.int (0 : Int32)]) (σ' := (97, I, J, R)) rfl ?_
            refine az_E.ret (v := some (.int (0 : Int32))) (σ' := (97, I, J, R)) rfl ?_
            show az_E az_F ex 2 128 69 [.retAddr 0, .retAddr 0, .int v2, .retAddr 0, .int v4, .int v5, .ref 71, .ref 67] [.int (0 : Int32)] (97, I, J, R) _
            refine az_E.br (c := (0 : Int32) = 0) (tt := 72) (ff := 75) (L' := [.retAddr 0, .retAddr 0, .int v2, .retAddr 0, .int v4, .int v5, .ref 71, .ref 67]) (S' := []) (σ' := (97, I, J, R)) rfl (fun _ => ?_) (fun hn => absurd (by decide) hn)
            refine az_E.sn 1 (pc' := 74) (L' := [.retAddr 0, .retAddr 0, .int v2, .retAddr 0, .int v4, .int v5, .ref 71, .ref 67]) (S' := [.int (-12 : Int32)]) (σ' := (97, I, J, R)) rfl ?_
            have h := Option.some.inj h
            subst h
            exact az_E.ret (v := some (.int (-12 : Int32))) (σ' := (97, I, J, R)) rfl hQ
          · rw [if_neg hc_1825] at h
            refine az_E.sn 2 (pc' := 13) (L' := [.ref 67]) (S' := [.int (1 : Int32)]) (σ' := (97, I, J, R)) rfl ?_
            refine az_E.ret (v := some (.int (1 : Int32))) (σ' := (97, I, J, R)) rfl ?_
            show az_E az_F ex 1 56 4 [.ref 67, .int (I 71 1)] [.int (1 : Int32)] (97, I, J, R) _
            refine az_E.br (c := (1 : Int32) = 0) (tt := 19) (ff := 7) (L' := [.ref 67, .int (I 71 1)]) (S' := []) (σ' := (97, I, J, R)) rfl (fun hn => absurd hn (by decide)) (fun _ => ?_)
            refine az_E.sn 3 (pc' := 12) (L' := [.ref 67, .int (I 71 1)]) (S' := [.int (I 71 1), .int (I 67 1)]) (σ' := (97, I, J, R)) rfl ?_
            refine az_E.br (c := (I 67 1) = (I 71 1)) (tt := 15) (ff := 19) (L' := [.ref 67, .int (I 71 1)]) (S' := []) (σ' := (97, I, J, R)) rfl (fun hc_1826 => ?_) (fun hc_1826 => ?_)
            · rw [if_pos hc_1826] at h
              refine az_E.sn 2 (pc' := 20) (L' := [.ref 67, .int (I 71 1)]) (S' := [.int (1 : Int32)]) (σ' := (97, I, J, R)) rfl ?_
              refine az_E.ret (v := some (.int (1 : Int32))) (σ' := (97, I, J, R)) rfl ?_
              show az_E az_F ex 2 128 69 [.retAddr 0, .retAddr 0, .int v2, .retAddr 0, .int v4, .int v5, .ref 71, .ref 67] [.int (1 : Int32)] (97, I, J, R) _
              refine az_E.br (c := (1 : Int32) = 0) (tt := 72) (ff := 75) (L' := [.retAddr 0, .retAddr 0, .int v2, .retAddr 0, .int v4, .int v5, .ref 71, .ref 67]) (S' := []) (σ' := (97, I, J, R)) rfl (fun hn => absurd hn (by decide)) (fun _ => ?_)
              refine az_E.sn 3 (pc' := 80) (L' := [.retAddr 0, .retAddr 0, .int v2, .retAddr 0, .int v4, .int v5, .ref 71, .ref 67]) (S' := [.int v5, .int v2, .ref 71]) (σ' := (97, I, J, R)) rfl ?_
              refine az_E.call (d := 1) (k' := 60) (vs := [.ref 71, .int v2, .int v5]) (pc' := 83) (S' := []) rfl ?_ (fun _ _ hq => hq)
              show az_E az_F ex 1 60 0 [.ref 71, .int v2, .int v5] [] (97, I, J, R) _
              refine az_E.sn 1 (pc' := 1) (L' := [.ref 71, .int v2, .int v5]) (S' := [.int v2]) (σ' := (97, I, J, R)) rfl ?_
              refine az_E.br (c := v2 < 0) (tt := 30) (ff := 4) (L' := [.ref 71, .int v2, .int v5]) (S' := []) (σ' := (97, I, J, R)) rfl (fun hc_1827 => ?_) (fun hc_1827 => ?_)
              · rw [if_pos hc_1827] at h
                refine az_E.sn 1 (pc' := 31) (L' := [.ref 71, .int v2, .int v5]) (S' := [.int (0 : Int32)]) (σ' := (97, I, J, R)) rfl ?_
                refine az_E.ret (v := some (.int (0 : Int32))) (σ' := (97, I, J, R)) rfl ?_
                show az_E az_F ex 2 128 83 [.retAddr 0, .retAddr 0, .int v2, .retAddr 0, .int v4, .int v5, .ref 71, .ref 67] [.int (0 : Int32)] (97, I, J, R) _
                refine az_E.br (c := (0 : Int32) = 0) (tt := 98) (ff := 86) (L' := [.retAddr 0, .retAddr 0, .int v2, .retAddr 0, .int v4, .int v5, .ref 71, .ref 67]) (S' := []) (σ' := (97, I, J, R)) rfl (fun _ => ?_) (fun hn => absurd (by decide) hn)
                refine az_E.sn 1 (pc' := 100) (L' := [.retAddr 0, .retAddr 0, .int v2, .retAddr 0, .int v4, .int v5, .ref 71, .ref 67]) (S' := [.int (-13 : Int32)]) (σ' := (97, I, J, R)) rfl ?_
                have h := Option.some.inj h
                subst h
                exact az_E.ret (v := some (.int (-13 : Int32))) (σ' := (97, I, J, R)) rfl hQ
              · rw [if_neg hc_1827] at h
                refine az_E.sn 1 (pc' := 5) (L' := [.ref 71, .int v2, .int v5]) (S' := [.int v5]) (σ' := (97, I, J, R)) rfl ?_
                refine az_E.br (c := v5 < 0) (tt := 30) (ff := 8) (L' := [.ref 71, .int v2, .int v5]) (S' := []) (σ' := (97, I, J, R)) rfl (fun hc_1828 => ?_) (fun hc_1828 => ?_)
                · rw [if_pos hc_1828] at h
                  refine az_E.sn 1 (pc' := 31) (L' := [.ref 71, .int v2, .int v5]) (S' := [.int (0 : Int32)]) (σ' := (97, I, J, R)) rfl ?_
                  refine az_E.ret (v := some (.int (0 : Int32))) (σ' := (97, I, J, R)) rfl ?_
                  show az_E az_F ex 2 128 83 [.retAddr 0, .retAddr 0, .int v2, .retAddr 0, .int v4, .int v5, .ref 71, .ref 67] [.int (0 : Int32)] (97, I, J, R) _
                  refine az_E.br (c := (0 : Int32) = 0) (tt := 98) (ff := 86) (L' := [.retAddr 0, .retAddr 0, .int v2, .retAddr 0, .int v4, .int v5, .ref 71, .ref 67]) (S' := []) (σ' := (97, I, J, R)) rfl (fun _ => ?_) (fun hn => absurd (by decide) hn)
                  refine az_E.sn 1 (pc' := 100) (L' := [.retAddr 0, .retAddr 0, .int v2, .retAddr 0, .int v4, .int v5, .ref 71, .ref 67]) (S' := [.int (-13 : Int32)]) (σ' := (97, I, J, R)) rfl ?_
                  have h := Option.some.inj h
                  subst h
                  exact az_E.ret (v := some (.int (-13 : Int32))) (σ' := (97, I, J, R)) rfl hQ
                · rw [if_neg hc_1828] at h
                  refine az_E.sn 3 (pc' := 13) (L' := [.ref 71, .int v2, .int v5]) (S' := [.int (I 71 2), .int v2]) (σ' := (97, I, J, R)) rfl ?_
                  refine az_E.br (c := (I 71 2) < v2) (tt := 30) (ff := 16) (L' := [.ref 71, .int v2, .int v5]) (S' := []) (σ' := (97, I, J, R)) rfl (fun hc_1829 => ?_) (fun hc_1829 => ?_)
                  · rw [if_pos hc_1829] at h
                    refine az_E.sn 1 (pc' := 31) (L' := [.ref 71, .int v2, .int v5]) (S' := [.int (0 : Int32)]) (σ' := (97, I, J, R)) rfl ?_
                    refine az_E.ret (v := some (.int (0 : Int32))) (σ' := (97, I, J, R)) rfl ?_
                    show az_E az_F ex 2 128 83 [.retAddr 0, .retAddr 0, .int v2, .retAddr 0, .int v4, .int v5, .ref 71, .ref 67] [.int (0 : Int32)] (97, I, J, R) _
                    refine az_E.br (c := (0 : Int32) = 0) (tt := 98) (ff := 86) (L' := [.retAddr 0, .retAddr 0, .int v2, .retAddr 0, .int v4, .int v5, .ref 71, .ref 67]) (S' := []) (σ' := (97, I, J, R)) rfl (fun _ => ?_) (fun hn => absurd (by decide) hn)
                    refine az_E.sn 1 (pc' := 100) (L' := [.retAddr 0, .retAddr 0, .int v2, .retAddr 0, .int v4, .int v5, .ref 71, .ref 67]) (S' := [.int (-13 : Int32)]) (σ' := (97, I, J, R)) rfl ?_
                    have h := Option.some.inj h
                    subst h
                    exact az_E.ret (v := some (.int (-13 : Int32))) (σ' := (97, I, J, R)) rfl hQ
                  · rw [if_neg hc_1829] at h
                    refine az_E.sn 5 (pc' := 23) (L' := [.ref 71, .int v2, .int v5]) (S' := [.int ((I 71 2) - v2), .int v5]) (σ' := (97, I, J, R)) rfl ?_
                    refine az_E.br (c := ((I 71 2) - v2) < v5) (tt := 30) (ff := 26) (L' := [.ref 71, .int v2, .int v5]) (S' := []) (σ' := (97, I, J, R)) rfl (fun hc_1830 => ?_) (fun hc_1830 => ?_)
                    · rw [if_pos hc_1830] at h
                      refine az_E.sn 1 (pc' := 31) (L' := [.ref 71, .int v2, .int v5]) (S' := [.int (0 : Int32)]) (σ' := (97, I, J, R)) rfl ?_
                      refine az_E.ret (v := some (.int (0 : Int32))) (σ' := (97, I, J, R)) rfl ?_
                      show az_E az_F ex 2 128 83 [.retAddr 0, .retAddr 0, .int v2, .retAddr 0, .int v4, .int v5, .ref 71, .ref 67] [.int (0 : Int32)] (97, I, J, R) _
                      refine az_E.br (c := (0 : Int32) = 0) (tt := 98) (ff := 86) (L' := [.retAddr 0, .retAddr 0, .int v2, .retAddr 0, .int v4, .int v5, .ref 71, .ref 67]) (S' := []) (σ' := (97, I, J, R)) rfl (fun _ => ?_) (fun hn => absurd (by decide) hn)
                      refine az_E.sn 1 (pc' := 100) (L' := [.retAddr 0, .retAddr 0, .int v2, .retAddr 0, .int v4, .int v5, .ref 71, .ref 67]) (S' := [.int (-13 : Int32)]) (σ' := (97, I, J, R)) rfl ?_
                      have h := Option.some.inj h
                      subst h
                      exact az_E.ret (v := some (.int (-13 : Int32))) (σ' := (97, I, J, R)) rfl hQ
                    · rw [if_neg hc_1830] at h
                      refine az_E.sn 2 (pc' := 31) (L' := [.ref 71, .int v2, .int v5]) (S' := [.int (1 : Int32)]) (σ' := (97, I, J, R)) rfl ?_
                      refine az_E.ret (v := some (.int (1 : Int32))) (σ' := (97, I, J, R)) rfl ?_
                      show az_E az_F ex 2 128 83 [.retAddr 0, .retAddr 0, .int v2, .retAddr 0, .int v4, .int v5, .ref 71, .ref 67] [.int (1 : Int32)] (97, I, J, R) _
                      refine az_E.br (c := (1 : Int32) = 0) (tt := 98) (ff := 86) (L' := [.retAddr 0, .retAddr 0, .int v2, .retAddr 0, .int v4, .int v5, .ref 71, .ref 67]) (S' := []) (σ' := (97, I, J, R)) rfl (fun hn => absurd hn (by decide)) (fun _ => ?_)
                      refine az_E.sn 3 (pc' := 92) (L' := [.retAddr 0, .retAddr 0, .int v2, .retAddr 0, .int v4, .int v5, .ref 71, .ref 67]) (S' := [.int v5, .int v4, .ref 67]) (σ' := (97, I, J, R)) rfl ?_
                      refine az_E.call (d := 1) (k' := 60) (vs := [.ref 67, .int v4, .int v5]) (pc' := 95) (S' := []) rfl ?_ (fun _ _ hq => hq)
                      show az_E az_F ex 1 60 0 [.ref 67, .int v4, .int v5] [] (97, I, J, R) _
                      refine az_E.sn 1 (pc' := 1) (L' := [.ref 67, .int v4, .int v5]) (S' := [.int v4]) (σ' := (97, I, J, R)) rfl ?_
                      refine az_E.br (c := v4 < 0) (tt := 30) (ff := 4) (L' := [.ref 67, .int v4, .int v5]) (S' := []) (σ' := (97, I, J, R)) rfl (fun hc_1831 => ?_) (fun hc_1831 => ?_)
                      · rw [if_pos hc_1831] at h
                        refine az_E.sn 1 (pc' := 31) (L' := [.ref 67, .int v4, .int v5]) (S' := [.int (0 : Int32)]) (σ' := (97, I, J, R)) rfl ?_
                        refine az_E.ret (v := some (.int (0 : Int32))) (σ' := (97, I, J, R)) rfl ?_
                        show az_E az_F ex 2 128 95 [.retAddr 0, .retAddr 0, .int v2, .retAddr 0, .int v4, .int v5, .ref 71, .ref 67] [.int (0 : Int32)] (97, I, J, R) _
                        refine az_E.br (c := (0 : Int32) = 0) (tt := 98) (ff := 101) (L' := [.retAddr 0, .retAddr 0, .int v2, .retAddr 0, .int v4, .int v5, .ref 71, .ref 67]) (S' := []) (σ' := (97, I, J, R)) rfl (fun _ => ?_) (fun hn => absurd (by decide) hn)
                        refine az_E.sn 1 (pc' := 100) (L' := [.retAddr 0, .retAddr 0, .int v2, .retAddr 0, .int v4, .int v5, .ref 71, .ref 67]) (S' := [.int (-13 : Int32)]) (σ' := (97, I, J, R)) rfl ?_
                        have h := Option.some.inj h
                        subst h
                        exact az_E.ret (v := some (.int (-13 : Int32))) (σ' := (97, I, J, R)) rfl hQ
                      · rw [if_neg hc_1831] at h
                        refine az_E.sn 1 (pc' := 5) (L' := [.ref 67, .int v4, .int v5]) (S' := [.int v5]) (σ' := (97, I, J, R)) rfl ?_
                        refine az_E.br (c := v5 < 0) (tt := 30) (ff := 8) (L' := [.ref 67, .int v4, .int v5]) (S' := []) (σ' := (97, I, J, R)) rfl (fun hc_1832 => ?_) (fun hc_1832 => ?_)
                        · rw [if_pos hc_1832] at h
                          refine az_E.sn 1 (pc' := 31) (L' := [.ref 67, .int v4, .int v5]) (S' := [.int (0 : Int32)]) (σ' := (97, I, J, R)) rfl ?_
                          refine az_E.ret (v := some (.int (0 : Int32))) (σ' := (97, I, J, R)) rfl ?_
                          show az_E az_F ex 2 128 95 [.retAddr 0, .retAddr 0, .int v2, .retAddr 0, .int v4, .int v5, .ref 71, .ref 67] [.int (0 : Int32)] (97, I, J, R) _
                          refine az_E.br (c := (0 : Int32) = 0) (tt := 98) (ff := 101) (L' := [.retAddr 0, .retAddr 0, .int v2, .retAddr 0, .int v4, .int v5, .ref 71, .ref 67]) (S' := []) (σ' := (97, I, J, R)) rfl (fun _ => ?_) (fun hn => absurd (by decide) hn)
                          refine az_E.sn 1 (pc' := 100) (L' := [.retAddr 0, .retAddr 0, .int v2, .retAddr 0, .int v4, .int v5, .ref 71, .ref 67]) (S' := [.int (-13 : Int32)]) (σ' := (97, I, J, R)) rfl ?_
                          have h := Option.some.inj h
                          subst h
                          exact az_E.ret (v := some (.int (-13 : Int32))) (σ' := (97, I, J, R)) rfl hQ
                        · rw [if_neg hc_1832] at h
                          refine az_E.sn 3 (pc' := 13) (L' := [.ref 67, .int v4, .int v5]) (S' := [.int (I 67 2), .int v4]) (σ' := (97, I, J, R)) rfl ?_
                          refine az_E.br (c := (I 67 2) < v4) (tt := 30) (ff := 16) (L' := [.ref 67, .int v4, .int v5]) (S' := []) (σ' := (97, I, J, R)) rfl (fun hc_1833 => ?_) (fun hc_1833 => ?_)
                          · rw [if_pos hc_1833] at h
                            refine az_E.sn 1 (pc' := 31) (L' := [.ref 67, .int v4, .int v5]) (S' := [.int (0 : Int32)]) (σ' := (97, I, J, R)) rfl ?_
                            refine az_E.ret (v := some (.int (0 : Int32))) (σ' := (97, I, J, R)) rfl ?_
                            show az_E az_F ex 2 128 95 [.retAddr 0, .retAddr 0, .int v2, .retAddr 0, .int v4, .int v5, .ref 71, .ref 67] [.int (0 : Int32)] (97, I, J, R) _
                            refine az_E.br (c := (0 : Int32) = 0) (tt := 98) (ff := 101) (L' := [.retAddr 0, .retAddr 0, .int v2, .retAddr 0, .int v4, .int v5, .ref 71, .ref 67]) (S' := []) (σ' := (97, I, J, R)) rfl (fun _ => ?_) (fun hn => absurd (by decide) hn)
                            refine az_E.sn 1 (pc' := 100) (L' := [.retAddr 0, .retAddr 0, .int v2, .retAddr 0, .int v4, .int v5, .ref 71, .ref 67]) (S' := [.int (-13 : Int32)]) (σ' := (97, I, J, R)) rfl ?_
                            have h := Option.some.inj h
                            subst h
                            exact az_E.ret (v := some (.int (-13 : Int32))) (σ' := (97, I, J, R)) rfl hQ
                          · rw [if_neg hc_1833] at h
                            refine az_E.sn 5 (pc' := 23) (L' := [.ref 67, .int v4, .int v5]) (S' := [.int ((I 67 2) - v4), .int v5]) (σ' := (97, I, J, R)) rfl ?_
                            refine az_E.br (c := ((I 67 2) - v4) < v5) (tt := 30) (ff := 26) (L' := [.ref 67, .int v4, .int v5]) (S' := []) (σ' := (97, I, J, R)) rfl (fun hc_1834 => ?_) (fun hc_1834 => ?_)
                            · rw [if_pos hc_1834] at h
                              refine az_E.sn 1 (pc' := 31) (L' := [.ref 67, .int v4, .int v5]) (S' := [.int (0 : Int32)]) (σ' := (97, I, J, R)) rfl ?_
                              refine az_E.ret (v := some (.int (0 : Int32))) (σ' := (97, I, J, R)) rfl ?_
                              show az_E az_F ex 2 128 95 [.retAddr 0, .retAddr 0, .int v2, .retAddr 0, .int v4, .int v5, .ref 71, .ref 67] [.int (0 : Int32)] (97, I, J, R) _
                              refine az_E.br (c := (0 : Int32) = 0) (tt := 98) (ff := 101) (L' := [.retAddr 0, .retAddr 0, .int v2, .retAddr 0, .int v4, .int v5, .ref 71, .ref 67]) (S' := []) (σ' := (97, I, J, R)) rfl (fun _ => ?_) (fun hn => absurd (by decide) hn)
                              refine az_E.sn 1 (pc' := 100) (L' := [.retAddr 0, .retAddr 0, .int v2, .retAddr 0, .int v4, .int v5, .ref 71, .ref 67]) (S' := [.int (-13 : Int32)]) (σ' := (97, I, J, R)) rfl ?_
                              have h := Option.some.inj h
                              subst h
                              exact az_E.ret (v := some (.int (-13 : Int32))) (σ' := (97, I, J, R)) rfl hQ
                            · rw [if_neg hc_1834] at h
                              refine az_E.sn 2 (pc' := 31) (L' := [.ref 67, .int v4, .int v5]) (S' := [.int (1 : Int32)]) (σ' := (97, I, J, R)) rfl ?_
                              refine az_E.ret (v := some (.int (1 : Int32))) (σ' := (97, I, J, R)) rfl ?_
                              show az_E az_F ex 2 128 95 [.retAddr 0, .retAddr 0, .int v2, .retAddr 0, .int v4, .int v5, .ref 71, .ref 67] [.int (1 : Int32)] (97, I, J, R) _
                              refine az_E.br (c := (1 : Int32) = 0) (tt := 98) (ff := 101) (L' := [.retAddr 0, .retAddr 0, .int v2, .retAddr 0, .int v4, .int v5, .ref 71, .ref 67]) (S' := []) (σ' := (97, I, J, R)) rfl (fun hn => absurd hn (by decide)) (fun _ => ?_)
                              refine az_E.sn 7 (pc' := 116) (L' := [.retAddr 0, .retAddr 0, .int v2, .retAddr 0, .int v4, .int v5, .ref 71, .ref 67]) (S' := [.int v5, .int v4, .ref (67 + 1), .int v2, .ref (71 + 1)]) (σ' := (97, I, J, R)) rfl ?_
                              by_cases hc_1835 : v2 < 0 ∨ v4 < 0 ∨ v5 < 0 ∨ 60 < v2.toNatClampNeg + v5.toNatClampNeg ∨ 60 < v4.toNatClampNeg + v5.toNatClampNeg
                              · rw [if_pos hc_1835] at h; cases h
                              · rw [if_neg hc_1835] at h
                                refine az_E.o (o := az_cp az_F (97, I, J, R) (71 + 1) v2 (67 + 1) v4 v5) (pc' := 119) (L' := [.retAddr 0, .retAddr 0, .int v2, .retAddr 0, .int v4, .int v5, .ref 71, .ref 67]) (S' := []) (x := (97, I, (az_ur J (67 + 1) (va_cpy (J (71 + 1)) (J (67 + 1)) v2.toNatClampNeg v4.toNatClampNeg v5.toNatClampNeg)), R)) rfl (if_neg hc_1835) ?_
                                refine az_E.sn 1 (pc' := 121) (L' := [.retAddr 0, .retAddr 0, .int v2, .retAddr 0, .int v4, .int v5, .ref 71, .ref 67]) (S' := [.int v5]) (σ' := (97, I, (az_ur J (67 + 1) (va_cpy (J (71 + 1)) (J (67 + 1)) v2.toNatClampNeg v4.toNatClampNeg v5.toNatClampNeg)), R)) rfl ?_
                                have h := Option.some.inj h
                                subst h
                                exact az_E.ret (v := some (.int v5)) (σ' := (97, I, (az_ur J (67 + 1) (va_cpy (J (71 + 1)) (J (67 + 1)) v2.toNatClampNeg v4.toNatClampNeg v5.toNatClampNeg)), R)) rfl hQ
            · rw [if_neg hc_1826] at h
              refine az_E.sn 1 (pc' := 20) (L' := [.ref 67, .int (I 71 1)]) (S' := [.int (0 : Int32)]) (σ' := (97, I, J, R)) rfl ?_
              refine az_E.ret (v := some (.int (0 : Int32))) (σ' := (97, I, J, R)) rfl ?_
              show az_E az_F ex 2 128 69 [.retAddr 0, .retAddr 0, .int v2, .retAddr 0, .int v4, .int v5, .ref 71, .ref 67] [.int (0 : Int32)] (97, I, J, R) _
              refine az_E.br (c := (0 : Int32) = 0) (tt := 72) (ff := 75) (L' := [.retAddr 0, .retAddr 0, .int v2, .retAddr 0, .int v4, .int v5, .ref 71, .ref 67]) (S' := []) (σ' := (97, I, J, R)) rfl (fun _ => ?_) (fun hn => absurd (by decide) hn)
              refine az_E.sn 1 (pc' := 74) (L' := [.retAddr 0, .retAddr 0, .int v2, .retAddr 0, .int v4, .int v5, .ref 71, .ref 67]) (S' := [.int (-12 : Int32)]) (σ' := (97, I, J, R)) rfl ?_
              have h := Option.some.inj h
              subst h
              exact az_E.ret (v := some (.int (-12 : Int32))) (σ' := (97, I, J, R)) rfl hQ
    · rw [if_neg hc_1822] at h
      refine az_E.sn 1 (pc' := 21) (L' := [.ref 67]) (S' := [.int (0 : Int32)]) (σ' := (97, I, J, R)) rfl ?_
      refine az_E.ret (v := some (.int (0 : Int32))) (σ' := (97, I, J, R)) rfl ?_
      show az_E az_F ex 2 128 45 [.retAddr 0, .retAddr 0, .int v2, .retAddr 0, .int v4, .int v5, .ref 71, .ref 67] [.int (0 : Int32)] (97, I, J, R) _
      refine az_E.br (c := (0 : Int32) = 0) (tt := 51) (ff := 48) (L' := [.retAddr 0, .retAddr 0, .int v2, .retAddr 0, .int v4, .int v5, .ref 71, .ref 67]) (S' := []) (σ' := (97, I, J, R)) rfl (fun _ => ?_) (fun hn => absurd (by decide) hn)
      refine az_E.sn 1 (pc' := 53) (L' := [.retAddr 0, .retAddr 0, .int v2, .retAddr 0, .int v4, .int v5, .ref 71, .ref 67]) (S' := [.ref 71]) (σ' := (97, I, J, R)) rfl ?_
      refine az_E.call (d := 1) (k' := 55) (vs := [.ref 71]) (pc' := 56) (S' := []) rfl ?_ (fun _ _ hq => hq)
      show az_E az_F ex 1 55 0 [.ref 71] [] (97, I, J, R) _
      refine az_E.sn 3 (pc' := 5) (L' := [.ref 71]) (S' := [.int (-1 : Int32), .int (I 71 1)]) (σ' := (97, I, J, R)) rfl ?_
      refine az_E.br (c := (I 71 1) = (-1 : Int32)) (tt := 12) (ff := 8) (L' := [.ref 71]) (S' := []) (σ' := (97, I, J, R)) rfl (fun hc_1836 => ?_) (fun hc_1836 => ?_)
      · rw [if_pos hc_1836] at h
        refine az_E.sn 1 (pc' := 13) (L' := [.ref 71]) (S' := [.int (0 : Int32)]) (σ' := (97, I, J, R)) rfl ?_
        refine az_E.ret (v := some (.int (0 : Int32))) (σ' := (97, I, J, R)) rfl ?_
        show az_E az_F ex 2 128 56 [.retAddr 0, .retAddr 0, .int v2, .retAddr 0, .int v4, .int v5, .ref 71, .ref 67] [.int (0 : Int32)] (97, I, J, R) _
        refine az_E.br (c := (0 : Int32) = 0) (tt := 72) (ff := 59) (L' := [.retAddr 0, .retAddr 0, .int v2, .retAddr 0, .int v4, .int v5, .ref 71, .ref 67]) (S' := []) (σ' := (97, I, J, R)) rfl (fun _ => ?_) (fun hn => absurd (by decide) hn)
        refine az_E.sn 1 (pc' := 74) (L' := [.retAddr 0, .retAddr 0, .int v2, .retAddr 0, .int v4, .int v5, .ref 71, .ref 67]) (S' := [.int (-12 : Int32)]) (σ' := (97, I, J, R)) rfl ?_
        have h := Option.some.inj h
        subst h
        exact az_E.ret (v := some (.int (-12 : Int32))) (σ' := (97, I, J, R)) rfl hQ
      · rw [if_neg hc_1836] at h
        refine az_E.sn 2 (pc' := 13) (L' := [.ref 71]) (S' := [.int (1 : Int32)]) (σ' := (97, I, J, R)) rfl ?_
        refine az_E.ret (v := some (.int (1 : Int32))) (σ' := (97, I, J, R)) rfl ?_
        show az_E az_F ex 2 128 56 [.retAddr 0, .retAddr 0, .int v2, .retAddr 0, .int v4, .int v5, .ref 71, .ref 67] [.int (1 : Int32)] (97, I, J, R) _
        refine az_E.br (c := (1 : Int32) = 0) (tt := 72) (ff := 59) (L' := [.retAddr 0, .retAddr 0, .int v2, .retAddr 0, .int v4, .int v5, .ref 71, .ref 67]) (S' := []) (σ' := (97, I, J, R)) rfl (fun hn => absurd hn (by decide)) (fun _ => ?_)
        refine az_E.sn 3 (pc' := 66) (L' := [.retAddr 0, .retAddr 0, .int v2, .retAddr 0, .int v4, .int v5, .ref 71, .ref 67]) (S' := [.int (I 71 1), .ref 67]) (σ' := (97, I, J, R)) rfl ?_
        refine az_E.call (d := 1) (k' := 56) (vs := [.ref 67, .int (I 71 1)]) (pc' := 69) (S' := []) rfl ?_ (fun _ _ hq => hq)
        show az_E az_F ex 1 56 0 [.ref 67, .int (I 71 1)] [] (97, I, J, R) _
        refine az_E.sn 1 (pc' := 1) (L' := [.ref 67, .int (I 71 1)]) (S' := [.ref 67]) (σ' := (97, I, J, R)) rfl ?_
        refine az_E.call (d := 0) (k' := 55) (vs := [.ref 67]) (pc' := 4) (S' := []) rfl ?_ (fun _ _ hq => hq)
        show az_E az_F ex 0 55 0 [.ref 67] [] (97, I, J, R) _
        refine az_E.sn 3 (pc' := 5) (L' := [.ref 67]) (S' := [.int (-1 : Int32), .int (I 67 1)]) (σ' := (97, I, J, R)) rfl ?_
        refine az_E.br (c := (I 67 1) = (-1 : Int32)) (tt := 12) (ff := 8) (L' := [.ref 67]) (S' := []) (σ' := (97, I, J, R)) rfl (fun hc_1837 => ?_) (fun hc_1837 => ?_)
        · rw [if_pos hc_1837] at h
          refine az_E.sn 1 (pc' := 13) (L' := [.ref 67]) (S' := [.int (0 : Int32)]) (σ' := (97, I, J, R)) rfl ?_
          refine az_E.ret (v := some (.int (0 : Int32))) (σ' := (97, I, J, R)) rfl ?_
          show az_E az_F ex 1 56 4 [.ref 67, .int (I 71 1)] [.int (0 : Int32)] (97, I, J, R) _
          refine az_E.br (c := (0 : Int32) = 0) (tt := 19) (ff := 7) (L' := [.ref 67, .int (I 71 1)]) (S' := []) (σ' := (97, I, J, R)) rfl (fun _ => ?_) (fun hn => absurd (by decide) hn)
          refine az_E.sn 1 (pc' := 20) (L' := [.ref 67, .int (I 71 1)]) (S' := [.int (0 : Int32)]) (σ' := (97, I, J, R)) rfl ?_
          refine az_E.ret (v := some (.int (0 : Int32))) (σ' := (97, I, J, R)) rfl ?_
          show az_E az_F ex 2 128 69 [.retAddr 0, .retAddr 0, .int v2, .retAddr 0, .int v4, .int v5, .ref 71, .ref 67] [.int (0 : Int32)] (97, I, J, R) _
          refine az_E.br (c := (0 : Int32) = 0) (tt := 72) (ff := 75) (L' := [.retAddr 0, .retAddr 0, .int v2, .retAddr 0, .int v4, .int v5, .ref 71, .ref 67]) (S' := []) (σ' := (97, I, J, R)) rfl (fun _ => ?_) (fun hn => absurd (by decide) hn)
          refine az_E.sn 1 (pc' := 74) (L' := [.retAddr 0, .retAddr 0, .int v2, .retAddr 0, .int v4, .int v5, .ref 71, .ref 67]) (S' := [.int (-12 : Int32)]) (σ' := (97, I, J, R)) rfl ?_
          have h := Option.some.inj h
          subst h
          exact az_E.ret (v := some (.int (-12 : Int32))) (σ' := (97, I, J, R)) rfl hQ
        · rw [if_neg hc_1837] at h
          refine az_E.sn 2 (pc' := 13) (L' := [.ref 67]) (S' := [.int (1 : Int32)]) (σ' := (97, I, J, R)) rfl ?_
          refine az_E.ret (v := some (.int (1 : Int32))) (σ' := (97, I, J, R)) rfl ?_
          show az_E az_F ex 1 56 4 [.ref 67, .int (I 71 1)] [.int (1 : Int32)] (97, I, J, R) _
          refine az_E.br (c := (1 : Int32) = 0) (tt := 19) (ff := 7) (L' := [.ref 67, .int (I 71 1)]) (S' := []) (σ' := (97, I, J, R)) rfl (fun hn => absurd hn (by decide)) (fun _ => ?_)
          refine az_E.sn 3 (pc' := 12) (L' := [.ref 67, .int (I 71 1)]) (S' := [.int (I 71 1), .int (I 67 1)]) (σ' := (97, I, J, R)) rfl ?_
          refine az_E.br (c := (I 67 1) = (I 71 1)) (tt := 15) (ff := 19) (L' := [.ref 67, .int (I 71 1)]) (S' := []) (σ' := (97, I, J, R)) rfl (fun hc_1838 => ?_) (fun hc_1838 => ?_)
          · rw [if_pos hc_1838] at h
            refine az_E.sn 2 (pc' := 20) (L' := [.ref 67, .int (I 71 1)]) (S' := [.int (1 : Int32)]) (σ' := (97, I, J, R)) rfl ?_
            refine az_E.ret (v := some (.int (1 : Int32))) (σ' := (97, I, J, R)) rfl ?_
            show az_E az_F ex 2 128 69 [.retAddr 0, .retAddr 0, .int v2, .retAddr 0, .int v4, .int v5, .ref 71, .ref 67] [.int (1 : Int32)] (97, I, J, R) _
            refine az_E.br (c := (1 : Int32) = 0) (tt := 72) (ff := 75) (L' := [.retAddr 0, .retAddr 0, .int v2, .retAddr 0, .int v4, .int v5, .ref 71, .ref 67]) (S' := []) (σ' := (97, I, J, R)) rfl (fun hn => absurd hn (by decide)) (fun _ => ?_)
            refine az_E.sn 3 (pc' := 80) (L' := [.retAddr 0, .retAddr 0, .int v2, .retAddr 0, .int v4, .int v5, .ref 71, .ref 67]) (S' := [.int v5, .int v2, .ref 71]) (σ' := (97, I, J, R)) rfl ?_
            refine az_E.call (d := 1) (k' := 60) (vs := [.ref 71, .int v2, .int v5]) (pc' := 83) (S' := []) rfl ?_ (fun _ _ hq => hq)
            show az_E az_F ex 1 60 0 [.ref 71, .int v2, .int v5] [] (97, I, J, R) _
            refine az_E.sn 1 (pc' := 1) (L' := [.ref 71, .int v2, .int v5]) (S' := [.int v2]) (σ' := (97, I, J, R)) rfl ?_
            refine az_E.br (c := v2 < 0) (tt := 30) (ff := 4) (L' := [.ref 71, .int v2, .int v5]) (S' := []) (σ' := (97, I, J, R)) rfl (fun hc_1839 => ?_) (fun hc_1839 => ?_)
            · rw [if_pos hc_1839] at h
              refine az_E.sn 1 (pc' := 31) (L' := [.ref 71, .int v2, .int v5]) (S' := [.int (0 : Int32)]) (σ' := (97, I, J, R)) rfl ?_
              refine az_E.ret (v := some (.int (0 : Int32))) (σ' := (97, I, J, R)) rfl ?_
              show az_E az_F ex 2 128 83 [.retAddr 0, .retAddr 0, .int v2, .retAddr 0, .int v4, .int v5, .ref 71, .ref 67] [.int (0 : Int32)] (97, I, J, R) _
              refine az_E.br (c := (0 : Int32) = 0) (tt := 98) (ff := 86) (L' := [.retAddr 0, .retAddr 0, .int v2, .retAddr 0, .int v4, .int v5, .ref 71, .ref 67]) (S' := []) (σ' := (97, I, J, R)) rfl (fun _ => ?_) (fun hn => absurd (by decide) hn)
              refine az_E.sn 1 (pc' := 100) (L' := [.retAddr 0, .retAddr 0, .int v2, .retAddr 0, .int v4, .int v5, .ref 71, .ref 67]) (S' := [.int (-13 : Int32)]) (σ' := (97, I, J, R)) rfl ?_
              have h := Option.some.inj h
              subst h
              exact az_E.ret (v := some (.int (-13 : Int32))) (σ' := (97, I, J, R)) rfl hQ
            · rw [if_neg hc_1839] at h
              refine az_E.sn 1 (pc' := 5) (L' := [.ref 71, .int v2, .int v5]) (S' := [.int v5]) (σ' := (97, I, J, R)) rfl ?_
              refine az_E.br (c := v5 < 0) (tt := 30) (ff := 8) (L' := [.ref 71, .int v2, .int v5]) (S' := []) (σ' := (97, I, J, R)) rfl (fun hc_1840 => ?_) (fun hc_1840 => ?_)
              · rw [if_pos hc_1840] at h
                refine az_E.sn 1 (pc' := 31) (L' := [.ref 71, .int v2, .int v5]) (S' := [.int (0 : Int32)]) (σ' := (97, I, J, R)) rfl ?_
                refine az_E.ret (v := some (.int (0 : Int32))) (σ' := (97, I, J, R)) rfl ?_
                show az_E az_F ex 2 128 83 [.retAddr 0, .retAddr 0, .int v2, .retAddr 0, .int v4, .int v5, .ref 71, .ref 67] [.int (0 : Int32)] (97, I, J, R) _
                refine az_E.br (c := (0 : Int32) = 0) (tt := 98) (ff := 86) (L' := [.retAddr 0, .retAddr 0, .int v2, .retAddr 0, .int v4, .int v5, .ref 71, .ref 67]) (S' := []) (σ' := (97, I, J, R)) rfl (fun _ => ?_) (fun hn => absurd (by decide) hn)
                refine az_E.sn 1 (pc' := 100) (L' := [.retAddr 0, .retAddr 0, .int v2, .retAddr 0, .int v4, .int v5, .ref 71, .ref 67]) (S' := [.int (-13 : Int32)]) (σ' := (97, I, J, R)) rfl ?_
                have h := Option.some.inj h
                subst h
                exact az_E.ret (v := some (.int (-13 : Int32))) (σ' := (97, I, J, R)) rfl hQ
              · rw [if_neg hc_1840] at h
                refine az_E.sn 3 (pc' := 13) (L' := [.ref 71, .int v2, .int v5]) (S' := [.int (I 71 2), .int v2]) (σ' := (97, I, J, R)) rfl ?_
                refine az_E.br (c := (I 71 2) < v2) (tt := 30) (ff := 16) (L' := [.ref 71, .int v2, .int v5]) (S' := []) (σ' := (97, I, J, R)) rfl (fun hc_1841 => ?_) (fun hc_1841 => ?_)
                · rw [if_pos hc_1841] at h
                  refine az_E.sn 1 (pc' := 31) (L' := [.ref 71, .int v2, .int v5]) (S' := [.int (0 : Int32)]) (σ' := (97, I, J, R)) rfl ?_
                  refine az_E.ret (v := some (.int (0 : Int32))) (σ' := (97, I, J, R)) rfl ?_
                  show az_E az_F ex 2 128 83 [.retAddr 0, .retAddr 0, .int v2, .retAddr 0, .int v4, .int v5, .ref 71, .ref 67] [.int (0 : Int32)] (97, I, J, R) _
                  refine az_E.br (c := (0 : Int32) = 0) (tt := 98) (ff := 86) (L' := [.retAddr 0, .retAddr 0, .int v2, .retAddr 0, .int v4, .int v5, .ref 71, .ref 67]) (S' := []) (σ' := (97, I, J, R)) rfl (fun _ => ?_) (fun hn => absurd (by decide) hn)
                  refine az_E.sn 1 (pc' := 100) (L' := [.retAddr 0, .retAddr 0, .int v2, .retAddr 0, .int v4, .int v5, .ref 71, .ref 67]) (S' := [.int (-13 : Int32)]) (σ' := (97, I, J, R)) rfl ?_
                  have h := Option.some.inj h
                  subst h
                  exact az_E.ret (v := some (.int (-13 : Int32))) (σ' := (97, I, J, R)) rfl hQ
                · rw [if_neg hc_1841] at h
                  refine az_E.sn 5 (pc' := 23) (L' := [.ref 71, .int v2, .int v5]) (S' := [.int ((I 71 2) - v2), .int v5]) (σ' := (97, I, J, R)) rfl ?_
                  refine az_E.br (c := ((I 71 2) - v2) < v5) (tt := 30) (ff := 26) (L' := [.ref 71, .int v2, .int v5]) (S' := []) (σ' := (97, I, J, R)) rfl (fun hc_1842 => ?_) (fun hc_1842 => ?_)
                  · rw [if_pos hc_1842] at h
                    refine az_E.sn 1 (pc' := 31) (L' := [.ref 71, .int v2, .int v5]) (S' := [.int (0 : Int32)]) (σ' := (97, I, J, R)) rfl ?_
                    refine az_E.ret (v := some (.int (0 : Int32))) (σ' := (97, I, J, R)) rfl ?_
                    show az_E az_F ex 2 128 83 [.retAddr 0, .retAddr 0, .int v2, .retAddr 0, .int v4, .int v5, .ref 71, .ref 67] [.int (0 : Int32)] (97, I, J, R) _
                    refine az_E.br (c := (0 : Int32) = 0) (tt := 98) (ff := 86) (L' := [.retAddr 0, .retAddr 0, .int v2, .retAddr 0, .int v4, .int v5, .ref 71, .ref 67]) (S' := []) (σ' := (97, I, J, R)) rfl (fun _ => ?_) (fun hn => absurd (by decide) hn)
                    refine az_E.sn 1 (pc' := 100) (L' := [.retAddr 0, .retAddr 0, .int v2, .retAddr 0, .int v4, .int v5, .ref 71, .ref 67]) (S' := [.int (-13 : Int32)]) (σ' := (97, I, J, R)) rfl ?_
                    have h := Option.some.inj h
                    subst h
                    exact az_E.ret (v := some (.int (-13 : Int32))) (σ' := (97, I, J, R)) rfl hQ
                  · rw [if_neg hc_1842] at h
                    refine az_E.sn 2 (pc' := 31) (L' := [.ref 71, .int v2, .int v5]) (S' := [.int (1 : Int32)]) (σ' := (97, I, J, R)) rfl ?_
                    refine az_E.ret (v := some (.int (1 : Int32))) (σ' := (97, I, J, R)) rfl ?_
                    show az_E az_F ex 2 128 83 [.retAddr 0, .retAddr 0, .int v2, .retAddr 0, .int v4, .int v5, .ref 71, .ref 67] [.int (1 : Int32)] (97, I, J, R) _
                    refine az_E.br (c := (1 : Int32) = 0) (tt := 98) (ff := 86) (L' := [.retAddr 0, .retAddr 0, .int v2, .retAddr 0, .int v4, .int v5, .ref 71, .ref 67]) (S' := []) (σ' := (97, I, J, R)) rfl (fun hn => absurd hn (by decide)) (fun _ => ?_)
                    refine az_E.sn 3 (pc' := 92) (L' := [.retAddr 0, .retAddr 0, .int v2, .retAddr 0, .int v4, .int v5, .ref 71, .ref 67]) (S' := [.int v5, .int v4, .ref 67]) (σ' := (97, I, J, R)) rfl ?_
                    refine az_E.call (d := 1) (k' := 60) (vs := [.ref 67, .int v4, .int v5]) (pc' := 95) (S' := []) rfl ?_ (fun _ _ hq => hq)
                    show az_E az_F ex 1 60 0 [.ref 67, .int v4, .int v5] [] (97, I, J, R) _
                    refine az_E.sn 1 (pc' := 1) (L' := [.ref 67, .int v4, .int v5]) (S' := [.int v4]) (σ' := (97, I, J, R)) rfl ?_
                    refine az_E.br (c := v4 < 0) (tt := 30) (ff := 4) (L' := [.ref 67, .int v4, .int v5]) (S' := []) (σ' := (97, I, J, R)) rfl (fun hc_1843 => ?_) (fun hc_1843 => ?_)
                    · rw [if_pos hc_1843] at h
                      refine az_E.sn 1 (pc' := 31) (L' := [.ref 67, .int v4, .int v5]) (S' := [.int (0 : Int32)]) (σ' := (97, I, J, R)) rfl ?_
                      refine az_E.ret (v := some (.int (0 : Int32))) (σ' := (97, I, J, R)) rfl ?_
                      show az_E az_F ex 2 128 95 [.retAddr 0, .retAddr 0, .int v2, .retAddr 0, .int v4, .int v5, .ref 71, .ref 67] [.int (0 : Int32)] (97, I, J, R) _
                      refine az_E.br (c := (0 : Int32) = 0) (tt := 98) (ff := 101) (L' := [.retAddr 0, .retAddr 0, .int v2, .retAddr 0, .int v4, .int v5, .ref 71, .ref 67]) (S' := []) (σ' := (97, I, J, R)) rfl (fun _ => ?_) (fun hn => absurd (by decide) hn)
                      refine az_E.sn 1 (pc' := 100) (L' := [.retAddr 0, .retAddr 0, .int v2, .retAddr 0, .int v4, .int v5, .ref 71, .ref 67]) (S' := [.int (-13 : Int32)]) (σ' := (97, I, J, R)) rfl ?_
                      have h := Option.some.inj h
                      subst h
                      exact az_E.ret (v := some (.int (-13 : Int32))) (σ' := (97, I, J, R)) rfl hQ
                    · rw [if_neg hc_1843] at h
                      refine az_E.sn 1 (pc' := 5) (L' := [.ref 67, .int v4, .int v5]) (S' := [.int v5]) (σ' := (97, I, J, R)) rfl ?_
                      refine az_E.br (c := v5 < 0) (tt := 30) (ff := 8) (L' := [.ref 67, .int v4, .int v5]) (S' := []) (σ' := (97, I, J, R)) rfl (fun hc_1844 => ?_) (fun hc_1844 => ?_)
                      · rw [if_pos hc_1844] at h
                        refine az_E.sn 1 (pc' := 31) (L' := [.ref 67, .int v4, .int v5]) (S' := [.int (0 : Int32)]) (σ' := (97, I, J, R)) rfl ?_
                        refine az_E.ret (v := some (.int (0 : Int32))) (σ' := (97, I, J, R)) rfl ?_
                        show az_E az_F ex 2 128 95 [.retAddr 0, .retAddr 0, .int v2, .retAddr 0, .int v4, .int v5, .ref 71, .ref 67] [.int (0 : Int32)] (97, I, J, R) _
                        refine az_E.br (c := (0 : Int32) = 0) (tt := 98) (ff := 101) (L' := [.retAddr 0, .retAddr 0, .int v2, .retAddr 0, .int v4, .int v5, .ref 71, .ref 67]) (S' := []) (σ' := (97, I, J, R)) rfl (fun _ => ?_) (fun hn => absurd (by decide) hn)
                        refine az_E.sn 1 (pc' := 100) (L' := [.retAddr 0, .retAddr 0, .int v2, .retAddr 0, .int v4, .int v5, .ref 71, .ref 67]) (S' := [.int (-13 : Int32)]) (σ' := (97, I, J, R)) rfl ?_
                        have h := Option.some.inj h
                        subst h
                        exact az_E.ret (v := some (.int (-13 : Int32))) (σ' := (97, I, J, R)) rfl hQ
                      · rw [if_neg hc_1844] at h
                        refine az_E.sn 3 (pc' := 13) (L' := [.ref 67, .int v4, .int v5]) (S' := [.int (I 67 2), .int v4]) (σ' := (97, I, J, R)) rfl ?_
                        refine az_E.br (c := (I 67 2) < v4) (tt := 30) (ff := 16) (L' := [.ref 67, .int v4, .int v5]) (S' := []) (σ' := (97, I, J, R)) rfl (fun hc_1845 => ?_) (fun hc_1845 => ?_)
                        · rw [if_pos hc_1845] at h
                          refine az_E.sn 1 (pc' := 31) (L' := [.ref 67, .int v4, .int v5]) (S' := [.int (0 : Int32)]) (σ' := (97, I, J, R)) rfl ?_
                          refine az_E.ret (v := some (.int (0 : Int32))) (σ' := (97, I, J, R)) rfl ?_
                          show az_E az_F ex 2 128 95 [.retAddr 0, .retAddr 0, .int v2, .retAddr 0, .int v4, .int v5, .ref 71, .ref 67] [.int (0 : Int32)] (97, I, J, R) _
                          refine az_E.br (c := (0 : Int32) = 0) (tt := 98) (ff := 101) (L' := [.retAddr 0, .retAddr 0, .int v2, .retAddr 0, .int v4, .int v5, .ref 71, .ref 67]) (S' := []) (σ' := (97, I, J, R)) rfl (fun _ => ?_) (fun hn => absurd (by decide) hn)
                          refine az_E.sn 1 (pc' := 100) (L' := [.retAddr 0, .retAddr 0, .int v2, .retAddr 0, .int v4, .int v5, .ref 71, .ref 67]) (S' := [.int (-13 : Int32)]) (σ' := (97, I, J, R)) rfl ?_
                          have h := Option.some.inj h
                          subst h
                          exact az_E.ret (v := some (.int (-13 : Int32))) (σ' := (97, I, J, R)) rfl hQ
                        · rw [if_neg hc_1845] at h
                          refine az_E.sn 5 (pc' := 23) (L' := [.ref 67, .int v4, .int v5]) (S' := [.int ((I 67 2) - v4), .int v5]) (σ' := (97, I, J, R)) rfl ?_
                          refine az_E.br (c := ((I 67 2) - v4) < v5) (tt := 30) (ff := 26) (L' := [.ref 67, .int v4, .int v5]) (S' := []) (σ' := (97, I, J, R)) rfl (fun hc_1846 => ?_) (fun hc_1846 => ?_)
                          · rw [if_pos hc_1846] at h
                            refine az_E.sn 1 (pc' := 31) (L' := [.ref 67, .int v4, .int v5]) (S' := [.int (0 : Int32)]) (σ' := (97, I, J, R)) rfl ?_
                            refine az_E.ret (v := some (.int (0 : Int32))) (σ' := (97, I, J, R)) rfl ?_
                            show az_E az_F ex 2 128 95 [.retAddr 0, .retAddr 0, .int v2, .retAddr 0, .int v4, .int v5, .ref 71, .ref 67] [.int (0 : Int32)] (97, I, J, R) _
                            refine az_E.br (c := (0 : Int32) = 0) (tt := 98) (ff := 101) (L' := [.retAddr 0, .retAddr 0, .int v2, .retAddr 0, .int v4, .int v5, .ref 71, .ref 67]) (S' := []) (σ' := (97, I, J, R)) rfl (fun _ => ?_) (fun hn => absurd (by decide) hn)
                            refine az_E.sn 1 (pc' := 100) (L' := [.retAddr 0, .retAddr 0, .int v2, .retAddr 0, .int v4, .int v5, .ref 71, .ref 67]) (S' := [.int (-13 : Int32)]) (σ' := (97, I, J, R)) rfl ?_
                            have h := Option.some.inj h
                            subst h
                            exact az_E.ret (v := some (.int (-13 : Int32))) (σ' := (97, I, J, R)) rfl hQ
                          · rw [if_neg hc_1846] at h
                            refine az_E.sn 2 (pc' := 31) (L' := [.ref 67, .int v4, .int v5]) (S' := [.int (1 : Int32)]) (σ' := (97, I, J, R)) rfl ?_
                            refine az_E.ret (v := some (.int (1 : Int32))) (σ' := (97, I, J, R)) rfl ?_
                            show az_E az_F ex 2 128 95 [.retAddr 0, .retAddr 0, .int v2, .retAddr 0, .int v4, .int v5, .ref 71, .ref 67] [.int (1 : Int32)] (97, I, J, R) _
                            refine az_E.br (c := (1 : Int32) = 0) (tt := 98) (ff := 101) (L' := [.retAddr 0, .retAddr 0, .int v2, .retAddr 0, .int v4, .int v5, .ref 71, .ref 67]) (S' := []) (σ' := (97, I, J, R)) rfl (fun hn => absurd hn (by decide)) (fun _ => ?_)
                            refine az_E.sn 7 (pc' := 116) (L' := [.retAddr 0, .retAddr 0, .int v2, .retAddr 0, .int v4, .int v5, .ref 71, .ref 67]) (S' := [.int v5, .int v4, .ref (67 + 1), .int v2, .ref (71 + 1)]) (σ' := (97, I, J, R)) rfl ?_
                            by_cases hc_1847 : v2 < 0 ∨ v4 < 0 ∨ v5 < 0 ∨ 60 < v2.toNatClampNeg + v5.toNatClampNeg ∨ 60 < v4.toNatClampNeg + v5.toNatClampNeg
                            · rw [if_pos hc_1847] at h; cases h
                            · rw [if_neg hc_1847] at h
                              refine az_E.o (o := az_cp az_F (97, I, J, R) (71 + 1) v2 (67 + 1) v4 v5) (pc' := 119) (L' := [.retAddr 0, .retAddr 0, .int v2, .retAddr 0, .int v4, .int v5, .ref 71, .ref 67]) (S' := []) (x := (97, I, (az_ur J (67 + 1) (va_cpy (J (71 + 1)) (J (67 + 1)) v2.toNatClampNeg v4.toNatClampNeg v5.toNatClampNeg)), R)) rfl (if_neg hc_1847) ?_
                              refine az_E.sn 1 (pc' := 121) (L' := [.retAddr 0, .retAddr 0, .int v2, .retAddr 0, .int v4, .int v5, .ref 71, .ref 67]) (S' := [.int v5]) (σ' := (97, I, (az_ur J (67 + 1) (va_cpy (J (71 + 1)) (J (67 + 1)) v2.toNatClampNeg v4.toNatClampNeg v5.toNatClampNeg)), R)) rfl ?_
                              have h := Option.some.inj h
                              subst h
                              exact az_E.ret (v := some (.int v5)) (σ' := (97, I, (az_ur J (67 + 1) (va_cpy (J (71 + 1)) (J (67 + 1)) v2.toNatClampNeg v4.toNatClampNeg v5.toNatClampNeg)), R)) rfl hQ
          · rw [if_neg hc_1838] at h
            refine az_E.sn 1 (pc' := 20) (L' := [.ref 67, .int (I 71 1)]) (S' := [.int (0 : Int32)]) (σ' := (97, I, J, R)) rfl ?_
            refine az_E.ret (v := some (.int (0 : Int32))) (σ' := (97, I, J, R)) rfl ?_
            show az_E az_F ex 2 128 69 [.retAddr 0, .retAddr 0, .int v2, .retAddr 0, .int v4, .int v5, .ref 71, .ref 67] [.int (0 : Int32)] (97, I, J, R) _
            refine az_E.br (c := (0 : Int32) = 0) (tt := 72) (ff := 75) (L' := [.retAddr 0, .retAddr 0, .int v2, .retAddr 0, .int v4, .int v5, .ref 71, .ref 67]) (S' := []) (σ' := (97, I, J, R)) rfl (fun _ => ?_) (fun hn => absurd (by decide) hn)
            refine az_E.sn 1 (pc' := 74) (L' := [.retAddr 0, .retAddr 0, .int v2, .retAddr 0, .int v4, .int v5, .ref 71, .ref 67]) (S' := [.int (-12 : Int32)]) (σ' := (97, I, J, R)) rfl ?_
            have h := Option.some.inj h
            subst h
            exact az_E.ret (v := some (.int (-12 : Int32))) (σ' := (97, I, J, R)) rfl hQ
set_option maxRecDepth 100000 in
set_option maxHeartbeats 4000000 in
theorem re_X_shift_30_71_69 {ex : az_X} {I : Nat → Nat → Int32} {J : Nat → Nat → Int64} {R : Nat → Nat → Option Nat} {v2 : Int32} {v4 : Int32} {v5 : Int32} {x : Int32 × (Nat → Nat → Int64)} (h : rs_X_shift_30 71 69 I J v2 v4 v5 = some x) {Q : Option Value → az_S → Prop} (hQ : Q (some (.int x.1)) (97, I, x.2, R)) : az_E az_F ex 2 128 30 [.retAddr 0, .retAddr 0, .int v2, .retAddr 0, .int v4, .int v5, .ref 71, .retAddr 0] [.ref 69] (97, I, J, R) Q := by
  unfold rs_X_shift_30 at h
  refine az_E.sn 2 (pc' := 34) (L' := [.retAddr 0, .retAddr 0, .int v2, .retAddr 0, .int v4, .int v5, .ref 71, .ref 69]) (S' := [.ref 71]) (σ' := (97, I, J, R)) rfl ?_
  refine az_E.call (d := 1) (k' := 54) (vs := [.ref 71]) (pc' := 37) (S' := []) rfl ?_ (fun _ _ hq => hq)
  show az_E az_F ex 1 54 0 [.ref 71] [] (97, I, J, R) _
  refine az_E.sn 3 (pc' := 5) (L' := [.ref 71]) (S' := [.int (-1 : Int32), .int (I 71 0)]) (σ' := (97, I, J, R)) rfl ?_
  refine az_E.br (c := (I 71 0) = (-1 : Int32)) (tt := 8) (ff := 20) (L' := [.ref 71]) (S' := []) (σ' := (97, I, J, R)) rfl (fun hc_1848 => ?_) (fun hc_1848 => ?_)
  · rw [if_pos hc_1848] at h
    refine az_E.sn 3 (pc' := 13) (L' := [.ref 71]) (S' := [.int (-1 : Int32), .int (I 71 1)]) (σ' := (97, I, J, R)) rfl ?_
    refine az_E.br (c := (I 71 1) = (-1 : Int32)) (tt := 16) (ff := 20) (L' := [.ref 71]) (S' := []) (σ' := (97, I, J, R)) rfl (fun hc_1849 => ?_) (fun hc_1849 => ?_)
    · rw [if_pos hc_1849] at h
      refine az_E.sn 2 (pc' := 21) (L' := [.ref 71]) (S' := [.int (1 : Int32)]) (σ' := (97, I, J, R)) rfl ?_
      refine az_E.ret (v := some (.int (1 : Int32))) (σ' := (97, I, J, R)) rfl ?_
      show az_E az_F ex 2 128 37 [.retAddr 0, .retAddr 0, .int v2, .retAddr 0, .int v4, .int v5, .ref 71, .ref 69] [.int (1 : Int32)] (97, I, J, R) _
      refine az_E.br (c := (1 : Int32) = 0) (tt := 40) (ff := 48) (L' := [.retAddr 0, .retAddr 0, .int v2, .retAddr 0, .int v4, .int v5, .ref 71, .ref 69]) (S' := []) (σ' := (97, I, J, R)) rfl (fun hn => absurd hn (by decide)) (fun _ => ?_)
      refine az_E.sn 1 (pc' := 50) (L' := [.retAddr 0, .retAddr 0, .int v2, .retAddr 0, .int v4, .int v5, .ref 71, .ref 69]) (S' := [.int (-11 : Int32)]) (σ' := (97, I, J, R)) rfl ?_
      have h := Option.some.inj h
      subst h
      exact az_E.ret (v := some (.int (-11 : Int32))) (σ' := (97, I, J, R)) rfl hQ
    · rw [if_neg hc_1849] at h
      refine az_E.sn 1 (pc' := 21) (L' := [.ref 71]) (S' := [.int (0 : Int32)]) (σ' := (97, I, J, R)) rfl ?_
      refine az_E.ret (v := some (.int (0 : Int32))) (σ' := (97, I, J, R)) rfl ?_
      show az_E az_F ex 2 128 37 [.retAddr 0, .retAddr 0, .int v2, .retAddr 0, .int v4, .int v5, .ref 71, .ref 69] [.int (0 : Int32)] (97, I, J, R) _
      refine az_E.br (c := (0 : Int32) = 0) (tt := 40) (ff := 48) (L' := [.retAddr 0, .retAddr 0, .int v2, .retAddr 0, .int v4, .int v5, .ref 71, .ref 69]) (S' := []) (σ' := (97, I, J, R)) rfl (fun _ => ?_) (fun hn => absurd (by decide) hn)
      refine az_E.sn 1 (pc' := 42) (L' := [.retAddr 0, .retAddr 0, .int v2, .retAddr 0, .int v4, .int v5, .ref 71, .ref 69]) (S' := [.ref 69]) (σ' := (97, I, J, R)) rfl ?_
      refine az_E.call (d := 1) (k' := 54) (vs := [.ref 69]) (pc' := 45) (S' := []) rfl ?_ (fun _ _ hq => hq)
      show az_E az_F ex 1 54 0 [.ref 69] [] (97, I, J, R) _
      refine az_E.sn 3 (pc' := 5) (L' := [.ref 69]) (S' := [.int (-1 : Int32), .int (I 69 0)]) (σ' := (97, I, J, R)) rfl ?_
      refine az_E.br (c := (I 69 0) = (-1 : Int32)) (tt := 8) (ff := 20) (L' := [.ref 69]) (S' := []) (σ' := (97, I, J, R)) rfl (fun hc_1850 => ?_) (fun hc_1850 => ?_)
      · rw [if_pos hc_1850] at h
        refine az_E.sn 3 (pc' := 13) (L' := [.ref 69]) (S' := [.int (-1 : Int32), .int (I 69 1)]) (σ' := (97, I, J, R)) rfl ?_
        refine az_E.br (c := (I 69 1) = (-1 : Int32)) (tt := 16) (ff := 20) (L' := [.ref 69]) (S' := []) (σ' := (97, I, J, R)) rfl (fun hc_1851 => ?_) (fun hc_1851 => ?_)
        · rw [if_pos hc_1851] at h
          refine az_E.sn 2 (pc' := 21) (L' := [.ref 69]) (S' := [.int (1 : Int32)]) (σ' := (97, I, J, R)) rfl ?_
          refine az_E.ret (v := some (.int (1 : Int32))) (σ' := (97, I, J, R)) rfl ?_
          show az_E az_F ex 2 128 45 [.retAddr 0, .retAddr 0, .int v2, .retAddr 0, .int v4, .int v5, .ref 71, .ref 69] [.int (1 : Int32)] (97, I, J, R) _
          refine az_E.br (c := (1 : Int32) = 0) (tt := 51) (ff := 48) (L' := [.retAddr 0, .retAddr 0, .int v2, .retAddr 0, .int v4, .int v5, .ref 71, .ref 69]) (S' := []) (σ' := (97, I, J, R)) rfl (fun hn => absurd hn (by decide)) (fun _ => ?_)
          refine az_E.sn 1 (pc' := 50) (L' := [.retAddr 0, .retAddr 0, .int v2, .retAddr 0, .int v4, .int v5, .ref 71, .ref 69]) (S' := [.int (-11 : Int32)]) (σ' := (97, I, J, R)) rfl ?_
          have h := Option.some.inj h
          subst h
          exact az_E.ret (v := some (.int (-11 : Int32))) (σ' := (97, I, J, R)) rfl hQ
        · rw [if_neg hc_1851] at h
          refine az_E.sn 1 (pc' := 21) (L' := [.ref 69]) (S' := [.int (0 : Int32)]) (σ' := (97, I, J, R)) rfl ?_
          refine az_E.ret (v := some (.int (0 : Int32))) (σ' := (97, I, J, R)) rfl ?_
          show az_E az_F ex 2 128 45 [.retAddr 0, .retAddr 0, .int v2, .retAddr 0, .int v4, .int v5, .ref 71, .ref 69] [.int (0 : Int32)] (97, I, J, R) _
          refine az_E.br (c := (0 : Int32) = 0) (tt := 51) (ff := 48) (L' := [.retAddr 0, .retAddr 0, .int v2, .retAddr 0, .int v4, .int v5, .ref 71, .ref 69]) (S' := []) (σ' := (97, I, J, R)) rfl (fun _ => ?_) (fun hn => absurd (by decide) hn)
          refine az_E.sn 1 (pc' := 53) (L' := [.retAddr 0, .retAddr 0, .int v2, .retAddr 0, .int v4, .int v5, .ref 71, .ref 69]) (S' := [.ref 71]) (σ' := (97, I, J, R)) rfl ?_
          refine az_E.call (d := 1) (k' := 55) (vs := [.ref 71]) (pc' := 56) (S' := []) rfl ?_ (fun _ _ hq => hq)
          show az_E az_F ex 1 55 0 [.ref 71] [] (97, I, J, R) _
          refine az_E.sn 3 (pc' := 5) (L' := [.ref 71]) (S' := [.int (-1 : Int32), .int (I 71 1)]) (σ' := (97, I, J, R)) rfl ?_
          refine az_E.br (c := (I 71 1) = (-1 : Int32)) (tt := 12) (ff := 8) (L' := [.ref 71]) (S' := []) (σ' := (97, I, J, R)) rfl (fun hc_1852 => ?_) (fun hc_1852 => ?_)
          · rw [if_pos hc_1852] at h
            refine az_E.sn 1 (pc' := 13) (L' := [.ref 71]) (S' := [.int (0 : Int32)]) (σ' := (97, I, J, R)) rfl ?_
            refine az_E.ret (v := some (.int (0 : Int32))) (σ' := (97, I, J, R)) rfl ?_
            show az_E az_F ex 2 128 56 [.retAddr 0, .retAddr 0, .int v2, .retAddr 0, .int v4, .int v5, .ref 71, .ref 69] [.int (0 : Int32)] (97, I, J, R) _
            refine az_E.br (c := (0 : Int32) = 0) (tt := 72) (ff := 59) (L' := [.retAddr 0, .retAddr 0, .int v2, .retAddr 0, .int v4, .int v5, .ref 71, .ref 69]) (S' := []) (σ' := (97, I, J, R)) rfl (fun _ => ?_) (fun hn => absurd (by decide) hn)
            refine az_E.sn 1 (pc' := 74) (L' := [.retAddr 0, .retAddr 0, .int v2, .retAddr 0, .int v4, .int v5, .ref 71, .ref 69]) (S' := [.int (-12 : Int32)]) (σ' := (97, I, J, R)) rfl ?_
            have h := Option.some.inj h
            subst h
            exact az_E.ret (v := some (.int (-12 : Int32))) (σ' := (97, I, J, R)) rfl hQ
          · rw [if_neg hc_1852] at h
            refine az_E.sn 2 (pc' := 13) (L' := [.ref 71]) (S' := [.int (1 : Int32)]) (σ' := (97, I, J, R)) rfl ?_
            refine az_E.ret (v := some (.int (1 : Int32))) (σ' := (97, I, J, R)) rfl ?_
            show az_E az_F ex 2 128 56 [.retAddr 0, .retAddr 0, .int v2, .retAddr 0, .int v4, .int v5, .ref 71, .ref 69] [.int (1 : Int32)] (97, I, J, R) _
            refine az_E.br (c := (1 : Int32) = 0) (tt := 72) (ff := 59) (L' := [.retAddr 0, .retAddr 0, .int v2, .retAddr 0, .int v4, .int v5, .ref 71, .ref 69]) (S' := []) (σ' := (97, I, J, R)) rfl (fun hn => absurd hn (by decide)) (fun _ => ?_)
            refine az_E.sn 3 (pc' := 66) (L' := [.retAddr 0, .retAddr 0, .int v2, .retAddr 0, .int v4, .int v5, .ref 71, .ref 69]) (S' := [.int (I 71 1), .ref 69]) (σ' := (97, I, J, R)) rfl ?_
            refine az_E.call (d := 1) (k' := 56) (vs := [.ref 69, .int (I 71 1)]) (pc' := 69) (S' := []) rfl ?_ (fun _ _ hq => hq)
            show az_E az_F ex 1 56 0 [.ref 69, .int (I 71 1)] [] (97, I, J, R) _
            refine az_E.sn 1 (pc' := 1) (L' := [.ref 69, .int (I 71 1)]) (S' := [.ref 69]) (σ' := (97, I, J, R)) rfl ?_
            refine az_E.call (d := 0) (k' := 55) (vs := [.ref 69]) (pc' := 4) (S' := []) rfl ?_ (fun _ _ hq => hq)
            show az_E az_F ex 0 55 0 [.ref 69] [] (97, I, J, R) _
            refine az_E.sn 3 (pc' := 5) (L' := [.ref 69]) (S' := [.int (-1 : Int32), .int (I 69 1)]) (σ' := (97, I, J, R)) rfl ?_
            refine az_E.br (c := (I 69 1) = (-1 : Int32)) (tt := 12) (ff := 8) (L' := [.ref 69]) (S' := []) (σ' := (97, I, J, R)) rfl (fun hc_1853 => ?_) (fun hc_1853 => ?_)
            · rw [if_pos hc_1853] at h
              refine az_E.sn 1 (pc' := 13) (L' := [.ref 69]) (S' := [.int (0 : Int32)]) (σ' := (97, I, J, R)) rfl ?_
              refine az_E.ret (v := some (.int (0 : Int32))) (σ' := (97, I, J, R)) rfl ?_
              show az_E az_F ex 1 56 4 [.ref 69, .int (I 71 1)] [.int (0 : Int32)] (97, I, J, R) _
              refine az_E.br (c := (0 : Int32) = 0) (tt := 19) (ff := 7) (L' := [.ref 69, .int (I 71 1)]) (S' := []) (σ' := (97, I, J, R)) rfl (fun _ => ?_) (fun hn => absurd (by decide) hn)
              refine az_E.sn 1 (pc' := 20) (L' := [.ref 69, .int (I 71 1)]) (S' := [.int (0 : Int32)]) (σ' := (97, I, J, R)) rfl ?_
              refine az_E.ret (v := some (.int (0 : Int32))) (σ' := (97, I, J, R)) rfl ?_
              show az_E az_F ex 2 128 69 [.retAddr 0, .retAddr 0, .int v2, .retAddr 0, .int v4, .int v5, .ref 71, .ref 69] [.int (0 : Int32)] (97, I, J, R) _
              refine az_E.br (c := (0 : Int32) = 0) (tt := 72) (ff := 75) (L' := [.retAddr 0, .retAddr 0, .int v2, .retAddr 0, .int v4, .int v5, .ref 71, .ref 69]) (S' := []) (σ' := (97, I, J, R)) rfl (fun _ => ?_) (fun hn => absurd (by decide) hn)
              refine az_E.sn 1 (pc' := 74) (L' := [.retAddr 0, .retAddr 0, .int v2, .retAddr 0, .int v4, .int v5, .ref 71, .ref 69]) (S' := [.int (-12 : Int32)]) (σ' := (97, I, J, R)) rfl ?_
              have h := Option.some.inj h
              subst h
              exact az_E.ret (v := some (.int (-12 : Int32))) (σ' := (97, I, J, R)) rfl hQ
            · rw [if_neg hc_1853] at h
              refine az_E.sn 2 (pc' := 13) (L' := [.ref 69]) (S' := [.int (1 : Int32)]) (σ' := (97, I, J, R)) rfl ?_
              refine az_E.ret (v := some (.int (1 : Int32))) (σ' := (97, I, J, R)) rfl ?_
              show az_E az_F ex 1 56 4 [.ref 69, .int (I 71 1)] [.int (1 : Int32)] (97, I, J, R) _
              refine az_E.br (c := (1 : Int32) = 0) (tt := 19) (ff := 7) (L' := [.ref 69, .int (I 71 1)]) (S' := []) (σ' := (97, I, J, R)) rfl (fun hn => absurd hn (by decide)) (fun _ => ?_)
              refine az_E.sn 3 (pc' := 12) (L' := [.ref 69, .int (I 71 1)]) (S' := [.int (I 71 1), .int (I 69 1)]) (σ' := (97, I, J, R)) rfl ?_
              refine az_E.br (c := (I 69 1) = (I 71 1)) (tt := 15) (ff := 19) (L' := [.ref 69, .int (I 71 1)]) (S' := []) (σ' := (97, I, J, R)) rfl (fun hc_1854 => ?_) (fun hc_1854 => ?_)
              · rw [if_pos hc_1854] at h
                refine az_E.sn 2 (pc' := 20) (L' := [.ref 69, .int (I 71 1)]) (S' := [.int (1 : Int32)]) (σ' := (97, I, J, R)) rfl ?_
                refine az_E.ret (v := some (.int (1 : Int32))) (σ' := (97, I, J, R)) rfl ?_
                show az_E az_F ex 2 128 69 [.retAddr 0, .retAddr 0, .int v2, .retAddr 0, .int v4, .int v5, .ref 71, .ref 69] [.int (1 : Int32)] (97, I, J, R) _
                refine az_E.br (c := (1 : Int32) = 0) (tt := 72) (ff := 75) (L' := [.retAddr 0, .retAddr 0, .int v2, .retAddr 0, .int v4, .int v5, .ref 71, .ref 69]) (S' := []) (σ' := (97, I, J, R)) rfl (fun hn => absurd hn (by decide)) (fun _ => ?_)
                refine az_E.sn 3 (pc' := 80) (L' := [.retAddr 0, .retAddr 0, .int v2, .retAddr 0, .int v4, .int v5, .ref 71, .ref 69]) (S' := [.int v5, .int v2, .ref 71]) (σ' := (97, I, J, R)) rfl ?_
                refine az_E.call (d := 1) (k' := 60) (vs := [.ref 71, .int v2, .int v5]) (pc' := 83) (S' := []) rfl ?_ (fun _ _ hq => hq)
                show az_E az_F ex 1 60 0 [.ref 71, .int v2, .int v5] [] (97, I, J, R) _
                refine az_E.sn 1 (pc' := 1) (L' := [.ref 71, .int v2, .int v5]) (S' := [.int v2]) (σ' := (97, I, J, R)) rfl ?_
                refine az_E.br (c := v2 < 0) (tt := 30) (ff := 4) (L' := [.ref 71, .int v2, .int v5]) (S' := []) (σ' := (97, I, J, R)) rfl (fun hc_1855 => ?_) (fun hc_1855 => ?_)
                · rw [if_pos hc_1855] at h
                  refine az_E.sn 1 (pc' := 31) (L' := [.ref 71, .int v2, .int v5]) (S' := [.int (0 : Int32)]) (σ' := (97, I, J, R)) rfl ?_
                  refine az_E.ret (v := some (.int (0 : Int32))) (σ' := (97, I, J, R)) rfl ?_
                  show az_E az_F ex 2 128 83 [.retAddr 0, .retAddr 0, .int v2, .retAddr 0, .int v4, .int v5, .ref 71, .ref 69] [.int (0 : Int32)] (97, I, J, R) _
                  refine az_E.br (c := (0 : Int32) = 0) (tt := 98) (ff := 86) (L' := [.retAddr 0, .retAddr 0, .int v2, .retAddr 0, .int v4, .int v5, .ref 71, .ref 69]) (S' := []) (σ' := (97, I, J, R)) rfl (fun _ => ?_) (fun hn => absurd (by decide) hn)
                  refine az_E.sn 1 (pc' := 100) (L' := [.retAddr 0, .retAddr 0, .int v2, .retAddr 0, .int v4, .int v5, .ref 71, .ref 69]) (S' := [.int (-13 : Int32)]) (σ' := (97, I, J, R)) rfl ?_
                  have h := Option.some.inj h
                  subst h
                  exact az_E.ret (v := some (.int (-13 : Int32))) (σ' := (97, I, J, R)) rfl hQ
                · rw [if_neg hc_1855] at h
                  refine az_E.sn 1 (pc' := 5) (L' := [.ref 71, .int v2, .int v5]) (S' := [.int v5]) (σ' := (97, I, J, R)) rfl ?_
                  refine az_E.br (c := v5 < 0) (tt := 30) (ff := 8) (L' := [.ref 71, .int v2, .int v5]) (S' := []) (σ' := (97, I, J, R)) rfl (fun hc_1856 => ?_) (fun hc_1856 => ?_)
                  · rw [if_pos hc_1856] at h
                    refine az_E.sn 1 (pc' := 31) (L' := [.ref 71, .int v2, .int v5]) (S' := [.int (0 : Int32)]) (σ' := (97, I, J, R)) rfl ?_
                    refine az_E.ret (v := some (.int (0 : Int32))) (σ' := (97, I, J, R)) rfl ?_
                    show az_E az_F ex 2 128 83 [.retAddr 0, .retAddr 0, .int v2, .retAddr 0, .int v4, .int v5, .ref 71, .ref 69] [.int (0 : Int32)] (97, I, J, R) _
                    refine az_E.br (c := (0 : Int32) = 0) (tt := 98) (ff := 86) (L' := [.retAddr 0, .retAddr 0, .int v2, .retAddr 0, .int v4, .int v5, .ref 71, .ref 69]) (S' := []) (σ' := (97, I, J, R)) rfl (fun _ => ?_) (fun hn => absurd (by decide) hn)
                    refine az_E.sn 1 (pc' := 100) (L' := [.retAddr 0, .retAddr 0, .int v2, .retAddr 0, .int v4, .int v5, .ref 71, .ref 69]) (S' := [.int (-13 : Int32)]) (σ' := (97, I, J, R)) rfl ?_
                    have h := Option.some.inj h
                    subst h
                    exact az_E.ret (v := some (.int (-13 : Int32))) (σ' := (97, I, J, R)) rfl hQ
                  · rw [if_neg hc_1856] at h
                    refine az_E.sn 3 (pc' := 13) (L' := [.ref 71, .int v2, .int v5]) (S' := [.int (I 71 2), .int v2]) (σ' := (97, I, J, R)) rfl ?_
                    refine az_E.br (c := (I 71 2) < v2) (tt := 30) (ff := 16) (L' := [.ref 71, .int v2, .int v5]) (S' := []) (σ' := (97, I, J, R)) rfl (fun hc_1857 => ?_) (fun hc_1857 => ?_)
                    · rw [if_pos hc_1857] at h
                      refine az_E.sn 1 (pc' := 31) (L' := [.ref 71, .int v2, .int v5]) (S' := [.int (0 : Int32)]) (σ' := (97, I, J, R)) rfl ?_
                      refine az_E.ret (v := some (.int (0 : Int32))) (σ' := (97, I, J, R)) rfl ?_
                      show az_E az_F ex 2 128 83 [.retAddr 0, .retAddr 0, .int v2, .retAddr 0, .int v4, .int v5, .ref 71, .ref 69] [.int (0 : Int32)] (97, I, J, R) _
                      refine az_E.br (c := (0 : Int32) = 0) (tt := 98) (ff := 86) (L' := [.retAddr 0, .retAddr 0, .int v2, .retAddr 0, .int v4, .int v5, .ref 71, .ref 69]) (S' := []) (σ' := (97, I, J, R)) rfl (fun _ => ?_) (fun hn => absurd (by decide) hn)
                      refine az_E.sn 1 (pc' := 100) (L' := [.retAddr 0, .retAddr 0, .int v2, .retAddr 0, .int v4, .int v5, .ref 71, .ref 69]) (S' := [.int (-13 : Int32)]) (σ' := (97, I, J, R)) rfl ?_
                      have h := Option.some.inj h
                      subst h
                      exact az_E.ret (v := some (.int (-13 : Int32))) (σ' := (97, I, J, R)) rfl hQ
                    · rw [if_neg hc_1857] at h
                      refine az_E.sn 5 (pc' := 23) (L' := [.ref 71, .int v2, .int v5]) (S' := [.int ((I 71 2) - v2), .int v5]) (σ' := (97, I, J, R)) rfl ?_
                      refine az_E.br (c := ((I 71 2) - v2) < v5) (tt := 30) (ff := 26) (L' := [.ref 71, .int v2, .int v5]) (S' := []) (σ' := (97, I, J, R)) rfl (fun hc_1858 => ?_) (fun hc_1858 => ?_)
                      · rw [if_pos hc_1858] at h
                        refine az_E.sn 1 (pc' := 31) (L' := [.ref 71, .int v2, .int v5]) (S' := [.int (0 : Int32)]) (σ' := (97, I, J, R)) rfl ?_
                        refine az_E.ret (v := some (.int (0 : Int32))) (σ' := (97, I, J, R)) rfl ?_
                        show az_E az_F ex 2 128 83 [.retAddr 0, .retAddr 0, .int v2, .retAddr 0, .int v4, .int v5, .ref 71, .ref 69] [.int (0 : Int32)] (97, I, J, R) _
                        refine az_E.br (c := (0 : Int32) = 0) (tt := 98) (ff := 86) (L' := [.retAddr 0, .retAddr 0, .int v2, .retAddr 0, .int v4, .int v5, .ref 71, .ref 69]) (S' := []) (σ' := (97, I, J, R)) rfl (fun _ => ?_) (fun hn => absurd (by decide) hn)
                        refine az_E.sn 1 (pc' := 100) (L' := [.retAddr 0, .retAddr 0, .int v2, .retAddr 0, .int v4, .int v5, .ref 71, .ref 69]) (S' := [.int (-13 : Int32)]) (σ' := (97, I, J, R)) rfl ?_
                        have h := Option.some.inj h
                        subst h
                        exact az_E.ret (v := some (.int (-13 : Int32))) (σ' := (97, I, J, R)) rfl hQ
                      · rw [if_neg hc_1858] at h
                        refine az_E.sn 2 (pc' := 31) (L' := [.ref 71, .int v2, .int v5]) (S' := [.int (1 : Int32)]) (σ' := (97, I, J, R)) rfl ?_
                        refine az_E.ret (v := some (.int (1 : Int32))) (σ' := (97, I, J, R)) rfl ?_
                        show az_E az_F ex 2 128 83 [.retAddr 0, .retAddr 0, .int v2, .retAddr 0, .int v4, .int v5, .ref 71, .ref 69] [.int (1 : Int32)] (97, I, J, R) _
                        refine az_E.br (c := (1 : Int32) = 0) (tt := 98) (ff := 86) (L' := [.retAddr 0, .retAddr 0, .int v2, .retAddr 0, .int v4, .int v5, .ref 71, .ref 69]) (S' := []) (σ' := (97, I, J, R)) rfl (fun hn => absurd hn (by decide)) (fun _ => ?_)
                        refine az_E.sn 3 (pc' := 92) (L' := [.retAddr 0, .retAddr 0, .int v2, .retAddr 0, .int v4, .int v5, .ref 71, .ref 69]) (S' := [.int v5, .int v4, .ref 69]) (σ' := (97, I, J, R)) rfl ?_
                        refine az_E.call (d := 1) (k' := 60) (vs := [.ref 69, .int v4, .int v5]) (pc' := 95) (S' := []) rfl ?_ (fun _ _ hq => hq)
                        show az_E az_F ex 1 60 0 [.ref 69, .int v4, .int v5] [] (97, I, J, R) _
                        refine az_E.sn 1 (pc' := 1) (L' := [.ref 69, .int v4, .int v5]) (S' := [.int v4]) (σ' := (97, I, J, R)) rfl ?_
                        refine az_E.br (c := v4 < 0) (tt := 30) (ff := 4) (L' := [.ref 69, .int v4, .int v5]) (S' := []) (σ' := (97, I, J, R)) rfl (fun hc_1859 => ?_) (fun hc_1859 => ?_)
                        · rw [if_pos hc_1859] at h
                          refine az_E.sn 1 (pc' := 31) (L' := [.ref 69, .int v4, .int v5]) (S' := [.int (0 : Int32)]) (σ' := (97, I, J, R)) rfl ?_
                          refine az_E.ret (v := some (.int (0 : Int32))) (σ' := (97, I, J, R)) rfl ?_
                          show az_E az_F ex 2 128 95 [.retAddr 0, .retAddr 0, .int v2, .retAddr 0, .int v4, .int v5, .ref 71, .ref 69] [.int (0 : Int32)] (97, I, J, R) _
                          refine az_E.br (c := (0 : Int32) = 0) (tt := 98) (ff := 101) (L' := [.retAddr 0, .retAddr 0, .int v2, .retAddr 0, .int v4, .int v5, .ref 71, .ref 69]) (S' := []) (σ' := (97, I, J, R)) rfl (fun _ => ?_) (fun hn => absurd (by decide) hn)
                          refine az_E.sn 1 (pc' := 100) (L' := [.retAddr 0, .retAddr 0, .int v2, .retAddr 0, .int v4, .int v5, .ref 71, .ref 69]) (S' := [.int (-13 : Int32)]) (σ' := (97, I, J, R)) rfl ?_
                          have h := Option.some.inj h
                          subst h
                          exact az_E.ret (v := some (.int (-13 : Int32))) (σ' := (97, I, J, R)) rfl hQ
                        · rw [if_neg hc_1859] at h
                          refine az_E.sn 1 (pc' := 5) (L' := [.ref 69, .int v4, .int v5]) (S' := [.int v5]) (σ' := (97, I, J, R)) rfl ?_
                          refine az_E.br (c := v5 < 0) (tt := 30) (ff := 8) (L' := [.ref 69, .int v4, .int v5]) (S' := []) (σ' := (97, I, J, R)) rfl (fun hc_1860 => ?_) (fun hc_1860 => ?_)
                          · rw [if_pos hc_1860] at h
                            refine az_E.sn 1 (pc' := 31) (L' := [.ref 69, .int v4, .int v5]) (S' := [.int (0 : Int32)]) (σ' := (97, I, J, R)) rfl ?_
                            refine az_E.ret (v := some (.int (0 : Int32))) (σ' := (97, I, J, R)) rfl ?_
                            show az_E az_F ex 2 128 95 [.retAddr 0, .retAddr 0, .int v2, .retAddr 0, .int v4, .int v5, .ref 71, .ref 69] [.int (0 : Int32)] (97, I, J, R) _
                            refine az_E.br (c := (0 : Int32) = 0) (tt := 98) (ff := 101) (L' := [.retAddr 0, .retAddr 0, .int v2, .retAddr 0, .int v4, .int v5, .ref 71, .ref 69]) (S' := []) (σ' := (97, I, J, R)) rfl (fun _ => ?_) (fun hn => absurd (by decide) hn)
                            refine az_E.sn 1 (pc' := 100) (L' := [.retAddr 0, .retAddr 0, .int v2, .retAddr 0, .int v4, .int v5, .ref 71, .ref 69]) (S' := [.int (-13 : Int32)]) (σ' := (97, I, J, R)) rfl ?_
                            have h := Option.some.inj h
                            subst h
                            exact az_E.ret (v := some (.int (-13 : Int32))) (σ' := (97, I, J, R)) rfl hQ
                          · rw [if_neg hc_1860] at h
                            refine az_E.sn 3 (pc' := 13) (L' := [.ref 69, .int v4, .int v5]) (S' := [.int (I 69 2), .int v4]) (σ' := (97, I, J, R)) rfl ?_
                            refine az_E.br (c := (I 69 2) < v4) (tt := 30) (ff := 16) (L' := [.ref 69, .int v4, .int v5]) (S' := []) (σ' := (97, I, J, R)) rfl (fun hc_1861 => ?_) (fun hc_1861 => ?_)
                            · rw [if_pos hc_1861] at h
                              refine az_E.sn 1 (pc' := 31) (L' := [.ref 69, .int v4, .int v5]) (S' := [.int (0 : Int32)]) (σ' := (97, I, J, R)) rfl ?_
                              refine az_E.ret (v := some (.int (0 : Int32))) (σ' := (97, I, J, R)) rfl ?_
                              show az_E az_F ex 2 128 95 [.retAddr 0, .retAddr 0, .int v2, .retAddr 0, .int v4, .int v5, .ref 71, .ref 69] [.int (0 : Int32)] (97, I, J, R) _
                              refine az_E.br (c := (0 : Int32) = 0) (tt := 98) (ff := 101) (L' := [.retAddr 0, .retAddr 0, .int v2, .retAddr 0, .int v4, .int v5, .ref 71, .ref 69]) (S' := []) (σ' := (97, I, J, R)) rfl (fun _ => ?_) (fun hn => absurd (by decide) hn)
                              refine az_E.sn 1 (pc' := 100) (L' := [.retAddr 0, .retAddr 0, .int v2, .retAddr 0, .int v4, .int v5, .ref 71, .ref 69]) (S' := [.int (-13 : Int32)]) (σ' := (97, I, J, R)) rfl ?_
                              have h := Option.some.inj h
                              subst h
                              exact az_E.ret (v := some (.int (-13 : Int32))) (σ' := (97, I, J, R)) rfl hQ
                            · rw [if_neg hc_1861] at h
                              refine az_E.sn 5 (pc' := 23) (L' := [.ref 69, .int v4, .int v5]) (S' := [.int ((I 69 2) - v4), .int v5]) (σ' := (97, I, J, R)) rfl ?_
                              refine az_E.br (c := ((I 69 2) - v4) < v5) (tt := 30) (ff := 26) (L' := [.ref 69, .int v4, .int v5]) (S' := []) (σ' := (97, I, J, R)) rfl (fun hc_1862 => ?_) (fun hc_1862 => ?_)
                              · rw [if_pos hc_1862] at h
                                refine az_E.sn 1 (pc' := 31) (L' := [.ref 69, .int v4, .int v5]) (S' := [.int (0 : Int32)]) (σ' := (97, I, J, R)) rfl ?_
                                refine az_E.ret (v := some (.int (0 : Int32))) (σ' := (97, I, J, R)) rfl ?_
                                show az_E az_F ex 2 128 95 [.retAddr 0, .retAddr 0, .int v2, .retAddr 0, .int v4, .int v5, .ref 71, .ref 69] [.int (0 : Int32)] (97, I, J, R) _
                                refine az_E.br (c := (0 : Int32) = 0) (tt := 98) (ff := 101) (L' := [.retAddr 0, .retAddr 0, .int v2, .retAddr 0, .int v4, .int v5, .ref 71, .ref 69]) (S' := []) (σ' := (97, I, J, R)) rfl (fun _ => ?_) (fun hn => absurd (by decide) hn)
                                refine az_E.sn 1 (pc' := 100) (L' := [.retAddr 0, .retAddr 0, .int v2, .retAddr 0, .int v4, .int v5, .ref 71, .ref 69]) (S' := [.int (-13 : Int32)]) (σ' := (97, I, J, R)) rfl ?_
                                have h := Option.some.inj h
                                subst h
                                exact az_E.ret (v := some (.int (-13 : Int32))) (σ' := (97, I, J, R)) rfl hQ
                              · rw [if_neg hc_1862] at h
                                refine az_E.sn 2 (pc' := 31) (L' := [.ref 69, .int v4, .int v5]) (S' := [.int (1 : Int32)]) (σ' := (97, I, J, R)) rfl ?_
                                refine az_E.ret (v := some (.int (1 : Int32))) (σ' := (97, I, J, R)) rfl ?_
                                show az_E az_F ex 2 128 95 [.retAddr 0, .retAddr 0, .int v2, .retAddr 0, .int v4, .int v5, .ref 71, .ref 69] [.int (1 : Int32)] (97, I, J, R) _
                                refine az_E.br (c := (1 : Int32) = 0) (tt := 98) (ff := 101) (L' := [.retAddr 0, .retAddr 0, .int v2, .retAddr 0, .int v4, .int v5, .ref 71, .ref 69]) (S' := []) (σ' := (97, I, J, R)) rfl (fun hn => absurd hn (by decide)) (fun _ => ?_)
                                refine az_E.sn 7 (pc' := 116) (L' := [.retAddr 0, .retAddr 0, .int v2, .retAddr 0, .int v4, .int v5, .ref 71, .ref 69]) (S' := [.int v5, .int v4, .ref (69 + 1), .int v2, .ref (71 + 1)]) (σ' := (97, I, J, R)) rfl ?_
                                by_cases hc_1863 : v2 < 0 ∨ v4 < 0 ∨ v5 < 0 ∨ 60 < v2.toNatClampNeg + v5.toNatClampNeg ∨ 60 < v4.toNatClampNeg + v5.toNatClampNeg
                                · rw [if_pos hc_1863] at h; cases h
                                · rw [if_neg hc_1863] at h
                                  refine az_E.o (o := az_cp az_F (97, I, J, R) (71 + 1) v2 (69 + 1) v4 v5) (pc' := 119) (L' := [.retAddr 0, .retAddr 0, .int v2, .retAddr 0, .int v4, .int v5, .ref 71, .ref 69]) (S' := []) (x := (97, I, (az_ur J (69 + 1) (va_cpy (J (71 + 1)) (J (69 + 1)) v2.toNatClampNeg v4.toNatClampNeg v5.toNatClampNeg)), R)) rfl (if_neg hc_1863) ?_
                                  refine az_E.sn 1 (pc' := 121) (L' := [.retAddr 0, .retAddr 0, .int v2, .retAddr 0, .int v4, .int v5, .ref 71, .ref 69]) (S' := [.int v5]) (σ' := (97, I, (az_ur J (69 + 1) (va_cpy (J (71 + 1)) (J (69 + 1)) v2.toNatClampNeg v4.toNatClampNeg v5.toNatClampNeg)), R)) rfl ?_
                                  have h := Option.some.inj h
                                  subst h
                                  exact az_E.ret (v := some (.int v5)) (σ' := (97, I, (az_ur J (69 + 1) (va_cpy (J (71 + 1)) (J (69 + 1)) v2.toNatClampNeg v4.toNatClampNeg v5.toNatClampNeg)), R)) rfl hQ
              · rw [if_neg hc_1854] at h
                refine az_E.sn 1 (pc' := 20) (L' := [.ref 69, .int (I 71 1)]) (S' := [.int (0 : Int32)]) (σ' := (97, I, J, R)) rfl ?_
                refine az_E.ret (v := some (.int (0 : Int32))) (σ' := (97, I, J, R)) rfl ?_
                show az_E az_F ex 2 128 69 [.retAddr 0, .retAddr 0, .int v2, .retAddr 0, .int v4, .int v5, .ref 71, .ref 69] [.int (0 : Int32)] (97, I, J, R) _
                refine az_E.br (c := (0 : Int32) = 0) (tt := 72) (ff := 75) (L' := [.retAddr 0, .retAddr 0, .int v2, .retAddr 0, .int v4, .int v5, .ref 71, .ref 69]) (S' := []) (σ' := (97, I, J, R)) rfl (fun _ => ?_) (fun hn => absurd (by decide) hn)
                refine az_E.sn 1 (pc' := 74) (L' := [.retAddr 0, .retAddr 0, .int v2, .retAddr 0, .int v4, .int v5, .ref 71, .ref 69]) (S' := [.int (-12 : Int32)]) (σ' := (97, I, J, R)) rfl ?_
                have h := Option.some.inj h
                subst h
                exact az_E.ret (v := some (.int (-12 : Int32))) (σ' := (97, I, J, R)) rfl hQ
      · rw [if_neg hc_1850] at h
        refine az_E.sn 1 (pc' := 21) (L' := [.ref 69]) (S' := [.int (0 : Int32)]) (σ' := (97, I, J, R)) rfl ?_
        refine az_E.ret (v := some (.int (0 : Int32))) (σ' := (97, I, J, R)) rfl ?_
        show az_E az_F ex 2 128 45 [.retAddr 0, .retAddr 0, .int v2, .retAddr 0, .int v4, .int v5, .ref 71, .ref 69] [.int (0 : Int32)] (97, I, J, R) _
        refine az_E.br (c := (0 : Int32) = 0) (tt := 51) (ff := 48) (L' := [.retAddr 0, .retAddr 0, .int v2, .retAddr 0, .int v4, .int v5, .ref 71, .ref 69]) (S' := []) (σ' := (97, I, J, R)) rfl (fun _ => ?_) (fun hn => absurd (by decide) hn)
        refine az_E.sn 1 (pc' := 53) (L' := [.retAddr 0, .retAddr 0, .int v2, .retAddr 0, .int v4, .int v5, .ref 71, .ref 69]) (S' := [.ref 71]) (σ' := (97, I, J, R)) rfl ?_
        refine az_E.call (d := 1) (k' := 55) (vs := [.ref 71]) (pc' := 56) (S' := []) rfl ?_ (fun _ _ hq => hq)
        show az_E az_F ex 1 55 0 [.ref 71] [] (97, I, J, R) _
        refine az_E.sn 3 (pc' := 5) (L' := [.ref 71]) (S' := [.int (-1 : Int32), .int (I 71 1)]) (σ' := (97, I, J, R)) rfl ?_
        refine az_E.br (c := (I 71 1) = (-1 : Int32)) (tt := 12) (ff := 8) (L' := [.ref 71]) (S' := []) (σ' := (97, I, J, R)) rfl (fun hc_1864 => ?_) (fun hc_1864 => ?_)
        · rw [if_pos hc_1864] at h
          refine az_E.sn 1 (pc' := 13) (L' := [.ref 71]) (S' := [.int (0 : Int32)]) (σ' := (97, I, J, R)) rfl ?_
          refine az_E.ret (v := some (.int (0 : Int32))) (σ' := (97, I, J, R)) rfl ?_
          show az_E az_F ex 2 128 56 [.retAddr 0, .retAddr 0, .int v2, .retAddr 0, .int v4, .int v5, .ref 71, .ref 69] [.int (0 : Int32)] (97, I, J, R) _
          refine az_E.br (c := (0 : Int32) = 0) (tt := 72) (ff := 59) (L' := [.retAddr 0, .retAddr 0, .int v2, .retAddr 0, .int v4, .int v5, .ref 71, .ref 69]) (S' := []) (σ' := (97, I, J, R)) rfl (fun _ => ?_) (fun hn => absurd (by decide) hn)
          refine az_E.sn 1 (pc' := 74) (L' := [.retAddr 0, .retAddr 0, .int v2, .retAddr 0, .int v4, .int v5, .ref 71, .ref 69]) (S' := [.int (-12 : Int32)]) (σ' := (97, I, J, R)) rfl ?_
          have h := Option.some.inj h
          subst h
          exact az_E.ret (v := some (.int (-12 : Int32))) (σ' := (97, I, J, R)) rfl hQ
        · rw [if_neg hc_1864] at h
          refine az_E.sn 2 (pc' := 13) (L' := [.ref 71]) (S' := [.int (1 : Int32)]) (σ' := (97, I, J, R)) rfl ?_
          refine az_E.ret (v := some (.int (1 : Int32))) (σ' := (97, I, J, R)) rfl ?_
          show az_E az_F ex 2 128 56 [.retAddr 0, .retAddr 0, .int v2, .retAddr 0, .int v4, .int v5, .ref 71, .ref 69] [.int (1 : Int32)] (97, I, J, R) _
          refine az_E.br (c := (1 : Int32) = 0) (tt := 72) (ff := 59) (L' := [.retAddr 0, .retAddr 0, .int v2, .retAddr 0, .int v4, .int v5, .ref 71, .ref 69]) (S' := []) (σ' := (97, I, J, R)) rfl (fun hn => absurd hn (by decide)) (fun _ => ?_)
          refine az_E.sn 3 (pc' := 66) (L' := [.retAddr 0, .retAddr 0, .int v2, .retAddr 0, .int v4, .int v5, .ref 71, .ref 69]) (S' := [.int (I 71 1), .ref 69]) (σ' := (97, I, J, R)) rfl ?_
          refine az_E.call (d := 1) (k' := 56) (vs := [.ref 69, .int (I 71 1)]) (pc' := 69) (S' := []) rfl ?_ (fun _ _ hq => hq)
          show az_E az_F ex 1 56 0 [.ref 69, .int (I 71 1)] [] (97, I, J, R) _
          refine az_E.sn 1 (pc' := 1) (L' := [.ref 69, .int (I 71 1)]) (S' := [.ref 69]) (σ' := (97, I, J, R)) rfl ?_
          refine az_E.call (d := 0) (k' := 55) (vs := [.ref 69]) (pc' := 4) (S' := []) rfl ?_ (fun _ _ hq => hq)
          show az_E az_F ex 0 55 0 [.ref 69] [] (97, I, J, R) _
          refine az_E.sn 3 (pc' := 5) (L' := [.ref 69]) (S' := [.int (-1 : Int32), .int (I 69 1)]) (σ' := (97, I, J, R)) rfl ?_
          refine az_E.br (c := (I 69 1) = (-1 : Int32)) (tt := 12) (ff := 8) (L' := [.ref 69]) (S' := []) (σ' := (97, I, J, R)) rfl (fun hc_1865 => ?_) (fun hc_1865 => ?_)
          · rw [if_pos hc_1865] at h
            refine az_E.sn 1 (pc' := 13) (L' := [.ref 69]) (S' := [.int (0 : Int32)]) (σ' := (97, I, J, R)) rfl ?_
            refine az_E.ret (v := some (.int (0 : Int32))) (σ' := (97, I, J, R)) rfl ?_
            show az_E az_F ex 1 56 4 [.ref 69, .int (I 71 1)] [.int (0 : Int32)] (97, I, J, R) _
            refine az_E.br (c := (0 : Int32) = 0) (tt := 19) (ff := 7) (L' := [.ref 69, .int (I 71 1)]) (S' := []) (σ' := (97, I, J, R)) rfl (fun _ => ?_) (fun hn => absurd (by decide) hn)
            refine az_E.sn 1 (pc' := 20) (L' := [.ref 69, .int (I 71 1)]) (S' := [.int (0 : Int32)]) (σ' := (97, I, J, R)) rfl ?_
            refine az_E.ret (v := some (.int (0 : Int32))) (σ' := (97, I, J, R)) rfl ?_
            show az_E az_F ex 2 128 69 [.retAddr 0, .retAddr 0, .int v2, .retAddr 0, .int v4, .int v5, .ref 71, .ref 69] [.int (0 : Int32)] (97, I, J, R) _
            refine az_E.br (c := (0 : Int32) = 0) (tt := 72) (ff := 75) (L' := [.retAddr 0, .retAddr 0, .int v2, .retAddr 0, .int v4, .int v5, .ref 71, .ref 69]) (S' := []) (σ' := (97, I, J, R)) rfl (fun _ => ?_) (fun hn => absurd (by decide) hn)
            refine az_E.sn 1 (pc' := 74) (L' := [.retAddr 0, .retAddr 0, .int v2, .retAddr 0, .int v4, .int v5, .ref 71, .ref 69]) (S' := [.int (-12 : Int32)]) (σ' := (97, I, J, R)) rfl ?_
            have h := Option.some.inj h
            subst h
            exact az_E.ret (v := some (.int (-12 : Int32))) (σ' := (97, I, J, R)) rfl hQ
          · rw [if_neg hc_1865] at h
            refine az_E.sn 2 (pc' := 13) (L' := [.ref 69]) (S' := [.int (1 : Int32)]) (σ' := (97, I, J, R)) rfl ?_
            refine az_E.ret (v := some (.int (1 : Int32))) (σ' := (97, I, J, R)) rfl ?_
            show az_E az_F ex 1 56 4 [.ref 69, .int (I 71 1)] [.int (1 : Int32)] (97, I, J, R) _
            refine az_E.br (c := (1 : Int32) = 0) (tt := 19) (ff := 7) (L' := [.ref 69, .int (I 71 1)]) (S' := []) (σ' := (97, I, J, R)) rfl (fun hn => absurd hn (by decide)) (fun _ => ?_)
            refine az_E.sn 3 (pc' := 12) (L' := [.ref 69, .int (I 71 1)]) (S' := [.int (I 71 1), .int (I 69 1)]) (σ' := (97, I, J, R)) rfl ?_
            refine az_E.br (c := (I 69 1) = (I 71 1)) (tt := 15) (ff := 19) (L' := [.ref 69, .int (I 71 1)]) (S' := []) (σ' := (97, I, J, R)) rfl (fun hc_1866 => ?_) (fun hc_1866 => ?_)
            · rw [if_pos hc_1866] at h
              refine az_E.sn 2 (pc' := 20) (L' := [.ref 69, .int (I 71 1)]) (S' := [.int (1 : Int32)]) (σ' := (97, I, J, R)) rfl ?_
              refine az_E.ret (v := some (.int (1 : Int32))) (σ' := (97, I, J, R)) rfl ?_
              show az_E az_F ex 2 128 69 [.retAddr 0, .retAddr 0, .int v2, .retAddr 0, .int v4, .int v5, .ref 71, .ref 69] [.int (1 : Int32)] (97, I, J, R) _
              refine az_E.br (c := (1 : Int32) = 0) (tt := 72) (ff := 75) (L' := [.retAddr 0, .retAddr 0, .int v2, .retAddr 0, .int v4, .int v5, .ref 71, .ref 69]) (S' := []) (σ' := (97, I, J, R)) rfl (fun hn => absurd hn (by decide)) (fun _ => ?_)
              refine az_E.sn 3 (pc' := 80) (L' := [.retAddr 0, .retAddr 0, .int v2, .retAddr 0, .int v4, .int v5, .ref 71, .ref 69]) (S' := [.int v5, .int v2, .ref 71]) (σ' := (97, I, J, R)) rfl ?_
              refine az_E.call (d := 1) (k' := 60) (vs := [.ref 71, .int v2, .int v5]) (pc' := 83) (S' := []) rfl ?_ (fun _ _ hq => hq)
              show az_E az_F ex 1 60 0 [.ref 71, .int v2, .int v5] [] (97, I, J, R) _
              refine az_E.sn 1 (pc' := 1) (L' := [.ref 71, .int v2, .int v5]) (S' := [.int v2]) (σ' := (97, I, J, R)) rfl ?_
              refine az_E.br (c := v2 < 0) (tt := 30) (ff := 4) (L' := [.ref 71, .int v2, .int v5]) (S' := []) (σ' := (97, I, J, R)) rfl (fun hc_1867 => ?_) (fun hc_1867 => ?_)
              · rw [if_pos hc_1867] at h
                refine az_E.sn 1 (pc' := 31) (L' := [.ref 71, .int v2, .int v5]) (S' := [.int (0 : Int32)]) (σ' := (97, I, J, R)) rfl ?_
                refine az_E.ret (v := some (.int (0 : Int32))) (σ' := (97, I, J, R)) rfl ?_
                show az_E az_F ex 2 128 83 [.retAddr 0, .retAddr 0, .int v2, .retAddr 0, .int v4, .int v5, .ref 71, .ref 69] [.int (0 : Int32)] (97, I, J, R) _
                refine az_E.br (c := (0 : Int32) = 0) (tt := 98) (ff := 86) (L' := [.retAddr 0, .retAddr 0, .int v2, .retAddr 0, .int v4, .int v5, .ref 71, .ref 69]) (S' := []) (σ' := (97, I, J, R)) rfl (fun _ => ?_) (fun hn => absurd (by decide) hn)
                refine az_E.sn 1 (pc' := 100) (L' := [.retAddr 0, .retAddr 0, .int v2, .retAddr 0, .int v4, .int v5, .ref 71, .ref 69]) (S' := [.int (-13 : Int32)]) (σ' := (97, I, J, R)) rfl ?_
                have h := Option.some.inj h
                subst h
                exact az_E.ret (v := some (.int (-13 : Int32))) (σ' := (97, I, J, R)) rfl hQ
              · rw [if_neg hc_1867] at h
                refine az_E.sn 1 (pc' := 5) (L' := [.ref 71, .int v2, .int v5]) (S' := [.int v5]) (σ' := (97, I, J, R)) rfl ?_
                refine az_E.br (c := v5 < 0) (tt := 30) (ff := 8) (L' := [.ref 71, .int v2, .int v5]) (S' := []) (σ' := (97, I, J, R)) rfl (fun hc_1868 => ?_) (fun hc_1868 => ?_)
                · rw [if_pos hc_1868] at h
                  refine az_E.sn 1 (pc' := 31) (L' := [.ref 71, .int v2, .int v5]) (S' := [.int (0 : Int32)]) (σ' := (97, I, J, R)) rfl ?_
                  refine az_E.ret (v := some (.int (0 : Int32))) (σ' := (97, I, J, R)) rfl ?_
                  show az_E az_F ex 2 128 83 [.retAddr 0, .retAddr 0, .int v2, .retAddr 0, .int v4, .int v5, .ref 71, .ref 69] [.int (0 : Int32)] (97, I, J, R) _
                  refine az_E.br (c := (0 : Int32) = 0) (tt := 98) (ff := 86) (L' := [.retAddr 0, .retAddr 0, .int v2, .retAddr 0, .int v4, .int v5, .ref 71, .ref 69]) (S' := []) (σ' := (97, I, J, R)) rfl (fun _ => ?_) (fun hn => absurd (by decide) hn)
                  refine az_E.sn 1 (pc' := 100) (L' := [.retAddr 0, .retAddr 0, .int v2, .retAddr 0, .int v4, .int v5, .ref 71, .ref 69]) (S' := [.int (-13 : Int32)]) (σ' := (97, I, J, R)) rfl ?_
                  have h := Option.some.inj h
                  subst h
                  exact az_E.ret (v := some (.int (-13 : Int32))) (σ' := (97, I, J, R)) rfl hQ
                · rw [if_neg hc_1868] at h
                  refine az_E.sn 3 (pc' := 13) (L' := [.ref 71, .int v2, .int v5]) (S' := [.int (I 71 2), .int v2]) (σ' := (97, I, J, R)) rfl ?_
                  refine az_E.br (c := (I 71 2) < v2) (tt := 30) (ff := 16) (L' := [.ref 71, .int v2, .int v5]) (S' := []) (σ' := (97, I, J, R)) rfl (fun hc_1869 => ?_) (fun hc_1869 => ?_)
                  · rw [if_pos hc_1869] at h
                    refine az_E.sn 1 (pc' := 31) (L' := [.ref 71, .int v2, .int v5]) (S' := [.int (0 : Int32)]) (σ' := (97, I, J, R)) rfl ?_
                    refine az_E.ret (v := some (.int (0 : Int32))) (σ' := (97, I, J, R)) rfl ?_
                    show az_E az_F ex 2 128 83 [.retAddr 0, .retAddr 0, .int v2, .retAddr 0, .int v4, .int v5, .ref 71, .ref 69] [.int (0 : Int32)] (97, I, J, R) _
                    refine az_E.br (c := (0 : Int32) = 0) (tt := 98) (ff := 86) (L' := [.retAddr 0, .retAddr 0, .int v2, .retAddr 0, .int v4, .int v5, .ref 71, .ref 69]) (S' := []) (σ' := (97, I, J, R)) rfl (fun _ => ?_) (fun hn => absurd (by decide) hn)
                    refine az_E.sn 1 (pc' := 100) (L' := [.retAddr 0, .retAddr 0, .int v2, .retAddr 0, .int v4, .int v5, .ref 71, .ref 69]) (S' := [.int (-13 : Int32)]) (σ' := (97, I, J, R)) rfl ?_
                    have h := Option.some.inj h
                    subst h
                    exact az_E.ret (v := some (.int (-13 : Int32))) (σ' := (97, I, J, R)) rfl hQ
                  · rw [if_neg hc_1869] at h
                    refine az_E.sn 5 (pc' := 23) (L' := [.ref 71, .int v2, .int v5]) (S' := [.int ((I 71 2) - v2), .int v5]) (σ' := (97, I, J, R)) rfl ?_
                    refine az_E.br (c := ((I 71 2) - v2) < v5) (tt := 30) (ff := 26) (L' := [.ref 71, .int v2, .int v5]) (S' := []) (σ' := (97, I, J, R)) rfl (fun hc_1870 => ?_) (fun hc_1870 => ?_)
                    · rw [if_pos hc_1870] at h
                      refine az_E.sn 1 (pc' := 31) (L' := [.ref 71, .int v2, .int v5]) (S' := [.int (0 : Int32)]) (σ' := (97, I, J, R)) rfl ?_
                      refine az_E.ret (v := some (.int (0 : Int32))) (σ' := (97, I, J, R)) rfl ?_
                      show az_E az_F ex 2 128 83 [.retAddr 0, .retAddr 0, .int v2, .retAddr 0, .int v4, .int v5, .ref 71, .ref 69] [.int (0 : Int32)] (97, I, J, R) _
                      refine az_E.br (c := (0 : Int32) = 0) (tt := 98) (ff := 86) (L' := [.retAddr 0, .retAddr 0, .int v2, .retAddr 0, .int v4, .int v5, .ref 71, .ref 69]) (S' := []) (σ' := (97, I, J, R)) rfl (fun _ => ?_) (fun hn => absurd (by decide) hn)
                      refine az_E.sn 1 (pc' := 100) (L' := [.retAddr 0, .retAddr 0, .int v2, .retAddr 0, .int v4, .int v5, .ref 71, .ref 69]) (S' := [.int (-13 : Int32)]) (σ' := (97, I, J, R)) rfl ?_
                      have h := Option.some.inj h
                      subst h
                      exact az_E.ret (v := some (.int (-13 : Int32))) (σ' := (97, I, J, R)) rfl hQ
                    · rw [if_neg hc_1870] at h
                      refine az_E.sn 2 (pc' := 31) (L' := [.ref 71, .int v2, .int v5]) (S' := [.int (1 : Int32)]) (σ' := (97, I, J, R)) rfl ?_
                      refine az_E.ret (v := some (.int (1 : Int32))) (σ' := (97, I, J, R)) rfl ?_
                      show az_E az_F ex 2 128 83 [.retAddr 0, .retAddr 0, .int v2, .retAddr 0, .int v4, .int v5, .ref 71, .ref 69] [.int (1 : Int32)] (97, I, J, R) _
                      refine az_E.br (c := (1 : Int32) = 0) (tt := 98) (ff := 86) (L' := [.retAddr 0, .retAddr 0, .int v2, .retAddr 0, .int v4, .int v5, .ref 71, .ref 69]) (S' := []) (σ' := (97, I, J, R)) rfl (fun hn => absurd hn (by decide)) (fun _ => ?_)
                      refine az_E.sn 3 (pc' := 92) (L' := [.retAddr 0, .retAddr 0, .int v2, .retAddr 0, .int v4, .int v5, .ref 71, .ref 69]) (S' := [.int v5, .int v4, .ref 69]) (σ' := (97, I, J, R)) rfl ?_
                      refine az_E.call (d := 1) (k' := 60) (vs := [.ref 69, .int v4, .int v5]) (pc' := 95) (S' := []) rfl ?_ (fun _ _ hq => hq)
                      show az_E az_F ex 1 60 0 [.ref 69, .int v4, .int v5] [] (97, I, J, R) _
                      refine az_E.sn 1 (pc' := 1) (L' := [.ref 69, .int v4, .int v5]) (S' := [.int v4]) (σ' := (97, I, J, R)) rfl ?_
                      refine az_E.br (c := v4 < 0) (tt := 30) (ff := 4) (L' := [.ref 69, .int v4, .int v5]) (S' := []) (σ' := (97, I, J, R)) rfl (fun hc_1871 => ?_) (fun hc_1871 => ?_)
                      · rw [if_pos hc_1871] at h
                        refine az_E.sn 1 (pc' := 31) (L' := [.ref 69, .int v4, .int v5]) (S' := [.int (0 : Int32)]) (σ' := (97, I, J, R)) rfl ?_
                        refine az_E.ret (v := some (.int (0 : Int32))) (σ' := (97, I, J, R)) rfl ?_
                        show az_E az_F ex 2 128 95 [.retAddr 0, .retAddr 0, .int v2, .retAddr 0, .int v4, .int v5, .ref 71, .ref 69] [.int (0 : Int32)] (97, I, J, R) _
                        refine az_E.br (c := (0 : Int32) = 0) (tt := 98) (ff := 101) (L' := [.retAddr 0, .retAddr 0, .int v2, .retAddr 0, .int v4, .int v5, .ref 71, .ref 69]) (S' := []) (σ' := (97, I, J, R)) rfl (fun _ => ?_) (fun hn => absurd (by decide) hn)
                        refine az_E.sn 1 (pc' := 100) (L' := [.retAddr 0, .retAddr 0, .int v2, .retAddr 0, .int v4, .int v5, .ref 71, .ref 69]) (S' := [.int (-13 : Int32)]) (σ' := (97, I, J, R)) rfl ?_
                        have h := Option.some.inj h
                        subst h
                        exact az_E.ret (v := some (.int (-13 : Int32))) (σ' := (97, I, J, R)) rfl hQ
                      · rw [if_neg hc_1871] at h
                        refine az_E.sn 1 (pc' := 5) (L' := [.ref 69, .int v4, .int v5]) (S' := [.int v5]) (σ' := (97, I, J, R)) rfl ?_
                        refine az_E.br (c := v5 < 0) (tt := 30) (ff := 8) (L' := [.ref 69, .int v4, .int v5]) (S' := []) (σ' := (97, I, J, R)) rfl (fun hc_1872 => ?_) (fun hc_1872 => ?_)
                        · rw [if_pos hc_1872] at h
                          refine az_E.sn 1 (pc' := 31) (L' := [.ref 69, .int v4, .int v5]) (S' := [.int (0 : Int32)]) (σ' := (97, I, J, R)) rfl ?_
                          refine az_E.ret (v := some (.int (0 : Int32))) (σ' := (97, I, J, R)) rfl ?_
                          show az_E az_F ex 2 128 95 [.retAddr 0, .retAddr 0, .int v2, .retAddr 0, .int v4, .int v5, .ref 71, .ref 69] [.int (0 : Int32)] (97, I, J, R) _
                          refine az_E.br (c := (0 : Int32) = 0) (tt := 98) (ff := 101) (L' := [.retAddr 0, .retAddr 0, .int v2, .retAddr 0, .int v4, .int v5, .ref 71, .ref 69]) (S' := []) (σ' := (97, I, J, R)) rfl (fun _ => ?_) (fun hn => absurd (by decide) hn)
                          refine az_E.sn 1 (pc' := 100) (L' := [.retAddr 0, .retAddr 0, .int v2, .retAddr 0, .int v4, .int v5, .ref 71, .ref 69]) (S' := [.int (-13 : Int32)]) (σ' := (97, I, J, R)) rfl ?_
                          have h := Option.some.inj h
                          subst h
                          exact az_E.ret (v := some (.int (-13 : Int32))) (σ' := (97, I, J, R)) rfl hQ
                        · rw [if_neg hc_1872] at h
                          refine az_E.sn 3 (pc' := 13) (L' := [.ref 69, .int v4, .int v5]) (S' := [.int (I 69 2), .int v4]) (σ' := (97, I, J, R)) rfl ?_
                          refine az_E.br (c := (I 69 2) < v4) (tt := 30) (ff := 16) (L' := [.ref 69, .int v4, .int v5]) (S' := []) (σ' := (97, I, J, R)) rfl (fun hc_1873 => ?_) (fun hc_1873 => ?_)
                          · rw [if_pos hc_1873] at h
                            refine az_E.sn 1 (pc' := 31) (L' := [.ref 69, .int v4, .int v5]) (S' := [.int (0 : Int32)]) (σ' := (97, I, J, R)) rfl ?_
                            refine az_E.ret (v := some (.int (0 : Int32))) (σ' := (97, I, J, R)) rfl ?_
                            show az_E az_F ex 2 128 95 [.retAddr 0, .retAddr 0, .int v2, .retAddr 0, .int v4, .int v5, .ref 71, .ref 69] [.int (0 : Int32)] (97, I, J, R) _
                            refine az_E.br (c := (0 : Int32) = 0) (tt := 98) (ff := 101) (L' := [.retAddr 0, .retAddr 0, .int v2, .retAddr 0, .int v4, .int v5, .ref 71, .ref 69]) (S' := []) (σ' := (97, I, J, R)) rfl (fun _ => ?_) (fun hn => absurd (by decide) hn)
                            refine az_E.sn 1 (pc' := 100) (L' := [.retAddr 0, .retAddr 0, .int v2, .retAddr 0, .int v4, .int v5, .ref 71, .ref 69]) (S' := [.int (-13 : Int32)]) (σ' := (97, I, J, R)) rfl ?_
                            have h := Option.some.inj h
                            subst h
                            exact az_E.ret (v := some (.int (-13 : Int32))) (σ' := (97, I, J, R)) rfl hQ
                          · rw [if_neg hc_1873] at h
                            refine az_E.sn 5 (pc' := 23) (L' := [.ref 69, .int v4, .int v5]) (S' := [.int ((I 69 2) - v4), .int v5]) (σ' := (97, I, J, R)) rfl ?_
                            refine az_E.br (c := ((I 69 2) - v4) < v5) (tt := 30) (ff := 26) (L' := [.ref 69, .int v4, .int v5]) (S' := []) (σ' := (97, I, J, R)) rfl (fun hc_1874 => ?_) (fun hc_1874 => ?_)
                            · rw [if_pos hc_1874] at h
                              refine az_E.sn 1 (pc' := 31) (L' := [.ref 69, .int v4, .int v5]) (S' := [.int (0 : Int32)]) (σ' := (97, I, J, R)) rfl ?_
                              refine az_E.ret (v := some (.int (0 : Int32))) (σ' := (97, I, J, R)) rfl ?_
                              show az_E az_F ex 2 128 95 [.retAddr 0, .retAddr 0, .int v2, .retAddr 0, .int v4, .int v5, .ref 71, .ref 69] [.int (0 : Int32)] (97, I, J, R) _
                              refine az_E.br (c := (0 : Int32) = 0) (tt := 98) (ff := 101) (L' := [.retAddr 0, .retAddr 0, .int v2, .retAddr 0, .int v4, .int v5, .ref 71, .ref 69]) (S' := []) (σ' := (97, I, J, R)) rfl (fun _ => ?_) (fun hn => absurd (by decide) hn)
                              refine az_E.sn 1 (pc' := 100) (L' := [.retAddr 0, .retAddr 0, .int v2, .retAddr 0, .int v4, .int v5, .ref 71, .ref 69]) (S' := [.int (-13 : Int32)]) (σ' := (97, I, J, R)) rfl ?_
                              have h := Option.some.inj h
                              subst h
                              exact az_E.ret (v := some (.int (-13 : Int32))) (σ' := (97, I, J, R)) rfl hQ
                            · rw [if_neg hc_1874] at h
                              refine az_E.sn 2 (pc' := 31) (L' := [.ref 69, .int v4, .int v5]) (S' := [.int (1 : Int32)]) (σ' := (97, I, J, R)) rfl ?_
                              refine az_E.ret (v := some (.int (1 : Int32))) (σ' := (97, I, J, R)) rfl ?_
                              show az_E az_F ex 2 128 95 [.retAddr 0, .retAddr 0, .int v2, .retAddr 0, .int v4, .int v5, .ref 71, .ref 69] [.int (1 : Int32)] (97, I, J, R) _
                              refine az_E.br (c := (1 : Int32) = 0) (tt := 98) (ff := 101) (L' := [.retAddr 0, .retAddr 0, .int v2, .retAddr 0, .int v4, .int v5, .ref 71, .ref 69]) (S' := []) (σ' := (97, I, J, R)) rfl (fun hn => absurd hn (by decide)) (fun _ => ?_)
                              refine az_E.sn 7 (pc' := 116) (L' := [.retAddr 0, .retAddr 0, .int v2, .retAddr 0, .int v4, .int v5, .ref 71, .ref 69]) (S' := [.int v5, .int v4, .ref (69 + 1), .int v2, .ref (71 + 1)]) (σ' := (97, I, J, R)) rfl ?_
                              by_cases hc_1875 : v2 < 0 ∨ v4 < 0 ∨ v5 < 0 ∨ 60 < v2.toNatClampNeg + v5.toNatClampNeg ∨ 60 < v4.toNatClampNeg + v5.toNatClampNeg
                              · rw [if_pos hc_1875] at h; cases h
                              · rw [if_neg hc_1875] at h
                                refine az_E.o (o := az_cp az_F (97, I, J, R) (71 + 1) v2 (69 + 1) v4 v5) (pc' := 119) (L' := [.retAddr 0, .retAddr 0, .int v2, .retAddr 0, .int v4, .int v5, .ref 71, .ref 69]) (S' := []) (x := (97, I, (az_ur J (69 + 1) (va_cpy (J (71 + 1)) (J (69 + 1)) v2.toNatClampNeg v4.toNatClampNeg v5.toNatClampNeg)), R)) rfl (if_neg hc_1875) ?_
                                refine az_E.sn 1 (pc' := 121) (L' := [.retAddr 0, .retAddr 0, .int v2, .retAddr 0, .int v4, .int v5, .ref 71, .ref 69]) (S' := [.int v5]) (σ' := (97, I, (az_ur J (69 + 1) (va_cpy (J (71 + 1)) (J (69 + 1)) v2.toNatClampNeg v4.toNatClampNeg v5.toNatClampNeg)), R)) rfl ?_
                                have h := Option.some.inj h
                                subst h
                                exact az_E.ret (v := some (.int v5)) (σ' := (97, I, (az_ur J (69 + 1) (va_cpy (J (71 + 1)) (J (69 + 1)) v2.toNatClampNeg v4.toNatClampNeg v5.toNatClampNeg)), R)) rfl hQ
            · rw [if_neg hc_1866] at h
              refine az_E.sn 1 (pc' := 20) (L' := [.ref 69, .int (I 71 1)]) (S' := [.int (0 : Int32)]) (σ' := (97, I, J, R)) rfl ?_
              refine az_E.ret (v := some (.int (0 : Int32))) (σ' := (97, I, J, R)) rfl ?_
              show az_E az_F ex 2 128 69 [.retAddr 0, .retAddr 0, .int v2, .retAddr 0, .int v4, .int v5, .ref 71, .ref 69] [.int (0 : Int32)] (97, I, J, R) _
              refine az_E.br (c := (0 : Int32) = 0) (tt := 72) (ff := 75) (L' := [.retAddr 0, .retAddr 0, .int v2, .retAddr 0, .int v4, .int v5, .ref 71, .ref 69]) (S' := []) (σ' := (97, I, J, R)) rfl (fun _ => ?_) (fun hn => absurd (by decide) hn)
              refine az_E.sn 1 (pc' := 74) (L' := [.retAddr 0, .retAddr 0, .int v2, .retAddr 0, .int v4, .int v5, .ref 71, .ref 69]) (S' := [.int (-12 : Int32)]) (σ' := (97, I, J, R)) rfl ?_
              have h := Option.some.inj h
              subst h
              exact az_E.ret (v := some (.int (-12 : Int32))) (σ' := (97, I, J, R)) rfl hQ
  · rw [if_neg hc_1848] at h
    refine az_E.sn 1 (pc' := 21) (L' := [.ref 71]) (S' := [.int (0 : Int32)]) (σ' := (97, I, J, R)) rfl ?_
    refine az_E.ret (v := some (.int (0 : Int32))) (σ' := (97, I, J, R)) rfl ?_
    show az_E az_F ex 2 128 37 [.retAddr 0, .retAddr 0, .int v2, .retAddr 0, .int v4, .int v5, .ref 71, .ref 69] [.int (0 : Int32)] (97, I, J, R) _
    refine az_E.br (c := (0 : Int32) = 0) (tt := 40) (ff := 48) (L' := [.retAddr 0, .retAddr 0, .int v2, .retAddr 0, .int v4, .int v5, .ref 71, .ref 69]) (S' := []) (σ' := (97, I, J, R)) rfl (fun _ => ?_) (fun hn => absurd (by decide) hn)
    refine az_E.sn 1 (pc' := 42) (L' := [.retAddr 0, .retAddr 0, .int v2, .retAddr 0, .int v4, .int v5, .ref 71, .ref 69]) (S' := [.ref 69]) (σ' := (97, I, J, R)) rfl ?_
    refine az_E.call (d := 1) (k' := 54) (vs := [.ref 69]) (pc' := 45) (S' := []) rfl ?_ (fun _ _ hq => hq)
    show az_E az_F ex 1 54 0 [.ref 69] [] (97, I, J, R) _
    refine az_E.sn 3 (pc' := 5) (L' := [.ref 69]) (S' := [.int (-1 : Int32), .int (I 69 0)]) (σ' := (97, I, J, R)) rfl ?_
    refine az_E.br (c := (I 69 0) = (-1 : Int32)) (tt := 8) (ff := 20) (L' := [.ref 69]) (S' := []) (σ' := (97, I, J, R)) rfl (fun hc_1876 => ?_) (fun hc_1876 => ?_)
    · rw [if_pos hc_1876] at h
      refine az_E.sn 3 (pc' := 13) (L' := [.ref 69]) (S' := [.int (-1 : Int32), .int (I 69 1)]) (σ' := (97, I, J, R)) rfl ?_
      refine az_E.br (c := (I 69 1) = (-1 : Int32)) (tt := 16) (ff := 20) (L' := [.ref 69]) (S' := []) (σ' := (97, I, J, R)) rfl (fun hc_1877 => ?_) (fun hc_1877 => ?_)
      · rw [if_pos hc_1877] at h
        refine az_E.sn 2 (pc' := 21) (L' := [.ref 69]) (S' := [.int (1 : Int32)]) (σ' := (97, I, J, R)) rfl ?_
        refine az_E.ret (v := some (.int (1 : Int32))) (σ' := (97, I, J, R)) rfl ?_
        show az_E az_F ex 2 128 45 [.retAddr 0, .retAddr 0, .int v2, .retAddr 0, .int v4, .int v5, .ref 71, .ref 69] [.int (1 : Int32)] (97, I, J, R) _
        refine az_E.br (c := (1 : Int32) = 0) (tt := 51) (ff := 48) (L' := [.retAddr 0, .retAddr 0, .int v2, .retAddr 0, .int v4, .int v5, .ref 71, .ref 69]) (S' := []) (σ' := (97, I, J, R)) rfl (fun hn => absurd hn (by decide)) (fun _ => ?_)
        refine az_E.sn 1 (pc' := 50) (L' := [.retAddr 0, .retAddr 0, .int v2, .retAddr 0, .int v4, .int v5, .ref 71, .ref 69]) (S' := [.int (-11 : Int32)]) (σ' := (97, I, J, R)) rfl ?_
        have h := Option.some.inj h
        subst h
        exact az_E.ret (v := some (.int (-11 : Int32))) (σ' := (97, I, J, R)) rfl hQ
      · rw [if_neg hc_1877] at h
        refine az_E.sn 1 (pc' := 21) (L' := [.ref 69]) (S' := [.int (0 : Int32)]) (σ' := (97, I, J, R)) rfl ?_
        refine az_E.ret (v := some (.int (0 : Int32))) (σ' := (97, I, J, R)) rfl ?_
        show az_E az_F ex 2 128 45 [.retAddr 0, .retAddr 0, .int v2, .retAddr 0, .int v4, .int v5, .ref 71, .ref 69] [.int (0 : Int32)] (97, I, J, R) _
        refine az_E.br (c := (0 : Int32) = 0) (tt := 51) (ff := 48) (L' := [.retAddr 0, .retAddr 0, .int v2, .retAddr 0, .int v4, .int v5, .ref 71, .ref 69]) (S' := []) (σ' := (97, I, J, R)) rfl (fun _ => ?_) (fun hn => absurd (by decide) hn)
        refine az_E.sn 1 (pc' := 53) (L' := [.retAddr 0, .retAddr 0, .int v2, .retAddr 0, .int v4, .int v5, .ref 71, .ref 69]) (S' := [.ref 71]) (σ' := (97, I, J, R)) rfl ?_
        refine az_E.call (d := 1) (k' := 55) (vs := [.ref 71]) (pc' := 56) (S' := []) rfl ?_ (fun _ _ hq => hq)
        show az_E az_F ex 1 55 0 [.ref 71] [] (97, I, J, R) _
        refine az_E.sn 3 (pc' := 5) (L' := [.ref 71]) (S' := [.int (-1 : Int32), .int (I 71 1)]) (σ' := (97, I, J, R)) rfl ?_
        refine az_E.br (c := (I 71 1) = (-1 : Int32)) (tt := 12) (ff := 8) (L' := [.ref 71]) (S' := []) (σ' := (97, I, J, R)) rfl (fun hc_1878 => ?_) (fun hc_1878 => ?_)
        · rw [if_pos hc_1878] at h
          refine az_E.sn 1 (pc' := 13) (L' := [.ref 71]) (S' := [.int (0 : Int32)]) (σ' := (97, I, J, R)) rfl ?_
          refine az_E.ret (v := some (.int (0 : Int32))) (σ' := (97, I, J, R)) rfl ?_
          show az_E az_F ex 2 128 56 [.retAddr 0, .retAddr 0, .int v2, .retAddr 0, .int v4, .int v5, .ref 71, .ref 69] [.int (0 : Int32)] (97, I, J, R) _
          refine az_E.br (c := (0 : Int32) = 0) (tt := 72) (ff := 59) (L' := [.retAddr 0, .retAddr 0, .int v2, .retAddr 0, .int v4, .int v5, .ref 71, .ref 69]) (S' := []) (σ' := (97, I, J, R)) rfl (fun _ => ?_) (fun hn => absurd (by decide) hn)
          refine az_E.sn 1 (pc' := 74) (L' := [.retAddr 0, .retAddr 0, .int v2, .retAddr 0, .int v4, .int v5, .ref 71, .ref 69]) (S' := [.int (-12 : Int32)]) (σ' := (97, I, J, R)) rfl ?_
          have h := Option.some.inj h
          subst h
          exact az_E.ret (v := some (.int (-12 : Int32))) (σ' := (97, I, J, R)) rfl hQ
        · rw [if_neg hc_1878] at h
          refine az_E.sn 2 (pc' := 13) (L' := [.ref 71]) (S' := [.int (1 : Int32)]) (σ' := (97, I, J, R)) rfl ?_
          refine az_E.ret (v := some (.int (1 : Int32))) (σ' := (97, I, J, R)) rfl ?_
          show az_E az_F ex 2 128 56 [.retAddr 0, .retAddr 0, .int v2, .retAddr 0, .int v4, .int v5, .ref 71, .ref 69] [.int (1 : Int32)] (97, I, J, R) _
          refine az_E.br (c := (1 : Int32) = 0) (tt := 72) (ff := 59) (L' := [.retAddr 0, .retAddr 0, .int v2, .retAddr 0, .int v4, .int v5, .ref 71, .ref 69]) (S' := []) (σ' := (97, I, J, R)) rfl (fun hn => absurd hn (by decide)) (fun _ => ?_)
          refine az_E.sn 3 (pc' := 66) (L' := [.retAddr 0, .retAddr 0, .int v2, .retAddr 0, .int v4, .int v5, .ref 71, .ref 69]) (S' := [.int (I 71 1), .ref 69]) (σ' := (97, I, J, R)) rfl ?_
          refine az_E.call (d := 1) (k' := 56) (vs := [.ref 69, .int (I 71 1)]) (pc' := 69) (S' := []) rfl ?_ (fun _ _ hq => hq)
          show az_E az_F ex 1 56 0 [.ref 69, .int (I 71 1)] [] (97, I, J, R) _
          refine az_E.sn 1 (pc' := 1) (L' := [.ref 69, .int (I 71 1)]) (S' := [.ref 69]) (σ' := (97, I, J, R)) rfl ?_
          refine az_E.call (d := 0) (k' := 55) (vs := [.ref 69]) (pc' := 4) (S' := []) rfl ?_ (fun _ _ hq => hq)
          show az_E az_F ex 0 55 0 [.ref 69] [] (97, I, J, R) _
          refine az_E.sn 3 (pc' := 5) (L' := [.ref 69]) (S' := [.int (-1 : Int32), .int (I 69 1)]) (σ' := (97, I, J, R)) rfl ?_
          refine az_E.br (c := (I 69 1) = (-1 : Int32)) (tt := 12) (ff := 8) (L' := [.ref 69]) (S' := []) (σ' := (97, I, J, R)) rfl (fun hc_1879 => ?_) (fun hc_1879 => ?_)
          · rw [if_pos hc_1879] at h
            refine az_E.sn 1 (pc' := 13) (L' := [.ref 69]) (S' := [.int (0 : Int32)]) (σ' := (97, I, J, R)) rfl ?_
            refine az_E.ret (v := some (.int (0 : Int32))) (σ' := (97, I, J, R)) rfl ?_
            show az_E az_F ex 1 56 4 [.ref 69, .int (I 71 1)] [.int (0 : Int32)] (97, I, J, R) _
            refine az_E.br (c := (0 : Int32) = 0) (tt := 19) (ff := 7) (L' := [.ref 69, .int (I 71 1)]) (S' := []) (σ' := (97, I, J, R)) rfl (fun _ => ?_) (fun hn => absurd (by decide) hn)
            refine az_E.sn 1 (pc' := 20) (L' := [.ref 69, .int (I 71 1)]) (S' := [.int (0 : Int32)]) (σ' := (97, I, J, R)) rfl ?_
            refine az_E.ret (v := some (.int (0 : Int32))) (σ' := (97, I, J, R)) rfl ?_
            show az_E az_F ex 2 128 69 [.retAddr 0, .retAddr 0, .int v2, .retAddr 0, .int v4, .int v5, .ref 71, .ref 69] [.int (0 : Int32)] (97, I, J, R) _
            refine az_E.br (c := (0 : Int32) = 0) (tt := 72) (ff := 75) (L' := [.retAddr 0, .retAddr 0, .int v2, .retAddr 0, .int v4, .int v5, .ref 71, .ref 69]) (S' := []) (σ' := (97, I, J, R)) rfl (fun _ => ?_) (fun hn => absurd (by decide) hn)
            refine az_E.sn 1 (pc' := 74) (L' := [.retAddr 0, .retAddr 0, .int v2, .retAddr 0, .int v4, .int v5, .ref 71, .ref 69]) (S' := [.int (-12 : Int32)]) (σ' := (97, I, J, R)) rfl ?_
            have h := Option.some.inj h
            subst h
            exact az_E.ret (v := some (.int (-12 : Int32))) (σ' := (97, I, J, R)) rfl hQ
          · rw [if_neg hc_1879] at h
            refine az_E.sn 2 (pc' := 13) (L' := [.ref 69]) (S' := [.int (1 : Int32)]) (σ' := (97, I, J, R)) rfl ?_
            refine az_E.ret (v := some (.int (1 : Int32))) (σ' := (97, I, J, R)) rfl ?_
            show az_E az_F ex 1 56 4 [.ref 69, .int (I 71 1)] [.int (1 : Int32)] (97, I, J, R) _
            refine az_E.br (c := (1 : Int32) = 0) (tt := 19) (ff := 7) (L' := [.ref 69, .int (I 71 1)]) (S' := []) (σ' := (97, I, J, R)) rfl (fun hn => absurd hn (by decide)) (fun _ => ?_)
            refine az_E.sn 3 (pc' := 12) (L' := [.ref 69, .int (I 71 1)]) (S' := [.int (I 71 1), .int (I 69 1)]) (σ' := (97, I, J, R)) rfl ?_
            refine az_E.br (c := (I 69 1) = (I 71 1)) (tt := 15) (ff := 19) (L' := [.ref 69, .int (I 71 1)]) (S' := []) (σ' := (97, I, J, R)) rfl (fun hc_1880 => ?_) (fun hc_1880 => ?_)
            · rw [if_pos hc_1880] at h
              refine az_E.sn 2 (pc' := 20) (L' := [.ref 69, .int (I 71 1)]) (S' := [.int (1 : Int32)]) (σ' := (97, I, J, R)) rfl ?_
              refine az_E.ret (v := some (.int (1 : Int32))) (σ' := (97, I, J, R)) rfl ?_
              show az_E az_F ex 2 128 69 [.retAddr 0, .retAddr 0, .int v2, .retAddr 0, .int v4, .int v5, .ref 71, .ref 69] [.int (1 : Int32)] (97, I, J, R) _
              refine az_E.br (c := (1 : Int32) = 0) (tt := 72) (ff := 75) (L' := [.retAddr 0, .retAddr 0, .int v2, .retAddr 0, .int v4, .int v5, .ref 71, .ref 69]) (S' := []) (σ' := (97, I, J, R)) rfl (fun hn => absurd hn (by decide)) (fun _ => ?_)
              refine az_E.sn 3 (pc' := 80) (L' := [.retAddr 0, .retAddr 0, .int v2, .retAddr 0, .int v4, .int v5, .ref 71, .ref 69]) (S' := [.int v5, .int v2, .ref 71]) (σ' := (97, I, J, R)) rfl ?_
              refine az_E.call (d := 1) (k' := 60) (vs := [.ref 71, .int v2, .int v5]) (pc' := 83) (S' := []) rfl ?_ (fun _ _ hq => hq)
              show az_E az_F ex 1 60 0 [.ref 71, .int v2, .int v5] [] (97, I, J, R) _
              refine az_E.sn 1 (pc' := 1) (L' := [.ref 71, .int v2, .int v5]) (S' := [.int v2]) (σ' := (97, I, J, R)) rfl ?_
              refine az_E.br (c := v2 < 0) (tt := 30) (ff := 4) (L' := [.ref 71, .int v2, .int v5]) (S' := []) (σ' := (97, I, J, R)) rfl (fun hc_1881 => ?_) (fun hc_1881 => ?_)
              · rw [if_pos hc_1881] at h
                refine az_E.sn 1 (pc' := 31) (L' := [.ref 71, .int v2, .int v5]) (S' := [.int (0 : Int32)]) (σ' := (97, I, J, R)) rfl ?_
                refine az_E.ret (v := some (.int (0 : Int32))) (σ' := (97, I, J, R)) rfl ?_
                show az_E az_F ex 2 128 83 [.retAddr 0, .retAddr 0, .int v2, .retAddr 0, .int v4, .int v5, .ref 71, .ref 69] [.int (0 : Int32)] (97, I, J, R) _
                refine az_E.br (c := (0 : Int32) = 0) (tt := 98) (ff := 86) (L' := [.retAddr 0, .retAddr 0, .int v2, .retAddr 0, .int v4, .int v5, .ref 71, .ref 69]) (S' := []) (σ' := (97, I, J, R)) rfl (fun _ => ?_) (fun hn => absurd (by decide) hn)
                refine az_E.sn 1 (pc' := 100) (L' := [.retAddr 0, .retAddr 0, .int v2, .retAddr 0, .int v4, .int v5, .ref 71, .ref 69]) (S' := [.int (-13 : Int32)]) (σ' := (97, I, J, R)) rfl ?_
                have h := Option.some.inj h
                subst h
                exact az_E.ret (v := some (.int (-13 : Int32))) (σ' := (97, I, J, R)) rfl hQ
              · rw [if_neg hc_1881] at h
                refine az_E.sn 1 (pc' := 5) (L' := [.ref 71, .int v2, .int v5]) (S' := [.int v5]) (σ' := (97, I, J, R)) rfl ?_
                refine az_E.br (c := v5 < 0) (tt := 30) (ff := 8) (L' := [.ref 71, .int v2, .int v5]) (S' := []) (σ' := (97, I, J, R)) rfl (fun hc_1882 => ?_) (fun hc_1882 => ?_)
                · rw [if_pos hc_1882] at h
                  refine az_E.sn 1 (pc' := 31) (L' := [.ref 71, .int v2, .int v5]) (S' := [.int (0 : Int32)]) (σ' := (97, I, J, R)) rfl ?_
                  refine az_E.ret (v := some (.int (0 : Int32))) (σ' := (97, I, J, R)) rfl ?_
                  show az_E az_F ex 2 128 83 [.retAddr 0, .retAddr 0, .int v2, .retAddr 0, .int v4, .int v5, .ref 71, .ref 69] [.int (0 : Int32)] (97, I, J, R) _
                  refine az_E.br (c := (0 : Int32) = 0) (tt := 98) (ff := 86) (L' := [.retAddr 0, .retAddr 0, .int v2, .retAddr 0, .int v4, .int v5, .ref 71, .ref 69]) (S' := []) (σ' := (97, I, J, R)) rfl (fun _ => ?_) (fun hn => absurd (by decide) hn)
                  refine az_E.sn 1 (pc' := 100) (L' := [.retAddr 0, .retAddr 0, .int v2, .retAddr 0, .int v4, .int v5, .ref 71, .ref 69]) (S' := [.int (-13 : Int32)]) (σ' := (97, I, J, R)) rfl ?_
                  have h := Option.some.inj h
                  subst h
                  exact az_E.ret (v := some (.int (-13 : Int32))) (σ' := (97, I, J, R)) rfl hQ
                · rw [if_neg hc_1882] at h
                  refine az_E.sn 3 (pc' := 13) (L' := [.ref 71, .int v2, .int v5]) (S' := [.int (I 71 2), .int v2]) (σ' := (97, I, J, R)) rfl ?_
                  refine az_E.br (c := (I 71 2) < v2) (tt := 30) (ff := 16) (L' := [.ref 71, .int v2, .int v5]) (S' := []) (σ' := (97, I, J, R)) rfl (fun hc_1883 => ?_) (fun hc_1883 => ?_)
                  · rw [if_pos hc_1883] at h
                    refine az_E.sn 1 (pc' := 31) (L' := [.ref 71, .int v2, .int v5]) (S' := [.int (0 : Int32)]) (σ' := (97, I, J, R)) rfl ?_
                    refine az_E.ret (v := some (.int (0 : Int32))) (σ' := (97, I, J, R)) rfl ?_
                    show az_E az_F ex 2 128 83 [.retAddr 0, .retAddr 0, .int v2, .retAddr 0, .int v4, .int v5, .ref 71, .ref 69] [.int (0 : Int32)] (97, I, J, R) _
                    refine az_E.br (c := (0 : Int32) = 0) (tt := 98) (ff := 86) (L' := [.retAddr 0, .retAddr 0, .int v2, .retAddr 0, .int v4, .int v5, .ref 71, .ref 69]) (S' := []) (σ' := (97, I, J, R)) rfl (fun _ => ?_) (fun hn => absurd (by decide) hn)
                    refine az_E.sn 1 (pc' := 100) (L' := [.retAddr 0, .retAddr 0, .int v2, .retAddr 0, .int v4, .int v5, .ref 71, .ref 69]) (S' := [.int (-13 : Int32)]) (σ' := (97, I, J, R)) rfl ?_
                    have h := Option.some.inj h
                    subst h
                    exact az_E.ret (v := some (.int (-13 : Int32))) (σ' := (97, I, J, R)) rfl hQ
                  · rw [if_neg hc_1883] at h
                    refine az_E.sn 5 (pc' := 23) (L' := [.ref 71, .int v2, .int v5]) (S' := [.int ((I 71 2) - v2), .int v5]) (σ' := (97, I, J, R)) rfl ?_
                    refine az_E.br (c := ((I 71 2) - v2) < v5) (tt := 30) (ff := 26) (L' := [.ref 71, .int v2, .int v5]) (S' := []) (σ' := (97, I, J, R)) rfl (fun hc_1884 => ?_) (fun hc_1884 => ?_)
                    · rw [if_pos hc_1884] at h
                      refine az_E.sn 1 (pc' := 31) (L' := [.ref 71, .int v2, .int v5]) (S' := [.int (0 : Int32)]) (σ' := (97, I, J, R)) rfl ?_
                      refine az_E.ret (v := some (.int (0 : Int32))) (σ' := (97, I, J, R)) rfl ?_
                      show az_E az_F ex 2 128 83 [.retAddr 0, .retAddr 0, .int v2, .retAddr 0, .int v4, .int v5, .ref 71, .ref 69] [.int (0 : Int32)] (97, I, J, R) _
                      refine az_E.br (c := (0 : Int32) = 0) (tt := 98) (ff := 86) (L' := [.retAddr 0, .retAddr 0, .int v2, .retAddr 0, .int v4, .int v5, .ref 71, .ref 69]) (S' := []) (σ' := (97, I, J, R)) rfl (fun _ => ?_) (fun hn => absurd (by decide) hn)
                      refine az_E.sn 1 (pc' := 100) (L' := [.retAddr 0, .retAddr 0, .int v2, .retAddr 0, .int v4, .int v5, .ref 71, .ref 69]) (S' := [.int (-13 : Int32)]) (σ' := (97, I, J, R)) rfl ?_
                      have h := Option.some.inj h
                      subst h
                      exact az_E.ret (v := some (.int (-13 : Int32))) (σ' := (97, I, J, R)) rfl hQ
                    · rw [if_neg hc_1884] at h
                      refine az_E.sn 2 (pc' := 31) (L' := [.ref 71, .int v2, .int v5]) (S' := [.int (1 : Int32)]) (σ' := (97, I, J, R)) rfl ?_
                      refine az_E.ret (v := some (.int (1 : Int32))) (σ' := (97, I, J, R)) rfl ?_
                      show az_E az_F ex 2 128 83 [.retAddr 0, .retAddr 0, .int v2, .retAddr 0, .int v4, .int v5, .ref 71, .ref 69] [.int (1 : Int32)] (97, I, J, R) _
                      refine az_E.br (c := (1 : Int32) = 0) (tt := 98) (ff := 86) (L' := [.retAddr 0, .retAddr 0, .int v2, .retAddr 0, .int v4, .int v5, .ref 71, .ref 69]) (S' := []) (σ' := (97, I, J, R)) rfl (fun hn => absurd hn (by decide)) (fun _ => ?_)
                      refine az_E.sn 3 (pc' := 92) (L' := [.retAddr 0, .retAddr 0, .int v2, .retAddr 0, .int v4, .int v5, .ref 71, .ref 69]) (S' := [.int v5, .int v4, .ref 69]) (σ' := (97, I, J, R)) rfl ?_
                      refine az_E.call (d := 1) (k' := 60) (vs := [.ref 69, .int v4, .int v5]) (pc' := 95) (S' := []) rfl ?_ (fun _ _ hq => hq)
                      show az_E az_F ex 1 60 0 [.ref 69, .int v4, .int v5] [] (97, I, J, R) _
                      refine az_E.sn 1 (pc' := 1) (L' := [.ref 69, .int v4, .int v5]) (S' := [.int v4]) (σ' := (97, I, J, R)) rfl ?_
                      refine az_E.br (c := v4 < 0) (tt := 30) (ff := 4) (L' := [.ref 69, .int v4, .int v5]) (S' := []) (σ' := (97, I, J, R)) rfl (fun hc_1885 => ?_) (fun hc_1885 => ?_)
                      · rw [if_pos hc_1885] at h
                        refine az_E.sn 1 (pc' := 31) (L' := [.ref 69, .int v4, .int v5]) (S' := [.int (0 : Int32)]) (σ' := (97, I, J, R)) rfl ?_
                        refine az_E.ret (v := some (.int (0 : Int32))) (σ' := (97, I, J, R)) rfl ?_
                        show az_E az_F ex 2 128 95 [.retAddr 0, .retAddr 0, .int v2, .retAddr 0, .int v4, .int v5, .ref 71, .ref 69] [.int (0 : Int32)] (97, I, J, R) _
                        refine az_E.br (c := (0 : Int32) = 0) (tt := 98) (ff := 101) (L' := [.retAddr 0, .retAddr 0, .int v2, .retAddr 0, .int v4, .int v5, .ref 71, .ref 69]) (S' := []) (σ' := (97, I, J, R)) rfl (fun _ => ?_) (fun hn => absurd (by decide) hn)
                        refine az_E.sn 1 (pc' := 100) (L' := [.retAddr 0, .retAddr 0, .int v2, .retAddr 0, .int v4, .int v5, .ref 71, .ref 69]) (S' := [.int (-13 : Int32)]) (σ' := (97, I, J, R)) rfl ?_
                        have h := Option.some.inj h
                        subst h
                        exact az_E.ret (v := some (.int (-13 : Int32))) (σ' := (97, I, J, R)) rfl hQ
                      · rw [if_neg hc_1885] at h
                        refine az_E.sn 1 (pc' := 5) (L' := [.ref 69, .int v4, .int v5]) (S' := [.int v5]) (σ' := (97, I, J, R)) rfl ?_
                        refine az_E.br (c := v5 < 0) (tt := 30) (ff := 8) (L' := [.ref 69, .int v4, .int v5]) (S' := []) (σ' := (97, I, J, R)) rfl (fun hc_1886 => ?_) (fun hc_1886 => ?_)
                        · rw [if_pos hc_1886] at h
                          refine az_E.sn 1 (pc' := 31) (L' := [.ref 69, .int v4, .int v5]) (S' := [.int (0 : Int32)]) (σ' := (97, I, J, R)) rfl ?_
                          refine az_E.ret (v := some (.int (0 : Int32))) (σ' := (97, I, J, R)) rfl ?_
                          show az_E az_F ex 2 128 95 [.retAddr 0, .retAddr 0, .int v2, .retAddr 0, .int v4, .int v5, .ref 71, .ref 69] [.int (0 : Int32)] (97, I, J, R) _
                          refine az_E.br (c := (0 : Int32) = 0) (tt := 98) (ff := 101) (L' := [.retAddr 0, .retAddr 0, .int v2, .retAddr 0, .int v4, .int v5, .ref 71, .ref 69]) (S' := []) (σ' := (97, I, J, R)) rfl (fun _ => ?_) (fun hn => absurd (by decide) hn)
                          refine az_E.sn 1 (pc' := 100) (L' := [.retAddr 0, .retAddr 0, .int v2, .retAddr 0, .int v4, .int v5, .ref 71, .ref 69]) (S' := [.int (-13 : Int32)]) (σ' := (97, I, J, R)) rfl ?_
                          have h := Option.some.inj h
                          subst h
                          exact az_E.ret (v := some (.int (-13 : Int32))) (σ' := (97, I, J, R)) rfl hQ
                        · rw [if_neg hc_1886] at h
                          refine az_E.sn 3 (pc' := 13) (L' := [.ref 69, .int v4, .int v5]) (S' := [.int (I 69 2), .int v4]) (σ' := (97, I, J, R)) rfl ?_
                          refine az_E.br (c := (I 69 2) < v4) (tt := 30) (ff := 16) (L' := [.ref 69, .int v4, .int v5]) (S' := []) (σ' := (97, I, J, R)) rfl (fun hc_1887 => ?_) (fun hc_1887 => ?_)
                          · rw [if_pos hc_1887] at h
                            refine az_E.sn 1 (pc' := 31) (L' := [.ref 69, .int v4, .int v5]) (S' := [.int (0 : Int32)]) (σ' := (97, I, J, R)) rfl ?_
                            refine az_E.ret (v := some (.int (0 : Int32))) (σ' := (97, I, J, R)) rfl ?_
                            show az_E az_F ex 2 128 95 [.retAddr 0, .retAddr 0, .int v2, .retAddr 0, .int v4, .int v5, .ref 71, .ref 69] [.int (0 : Int32)] (97, I, J, R) _
                            refine az_E.br (c := (0 : Int32) = 0) (tt := 98) (ff := 101) (L' := [.retAddr 0, .retAddr 0, .int v2, .retAddr 0, .int v4, .int v5, .ref 71, .ref 69]) (S' := []) (σ' := (97, I, J, R)) rfl (fun _ => ?_) (fun hn => absurd (by decide) hn)
                            refine az_E.sn 1 (pc' := 100) (L' := [.retAddr 0, .retAddr 0, .int v2, .retAddr 0, .int v4, .int v5, .ref 71, .ref 69]) (S' := [.int (-13 : Int32)]) (σ' := (97, I, J, R)) rfl ?_
                            have h := Option.some.inj h
                            subst h
                            exact az_E.ret (v := some (.int (-13 : Int32))) (σ' := (97, I, J, R)) rfl hQ
                          · rw [if_neg hc_1887] at h
                            refine az_E.sn 5 (pc' := 23) (L' := [.ref 69, .int v4, .int v5]) (S' := [.int ((I 69 2) - v4), .int v5]) (σ' := (97, I, J, R)) rfl ?_
                            refine az_E.br (c := ((I 69 2) - v4) < v5) (tt := 30) (ff := 26) (L' := [.ref 69, .int v4, .int v5]) (S' := []) (σ' := (97, I, J, R)) rfl (fun hc_1888 => ?_) (fun hc_1888 => ?_)
                            · rw [if_pos hc_1888] at h
                              refine az_E.sn 1 (pc' := 31) (L' := [.ref 69, .int v4, .int v5]) (S' := [.int (0 : Int32)]) (σ' := (97, I, J, R)) rfl ?_
                              refine az_E.ret (v := some (.int (0 : Int32))) (σ' := (97, I, J, R)) rfl ?_
                              show az_E az_F ex 2 128 95 [.retAddr 0, .retAddr 0, .int v2, .retAddr 0, .int v4, .int v5, .ref 71, .ref 69] [.int (0 : Int32)] (97, I, J, R) _
                              refine az_E.br (c := (0 : Int32) = 0) (tt := 98) (ff := 101) (L' := [.retAddr 0, .retAddr 0, .int v2, .retAddr 0, .int v4, .int v5, .ref 71, .ref 69]) (S' := []) (σ' := (97, I, J, R)) rfl (fun _ => ?_) (fun hn => absurd (by decide) hn)
                              refine az_E.sn 1 (pc' := 100) (L' := [.retAddr 0, .retAddr 0, .int v2, .retAddr 0, .int v4, .int v5, .ref 71, .ref 69]) (S' := [.int (-13 : Int32)]) (σ' := (97, I, J, R)) rfl ?_
                              have h := Option.some.inj h
                              subst h
                              exact az_E.ret (v := some (.int (-13 : Int32))) (σ' := (97, I, J, R)) rfl hQ
                            · rw [if_neg hc_1888] at h
                              refine az_E.sn 2 (pc' := 31) (L' := [.ref 69, .int v4, .int v5]) (S' := [.int (1 : Int32)]) (σ' := (97, I, J, R)) rfl ?_
                              refine az_E.ret (v := some (.int (1 : Int32))) (σ' := (97, I, J, R)) rfl ?_
                              show az_E az_F ex 2 128 95 [.retAddr 0, .retAddr 0, .int v2, .retAddr 0, .int v4, .int v5, .ref 71, .ref 69] [.int (1 : Int32)] (97, I, J, R) _
                              refine az_E.br (c := (1 : Int32) = 0) (tt := 98) (ff := 101) (L' := [.retAddr 0, .retAddr 0, .int v2, .retAddr 0, .int v4, .int v5, .ref 71, .ref 69]) (S' := []) (σ' := (97, I, J, R)) rfl (fun hn => absurd hn (by decide)) (fun _ => ?_)
                              refine az_E.sn 7 (pc' := 116) (L' := [.retAddr 0, .retAddr 0, .int v2, .retAddr 0, .int v4, .int v5, .ref 71, .ref 69]) (S' := [.int v5, .int v4, .ref (69 + 1), .int v2, .ref (71 + 1)]) (σ' := (97, I, J, R)) rfl ?_
                              by_cases hc_1889 : v2 < 0 ∨ v4 < 0 ∨ v5 < 0 ∨ 60 < v2.toNatClampNeg + v5.toNatClampNeg ∨ 60 < v4.toNatClampNeg + v5.toNatClampNeg
                              · rw [if_pos hc_1889] at h; cases h
                              · rw [if_neg hc_1889] at h
                                refine az_E.o (o := az_cp az_F (97, I, J, R) (71 + 1) v2 (69 + 1) v4 v5) (pc' := 119) (L' := [.retAddr 0, .retAddr 0, .int v2, .retAddr 0, .int v4, .int v5, .ref 71, .ref 69]) (S' := []) (x := (97, I, (az_ur J (69 + 1) (va_cpy (J (71 + 1)) (J (69 + 1)) v2.toNatClampNeg v4.toNatClampNeg v5.toNatClampNeg)), R)) rfl (if_neg hc_1889) ?_
                                refine az_E.sn 1 (pc' := 121) (L' := [.retAddr 0, .retAddr 0, .int v2, .retAddr 0, .int v4, .int v5, .ref 71, .ref 69]) (S' := [.int v5]) (σ' := (97, I, (az_ur J (69 + 1) (va_cpy (J (71 + 1)) (J (69 + 1)) v2.toNatClampNeg v4.toNatClampNeg v5.toNatClampNeg)), R)) rfl ?_
                                have h := Option.some.inj h
                                subst h
                                exact az_E.ret (v := some (.int v5)) (σ' := (97, I, (az_ur J (69 + 1) (va_cpy (J (71 + 1)) (J (69 + 1)) v2.toNatClampNeg v4.toNatClampNeg v5.toNatClampNeg)), R)) rfl hQ
            · rw [if_neg hc_1880] at h
              refine az_E.sn 1 (pc' := 20) (L' := [.ref 69, .int (I 71 1)]) (S' := [.int (0 : Int32)]) (σ' := (97, I, J, R)) rfl ?_
              refine az_E.ret (v := some (.int (0 : Int32))) (σ' := (97, I, J, R)) rfl ?_
              show az_E az_F ex 2 128 69 [.retAddr 0, .retAddr 0, .int v2, .retAddr 0, .int v4, .int v5, .ref 71, .ref 69] [.int (0 : Int32)] (97, I, J, R) _
              refine az_E.br (c := (0 : Int32) = 0) (tt := 72) (ff := 75) (L' := [.retAddr 0, .retAddr 0, .int v2, .retAddr 0, .int v4, .int v5, .ref 71, .ref 69]) (S' := []) (σ' := (97, I, J, R)) rfl (fun _ => ?_) (fun hn => absurd (by decide) hn)
              refine az_E.sn 1 (pc' := 74) (L' := [.retAddr 0, .retAddr 0, .int v2, .retAddr 0, .int v4, .int v5, .ref 71, .ref 69]) (S' := [.int (-12 : Int32)]) (σ' := (97, I, J, R)) rfl ?_
              have h := Option.some.inj h
              subst h
              exact az_E.ret (v := some (.int (-12 : Int32))) (σ' := (97, I, J, R)) rfl hQ
    · rw [if_neg hc_1876] at h
      refine az_E.sn 1 (pc' := 21) (L' := [.ref 69]) (S' := [.int (0 : Int32)]) (σ' := (97, I, J, R)) rfl ?_
      refine az_E.ret (v := some (.int (0 : Int32))) (σ' := (97, I, J, R)) rfl ?_
      show az_E az_F ex 2 128 45 [.retAddr 0, .retAddr 0, .int v2, .retAddr 0, .int v4, .int v5, .ref 71, .ref 69] [.int (0 : Int32)] (97, I, J, R) _
      refine az_E.br (c := (0 : Int32) = 0) (tt := 51) (ff := 48) (L' := [.retAddr 0, .retAddr 0, .int v2, .retAddr 0, .int v4, .int v5, .ref 71, .ref 69]) (S' := []) (σ' := (97, I, J, R)) rfl (fun _ => ?_) (fun hn => absurd (by decide) hn)
      refine az_E.sn 1 (pc' := 53) (L' := [.retAddr 0, .retAddr 0, .int v2, .retAddr 0, .int v4, .int v5, .ref 71, .ref 69]) (S' := [.ref 71]) (σ' := (97, I, J, R)) rfl ?_
      refine az_E.call (d := 1) (k' := 55) (vs := [.ref 71]) (pc' := 56) (S' := []) rfl ?_ (fun _ _ hq => hq)
      show az_E az_F ex 1 55 0 [.ref 71] [] (97, I, J, R) _
      refine az_E.sn 3 (pc' := 5) (L' := [.ref 71]) (S' := [.int (-1 : Int32), .int (I 71 1)]) (σ' := (97, I, J, R)) rfl ?_
      refine az_E.br (c := (I 71 1) = (-1 : Int32)) (tt := 12) (ff := 8) (L' := [.ref 71]) (S' := []) (σ' := (97, I, J, R)) rfl (fun hc_1890 => ?_) (fun hc_1890 => ?_)
      · rw [if_pos hc_1890] at h
        refine az_E.sn 1 (pc' := 13) (L' := [.ref 71]) (S' := [.int (0 : Int32)]) (σ' := (97, I, J, R)) rfl ?_
        refine az_E.ret (v := some (.int (0 : Int32))) (σ' := (97, I, J, R)) rfl ?_
        show az_E az_F ex 2 128 56 [.retAddr 0, .retAddr 0, .int v2, .retAddr 0, .int v4, .int v5, .ref 71, .ref 69] [.int (0 : Int32)] (97, I, J, R) _
        refine az_E.br (c := (0 : Int32) = 0) (tt := 72) (ff := 59) (L' := [.retAddr 0, .retAddr 0, .int v2, .retAddr 0, .int v4, .int v5, .ref 71, .ref 69]) (S' := []) (σ' := (97, I, J, R)) rfl (fun _ => ?_) (fun hn => absurd (by decide) hn)
        refine az_E.sn 1 (pc' := 74) (L' := [.retAddr 0, .retAddr 0, .int v2, .retAddr 0, .int v4, .int v5, .ref 71, .ref 69]) (S' := [.int (-12 : Int32)]) (σ' := (97, I, J, R)) rfl ?_
        have h := Option.some.inj h
        subst h
        exact az_E.ret (v := some (.int (-12 : Int32))) (σ' := (97, I, J, R)) rfl hQ
      · rw [if_neg hc_1890] at h
        refine az_E.sn 2 (pc' := 13) (L' := [.ref 71]) (S' := [.int (1 : Int32)]) (σ' := (97, I, J, R)) rfl ?_
        refine az_E.ret (v := some (.int (1 : Int32))) (σ' := (97, I, J, R)) rfl ?_
        show az_E az_F ex 2 128 56 [.retAddr 0, .retAddr 0, .int v2, .retAddr 0, .int v4, .int v5, .ref 71, .ref 69] [.int (1 : Int32)] (97, I, J, R) _
        refine az_E.br (c := (1 : Int32) = 0) (tt := 72) (ff := 59) (L' := [.retAddr 0, .retAddr 0, .int v2, .retAddr 0, .int v4, .int v5, .ref 71, .ref 69]) (S' := []) (σ' := (97, I, J, R)) rfl (fun hn => absurd hn (by decide)) (fun _ => ?_)
        refine az_E.sn 3 (pc' := 66) (L' := [.retAddr 0, .retAddr 0, .int v2, .retAddr 0, .int v4, .int v5, .ref 71, .ref 69]) (S' := [.int (I 71 1), .ref 69]) (σ' := (97, I, J, R)) rfl ?_
        refine az_E.call (d := 1) (k' := 56) (vs := [.ref 69, .int (I 71 1)]) (pc' := 69) (S' := []) rfl ?_ (fun _ _ hq => hq)
        show az_E az_F ex 1 56 0 [.ref 69, .int (I 71 1)] [] (97, I, J, R) _
        refine az_E.sn 1 (pc' := 1) (L' := [.ref 69, .int (I 71 1)]) (S' := [.ref 69]) (σ' := (97, I, J, R)) rfl ?_
        refine az_E.call (d := 0) (k' := 55) (vs := [.ref 69]) (pc' := 4) (S' := []) rfl ?_ (fun _ _ hq => hq)
        show az_E az_F ex 0 55 0 [.ref 69] [] (97, I, J, R) _
        refine az_E.sn 3 (pc' := 5) (L' := [.ref 69]) (S' := [.int (-1 : Int32), .int (I 69 1)]) (σ' := (97, I, J, R)) rfl ?_
        refine az_E.br (c := (I 69 1) = (-1 : Int32)) (tt := 12) (ff := 8) (L' := [.ref 69]) (S' := []) (σ' := (97, I, J, R)) rfl (fun hc_1891 => ?_) (fun hc_1891 => ?_)
        · rw [if_pos hc_1891] at h
          refine az_E.sn 1 (pc' := 13) (L' := [.ref 69]) (S' := [.int (0 : Int32)]) (σ' := (97, I, J, R)) rfl ?_
          refine az_E.ret (v := some (.int (0 : Int32))) (σ' := (97, I, J, R)) rfl ?_
          show az_E az_F ex 1 56 4 [.ref 69, .int (I 71 1)] [.int (0 : Int32)] (97, I, J, R) _
          refine az_E.br (c := (0 : Int32) = 0) (tt := 19) (ff := 7) (L' := [.ref 69, .int (I 71 1)]) (S' := []) (σ' := (97, I, J, R)) rfl (fun _ => ?_) (fun hn => absurd (by decide) hn)
          refine az_E.sn 1 (pc' := 20) (L' := [.ref 69, .int (I 71 1)]) (S' := [.int (0 : Int32)]) (σ' := (97, I, J, R)) rfl ?_
          refine az_E.ret (v := some (.int (0 : Int32))) (σ' := (97, I, J, R)) rfl ?_
          show az_E az_F ex 2 128 69 [.retAddr 0, .retAddr 0, .int v2, .retAddr 0, .int v4, .int v5, .ref 71, .ref 69] [.int (0 : Int32)] (97, I, J, R) _
          refine az_E.br (c := (0 : Int32) = 0) (tt := 72) (ff := 75) (L' := [.retAddr 0, .retAddr 0, .int v2, .retAddr 0, .int v4, .int v5, .ref 71, .ref 69]) (S' := []) (σ' := (97, I, J, R)) rfl (fun _ => ?_) (fun hn => absurd (by decide) hn)
          refine az_E.sn 1 (pc' := 74) (L' := [.retAddr 0, .retAddr 0, .int v2, .retAddr 0, .int v4, .int v5, .ref 71, .ref 69]) (S' := [.int (-12 : Int32)]) (σ' := (97, I, J, R)) rfl ?_
          have h := Option.some.inj h
          subst h
          exact az_E.ret (v := some (.int (-12 : Int32))) (σ' := (97, I, J, R)) rfl hQ
        · rw [if_neg hc_1891] at h
          refine az_E.sn 2 (pc' := 13) (L' := [.ref 69]) (S' := [.int (1 : Int32)]) (σ' := (97, I, J, R)) rfl ?_
          refine az_E.ret (v := some (.int (1 : Int32))) (σ' := (97, I, J, R)) rfl ?_
          show az_E az_F ex 1 56 4 [.ref 69, .int (I 71 1)] [.int (1 : Int32)] (97, I, J, R) _
          refine az_E.br (c := (1 : Int32) = 0) (tt := 19) (ff := 7) (L' := [.ref 69, .int (I 71 1)]) (S' := []) (σ' := (97, I, J, R)) rfl (fun hn => absurd hn (by decide)) (fun _ => ?_)
          refine az_E.sn 3 (pc' := 12) (L' := [.ref 69, .int (I 71 1)]) (S' := [.int (I 71 1), .int (I 69 1)]) (σ' := (97, I, J, R)) rfl ?_
          refine az_E.br (c := (I 69 1) = (I 71 1)) (tt := 15) (ff := 19) (L' := [.ref 69, .int (I 71 1)]) (S' := []) (σ' := (97, I, J, R)) rfl (fun hc_1892 => ?_) (fun hc_1892 => ?_)
          · rw [if_pos hc_1892] at h
            refine az_E.sn 2 (pc' := 20) (L' := [.ref 69, .int (I 71 1)]) (S' := [.int (1 : Int32)]) (σ' := (97, I, J, R)) rfl ?_
            refine az_E.ret (v := some (.int (1 : Int32))) (σ' := (97, I, J, R)) rfl ?_
            show az_E az_F ex 2 128 69 [.retAddr 0, .retAddr 0, .int v2, .retAddr 0, .int v4, .int v5, .ref 71, .ref 69] [.int (1 : Int32)] (97, I, J, R) _
            refine az_E.br (c := (1 : Int32) = 0) (tt := 72) (ff := 75) (L' := [.retAddr 0, .retAddr 0, .int v2, .retAddr 0, .int v4, .int v5, .ref 71, .ref 69]) (S' := []) (σ' := (97, I, J, R)) rfl (fun hn => absurd hn (by decide)) (fun _ => ?_)
            refine az_E.sn 3 (pc' := 80) (L' := [.retAddr 0, .retAddr 0, .int v2, .retAddr 0, .int v4, .int v5, .ref 71, .ref 69]) (S' := [.int v5, .int v2, .ref 71]) (σ' := (97, I, J, R)) rfl ?_
            refine az_E.call (d := 1) (k' := 60) (vs := [.ref 71, .int v2, .int v5]) (pc' := 83) (S' := []) rfl ?_ (fun _ _ hq => hq)
            show az_E az_F ex 1 60 0 [.ref 71, .int v2, .int v5] [] (97, I, J, R) _
            refine az_E.sn 1 (pc' := 1) (L' := [.ref 71, .int v2, .int v5]) (S' := [.int v2]) (σ' := (97, I, J, R)) rfl ?_
            refine az_E.br (c := v2 < 0) (tt := 30) (ff := 4) (L' := [.ref 71, .int v2, .int v5]) (S' := []) (σ' := (97, I, J, R)) rfl (fun hc_1893 => ?_) (fun hc_1893 => ?_)
            · rw [if_pos hc_1893] at h
              refine az_E.sn 1 (pc' := 31) (L' := [.ref 71, .int v2, .int v5]) (S' := [.int (0 : Int32)]) (σ' := (97, I, J, R)) rfl ?_
              refine az_E.ret (v := some (.int (0 : Int32))) (σ' := (97, I, J, R)) rfl ?_
              show az_E az_F ex 2 128 83 [.retAddr 0, .retAddr 0, .int v2, .retAddr 0, .int v4, .int v5, .ref 71, .ref 69] [.int (0 : Int32)] (97, I, J, R) _
              refine az_E.br (c := (0 : Int32) = 0) (tt := 98) (ff := 86) (L' := [.retAddr 0, .retAddr 0, .int v2, .retAddr 0, .int v4, .int v5, .ref 71, .ref 69]) (S' := []) (σ' := (97, I, J, R)) rfl (fun _ => ?_) (fun hn => absurd (by decide) hn)
              refine az_E.sn 1 (pc' := 100) (L' := [.retAddr 0, .retAddr 0, .int v2, .retAddr 0, .int v4, .int v5, .ref 71, .ref 69]) (S' := [.int (-13 : Int32)]) (σ' := (97, I, J, R)) rfl ?_
              have h := Option.some.inj h
              subst h
              exact az_E.ret (v := some (.int (-13 : Int32))) (σ' := (97, I, J, R)) rfl hQ
            · rw [if_neg hc_1893] at h
              refine az_E.sn 1 (pc' := 5) (L' := [.ref 71, .int v2, .int v5]) (S' := [.int v5]) (σ' := (97, I, J, R)) rfl ?_
              refine az_E.br (c := v5 < 0) (tt := 30) (ff := 8) (L' := [.ref 71, .int v2, .int v5]) (S' := []) (σ' := (97, I, J, R)) rfl (fun hc_1894 => ?_) (fun hc_1894 => ?_)
              · rw [if_pos hc_1894] at h
                refine az_E.sn 1 (pc' := 31) (L' := [.ref 71, .int v2, .int v5]) (S' := [.int (0 : Int32)]) (σ' := (97, I, J, R)) rfl ?_
                refine az_E.ret (v := some (.int (0 : Int32))) (σ' := (97, I, J, R)) rfl ?_
                show az_E az_F ex 2 128 83 [.retAddr 0, .retAddr 0, .int v2, .retAddr 0, .int v4, .int v5, .ref 71, .ref 69] [.int (0 : Int32)] (97, I, J, R) _
                refine az_E.br (c := (0 : Int32) = 0) (tt := 98) (ff := 86) (L' := [.retAddr 0, .retAddr 0, .int v2, .retAddr 0, .int v4, .int v5, .ref 71, .ref 69]) (S' := []) (σ' := (97, I, J, R)) rfl (fun _ => ?_) (fun hn => absurd (by decide) hn)
                refine az_E.sn 1 (pc' := 100) (L' := [.retAddr 0, .retAddr 0, .int v2, .retAddr 0, .int v4, .int v5, .ref 71, .ref 69]) (S' := [.int (-13 : Int32)]) (σ' := (97, I, J, R)) rfl ?_
                have h := Option.some.inj h
                subst h
                exact az_E.ret (v := some (.int (-13 : Int32))) (σ' := (97, I, J, R)) rfl hQ
              · rw [if_neg hc_1894] at h
                refine az_E.sn 3 (pc' := 13) (L' := [.ref 71, .int v2, .int v5]) (S' := [.int (I 71 2), .int v2]) (σ' := (97, I, J, R)) rfl ?_
                refine az_E.br (c := (I 71 2) < v2) (tt := 30) (ff := 16) (L' := [.ref 71, .int v2, .int v5]) (S' := []) (σ' := (97, I, J, R)) rfl (fun hc_1895 => ?_) (fun hc_1895 => ?_)
                · rw [if_pos hc_1895] at h
                  refine az_E.sn 1 (pc' := 31) (L' := [.ref 71, .int v2, .int v5]) (S' := [.int (0 : Int32)]) (σ' := (97, I, J, R)) rfl ?_
                  refine az_E.ret (v := some (.int (0 : Int32))) (σ' := (97, I, J, R)) rfl ?_
                  show az_E az_F ex 2 128 83 [.retAddr 0, .retAddr 0, .int v2, .retAddr 0, .int v4, .int v5, .ref 71, .ref 69] [.int (0 : Int32)] (97, I, J, R) _
                  refine az_E.br (c := (0 : Int32) = 0) (tt := 98) (ff := 86) (L' := [.retAddr 0, .retAddr 0, .int v2, .retAddr 0, .int v4, .int v5, .ref 71, .ref 69]) (S' := []) (σ' := (97, I, J, R)) rfl (fun _ => ?_) (fun hn => absurd (by decide) hn)
                  refine az_E.sn 1 (pc' := 100) (L' := [.retAddr 0, .retAddr 0, .int v2, .retAddr 0, .int v4, .int v5, .ref 71, .ref 69]) (S' := [.int (-13 : Int32)]) (σ' := (97, I, J, R)) rfl ?_
                  have h := Option.some.inj h
                  subst h
                  exact az_E.ret (v := some (.int (-13 : Int32))) (σ' := (97, I, J, R)) rfl hQ
                · rw [if_neg hc_1895] at h
                  refine az_E.sn 5 (pc' := 23) (L' := [.ref 71, .int v2, .int v5]) (S' := [.int ((I 71 2) - v2), .int v5]) (σ' := (97, I, J, R)) rfl ?_
                  refine az_E.br (c := ((I 71 2) - v2) < v5) (tt := 30) (ff := 26) (L' := [.ref 71, .int v2, .int v5]) (S' := []) (σ' := (97, I, J, R)) rfl (fun hc_1896 => ?_) (fun hc_1896 => ?_)
                  · rw [if_pos hc_1896] at h
                    refine az_E.sn 1 (pc' := 31) (L' := [.ref 71, .int v2, .int v5]) (S' := [.int (0 : Int32)]) (σ' := (97, I, J, R)) rfl ?_
                    refine az_E.ret (v := some (.int (0 : Int32))) (σ' := (97, I, J, R)) rfl ?_
                    show az_E az_F ex 2 128 83 [.retAddr 0, .retAddr 0, .int v2, .retAddr 0, .int v4, .int v5, .ref 71, .ref 69] [.int (0 : Int32)] (97, I, J, R) _
                    refine az_E.br (c := (0 : Int32) = 0) (tt := 98) (ff := 86) (L' := [.retAddr 0, .retAddr 0, .int v2, .retAddr 0, .int v4, .int v5, .ref 71, .ref 69]) (S' := []) (σ' := (97, I, J, R)) rfl (fun _ => ?_) (fun hn => absurd (by decide) hn)
                    refine az_E.sn 1 (pc' := 100) (L' := [.retAddr 0, .retAddr 0, .int v2, .retAddr 0, .int v4, .int v5, .ref 71, .ref 69]) (S' := [.int (-13 : Int32)]) (σ' := (97, I, J, R)) rfl ?_
                    have h := Option.some.inj h
                    subst h
                    exact az_E.ret (v := some (.int (-13 : Int32))) (σ' := (97, I, J, R)) rfl hQ
                  · rw [if_neg hc_1896] at h
                    refine az_E.sn 2 (pc' := 31) (L' := [.ref 71, .int v2, .int v5]) (S' := [.int (1 : Int32)]) (σ' := (97, I, J, R)) rfl ?_
                    refine az_E.ret (v := some (.int (1 : Int32))) (σ' := (97, I, J, R)) rfl ?_
                    show az_E az_F ex 2 128 83 [.retAddr 0, .retAddr 0, .int v2, .retAddr 0, .int v4, .int v5, .ref 71, .ref 69] [.int (1 : Int32)] (97, I, J, R) _
                    refine az_E.br (c := (1 : Int32) = 0) (tt := 98) (ff := 86) (L' := [.retAddr 0, .retAddr 0, .int v2, .retAddr 0, .int v4, .int v5, .ref 71, .ref 69]) (S' := []) (σ' := (97, I, J, R)) rfl (fun hn => absurd hn (by decide)) (fun _ => ?_)
                    refine az_E.sn 3 (pc' := 92) (L' := [.retAddr 0, .retAddr 0, .int v2, .retAddr 0, .int v4, .int v5, .ref 71, .ref 69]) (S' := [.int v5, .int v4, .ref 69]) (σ' := (97, I, J, R)) rfl ?_
                    refine az_E.call (d := 1) (k' := 60) (vs := [.ref 69, .int v4, .int v5]) (pc' := 95) (S' := []) rfl ?_ (fun _ _ hq => hq)
                    show az_E az_F ex 1 60 0 [.ref 69, .int v4, .int v5] [] (97, I, J, R) _
                    refine az_E.sn 1 (pc' := 1) (L' := [.ref 69, .int v4, .int v5]) (S' := [.int v4]) (σ' := (97, I, J, R)) rfl ?_
                    refine az_E.br (c := v4 < 0) (tt := 30) (ff := 4) (L' := [.ref 69, .int v4, .int v5]) (S' := []) (σ' := (97, I, J, R)) rfl (fun hc_1897 => ?_) (fun hc_1897 => ?_)
                    · rw [if_pos hc_1897] at h
                      refine az_E.sn 1 (pc' := 31) (L' := [.ref 69, .int v4, .int v5]) (S' := [.int (0 : Int32)]) (σ' := (97, I, J, R)) rfl ?_
                      refine az_E.ret (v := some (.int (0 : Int32))) (σ' := (97, I, J, R)) rfl ?_
                      show az_E az_F ex 2 128 95 [.retAddr 0, .retAddr 0, .int v2, .retAddr 0, .int v4, .int v5, .ref 71, .ref 69] [.int (0 : Int32)] (97, I, J, R) _
                      refine az_E.br (c := (0 : Int32) = 0) (tt := 98) (ff := 101) (L' := [.retAddr 0, .retAddr 0, .int v2, .retAddr 0, .int v4, .int v5, .ref 71, .ref 69]) (S' := []) (σ' := (97, I, J, R)) rfl (fun _ => ?_) (fun hn => absurd (by decide) hn)
                      refine az_E.sn 1 (pc' := 100) (L' := [.retAddr 0, .retAddr 0, .int v2, .retAddr 0, .int v4, .int v5, .ref 71, .ref 69]) (S' := [.int (-13 : Int32)]) (σ' := (97, I, J, R)) rfl ?_
                      have h := Option.some.inj h
                      subst h
                      exact az_E.ret (v := some (.int (-13 : Int32))) (σ' := (97, I, J, R)) rfl hQ
                    · rw [if_neg hc_1897] at h
                      refine az_E.sn 1 (pc' := 5) (L' := [.ref 69, .int v4, .int v5]) (S' := [.int v5]) (σ' := (97, I, J, R)) rfl ?_
                      refine az_E.br (c := v5 < 0) (tt := 30) (ff := 8) (L' := [.ref 69, .int v4, .int v5]) (S' := []) (σ' := (97, I, J, R)) rfl (fun hc_1898 => ?_) (fun hc_1898 => ?_)
                      · rw [if_pos hc_1898] at h
                        refine az_E.sn 1 (pc' := 31) (L' := [.ref 69, .int v4, .int v5]) (S' := [.int (0 : Int32)]) (σ' := (97, I, J, R)) rfl ?_
                        refine az_E.ret (v := some (.int (0 : Int32))) (σ' := (97, I, J, R)) rfl ?_
                        show az_E az_F ex 2 128 95 [.retAddr 0, .retAddr 0, .int v2, .retAddr 0, .int v4, .int v5, .ref 71, .ref 69] [.int (0 : Int32)] (97, I, J, R) _
                        refine az_E.br (c := (0 : Int32) = 0) (tt := 98) (ff := 101) (L' := [.retAddr 0, .retAddr 0, .int v2, .retAddr 0, .int v4, .int v5, .ref 71, .ref 69]) (S' := []) (σ' := (97, I, J, R)) rfl (fun _ => ?_) (fun hn => absurd (by decide) hn)
                        refine az_E.sn 1 (pc' := 100) (L' := [.retAddr 0, .retAddr 0, .int v2, .retAddr 0, .int v4, .int v5, .ref 71, .ref 69]) (S' := [.int (-13 : Int32)]) (σ' := (97, I, J, R)) rfl ?_
                        have h := Option.some.inj h
                        subst h
                        exact az_E.ret (v := some (.int (-13 : Int32))) (σ' := (97, I, J, R)) rfl hQ
                      · rw [if_neg hc_1898] at h
                        refine az_E.sn 3 (pc' := 13) (L' := [.ref 69, .int v4, .int v5]) (S' := [.int (I 69 2), .int v4]) (σ' := (97, I, J, R)) rfl ?_
                        refine az_E.br (c := (I 69 2) < v4) (tt := 30) (ff := 16) (L' := [.ref 69, .int v4, .int v5]) (S' := []) (σ' := (97, I, J, R)) rfl (fun hc_1899 => ?_) (fun hc_1899 => ?_)
                        · rw [if_pos hc_1899] at h
                          refine az_E.sn 1 (pc' := 31) (L' := [.ref 69, .int v4, .int v5]) (S' := [.int (0 : Int32)]) (σ' := (97, I, J, R)) rfl ?_
                          refine az_E.ret (v := some (.int (0 : Int32))) (σ' := (97, I, J, R)) rfl ?_
                          show az_E az_F ex 2 128 95 [.retAddr 0, .retAddr 0, .int v2, .retAddr 0, .int v4, .int v5, .ref 71, .ref 69] [.int (0 : Int32)] (97, I, J, R) _
                          refine az_E.br (c := (0 : Int32) = 0) (tt := 98) (ff := 101) (L' := [.retAddr 0, .retAddr 0, .int v2, .retAddr 0, .int v4, .int v5, .ref 71, .ref 69]) (S' := []) (σ' := (97, I, J, R)) rfl (fun _ => ?_) (fun hn => absurd (by decide) hn)
                          refine az_E.sn 1 (pc' := 100) (L' := [.retAddr 0, .retAddr 0, .int v2, .retAddr 0, .int v4, .int v5, .ref 71, .ref 69]) (S' := [.int (-13 : Int32)]) (σ' := (97, I, J, R)) rfl ?_
                          have h := Option.some.inj h
                          subst h
                          exact az_E.ret (v := some (.int (-13 : Int32))) (σ' := (97, I, J, R)) rfl hQ
                        · rw [if_neg hc_1899] at h
                          refine az_E.sn 5 (pc' := 23) (L' := [.ref 69, .int v4, .int v5]) (S' := [.int ((I 69 2) - v4), .int v5]) (σ' := (97, I, J, R)) rfl ?_
                          refine az_E.br (c := ((I 69 2) - v4) < v5) (tt := 30) (ff := 26) (L' := [.ref 69, .int v4, .int v5]) (S' := []) (σ' := (97, I, J, R)) rfl (fun hc_1900 => ?_) (fun hc_1900 => ?_)
                          · rw [if_pos hc_1900] at h
                            refine az_E.sn 1 (pc' := 31) (L' := [.ref 69, .int v4, .int v5]) (S' := [.int (0 : Int32)]) (σ' := (97, I, J, R)) rfl ?_
                            refine az_E.ret (v := some (.int (0 : Int32))) (σ' := (97, I, J, R)) rfl ?_
                            show az_E az_F ex 2 128 95 [.retAddr 0, .retAddr 0, .int v2, .retAddr 0, .int v4, .int v5, .ref 71, .ref 69] [.int (0 : Int32)] (97, I, J, R) _
                            refine az_E.br (c := (0 : Int32) = 0) (tt := 98) (ff := 101) (L' := [.retAddr 0, .retAddr 0, .int v2, .retAddr 0, .int v4, .int v5, .ref 71, .ref 69]) (S' := []) (σ' := (97, I, J, R)) rfl (fun _ => ?_) (fun hn => absurd (by decide) hn)
                            refine az_E.sn 1 (pc' := 100) (L' := [.retAddr 0, .retAddr 0, .int v2, .retAddr 0, .int v4, .int v5, .ref 71, .ref 69]) (S' := [.int (-13 : Int32)]) (σ' := (97, I, J, R)) rfl ?_
                            have h := Option.some.inj h
                            subst h
                            exact az_E.ret (v := some (.int (-13 : Int32))) (σ' := (97, I, J, R)) rfl hQ
                          · rw [if_neg hc_1900] at h
                            refine az_E.sn 2 (pc' := 31) (L' := [.ref 69, .int v4, .int v5]) (S' := [.int (1 : Int32)]) (σ' := (97, I, J, R)) rfl ?_
                            refine az_E.ret (v := some (.int (1 : Int32))) (σ' := (97, I, J, R)) rfl ?_
                            show az_E az_F ex 2 128 95 [.retAddr 0, .retAddr 0, .int v2, .retAddr 0, .int v4, .int v5, .ref 71, .ref 69] [.int (1 : Int32)] (97, I, J, R) _
                            refine az_E.br (c := (1 : Int32) = 0) (tt := 98) (ff := 101) (L' := [.retAddr 0, .retAddr 0, .int v2, .retAddr 0, .int v4, .int v5, .ref 71, .ref 69]) (S' := []) (σ' := (97, I, J, R)) rfl (fun hn => absurd hn (by decide)) (fun _ => ?_)
                            refine az_E.sn 7 (pc' := 116) (L' := [.retAddr 0, .retAddr 0, .int v2, .retAddr 0, .int v4, .int v5, .ref 71, .ref 69]) (S' := [.int v5, .int v4, .ref (69 + 1), .int v2, .ref (71 + 1)]) (σ' := (97, I, J, R)) rfl ?_
                            by_cases hc_1901 : v2 < 0 ∨ v4 < 0 ∨ v5 < 0 ∨ 60 < v2.toNatClampNeg + v5.toNatClampNeg ∨ 60 < v4.toNatClampNeg + v5.toNatClampNeg
                            · rw [if_pos hc_1901] at h; cases h
                            · rw [if_neg hc_1901] at h
                              refine az_E.o (o := az_cp az_F (97, I, J, R) (71 + 1) v2 (69 + 1) v4 v5) (pc' := 119) (L' := [.retAddr 0, .retAddr 0, .int v2, .retAddr 0, .int v4, .int v5, .ref 71, .ref 69]) (S' := []) (x := (97, I, (az_ur J (69 + 1) (va_cpy (J (71 + 1)) (J (69 + 1)) v2.toNatClampNeg v4.toNatClampNeg v5.toNatClampNeg)), R)) rfl (if_neg hc_1901) ?_
                              refine az_E.sn 1 (pc' := 121) (L' := [.retAddr 0, .retAddr 0, .int v2, .retAddr 0, .int v4, .int v5, .ref 71, .ref 69]) (S' := [.int v5]) (σ' := (97, I, (az_ur J (69 + 1) (va_cpy (J (71 + 1)) (J (69 + 1)) v2.toNatClampNeg v4.toNatClampNeg v5.toNatClampNeg)), R)) rfl ?_
                              have h := Option.some.inj h
                              subst h
                              exact az_E.ret (v := some (.int v5)) (σ' := (97, I, (az_ur J (69 + 1) (va_cpy (J (71 + 1)) (J (69 + 1)) v2.toNatClampNeg v4.toNatClampNeg v5.toNatClampNeg)), R)) rfl hQ
          · rw [if_neg hc_1892] at h
            refine az_E.sn 1 (pc' := 20) (L' := [.ref 69, .int (I 71 1)]) (S' := [.int (0 : Int32)]) (σ' := (97, I, J, R)) rfl ?_
            refine az_E.ret (v := some (.int (0 : Int32))) (σ' := (97, I, J, R)) rfl ?_
            show az_E az_F ex 2 128 69 [.retAddr 0, .retAddr 0, .int v2, .retAddr 0, .int v4, .int v5, .ref 71, .ref 69] [.int (0 : Int32)] (97, I, J, R) _
            refine az_E.br (c := (0 : Int32) = 0) (tt := 72) (ff := 75) (L' := [.retAddr 0, .retAddr 0, .int v2, .retAddr 0, .int v4, .int v5, .ref 71, .ref 69]) (S' := []) (σ' := (97, I, J, R)) rfl (fun _ => ?_) (fun hn => absurd (by decide) hn)
            refine az_E.sn 1 (pc' := 74) (L' := [.retAddr 0, .retAddr 0, .int v2, .retAddr 0, .int v4, .int v5, .ref 71, .ref 69]) (S' := [.int (-12 : Int32)]) (σ' := (97, I, J, R)) rfl ?_
            have h := Option.some.inj h
            subst h
            exact az_E.ret (v := some (.int (-12 : Int32))) (σ' := (97, I, J, R)) rfl hQ
set_option maxRecDepth 100000 in
set_option maxHeartbeats 4000000 in
theorem re_X_shift_30_71_71 {ex : az_X} {I : Nat → Nat → Int32} {J : Nat → Nat → Int64} {R : Nat → Nat → Option Nat} {v2 : Int32} {v4 : Int32} {v5 : Int32} {x : Int32 × (Nat → Nat → Int64)} (h : rs_X_shift_30 71 71 I J v2 v4 v5 = some x) {Q : Option Value → az_S → Prop} (hQ : Q (some (.int x.1)) (97, I, x.2, R)) : az_E az_F ex 2 128 30 [.retAddr 0, .retAddr 0, .int v2, .retAddr 0, .int v4, .int v5, .ref 71, .retAddr 0] [.ref 71] (97, I, J, R) Q := by
  unfold rs_X_shift_30 at h
  refine az_E.sn 2 (pc' := 34) (L' := [.retAddr 0, .retAddr 0, .int v2, .retAddr 0, .int v4, .int v5, .ref 71, .ref 71]) (S' := [.ref 71]) (σ' := (97, I, J, R)) rfl ?_
  refine az_E.call (d := 1) (k' := 54) (vs := [.ref 71]) (pc' := 37) (S' := []) rfl ?_ (fun _ _ hq => hq)
  show az_E az_F ex 1 54 0 [.ref 71] [] (97, I, J, R) _
  refine az_E.sn 3 (pc' := 5) (L' := [.ref 71]) (S' := [.int (-1 : Int32), .int (I 71 0)]) (σ' := (97, I, J, R)) rfl ?_
  refine az_E.br (c := (I 71 0) = (-1 : Int32)) (tt := 8) (ff := 20) (L' := [.ref 71]) (S' := []) (σ' := (97, I, J, R)) rfl (fun hc_1902 => ?_) (fun hc_1902 => ?_)
  · rw [if_pos hc_1902] at h
    refine az_E.sn 3 (pc' := 13) (L' := [.ref 71]) (S' := [.int (-1 : Int32), .int (I 71 1)]) (σ' := (97, I, J, R)) rfl ?_
    refine az_E.br (c := (I 71 1) = (-1 : Int32)) (tt := 16) (ff := 20) (L' := [.ref 71]) (S' := []) (σ' := (97, I, J, R)) rfl (fun hc_1903 => ?_) (fun hc_1903 => ?_)
    · rw [if_pos hc_1903] at h
      refine az_E.sn 2 (pc' := 21) (L' := [.ref 71]) (S' := [.int (1 : Int32)]) (σ' := (97, I, J, R)) rfl ?_
      refine az_E.ret (v := some (.int (1 : Int32))) (σ' := (97, I, J, R)) rfl ?_
      show az_E az_F ex 2 128 37 [.retAddr 0, .retAddr 0, .int v2, .retAddr 0, .int v4, .int v5, .ref 71, .ref 71] [.int (1 : Int32)] (97, I, J, R) _
      refine az_E.br (c := (1 : Int32) = 0) (tt := 40) (ff := 48) (L' := [.retAddr 0, .retAddr 0, .int v2, .retAddr 0, .int v4, .int v5, .ref 71, .ref 71]) (S' := []) (σ' := (97, I, J, R)) rfl (fun hn => absurd hn (by decide)) (fun _ => ?_)
      refine az_E.sn 1 (pc' := 50) (L' := [.retAddr 0, .retAddr 0, .int v2, .retAddr 0, .int v4, .int v5, .ref 71, .ref 71]) (S' := [.int (-11 : Int32)]) (σ' := (97, I, J, R)) rfl ?_
      have h := Option.some.inj h
      subst h
      exact az_E.ret (v := some (.int (-11 : Int32))) (σ' := (97, I, J, R)) rfl hQ
    · rw [if_neg hc_1903] at h
      refine az_E.sn 1 (pc' := 21) (L' := [.ref 71]) (S' := [.int (0 : Int32)]) (σ' := (97, I, J, R)) rfl ?_
      refine az_E.ret (v := some (.int (0 : Int32))) (σ' := (97, I, J, R)) rfl ?_
      show az_E az_F ex 2 128 37 [.retAddr 0, .retAddr 0, .int v2, .retAddr 0, .int v4, .int v5, .ref 71, .ref 71] [.int (0 : Int32)] (97, I, J, R) _
      refine az_E.br (c := (0 : Int32) = 0) (tt := 40) (ff := 48) (L' := [.retAddr 0, .retAddr 0, .int v2, .retAddr 0, .int v4, .int v5, .ref 71, .ref 71]) (S' := []) (σ' := (97, I, J, R)) rfl (fun _ => ?_) (fun hn => absurd (by decide) hn)
      refine az_E.sn 1 (pc' := 42) (L' := [.retAddr 0, .retAddr 0, .int v2, .retAddr 0, .int v4, .int v5, .ref 71, .ref 71]) (S' := [.ref 71]) (σ' := (97, I, J, R)) rfl ?_
      refine az_E.call (d := 1) (k' := 54) (vs := [.ref 71]) (pc' := 45) (S' := []) rfl ?_ (fun _ _ hq => hq)
      show az_E az_F ex 1 54 0 [.ref 71] [] (97, I, J, R) _
      refine az_E.sn 3 (pc' := 5) (L' := [.ref 71]) (S' := [.int (-1 : Int32), .int (I 71 0)]) (σ' := (97, I, J, R)) rfl ?_
      refine az_E.br (c := (I 71 0) = (-1 : Int32)) (tt := 8) (ff := 20) (L' := [.ref 71]) (S' := []) (σ' := (97, I, J, R)) rfl (fun hc_1904 => ?_) (fun hc_1904 => ?_)
      · rw [if_pos hc_1904] at h
        refine az_E.sn 3 (pc' := 13) (L' := [.ref 71]) (S' := [.int (-1 : Int32), .int (I 71 1)]) (σ' := (97, I, J, R)) rfl ?_
        refine az_E.br (c := (I 71 1) = (-1 : Int32)) (tt := 16) (ff := 20) (L' := [.ref 71]) (S' := []) (σ' := (97, I, J, R)) rfl (fun hc_1905 => ?_) (fun hc_1905 => ?_)
        · rw [if_pos hc_1905] at h
          refine az_E.sn 2 (pc' := 21) (L' := [.ref 71]) (S' := [.int (1 : Int32)]) (σ' := (97, I, J, R)) rfl ?_
          refine az_E.ret (v := some (.int (1 : Int32))) (σ' := (97, I, J, R)) rfl ?_
          show az_E az_F ex 2 128 45 [.retAddr 0, .retAddr 0, .int v2, .retAddr 0, .int v4, .int v5, .ref 71, .ref 71] [.int (1 : Int32)] (97, I, J, R) _
          refine az_E.br (c := (1 : Int32) = 0) (tt := 51) (ff := 48) (L' := [.retAddr 0, .retAddr 0, .int v2, .retAddr 0, .int v4, .int v5, .ref 71, .ref 71]) (S' := []) (σ' := (97, I, J, R)) rfl (fun hn => absurd hn (by decide)) (fun _ => ?_)
          refine az_E.sn 1 (pc' := 50) (L' := [.retAddr 0, .retAddr 0, .int v2, .retAddr 0, .int v4, .int v5, .ref 71, .ref 71]) (S' := [.int (-11 : Int32)]) (σ' := (97, I, J, R)) rfl ?_
          have h := Option.some.inj h
          subst h
          exact az_E.ret (v := some (.int (-11 : Int32))) (σ' := (97, I, J, R)) rfl hQ
        · rw [if_neg hc_1905] at h
          refine az_E.sn 1 (pc' := 21) (L' := [.ref 71]) (S' := [.int (0 : Int32)]) (σ' := (97, I, J, R)) rfl ?_
          refine az_E.ret (v := some (.int (0 : Int32))) (σ' := (97, I, J, R)) rfl ?_
          show az_E az_F ex 2 128 45 [.retAddr 0, .retAddr 0, .int v2, .retAddr 0, .int v4, .int v5, .ref 71, .ref 71] [.int (0 : Int32)] (97, I, J, R) _
          refine az_E.br (c := (0 : Int32) = 0) (tt := 51) (ff := 48) (L' := [.retAddr 0, .retAddr 0, .int v2, .retAddr 0, .int v4, .int v5, .ref 71, .ref 71]) (S' := []) (σ' := (97, I, J, R)) rfl (fun _ => ?_) (fun hn => absurd (by decide) hn)
          refine az_E.sn 1 (pc' := 53) (L' := [.retAddr 0, .retAddr 0, .int v2, .retAddr 0, .int v4, .int v5, .ref 71, .ref 71]) (S' := [.ref 71]) (σ' := (97, I, J, R)) rfl ?_
          refine az_E.call (d := 1) (k' := 55) (vs := [.ref 71]) (pc' := 56) (S' := []) rfl ?_ (fun _ _ hq => hq)
          show az_E az_F ex 1 55 0 [.ref 71] [] (97, I, J, R) _
          refine az_E.sn 3 (pc' := 5) (L' := [.ref 71]) (S' := [.int (-1 : Int32), .int (I 71 1)]) (σ' := (97, I, J, R)) rfl ?_
          refine az_E.br (c := (I 71 1) = (-1 : Int32)) (tt := 12) (ff := 8) (L' := [.ref 71]) (S' := []) (σ' := (97, I, J, R)) rfl (fun hc_1906 => ?_) (fun hc_1906 => ?_)
          · rw [if_pos hc_1906] at h
            refine az_E.sn 1 (pc' := 13) (L' := [.ref 71]) (S' := [.int (0 : Int32)]) (σ' := (97, I, J, R)) rfl ?_
            refine az_E.ret (v := some (.int (0 : Int32))) (σ' := (97, I, J, R)) rfl ?_
            show az_E az_F ex 2 128 56 [.retAddr 0, .retAddr 0, .int v2, .retAddr 0, .int v4, .int v5, .ref 71, .ref 71] [.int (0 : Int32)] (97, I, J, R) _
            refine az_E.br (c := (0 : Int32) = 0) (tt := 72) (ff := 59) (L' := [.retAddr 0, .retAddr 0, .int v2, .retAddr 0, .int v4, .int v5, .ref 71, .ref 71]) (S' := []) (σ' := (97, I, J, R)) rfl (fun _ => ?_) (fun hn => absurd (by decide) hn)
            refine az_E.sn 1 (pc' := 74) (L' := [.retAddr 0, .retAddr 0, .int v2, .retAddr 0, .int v4, .int v5, .ref 71, .ref 71]) (S' := [.int (-12 : Int32)]) (σ' := (97, I, J, R)) rfl ?_
            have h := Option.some.inj h
            subst h
            exact az_E.ret (v := some (.int (-12 : Int32))) (σ' := (97, I, J, R)) rfl hQ
          · rw [if_neg hc_1906] at h
            refine az_E.sn 2 (pc' := 13) (L' := [.ref 71]) (S' := [.int (1 : Int32)]) (σ' := (97, I, J, R)) rfl ?_
            refine az_E.ret (v := some (.int (1 : Int32))) (σ' := (97, I, J, R)) rfl ?_
            show az_E az_F ex 2 128 56 [.retAddr 0, .retAddr 0, .int v2, .retAddr 0, .int v4, .int v5, .ref 71, .ref 71] [.int (1 : Int32)] (97, I, J, R) _
            refine az_E.br (c := (1 : Int32) = 0) (tt := 72) (ff := 59) (L' := [.retAddr 0, .retAddr 0, .int v2, .retAddr 0, .int v4, .int v5, .ref 71, .ref 71]) (S' := []) (σ' := (97, I, J, R)) rfl (fun hn => absurd hn (by decide)) (fun _ => ?_)
            refine az_E.sn 3 (pc' := 66) (L' := [.retAddr 0, .retAddr 0, .int v2, .retAddr 0, .int v4, .int v5, .ref 71, .ref 71]) (S' := [.int (I 71 1), .ref 71]) (σ' := (97, I, J, R)) rfl ?_
            refine az_E.call (d := 1) (k' := 56) (vs := [.ref 71, .int (I 71 1)]) (pc' := 69) (S' := []) rfl ?_ (fun _ _ hq => hq)
            show az_E az_F ex 1 56 0 [.ref 71, .int (I 71 1)] [] (97, I, J, R) _
            refine az_E.sn 1 (pc' := 1) (L' := [.ref 71, .int (I 71 1)]) (S' := [.ref 71]) (σ' := (97, I, J, R)) rfl ?_
            refine az_E.call (d := 0) (k' := 55) (vs := [.ref 71]) (pc' := 4) (S' := []) rfl ?_ (fun _ _ hq => hq)
            show az_E az_F ex 0 55 0 [.ref 71] [] (97, I, J, R) _
            refine az_E.sn 3 (pc' := 5) (L' := [.ref 71]) (S' := [.int (-1 : Int32), .int (I 71 1)]) (σ' := (97, I, J, R)) rfl ?_
            refine az_E.br (c := (I 71 1) = (-1 : Int32)) (tt := 12) (ff := 8) (L' := [.ref 71]) (S' := []) (σ' := (97, I, J, R)) rfl (fun hc_1907 => ?_) (fun hc_1907 => ?_)
            · rw [if_pos hc_1907] at h
              refine az_E.sn 1 (pc' := 13) (L' := [.ref 71]) (S' := [.int (0 : Int32)]) (σ' := (97, I, J, R)) rfl ?_
              refine az_E.ret (v := some (.int (0 : Int32))) (σ' := (97, I, J, R)) rfl ?_
              show az_E az_F ex 1 56 4 [.ref 71, .int (I 71 1)] [.int (0 : Int32)] (97, I, J, R) _
              refine az_E.br (c := (0 : Int32) = 0) (tt := 19) (ff := 7) (L' := [.ref 71, .int (I 71 1)]) (S' := []) (σ' := (97, I, J, R)) rfl (fun _ => ?_) (fun hn => absurd (by decide) hn)
              refine az_E.sn 1 (pc' := 20) (L' := [.ref 71, .int (I 71 1)]) (S' := [.int (0 : Int32)]) (σ' := (97, I, J, R)) rfl ?_
              refine az_E.ret (v := some (.int (0 : Int32))) (σ' := (97, I, J, R)) rfl ?_
              show az_E az_F ex 2 128 69 [.retAddr 0, .retAddr 0, .int v2, .retAddr 0, .int v4, .int v5, .ref 71, .ref 71] [.int (0 : Int32)] (97, I, J, R) _
              refine az_E.br (c := (0 : Int32) = 0) (tt := 72) (ff := 75) (L' := [.retAddr 0, .retAddr 0, .int v2, .retAddr 0, .int v4, .int v5, .ref 71, .ref 71]) (S' := []) (σ' := (97, I, J, R)) rfl (fun _ => ?_) (fun hn => absurd (by decide) hn)
              refine az_E.sn 1 (pc' := 74) (L' := [.retAddr 0, .retAddr 0, .int v2, .retAddr 0, .int v4, .int v5, .ref 71, .ref 71]) (S' := [.int (-12 : Int32)]) (σ' := (97, I, J, R)) rfl ?_
              have h := Option.some.inj h
              subst h
              exact az_E.ret (v := some (.int (-12 : Int32))) (σ' := (97, I, J, R)) rfl hQ
            · rw [if_neg hc_1907] at h
              refine az_E.sn 2 (pc' := 13) (L' := [.ref 71]) (S' := [.int (1 : Int32)]) (σ' := (97, I, J, R)) rfl ?_
              refine az_E.ret (v := some (.int (1 : Int32))) (σ' := (97, I, J, R)) rfl ?_
              show az_E az_F ex 1 56 4 [.ref 71, .int (I 71 1)] [.int (1 : Int32)] (97, I, J, R) _
              refine az_E.br (c := (1 : Int32) = 0) (tt := 19) (ff := 7) (L' := [.ref 71, .int (I 71 1)]) (S' := []) (σ' := (97, I, J, R)) rfl (fun hn => absurd hn (by decide)) (fun _ => ?_)
              refine az_E.sn 3 (pc' := 12) (L' := [.ref 71, .int (I 71 1)]) (S' := [.int (I 71 1), .int (I 71 1)]) (σ' := (97, I, J, R)) rfl ?_
              refine az_E.br (c := (I 71 1) = (I 71 1)) (tt := 15) (ff := 19) (L' := [.ref 71, .int (I 71 1)]) (S' := []) (σ' := (97, I, J, R)) rfl (fun hc_1908 => ?_) (fun hc_1908 => ?_)
              · rw [if_pos hc_1908] at h
                refine az_E.sn 2 (pc' := 20) (L' := [.ref 71, .int (I 71 1)]) (S' := [.int (1 : Int32)]) (σ' := (97, I, J, R)) rfl ?_
                refine az_E.ret (v := some (.int (1 : Int32))) (σ' := (97, I, J, R)) rfl ?_
                show az_E az_F ex 2 128 69 [.retAddr 0, .retAddr 0, .int v2, .retAddr 0, .int v4, .int v5, .ref 71, .ref 71] [.int (1 : Int32)] (97, I, J, R) _
                refine az_E.br (c := (1 : Int32) = 0) (tt := 72) (ff := 75) (L' := [.retAddr 0, .retAddr 0, .int v2, .retAddr 0, .int v4, .int v5, .ref 71, .ref 71]) (S' := []) (σ' := (97, I, J, R)) rfl (fun hn => absurd hn (by decide)) (fun _ => ?_)
                refine az_E.sn 3 (pc' := 80) (L' := [.retAddr 0, .retAddr 0, .int v2, .retAddr 0, .int v4, .int v5, .ref 71, .ref 71]) (S' := [.int v5, .int v2, .ref 71]) (σ' := (97, I, J, R)) rfl ?_
                refine az_E.call (d := 1) (k' := 60) (vs := [.ref 71, .int v2, .int v5]) (pc' := 83) (S' := []) rfl ?_ (fun _ _ hq => hq)
                show az_E az_F ex 1 60 0 [.ref 71, .int v2, .int v5] [] (97, I, J, R) _
                refine az_E.sn 1 (pc' := 1) (L' := [.ref 71, .int v2, .int v5]) (S' := [.int v2]) (σ' := (97, I, J, R)) rfl ?_
                refine az_E.br (c := v2 < 0) (tt := 30) (ff := 4) (L' := [.ref 71, .int v2, .int v5]) (S' := []) (σ' := (97, I, J, R)) rfl (fun hc_1909 => ?_) (fun hc_1909 => ?_)
                · rw [if_pos hc_1909] at h
                  refine az_E.sn 1 (pc' := 31) (L' := [.ref 71, .int v2, .int v5]) (S' := [.int (0 : Int32)]) (σ' := (97, I, J, R)) rfl ?_
                  refine az_E.ret (v := some (.int (0 : Int32))) (σ' := (97, I, J, R)) rfl ?_
                  show az_E az_F ex 2 128 83 [.retAddr 0, .retAddr 0, .int v2, .retAddr 0, .int v4, .int v5, .ref 71, .ref 71] [.int (0 : Int32)] (97, I, J, R) _
                  refine az_E.br (c := (0 : Int32) = 0) (tt := 98) (ff := 86) (L' := [.retAddr 0, .retAddr 0, .int v2, .retAddr 0, .int v4, .int v5, .ref 71, .ref 71]) (S' := []) (σ' := (97, I, J, R)) rfl (fun _ => ?_) (fun hn => absurd (by decide) hn)
                  refine az_E.sn 1 (pc' := 100) (L' := [.retAddr 0, .retAddr 0, .int v2, .retAddr 0, .int v4, .int v5, .ref 71, .ref 71]) (S' := [.int (-13 : Int32)]) (σ' := (97, I, J, R)) rfl ?_
                  have h := Option.some.inj h
                  subst h
                  exact az_E.ret (v := some (.int (-13 : Int32))) (σ' := (97, I, J, R)) rfl hQ
                · rw [if_neg hc_1909] at h
                  refine az_E.sn 1 (pc' := 5) (L' := [.ref 71, .int v2, .int v5]) (S' := [.int v5]) (σ' := (97, I, J, R)) rfl ?_
                  refine az_E.br (c := v5 < 0) (tt := 30) (ff := 8) (L' := [.ref 71, .int v2, .int v5]) (S' := []) (σ' := (97, I, J, R)) rfl (fun hc_1910 => ?_) (fun hc_1910 => ?_)
                  · rw [if_pos hc_1910] at h
                    refine az_E.sn 1 (pc' := 31) (L' := [.ref 71, .int v2, .int v5]) (S' := [.int (0 : Int32)]) (σ' := (97, I, J, R)) rfl ?_
                    refine az_E.ret (v := some (.int (0 : Int32))) (σ' := (97, I, J, R)) rfl ?_
                    show az_E az_F ex 2 128 83 [.retAddr 0, .retAddr 0, .int v2, .retAddr 0, .int v4, .int v5, .ref 71, .ref 71] [.int (0 : Int32)] (97, I, J, R) _
                    refine az_E.br (c := (0 : Int32) = 0) (tt := 98) (ff := 86) (L' := [.retAddr 0, .retAddr 0, .int v2, .retAddr 0, .int v4, .int v5, .ref 71, .ref 71]) (S' := []) (σ' := (97, I, J, R)) rfl (fun _ => ?_) (fun hn => absurd (by decide) hn)
                    refine az_E.sn 1 (pc' := 100) (L' := [.retAddr 0, .retAddr 0, .int v2, .retAddr 0, .int v4, .int v5, .ref 71, .ref 71]) (S' := [.int (-13 : Int32)]) (σ' := (97, I, J, R)) rfl ?_
                    have h := Option.some.inj h
                    subst h
                    exact az_E.ret (v := some (.int (-13 : Int32))) (σ' := (97, I, J, R)) rfl hQ
                  · rw [if_neg hc_1910] at h
                    refine az_E.sn 3 (pc' := 13) (L' := [.ref 71, .int v2, .int v5]) (S' := [.int (I 71 2), .int v2]) (σ' := (97, I, J, R)) rfl ?_
                    refine az_E.br (c := (I 71 2) < v2) (tt := 30) (ff := 16) (L' := [.ref 71, .int v2, .int v5]) (S' := []) (σ' := (97, I, J, R)) rfl (fun hc_1911 => ?_) (fun hc_1911 => ?_)
                    · rw [if_pos hc_1911] at h
                      refine az_E.sn 1 (pc' := 31) (L' := [.ref 71, .int v2, .int v5]) (S' := [.int (0 : Int32)]) (σ' := (97, I, J, R)) rfl ?_
                      refine az_E.ret (v := some (.int (0 : Int32))) (σ' := (97, I, J, R)) rfl ?_
                      show az_E az_F ex 2 128 83 [.retAddr 0, .retAddr 0, .int v2, .retAddr 0, .int v4, .int v5, .ref 71, .ref 71] [.int (0 : Int32)] (97, I, J, R) _
                      refine az_E.br (c := (0 : Int32) = 0) (tt := 98) (ff := 86) (L' := [.retAddr 0, .retAddr 0, .int v2, .retAddr 0, .int v4, .int v5, .ref 71, .ref 71]) (S' := []) (σ' := (97, I, J, R)) rfl (fun _ => ?_) (fun hn => absurd (by decide) hn)
                      refine az_E.sn 1 (pc' := 100) (L' := [.retAddr 0, .retAddr 0, .int v2, .retAddr 0, .int v4, .int v5, .ref 71, .ref 71]) (S' := [.int (-13 : Int32)]) (σ' := (97, I, J, R)) rfl ?_
                      have h := Option.some.inj h
                      subst h
                      exact az_E.ret (v := some (.int (-13 : Int32))) (σ' := (97, I, J, R)) rfl hQ
                    · rw [if_neg hc_1911] at h
                      refine az_E.sn 5 (pc' := 23) (L' := [.ref 71, .int v2, .int v5]) (S' := [.int ((I 71 2) - v2), .int v5]) (σ' := (97, I, J, R)) rfl ?_
                      refine az_E.br (c := ((I 71 2) - v2) < v5) (tt := 30) (ff := 26) (L' := [.ref 71, .int v2, .int v5]) (S' := []) (σ' := (97, I, J, R)) rfl (fun hc_1912 => ?_) (fun hc_1912 => ?_)
                      · rw [if_pos hc_1912] at h
                        refine az_E.sn 1 (pc' := 31) (L' := [.ref 71, .int v2, .int v5]) (S' := [.int (0 : Int32)]) (σ' := (97, I, J, R)) rfl ?_
                        refine az_E.ret (v := some (.int (0 : Int32))) (σ' := (97, I, J, R)) rfl ?_
                        show az_E az_F ex 2 128 83 [.retAddr 0, .retAddr 0, .int v2, .retAddr 0, .int v4, .int v5, .ref 71, .ref 71] [.int (0 : Int32)] (97, I, J, R) _
                        refine az_E.br (c := (0 : Int32) = 0) (tt := 98) (ff := 86) (L' := [.retAddr 0, .retAddr 0, .int v2, .retAddr 0, .int v4, .int v5, .ref 71, .ref 71]) (S' := []) (σ' := (97, I, J, R)) rfl (fun _ => ?_) (fun hn => absurd (by decide) hn)
                        refine az_E.sn 1 (pc' := 100) (L' := [.retAddr 0, .retAddr 0, .int v2, .retAddr 0, .int v4, .int v5, .ref 71, .ref 71]) (S' := [.int (-13 : Int32)]) (σ' := (97, I, J, R)) rfl ?_
                        have h := Option.some.inj h
                        subst h
                        exact az_E.ret (v := some (.int (-13 : Int32))) (σ' := (97, I, J, R)) rfl hQ
                      · rw [if_neg hc_1912] at h
                        refine az_E.sn 2 (pc' := 31) (L' := [.ref 71, .int v2, .int v5]) (S' := [.int (1 : Int32)]) (σ' := (97, I, J, R)) rfl ?_
                        refine az_E.ret (v := some (.int (1 : Int32))) (σ' := (97, I, J, R)) rfl ?_
                        show az_E az_F ex 2 128 83 [.retAddr 0, .retAddr 0, .int v2, .retAddr 0, .int v4, .int v5, .ref 71, .ref 71] [.int (1 : Int32)] (97, I, J, R) _
                        refine az_E.br (c := (1 : Int32) = 0) (tt := 98) (ff := 86) (L' := [.retAddr 0, .retAddr 0, .int v2, .retAddr 0, .int v4, .int v5, .ref 71, .ref 71]) (S' := []) (σ' := (97, I, J, R)) rfl (fun hn => absurd hn (by decide)) (fun _ => ?_)
                        refine az_E.sn 3 (pc' := 92) (L' := [.retAddr 0, .retAddr 0, .int v2, .retAddr 0, .int v4, .int v5, .ref 71, .ref 71]) (S' := [.int v5, .int v4, .ref 71]) (σ' := (97, I, J, R)) rfl ?_
                        refine az_E.call (d := 1) (k' := 60) (vs := [.ref 71, .int v4, .int v5]) (pc' := 95) (S' := []) rfl ?_ (fun _ _ hq => hq)
                        show az_E az_F ex 1 60 0 [.ref 71, .int v4, .int v5] [] (97, I, J, R) _
                        refine az_E.sn 1 (pc' := 1) (L' := [.ref 71, .int v4, .int v5]) (S' := [.int v4]) (σ' := (97, I, J, R)) rfl ?_
                        refine az_E.br (c := v4 < 0) (tt := 30) (ff := 4) (L' := [.ref 71, .int v4, .int v5]) (S' := []) (σ' := (97, I, J, R)) rfl (fun hc_1913 => ?_) (fun hc_1913 => ?_)
                        · rw [if_pos hc_1913] at h
                          refine az_E.sn 1 (pc' := 31) (L' := [.ref 71, .int v4, .int v5]) (S' := [.int (0 : Int32)]) (σ' := (97, I, J, R)) rfl ?_
                          refine az_E.ret (v := some (.int (0 : Int32))) (σ' := (97, I, J, R)) rfl ?_
                          show az_E az_F ex 2 128 95 [.retAddr 0, .retAddr 0, .int v2, .retAddr 0, .int v4, .int v5, .ref 71, .ref 71] [.int (0 : Int32)] (97, I, J, R) _
                          refine az_E.br (c := (0 : Int32) = 0) (tt := 98) (ff := 101) (L' := [.retAddr 0, .retAddr 0, .int v2, .retAddr 0, .int v4, .int v5, .ref 71, .ref 71]) (S' := []) (σ' := (97, I, J, R)) rfl (fun _ => ?_) (fun hn => absurd (by decide) hn)
                          refine az_E.sn 1 (pc' := 100) (L' := [.retAddr 0, .retAddr 0, .int v2, .retAddr 0, .int v4, .int v5, .ref 71, .ref 71]) (S' := [.int (-13 : Int32)]) (σ' := (97, I, J, R)) rfl ?_
                          have h := Option.some.inj h
                          subst h
                          exact az_E.ret (v := some (.int (-13 : Int32))) (σ' := (97, I, J, R)) rfl hQ
                        · rw [if_neg hc_1913] at h
                          refine az_E.sn 1 (pc' := 5) (L' := [.ref 71, .int v4, .int v5]) (S' := [.int v5]) (σ' := (97, I, J, R)) rfl ?_
                          refine az_E.br (c := v5 < 0) (tt := 30) (ff := 8) (L' := [.ref 71, .int v4, .int v5]) (S' := []) (σ' := (97, I, J, R)) rfl (fun hc_1914 => ?_) (fun hc_1914 => ?_)
                          · rw [if_pos hc_1914] at h
                            refine az_E.sn 1 (pc' := 31) (L' := [.ref 71, .int v4, .int v5]) (S' := [.int (0 : Int32)]) (σ' := (97, I, J, R)) rfl ?_
                            refine az_E.ret (v := some (.int (0 : Int32))) (σ' := (97, I, J, R)) rfl ?_
                            show az_E az_F ex 2 128 95 [.retAddr 0, .retAddr 0, .int v2, .retAddr 0, .int v4, .int v5, .ref 71, .ref 71] [.int (0 : Int32)] (97, I, J, R) _
                            refine az_E.br (c := (0 : Int32) = 0) (tt := 98) (ff := 101) (L' := [.retAddr 0, .retAddr 0, .int v2, .retAddr 0, .int v4, .int v5, .ref 71, .ref 71]) (S' := []) (σ' := (97, I, J, R)) rfl (fun _ => ?_) (fun hn => absurd (by decide) hn)
                            refine az_E.sn 1 (pc' := 100) (L' := [.retAddr 0, .retAddr 0, .int v2, .retAddr 0, .int v4, .int v5, .ref 71, .ref 71]) (S' := [.int (-13 : Int32)]) (σ' := (97, I, J, R)) rfl ?_
                            have h := Option.some.inj h
                            subst h
                            exact az_E.ret (v := some (.int (-13 : Int32))) (σ' := (97, I, J, R)) rfl hQ
                          · rw [if_neg hc_1914] at h
                            refine az_E.sn 3 (pc' := 13) (L' := [.ref 71, .int v4, .int v5]) (S' := [.int (I 71 2), .int v4]) (σ' := (97, I, J, R)) rfl ?_
                            refine az_E.br (c := (I 71 2) < v4) (tt := 30) (ff := 16) (L' := [.ref 71, .int v4, .int v5]) (S' := []) (σ' := (97, I, J, R)) rfl (fun hc_1915 => ?_) (fun hc_1915 => ?_)
                            · rw [if_pos hc_1915] at h
                              refine az_E.sn 1 (pc' := 31) (L' := [.ref 71, .int v4, .int v5]) (S' := [.int (0 : Int32)]) (σ' := (97, I, J, R)) rfl ?_
                              refine az_E.ret (v := some (.int (0 : Int32))) (σ' := (97, I, J, R)) rfl ?_
                              show az_E az_F ex 2 128 95 [.retAddr 0, .retAddr 0, .int v2, .retAddr 0, .int v4, .int v5, .ref 71, .ref 71] [.int (0 : Int32)] (97, I, J, R) _
                              refine az_E.br (c := (0 : Int32) = 0) (tt := 98) (ff := 101) (L' := [.retAddr 0, .retAddr 0, .int v2, .retAddr 0, .int v4, .int v5, .ref 71, .ref 71]) (S' := []) (σ' := (97, I, J, R)) rfl (fun _ => ?_) (fun hn => absurd (by decide) hn)
                              refine az_E.sn 1 (pc' := 100) (L' := [.retAddr 0, .retAddr 0, .int v2, .retAddr 0, .int v4, .int v5, .ref 71, .ref 71]) (S' := [.int (-13 : Int32)]) (σ' := (97, I, J, R)) rfl ?_
                              have h := Option.some.inj h
                              subst h
                              exact az_E.ret (v := some (.int (-13 : Int32))) (σ' := (97, I, J, R)) rfl hQ
                            · rw [if_neg hc_1915] at h
                              refine az_E.sn 5 (pc' := 23) (L' := [.ref 71, .int v4, .int v5]) (S' := [.int ((I 71 2) - v4), .int v5]) (σ' := (97, I, J, R)) rfl ?_
                              refine az_E.br (c := ((I 71 2) - v4) < v5) (tt := 30) (ff := 26) (L' := [.ref 71, .int v4, .int v5]) (S' := []) (σ' := (97, I, J, R)) rfl (fun hc_1916 => ?_) (fun hc_1916 => ?_)
                              · rw [if_pos hc_1916] at h
                                refine az_E.sn 1 (pc' := 31) (L' := [.ref 71, .int v4, .int v5]) (S' := [.int (0 : Int32)]) (σ' := (97, I, J, R)) rfl ?_
                                refine az_E.ret (v := some (.int (0 : Int32))) (σ' := (97, I, J, R)) rfl ?_
                                show az_E az_F ex 2 128 95 [.retAddr 0, .retAddr 0, .int v2, .retAddr 0, .int v4, .int v5, .ref 71, .ref 71] [.int (0 : Int32)] (97, I, J, R) _
                                refine az_E.br (c := (0 : Int32) = 0) (tt := 98) (ff := 101) (L' := [.retAddr 0, .retAddr 0, .int v2, .retAddr 0, .int v4, .int v5, .ref 71, .ref 71]) (S' := []) (σ' := (97, I, J, R)) rfl (fun _ => ?_) (fun hn => absurd (by decide) hn)
                                refine az_E.sn 1 (pc' := 100) (L' := [.retAddr 0, .retAddr 0, .int v2, .retAddr 0, .int v4, .int v5, .ref 71, .ref 71]) (S' := [.int (-13 : Int32)]) (σ' := (97, I, J, R)) rfl ?_
                                have h := Option.some.inj h
                                subst h
                                exact az_E.ret (v := some (.int (-13 : Int32))) (σ' := (97, I, J, R)) rfl hQ
                              · rw [if_neg hc_1916] at h
                                refine az_E.sn 2 (pc' := 31) (L' := [.ref 71, .int v4, .int v5]) (S' := [.int (1 : Int32)]) (σ' := (97, I, J, R)) rfl ?_
                                refine az_E.ret (v := some (.int (1 : Int32))) (σ' := (97, I, J, R)) rfl ?_
                                show az_E az_F ex 2 128 95 [.retAddr 0, .retAddr 0, .int v2, .retAddr 0, .int v4, .int v5, .ref 71, .ref 71] [.int (1 : Int32)] (97, I, J, R) _
                                refine az_E.br (c := (1 : Int32) = 0) (tt := 98) (ff := 101) (L' := [.retAddr 0, .retAddr 0, .int v2, .retAddr 0, .int v4, .int v5, .ref 71, .ref 71]) (S' := []) (σ' := (97, I, J, R)) rfl (fun hn => absurd hn (by decide)) (fun _ => ?_)
                                refine az_E.sn 7 (pc' := 116) (L' := [.retAddr 0, .retAddr 0, .int v2, .retAddr 0, .int v4, .int v5, .ref 71, .ref 71]) (S' := [.int v5, .int v4, .ref (71 + 1), .int v2, .ref (71 + 1)]) (σ' := (97, I, J, R)) rfl ?_
                                by_cases hc_1917 : v2 < 0 ∨ v4 < 0 ∨ v5 < 0 ∨ 60 < v2.toNatClampNeg + v5.toNatClampNeg ∨ 60 < v4.toNatClampNeg + v5.toNatClampNeg
                                · rw [if_pos hc_1917] at h; cases h
                                · rw [if_neg hc_1917] at h
                                  refine az_E.o (o := az_cp az_F (97, I, J, R) (71 + 1) v2 (71 + 1) v4 v5) (pc' := 119) (L' := [.retAddr 0, .retAddr 0, .int v2, .retAddr 0, .int v4, .int v5, .ref 71, .ref 71]) (S' := []) (x := (97, I, (az_ur J (71 + 1) (va_cpy (J (71 + 1)) (J (71 + 1)) v2.toNatClampNeg v4.toNatClampNeg v5.toNatClampNeg)), R)) rfl (if_neg hc_1917) ?_
                                  refine az_E.sn 1 (pc' := 121) (L' := [.retAddr 0, .retAddr 0, .int v2, .retAddr 0, .int v4, .int v5, .ref 71, .ref 71]) (S' := [.int v5]) (σ' := (97, I, (az_ur J (71 + 1) (va_cpy (J (71 + 1)) (J (71 + 1)) v2.toNatClampNeg v4.toNatClampNeg v5.toNatClampNeg)), R)) rfl ?_
                                  have h := Option.some.inj h
                                  subst h
                                  exact az_E.ret (v := some (.int v5)) (σ' := (97, I, (az_ur J (71 + 1) (va_cpy (J (71 + 1)) (J (71 + 1)) v2.toNatClampNeg v4.toNatClampNeg v5.toNatClampNeg)), R)) rfl hQ
              · rw [if_neg hc_1908] at h
                refine az_E.sn 1 (pc' := 20) (L' := [.ref 71, .int (I 71 1)]) (S' := [.int (0 : Int32)]) (σ' := (97, I, J, R)) rfl ?_
                refine az_E.ret (v := some (.int (0 : Int32))) (σ' := (97, I, J, R)) rfl ?_
                show az_E az_F ex 2 128 69 [.retAddr 0, .retAddr 0, .int v2, .retAddr 0, .int v4, .int v5, .ref 71, .ref 71] [.int (0 : Int32)] (97, I, J, R) _
                refine az_E.br (c := (0 : Int32) = 0) (tt := 72) (ff := 75) (L' := [.retAddr 0, .retAddr 0, .int v2, .retAddr 0, .int v4, .int v5, .ref 71, .ref 71]) (S' := []) (σ' := (97, I, J, R)) rfl (fun _ => ?_) (fun hn => absurd (by decide) hn)
                refine az_E.sn 1 (pc' := 74) (L' := [.retAddr 0, .retAddr 0, .int v2, .retAddr 0, .int v4, .int v5, .ref 71, .ref 71]) (S' := [.int (-12 : Int32)]) (σ' := (97, I, J, R)) rfl ?_
                have h := Option.some.inj h
                subst h
                exact az_E.ret (v := some (.int (-12 : Int32))) (σ' := (97, I, J, R)) rfl hQ
      · rw [if_neg hc_1904] at h
        refine az_E.sn 1 (pc' := 21) (L' := [.ref 71]) (S' := [.int (0 : Int32)]) (σ' := (97, I, J, R)) rfl ?_
        refine az_E.ret (v := some (.int (0 : Int32))) (σ' := (97, I, J, R)) rfl ?_
        show az_E az_F ex 2 128 45 [.retAddr 0, .retAddr 0, .int v2, .retAddr 0, .int v4, .int v5, .ref 71, .ref 71] [.int (0 : Int32)] (97, I, J, R) _
        refine az_E.br (c := (0 : Int32) = 0) (tt := 51) (ff := 48) (L' := [.retAddr 0, .retAddr 0, .int v2, .retAddr 0, .int v4, .int v5, .ref 71, .ref 71]) (S' := []) (σ' := (97, I, J, R)) rfl (fun _ => ?_) (fun hn => absurd (by decide) hn)
        refine az_E.sn 1 (pc' := 53) (L' := [.retAddr 0, .retAddr 0, .int v2, .retAddr 0, .int v4, .int v5, .ref 71, .ref 71]) (S' := [.ref 71]) (σ' := (97, I, J, R)) rfl ?_
        refine az_E.call (d := 1) (k' := 55) (vs := [.ref 71]) (pc' := 56) (S' := []) rfl ?_ (fun _ _ hq => hq)
        show az_E az_F ex 1 55 0 [.ref 71] [] (97, I, J, R) _
        refine az_E.sn 3 (pc' := 5) (L' := [.ref 71]) (S' := [.int (-1 : Int32), .int (I 71 1)]) (σ' := (97, I, J, R)) rfl ?_
        refine az_E.br (c := (I 71 1) = (-1 : Int32)) (tt := 12) (ff := 8) (L' := [.ref 71]) (S' := []) (σ' := (97, I, J, R)) rfl (fun hc_1918 => ?_) (fun hc_1918 => ?_)
        · rw [if_pos hc_1918] at h
          refine az_E.sn 1 (pc' := 13) (L' := [.ref 71]) (S' := [.int (0 : Int32)]) (σ' := (97, I, J, R)) rfl ?_
          refine az_E.ret (v := some (.int (0 : Int32))) (σ' := (97, I, J, R)) rfl ?_
          show az_E az_F ex 2 128 56 [.retAddr 0, .retAddr 0, .int v2, .retAddr 0, .int v4, .int v5, .ref 71, .ref 71] [.int (0 : Int32)] (97, I, J, R) _
          refine az_E.br (c := (0 : Int32) = 0) (tt := 72) (ff := 59) (L' := [.retAddr 0, .retAddr 0, .int v2, .retAddr 0, .int v4, .int v5, .ref 71, .ref 71]) (S' := []) (σ' := (97, I, J, R)) rfl (fun _ => ?_) (fun hn => absurd (by decide) hn)
          refine az_E.sn 1 (pc' := 74) (L' := [.retAddr 0, .retAddr 0, .int v2, .retAddr 0, .int v4, .int v5, .ref 71, .ref 71]) (S' := [.int (-12 : Int32)]) (σ' := (97, I, J, R)) rfl ?_
          have h := Option.some.inj h
          subst h
          exact az_E.ret (v := some (.int (-12 : Int32))) (σ' := (97, I, J, R)) rfl hQ
        · rw [if_neg hc_1918] at h
          refine az_E.sn 2 (pc' := 13) (L' := [.ref 71]) (S' := [.int (1 : Int32)]) (σ' := (97, I, J, R)) rfl ?_
          refine az_E.ret (v := some (.int (1 : Int32))) (σ' := (97, I, J, R)) rfl ?_
          show az_E az_F ex 2 128 56 [.retAddr 0, .retAddr 0, .int v2, .retAddr 0, .int v4, .int v5, .ref 71, .ref 71] [.int (1 : Int32)] (97, I, J, R) _
          refine az_E.br (c := (1 : Int32) = 0) (tt := 72) (ff := 59) (L' := [.retAddr 0, .retAddr 0, .int v2, .retAddr 0, .int v4, .int v5, .ref 71, .ref 71]) (S' := []) (σ' := (97, I, J, R)) rfl (fun hn => absurd hn (by decide)) (fun _ => ?_)
          refine az_E.sn 3 (pc' := 66) (L' := [.retAddr 0, .retAddr 0, .int v2, .retAddr 0, .int v4, .int v5, .ref 71, .ref 71]) (S' := [.int (I 71 1), .ref 71]) (σ' := (97, I, J, R)) rfl ?_
          refine az_E.call (d := 1) (k' := 56) (vs := [.ref 71, .int (I 71 1)]) (pc' := 69) (S' := []) rfl ?_ (fun _ _ hq => hq)
          show az_E az_F ex 1 56 0 [.ref 71, .int (I 71 1)] [] (97, I, J, R) _
          refine az_E.sn 1 (pc' := 1) (L' := [.ref 71, .int (I 71 1)]) (S' := [.ref 71]) (σ' := (97, I, J, R)) rfl ?_
          refine az_E.call (d := 0) (k' := 55) (vs := [.ref 71]) (pc' := 4) (S' := []) rfl ?_ (fun _ _ hq => hq)
          show az_E az_F ex 0 55 0 [.ref 71] [] (97, I, J, R) _
          refine az_E.sn 3 (pc' := 5) (L' := [.ref 71]) (S' := [.int (-1 : Int32), .int (I 71 1)]) (σ' := (97, I, J, R)) rfl ?_
          refine az_E.br (c := (I 71 1) = (-1 : Int32)) (tt := 12) (ff := 8) (L' := [.ref 71]) (S' := []) (σ' := (97, I, J, R)) rfl (fun hc_1919 => ?_) (fun hc_1919 => ?_)
          · rw [if_pos hc_1919] at h
            refine az_E.sn 1 (pc' := 13) (L' := [.ref 71]) (S' := [.int (0 : Int32)]) (σ' := (97, I, J, R)) rfl ?_
            refine az_E.ret (v := some (.int (0 : Int32))) (σ' := (97, I, J, R)) rfl ?_
            show az_E az_F ex 1 56 4 [.ref 71, .int (I 71 1)] [.int (0 : Int32)] (97, I, J, R) _
            refine az_E.br (c := (0 : Int32) = 0) (tt := 19) (ff := 7) (L' := [.ref 71, .int (I 71 1)]) (S' := []) (σ' := (97, I, J, R)) rfl (fun _ => ?_) (fun hn => absurd (by decide) hn)
            refine az_E.sn 1 (pc' := 20) (L' := [.ref 71, .int (I 71 1)]) (S' := [.int (0 : Int32)]) (σ' := (97, I, J, R)) rfl ?_
            refine az_E.ret (v := some (.int (0 : Int32))) (σ' := (97, I, J, R)) rfl ?_
            show az_E az_F ex 2 128 69 [.retAddr 0, .retAddr 0, .int v2, .retAddr 0, .int v4, .int v5, .ref 71, .ref 71] [.int (0 : Int32)] (97, I, J, R) _
            refine az_E.br (c := (0 : Int32) = 0) (tt := 72) (ff := 75) (L' := [.retAddr 0, .retAddr 0, .int v2, .retAddr 0, .int v4, .int v5, .ref 71, .ref 71]) (S' := []) (σ' := (97, I, J, R)) rfl (fun _ => ?_) (fun hn => absurd (by decide) hn)
            refine az_E.sn 1 (pc' := 74) (L' := [.retAddr 0, .retAddr 0, .int v2, .retAddr 0, .int v4, .int v5, .ref 71, .ref 71]) (S' := [.int (-12 : Int32)]) (σ' := (97, I, J, R)) rfl ?_
            have h := Option.some.inj h
            subst h
            exact az_E.ret (v := some (.int (-12 : Int32))) (σ' := (97, I, J, R)) rfl hQ
          · rw [if_neg hc_1919] at h
            refine az_E.sn 2 (pc' := 13) (L' := [.ref 71]) (S' := [.int (1 : Int32)]) (σ' := (97, I, J, R)) rfl ?_
            refine az_E.ret (v := some (.int (1 : Int32))) (σ' := (97, I, J, R)) rfl ?_
            show az_E az_F ex 1 56 4 [.ref 71, .int (I 71 1)] [.int (1 : Int32)] (97, I, J, R) _
            refine az_E.br (c := (1 : Int32) = 0) (tt := 19) (ff := 7) (L' := [.ref 71, .int (I 71 1)]) (S' := []) (σ' := (97, I, J, R)) rfl (fun hn => absurd hn (by decide)) (fun _ => ?_)
            refine az_E.sn 3 (pc' := 12) (L' := [.ref 71, .int (I 71 1)]) (S' := [.int (I 71 1), .int (I 71 1)]) (σ' := (97, I, J, R)) rfl ?_
            refine az_E.br (c := (I 71 1) = (I 71 1)) (tt := 15) (ff := 19) (L' := [.ref 71, .int (I 71 1)]) (S' := []) (σ' := (97, I, J, R)) rfl (fun hc_1920 => ?_) (fun hc_1920 => ?_)
            · rw [if_pos hc_1920] at h
              refine az_E.sn 2 (pc' := 20) (L' := [.ref 71, .int (I 71 1)]) (S' := [.int (1 : Int32)]) (σ' := (97, I, J, R)) rfl ?_
              refine az_E.ret (v := some (.int (1 : Int32))) (σ' := (97, I, J, R)) rfl ?_
              show az_E az_F ex 2 128 69 [.retAddr 0, .retAddr 0, .int v2, .retAddr 0, .int v4, .int v5, .ref 71, .ref 71] [.int (1 : Int32)] (97, I, J, R) _
              refine az_E.br (c := (1 : Int32) = 0) (tt := 72) (ff := 75) (L' := [.retAddr 0, .retAddr 0, .int v2, .retAddr 0, .int v4, .int v5, .ref 71, .ref 71]) (S' := []) (σ' := (97, I, J, R)) rfl (fun hn => absurd hn (by decide)) (fun _ => ?_)
              refine az_E.sn 3 (pc' := 80) (L' := [.retAddr 0, .retAddr 0, .int v2, .retAddr 0, .int v4, .int v5, .ref 71, .ref 71]) (S' := [.int v5, .int v2, .ref 71]) (σ' := (97, I, J, R)) rfl ?_
              refine az_E.call (d := 1) (k' := 60) (vs := [.ref 71, .int v2, .int v5]) (pc' := 83) (S' := []) rfl ?_ (fun _ _ hq => hq)
              show az_E az_F ex 1 60 0 [.ref 71, .int v2, .int v5] [] (97, I, J, R) _
              refine az_E.sn 1 (pc' := 1) (L' := [.ref 71, .int v2, .int v5]) (S' := [.int v2]) (σ' := (97, I, J, R)) rfl ?_
              refine az_E.br (c := v2 < 0) (tt := 30) (ff := 4) (L' := [.ref 71, .int v2, .int v5]) (S' := []) (σ' := (97, I, J, R)) rfl (fun hc_1921 => ?_) (fun hc_1921 => ?_)
              · rw [if_pos hc_1921] at h
                refine az_E.sn 1 (pc' := 31) (L' := [.ref 71, .int v2, .int v5]) (S' := [.int (0 : Int32)]) (σ' := (97, I, J, R)) rfl ?_
                refine az_E.ret (v := some (.int (0 : Int32))) (σ' := (97, I, J, R)) rfl ?_
                show az_E az_F ex 2 128 83 [.retAddr 0, .retAddr 0, .int v2, .retAddr 0, .int v4, .int v5, .ref 71, .ref 71] [.int (0 : Int32)] (97, I, J, R) _
                refine az_E.br (c := (0 : Int32) = 0) (tt := 98) (ff := 86) (L' := [.retAddr 0, .retAddr 0, .int v2, .retAddr 0, .int v4, .int v5, .ref 71, .ref 71]) (S' := []) (σ' := (97, I, J, R)) rfl (fun _ => ?_) (fun hn => absurd (by decide) hn)
                refine az_E.sn 1 (pc' := 100) (L' := [.retAddr 0, .retAddr 0, .int v2, .retAddr 0, .int v4, .int v5, .ref 71, .ref 71]) (S' := [.int (-13 : Int32)]) (σ' := (97, I, J, R)) rfl ?_
                have h := Option.some.inj h
                subst h
                exact az_E.ret (v := some (.int (-13 : Int32))) (σ' := (97, I, J, R)) rfl hQ
              · rw [if_neg hc_1921] at h
                refine az_E.sn 1 (pc' := 5) (L' := [.ref 71, .int v2, .int v5]) (S' := [.int v5]) (σ' := (97, I, J, R)) rfl ?_
                refine az_E.br (c := v5 < 0) (tt := 30) (ff := 8) (L' := [.ref 71, .int v2, .int v5]) (S' := []) (σ' := (97, I, J, R)) rfl (fun hc_1922 => ?_) (fun hc_1922 => ?_)
                · rw [if_pos hc_1922] at h
                  refine az_E.sn 1 (pc' := 31) (L' := [.ref 71, .int v2, .int v5]) (S' := [.int (0 : Int32)]) (σ' := (97, I, J, R)) rfl ?_
                  refine az_E.ret (v := some (.int (0 : Int32))) (σ' := (97, I, J, R)) rfl ?_
                  show az_E az_F ex 2 128 83 [.retAddr 0, .retAddr 0, .int v2, .retAddr 0, .int v4, .int v5, .ref 71, .ref 71] [.int (0 : Int32)] (97, I, J, R) _
                  refine az_E.br (c := (0 : Int32) = 0) (tt := 98) (ff := 86) (L' := [.retAddr 0, .retAddr 0, .int v2, .retAddr 0, .int v4, .int v5, .ref 71, .ref 71]) (S' := []) (σ' := (97, I, J, R)) rfl (fun _ => ?_) (fun hn => absurd (by decide) hn)
                  refine az_E.sn 1 (pc' := 100) (L' := [.retAddr 0, .retAddr 0, .int v2, .retAddr 0, .int v4, .int v5, .ref 71, .ref 71]) (S' := [.int (-13 : Int32)]) (σ' := (97, I, J, R)) rfl ?_
                  have h := Option.some.inj h
                  subst h
                  exact az_E.ret (v := some (.int (-13 : Int32))) (σ' := (97, I, J, R)) rfl hQ
                · rw [if_neg hc_1922] at h
                  refine az_E.sn 3 (pc' := 13) (L' := [.ref 71, .int v2, .int v5]) (S' := [.int (I 71 2), .int v2]) (σ' := (97, I, J, R)) rfl ?_
                  refine az_E.br (c := (I 71 2) < v2) (tt := 30) (ff := 16) (L' := [.ref 71, .int v2, .int v5]) (S' := []) (σ' := (97, I, J, R)) rfl (fun hc_1923 => ?_) (fun hc_1923 => ?_)
                  · rw [if_pos hc_1923] at h
                    refine az_E.sn 1 (pc' := 31) (L' := [.ref 71, .int v2, .int v5]) (S' := [.int (0 : Int32)]) (σ' := (97, I, J, R)) rfl ?_
                    refine az_E.ret (v := some (.int (0 : Int32))) (σ' := (97, I, J, R)) rfl ?_
                    show az_E az_F ex 2 128 83 [.retAddr 0, .retAddr 0, .int v2, .retAddr 0, .int v4, .int v5, .ref 71, .ref 71] [.int (0 : Int32)] (97, I, J, R) _
                    refine az_E.br (c := (0 : Int32) = 0) (tt := 98) (ff := 86) (L' := [.retAddr 0, .retAddr 0, .int v2, .retAddr 0, .int v4, .int v5, .ref 71, .ref 71]) (S' := []) (σ' := (97, I, J, R)) rfl (fun _ => ?_) (fun hn => absurd (by decide) hn)
                    refine az_E.sn 1 (pc' := 100) (L' := [.retAddr 0, .retAddr 0, .int v2, .retAddr 0, .int v4, .int v5, .ref 71, .ref 71]) (S' := [.int (-13 : Int32)]) (σ' := (97, I, J, R)) rfl ?_
                    have h := Option.some.inj h
                    subst h
                    exact az_E.ret (v := some (.int (-13 : Int32))) (σ' := (97, I, J, R)) rfl hQ
                  · rw [if_neg hc_1923] at h
                    refine az_E.sn 5 (pc' := 23) (L' := [.ref 71, .int v2, .int v5]) (S' := [.int ((I 71 2) - v2), .int v5]) (σ' := (97, I, J, R)) rfl ?_
                    refine az_E.br (c := ((I 71 2) - v2) < v5) (tt := 30) (ff := 26) (L' := [.ref 71, .int v2, .int v5]) (S' := []) (σ' := (97, I, J, R)) rfl (fun hc_1924 => ?_) (fun hc_1924 => ?_)
                    · rw [if_pos hc_1924] at h
                      refine az_E.sn 1 (pc' := 31) (L' := [.ref 71, .int v2, .int v5]) (S' := [.int (0 : Int32)]) (σ' := (97, I, J, R)) rfl ?_
                      refine az_E.ret (v := some (.int (0 : Int32))) (σ' := (97, I, J, R)) rfl ?_
                      show az_E az_F ex 2 128 83 [.retAddr 0, .retAddr 0, .int v2, .retAddr 0, .int v4, .int v5, .ref 71, .ref 71] [.int (0 : Int32)] (97, I, J, R) _
                      refine az_E.br (c := (0 : Int32) = 0) (tt := 98) (ff := 86) (L' := [.retAddr 0, .retAddr 0, .int v2, .retAddr 0, .int v4, .int v5, .ref 71, .ref 71]) (S' := []) (σ' := (97, I, J, R)) rfl (fun _ => ?_) (fun hn => absurd (by decide) hn)
                      refine az_E.sn 1 (pc' := 100) (L' := [.retAddr 0, .retAddr 0, .int v2, .retAddr 0, .int v4, .int v5, .ref 71, .ref 71]) (S' := [.int (-13 : Int32)]) (σ' := (97, I, J, R)) rfl ?_
                      have h := Option.some.inj h
                      subst h
                      exact az_E.ret (v := some (.int (-13 : Int32))) (σ' := (97, I, J, R)) rfl hQ
                    · rw [if_neg hc_1924] at h
                      refine az_E.sn 2 (pc' := 31) (L' := [.ref 71, .int v2, .int v5]) (S' := [.int (1 : Int32)]) (σ' := (97, I, J, R)) rfl ?_
                      refine az_E.ret (v := some (.int (1 : Int32))) (σ' := (97, I, J, R)) rfl ?_
                      show az_E az_F ex 2 128 83 [.retAddr 0, .retAddr 0, .int v2, .retAddr 0, .int v4, .int v5, .ref 71, .ref 71] [.int (1 : Int32)] (97, I, J, R) _
                      refine az_E.br (c := (1 : Int32) = 0) (tt := 98) (ff := 86) (L' := [.retAddr 0, .retAddr 0, .int v2, .retAddr 0, .int v4, .int v5, .ref 71, .ref 71]) (S' := []) (σ' := (97, I, J, R)) rfl (fun hn => absurd hn (by decide)) (fun _ => ?_)
                      refine az_E.sn 3 (pc' := 92) (L' := [.retAddr 0, .retAddr 0, .int v2, .retAddr 0, .int v4, .int v5, .ref 71, .ref 71]) (S' := [.int v5, .int v4, .ref 71]) (σ' := (97, I, J, R)) rfl ?_
                      refine az_E.call (d := 1) (k' := 60) (vs := [.ref 71, .int v4, .int v5]) (pc' := 95) (S' := []) rfl ?_ (fun _ _ hq => hq)
                      show az_E az_F ex 1 60 0 [.ref 71, .int v4, .int v5] [] (97, I, J, R) _
                      refine az_E.sn 1 (pc' := 1) (L' := [.ref 71, .int v4, .int v5]) (S' := [.int v4]) (σ' := (97, I, J, R)) rfl ?_
                      refine az_E.br (c := v4 < 0) (tt := 30) (ff := 4) (L' := [.ref 71, .int v4, .int v5]) (S' := []) (σ' := (97, I, J, R)) rfl (fun hc_1925 => ?_) (fun hc_1925 => ?_)
                      · rw [if_pos hc_1925] at h
                        refine az_E.sn 1 (pc' := 31) (L' := [.ref 71, .int v4, .int v5]) (S' := [.int (0 : Int32)]) (σ' := (97, I, J, R)) rfl ?_
                        refine az_E.ret (v := some (.int (0 : Int32))) (σ' := (97, I, J, R)) rfl ?_
                        show az_E az_F ex 2 128 95 [.retAddr 0, .retAddr 0, .int v2, .retAddr 0, .int v4, .int v5, .ref 71, .ref 71] [.int (0 : Int32)] (97, I, J, R) _
                        refine az_E.br (c := (0 : Int32) = 0) (tt := 98) (ff := 101) (L' := [.retAddr 0, .retAddr 0, .int v2, .retAddr 0, .int v4, .int v5, .ref 71, .ref 71]) (S' := []) (σ' := (97, I, J, R)) rfl (fun _ => ?_) (fun hn => absurd (by decide) hn)
                        refine az_E.sn 1 (pc' := 100) (L' := [.retAddr 0, .retAddr 0, .int v2, .retAddr 0, .int v4, .int v5, .ref 71, .ref 71]) (S' := [.int (-13 : Int32)]) (σ' := (97, I, J, R)) rfl ?_
                        have h := Option.some.inj h
                        subst h
                        exact az_E.ret (v := some (.int (-13 : Int32))) (σ' := (97, I, J, R)) rfl hQ
                      · rw [if_neg hc_1925] at h
                        refine az_E.sn 1 (pc' := 5) (L' := [.ref 71, .int v4, .int v5]) (S' := [.int v5]) (σ' := (97, I, J, R)) rfl ?_
                        refine az_E.br (c := v5 < 0) (tt := 30) (ff := 8) (L' := [.ref 71, .int v4, .int v5]) (S' := []) (σ' := (97, I, J, R)) rfl (fun hc_1926 => ?_) (fun hc_1926 => ?_)
                        · rw [if_pos hc_1926] at h
                          refine az_E.sn 1 (pc' := 31) (L' := [.ref 71, .int v4, .int v5]) (S' := [.int (0 : Int32)]) (σ' := (97, I, J, R)) rfl ?_
                          refine az_E.ret (v := some (.int (0 : Int32))) (σ' := (97, I, J, R)) rfl ?_
                          show az_E az_F ex 2 128 95 [.retAddr 0, .retAddr 0, .int v2, .retAddr 0, .int v4, .int v5, .ref 71, .ref 71] [.int (0 : Int32)] (97, I, J, R) _
                          refine az_E.br (c := (0 : Int32) = 0) (tt := 98) (ff := 101) (L' := [.retAddr 0, .retAddr 0, .int v2, .retAddr 0, .int v4, .int v5, .ref 71, .ref 71]) (S' := []) (σ' := (97, I, J, R)) rfl (fun _ => ?_) (fun hn => absurd (by decide) hn)
                          refine az_E.sn 1 (pc' := 100) (L' := [.retAddr 0, .retAddr 0, .int v2, .retAddr 0, .int v4, .int v5, .ref 71, .ref 71]) (S' := [.int (-13 : Int32)]) (σ' := (97, I, J, R)) rfl ?_
                          have h := Option.some.inj h
                          subst h
                          exact az_E.ret (v := some (.int (-13 : Int32))) (σ' := (97, I, J, R)) rfl hQ
                        · rw [if_neg hc_1926] at h
                          refine az_E.sn 3 (pc' := 13) (L' := [.ref 71, .int v4, .int v5]) (S' := [.int (I 71 2), .int v4]) (σ' := (97, I, J, R)) rfl ?_
                          refine az_E.br (c := (I 71 2) < v4) (tt := 30) (ff := 16) (L' := [.ref 71, .int v4, .int v5]) (S' := []) (σ' := (97, I, J, R)) rfl (fun hc_1927 => ?_) (fun hc_1927 => ?_)
                          · rw [if_pos hc_1927] at h
                            refine az_E.sn 1 (pc' := 31) (L' := [.ref 71, .int v4, .int v5]) (S' := [.int (0 : Int32)]) (σ' := (97, I, J, R)) rfl ?_
                            refine az_E.ret (v := some (.int (0 : Int32))) (σ' := (97, I, J, R)) rfl ?_
                            show az_E az_F ex 2 128 95 [.retAddr 0, .retAddr 0, .int v2, .retAddr 0, .int v4, .int v5, .ref 71, .ref 71] [.int (0 : Int32)] (97, I, J, R) _
                            refine az_E.br (c := (0 : Int32) = 0) (tt := 98) (ff := 101) (L' := [.retAddr 0, .retAddr 0, .int v2, .retAddr 0, .int v4, .int v5, .ref 71, .ref 71]) (S' := []) (σ' := (97, I, J, R)) rfl (fun _ => ?_) (fun hn => absurd (by decide) hn)
                            refine az_E.sn 1 (pc' := 100) (L' := [.retAddr 0, .retAddr 0, .int v2, .retAddr 0, .int v4, .int v5, .ref 71, .ref 71]) (S' := [.int (-13 : Int32)]) (σ' := (97, I, J, R)) rfl ?_
                            have h := Option.some.inj h
                            subst h
                            exact az_E.ret (v := some (.int (-13 : Int32))) (σ' := (97, I, J, R)) rfl hQ
                          · rw [if_neg hc_1927] at h
                            refine az_E.sn 5 (pc' := 23) (L' := [.ref 71, .int v4, .int v5]) (S' := [.int ((I 71 2) - v4), .int v5]) (σ' := (97, I, J, R)) rfl ?_
                            refine az_E.br (c := ((I 71 2) - v4) < v5) (tt := 30) (ff := 26) (L' := [.ref 71, .int v4, .int v5]) (S' := []) (σ' := (97, I, J, R)) rfl (fun hc_1928 => ?_) (fun hc_1928 => ?_)
                            · rw [if_pos hc_1928] at h
                              refine az_E.sn 1 (pc' := 31) (L' := [.ref 71, .int v4, .int v5]) (S' := [.int (0 : Int32)]) (σ' := (97, I, J, R)) rfl ?_
                              refine az_E.ret (v := some (.int (0 : Int32))) (σ' := (97, I, J, R)) rfl ?_
                              show az_E az_F ex 2 128 95 [.retAddr 0, .retAddr 0, .int v2, .retAddr 0, .int v4, .int v5, .ref 71, .ref 71] [.int (0 : Int32)] (97, I, J, R) _
                              refine az_E.br (c := (0 : Int32) = 0) (tt := 98) (ff := 101) (L' := [.retAddr 0, .retAddr 0, .int v2, .retAddr 0, .int v4, .int v5, .ref 71, .ref 71]) (S' := []) (σ' := (97, I, J, R)) rfl (fun _ => ?_) (fun hn => absurd (by decide) hn)
                              refine az_E.sn 1 (pc' := 100) (L' := [.retAddr 0, .retAddr 0, .int v2, .retAddr 0, .int v4, .int v5, .ref 71, .ref 71]) (S' := [.int (-13 : Int32)]) (σ' := (97, I, J, R)) rfl ?_
                              have h := Option.some.inj h
                              subst h
                              exact az_E.ret (v := some (.int (-13 : Int32))) (σ' := (97, I, J, R)) rfl hQ
                            · rw [if_neg hc_1928] at h
                              refine az_E.sn 2 (pc' := 31) (L' := [.ref 71, .int v4, .int v5]) (S' := [.int (1 : Int32)]) (σ' := (97, I, J, R)) rfl ?_
                              refine az_E.ret (v := some (.int (1 : Int32))) (σ' := (97, I, J, R)) rfl ?_
                              show az_E az_F ex 2 128 95 [.retAddr 0, .retAddr 0, .int v2, .retAddr 0, .int v4, .int v5, .ref 71, .ref 71] [.int (1 : Int32)] (97, I, J, R) _
                              refine az_E.br (c := (1 : Int32) = 0) (tt := 98) (ff := 101) (L' := [.retAddr 0, .retAddr 0, .int v2, .retAddr 0, .int v4, .int v5, .ref 71, .ref 71]) (S' := []) (σ' := (97, I, J, R)) rfl (fun hn => absurd hn (by decide)) (fun _ => ?_)
                              refine az_E.sn 7 (pc' := 116) (L' := [.retAddr 0, .retAddr 0, .int v2, .retAddr 0, .int v4, .int v5, .ref 71, .ref 71]) (S' := [.int v5, .int v4, .ref (71 + 1), .int v2, .ref (71 + 1)]) (σ' := (97, I, J, R)) rfl ?_
                              by_cases hc_1929 : v2 < 0 ∨ v4 < 0 ∨ v5 < 0 ∨ 60 < v2.toNatClampNeg + v5.toNatClampNeg ∨ 60 < v4.toNatClampNeg + v5.toNatClampNeg
                              · rw [if_pos hc_1929] at h; cases h
                              · rw [if_neg hc_1929] at h
                                refine az_E.o (o := az_cp az_F (97, I, J, R) (71 + 1) v2 (71 + 1) v4 v5) (pc' := 119) (L' := [.retAddr 0, .retAddr 0, .int v2, .retAddr 0, .int v4, .int v5, .ref 71, .ref 71]) (S' := []) (x := (97, I, (az_ur J (71 + 1) (va_cpy (J (71 + 1)) (J (71 + 1)) v2.toNatClampNeg v4.toNatClampNeg v5.toNatClampNeg)), R)) rfl (if_neg hc_1929) ?_
                                refine az_E.sn 1 (pc' := 121) (L' := [.retAddr 0, .retAddr 0, .int v2, .retAddr 0, .int v4, .int v5, .ref 71, .ref 71]) (S' := [.int v5]) (σ' := (97, I, (az_ur J (71 + 1) (va_cpy (J (71 + 1)) (J (71 + 1)) v2.toNatClampNeg v4.toNatClampNeg v5.toNatClampNeg)), R)) rfl ?_
                                have h := Option.some.inj h
                                subst h
                                exact az_E.ret (v := some (.int v5)) (σ' := (97, I, (az_ur J (71 + 1) (va_cpy (J (71 + 1)) (J (71 + 1)) v2.toNatClampNeg v4.toNatClampNeg v5.toNatClampNeg)), R)) rfl hQ
            · rw [if_neg hc_1920] at h
              refine az_E.sn 1 (pc' := 20) (L' := [.ref 71, .int (I 71 1)]) (S' := [.int (0 : Int32)]) (σ' := (97, I, J, R)) rfl ?_
              refine az_E.ret (v := some (.int (0 : Int32))) (σ' := (97, I, J, R)) rfl ?_
              show az_E az_F ex 2 128 69 [.retAddr 0, .retAddr 0, .int v2, .retAddr 0, .int v4, .int v5, .ref 71, .ref 71] [.int (0 : Int32)] (97, I, J, R) _
              refine az_E.br (c := (0 : Int32) = 0) (tt := 72) (ff := 75) (L' := [.retAddr 0, .retAddr 0, .int v2, .retAddr 0, .int v4, .int v5, .ref 71, .ref 71]) (S' := []) (σ' := (97, I, J, R)) rfl (fun _ => ?_) (fun hn => absurd (by decide) hn)
              refine az_E.sn 1 (pc' := 74) (L' := [.retAddr 0, .retAddr 0, .int v2, .retAddr 0, .int v4, .int v5, .ref 71, .ref 71]) (S' := [.int (-12 : Int32)]) (σ' := (97, I, J, R)) rfl ?_
              have h := Option.some.inj h
              subst h
              exact az_E.ret (v := some (.int (-12 : Int32))) (σ' := (97, I, J, R)) rfl hQ
  · rw [if_neg hc_1902] at h
    refine az_E.sn 1 (pc' := 21) (L' := [.ref 71]) (S' := [.int (0 : Int32)]) (σ' := (97, I, J, R)) rfl ?_
    refine az_E.ret (v := some (.int (0 : Int32))) (σ' := (97, I, J, R)) rfl ?_
    show az_E az_F ex 2 128 37 [.retAddr 0, .retAddr 0, .int v2, .retAddr 0, .int v4, .int v5, .ref 71, .ref 71] [.int (0 : Int32)] (97, I, J, R) _
    refine az_E.br (c := (0 : Int32) = 0) (tt := 40) (ff := 48) (L' := [.retAddr 0, .retAddr 0, .int v2, .retAddr 0, .int v4, .int v5, .ref 71, .ref 71]) (S' := []) (σ' := (97, I, J, R)) rfl (fun _ => ?_) (fun hn => absurd (by decide) hn)
    refine az_E.sn 1 (pc' := 42) (L' := [.retAddr 0, .retAddr 0, .int v2, .retAddr 0, .int v4, .int v5, .ref 71, .ref 71]) (S' := [.ref 71]) (σ' := (97, I, J, R)) rfl ?_
    refine az_E.call (d := 1) (k' := 54) (vs := [.ref 71]) (pc' := 45) (S' := []) rfl ?_ (fun _ _ hq => hq)
    show az_E az_F ex 1 54 0 [.ref 71] [] (97, I, J, R) _
    refine az_E.sn 3 (pc' := 5) (L' := [.ref 71]) (S' := [.int (-1 : Int32), .int (I 71 0)]) (σ' := (97, I, J, R)) rfl ?_
    refine az_E.br (c := (I 71 0) = (-1 : Int32)) (tt := 8) (ff := 20) (L' := [.ref 71]) (S' := []) (σ' := (97, I, J, R)) rfl (fun hc_1930 => ?_) (fun hc_1930 => ?_)
    · rw [if_pos hc_1930] at h
      refine az_E.sn 3 (pc' := 13) (L' := [.ref 71]) (S' := [.int (-1 : Int32), .int (I 71 1)]) (σ' := (97, I, J, R)) rfl ?_
      refine az_E.br (c := (I 71 1) = (-1 : Int32)) (tt := 16) (ff := 20) (L' := [.ref 71]) (S' := []) (σ' := (97, I, J, R)) rfl (fun hc_1931 => ?_) (fun hc_1931 => ?_)
      · rw [if_pos hc_1931] at h
        refine az_E.sn 2 (pc' := 21) (L' := [.ref 71]) (S' := [.int (1 : Int32)]) (σ' := (97, I, J, R)) rfl ?_
        refine az_E.ret (v := some (.int (1 : Int32))) (σ' := (97, I, J, R)) rfl ?_
        show az_E az_F ex 2 128 45 [.retAddr 0, .retAddr 0, .int v2, .retAddr 0, .int v4, .int v5, .ref 71, .ref 71] [.int (1 : Int32)] (97, I, J, R) _
        refine az_E.br (c := (1 : Int32) = 0) (tt := 51) (ff := 48) (L' := [.retAddr 0, .retAddr 0, .int v2, .retAddr 0, .int v4, .int v5, .ref 71, .ref 71]) (S' := []) (σ' := (97, I, J, R)) rfl (fun hn => absurd hn (by decide)) (fun _ => ?_)
        refine az_E.sn 1 (pc' := 50) (L' := [.retAddr 0, .retAddr 0, .int v2, .retAddr 0, .int v4, .int v5, .ref 71, .ref 71]) (S' := [.int (-11 : Int32)]) (σ' := (97, I, J, R)) rfl ?_
        have h := Option.some.inj h
        subst h
        exact az_E.ret (v := some (.int (-11 : Int32))) (σ' := (97, I, J, R)) rfl hQ
      · rw [if_neg hc_1931] at h
        refine az_E.sn 1 (pc' := 21) (L' := [.ref 71]) (S' := [.int (0 : Int32)]) (σ' := (97, I, J, R)) rfl ?_
        refine az_E.ret (v := some (.int (0 : Int32))) (σ' := (97, I, J, R)) rfl ?_
        show az_E az_F ex 2 128 45 [.retAddr 0, .retAddr 0, .int v2, .retAddr 0, .int v4, .int v5, .ref 71, .ref 71] [.int (0 : Int32)] (97, I, J, R) _
        refine az_E.br (c := (0 : Int32) = 0) (tt := 51) (ff := 48) (L' := [.retAddr 0, .retAddr 0, .int v2, .retAddr 0, .int v4, .int v5, .ref 71, .ref 71]) (S' := []) (σ' := (97, I, J, R)) rfl (fun _ => ?_) (fun hn => absurd (by decide) hn)
        refine az_E.sn 1 (pc' := 53) (L' := [.retAddr 0, .retAddr 0, .int v2, .retAddr 0, .int v4, .int v5, .ref 71, .ref 71]) (S' := [.ref 71]) (σ' := (97, I, J, R)) rfl ?_
        refine az_E.call (d := 1) (k' := 55) (vs := [.ref 71]) (pc' := 56) (S' := []) rfl ?_ (fun _ _ hq => hq)
        show az_E az_F ex 1 55 0 [.ref 71] [] (97, I, J, R) _
        refine az_E.sn 3 (pc' := 5) (L' := [.ref 71]) (S' := [.int (-1 : Int32), .int (I 71 1)]) (σ' := (97, I, J, R)) rfl ?_
        refine az_E.br (c := (I 71 1) = (-1 : Int32)) (tt := 12) (ff := 8) (L' := [.ref 71]) (S' := []) (σ' := (97, I, J, R)) rfl (fun hc_1932 => ?_) (fun hc_1932 => ?_)
        · rw [if_pos hc_1932] at h
          refine az_E.sn 1 (pc' := 13) (L' := [.ref 71]) (S' := [.int (0 : Int32)]) (σ' := (97, I, J, R)) rfl ?_
          refine az_E.ret (v := some (.int (0 : Int32))) (σ' := (97, I, J, R)) rfl ?_
          show az_E az_F ex 2 128 56 [.retAddr 0, .retAddr 0, .int v2, .retAddr 0, .int v4, .int v5, .ref 71, .ref 71] [.int (0 : Int32)] (97, I, J, R) _
          refine az_E.br (c := (0 : Int32) = 0) (tt := 72) (ff := 59) (L' := [.retAddr 0, .retAddr 0, .int v2, .retAddr 0, .int v4, .int v5, .ref 71, .ref 71]) (S' := []) (σ' := (97, I, J, R)) rfl (fun _ => ?_) (fun hn => absurd (by decide) hn)
          refine az_E.sn 1 (pc' := 74) (L' := [.retAddr 0, .retAddr 0, .int v2, .retAddr 0, .int v4, .int v5, .ref 71, .ref 71]) (S' := [.int (-12 : Int32)]) (σ' := (97, I, J, R)) rfl ?_
          have h := Option.some.inj h
          subst h
          exact az_E.ret (v := some (.int (-12 : Int32))) (σ' := (97, I, J, R)) rfl hQ
        · rw [if_neg hc_1932] at h
          refine az_E.sn 2 (pc' := 13) (L' := [.ref 71]) (S' := [.int (1 : Int32)]) (σ' := (97, I, J, R)) rfl ?_
          refine az_E.ret (v := some (.int (1 : Int32))) (σ' := (97, I, J, R)) rfl ?_
          show az_E az_F ex 2 128 56 [.retAddr 0, .retAddr 0, .int v2, .retAddr 0, .int v4, .int v5, .ref 71, .ref 71] [.int (1 : Int32)] (97, I, J, R) _
          refine az_E.br (c := (1 : Int32) = 0) (tt := 72) (ff := 59) (L' := [.retAddr 0, .retAddr 0, .int v2, .retAddr 0, .int v4, .int v5, .ref 71, .ref 71]) (S' := []) (σ' := (97, I, J, R)) rfl (fun hn => absurd hn (by decide)) (fun _ => ?_)
          refine az_E.sn 3 (pc' := 66) (L' := [.retAddr 0, .retAddr 0, .int v2, .retAddr 0, .int v4, .int v5, .ref 71, .ref 71]) (S' := [.int (I 71 1), .ref 71]) (σ' := (97, I, J, R)) rfl ?_
          refine az_E.call (d := 1) (k' := 56) (vs := [.ref 71, .int (I 71 1)]) (pc' := 69) (S' := []) rfl ?_ (fun _ _ hq => hq)
          show az_E az_F ex 1 56 0 [.ref 71, .int (I 71 1)] [] (97, I, J, R) _
          refine az_E.sn 1 (pc' := 1) (L' := [.ref 71, .int (I 71 1)]) (S' := [.ref 71]) (σ' := (97, I, J, R)) rfl ?_
          refine az_E.call (d := 0) (k' := 55) (vs := [.ref 71]) (pc' := 4) (S' := []) rfl ?_ (fun _ _ hq => hq)
          show az_E az_F ex 0 55 0 [.ref 71] [] (97, I, J, R) _
          refine az_E.sn 3 (pc' := 5) (L' := [.ref 71]) (S' := [.int (-1 : Int32), .int (I 71 1)]) (σ' := (97, I, J, R)) rfl ?_
          refine az_E.br (c := (I 71 1) = (-1 : Int32)) (tt := 12) (ff := 8) (L' := [.ref 71]) (S' := []) (σ' := (97, I, J, R)) rfl (fun hc_1933 => ?_) (fun hc_1933 => ?_)
          · rw [if_pos hc_1933] at h
            refine az_E.sn 1 (pc' := 13) (L' := [.ref 71]) (S' := [.int (0 : Int32)]) (σ' := (97, I, J, R)) rfl ?_
            refine az_E.ret (v := some (.int (0 : Int32))) (σ' := (97, I, J, R)) rfl ?_
            show az_E az_F ex 1 56 4 [.ref 71, .int (I 71 1)] [.int (0 : Int32)] (97, I, J, R) _
            refine az_E.br (c := (0 : Int32) = 0) (tt := 19) (ff := 7) (L' := [.ref 71, .int (I 71 1)]) (S' := []) (σ' := (97, I, J, R)) rfl (fun _ => ?_) (fun hn => absurd (by decide) hn)
            refine az_E.sn 1 (pc' := 20) (L' := [.ref 71, .int (I 71 1)]) (S' := [.int (0 : Int32)]) (σ' := (97, I, J, R)) rfl ?_
            refine az_E.ret (v := some (.int (0 : Int32))) (σ' := (97, I, J, R)) rfl ?_
            show az_E az_F ex 2 128 69 [.retAddr 0, .retAddr 0, .int v2, .retAddr 0, .int v4, .int v5, .ref 71, .ref 71] [.int (0 : Int32)] (97, I, J, R) _
            refine az_E.br (c := (0 : Int32) = 0) (tt := 72) (ff := 75) (L' := [.retAddr 0, .retAddr 0, .int v2, .retAddr 0, .int v4, .int v5, .ref 71, .ref 71]) (S' := []) (σ' := (97, I, J, R)) rfl (fun _ => ?_) (fun hn => absurd (by decide) hn)
            refine az_E.sn 1 (pc' := 74) (L' := [.retAddr 0, .retAddr 0, .int v2, .retAddr 0, .int v4, .int v5, .ref 71, .ref 71]) (S' := [.int (-12 : Int32)]) (σ' := (97, I, J, R)) rfl ?_
            have h := Option.some.inj h
            subst h
            exact az_E.ret (v := some (.int (-12 : Int32))) (σ' := (97, I, J, R)) rfl hQ
          · rw [if_neg hc_1933] at h
            refine az_E.sn 2 (pc' := 13) (L' := [.ref 71]) (S' := [.int (1 : Int32)]) (σ' := (97, I, J, R)) rfl ?_
            refine az_E.ret (v := some (.int (1 : Int32))) (σ' := (97, I, J, R)) rfl ?_
            show az_E az_F ex 1 56 4 [.ref 71, .int (I 71 1)] [.int (1 : Int32)] (97, I, J, R) _
            refine az_E.br (c := (1 : Int32) = 0) (tt := 19) (ff := 7) (L' := [.ref 71, .int (I 71 1)]) (S' := []) (σ' := (97, I, J, R)) rfl (fun hn => absurd hn (by decide)) (fun _ => ?_)
            refine az_E.sn 3 (pc' := 12) (L' := [.ref 71, .int (I 71 1)]) (S' := [.int (I 71 1), .int (I 71 1)]) (σ' := (97, I, J, R)) rfl ?_
            refine az_E.br (c := (I 71 1) = (I 71 1)) (tt := 15) (ff := 19) (L' := [.ref 71, .int (I 71 1)]) (S' := []) (σ' := (97, I, J, R)) rfl (fun hc_1934 => ?_) (fun hc_1934 => ?_)
            · rw [if_pos hc_1934] at h
              refine az_E.sn 2 (pc' := 20) (L' := [.ref 71, .int (I 71 1)]) (S' := [.int (1 : Int32)]) (σ' := (97, I, J, R)) rfl ?_
              refine az_E.ret (v := some (.int (1 : Int32))) (σ' := (97, I, J, R)) rfl ?_
              show az_E az_F ex 2 128 69 [.retAddr 0, .retAddr 0, .int v2, .retAddr 0, .int v4, .int v5, .ref 71, .ref 71] [.int (1 : Int32)] (97, I, J, R) _
              refine az_E.br (c := (1 : Int32) = 0) (tt := 72) (ff := 75) (L' := [.retAddr 0, .retAddr 0, .int v2, .retAddr 0, .int v4, .int v5, .ref 71, .ref 71]) (S' := []) (σ' := (97, I, J, R)) rfl (fun hn => absurd hn (by decide)) (fun _ => ?_)
              refine az_E.sn 3 (pc' := 80) (L' := [.retAddr 0, .retAddr 0, .int v2, .retAddr 0, .int v4, .int v5, .ref 71, .ref 71]) (S' := [.int v5, .int v2, .ref 71]) (σ' := (97, I, J, R)) rfl ?_
              refine az_E.call (d := 1) (k' := 60) (vs := [.ref 71, .int v2, .int v5]) (pc' := 83) (S' := []) rfl ?_ (fun _ _ hq => hq)
              show az_E az_F ex 1 60 0 [.ref 71, .int v2, .int v5] [] (97, I, J, R) _
              refine az_E.sn 1 (pc' := 1) (L' := [.ref 71, .int v2, .int v5]) (S' := [.int v2]) (σ' := (97, I, J, R)) rfl ?_
              refine az_E.br (c := v2 < 0) (tt := 30) (ff := 4) (L' := [.ref 71, .int v2, .int v5]) (S' := []) (σ' := (97, I, J, R)) rfl (fun hc_1935 => ?_) (fun hc_1935 => ?_)
              · rw [if_pos hc_1935] at h
                refine az_E.sn 1 (pc' := 31) (L' := [.ref 71, .int v2, .int v5]) (S' := [.int (0 : Int32)]) (σ' := (97, I, J, R)) rfl ?_
                refine az_E.ret (v := some (.int (0 : Int32))) (σ' := (97, I, J, R)) rfl ?_
                show az_E az_F ex 2 128 83 [.retAddr 0, .retAddr 0, .int v2, .retAddr 0, .int v4, .int v5, .ref 71, .ref 71] [.int (0 : Int32)] (97, I, J, R) _
                refine az_E.br (c := (0 : Int32) = 0) (tt := 98) (ff := 86) (L' := [.retAddr 0, .retAddr 0, .int v2, .retAddr 0, .int v4, .int v5, .ref 71, .ref 71]) (S' := []) (σ' := (97, I, J, R)) rfl (fun _ => ?_) (fun hn => absurd (by decide) hn)
                refine az_E.sn 1 (pc' := 100) (L' := [.retAddr 0, .retAddr 0, .int v2, .retAddr 0, .int v4, .int v5, .ref 71, .ref 71]) (S' := [.int (-13 : Int32)]) (σ' := (97, I, J, R)) rfl ?_
                have h := Option.some.inj h
                subst h
                exact az_E.ret (v := some (.int (-13 : Int32))) (σ' := (97, I, J, R)) rfl hQ
              · rw [if_neg hc_1935] at h
                refine az_E.sn 1 (pc' := 5) (L' := [.ref 71, .int v2, .int v5]) (S' := [.int v5]) (σ' := (97, I, J, R)) rfl ?_
                refine az_E.br (c := v5 < 0) (tt := 30) (ff := 8) (L' := [.ref 71, .int v2, .int v5]) (S' := []) (σ' := (97, I, J, R)) rfl (fun hc_1936 => ?_) (fun hc_1936 => ?_)
                · rw [if_pos hc_1936] at h
                  refine az_E.sn 1 (pc' := 31) (L' := [.ref 71, .int v2, .int v5]) (S' := [.int (0 : Int32)]) (σ' := (97, I, J, R)) rfl ?_
                  refine az_E.ret (v := some (.int (0 : Int32))) (σ' := (97, I, J, R)) rfl ?_
                  show az_E az_F ex 2 128 83 [.retAddr 0, .retAddr 0, .int v2, .retAddr 0, .int v4, .int v5, .ref 71, .ref 71] [.int (0 : Int32)] (97, I, J, R) _
                  refine az_E.br (c := (0 : Int32) = 0) (tt := 98) (ff := 86) (L' := [.retAddr 0, .retAddr 0, .int v2, .retAddr 0, .int v4, .int v5, .ref 71, .ref 71]) (S' := []) (σ' := (97, I, J, R)) rfl (fun _ => ?_) (fun hn => absurd (by decide) hn)
                  refine az_E.sn 1 (pc' := 100) (L' := [.retAddr 0, .retAddr 0, .int v2, .retAddr 0, .int v4, .int v5, .ref 71, .ref 71]) (S' := [.int (-13 : Int32)]) (σ' := (97, I, J, R)) rfl ?_
                  have h := Option.some.inj h
                  subst h
                  exact az_E.ret (v := some (.int (-13 : Int32))) (σ' := (97, I, J, R)) rfl hQ
                · rw [if_neg hc_1936] at h
                  refine az_E.sn 3 (pc' := 13) (L' := [.ref 71, .int v2, .int v5]) (S' := [.int (I 71 2), .int v2]) (σ' := (97, I, J, R)) rfl ?_
                  refine az_E.br (c := (I 71 2) < v2) (tt := 30) (ff := 16) (L' := [.ref 71, .int v2, .int v5]) (S' := []) (σ' := (97, I, J, R)) rfl (fun hc_1937 => ?_) (fun hc_1937 => ?_)
                  · rw [if_pos hc_1937] at h
                    refine az_E.sn 1 (pc' := 31) (L' := [.ref 71, .int v2, .int v5]) (S' := [.int (0 : Int32)]) (σ' := (97, I, J, R)) rfl ?_
                    refine az_E.ret (v := some (.int (0 : Int32))) (σ' := (97, I, J, R)) rfl ?_
                    show az_E az_F ex 2 128 83 [.retAddr 0, .retAddr 0, .int v2, .retAddr 0, .int v4, .int v5, .ref 71, .ref 71] [.int (0 : Int32)] (97, I, J, R) _
                    refine az_E.br (c := (0 : Int32) = 0) (tt := 98) (ff := 86) (L' := [.retAddr 0, .retAddr 0, .int v2, .retAddr 0, .int v4, .int v5, .ref 71, .ref 71]) (S' := []) (σ' := (97, I, J, R)) rfl (fun _ => ?_) (fun hn => absurd (by decide) hn)
                    refine az_E.sn 1 (pc' := 100) (L' := [.retAddr 0, .retAddr 0, .int v2, .retAddr 0, .int v4, .int v5, .ref 71, .ref 71]) (S' := [.int (-13 : Int32)]) (σ' := (97, I, J, R)) rfl ?_
                    have h := Option.some.inj h
                    subst h
                    exact az_E.ret (v := some (.int (-13 : Int32))) (σ' := (97, I, J, R)) rfl hQ
                  · rw [if_neg hc_1937] at h
                    refine az_E.sn 5 (pc' := 23) (L' := [.ref 71, .int v2, .int v5]) (S' := [.int ((I 71 2) - v2), .int v5]) (σ' := (97, I, J, R)) rfl ?_
                    refine az_E.br (c := ((I 71 2) - v2) < v5) (tt := 30) (ff := 26) (L' := [.ref 71, .int v2, .int v5]) (S' := []) (σ' := (97, I, J, R)) rfl (fun hc_1938 => ?_) (fun hc_1938 => ?_)
                    · rw [if_pos hc_1938] at h
                      refine az_E.sn 1 (pc' := 31) (L' := [.ref 71, .int v2, .int v5]) (S' := [.int (0 : Int32)]) (σ' := (97, I, J, R)) rfl ?_
                      refine az_E.ret (v := some (.int (0 : Int32))) (σ' := (97, I, J, R)) rfl ?_
                      show az_E az_F ex 2 128 83 [.retAddr 0, .retAddr 0, .int v2, .retAddr 0, .int v4, .int v5, .ref 71, .ref 71] [.int (0 : Int32)] (97, I, J, R) _
                      refine az_E.br (c := (0 : Int32) = 0) (tt := 98) (ff := 86) (L' := [.retAddr 0, .retAddr 0, .int v2, .retAddr 0, .int v4, .int v5, .ref 71, .ref 71]) (S' := []) (σ' := (97, I, J, R)) rfl (fun _ => ?_) (fun hn => absurd (by decide) hn)
                      refine az_E.sn 1 (pc' := 100) (L' := [.retAddr 0, .retAddr 0, .int v2, .retAddr 0, .int v4, .int v5, .ref 71, .ref 71]) (S' := [.int (-13 : Int32)]) (σ' := (97, I, J, R)) rfl ?_
                      have h := Option.some.inj h
                      subst h
                      exact az_E.ret (v := some (.int (-13 : Int32))) (σ' := (97, I, J, R)) rfl hQ
                    · rw [if_neg hc_1938] at h
                      refine az_E.sn 2 (pc' := 31) (L' := [.ref 71, .int v2, .int v5]) (S' := [.int (1 : Int32)]) (σ' := (97, I, J, R)) rfl ?_
                      refine az_E.ret (v := some (.int (1 : Int32))) (σ' := (97, I, J, R)) rfl ?_
                      show az_E az_F ex 2 128 83 [.retAddr 0, .retAddr 0, .int v2, .retAddr 0, .int v4, .int v5, .ref 71, .ref 71] [.int (1 : Int32)] (97, I, J, R) _
                      refine az_E.br (c := (1 : Int32) = 0) (tt := 98) (ff := 86) (L' := [.retAddr 0, .retAddr 0, .int v2, .retAddr 0, .int v4, .int v5, .ref 71, .ref 71]) (S' := []) (σ' := (97, I, J, R)) rfl (fun hn => absurd hn (by decide)) (fun _ => ?_)
                      refine az_E.sn 3 (pc' := 92) (L' := [.retAddr 0, .retAddr 0, .int v2, .retAddr 0, .int v4, .int v5, .ref 71, .ref 71]) (S' := [.int v5, .int v4, .ref 71]) (σ' := (97, I, J, R)) rfl ?_
                      refine az_E.call (d := 1) (k' := 60) (vs := [.ref 71, .int v4, .int v5]) (pc' := 95) (S' := []) rfl ?_ (fun _ _ hq => hq)
                      show az_E az_F ex 1 60 0 [.ref 71, .int v4, .int v5] [] (97, I, J, R) _
                      refine az_E.sn 1 (pc' := 1) (L' := [.ref 71, .int v4, .int v5]) (S' := [.int v4]) (σ' := (97, I, J, R)) rfl ?_
                      refine az_E.br (c := v4 < 0) (tt := 30) (ff := 4) (L' := [.ref 71, .int v4, .int v5]) (S' := []) (σ' := (97, I, J, R)) rfl (fun hc_1939 => ?_) (fun hc_1939 => ?_)
                      · rw [if_pos hc_1939] at h
                        refine az_E.sn 1 (pc' := 31) (L' := [.ref 71, .int v4, .int v5]) (S' := [.int (0 : Int32)]) (σ' := (97, I, J, R)) rfl ?_
                        refine az_E.ret (v := some (.int (0 : Int32))) (σ' := (97, I, J, R)) rfl ?_
                        show az_E az_F ex 2 128 95 [.retAddr 0, .retAddr 0, .int v2, .retAddr 0, .int v4, .int v5, .ref 71, .ref 71] [.int (0 : Int32)] (97, I, J, R) _
                        refine az_E.br (c := (0 : Int32) = 0) (tt := 98) (ff := 101) (L' := [.retAddr 0, .retAddr 0, .int v2, .retAddr 0, .int v4, .int v5, .ref 71, .ref 71]) (S' := []) (σ' := (97, I, J, R)) rfl (fun _ => ?_) (fun hn => absurd (by decide) hn)
                        refine az_E.sn 1 (pc' := 100) (L' := [.retAddr 0, .retAddr 0, .int v2, .retAddr 0, .int v4, .int v5, .ref 71, .ref 71]) (S' := [.int (-13 : Int32)]) (σ' := (97, I, J, R)) rfl ?_
                        have h := Option.some.inj h
                        subst h
                        exact az_E.ret (v := some (.int (-13 : Int32))) (σ' := (97, I, J, R)) rfl hQ
                      · rw [if_neg hc_1939] at h
                        refine az_E.sn 1 (pc' := 5) (L' := [.ref 71, .int v4, .int v5]) (S' := [.int v5]) (σ' := (97, I, J, R)) rfl ?_
                        refine az_E.br (c := v5 < 0) (tt := 30) (ff := 8) (L' := [.ref 71, .int v4, .int v5]) (S' := []) (σ' := (97, I, J, R)) rfl (fun hc_1940 => ?_) (fun hc_1940 => ?_)
                        · rw [if_pos hc_1940] at h
                          refine az_E.sn 1 (pc' := 31) (L' := [.ref 71, .int v4, .int v5]) (S' := [.int (0 : Int32)]) (σ' := (97, I, J, R)) rfl ?_
                          refine az_E.ret (v := some (.int (0 : Int32))) (σ' := (97, I, J, R)) rfl ?_
                          show az_E az_F ex 2 128 95 [.retAddr 0, .retAddr 0, .int v2, .retAddr 0, .int v4, .int v5, .ref 71, .ref 71] [.int (0 : Int32)] (97, I, J, R) _
                          refine az_E.br (c := (0 : Int32) = 0) (tt := 98) (ff := 101) (L' := [.retAddr 0, .retAddr 0, .int v2, .retAddr 0, .int v4, .int v5, .ref 71, .ref 71]) (S' := []) (σ' := (97, I, J, R)) rfl (fun _ => ?_) (fun hn => absurd (by decide) hn)
                          refine az_E.sn 1 (pc' := 100) (L' := [.retAddr 0, .retAddr 0, .int v2, .retAddr 0, .int v4, .int v5, .ref 71, .ref 71]) (S' := [.int (-13 : Int32)]) (σ' := (97, I, J, R)) rfl ?_
                          have h := Option.some.inj h
                          subst h
                          exact az_E.ret (v := some (.int (-13 : Int32))) (σ' := (97, I, J, R)) rfl hQ
                        · rw [if_neg hc_1940] at h
                          refine az_E.sn 3 (pc' := 13) (L' := [.ref 71, .int v4, .int v5]) (S' := [.int (I 71 2), .int v4]) (σ' := (97, I, J, R)) rfl ?_
                          refine az_E.br (c := (I 71 2) < v4) (tt := 30) (ff := 16) (L' := [.ref 71, .int v4, .int v5]) (S' := []) (σ' := (97, I, J, R)) rfl (fun hc_1941 => ?_) (fun hc_1941 => ?_)
                          · rw [if_pos hc_1941] at h
                            refine az_E.sn 1 (pc' := 31) (L' := [.ref 71, .int v4, .int v5]) (S' := [.int (0 : Int32)]) (σ' := (97, I, J, R)) rfl ?_
                            refine az_E.ret (v := some (.int (0 : Int32))) (σ' := (97, I, J, R)) rfl ?_
                            show az_E az_F ex 2 128 95 [.retAddr 0, .retAddr 0, .int v2, .retAddr 0, .int v4, .int v5, .ref 71, .ref 71] [.int (0 : Int32)] (97, I, J, R) _
                            refine az_E.br (c := (0 : Int32) = 0) (tt := 98) (ff := 101) (L' := [.retAddr 0, .retAddr 0, .int v2, .retAddr 0, .int v4, .int v5, .ref 71, .ref 71]) (S' := []) (σ' := (97, I, J, R)) rfl (fun _ => ?_) (fun hn => absurd (by decide) hn)
                            refine az_E.sn 1 (pc' := 100) (L' := [.retAddr 0, .retAddr 0, .int v2, .retAddr 0, .int v4, .int v5, .ref 71, .ref 71]) (S' := [.int (-13 : Int32)]) (σ' := (97, I, J, R)) rfl ?_
                            have h := Option.some.inj h
                            subst h
                            exact az_E.ret (v := some (.int (-13 : Int32))) (σ' := (97, I, J, R)) rfl hQ
                          · rw [if_neg hc_1941] at h
                            refine az_E.sn 5 (pc' := 23) (L' := [.ref 71, .int v4, .int v5]) (S' := [.int ((I 71 2) - v4), .int v5]) (σ' := (97, I, J, R)) rfl ?_
                            refine az_E.br (c := ((I 71 2) - v4) < v5) (tt := 30) (ff := 26) (L' := [.ref 71, .int v4, .int v5]) (S' := []) (σ' := (97, I, J, R)) rfl (fun hc_1942 => ?_) (fun hc_1942 => ?_)
                            · rw [if_pos hc_1942] at h
                              refine az_E.sn 1 (pc' := 31) (L' := [.ref 71, .int v4, .int v5]) (S' := [.int (0 : Int32)]) (σ' := (97, I, J, R)) rfl ?_
                              refine az_E.ret (v := some (.int (0 : Int32))) (σ' := (97, I, J, R)) rfl ?_
                              show az_E az_F ex 2 128 95 [.retAddr 0, .retAddr 0, .int v2, .retAddr 0, .int v4, .int v5, .ref 71, .ref 71] [.int (0 : Int32)] (97, I, J, R) _
                              refine az_E.br (c := (0 : Int32) = 0) (tt := 98) (ff := 101) (L' := [.retAddr 0, .retAddr 0, .int v2, .retAddr 0, .int v4, .int v5, .ref 71, .ref 71]) (S' := []) (σ' := (97, I, J, R)) rfl (fun _ => ?_) (fun hn => absurd (by decide) hn)
                              refine az_E.sn 1 (pc' := 100) (L' := [.retAddr 0, .retAddr 0, .int v2, .retAddr 0, .int v4, .int v5, .ref 71, .ref 71]) (S' := [.int (-13 : Int32)]) (σ' := (97, I, J, R)) rfl ?_
                              have h := Option.some.inj h
                              subst h
                              exact az_E.ret (v := some (.int (-13 : Int32))) (σ' := (97, I, J, R)) rfl hQ
                            · rw [if_neg hc_1942] at h
                              refine az_E.sn 2 (pc' := 31) (L' := [.ref 71, .int v4, .int v5]) (S' := [.int (1 : Int32)]) (σ' := (97, I, J, R)) rfl ?_
                              refine az_E.ret (v := some (.int (1 : Int32))) (σ' := (97, I, J, R)) rfl ?_
                              show az_E az_F ex 2 128 95 [.retAddr 0, .retAddr 0, .int v2, .retAddr 0, .int v4, .int v5, .ref 71, .ref 71] [.int (1 : Int32)] (97, I, J, R) _
                              refine az_E.br (c := (1 : Int32) = 0) (tt := 98) (ff := 101) (L' := [.retAddr 0, .retAddr 0, .int v2, .retAddr 0, .int v4, .int v5, .ref 71, .ref 71]) (S' := []) (σ' := (97, I, J, R)) rfl (fun hn => absurd hn (by decide)) (fun _ => ?_)
                              refine az_E.sn 7 (pc' := 116) (L' := [.retAddr 0, .retAddr 0, .int v2, .retAddr 0, .int v4, .int v5, .ref 71, .ref 71]) (S' := [.int v5, .int v4, .ref (71 + 1), .int v2, .ref (71 + 1)]) (σ' := (97, I, J, R)) rfl ?_
                              by_cases hc_1943 : v2 < 0 ∨ v4 < 0 ∨ v5 < 0 ∨ 60 < v2.toNatClampNeg + v5.toNatClampNeg ∨ 60 < v4.toNatClampNeg + v5.toNatClampNeg
                              · rw [if_pos hc_1943] at h; cases h
                              · rw [if_neg hc_1943] at h
                                refine az_E.o (o := az_cp az_F (97, I, J, R) (71 + 1) v2 (71 + 1) v4 v5) (pc' := 119) (L' := [.retAddr 0, .retAddr 0, .int v2, .retAddr 0, .int v4, .int v5, .ref 71, .ref 71]) (S' := []) (x := (97, I, (az_ur J (71 + 1) (va_cpy (J (71 + 1)) (J (71 + 1)) v2.toNatClampNeg v4.toNatClampNeg v5.toNatClampNeg)), R)) rfl (if_neg hc_1943) ?_
                                refine az_E.sn 1 (pc' := 121) (L' := [.retAddr 0, .retAddr 0, .int v2, .retAddr 0, .int v4, .int v5, .ref 71, .ref 71]) (S' := [.int v5]) (σ' := (97, I, (az_ur J (71 + 1) (va_cpy (J (71 + 1)) (J (71 + 1)) v2.toNatClampNeg v4.toNatClampNeg v5.toNatClampNeg)), R)) rfl ?_
                                have h := Option.some.inj h
                                subst h
                                exact az_E.ret (v := some (.int v5)) (σ' := (97, I, (az_ur J (71 + 1) (va_cpy (J (71 + 1)) (J (71 + 1)) v2.toNatClampNeg v4.toNatClampNeg v5.toNatClampNeg)), R)) rfl hQ
            · rw [if_neg hc_1934] at h
              refine az_E.sn 1 (pc' := 20) (L' := [.ref 71, .int (I 71 1)]) (S' := [.int (0 : Int32)]) (σ' := (97, I, J, R)) rfl ?_
              refine az_E.ret (v := some (.int (0 : Int32))) (σ' := (97, I, J, R)) rfl ?_
              show az_E az_F ex 2 128 69 [.retAddr 0, .retAddr 0, .int v2, .retAddr 0, .int v4, .int v5, .ref 71, .ref 71] [.int (0 : Int32)] (97, I, J, R) _
              refine az_E.br (c := (0 : Int32) = 0) (tt := 72) (ff := 75) (L' := [.retAddr 0, .retAddr 0, .int v2, .retAddr 0, .int v4, .int v5, .ref 71, .ref 71]) (S' := []) (σ' := (97, I, J, R)) rfl (fun _ => ?_) (fun hn => absurd (by decide) hn)
              refine az_E.sn 1 (pc' := 74) (L' := [.retAddr 0, .retAddr 0, .int v2, .retAddr 0, .int v4, .int v5, .ref 71, .ref 71]) (S' := [.int (-12 : Int32)]) (σ' := (97, I, J, R)) rfl ?_
              have h := Option.some.inj h
              subst h
              exact az_E.ret (v := some (.int (-12 : Int32))) (σ' := (97, I, J, R)) rfl hQ
    · rw [if_neg hc_1930] at h
      refine az_E.sn 1 (pc' := 21) (L' := [.ref 71]) (S' := [.int (0 : Int32)]) (σ' := (97, I, J, R)) rfl ?_
      refine az_E.ret (v := some (.int (0 : Int32))) (σ' := (97, I, J, R)) rfl ?_
      show az_E az_F ex 2 128 45 [.retAddr 0, .retAddr 0, .int v2, .retAddr 0, .int v4, .int v5, .ref 71, .ref 71] [.int (0 : Int32)] (97, I, J, R) _
      refine az_E.br (c := (0 : Int32) = 0) (tt := 51) (ff := 48) (L' := [.retAddr 0, .retAddr 0, .int v2, .retAddr 0, .int v4, .int v5, .ref 71, .ref 71]) (S' := []) (σ' := (97, I, J, R)) rfl (fun _ => ?_) (fun hn => absurd (by decide) hn)
      refine az_E.sn 1 (pc' := 53) (L' := [.retAddr 0, .retAddr 0, .int v2, .retAddr 0, .int v4, .int v5, .ref 71, .ref 71]) (S' := [.ref 71]) (σ' := (97, I, J, R)) rfl ?_
      refine az_E.call (d := 1) (k' := 55) (vs := [.ref 71]) (pc' := 56) (S' := []) rfl ?_ (fun _ _ hq => hq)
      show az_E az_F ex 1 55 0 [.ref 71] [] (97, I, J, R) _
      refine az_E.sn 3 (pc' := 5) (L' := [.ref 71]) (S' := [.int (-1 : Int32), .int (I 71 1)]) (σ' := (97, I, J, R)) rfl ?_
      refine az_E.br (c := (I 71 1) = (-1 : Int32)) (tt := 12) (ff := 8) (L' := [.ref 71]) (S' := []) (σ' := (97, I, J, R)) rfl (fun hc_1944 => ?_) (fun hc_1944 => ?_)
      · rw [if_pos hc_1944] at h
        refine az_E.sn 1 (pc' := 13) (L' := [.ref 71]) (S' := [.int (0 : Int32)]) (σ' := (97, I, J, R)) rfl ?_
        refine az_E.ret (v := some (.int (0 : Int32))) (σ' := (97, I, J, R)) rfl ?_
        show az_E az_F ex 2 128 56 [.retAddr 0, .retAddr 0, .int v2, .retAddr 0, .int v4, .int v5, .ref 71, .ref 71] [.int (0 : Int32)] (97, I, J, R) _
        refine az_E.br (c := (0 : Int32) = 0) (tt := 72) (ff := 59) (L' := [.retAddr 0, .retAddr 0, .int v2, .retAddr 0, .int v4, .int v5, .ref 71, .ref 71]) (S' := []) (σ' := (97, I, J, R)) rfl (fun _ => ?_) (fun hn => absurd (by decide) hn)
        refine az_E.sn 1 (pc' := 74) (L' := [.retAddr 0, .retAddr 0, .int v2, .retAddr 0, .int v4, .int v5, .ref 71, .ref 71]) (S' := [.int (-12 : Int32)]) (σ' := (97, I, J, R)) rfl ?_
        have h := Option.some.inj h
        subst h
        exact az_E.ret (v := some (.int (-12 : Int32))) (σ' := (97, I, J, R)) rfl hQ
      · rw [if_neg hc_1944] at h
        refine az_E.sn 2 (pc' := 13) (L' := [.ref 71]) (S' := [.int (1 : Int32)]) (σ' := (97, I, J, R)) rfl ?_
        refine az_E.ret (v := some (.int (1 : Int32))) (σ' := (97, I, J, R)) rfl ?_
        show az_E az_F ex 2 128 56 [.retAddr 0, .retAddr 0, .int v2, .retAddr 0, .int v4, .int v5, .ref 71, .ref 71] [.int (1 : Int32)] (97, I, J, R) _
        refine az_E.br (c := (1 : Int32) = 0) (tt := 72) (ff := 59) (L' := [.retAddr 0, .retAddr 0, .int v2, .retAddr 0, .int v4, .int v5, .ref 71, .ref 71]) (S' := []) (σ' := (97, I, J, R)) rfl (fun hn => absurd hn (by decide)) (fun _ => ?_)
        refine az_E.sn 3 (pc' := 66) (L' := [.retAddr 0, .retAddr 0, .int v2, .retAddr 0, .int v4, .int v5, .ref 71, .ref 71]) (S' := [.int (I 71 1), .ref 71]) (σ' := (97, I, J, R)) rfl ?_
        refine az_E.call (d := 1) (k' := 56) (vs := [.ref 71, .int (I 71 1)]) (pc' := 69) (S' := []) rfl ?_ (fun _ _ hq => hq)
        show az_E az_F ex 1 56 0 [.ref 71, .int (I 71 1)] [] (97, I, J, R) _
        refine az_E.sn 1 (pc' := 1) (L' := [.ref 71, .int (I 71 1)]) (S' := [.ref 71]) (σ' := (97, I, J, R)) rfl ?_
        refine az_E.call (d := 0) (k' := 55) (vs := [.ref 71]) (pc' := 4) (S' := []) rfl ?_ (fun _ _ hq => hq)
        show az_E az_F ex 0 55 0 [.ref 71] [] (97, I, J, R) _
        refine az_E.sn 3 (pc' := 5) (L' := [.ref 71]) (S' := [.int (-1 : Int32), .int (I 71 1)]) (σ' := (97, I, J, R)) rfl ?_
        refine az_E.br (c := (I 71 1) = (-1 : Int32)) (tt := 12) (ff := 8) (L' := [.ref 71]) (S' := []) (σ' := (97, I, J, R)) rfl (fun hc_1945 => ?_) (fun hc_1945 => ?_)
        · rw [if_pos hc_1945] at h
          refine az_E.sn 1 (pc' := 13) (L' := [.ref 71]) (S' := [.int (0 : Int32)]) (σ' := (97, I, J, R)) rfl ?_
          refine az_E.ret (v := some (.int (0 : Int32))) (σ' := (97, I, J, R)) rfl ?_
          show az_E az_F ex 1 56 4 [.ref 71, .int (I 71 1)] [.int (0 : Int32)] (97, I, J, R) _
          refine az_E.br (c := (0 : Int32) = 0) (tt := 19) (ff := 7) (L' := [.ref 71, .int (I 71 1)]) (S' := []) (σ' := (97, I, J, R)) rfl (fun _ => ?_) (fun hn => absurd (by decide) hn)
          refine az_E.sn 1 (pc' := 20) (L' := [.ref 71, .int (I 71 1)]) (S' := [.int (0 : Int32)]) (σ' := (97, I, J, R)) rfl ?_
          refine az_E.ret (v := some (.int (0 : Int32))) (σ' := (97, I, J, R)) rfl ?_
          show az_E az_F ex 2 128 69 [.retAddr 0, .retAddr 0, .int v2, .retAddr 0, .int v4, .int v5, .ref 71, .ref 71] [.int (0 : Int32)] (97, I, J, R) _
          refine az_E.br (c := (0 : Int32) = 0) (tt := 72) (ff := 75) (L' := [.retAddr 0, .retAddr 0, .int v2, .retAddr 0, .int v4, .int v5, .ref 71, .ref 71]) (S' := []) (σ' := (97, I, J, R)) rfl (fun _ => ?_) (fun hn => absurd (by decide) hn)
          refine az_E.sn 1 (pc' := 74) (L' := [.retAddr 0, .retAddr 0, .int v2, .retAddr 0, .int v4, .int v5, .ref 71, .ref 71]) (S' := [.int (-12 : Int32)]) (σ' := (97, I, J, R)) rfl ?_
          have h := Option.some.inj h
          subst h
          exact az_E.ret (v := some (.int (-12 : Int32))) (σ' := (97, I, J, R)) rfl hQ
        · rw [if_neg hc_1945] at h
          refine az_E.sn 2 (pc' := 13) (L' := [.ref 71]) (S' := [.int (1 : Int32)]) (σ' := (97, I, J, R)) rfl ?_
          refine az_E.ret (v := some (.int (1 : Int32))) (σ' := (97, I, J, R)) rfl ?_
          show az_E az_F ex 1 56 4 [.ref 71, .int (I 71 1)] [.int (1 : Int32)] (97, I, J, R) _
          refine az_E.br (c := (1 : Int32) = 0) (tt := 19) (ff := 7) (L' := [.ref 71, .int (I 71 1)]) (S' := []) (σ' := (97, I, J, R)) rfl (fun hn => absurd hn (by decide)) (fun _ => ?_)
          refine az_E.sn 3 (pc' := 12) (L' := [.ref 71, .int (I 71 1)]) (S' := [.int (I 71 1), .int (I 71 1)]) (σ' := (97, I, J, R)) rfl ?_
          refine az_E.br (c := (I 71 1) = (I 71 1)) (tt := 15) (ff := 19) (L' := [.ref 71, .int (I 71 1)]) (S' := []) (σ' := (97, I, J, R)) rfl (fun hc_1946 => ?_) (fun hc_1946 => ?_)
          · rw [if_pos hc_1946] at h
            refine az_E.sn 2 (pc' := 20) (L' := [.ref 71, .int (I 71 1)]) (S' := [.int (1 : Int32)]) (σ' := (97, I, J, R)) rfl ?_
            refine az_E.ret (v := some (.int (1 : Int32))) (σ' := (97, I, J, R)) rfl ?_
            show az_E az_F ex 2 128 69 [.retAddr 0, .retAddr 0, .int v2, .retAddr 0, .int v4, .int v5, .ref 71, .ref 71] [.int (1 : Int32)] (97, I, J, R) _
            refine az_E.br (c := (1 : Int32) = 0) (tt := 72) (ff := 75) (L' := [.retAddr 0, .retAddr 0, .int v2, .retAddr 0, .int v4, .int v5, .ref 71, .ref 71]) (S' := []) (σ' := (97, I, J, R)) rfl (fun hn => absurd hn (by decide)) (fun _ => ?_)
            refine az_E.sn 3 (pc' := 80) (L' := [.retAddr 0, .retAddr 0, .int v2, .retAddr 0, .int v4, .int v5, .ref 71, .ref 71]) (S' := [.int v5, .int v2, .ref 71]) (σ' := (97, I, J, R)) rfl ?_
            refine az_E.call (d := 1) (k' := 60) (vs := [.ref 71, .int v2, .int v5]) (pc' := 83) (S' := []) rfl ?_ (fun _ _ hq => hq)
            show az_E az_F ex 1 60 0 [.ref 71, .int v2, .int v5] [] (97, I, J, R) _
            refine az_E.sn 1 (pc' := 1) (L' := [.ref 71, .int v2, .int v5]) (S' := [.int v2]) (σ' := (97, I, J, R)) rfl ?_
            refine az_E.br (c := v2 < 0) (tt := 30) (ff := 4) (L' := [.ref 71, .int v2, .int v5]) (S' := []) (σ' := (97, I, J, R)) rfl (fun hc_1947 => ?_) (fun hc_1947 => ?_)
            · rw [if_pos hc_1947] at h
              refine az_E.sn 1 (pc' := 31) (L' := [.ref 71, .int v2, .int v5]) (S' := [.int (0 : Int32)]) (σ' := (97, I, J, R)) rfl ?_
              refine az_E.ret (v := some (.int (0 : Int32))) (σ' := (97, I, J, R)) rfl ?_
              show az_E az_F ex 2 128 83 [.retAddr 0, .retAddr 0, .int v2, .retAddr 0, .int v4, .int v5, .ref 71, .ref 71] [.int (0 : Int32)] (97, I, J, R) _
              refine az_E.br (c := (0 : Int32) = 0) (tt := 98) (ff := 86) (L' := [.retAddr 0, .retAddr 0, .int v2, .retAddr 0, .int v4, .int v5, .ref 71, .ref 71]) (S' := []) (σ' := (97, I, J, R)) rfl (fun _ => ?_) (fun hn => absurd (by decide) hn)
              refine az_E.sn 1 (pc' := 100) (L' := [.retAddr 0, .retAddr 0, .int v2, .retAddr 0, .int v4, .int v5, .ref 71, .ref 71]) (S' := [.int (-13 : Int32)]) (σ' := (97, I, J, R)) rfl ?_
              have h := Option.some.inj h
              subst h
              exact az_E.ret (v := some (.int (-13 : Int32))) (σ' := (97, I, J, R)) rfl hQ
            · rw [if_neg hc_1947] at h
              refine az_E.sn 1 (pc' := 5) (L' := [.ref 71, .int v2, .int v5]) (S' := [.int v5]) (σ' := (97, I, J, R)) rfl ?_
              refine az_E.br (c := v5 < 0) (tt := 30) (ff := 8) (L' := [.ref 71, .int v2, .int v5]) (S' := []) (σ' := (97, I, J, R)) rfl (fun hc_1948 => ?_) (fun hc_1948 => ?_)
              · rw [if_pos hc_1948] at h
                refine az_E.sn 1 (pc' := 31) (L' := [.ref 71, .int v2, .int v5]) (S' := [.int (0 : Int32)]) (σ' := (97, I, J, R)) rfl ?_
                refine az_E.ret (v := some (.int (0 : Int32))) (σ' := (97, I, J, R)) rfl ?_
                show az_E az_F ex 2 128 83 [.retAddr 0, .retAddr 0, .int v2, .retAddr 0, .int v4, .int v5, .ref 71, .ref 71] [.int (0 : Int32)] (97, I, J, R) _
                refine az_E.br (c := (0 : Int32) = 0) (tt := 98) (ff := 86) (L' := [.retAddr 0, .retAddr 0, .int v2, .retAddr 0, .int v4, .int v5, .ref 71, .ref 71]) (S' := []) (σ' := (97, I, J, R)) rfl (fun _ => ?_) (fun hn => absurd (by decide) hn)
                refine az_E.sn 1 (pc' := 100) (L' := [.retAddr 0, .retAddr 0, .int v2, .retAddr 0, .int v4, .int v5, .ref 71, .ref 71]) (S' := [.int (-13 : Int32)]) (σ' := (97, I, J, R)) rfl ?_
                have h := Option.some.inj h
                subst h
                exact az_E.ret (v := some (.int (-13 : Int32))) (σ' := (97, I, J, R)) rfl hQ
              · rw [if_neg hc_1948] at h
                refine az_E.sn 3 (pc' := 13) (L' := [.ref 71, .int v2, .int v5]) (S' := [.int (I 71 2), .int v2]) (σ' := (97, I, J, R)) rfl ?_
                refine az_E.br (c := (I 71 2) < v2) (tt := 30) (ff := 16) (L' := [.ref 71, .int v2, .int v5]) (S' := []) (σ' := (97, I, J, R)) rfl (fun hc_1949 => ?_) (fun hc_1949 => ?_)
                · rw [if_pos hc_1949] at h
                  refine az_E.sn 1 (pc' := 31) (L' := [.ref 71, .int v2, .int v5]) (S' := [.int (0 : Int32)]) (σ' := (97, I, J, R)) rfl ?_
                  refine az_E.ret (v := some (.int (0 : Int32))) (σ' := (97, I, J, R)) rfl ?_
                  show az_E az_F ex 2 128 83 [.retAddr 0, .retAddr 0, .int v2, .retAddr 0, .int v4, .int v5, .ref 71, .ref 71] [.int (0 : Int32)] (97, I, J, R) _
                  refine az_E.br (c := (0 : Int32) = 0) (tt := 98) (ff := 86) (L' := [.retAddr 0, .retAddr 0, .int v2, .retAddr 0, .int v4, .int v5, .ref 71, .ref 71]) (S' := []) (σ' := (97, I, J, R)) rfl (fun _ => ?_) (fun hn => absurd (by decide) hn)
                  refine az_E.sn 1 (pc' := 100) (L' := [.retAddr 0, .retAddr 0, .int v2, .retAddr 0, .int v4, .int v5, .ref 71, .ref 71]) (S' := [.int (-13 : Int32)]) (σ' := (97, I, J, R)) rfl ?_
                  have h := Option.some.inj h
                  subst h
                  exact az_E.ret (v := some (.int (-13 : Int32))) (σ' := (97, I, J, R)) rfl hQ
                · rw [if_neg hc_1949] at h
                  refine az_E.sn 5 (pc' := 23) (L' := [.ref 71, .int v2, .int v5]) (S' := [.int ((I 71 2) - v2), .int v5]) (σ' := (97, I, J, R)) rfl ?_
                  refine az_E.br (c := ((I 71 2) - v2) < v5) (tt := 30) (ff := 26) (L' := [.ref 71, .int v2, .int v5]) (S' := []) (σ' := (97, I, J, R)) rfl (fun hc_1950 => ?_) (fun hc_1950 => ?_)
                  · rw [if_pos hc_1950] at h
                    refine az_E.sn 1 (pc' := 31) (L' := [.ref 71, .int v2, .int v5]) (S' := [.int (0 : Int32)]) (σ' := (97, I, J, R)) rfl ?_
                    refine az_E.ret (v := some (.int (0 : Int32))) (σ' := (97, I, J, R)) rfl ?_
                    show az_E az_F ex 2 128 83 [.retAddr 0, .retAddr 0, .int v2, .retAddr 0, .int v4, .int v5, .ref 71, .ref 71] [.int (0 : Int32)] (97, I, J, R) _
                    refine az_E.br (c := (0 : Int32) = 0) (tt := 98) (ff := 86) (L' := [.retAddr 0, .retAddr 0, .int v2, .retAddr 0, .int v4, .int v5, .ref 71, .ref 71]) (S' := []) (σ' := (97, I, J, R)) rfl (fun _ => ?_) (fun hn => absurd (by decide) hn)
                    refine az_E.sn 1 (pc' := 100) (L' := [.retAddr 0, .retAddr 0, .int v2, .retAddr 0, .int v4, .int v5, .ref 71, .ref 71]) (S' := [.int (-13 : Int32)]) (σ' := (97, I, J, R)) rfl ?_
                    have h := Option.some.inj h
                    subst h
                    exact az_E.ret (v := some (.int (-13 : Int32))) (σ' := (97, I, J, R)) rfl hQ
                  · rw [if_neg hc_1950] at h
                    refine az_E.sn 2 (pc' := 31) (L' := [.ref 71, .int v2, .int v5]) (S' := [.int (1 : Int32)]) (σ' := (97, I, J, R)) rfl ?_
                    refine az_E.ret (v := some (.int (1 : Int32))) (σ' := (97, I, J, R)) rfl ?_
                    show az_E az_F ex 2 128 83 [.retAddr 0, .retAddr 0, .int v2, .retAddr 0, .int v4, .int v5, .ref 71, .ref 71] [.int (1 : Int32)] (97, I, J, R) _
                    refine az_E.br (c := (1 : Int32) = 0) (tt := 98) (ff := 86) (L' := [.retAddr 0, .retAddr 0, .int v2, .retAddr 0, .int v4, .int v5, .ref 71, .ref 71]) (S' := []) (σ' := (97, I, J, R)) rfl (fun hn => absurd hn (by decide)) (fun _ => ?_)
                    refine az_E.sn 3 (pc' := 92) (L' := [.retAddr 0, .retAddr 0, .int v2, .retAddr 0, .int v4, .int v5, .ref 71, .ref 71]) (S' := [.int v5, .int v4, .ref 71]) (σ' := (97, I, J, R)) rfl ?_
                    refine az_E.call (d := 1) (k' := 60) (vs := [.ref 71, .int v4, .int v5]) (pc' := 95) (S' := []) rfl ?_ (fun _ _ hq => hq)
                    show az_E az_F ex 1 60 0 [.ref 71, .int v4, .int v5] [] (97, I, J, R) _
                    refine az_E.sn 1 (pc' := 1) (L' := [.ref 71, .int v4, .int v5]) (S' := [.int v4]) (σ' := (97, I, J, R)) rfl ?_
                    refine az_E.br (c := v4 < 0) (tt := 30) (ff := 4) (L' := [.ref 71, .int v4, .int v5]) (S' := []) (σ' := (97, I, J, R)) rfl (fun hc_1951 => ?_) (fun hc_1951 => ?_)
                    · rw [if_pos hc_1951] at h
                      refine az_E.sn 1 (pc' := 31) (L' := [.ref 71, .int v4, .int v5]) (S' := [.int (0 : Int32)]) (σ' := (97, I, J, R)) rfl ?_
                      refine az_E.ret (v := some (.int (0 : Int32))) (σ' := (97, I, J, R)) rfl ?_
                      show az_E az_F ex 2 128 95 [.retAddr 0, .retAddr 0, .int v2, .retAddr 0, .int v4, .int v5, .ref 71, .ref 71] [.int (0 : Int32)] (97, I, J, R) _
                      refine az_E.br (c := (0 : Int32) = 0) (tt := 98) (ff := 101) (L' := [.retAddr 0, .retAddr 0, .int v2, .retAddr 0, .int v4, .int v5, .ref 71, .ref 71]) (S' := []) (σ' := (97, I, J, R)) rfl (fun _ => ?_) (fun hn => absurd (by decide) hn)
                      refine az_E.sn 1 (pc' := 100) (L' := [.retAddr 0, .retAddr 0, .int v2, .retAddr 0, .int v4, .int v5, .ref 71, .ref 71]) (S' := [.int (-13 : Int32)]) (σ' := (97, I, J, R)) rfl ?_
                      have h := Option.some.inj h
                      subst h
                      exact az_E.ret (v := some (.int (-13 : Int32))) (σ' := (97, I, J, R)) rfl hQ
                    · rw [if_neg hc_1951] at h
                      refine az_E.sn 1 (pc' := 5) (L' := [.ref 71, .int v4, .int v5]) (S' := [.int v5]) (σ' := (97, I, J, R)) rfl ?_
                      refine az_E.br (c := v5 < 0) (tt := 30) (ff := 8) (L' := [.ref 71, .int v4, .int v5]) (S' := []) (σ' := (97, I, J, R)) rfl (fun hc_1952 => ?_) (fun hc_1952 => ?_)
                      · rw [if_pos hc_1952] at h
                        refine az_E.sn 1 (pc' := 31) (L' := [.ref 71, .int v4, .int v5]) (S' := [.int (0 : Int32)]) (σ' := (97, I, J, R)) rfl ?_
                        refine az_E.ret (v := some (.int (0 : Int32))) (σ' := (97, I, J, R)) rfl ?_
                        show az_E az_F ex 2 128 95 [.retAddr 0, .retAddr 0, .int v2, .retAddr 0, .int v4, .int v5, .ref 71, .ref 71] [.int (0 : Int32)] (97, I, J, R) _
                        refine az_E.br (c := (0 : Int32) = 0) (tt := 98) (ff := 101) (L' := [.retAddr 0, .retAddr 0, .int v2, .retAddr 0, .int v4, .int v5, .ref 71, .ref 71]) (S' := []) (σ' := (97, I, J, R)) rfl (fun _ => ?_) (fun hn => absurd (by decide) hn)
                        refine az_E.sn 1 (pc' := 100) (L' := [.retAddr 0, .retAddr 0, .int v2, .retAddr 0, .int v4, .int v5, .ref 71, .ref 71]) (S' := [.int (-13 : Int32)]) (σ' := (97, I, J, R)) rfl ?_
                        have h := Option.some.inj h
                        subst h
                        exact az_E.ret (v := some (.int (-13 : Int32))) (σ' := (97, I, J, R)) rfl hQ
                      · rw [if_neg hc_1952] at h
                        refine az_E.sn 3 (pc' := 13) (L' := [.ref 71, .int v4, .int v5]) (S' := [.int (I 71 2), .int v4]) (σ' := (97, I, J, R)) rfl ?_
                        refine az_E.br (c := (I 71 2) < v4) (tt := 30) (ff := 16) (L' := [.ref 71, .int v4, .int v5]) (S' := []) (σ' := (97, I, J, R)) rfl (fun hc_1953 => ?_) (fun hc_1953 => ?_)
                        · rw [if_pos hc_1953] at h
                          refine az_E.sn 1 (pc' := 31) (L' := [.ref 71, .int v4, .int v5]) (S' := [.int (0 : Int32)]) (σ' := (97, I, J, R)) rfl ?_
                          refine az_E.ret (v := some (.int (0 : Int32))) (σ' := (97, I, J, R)) rfl ?_
                          show az_E az_F ex 2 128 95 [.retAddr 0, .retAddr 0, .int v2, .retAddr 0, .int v4, .int v5, .ref 71, .ref 71] [.int (0 : Int32)] (97, I, J, R) _
                          refine az_E.br (c := (0 : Int32) = 0) (tt := 98) (ff := 101) (L' := [.retAddr 0, .retAddr 0, .int v2, .retAddr 0, .int v4, .int v5, .ref 71, .ref 71]) (S' := []) (σ' := (97, I, J, R)) rfl (fun _ => ?_) (fun hn => absurd (by decide) hn)
                          refine az_E.sn 1 (pc' := 100) (L' := [.retAddr 0, .retAddr 0, .int v2, .retAddr 0, .int v4, .int v5, .ref 71, .ref 71]) (S' := [.int (-13 : Int32)]) (σ' := (97, I, J, R)) rfl ?_
                          have h := Option.some.inj h
                          subst h
                          exact az_E.ret (v := some (.int (-13 : Int32))) (σ' := (97, I, J, R)) rfl hQ
                        · rw [if_neg hc_1953] at h
                          refine az_E.sn 5 (pc' := 23) (L' := [.ref 71, .int v4, .int v5]) (S' := [.int ((I 71 2) - v4), .int v5]) (σ' := (97, I, J, R)) rfl ?_
                          refine az_E.br (c := ((I 71 2) - v4) < v5) (tt := 30) (ff := 26) (L' := [.ref 71, .int v4, .int v5]) (S' := []) (σ' := (97, I, J, R)) rfl (fun hc_1954 => ?_) (fun hc_1954 => ?_)
                          · rw [if_pos hc_1954] at h
                            refine az_E.sn 1 (pc' := 31) (L' := [.ref 71, .int v4, .int v5]) (S' := [.int (0 : Int32)]) (σ' := (97, I, J, R)) rfl ?_
                            refine az_E.ret (v := some (.int (0 : Int32))) (σ' := (97, I, J, R)) rfl ?_
                            show az_E az_F ex 2 128 95 [.retAddr 0, .retAddr 0, .int v2, .retAddr 0, .int v4, .int v5, .ref 71, .ref 71] [.int (0 : Int32)] (97, I, J, R) _
                            refine az_E.br (c := (0 : Int32) = 0) (tt := 98) (ff := 101) (L' := [.retAddr 0, .retAddr 0, .int v2, .retAddr 0, .int v4, .int v5, .ref 71, .ref 71]) (S' := []) (σ' := (97, I, J, R)) rfl (fun _ => ?_) (fun hn => absurd (by decide) hn)
                            refine az_E.sn 1 (pc' := 100) (L' := [.retAddr 0, .retAddr 0, .int v2, .retAddr 0, .int v4, .int v5, .ref 71, .ref 71]) (S' := [.int (-13 : Int32)]) (σ' := (97, I, J, R)) rfl ?_
                            have h := Option.some.inj h
                            subst h
                            exact az_E.ret (v := some (.int (-13 : Int32))) (σ' := (97, I, J, R)) rfl hQ
                          · rw [if_neg hc_1954] at h
                            refine az_E.sn 2 (pc' := 31) (L' := [.ref 71, .int v4, .int v5]) (S' := [.int (1 : Int32)]) (σ' := (97, I, J, R)) rfl ?_
                            refine az_E.ret (v := some (.int (1 : Int32))) (σ' := (97, I, J, R)) rfl ?_
                            show az_E az_F ex 2 128 95 [.retAddr 0, .retAddr 0, .int v2, .retAddr 0, .int v4, .int v5, .ref 71, .ref 71] [.int (1 : Int32)] (97, I, J, R) _
                            refine az_E.br (c := (1 : Int32) = 0) (tt := 98) (ff := 101) (L' := [.retAddr 0, .retAddr 0, .int v2, .retAddr 0, .int v4, .int v5, .ref 71, .ref 71]) (S' := []) (σ' := (97, I, J, R)) rfl (fun hn => absurd hn (by decide)) (fun _ => ?_)
                            refine az_E.sn 7 (pc' := 116) (L' := [.retAddr 0, .retAddr 0, .int v2, .retAddr 0, .int v4, .int v5, .ref 71, .ref 71]) (S' := [.int v5, .int v4, .ref (71 + 1), .int v2, .ref (71 + 1)]) (σ' := (97, I, J, R)) rfl ?_
                            by_cases hc_1955 : v2 < 0 ∨ v4 < 0 ∨ v5 < 0 ∨ 60 < v2.toNatClampNeg + v5.toNatClampNeg ∨ 60 < v4.toNatClampNeg + v5.toNatClampNeg
                            · rw [if_pos hc_1955] at h; cases h
                            · rw [if_neg hc_1955] at h
                              refine az_E.o (o := az_cp az_F (97, I, J, R) (71 + 1) v2 (71 + 1) v4 v5) (pc' := 119) (L' := [.retAddr 0, .retAddr 0, .int v2, .retAddr 0, .int v4, .int v5, .ref 71, .ref 71]) (S' := []) (x := (97, I, (az_ur J (71 + 1) (va_cpy (J (71 + 1)) (J (71 + 1)) v2.toNatClampNeg v4.toNatClampNeg v5.toNatClampNeg)), R)) rfl (if_neg hc_1955) ?_
                              refine az_E.sn 1 (pc' := 121) (L' := [.retAddr 0, .retAddr 0, .int v2, .retAddr 0, .int v4, .int v5, .ref 71, .ref 71]) (S' := [.int v5]) (σ' := (97, I, (az_ur J (71 + 1) (va_cpy (J (71 + 1)) (J (71 + 1)) v2.toNatClampNeg v4.toNatClampNeg v5.toNatClampNeg)), R)) rfl ?_
                              have h := Option.some.inj h
                              subst h
                              exact az_E.ret (v := some (.int v5)) (σ' := (97, I, (az_ur J (71 + 1) (va_cpy (J (71 + 1)) (J (71 + 1)) v2.toNatClampNeg v4.toNatClampNeg v5.toNatClampNeg)), R)) rfl hQ
          · rw [if_neg hc_1946] at h
            refine az_E.sn 1 (pc' := 20) (L' := [.ref 71, .int (I 71 1)]) (S' := [.int (0 : Int32)]) (σ' := (97, I, J, R)) rfl ?_
            refine az_E.ret (v := some (.int (0 : Int32))) (σ' := (97, I, J, R)) rfl ?_
            show az_E az_F ex 2 128 69 [.retAddr 0, .retAddr 0, .int v2, .retAddr 0, .int v4, .int v5, .ref 71, .ref 71] [.int (0 : Int32)] (97, I, J, R) _
            refine az_E.br (c := (0 : Int32) = 0) (tt := 72) (ff := 75) (L' := [.retAddr 0, .retAddr 0, .int v2, .retAddr 0, .int v4, .int v5, .ref 71, .ref 71]) (S' := []) (σ' := (97, I, J, R)) rfl (fun _ => ?_) (fun hn => absurd (by decide) hn)
            refine az_E.sn 1 (pc' := 74) (L' := [.retAddr 0, .retAddr 0, .int v2, .retAddr 0, .int v4, .int v5, .ref 71, .ref 71]) (S' := [.int (-12 : Int32)]) (σ' := (97, I, J, R)) rfl ?_
            have h := Option.some.inj h
            subst h
            exact az_E.ret (v := some (.int (-12 : Int32))) (σ' := (97, I, J, R)) rfl hQ

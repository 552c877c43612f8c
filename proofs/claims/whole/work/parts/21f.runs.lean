set_option maxRecDepth 100000 in
set_option maxHeartbeats 4000000 in
theorem re_X_shift_30_61_63 {ex : az_X} {I : Nat → Nat → Int32} {J : Nat → Nat → Int64} {R : Nat → Nat → Option Nat} {v2 : Int32} {v4 : Int32} {v5 : Int32} {x : Int32 × (Nat → Nat → Int64)} (h : rs_X_shift_30 61 63 I J v2 v4 v5 = some x) {Q : Option Value → az_S → Prop} (hQ : Q (some (.int x.1)) (97, I, x.2, R)) : az_E az_F ex 2 128 30 [.retAddr 0, .retAddr 0, .int v2, .retAddr 0, .int v4, .int v5, .ref 61, .retAddr 0] [.ref 63] (97, I, J, R) Q := by
  unfold rs_X_shift_30 at h
  refine az_E.sn 2 (pc' := 34) (L' := [.retAddr 0, .retAddr 0, .int v2, .retAddr 0, .int v4, .int v5, .ref 61, .ref 63]) (S' := [.ref 61]) (σ' := (97, I, J, R)) rfl ?_
  refine az_E.call (d := 1) (k' := 54) (vs := [.ref 61]) (pc' := 37) (S' := []) rfl ?_ (fun _ _ hq => hq)
  show az_E az_F ex 1 54 0 [.ref 61] [] (97, I, J, R) _
  refine az_E.sn 3 (pc' := 5) (L' := [.ref 61]) (S' := [.int (-1 : Int32), .int (I 61 0)]) (σ' := (97, I, J, R)) rfl ?_
  refine az_E.br (c := (I 61 0) = (-1 : Int32)) (tt := 8) (ff := 20) (L' := [.ref 61]) (S' := []) (σ' := (97, I, J, R)) rfl (fun hc_61 => ?_) (fun hc_61 => ?_)
  · rw [if_pos hc_61] at h
    refine az_E.sn 3 (pc' := 13) (L' := [.ref 61]) (S' := [.int (-1 : Int32), .int (I 61 1)]) (σ' := (97, I, J, R)) rfl ?_
    refine az_E.br (c := (I 61 1) = (-1 : Int32)) (tt := 16) (ff := 20) (L' := [.ref 61]) (S' := []) (σ' := (97, I, J, R)) rfl (fun hc_62 => ?_) (fun hc_62 => ?_)
    · rw [if_pos hc_62] at h
      refine az_E.sn 2 (pc' := 21) (L' := [.ref 61]) (S' := [.int (1 : Int32)]) (σ' := (97, I, J, R)) rfl ?_
      refine az_E.ret (v := some (.int (1 : Int32))) (σ' := (97, I, J, R)) rfl ?_
      show az_E az_F ex 2 128 37 [.retAddr 0, .retAddr 0, .int v2, .retAddr 0, .int v4, .int v5, .ref 61, .ref 63] [.int (1 : Int32)] (97, I, J, R) _
      refine az_E.br (c := (1 : Int32) = 0) (tt := 40) (ff := 48) (L' := [.retAddr 0, .retAddr 0, .int v2, .retAddr 0, .int v4, .int v5, .ref 61, .ref 63]) (S' := []) (σ' := (97, I, J, R)) rfl (fun hn => absurd hn (by decide)) (fun _ => ?_)
      refine az_E.sn 1 (pc' := 50) (L' := [.retAddr 0, .retAddr 0, .int v2, .retAddr 0, .int v4, .int v5, .ref 61, .ref 63]) (S' := [.int (-11 : Int32)]) (σ' := (97, I, J, R)) rfl ?_
      have h := Option.some.inj h
      subst h
      exact az_E.ret (v := some (.int (-11 : Int32))) (σ' := (97, I, J, R)) rfl hQ
    · rw [if_neg hc_62] at h
      refine az_E.sn 1 (pc' := 21) (L' := [.ref 61]) (S' := [.int (0 : Int32)]) (σ' := (97, I, J, R)) rfl ?_
      refine az_E.ret (v := some (.int (0 : Int32))) (σ' := (97, I, J, R)) rfl ?_
      show az_E az_F ex 2 128 37 [.retAddr 0, .retAddr 0, .int v2, .retAddr 0, .int v4, .int v5, .ref 61, .ref 63] [.int (0 : Int32)] (97, I, J, R) _
      refine az_E.br (c := (0 : Int32) = 0) (tt := 40) (ff := 48) (L' := [.retAddr 0, .retAddr 0, .int v2, .retAddr 0, .int v4, .int v5, .ref 61, .ref 63]) (S' := []) (σ' := (97, I, J, R)) rfl (fun _ => ?_) (fun hn => absurd (by decide) hn)
      refine az_E.sn 1 (pc' := 42) (L' := [.retAddr 0, .retAddr 0, .int v2, .retAddr 0, .int v4, .int v5, .ref 61, .ref 63]) (S' := [.ref 63]) (σ' := (97, I, J, R)) rfl ?_
      refine az_E.call (d := 1) (k' := 54) (vs := [.ref 63]) (pc' := 45) (S' := []) rfl ?_ (fun _ _ hq => hq)
      show az_E az_F ex 1 54 0 [.ref 63] [] (97, I, J, R) _
      refine az_E.sn 3 (pc' := 5) (L' := [.ref 63]) (S' := [.int (-1 : Int32), .int (I 63 0)]) (σ' := (97, I, J, R)) rfl ?_
      refine az_E.br (c := (I 63 0) = (-1 : Int32)) (tt := 8) (ff := 20) (L' := [.ref 63]) (S' := []) (σ' := (97, I, J, R)) rfl (fun hc_63 => ?_) (fun hc_63 => ?_)
      · rw [if_pos hc_63] at h
        refine az_E.sn 3 (pc' := 13) (L' := [.ref 63]) (S' := [.int (-1 : Int32), .int (I 63 1)]) (σ' := (97, I, J, R)) rfl ?_
        refine az_E.br (c := (I 63 1) = (-1 : Int32)) (tt := 16) (ff := 20) (L' := [.ref 63]) (S' := []) (σ' := (97, I, J, R)) rfl (fun hc_64 => ?_) (fun hc_64 => ?_)
        · rw [if_pos hc_64] at h
          refine az_E.sn 2 (pc' := 21) (L' := [.ref 63]) (S' := [.int (1 : Int32)]) (σ' := (97, I, J, R)) rfl ?_
          refine az_E.ret (v := some (.int (1 : Int32))) (σ' := (97, I, J, R)) rfl ?_
          show az_E az_F ex 2 128 45 [.retAddr 0, .retAddr 0, .int v2, .retAddr 0, .int v4, .int v5, .ref 61, .ref 63] [.int (1 : Int32)] (97, I, J, R) _
          refine az_E.br (c := (1 : Int32) = 0) (tt := 51) (ff := 48) (L' := [.retAddr 0, .retAddr 0, .int v2, .retAddr 0, .int v4, .int v5, .ref 61, .ref 63]) (S' := []) (σ' := (97, I, J, R)) rfl (fun hn => absurd hn (by decide)) (fun _ => ?_)
          refine az_E.sn 1 (pc' := 50) (L' := [.retAddr 0, .retAddr 0, .int v2, .retAddr 0, .int v4, .int v5, .ref 61, .ref 63]) (S' := [.int (-11 : Int32)]) (σ' := (97, I, J, R)) rfl ?_
          have h := Option.some.inj h
          subst h
          exact az_E.ret (v := some (.int (-11 : Int32))) (σ' := (97, I, J, R)) rfl hQ
        · rw [if_neg hc_64] at h
          refine az_E.sn 1 (pc' := 21) (L' := [.ref 63]) (S' := [.int (0 : Int32)]) (σ' := (97, I, J, R)) rfl ?_
          refine az_E.ret (v := some (.int (0 : Int32))) (σ' := (97, I, J, R)) rfl ?_
          show az_E az_F ex 2 128 45 [.retAddr 0, .retAddr 0, .int v2, .retAddr 0, .int v4, .int v5, .ref 61, .ref 63] [.int (0 : Int32)] (97, I, J, R) _
          refine az_E.br (c := (0 : Int32) = 0) (tt := 51) (ff := 48) (L' := [.retAddr 0, .retAddr 0, .int v2, .retAddr 0, .int v4, .int v5, .ref 61, .ref 63]) (S' := []) (σ' := (97, I, J, R)) rfl (fun _ => ?_) (fun hn => absurd (by decide) hn)
          refine az_E.sn 1 (pc' := 53) (L' := [.retAddr 0, .retAddr 0, .int v2, .retAddr 0, .int v4, .int v5, .ref 61, .ref 63]) (S' := [.ref 61]) (σ' := (97, I, J, R)) rfl ?_
          refine az_E.call (d := 1) (k' := 55) (vs := [.ref 61]) (pc' := 56) (S' := []) rfl ?_ (fun _ _ hq => hq)
          show az_E az_F ex 1 55 0 [.ref 61] [] (97, I, J, R) _
          refine az_E.sn 3 (pc' := 5) (L' := [.ref 61]) (S' := [.int (-1 : Int32), .int (I 61 1)]) (σ' := (97, I, J, R)) rfl ?_
          refine az_E.br (c := (I 61 1) = (-1 : Int32)) (tt := 12) (ff := 8) (L' := [.ref 61]) (S' := []) (σ' := (97, I, J, R)) rfl (fun hc_65 => ?_) (fun hc_65 => ?_)
          · rw [if_pos hc_65] at h
            refine az_E.sn 1 (pc' := 13) (L' := [.ref 61]) (S' := [.int (0 : Int32)]) (σ' := (97, I, J, R)) rfl ?_
            refine az_E.ret (v := some (.int (0 : Int32))) (σ' := (97, I, J, R)) rfl ?_
            show az_E az_F ex 2 128 56 [.retAddr 0, .retAddr 0, .int v2, .retAddr 0, .int v4, .int v5, .ref 61, .ref 63] [.int (0 : Int32)] (97, I, J, R) _
            refine az_E.br (c := (0 : Int32) = 0) (tt := 72) (ff := 59) (L' := [.retAddr 0, .retAddr 0, .int v2, .retAddr 0, .int v4, .int v5, .ref 61, .ref 63]) (S' := []) (σ' := (97, I, J, R)) rfl (fun _ => ?_) (fun hn => absurd (by decide) hn)
            refine az_E.sn 1 (pc' := 74) (L' := [.retAddr 0, .retAddr 0, .int v2, .retAddr 0, .int v4, .int v5, .ref 61, .ref 63]) (S' := [.int (-12 : Int32)]) (σ' := (97, I, J, R)) rfl ?_
            have h := Option.some.inj h
            subst h
            exact az_E.ret (v := some (.int (-12 : Int32))) (σ' := (97, I, J, R)) rfl hQ
          · rw [if_neg hc_65] at h
            refine az_E.sn 2 (pc' := 13) (L' := [.ref 61]) (S' := [.int (1 : Int32)]) (σ' := (97, I, J, R)) rfl ?_
            refine az_E.ret (v := some (.int (1 : Int32))) (σ' := (97, I, J, R)) rfl ?_
            show az_E az_F ex 2 128 56 [.retAddr 0, .retAddr 0, .int v2, .retAddr 0, .int v4, .int v5, .ref 61, .ref 63] [.int (1 : Int32)] (97, I, J, R) _
            refine az_E.br (c := (1 : Int32) = 0) (tt := 72) (ff := 59) (L' := [.retAddr 0, .retAddr 0, .int v2, .retAddr 0, .int v4, .int v5, .ref 61, .ref 63]) (S' := []) (σ' := (97, I, J, R)) rfl (fun hn => absurd hn (by decide)) (fun _ => ?_)
            refine az_E.sn 3 (pc' := 66) (L' := [.retAddr 0, .retAddr 0, .int v2, .retAddr 0, .int v4, .int v5, .ref 61, .ref 63]) (S' := [.int (I 61 1), .ref 63]) (σ' := (97, I, J, R)) rfl ?_
            refine az_E.call (d := 1) (k' := 56) (vs := [.ref 63, .int (I 61 1)]) (pc' := 69) (S' := []) rfl ?_ (fun _ _ hq => hq)
            show az_E az_F ex 1 56 0 [.ref 63, .int (I 61 1)] [] (97, I, J, R) _
            refine az_E.sn 1 (pc' := 1) (L' := [.ref 63, .int (I 61 1)]) (S' := [.ref 63]) (σ' := (97, I, J, R)) rfl ?_
            refine az_E.call (d := 0) (k' := 55) (vs := [.ref 63]) (pc' := 4) (S' := []) rfl ?_ (fun _ _ hq => hq)
            show az_E az_F ex 0 55 0 [.ref 63] [] (97, I, J, R) _
            refine az_E.sn 3 (pc' := 5) (L' := [.ref 63]) (S' := [.int (-1 : Int32), .int (I 63 1)]) (σ' := (97, I, J, R)) rfl ?_
            refine az_E.br (c := (I 63 1) = (-1 : Int32)) (tt := 12) (ff := 8) (L' := [.ref 63]) (S' := []) (σ' := (97, I, J, R)) rfl (fun hc_66 => ?_) (fun hc_66 => ?_)
            · rw [if_pos hc_66] at h
              refine az_E.sn 1 (pc' := 13) (L' := [.ref 63]) (S' := [.int (0 : Int32)]) (σ' := (97, I, J, R)) rfl ?_
              refine az_E.ret (v := some (.int (0 : Int32))) (σ' := (97, I, J, R)) rfl ?_
              show az_E az_F ex 1 56 4 [.ref 63, .int (I 61 1)] [.int (0 : Int32)] (97, I, J, R) _
              refine az_E.br (c := (0 : Int32) = 0) (tt := 19) (ff := 7) (L' := [.ref 63, .int (I 61 1)]) (S' := []) (σ' := (97, I, J, R)) rfl (fun _ => ?_) (fun hn => absurd (by decide) hn)
              refine az_E.sn 1 (pc' := 20) (L' := [.ref 63, .int (I 61 1)]) (S' := [.int (0 : Int32)]) (σ' := (97, I, J, R)) rfl ?_
              refine az_E.ret (v := some (.int (0 : Int32))) (σ' := (97, I, J, R)) rfl ?_
              show az_E az_F ex 2 128 69 [.retAddr 0, .retAddr 0, .int v2, .retAddr 0, .int v4, .int v5, .ref 61, .ref 63] [.int (0 : Int32)] (97, I, J, R) _
              refine az_E.br (c := (0 : Int32) = 0) (tt := 72) (ff := 75) (L' := [.retAddr 0, .retAddr 0, .int v2, .retAddr 0, .int v4, .int v5, .ref 61, .ref 63]) (S' := []) (σ' := (97, I, J, R)) rfl (fun _ => ?_) (fun hn => absurd (by decide) hn)
              refine az_E.sn 1 (pc' := 74) (L' := [.retAddr 0, .retAddr 0, .int v2, .retAddr 0, .int v4, .int v5, .ref 61, .ref 63]) (S' := [.int (-12 : Int32)]) (σ' := (97, I, J, R)) rfl ?_
              have h := Option.some.inj h
              subst h
              exact az_E.ret (v := some (.int (-12 : Int32))) (σ' := (97, I, J, R)) rfl hQ
            · rw [if_neg hc_66] at h
              refine az_E.sn 2 (pc' := 13) (L' := [.ref 63]) (S' := [.int (1 : Int32)]) (σ' := (97, I, J, R)) rfl ?_
              refine az_E.ret (v := some (.int (1 : Int32))) (σ' := (97, I, J, R)) rfl ?_
              show az_E az_F ex 1 56 4 [.ref 63, .int (I 61 1)] [.int (1 : Int32)] (97, I, J, R) _
              refine az_E.br (c := (1 : Int32) = 0) (tt := 19) (ff := 7) (L' := [.ref 63, .int (I 61 1)]) (S' := []) (σ' := (97, I, J, R)) rfl (fun hn => absurd hn (by decide)) (fun _ => ?_)
              refine az_E.sn 3 (pc' := 12) (L' := [.ref 63, .int (I 61 1)]) (S' := [.int (I 61 1), .int (I 63 1)]) (σ' := (97, I, J, R)) rfl ?_
              refine az_E.br (c := (I 63 1) = (I 61 1)) (tt := 15) (ff := 19) (L' := [.ref 63, .int (I 61 1)]) (S' := []) (σ' := (97, I, J, R)) rfl (fun hc_67 => ?_) (fun hc_67 => ?_)
              · rw [if_pos hc_67] at h
                refine az_E.sn 2 (pc' := 20) (L' := [.ref 63, .int (I 61 1)]) (S' := [.int (1 : Int32)]) (σ' := (97, I, J, R)) rfl ?_
                refine az_E.ret (v := some (.int (1 : Int32))) (σ' := (97, I, J, R)) rfl ?_
                show az_E az_F ex 2 128 69 [.retAddr 0, .retAddr 0, .int v2, .retAddr 0, .int v4, .int v5, .ref 61, .ref 63] [.int (1 : Int32)] (97, I, J, R) _
                refine az_E.br (c := (1 : Int32) = 0) (tt := 72) (ff := 75) (L' := [.retAddr 0, .retAddr 0, .int v2, .retAddr 0, .int v4, .int v5, .ref 61, .ref 63]) (S' := []) (σ' := (97, I, J, R)) rfl (fun hn => absurd hn (by decide)) (fun _ => ?_)
                refine az_E.sn 3 (pc' := 80) (L' := [.retAddr 0, .retAddr 0, .int v2, .retAddr 0, .int v4, .int v5, .ref 61, .ref 63]) (S' := [.int v5, .int v2, .ref 61]) (σ' := (97, I, J, R)) rfl ?_
                refine az_E.call (d := 1) (k' := 60) (vs := [.ref 61, .int v2, .int v5]) (pc' := 83) (S' := []) rfl ?_ (fun _ _ hq => hq)
                show az_E az_F ex 1 60 0 [.ref 61, .int v2, .int v5] [] (97, I, J, R) _
                refine az_E.sn 1 (pc' := 1) (L' := [.ref 61, .int v2, .int v5]) (S' := [.int v2]) (σ' := (97, I, J, R)) rfl ?_
                refine az_E.br (c := v2 < 0) (tt := 30) (ff := 4) (L' := [.ref 61, .int v2, .int v5]) (S' := []) (σ' := (97, I, J, R)) rfl (fun hc_68 => ?_) (fun hc_68 => ?_)
                · rw [if_pos hc_68] at h
                  refine az_E.sn 1 (pc' := 31) (L' := [.ref 61, .int v2, .int v5]) (S' := [.int (0 : Int32)]) (σ' := (97, I, J, R)) rfl ?_
                  refine az_E.ret (v := some (.int (0 : Int32))) (σ' := (97, I, J, R)) rfl ?_
                  show az_E az_F ex 2 128 83 [.retAddr 0, .retAddr 0, .int v2, .retAddr 0, .int v4, .int v5, .ref 61, .ref 63] [.int (0 : Int32)] (97, I, J, R) _
                  refine az_E.br (c := (0 : Int32) = 0) (tt := 98) (ff := 86) (L' := [.retAddr 0, .retAddr 0, .int v2, .retAddr 0, .int v4, .int v5, .ref 61, .ref 63]) (S' := []) (σ' := (97, I, J, R)) rfl (fun _ => ?_) (fun hn => absurd (by decide) hn)
                  refine az_E.sn 1 (pc' := 100) (L' := [.retAddr 0, .retAddr 0, .int v2, .retAddr 0, .int v4, .int v5, .ref 61, .ref 63]) (S' := [.int (-13 : Int32)]) (σ' := (97, I, J, R)) rfl ?_
                  have h := Option.some.inj h
                  subst h
                  exact az_E.ret (v := some (.int (-13 : Int32))) (σ' := (97, I, J, R)) rfl hQ
                · rw [if_neg hc_68] at h
                  refine az_E.sn 1 (pc' := 5) (L' := [.ref 61, .int v2, .int v5]) (S' := [.int v5]) (σ' := (97, I, J, R)) rfl ?_
                  refine az_E.br (c := v5 < 0) (tt := 30) (ff := 8) (L' := [.ref 61, .int v2, .int v5]) (S' := []) (σ' := (97, I, J, R)) rfl (fun hc_69 => ?_) (fun hc_69 => ?_)
                  · rw [if_pos hc_69] at h
                    refine az_E.sn 1 (pc' := 31) (L' := [.ref 61, .int v2, .int v5]) (S' := [.int (0 : Int32)]) (σ' := (97, I, J, R)) rfl ?_
                    refine az_E.ret (v := some (.int (0 : Int32))) (σ' := (97, I, J, R)) rfl ?_
                    show az_E az_F ex 2 128 83 [.retAddr 0, .retAddr 0, .int v2, .retAddr 0, .int v4, .int v5, .ref 61, .ref 63] [.int (0 : Int32)] (97, I, J, R) _
                    refine az_E.br (c := (0 : Int32) = 0) (tt := 98) (ff := 86) (L' := [.retAddr 0, .retAddr 0, .int v2, .retAddr 0, .int v4, .int v5, .ref 61, .ref 63]) (S' := []) (σ' := (97, I, J, R)) rfl (fun _ => ?_) (fun hn => absurd (by decide) hn)
                    refine az_E.sn 1 (pc' := 100) (L' := [.retAddr 0, .retAddr 0, .int v2, .retAddr 0, .int v4, .int v5, .ref 61, .ref 63]) (S' := [.int (-13 : Int32)]) (σ' := (97, I, J, R)) rfl ?_
                    have h := Option.some.inj h
                    subst h
                    exact az_E.ret (v := some (.int (-13 : Int32))) (σ' := (97, I, J, R)) rfl hQ
                  · rw [if_neg hc_69] at h
                    refine az_E.sn 3 (pc' := 13) (L' := [.ref 61, .int v2, .int v5]) (S' := [.int (I 61 2), .int v2]) (σ' := (97, I, J, R)) rfl ?_
                    refine az_E.br (c := (I 61 2) < v2) (tt := 30) (ff := 16) (L' := [.ref 61, .int v2, .int v5]) (S' := []) (σ' := (97, I, J, R)) rfl (fun hc_70 => ?_) (fun hc_70 => ?_)
                    · rw [if_pos hc_70] at h
                      refine az_E.sn 1 (pc' := 31) (L' := [.ref 61, .int v2, .int v5]) (S' := [.int (0 : Int32)]) (σ' := (97, I, J, R)) rfl ?_
                      refine az_E.ret (v := some (.int (0 : Int32))) (σ' := (97, I, J, R)) rfl ?_
                      show az_E az_F ex 2 128 83 [.retAddr 0, .retAddr 0, .int v2, .retAddr 0, .int v4, .int v5, .ref 61, .ref 63] [.int (0 : Int32)] (97, I, J, R) _
                      refine az_E.br (c := (0 : Int32) = 0) (tt := 98) (ff := 86) (L' := [.retAddr 0, .retAddr 0, .int v2, .retAddr 0, .int v4, .int v5, .ref 61, .ref 63]) (S' := []) (σ' := (97, I, J, R)) rfl (fun _ => ?_) (fun hn => absurd (by decide) hn)
                      refine az_E.sn 1 (pc' := 100) (L' := [.retAddr 0, .retAddr 0, .int v2, .retAddr 0, .int v4, .int v5, .ref 61, .ref 63]) (S' := [.int (-13 : Int32)]) (σ' := (97, I, J, R)) rfl ?_
                      have h := Option.some.inj h
                      subst h
                      exact az_E.ret (v := some (.int (-13 : Int32))) (σ' := (97, I, J, R)) rfl hQ
                    · rw [if_neg hc_70] at h
                      refine az_E.sn 5 (pc' := 23) (L' := [.ref 61, .int v2, .int v5]) (S' := [.int ((I 61 2) - v2), .int v5]) (σ' := (97, I, J, R)) rfl ?_
                      refine az_E.br (c := ((I 61 2) - v2) < v5) (tt := 30) (ff := 26) (L' := [.ref 61, .int v2, .int v5]) (S' := []) (σ' := (97, I, J, R)) rfl (fun hc_71 => ?_) (fun hc_71 => ?_)
                      · rw [if_pos hc_71] at h
                        refine az_E.sn 1 (pc' := 31) (L' := [.ref 61, .int v2, .int v5]) (S' := [.int (0 : Int32)]) (σ' := (97, I, J, R)) rfl ?_
                        refine az_E.ret (v := some (.int (0 : Int32))) (σ' := (97, I, J, R)) rfl ?_
                        show az_E az_F ex 2 128 83 [.retAddr 0, .retAddr 0, .int v2, .retAddr 0, .int v4, .int v5, .ref 61, .ref 63] [.int (0 : Int32)] (97, I, J, R) _
                        refine az_E.br (c := (0 : Int32) = 0) (tt := 98) (ff := 86) (L' := [.retAddr 0, .retAddr 0, .int v2, .retAddr 0, .int v4, .int v5, .ref 61, .ref 63]) (S' := []) (σ' := (97, I, J, R)) rfl (fun _ => ?_) (fun hn => absurd (by decide) hn)
                        refine az_E.sn 1 (pc' := 100) (L' := [.retAddr 0, .retAddr 0, .int v2, .retAddr 0, .int v4, .int v5, .ref 61, .ref 63]) (S' := [.int (-13 : Int32)]) (σ' := (97, I, J, R)) rfl ?_
                        have h := Option.some.inj h
                        subst h
                        exact az_E.ret (v := some (.int (-13 : Int32))) (σ' := (97, I, J, R)) rfl hQ
                      · rw [if_neg hc_71] at h
                        refine az_E.sn 2 (pc' := 31) (L' := [.ref 61, .int v2, .int v5]) (S' := [.int (1 : Int32)]) (σ' := (97, I, J, R)) rfl ?_
                        refine az_E.ret (v := some (.int (1 : Int32))) (σ' := (97, I, J, R)) rfl ?_
                        show az_E az_F ex 2 128 83 [.retAddr 0, .retAddr 0, .int v2, .retAddr 0, .int v4, .int v5, .ref 61, .ref 63] [.int (1 : Int32)] (97, I, J, R) _
                        refine az_E.br (c := (1 : Int32) = 0) (tt := 98) (ff := 86) (L' := [.retAddr 0, .retAddr 0, .int v2, .retAddr 0, .int v4, .int v5, .ref 61, .ref 63]) (S' := []) (σ' := (97, I, J, R)) rfl (fun hn => absurd hn (by decide)) (fun _ => ?_)
                        refine az_E.sn 3 (pc' := 92) (L' := [.retAddr 0, .retAddr 0, .int v2, .retAddr 0, .int v4, .int v5, .ref 61, .ref 63]) (S' := [.int v5, .int v4, .ref 63]) (σ' := (97, I, J, R)) rfl ?_
                        refine az_E.call (d := 1) (k' := 60) (vs := [.ref 63, .int v4, .int v5]) (pc' := 95) (S' := []) rfl ?_ (fun _ _ hq => hq)
                        show az_E az_F ex 1 60 0 [.ref 63, .int v4, .int v5] [] (97, I, J, R) _
                        refine az_E.sn 1 (pc' := 1) (L' := [.ref 63, .int v4, .int v5]) (S' := [.int v4]) (σ' := (97, I, J, R)) rfl ?_
                        refine az_E.br (c := v4 < 0) (tt := 30) (ff := 4) (L' := [.ref 63, .int v4, .int v5]) (S' := []) (σ' := (97, I, J, R)) rfl (fun hc_72 => ?_) (fun hc_72 => ?_)
                        · rw [if_pos hc_72] at h
                          refine az_E.sn 1 (pc' := 31) (L' := [.ref 63, .int v4, .int v5]) (S' := [.int (0 : Int32)]) (σ' := (97, I, J, R)) rfl ?_
                          refine az_E.ret (v := some (.int (0 : Int32))) (σ' := (97, I, J, R)) rfl ?_
                          show az_E az_F ex 2 128 95 [.retAddr 0, .retAddr 0, .int v2, .retAddr 0, .int v4, .int v5, .ref 61, .ref 63] [.int (0 : Int32)] (97, I, J, R) _
                          refine az_E.br (c := (0 : Int32) = 0) (tt := 98) (ff := 101) (L' := [.retAddr 0, .retAddr 0, .int v2, .retAddr 0, .int v4, .int v5, .ref 61, .ref 63]) (S' := []) (σ' := (97, I, J, R)) rfl (fun _ => ?_) (fun hn => absurd (by decide) hn)
                          refine az_E.sn 1 (pc' := 100) (L' := [.retAddr 0, .retAddr 0, .int v2, .retAddr 0, .int v4, .int v5, .ref 61, .ref 63]) (S' := [.int (-13 : Int32)]) (σ' := (97, I, J, R)) rfl ?_
                          have h := Option.some.inj h
                          subst h
                          exact az_E.ret (v := some (.int (-13 : Int32))) (σ' := (97, I, J, R)) rfl hQ
                        · rw [if_neg hc_72] at h
                          refine az_E.sn 1 (pc' := 5) (L' := [.ref 63, .int v4, .int v5]) (S' := [.int v5]) (σ' := (97, I, J, R)) rfl ?_
                          refine az_E.br (c := v5 < 0) (tt := 30) (ff := 8) (L' := [.ref 63, .int v4, .int v5]) (S' := []) (σ' := (97, I, J, R)) rfl (fun hc_73 => ?_) (fun hc_73 => ?_)
                          · rw [if_pos hc_73] at h
                            refine az_E.sn 1 (pc' := 31) (L' := [.ref 63, .int v4, .int v5]) (S' := [.int (0 : Int32)]) (σ' := (97, I, J, R)) rfl ?_
                            refine az_E.ret (v := some (.int (0 : Int32))) (σ' := (97, I, J, R)) rfl ?_
                            show az_E az_F ex 2 128 95 [.retAddr 0, .retAddr 0, .int v2, .retAddr 0, .int v4, .int v5, .ref 61, .ref 63] [.int (0 : Int32)] (97, I, J, R) _
                            refine az_E.br (c := (0 : Int32) = 0) (tt := 98) (ff := 101) (L' := [.retAddr 0, .retAddr 0, .int v2, .retAddr 0, .int v4, .int v5, .ref 61, .ref 63]) (S' := []) (σ' := (97, I, J, R)) rfl (fun _ => ?_) (fun hn => absurd (by decide) hn)
                            refine az_E.sn 1 (pc' := 100) (L' := [.retAddr 0, .retAddr 0, .int v2, .retAddr 0, .int v4, .int v5, .ref 61, .ref 63]) (S' := [.int (-13 : Int32)]) (σ' := (97, I, J, R)) rfl ?_
                            have h := Option.some.inj h
                            subst h
                            exact az_E.ret (v := some (.int (-13 : Int32))) (σ' := (97, I, J, R)) rfl hQ
                          · rw [if_neg hc_73] at h
                            refine az_E.sn 3 (pc' := 13) (L' := [.ref 63, .int v4, .int v5]) (S' := [.int (I 63 2), .int v4]) (σ' := (97, I, J, R)) rfl ?_
                            refine az_E.br (c := (I 63 2) < v4) (tt := 30) (ff := 16) (L' := [.ref 63, .int v4, .int v5]) (S' := []) (σ' := (97, I, J, R)) rfl (fun hc_74 => ?_) (fun hc_74 => ?_)
                            · rw [if_pos hc_74] at h
                              refine az_E.sn 1 (pc' := 31) (L' := [.ref 63, .int v4, .int v5]) (S' := [.int (0 : Int32)]) (σ' := (97, I, J, R)) rfl ?_
                              refine az_E.ret (v := some (.int (0 : Int32))) (σ' := (97, I, J, R)) rfl ?_
                              show az_E az_F ex 2 128 95 [.retAddr 0, .retAddr 0, .int v2, .retAddr 0, .int v4, .int v5, .ref 61, .ref 63] [.int (0 : Int32)] (97, I, J, R) _
                              refine az_E.br (c := (0 : Int32) = 0) (tt := 98) (ff := 101) (L' := [.retAddr 0, .retAddr 0, .int v2, .retAddr 0, .int v4, .int v5, .ref 61, .ref 63]) (S' := []) (σ' := (97, I, J, R)) rfl (fun _ => ?_) (fun hn => absurd (by decide) hn)
                              refine az_E.sn 1 (pc' := 100) (L' := [.retAddr 0, .retAddr 0, .int v2, .retAddr 0, .int v4, .int v5, .ref 61, .ref 63]) (S' := [.int (-13 : Int32)]) (σ' := (97, I, J, R)) rfl ?_
                              have h := Option.some.inj h
                              subst h
                              exact az_E.ret (v := some (.int (-13 : Int32))) (σ' := (97, I, J, R)) rfl hQ
                            · rw [if_neg hc_74] at h
                              refine az_E.sn 5 (pc' := 23) (L' := [.ref 63, .int v4, .int v5]) (S' := [.int ((I 63 2) - v4), .int v5]) (σ' := (97, I, J, R)) rfl ?_
                              refine az_E.br (c := ((I 63 2) - v4) < v5) (tt := 30) (ff := 26) (L' := [.ref 63, .int v4, .int v5]) (S' := []) (σ' := (97, I, J, R)) rfl (fun hc_75 => ?_) (fun hc_75 => ?_)
                              · rw [if_pos hc_75] at h
                                refine az_E.sn 1 (pc' := 31) (L' := [.ref 63, .int v4, .int v5]) (S' := [.int (0 : Int32)]) (σ' := (97, I, J, R)) rfl ?_
                                refine az_E.ret (v := some (.int (0 : Int32))) (σ' := (97, I, J, R)) rfl ?_
                                show az_E az_F ex 2 128 95 [.retAddr 0, .retAddr 0, .int v2, .retAddr 0, .int v4, .int v5, .ref 61, .ref 63] [.int (0 : Int32)] (97, I, J, R) _
                                refine az_E.br (c := (0 : Int32) = 0) (tt := 98) (ff := 101) (L' := [.retAddr 0, .retAddr 0, .int v2, .retAddr 0, .int v4, .int v5, .ref 61, .ref 63]) (S' := []) (σ' := (97, I, J, R)) rfl (fun _ => ?_) (fun hn => absurd (by decide) hn)
                                refine az_E.sn 1 (pc' := 100) (L' := [.retAddr 0, .retAddr 0, .int v2, .retAddr 0, .int v4, .int v5, .ref 61, .ref 63]) (S' := [.int (-13 : Int32)]) (σ' := (97, I, J, R)) rfl ?_
                                have h := Option.some.inj h
                                subst h
                                exact az_E.ret (v := some (.int (-13 : Int32))) (σ' := (97, I, J, R)) rfl hQ
                              · rw [if_neg hc_75] at h
                                refine az_E.sn 2 (pc' := 31) (L' := [.ref 63, .int v4, .int v5]) (S' := [.int (1 : Int32)]) (σ' := (97, I, J, R)) rfl ?_
                                refine az_E.ret (v := some (.int (1 : Int32))) (σ' := (97, I, J, R)) rfl ?_
                                show az_E az_F ex 2 128 95 [.retAddr 0, .retAddr 0, .int v2, .retAddr 0, .int v4, .int v5, .ref 61, .ref 63] [.int (1 : Int32)] (97, I, J, R) _
                                refine az_E.br (c := (1 : Int32) = 0) (tt := 98) (ff := 101) (L' := [.retAddr 0, .retAddr 0, .int v2, .retAddr 0, .int v4, .int v5, .ref 61, .ref 63]) (S' := []) (σ' := (97, I, J, R)) rfl (fun hn => absurd hn (by decide)) (fun _ => ?_)
                                refine az_E.sn 7 (pc' := 116) (L' := [.retAddr 0, .retAddr 0, .int v2, .retAddr 0, .int v4, .int v5, .ref 61, .ref 63]) (S' := [.int v5, .int v4, .ref (63 + 1), .int v2, .ref (61 + 1)]) (σ' := (97, I, J, R)) rfl ?_
                                by_cases hc_76 : v2 < 0 ∨ v4 < 0 ∨ v5 < 0 ∨ 60 < v2.toNatClampNeg + v5.toNatClampNeg ∨ 60 < v4.toNatClampNeg + v5.toNatClampNeg
                                · rw [if_pos hc_76] at h; cases h
                                · rw [if_neg hc_76] at h
                                  refine az_E.o (o := az_cp az_F (97, I, J, R) (61 + 1) v2 (63 + 1) v4 v5) (pc' := 119) (L' := [.retAddr 0, .retAddr 0, .int v2, .retAddr 0, .int v4, .int v5, .ref 61, .ref 63]) (S' := []) (x := (97, I, (az_ur J (63 + 1) (va_cpy (J (61 + 1)) (J (63 + 1)) v2.toNatClampNeg v4.toNatClampNeg v5.toNatClampNeg)), R)) rfl (if_neg hc_76) ?_
                                  refine az_E.sn 1 (pc' := 121) (L' := [.retAddr 0, .retAddr 0, .int v2, .retAddr 0, .int v4, .int v5, .ref 61, .ref 63]) (S' := [.int v5]) (σ' := (97, I, (az_ur J (63 + 1) (va_cpy (J (61 + 1)) (J (63 + 1)) v2.toNatClampNeg v4.toNatClampNeg v5.toNatClampNeg)), R)) rfl ?_
                                  have h := Option.some.inj h
                                  subst h
                                  exact az_E.ret (v := some (.int v5)) (σ' := (97, I, (az_ur J (63 + 1) (va_cpy (J (61 + 1)) (J (63 + 1)) v2.toNatClampNeg v4.toNatClampNeg v5.toNatClampNeg)), R)) rfl hQ
              · rw [if_neg hc_67] at h
                refine az_E.sn 1 (pc' := 20) (L' := [.ref 63, .int (I 61 1)]) (S' := [.int (0 : Int32)]) (σ' := (97, I, J, R)) rfl ?_
                refine az_E.ret (v := some (.int (0 : Int32))) (σ' := (97, I, J, R)) rfl ?_
                show az_E az_F ex 2 128 69 [.retAddr 0, .retAddr 0, .int v2, .retAddr 0, .int v4, .int v5, .ref 61, .ref 63] [.int (0 : Int32)] (97, I, J, R) _
                refine az_E.br (c := (0 : Int32) = 0) (tt := 72) (ff := 75) (L' := [.retAddr 0, .retAddr 0, .int v2, .retAddr 0, .int v4, .int v5, .ref 61, .ref 63]) (S' := []) (σ' := (97, I, J, R)) rfl (fun _ => ?_) (fun hn => absurd (by decide) hn)
                refine az_E.sn 1 (pc' := 74) (L' := [.retAddr 0, .retAddr 0, .int v2, .retAddr 0, .int v4, .int v5, .ref 61, .ref 63]) (S' := [.int (-12 : Int32)]) (σ' := (97, I, J, R)) rfl ?_
                have h := Option.some.inj h
                subst h
                exact az_E.ret (v := some (.int (-12 : Int32))) (σ' := (97, I, J, R)) rfl hQ
      · rw [if_neg hc_63] at h
        refine az_E.sn 1 (pc' := 21) (L' := [.ref 63]) (S' := [.int (0 : Int32)]) (σ' := (97, I, J, R)) rfl ?_
        refine az_E.ret (v := some (.int (0 : Int32))) (σ' := (97, I, J, R)) rfl ?_
        show az_E az_F ex 2 128 45 [.retAddr 0, .retAddr 0, .int v2, .retAddr 0, .int v4, .int v5, .ref 61, .ref 63] [.int (0 : Int32)] (97, I, J, R) _
        refine az_E.br (c := (0 : Int32) = 0) (tt := 51) (ff := 48) (L' := [.retAddr 0, .retAddr 0, .int v2, .retAddr 0, .int v4, .int v5, .ref 61, .ref 63]) (S' := []) (σ' := (97, I, J, R)) rfl (fun _ => ?_) (fun hn => absurd (by decide) hn)
        refine az_E.sn 1 (pc' := 53) (L' := [.retAddr 0, .retAddr 0, .int v2, .retAddr 0, .int v4, .int v5, .ref 61, .ref 63]) (S' := [.ref 61]) (σ' := (97, I, J, R)) rfl ?_
        refine az_E.call (d := 1) (k' := 55) (vs := [.ref 61]) (pc' := 56) (S' := []) rfl ?_ (fun _ _ hq => hq)
        show az_E az_F ex 1 55 0 [.ref 61] [] (97, I, J, R) _
        refine az_E.sn 3 (pc' := 5) (L' := [.ref 61]) (S' := [.int (-1 : Int32), .int (I 61 1)]) (σ' := (97, I, J, R)) rfl ?_
        refine az_E.br (c := (I 61 1) = (-1 : Int32)) (tt := 12) (ff := 8) (L' := [.ref 61]) (S' := []) (σ' := (97, I, J, R)) rfl (fun hc_77 => ?_) (fun hc_77 => ?_)
        · rw [if_pos hc_77] at h
          refine az_E.sn 1 (pc' := 13) (L' := [.ref 61]) (S' := [.int (0 : Int32)]) (σ' := (97, I, J, R)) rfl ?_
          refine az_E.ret (v := some (.int (0 : Int32))) (σ' := (97, I, J, R)) rfl ?_
          show az_E az_F ex 2 128 56 [.retAddr 0, .retAddr 0, .int v2, .retAddr 0, .int v4, .int v5, .ref 61, .ref 63] [.int (0 : Int32)] (97, I, J, R) _
          refine az_E.br (c := (0 : Int32) = 0) (tt := 72) (ff := 59) (L' := [.retAddr 0, .retAddr 0, .int v2, .retAddr 0, .int v4, .int v5, .ref 61, .ref 63]) (S' := []) (σ' := (97, I, J, R)) rfl (fun _ => ?_) (fun hn => absurd (by decide) hn)
          refine az_E.sn 1 (pc' := 74) (L' := [.retAddr 0, .retAddr 0, .int v2, .retAddr 0, .int v4, .int v5, .ref 61, .ref 63]) (S' := [.int (-12 : Int32)]) (σ' := (97, I, J, R)) rfl ?_
          have h := Option.some.inj h
          subst h
          exact az_E.ret (v := some (.int (-12 : Int32))) (σ' := (97, I, J, R)) rfl hQ
        · rw [if_neg hc_77] at h
          refine az_E.sn 2 (pc' := 13) (L' := [.ref 61]) (S' := [.int (1 : Int32)]) (σ' := (97, I, J, R)) rfl ?_
          refine az_E.ret (v := some (.int (1 : Int32))) (σ' := (97, I, J, R)) rfl ?_
          show az_E az_F ex 2 128 56 [.retAddr 0, .retAddr 0, .int v2, .retAddr 0, .int v4, .int v5, .ref 61, .ref 63] [.int (1 : Int32)] (97, I, J, R) _
          refine az_E.br (c := (1 : Int32) = 0) (tt := 72) (ff := 59) (L' := [.retAddr 0, .retAddr 0, .int v2, .retAddr 0, .int v4, .int v5, .ref 61, .ref 63]) (S' := []) (σ' := (97, I, J, R)) rfl (fun hn => absurd hn (by decide)) (fun _ => ?_)
          refine az_E.sn 3 (pc' := 66) (L' := [.retAddr 0, .retAddr 0, .int v2, .retAddr 0, .int v4, .int v5, .ref 61, .ref 63]) (S' := [.int (I 61 1), .ref 63]) (σ' := (97, I, J, R)) rfl ?_
          refine az_E.call (d := 1) (k' := 56) (vs := [.ref 63, .int (I 61 1)]) (pc' := 69) (S' := []) rfl ?_ (fun _ _ hq => hq)
          show az_E az_F ex 1 56 0 [.ref 63, .int (I 61 1)] [] (97, I, J, R) _
          refine az_E.sn 1 (pc' := 1) (L' := [.ref 63, .int (I 61 1)]) (S' := [.ref 63]) (σ' := (97, I, J, R)) rfl ?_
          refine az_E.call (d := 0) (k' := 55) (vs := [.ref 63]) (pc' := 4) (S' := []) rfl ?_ (fun _ _ hq => hq)
          show az_E az_F ex 0 55 0 [.ref 63] [] (97, I, J, R) _
          refine az_E.sn 3 (pc' := 5) (L' := [.ref 63]) (S' := [.int (-1 : Int32), .int (I 63 1)]) (σ' := (97, I, J, R)) rfl ?_
          refine az_E.br (c := (I 63 1) = (-1 : Int32)) (tt := 12) (ff := 8) (L' := [.ref 63]) (S' := []) (σ' := (97, I, J, R)) rfl (fun hc_78 => ?_) (fun hc_78 => ?_)
          · rw [if_pos hc_78] at h
            refine az_E.sn 1 (pc' := 13) (L' := [.ref 63]) (S' := [.int (0 : Int32)]) (σ' := (97, I, J, R)) rfl ?_
            refine az_E.ret (v := some (.int (0 : Int32))) (σ' := (97, I, J, R)) rfl ?_
            show az_E az_F ex 1 56 4 [.ref 63, .int (I 61 1)] [.int (0 : Int32)] (97, I, J, R) _
            refine az_E.br (c := (0 : Int32) = 0) (tt := 19) (ff := 7) (L' := [.ref 63, .int (I 61 1)]) (S' := []) (σ' := (97, I, J, R)) rfl (fun _ => ?_) (fun hn => absurd (by decide) hn)
            refine az_E.sn 1 (pc' := 20) (L' := [.ref 63, .int (I 61 1)]) (S' := [.int (0 : Int32)]) (σ' := (97, I, J, R)) rfl ?_
            refine az_E.ret (v := some (.int (0 : Int32))) (σ' := (97, I, J, R)) rfl ?_
            show az_E az_F ex 2 128 69 [.retAddr 0, .retAddr 0, .int v2, .retAddr 0, .int v4, .int v5, .ref 61, .ref 63] [.int (0 : Int32)] (97, I, J, R) _
            refine az_E.br (c := (0 : Int32) = 0) (tt := 72) (ff := 75) (L' := [.retAddr 0, .retAddr 0, .int v2, .retAddr 0, .int v4, .int v5, .ref 61, .ref 63]) (S' := []) (σ' := (97, I, J, R)) rfl (fun _ => ?_) (fun hn => absurd (by decide) hn)
            refine az_E.sn 1 (pc' := 74) (L' := [.retAddr 0, .retAddr 0, .int v2, .retAddr 0, .int v4, .int v5, .ref 61, .ref 63]) (S' := [.int (-12 : Int32)]) (σ' := (97, I, J, R)) rfl ?_
            have h := Option.some.inj h
            subst h
            exact az_E.ret (v := some (.int (-12 : Int32))) (σ' := (97, I, J, R)) rfl hQ
          · rw [if_neg hc_78] at h
            refine az_E.sn 2 (pc' := 13) (L' := [.ref 63]) (S' := [.int (1 : Int32)]) (σ' := (97, I, J, R)) rfl ?_
            refine az_E.ret (v := some (.int (1 : Int32))) (σ' := (97, I, J, R)) rfl ?_
            show az_E az_F ex 1 56 4 [.ref 63, .int (I 61 1)] [.int (1 : Int32)] (97, I, J, R) _
            refine az_E.br (c := (1 : Int32) = 0) (tt := 19) (ff := 7) (L' := [.ref 63, .int (I 61 1)]) (S' := []) (σ' := (97, I, J, R)) rfl (fun hn => absurd hn (by decide)) (fun _ => ?_)
            refine az_E.sn 3 (pc' := 12) (L' := [.ref 63, .int (I 61 1)]) (S' := [.int (I 61 1), .int (I 63 1)]) (σ' := (97, I, J, R)) rfl ?_
            refine az_E.br (c := (I 63 1) = (I 61 1)) (tt := 15) (ff := 19) (L' := [.ref 63, .int (I 61 1)]) (S' := []) (σ' := (97, I, J, R)) rfl (fun hc_79 => ?_) (fun hc_79 => ?_)
            · rw [if_pos hc_79] at h
              refine az_E.sn 2 (pc' := 20) (L' := [.ref 63, .int (I 61 1)]) (S' := [.int (1 : Int32)]) (σ' := (97, I, J, R)) rfl ?_
              refine az_E.ret (v := some (.int (1 : Int32))) (σ' := (97, I, J, R)) rfl ?_
              show az_E az_F ex 2 128 69 [.retAddr 0, .retAddr 0, .int v2, .retAddr 0, .int v4, .int v5, .ref 61, .ref 63] [.int (1 : Int32)] (97, I, J, R) _
              refine az_E.br (c := (1 : Int32) = 0) (tt := 72) (ff := 75) (L' := [.retAddr 0, .retAddr 0, .int v2, .retAddr 0, .int v4, .int v5, .ref 61, .ref 63]) (S' := []) (σ' := (97, I, J, R)) rfl (fun hn => absurd hn (by decide)) (fun _ => ?_)
              refine az_E.sn 3 (pc' := 80) (L' := [.retAddr 0, .retAddr 0, .int v2, .retAddr 0, .int v4, .int v5, .ref 61, .ref 63]) (S' := [.int v5, .int v2, .ref 61]) (σ' := (97, I, J, R)) rfl ?_
              refine az_E.call (d := 1) (k' := 60) (vs := [.ref 61, .int v2, .int v5]) (pc' := 83) (S' := []) rfl ?_ (fun _ _ hq => hq)
              show az_E az_F ex 1 60 0 [.ref 61, .int v2, .int v5] [] (97, I, J, R) _
              refine az_E.sn 1 (pc' := 1) (L' := [.ref 61, .int v2, .int v5]) (S' := [.int v2]) (σ' := (97, I, J, R)) rfl ?_
              refine az_E.br (c := v2 < 0) (tt := 30) (ff := 4) (L' := [.ref 61, .int v2, .int v5]) (S' := []) (σ' := (97, I, J, R)) rfl (fun hc_80 => ?_) (fun hc_80 => ?_)
              · rw [if_pos hc_80] at h
                refine az_E.sn 1 (pc' := 31) (L' := [.ref 61, .int v2, .int v5]) (S' := [.int (0 : Int32)]) (σ' := (97, I, J, R)) rfl ?_
                refine az_E.ret (v := some (.int (0 : Int32))) (σ' := (97, I, J, R)) rfl ?_
                show az_E az_F ex 2 128 83 [.retAddr 0, .retAddr 0, .int v2, .retAddr 0, .int v4, .int v5, .ref 61, .ref 63] [.int (0 : Int32)] (97, I, J, R) _
                refine az_E.br (c := (0 : Int32) = 0) (tt := 98) (ff := 86) (L' := [.retAddr 0, .retAddr 0, .int v2, .retAddr 0, .int v4, .int v5, .ref 61, .ref 63]) (S' := []) (σ' := (97, I, J, R)) rfl (fun _ => ?_) (fun hn => absurd (by decide) hn)
                refine az_E.sn 1 (pc' := 100) (L' := [.retAddr 0, .retAddr 0, .int v2, .retAddr 0, .int v4, .int v5, .ref 61, .ref 63]) (S' := [.int (-13 : Int32)]) (σ' := (97, I, J, R)) rfl ?_
                have h := Option.some.inj h
                subst h
                exact az_E.ret (v := some (.int (-13 : Int32))) (σ' := (97, I, J, R)) rfl hQ
              · rw [if_neg hc_80] at h
                refine az_E.sn 1 (pc' := 5) (L' := [.ref 61, .int v2, .int v5]) (S' := [.int v5]) (σ' := (97, I, J, R)) rfl ?_
                refine az_E.br (c := v5 < 0) (tt := 30) (ff := 8) (L' := [.ref 61, .int v2, .int v5]) (S' := []) (σ' := (97, I, J, R)) rfl (fun hc_81 => ?_) (fun hc_81 => ?_)
                · rw [if_pos hc_81] at h
                  refine az_E.sn 1 (pc' := 31) (L' := [.ref 61, .int v2, .int v5]) (S' := [.int (0 : Int32)]) (σ' := (97, I, J, R)) rfl ?_
                  refine az_E.ret (v := some (.int (0 : Int32))) (σ' := (97, I, J, R)) rfl ?_
                  show az_E az_F ex 2 128 83 [.retAddr 0, .retAddr 0, .int v2, .retAddr 0, .int v4, .int v5, .ref 61, .ref 63] [.int (0 : Int32)] (97, I, J, R) _
                  refine az_E.br (c := (0 : Int32) = 0) (tt := 98) (ff := 86) (L' := [.retAddr 0, .retAddr 0, .int v2, .retAddr 0, .int v4, .int v5, .ref 61, .ref 63]) (S' := []) (σ' := (97, I, J, R)) rfl (fun _ => ?_) (fun hn => absurd (by decide) hn)
                  refine az_E.sn 1 (pc' := 100) (L' := [.retAddr 0, .retAddr 0, .int v2, .retAddr 0, .int v4, .int v5, .ref 61, .ref 63]) (S' := [.int (-13 : Int32)]) (σ' := (97, I, J, R)) rfl ?_
                  have h := Option.some.inj h
                  subst h
                  exact az_E.ret (v := some (.int (-13 : Int32))) (σ' := (97, I, J, R)) rfl hQ
                · rw [if_neg hc_81] at h
                  refine az_E.sn 3 (pc' := 13) (L' := [.ref 61, .int v2, .int v5]) (S' := [.int (I 61 2), .int v2]) (σ' := (97, I, J, R)) rfl ?_
                  refine az_E.br (c := (I 61 2) < v2) (tt := 30) (ff := 16) (L' := [.ref 61, .int v2, .int v5]) (S' := []) (σ' := (97, I, J, R)) rfl (fun hc_82 => ?_) (fun hc_82 => ?_)
                  · rw [if_pos hc_82] at h
                    refine az_E.sn 1 (pc' := 31) (L' := [.ref 61, .int v2, .int v5]) (S' := [.int (0 : Int32)]) (σ' := (97, I, J, R)) rfl ?_
                    refine az_E.ret (v := some (.int (0 : Int32))) (σ' := (97, I, J, R)) rfl ?_
                    show az_E az_F ex 2 128 83 [.retAddr 0, .retAddr 0, .int v2, .retAddr 0, .int v4, .int v5, .ref 61, .ref 63] [.int (0 : Int32)] (97, I, J, R) _
                    refine az_E.br (c := (0 : Int32) = 0) (tt := 98) (ff := 86) (L' := [.retAddr 0, .retAddr 0, .int v2, .retAddr 0, .int v4, .int v5, .ref 61, .ref 63]) (S' := []) (σ' := (97, I, J, R)) rfl (fun _ => ?_) (fun hn => absurd (by decide) hn)
                    refine az_E.sn 1 (pc' := 100) (L' := [.retAddr 0, .retAddr 0, .int v2, .retAddr 0, .int v4, .int v5, .ref 61, .ref 63]) (S' := [.int (-13 : Int32)]) (σ' := (97, I, J, R)) rfl ?_
                    have h := Option.some.inj h
                    subst h
                    exact az_E.ret (v := some (.int (-13 : Int32))) (σ' := (97, I, J, R)) rfl hQ
                  · rw [if_neg hc_82] at h
                    refine az_E.sn 5 (pc' := 23) (L' := [.ref 61, .int v2, .int v5]) (S' := [.int ((I 61 2) - v2), .int v5]) (σ' := (97, I, J, R)) rfl ?_
                    refine az_E.br (c := ((I 61 2) - v2) < v5) (tt := 30) (ff := 26) (L' := [.ref 61, .int v2, .int v5]) (S' := []) (σ' := (97, I, J, R)) rfl (fun hc_83 => ?_) (fun hc_83 => ?_)
                    · rw [if_pos hc_83] at h
                      refine az_E.sn 1 (pc' := 31) (L' := [.ref 61, .int v2, .int v5]) (S' := [.int (0 : Int32)]) (σ' := (97, I, J, R)) rfl ?_
                      refine az_E.ret (v := some (.int (0 : Int32))) (σ' := (97, I, J, R)) rfl ?_
                      show az_E az_F ex 2 128 83 [.retAddr 0, .retAddr 0, .int v2, .retAddr 0, .int v4, .int v5, .ref 61, .ref 63] [.int (0 : Int32)] (97, I, J, R) _
                      refine az_E.br (c := (0 : Int32) = 0) (tt := 98) (ff := 86) (L' := [.retAddr 0, .retAddr 0, .int v2, .retAddr 0, .int v4, .int v5, .ref 61, .ref 63]) (S' := []) (σ' := (97, I, J, R)) rfl (fun _ => ?_) (fun hn => absurd (by decide) hn)
                      refine az_E.sn 1 (pc' := 100) (L' := [.retAddr 0, .retAddr 0, .int v2, .retAddr 0, .int v4, .int v5, .ref 61, .ref 63]) (S' := [.int (-13 : Int32)]) (σ' := (97, I, J, R)) rfl ?_
                      have h := Option.some.inj h
                      subst h
                      exact az_E.ret (v := some (.int (-13 : Int32))) (σ' := (97, I, J, R)) rfl hQ
                    · rw [if_neg hc_83] at h
                      refine az_E.sn 2 (pc' := 31) (L' := [.ref 61, .int v2, .int v5]) (S' := [.int (1 : Int32)]) (σ' := (97, I, J, R)) rfl ?_
                      refine az_E.ret (v := some (.int (1 : Int32))) (σ' := (97, I, J, R)) rfl ?_
                      show az_E az_F ex 2 128 83 [.retAddr 0, .retAddr 0, .int v2, .retAddr 0, .int v4, .int v5, .ref 61, .ref 63] [.int (1 : Int32)] (97, I, J, R) _
                      refine az_E.br (c := (1 : Int32) = 0) (tt := 98) (ff := 86) (L' := [.retAddr 0, .retAddr 0, .int v2, .retAddr 0, .int v4, .int v5, .ref 61, .ref 63]) (S' := []) (σ' := (97, I, J, R)) rfl (fun hn => absurd hn (by decide)) (fun _ => ?_)
                      refine az_E.sn 3 (pc' := 92) (L' := [.retAddr 0, .retAddr 0, .int v2, .retAddr 0, .int v4, .int v5, .ref 61, .ref 63]) (S' := [.int v5, .int v4, .ref 63]) (σ' := (97, I, J, R)) rfl ?_
                      refine az_E.call (d := 1) (k' := 60) (vs := [.ref 63, .int v4, .int v5]) (pc' := 95) (S' := []) rfl ?_ (fun _ _ hq => hq)
                      show az_E az_F ex 1 60 0 [.ref 63, .int v4, .int v5] [] (97, I, J, R) _
                      refine az_E.sn 1 (pc' := 1) (L' := [.ref 63, .int v4, .int v5]) (S' := [.int v4]) (σ' := (97, I, J, R)) rfl ?_
                      refine az_E.br (c := v4 < 0) (tt := 30) (ff := 4) (L' := [.ref 63, .int v4, .int v5]) (S' := []) (σ' := (97, I, J, R)) rfl (fun hc_84 => ?_) (fun hc_84 => ?_)
                      · rw [if_pos hc_84] at h
                        refine az_E.sn 1 (pc' := 31) (L' := [.ref 63, .int v4, .int v5]) (S' := [.int (0 : Int32)]) (σ' := (97, I, J, R)) rfl ?_
                        refine az_E.ret (v := some (.int (0 : Int32))) (σ' := (97, I, J, R)) rfl ?_
                        show az_E az_F ex 2 128 95 [.retAddr 0, .retAddr 0, .int v2, .retAddr 0, .int v4, .int v5, .ref 61, .ref 63] [.int (0 : Int32)] (97, I, J, R) _
                        refine az_E.br (c := (0 : Int32) = 0) (tt := 98) (ff := 101) (L' := [.retAddr 0, .retAddr 0, .int v2, .retAddr 0, .int v4, .int v5, .ref 61, .ref 63]) (S' := []) (σ' := (97, I, J, R)) rfl (fun _ => ?_) (fun hn => absurd (by decide) hn)
                        refine az_E.sn 1 (pc' := 100) (L' := [.retAddr 0, .retAddr 0, .int v2, .retAddr 0, .int v4, .int v5, .ref 61, .ref 63]) (S' := [.int (-13 : Int32)]) (σ' := (97, I, J, R)) rfl ?_
                        have h := Option.some.inj h
                        subst h
                        exact az_E.ret (v := some (.int (-13 : Int32))) (σ' := (97, I, J, R)) rfl hQ
                      · rw [if_neg hc_84] at h
                        refine az_E.sn 1 (pc' := 5) (L' := [.ref 63, .int v4, .int v5]) (S' := [.int v5]) (σ' := (97, I, J, R)) rfl ?_
                        refine az_E.br (c := v5 < 0) (tt := 30) (ff := 8) (L' := [.ref 63, .int v4, .int v5]) (S' := []) (σ' := (97, I, J, R)) rfl (fun hc_85 => ?_) (fun hc_85 => ?_)
                        · rw [if_pos hc_85] at h
                          refine az_E.sn 1 (pc' := 31) (L' := [.ref 63, .int v4, .int v5]) (S' := [.int (0 : Int32)]) (σ' := (97, I, J, R)) rfl ?_
                          refine az_E.ret (v := some (.int (0 : Int32))) (σ' := (97, I, J, R)) rfl ?_
                          show az_E az_F ex 2 128 95 [.retAddr 0, .retAddr 0, .int v2, .retAddr 0, .int v4, .int v5, .ref 61, .ref 63] [.int (0 : Int32)] (97, I, J, R) _
                          refine az_E.br (c := (0 : Int32) = 0) (tt := 98) (ff := 101) (L' := [.retAddr 0, .retAddr 0, .int v2, .retAddr 0, .int v4, .int v5, .ref 61, .ref 63]) (S' := []) (σ' := (97, I, J, R)) rfl (fun _ => ?_) (fun hn => absurd (by decide) hn)
                          refine az_E.sn 1 (pc' := 100) (L' := [.retAddr 0, .retAddr 0, .int v2, .retAddr 0, .int v4, .int v5, .ref 61, .ref 63]) (S' := [.int (-13 : Int32)]) (σ' := (97, I, J, R)) rfl ?_
                          have h := Option.some.inj h
                          subst h
                          exact az_E.ret (v := some (.int (-13 : Int32))) (σ' := (97, I, J, R)) rfl hQ
                        · rw [if_neg hc_85] at h
                          refine az_E.sn 3 (pc' := 13) (L' := [.ref 63, .int v4, .int v5]) (S' := [.int (I 63 2), .int v4]) (σ' := (97, I, J, R)) rfl ?_
                          refine az_E.br (c := (I 63 2) < v4) (tt := 30) (ff := 16) (L' := [.ref 63, .int v4, .int v5]) (S' := []) (σ' := (97, I, J, R)) rfl (fun hc_86 => ?_) (fun hc_86 => ?_)
                          · rw [if_pos hc_86] at h
                            refine az_E.sn 1 (pc' := 31) (L' := [.ref 63, .int v4, .int v5]) (S' := [.int (0 : Int32)]) (σ' := (97, I, J, R)) rfl ?_
                            refine az_E.ret (v := some (.int (0 : Int32))) (σ' := (97, I, J, R)) rfl ?_
                            show az_E az_F ex 2 128 95 [.retAddr 0, .retAddr 0, .int v2, .retAddr 0, .int v4, .int v5, .ref 61, .ref 63] [.int (0 : Int32)] (97, I, J, R) _
                            refine az_E.br (c := (0 : Int32) = 0) (tt := 98) (ff := 101) (L' := [.retAddr 0, .retAddr 0, .int v2, .retAddr 0, .int v4, .int v5, .ref 61, .ref 63]) (S' := []) (σ' := (97, I, J, R)) rfl (fun _ => ?_) (fun hn => absurd (by decide) hn)
                            refine az_E.sn 1 (pc' := 100) (L' := [.retAddr 0, .retAddr 0, .int v2, .retAddr 0, .int v4, .int v5, .ref 61, .ref 63]) (S' := [.int (-13 : Int32)]) (σ' := (97, I, J, R)) rfl ?_
                            have h := Option.some.inj h
                            subst h
                            exact az_E.ret (v := some (.int (-13 : Int32))) (σ' := (97, I, J, R)) rfl hQ
                          · rw [if_neg hc_86] at h
                            refine az_E.sn 5 (pc' := 23) (L' := [.ref 63, .int v4, .int v5]) (S' := [.int ((I 63 2) - v4), .int v5]) (σ' := (97, I, J, R)) rfl ?_
                            refine az_E.br (c := ((I 63 2) - v4) < v5) (tt := 30) (ff := 26) (L' := [.ref 63, .int v4, .int v5]) (S' := []) (σ' := (97, I, J, R)) rfl (fun hc_87 => ?_) (fun hc_87 => ?_)
                            · rw [if_pos hc_87] at h
                              refine az_E.sn 1 (pc' := 31) (L' := [.ref 63, .int v4, .int v5]) (S' := [.int (0 : Int32)]) (σ' := (97, I, J, R)) rfl ?_
                              refine az_E.ret (v := some (.int (0 : Int32))) (σ' := (97, I, J, R)) rfl ?_
                              show az_E az_F ex 2 128 95 [.retAddr 0, .retAddr 0, .int v2, .retAddr 0, .int v4, .int v5, .ref 61, .ref 63] [.int (0 : Int32)] (97, I, J, R) _
                              refine az_E.br (c := (0 : Int32) = 0) (tt := 98) (ff := 101) (L' := [.retAddr 0, .retAddr 0, .int v2, .retAddr 0, .int v4, .int v5, .ref 61, .ref 63]) (S' := []) (σ' := (97, I, J, R)) rfl (fun _ => ?_) (fun hn => absurd (by decide) hn)
                              refine az_E.sn 1 (pc' := 100) (L' := [.retAddr 0, .retAddr 0, .int v2, .retAddr 0, .int v4, .int v5, .ref 61, .ref 63]) (S' := [.int (-13 : Int32)]) (σ' := (97, I, J, R)) rfl ?_
                              have h := Option.some.inj h
                              subst h
                              exact az_E.ret (v := some (.int (-13 : Int32))) (σ' := (97, I, J, R)) rfl hQ
                            · rw [if_neg hc_87] at h
                              refine az_E.sn 2 (pc' := 31) (L' := [.ref 63, .int v4, .int v5]) (S' := [.int (1 : Int32)]) (σ' := (97, I, J, R)) rfl ?_
                              refine az_E.ret (v := some (.int (1 : Int32))) (σ' := (97, I, J, R)) rfl ?_
                              show az_E az_F ex 2 128 95 [.retAddr 0, .retAddr 0, .int v2, .retAddr 0, .int v4, .int v5, .ref 61, .ref 63] [.int (1 : Int32)] (97, I, J, R) _
                              refine az_E.br (c := (1 : Int32) = 0) (tt := 98) (ff := 101) (L' := [.retAddr 0, .retAddr 0, .int v2, .retAddr 0, .int v4, .int v5, .ref 61, .ref 63]) (S' := []) (σ' := (97, I, J, R)) rfl (fun hn => absurd hn (by decide)) (fun _ => ?_)
                              refine az_E.sn 7 (pc' := 116) (L' := [.retAddr 0, .retAddr 0, .int v2, .retAddr 0, .int v4, .int v5, .ref 61, .ref 63]) (S' := [.int v5, .int v4, .ref (63 + 1), .int v2, .ref (61 + 1)]) (σ' := (97, I, J, R)) rfl ?_
                              by_cases hc_88 : v2 < 0 ∨ v4 < 0 ∨ v5 < 0 ∨ 60 < v2.toNatClampNeg + v5.toNatClampNeg ∨ 60 < v4.toNatClampNeg + v5.toNatClampNeg
                              · rw [if_pos hc_88] at h; cases h
                              · rw [if_neg hc_88] at h
                                refine az_E.o (o := az_cp az_F (97, I, J, R) (61 + 1) v2 (63 + 1) v4 v5) (pc' := 119) (L' := [.retAddr 0, .retAddr 0, .int v2, .retAddr 0, .int v4, .int v5, .ref 61, .ref 63]) (S' := []) (x := (97, I, (az_ur J (63 + 1) (va_cpy (J (61 + 1)) (J (63 + 1)) v2.toNatClampNeg v4.toNatClampNeg v5.toNatClampNeg)), R)) rfl (if_neg hc_88) ?_
                                refine az_E.sn 1 (pc' := 121) (L' := [.retAddr 0, .retAddr 0, .int v2, .retAddr 0, .int v4, .int v5, .ref 61, .ref 63]) (S' := [.int v5]) (σ' := (97, I, (az_ur J (63 + 1) (va_cpy (J (61 + 1)) (J (63 + 1)) v2.toNatClampNeg v4.toNatClampNeg v5.toNatClampNeg)), R)) rfl ?_
                                have h := Option.some.inj h
                                subst h
                                exact az_E.ret (v := some (.int v5)) (σ' := (97, I, (az_ur J (63 + 1) (va_cpy (J (61 + 1)) (J (63 + 1)) v2.toNatClampNeg v4.toNatClampNeg v5.toNatClampNeg)), R)) rfl hQ
            · rw [if_neg hc_79] at h
              refine az_E.sn 1 (pc' := 20) (L' := [.ref 63, .int (I 61 1)]) (S' := [.int (0 : Int32)]) (σ' := (97, I, J, R)) rfl ?_
              refine az_E.ret (v := some (.int (0 : Int32))) (σ' := (97, I, J, R)) rfl ?_
              show az_E az_F ex 2 128 69 [.retAddr 0, .retAddr 0, .int v2, .retAddr 0, .int v4, .int v5, .ref 61, .ref 63] [.int (0 : Int32)] (97, I, J, R) _
              refine az_E.br (c := (0 : Int32) = 0) (tt := 72) (ff := 75) (L' := [.retAddr 0, .retAddr 0, .int v2, .retAddr 0, .int v4, .int v5, .ref 61, .ref 63]) (S' := []) (σ' := (97, I, J, R)) rfl (fun _ => ?_) (fun hn => absurd (by decide) hn)
              refine az_E.sn 1 (pc' := 74) (L' := [.retAddr 0, .retAddr 0, .int v2, .retAddr 0, .int v4, .int v5, .ref 61, .ref 63]) (S' := [.int (-12 : Int32)]) (σ' := (97, I, J, R)) rfl ?_
              have h := Option.some.inj h
              subst h
              exact az_E.ret (v := some (.int (-12 : Int32))) (σ' := (97, I, J, R)) rfl hQ
  · rw [if_neg hc_61] at h
    refine az_E.sn 1 (pc' := 21) (L' := [.ref 61]) (S' := [.int (0 : Int32)]) (σ' := (97, I, J, R)) rfl ?_
    refine az_E.ret (v := some (.int (0 : Int32))) (σ' := (97, I, J, R)) rfl ?_
    show az_E az_F ex 2 128 37 [.retAddr 0, .retAddr 0, .int v2, .retAddr 0, .int v4, .int v5, .ref 61, .ref 63] [.int (0 : Int32)] (97, I, J, R) _
    refine az_E.br (c := (0 : Int32) = 0) (tt := 40) (ff := 48) (L' := [.retAddr 0, .retAddr 0, .int v2, .retAddr 0, .int v4, .int v5, .ref 61, .ref 63]) (S' := []) (σ' := (97, I, J, R)) rfl (fun _ => ?_) (fun hn => absurd (by decide) hn)
    refine az_E.sn 1 (pc' := 42) (L' := [.retAddr 0, .retAddr 0, .int v2, .retAddr 0, .int v4, .int v5, .ref 61, .ref 63]) (S' := [.ref 63]) (σ' := (97, I, J, R)) rfl ?_
    refine az_E.call (d := 1) (k' := 54) (vs := [.ref 63]) (pc' := 45) (S' := []) rfl ?_ (fun _ _ hq => hq)
    show az_E az_F ex 1 54 0 [.ref 63] [] (97, I, J, R) _
    refine az_E.sn 3 (pc' := 5) (L' := [.ref 63]) (S' := [.int (-1 : Int32), .int (I 63 0)]) (σ' := (97, I, J, R)) rfl ?_
    refine az_E.br (c := (I 63 0) = (-1 : Int32)) (tt := 8) (ff := 20) (L' := [.ref 63]) (S' := []) (σ' := (97, I, J, R)) rfl (fun hc_89 => ?_) (fun hc_89 => ?_)
    · rw [if_pos hc_89] at h
      refine az_E.sn 3 (pc' := 13) (L' := [.ref 63]) (S' := [.int (-1 : Int32), .int (I 63 1)]) (σ' := (97, I, J, R)) rfl ?_
      refine az_E.br (c := (I 63 1) = (-1 : Int32)) (tt := 16) (ff := 20) (L' := [.ref 63]) (S' := []) (σ' := (97, I, J, R)) rfl (fun hc_90 => ?_) (fun hc_90 => ?_)
      · rw [if_pos hc_90] at h
        refine az_E.sn 2 (pc' := 21) (L' := [.ref 63]) (S' := [.int (1 : Int32)]) (σ' := (97, I, J, R)) rfl ?_
        refine az_E.ret (v := some (.int (1 : Int32))) (σ' := (97, I, J, R)) rfl ?_
        show az_E az_F ex 2 128 45 [.retAddr 0, .retAddr 0, .int v2, .retAddr 0, .int v4, .int v5, .ref 61, .ref 63] [.int (1 : Int32)] (97, I, J, R) _
        refine az_E.br (c := (1 : Int32) = 0) (tt := 51) (ff := 48) (L' := [.retAddr 0, .retAddr 0, .int v2, .retAddr 0, .int v4, .int v5, .ref 61, .ref 63]) (S' := []) (σ' := (97, I, J, R)) rfl (fun hn => absurd hn (by decide)) (fun _ => ?_)
        refine az_E.sn 1 (pc' := 50) (L' := [.retAddr 0, .retAddr 0, .int v2, .retAddr 0, .int v4, .int v5, .ref 61, .ref 63]) (S' := [.int (-11 : Int32)]) (σ' := (97, I, J, R)) rfl ?_
        have h := Option.some.inj h
        subst h
        exact az_E.ret (v := some (.int (-11 : Int32))) (σ' := (97, I, J, R)) rfl hQ
      · rw [if_neg hc_90] at h
        refine az_E.sn 1 (pc' := 21) (L' := [.ref 63]) (S' := [.int (0 : Int32)]) (σ' := (97, I, J, R)) rfl ?_
        refine az_E.ret (v := some (.int (0 : Int32))) (σ' := (97, I, J, R)) rfl ?_
        show az_E az_F ex 2 128 45 [.retAddr 0, .retAddr 0, .int v2, .retAddr 0, .int v4, .int v5, .ref 61, .ref 63] [.int (0 : Int32)] (97, I, J, R) _
        refine az_E.br (c := (0 : Int32) = 0) (tt := 51) (ff := 48) (L' := [.retAddr 0, .retAddr 0, .int v2, .retAddr 0, .int v4, .int v5, .ref 61, .ref 63]) (S' := []) (σ' := (97, I, J, R)) rfl (fun _ => ?_) (fun hn => absurd (by decide) hn)
        refine az_E.sn 1 (pc' := 53) (L' := [.retAddr 0, .retAddr 0, .int v2, .retAddr 0, .int v4, .int v5, .ref 61, .ref 63]) (S' := [.ref 61]) (σ' := (97, I, J, R)) rfl ?_
        refine az_E.call (d := 1) (k' := 55) (vs := [.ref 61]) (pc' := 56) (S' := []) rfl ?_ (fun _ _ hq => hq)
        show az_E az_F ex 1 55 0 [.ref 61] [] (97, I, J, R) _
        refine az_E.sn 3 (pc' := 5) (L' := [.ref 61]) (S' := [.int (-1 : Int32), .int (I 61 1)]) (σ' := (97, I, J, R)) rfl ?_
        refine az_E.br (c := (I 61 1) = (-1 : Int32)) (tt := 12) (ff := 8) (L' := [.ref 61]) (S' := []) (σ' := (97, I, J, R)) rfl (fun hc_91 => ?_) (fun hc_91 => ?_)
        · rw [if_pos hc_91] at h
          refine az_E.sn 1 (pc' := 13) (L' := [.ref 61]) (S' := [.int (0 : Int32)]) (σ' := (97, I, J, R)) rfl ?_
          refine az_E.ret (v := some (.int (0 : Int32))) (σ' := (97, I, J, R)) rfl ?_
          show az_E az_F ex 2 128 56 [.retAddr 0, .retAddr 0, .int v2, .retAddr 0, .int v4, .int v5, .ref 61, .ref 63] [.int (0 : Int32)] (97, I, J, R) _
          refine az_E.br (c := (0 : Int32) = 0) (tt := 72) (ff := 59) (L' := [.retAddr 0, .retAddr 0, .int v2, .retAddr 0, .int v4, .int v5, .ref 61, .ref 63]) (S' := []) (σ' := (97, I, J, R)) rfl (fun _ => ?_) (fun hn => absurd (by decide) hn)
          refine az_E.sn 1 (pc' := 74) (L' := [.retAddr 0, .retAddr 0, .int v2, .retAddr 0, .int v4, .int v5, .ref 61, .ref 63]) (S' := [.int (-12 : Int32)]) (σ' := (97, I, J, R)) rfl ?_
          have h := Option.some.inj h
          subst h
          exact az_E.ret (v := some (.int (-12 : Int32))) (σ' := (97, I, J, R)) rfl hQ
        · rw [if_neg hc_91] at h
          refine az_E.sn 2 (pc' := 13) (L' := [.ref 61]) (S' := [.int (1 : Int32)]) (σ' := (97, I, J, R)) rfl ?_
          refine az_E.ret (v := some (.int (1 : Int32))) (σ' := (97, I, J, R)) rfl ?_
          show az_E az_F ex 2 128 56 [.retAddr 0, .retAddr 0, .int v2, .retAddr 0, .int v4, .int v5, .ref 61, .ref 63] [.int (1 : Int32)] (97, I, J, R) _
          refine az_E.br (c := (1 : Int32) = 0) (tt := 72) (ff := 59) (L' := [.retAddr 0, .retAddr 0, .int v2, .retAddr 0, .int v4, .int v5, .ref 61, .ref 63]) (S' := []) (σ' := (97, I, J, R)) rfl (fun hn => absurd hn (by decide)) (fun _ => ?_)
          refine az_E.sn 3 (pc' := 66) (L' := [.retAddr 0, .retAddr 0, .int v2, .retAddr 0, .int v4, .int v5, .ref 61, .ref 63]) (S' := [.int (I 61 1), .ref 63]) (σ' := (97, I, J, R)) rfl ?_
          refine az_E.call (d := 1) (k' := 56) (vs := [.ref 63, .int (I 61 1)]) (pc' := 69) (S' := []) rfl ?_ (fun _ _ hq => hq)
          show az_E az_F ex 1 56 0 [.ref 63, .int (I 61 1)] [] (97, I, J, R) _
          refine az_E.sn 1 (pc' := 1) (L' := [.ref 63, .int (I 61 1)]) (S' := [.ref 63]) (σ' := (97, I, J, R)) rfl ?_
          refine az_E.call (d := 0) (k' := 55) (vs := [.ref 63]) (pc' := 4) (S' := []) rfl ?_ (fun _ _ hq => hq)
          show az_E az_F ex 0 55 0 [.ref 63] [] (97, I, J, R) _
          refine az_E.sn 3 (pc' := 5) (L' := [.ref 63]) (S' := [.int (-1 : Int32), .int (I 63 1)]) (σ' := (97, I, J, R)) rfl ?_
          refine az_E.br (c := (I 63 1) = (-1 : Int32)) (tt := 12) (ff := 8) (L' := [.ref 63]) (S' := []) (σ' := (97, I, J, R)) rfl (fun hc_92 => ?_) (fun hc_92 => ?_)
          · rw [if_pos hc_92] at h
            refine az_E.sn 1 (pc' := 13) (L' := [.ref 63]) (S' := [.int (0 : Int32)]) (σ' := (97, I, J, R)) rfl ?_
            refine az_E.ret (v := some (.int (0 : Int32))) (σ' := (97, I, J, R)) rfl ?_
            show az_E az_F ex 1 56 4 [.ref 63, .int (I 61 1)] [.int (0 : Int32)] (97, I, J, R) _
            refine az_E.br (c := (0 : Int32) = 0) (tt := 19) (ff := 7) (L' := [.ref 63, .int (I 61 1)]) (S' := []) (σ' := (97, I, J, R)) rfl (fun _ => ?_) (fun hn => absurd (by decide) hn)
            refine az_E.sn 1 (pc' := 20) (L' := [.ref 63, .int (I 61 1)]) (S' := [.int (0 : Int32)]) (σ' := (97, I, J, R)) rfl ?_
            refine az_E.ret (v := some (.int (0 : Int32))) (σ' := (97, I, J, R)) rfl ?_
            show az_E az_F ex 2 128 69 [.retAddr 0, .retAddr 0, .int v2, .retAddr 0, .int v4, .int v5, .ref 61, .ref 63] [.int (0 : Int32)] (97, I, J, R) _
            refine az_E.br (c := (0 : Int32) = 0) (tt := 72) (ff := 75) (L' := [.retAddr 0, .retAddr 0, .int v2, .retAddr 0, .int v4, .int v5, .ref 61, .ref 63]) (S' := []) (σ' := (97, I, J, R)) rfl (fun _ => ?_) (fun hn => absurd (by decide) hn)
            refine az_E.sn 1 (pc' := 74) (L' := [.retAddr 0, .retAddr 0, .int v2, .retAddr 0, .int v4, .int v5, .ref 61, .ref 63]) (S' := [.int (-12 : Int32)]) (σ' := (97, I, J, R)) rfl ?_
            have h := Option.some.inj h
            subst h
            exact az_E.ret (v := some (.int (-12 : Int32))) (σ' := (97, I, J, R)) rfl hQ
          · rw [if_neg hc_92] at h
            refine az_E.sn 2 (pc' := 13) (L' := [.ref 63]) (S' := [.int (1 : Int32)]) (σ' := (97, I, J, R)) rfl ?_
            refine az_E.ret (v := some (.int (1 : Int32))) (σ' := (97, I, J, R)) rfl ?_
            show az_E az_F ex 1 56 4 [.ref 63, .int (I 61 1)] [.int (1 : Int32)] (97, I, J, R) _
            refine az_E.br (c := (1 : Int32) = 0) (tt := 19) (ff := 7) (L' := [.ref 63, .int (I 61 1)]) (S' := []) (σ' := (97, I, J, R)) rfl (fun hn => absurd hn (by decide)) (fun _ => ?_)
            refine az_E.sn 3 (pc' := 12) (L' := [.ref 63, .int (I 61 1)]) (S' := [.int (I 61 1), .int (I 63 1)]) (σ' := (97, I, J, R)) rfl ?_
            refine az_E.br (c := (I 63 1) = (I 61 1)) (tt := 15) (ff := 19) (L' := [.ref 63, .int (I 61 1)]) (S' := []) (σ' := (97, I, J, R)) rfl (fun hc_93 => ?_) (fun hc_93 => ?_)
            · rw [if_pos hc_93] at h
              refine az_E.sn 2 (pc' := 20) (L' := [.ref 63, .int (I 61 1)]) (S' := [.int (1 : Int32)]) (σ' := (97, I, J, R)) rfl ?_
              refine az_E.ret (v := some (.int (1 : Int32))) (σ' := (97, I, J, R)) rfl ?_
              show az_E az_F ex 2 128 69 [.retAddr 0, .retAddr 0, .int v2, .retAddr 0, .int v4, .int v5, .ref 61, .ref 63] [.int (1 : Int32)] (97, I, J, R) _
              refine az_E.br (c := (1 : Int32) = 0) (tt := 72) (ff := 75) (L' := [.retAddr 0, .retAddr 0, .int v2, .retAddr 0, .int v4, .int v5, .ref 61, .ref 63]) (S' := []) (σ' := (97, I, J, R)) rfl (fun hn => absurd hn (by decide)) (fun _ => ?_)
              refine az_E.sn 3 (pc' := 80) (L' := [.retAddr 0, .retAddr 0, .int v2, .retAddr 0, .int v4, .int v5, .ref 61, .ref 63]) (S' := [.int v5, .int v2, .ref 61]) (σ' := (97, I, J, R)) rfl ?_
              refine az_E.call (d := 1) (k' := 60) (vs := [.ref 61, .int v2, .int v5]) (pc' := 83) (S' := []) rfl ?_ (fun _ _ hq => hq)
              show az_E az_F ex 1 60 0 [.ref 61, .int v2, .int v5] [] (97, I, J, R) _
              refine az_E.sn 1 (pc' := 1) (L' := [.ref 61, .int v2, .int v5]) (S' := [.int v2]) (σ' := (97, I, J, R)) rfl ?_
              refine az_E.br (c := v2 < 0) (tt := 30) (ff := 4) (L' := [.ref 61, .int v2, .int v5]) (S' := []) (σ' := (97, I, J, R)) rfl (fun hc_94 => ?_) (fun hc_94 => ?_)
              · rw [if_pos hc_94] at h
                refine az_E.sn 1 (pc' := 31) (L' := [.ref 61, .int v2, .int v5]) (S' := [.int (0 : Int32)]) (σ' := (97, I, J, R)) rfl ?_
                refine az_E.ret (v := some (.int (0 : Int32))) (σ' := (97, I, J, R)) rfl ?_
                show az_E az_F ex 2 128 83 [.retAddr 0, .retAddr 0, .int v2, .retAddr 0, .int v4, .int v5, .ref 61, .ref 63] [.int (0 : Int32)] (97, I, J, R) _
                refine az_E.br (c := (0 : Int32) = 0) (tt := 98) (ff := 86) (L' := [.retAddr 0, .retAddr 0, .int v2, .retAddr 0, .int v4, .int v5, .ref 61, .ref 63]) (S' := []) (σ' := (97, I, J, R)) rfl (fun _ => ?_) (fun hn => absurd (by decide) hn)
                refine az_E.sn 1 (pc' := 100) (L' := [.retAddr 0, .retAddr 0, .int v2, .retAddr 0, .int v4, .int v5, .ref 61, .ref 63]) (S' := [.int (-13 : Int32)]) (σ' := (97, I, J, R)) rfl ?_
                have h := Option.some.inj h
                subst h
                exact az_E.ret (v := some (.int (-13 : Int32))) (σ' := (97, I, J, R)) rfl hQ
              · rw [if_neg hc_94] at h
                refine az_E.sn 1 (pc' := 5) (L' := [.ref 61, .int v2, .int v5]) (S' := [.int v5]) (σ' := (97, I, J, R)) rfl ?_
                refine az_E.br (c := v5 < 0) (tt := 30) (ff := 8) (L' := [.ref 61, .int v2, .int v5]) (S' := []) (σ' := (97, I, J, R)) rfl (fun hc_95 => ?_) (fun hc_95 => ?_)
                · rw [if_pos hc_95] at h
                  refine az_E.sn 1 (pc' := 31) (L' := [.ref 61, .int v2, .int v5]) (S' := [.int (0 : Int32)]) (σ' := (97, I, J, R)) rfl ?_
                  refine az_E.ret (v := some (.int (0 : Int32))) (σ' := (97, I, J, R)) rfl ?_
                  show az_E az_F ex 2 128 83 [.retAddr 0, .retAddr 0, .int v2, .retAddr 0, .int v4, .int v5, .ref 61, .ref 63] [.int (0 : Int32)] (97, I, J, R) _
                  refine az_E.br (c := (0 : Int32) = 0) (tt := 98) (ff := 86) (L' := [.retAddr 0, .retAddr 0, .int v2, .retAddr 0, .int v4, .int v5, .ref 61, .ref 63]) (S' := []) (σ' := (97, I, J, R)) rfl (fun _ => ?_) (fun hn => absurd (by decide) hn)
                  refine az_E.sn 1 (pc' := 100) (L' := [.retAddr 0, .retAddr 0, .int v2, .retAddr 0, .int v4, .int v5, .ref 61, .ref 63]) (S' := [.int (-13 : Int32)]) (σ' := (97, I, J, R)) rfl ?_
                  have h := Option.some.inj h
                  subst h
                  exact az_E.ret (v := some (.int (-13 : Int32))) (σ' := (97, I, J, R)) rfl hQ
                · rw [if_neg hc_95] at h
                  refine az_E.sn 3 (pc' := 13) (L' := [.ref 61, .int v2, .int v5]) (S' := [.int (I 61 2), .int v2]) (σ' := (97, I, J, R)) rfl ?_
                  refine az_E.br (c := (I 61 2) < v2) (tt := 30) (ff := 16) (L' := [.ref 61, .int v2, .int v5]) (S' := []) (σ' := (97, I, J, R)) rfl (fun hc_96 => ?_) (fun hc_96 => ?_)
                  · rw [if_pos hc_96] at h
                    refine az_E.sn 1 (pc' := 31) (L' := [.ref 61, .int v2, .int v5]) (S' := [.int (0 : Int32)]) (σ' := (97, I, J, R)) rfl ?_
                    refine az_E.ret (v := some (.int (0 : Int32))) (σ' := (97, I, J, R)) rfl ?_
                    show az_E az_F ex 2 128 83 [.retAddr 0, .retAddr 0, .int v2, .retAddr 0, .int v4, .int v5, .ref 61, .ref 63] [.int (0 : Int32)] (97, I, J, R) _
                    refine az_E.br (c := (0 : Int32) = 0) (tt := 98) (ff := 86) (L' := [.retAddr 0, .retAddr 0, .int v2, .retAddr 0, .int v4, .int v5, .ref 61, .ref 63]) (S' := []) (σ' := (97, I, J, R)) rfl (fun _ => ?_) (fun hn => absurd (by decide) hn)
                    refine az_E.sn 1 (pc' := 100) (L' := [.retAddr 0, .retAddr 0, .int v2, .retAddr 0, .int v4, .int v5, .ref 61, .ref 63]) (S' := [.int (-13 : Int32)]) (σ' := (97, I, J, R)) rfl ?_
                    have h := Option.some.inj h
                    subst h
                    exact az_E.ret (v := some (.int (-13 : Int32))) (σ' := (97, I, J, R)) rfl hQ
                  · rw [if_neg hc_96] at h
                    refine az_E.sn 5 (pc' := 23) (L' := [.ref 61, .int v2, .int v5]) (S' := [.int ((I 61 2) - v2), .int v5]) (σ' := (97, I, J, R)) rfl ?_
                    refine az_E.br (c := ((I 61 2) - v2) < v5) (tt := 30) (ff := 26) (L' := [.ref 61, .int v2, .int v5]) (S' := []) (σ' := (97, I, J, R)) rfl (fun hc_97 => ?_) (fun hc_97 => ?_)
                    · rw [if_pos hc_97] at h
                      refine az_E.sn 1 (pc' := 31) (L' := [.ref 61, .int v2, .int v5]) (S' := [.int (0 : Int32)]) (σ' := (97, I, J, R)) rfl ?_
                      refine az_E.ret (v := some (.int (0 : Int32))) (σ' := (97, I, J, R)) rfl ?_
                      show az_E az_F ex 2 128 83 [.retAddr 0, .retAddr 0, .int v2, .retAddr 0, .int v4, .int v5, .ref 61, .ref 63] [.int (0 : Int32)] (97, I, J, R) _
                      refine az_E.br (c := (0 : Int32) = 0) (tt := 98) (ff := 86) (L' := [.retAddr 0, .retAddr 0, .int v2, .retAddr 0, .int v4, .int v5, .ref 61, .ref 63]) (S' := []) (σ' := (97, I, J, R)) rfl (fun _ => ?_) (fun hn => absurd (by decide) hn)
                      refine az_E.sn 1 (pc' := 100) (L' := [.retAddr 0, .retAddr 0, .int v2, .retAddr 0, .int v4, .int v5, .ref 61, .ref 63]) (S' := [.int (-13 : Int32)]) (σ' := (97, I, J, R)) rfl ?_
                      have h := Option.some.inj h
                      subst h
                      exact az_E.ret (v := some (.int (-13 : Int32))) (σ' := (97, I, J, R)) rfl hQ
                    · rw [if_neg hc_97] at h
                      refine az_E.sn 2 (pc' := 31) (L' := [.ref 61, .int v2, .int v5]) (S' := [.int (1 : Int32)]) (σ' := (97, I, J, R)) rfl ?_
                      refine az_E.ret (v := some (.int (1 : Int32))) (σ' := (97, I, J, R)) rfl ?_
                      show az_E az_F ex 2 128 83 [.retAddr 0, .retAddr 0, .int v2, .retAddr 0, .int v4, .int v5, .ref 61, .ref 63] [.int (1 : Int32)] (97, I, J, R) _
                      refine az_E.br (c := (1 : Int32) = 0) (tt := 98) (ff := 86) (L' := [.retAddr 0, .retAddr 0, .int v2, .retAddr 0, .int v4, .int v5, .ref 61, .ref 63]) (S' := []) (σ' := (97, I, J, R)) rfl (fun hn => absurd hn (by decide)) (fun _ => ?_)
                      refine az_E.sn 3 (pc' := 92) (L' := [.retAddr 0, .retAddr 0, .int v2, .retAddr 0, .int v4, .int v5, .ref 61, .ref 63]) (S' := [.int v5, .int v4, .ref 63]) (σ' := (97, I, J, R)) rfl ?_
                      refine az_E.call (d := 1) (k' := 60) (vs := [.ref 63, .int v4, .int v5]) (pc' := 95) (S' := []) rfl ?_ (fun _ _ hq => hq)
                      show az_E az_F ex 1 60 0 [.ref 63, .int v4, .int v5] [] (97, I, J, R) _
                      refine az_E.sn 1 (pc' := 1) (L' := [.ref 63, .int v4, .int v5]) (S' := [.int v4]) (σ' := (97, I, J, R)) rfl ?_
                      refine az_E.br (c := v4 < 0) (tt := 30) (ff := 4) (L' := [.ref 63, .int v4, .int v5]) (S' := []) (σ' := (97, I, J, R)) rfl (fun hc_98 => ?_) (fun hc_98 => ?_)
                      · rw [if_pos hc_98] at h
                        refine az_E.sn 1 (pc' := 31) (L' := [.ref 63, .int v4, .int v5]) (S' := [.int (0 : Int32)]) (σ' := (97, I, J, R)) rfl ?_
                        refine az_E.ret (v := some (.int (0 : Int32))) (σ' := (97, I, J, R)) rfl ?_
                        show az_E az_F ex 2 128 95 [.retAddr 0, .retAddr 0, .int v2, .retAddr 0, .int v4, .int v5, .ref 61, .ref 63] [.int (0 : Int32)] (97, I, J, R) _
                        refine az_E.br (c := (0 : Int32) = 0) (tt := 98) (ff := 101) (L' := [.retAddr 0, .retAddr 0, .int v2, .retAddr 0, .int v4, .int v5, .ref 61, .ref 63]) (S' := []) (σ' := (97, I, J, R)) rfl (fun _ => ?_) (fun hn => absurd (by decide) hn)
                        refine az_E.sn 1 (pc' := 100) (L' := [.retAddr 0, .retAddr 0, .int v2, .retAddr 0, .int v4, .int v5, .ref 61, .ref 63]) (S' := [.int (-13 : Int32)]) (σ' := (97, I, J, R)) rfl ?_
                        have h := Option.some.inj h
                        subst h
                        exact az_E.ret (v := some (.int (-13 : Int32))) (σ' := (97, I, J, R)) rfl hQ
                      · rw [if_neg hc_98] at h
                        refine az_E.sn 1 (pc' := 5) (L' := [.ref 63, .int v4, .int v5]) (S' := [.int v5]) (σ' := (97, I, J, R)) rfl ?_
                        refine az_E.br (c := v5 < 0) (tt := 30) (ff := 8) (L' := [.ref 63, .int v4, .int v5]) (S' := []) (σ' := (97, I, J, R)) rfl (fun hc_99 => ?_) (fun hc_99 => ?_)
                        · rw [if_pos hc_99] at h
                          refine az_E.sn 1 (pc' := 31) (L' := [.ref 63, .int v4, .int v5]) (S' := [.int (0 : Int32)]) (σ' := (97, I, J, R)) rfl ?_
                          refine az_E.ret (v := some (.int (0 : Int32))) (σ' := (97, I, J, R)) rfl ?_
                          show az_E az_F ex 2 128 95 [.retAddr 0, .retAddr 0, .int v2, .retAddr 0, .int v4, .int v5, .ref 61, .ref 63] [.int (0 : Int32)] (97, I, J, R) _
                          refine az_E.br (c := (0 : Int32) = 0) (tt := 98) (ff := 101) (L' := [.retAddr 0, .retAddr 0, .int v2, .retAddr 0, .int v4, .int v5, .ref 61, .ref 63]) (S' := []) (σ' := (97, I, J, R)) rfl (fun _ => ?_) (fun hn => absurd (by decide) hn)
                          refine az_E.sn 1 (pc' := 100) (L' := [.retAddr 0, .retAddr 0, .int v2, .retAddr 0, .int v4, .int v5, .ref 61, .ref 63]) (S' := [.int (-13 : Int32)]) (σ' := (97, I, J, R)) rfl ?_
                          have h := Option.some.inj h
                          subst h
                          exact az_E.ret (v := some (.int (-13 : Int32))) (σ' := (97, I, J, R)) rfl hQ
                        · rw [if_neg hc_99] at h
                          refine az_E.sn 3 (pc' := 13) (L' := [.ref 63, .int v4, .int v5]) (S' := [.int (I 63 2), .int v4]) (σ' := (97, I, J, R)) rfl ?_
                          refine az_E.br (c := (I 63 2) < v4) (tt := 30) (ff := 16) (L' := [.ref 63, .int v4, .int v5]) (S' := []) (σ' := (97, I, J, R)) rfl (fun hc_100 => ?_) (fun hc_100 => ?_)
                          · rw [if_pos hc_100] at h
                            refine az_E.sn 1 (pc' := 31) (L' := [.ref 63, .int v4, .int v5]) (S' := [.int (0 : Int32)]) (σ' := (97, I, J, R)) rfl ?_
                            refine az_E.ret (v := some (.int (0 : Int32))) (σ' := (97, I, J, R)) rfl ?_
                            show az_E az_F ex 2 128 95 [.retAddr 0, .retAddr 0, .int v2, .retAddr 0, .int v4, .int v5, .ref 61, .ref 63] [.int (0 : Int32)] (97, I, J, R) _
                            refine az_E.br (c := (0 : Int32) = 0) (tt := 98) (ff := 101) (L' := [.retAddr 0, .retAddr 0, .int v2, .retAddr 0, .int v4, .int v5, .ref 61, .ref 63]) (S' := []) (σ' := (97, I, J, R)) rfl (fun _ => ?_) (fun hn => absurd (by decide) hn)
                            refine az_E.sn 1 (pc' := 100) (L' := [.retAddr 0, .retAddr 0, .int v2, .retAddr 0, .int v4, .int v5, .ref 61, .ref 63]) (S' := [.int (-13 : Int32)]) (σ' := (97, I, J, R)) rfl ?_
                            have h := Option.some.inj h
                            subst h
                            exact az_E.ret (v := some (.int (-13 : Int32))) (σ' := (97, I, J, R)) rfl hQ
                          · rw [if_neg hc_100] at h
                            refine az_E.sn 5 (pc' := 23) (L' := [.ref 63, .int v4, .int v5]) (S' := [.int ((I 63 2) - v4), .int v5]) (σ' := (97, I, J, R)) rfl ?_
                            refine az_E.br (c := ((I 63 2) - v4) < v5) (tt := 30) (ff := 26) (L' := [.ref 63, .int v4, .int v5]) (S' := []) (σ' := (97, I, J, R)) rfl (fun hc_101 => ?_) (fun hc_101 => ?_)
                            · rw [if_pos hc_101] at h
                              refine az_E.sn 1 (pc' := 31) (L' := [.ref 63, .int v4, .int v5]) (S' := [.int (0 : Int32)]) (σ' := (97, I, J, R)) rfl ?_
                              refine az_E.ret (v := some (.int (0 : Int32))) (σ' := (97, I, J, R)) rfl ?_
                              show az_E az_F ex 2 128 95 [.retAddr 0, .retAddr 0, .int v2, .retAddr 0, .int v4, .int v5, .ref 61, .ref 63] [.int (0 : Int32)] (97, I, J, R) _
                              refine az_E.br (c := (0 : Int32) = 0) (tt := 98) (ff := 101) (L' := [.retAddr 0, .retAddr 0, .int v2, .retAddr 0, .int v4, .int v5, .ref 61, .ref 63]) (S' := []) (σ' := (97, I, J, R)) rfl (fun _ => ?_) (fun hn => absurd (by decide) hn)
                              refine az_E.sn 1 (pc' := 100) (L' := [.retAddr 0, .retAddr 0, .int v2, .retAddr 0, .int v4, .int v5, .ref 61, .ref 63]) (S' := [.int (-13 : Int32)]) (σ' := (97, I, J, R)) rfl ?_
                              have h := Option.some.inj h
                              subst h
                              exact az_E.ret (v := some (.int (-13 : Int32))) (σ' := (97, I, J, R)) rfl hQ
                            · rw [if_neg hc_101] at h
                              refine az_E.sn 2 (pc' := 31) (L' := [.ref 63, .int v4, .int v5]) (S' := [.int (1 : Int32)]) (σ' := (97, I, J, R)) rfl ?_
                              refine az_E.ret (v := some (.int (1 : Int32))) (σ' := (97, I, J, R)) rfl ?_
                              show az_E az_F ex 2 128 95 [.retAddr 0, .retAddr 0, .int v2, .retAddr 0, .int v4, .int v5, .ref 61, .ref 63] [.int (1 : Int32)] (97, I, J, R) _
                              refine az_E.br (c := (1 : Int32) = 0) (tt := 98) (ff := 101) (L' := [.retAddr 0, .retAddr 0, .int v2, .retAddr 0, .int v4, .int v5, .ref 61, .ref 63]) (S' := []) (σ' := (97, I, J, R)) rfl (fun hn => absurd hn (by decide)) (fun _ => ?_)
                              refine az_E.sn 7 (pc' := 116) (L' := [.retAddr 0, .retAddr 0, .int v2, .retAddr 0, .int v4, .int v5, .ref 61, .ref 63]) (S' := [.int v5, .int v4, .ref (63 + 1), .int v2, .ref (61 + 1)]) (σ' := (97, I, J, R)) rfl ?_
                              by_cases hc_102 : v2 < 0 ∨ v4 < 0 ∨ v5 < 0 ∨ 60 < v2.toNatClampNeg + v5.toNatClampNeg ∨ 60 < v4.toNatClampNeg + v5.toNatClampNeg
                              · rw [if_pos hc_102] at h; cases h
                              · rw [if_neg hc_102] at h
                                refine az_E.o (o := az_cp az_F (97, I, J, R) (61 + 1) v2 (63 + 1) v4 v5) (pc' := 119) (L' := [.retAddr 0, .retAddr 0, .int v2, .retAddr 0, .int v4, .int v5, .ref 61, .ref 63]) (S' := []) (x := (97, I, (az_ur J (63 + 1) (va_cpy (J (61 + 1)) (J (63 + 1)) v2.toNatClampNeg v4.toNatClampNeg v5.toNatClampNeg)), R)) rfl (if_neg hc_102) ?_
                                refine az_E.sn 1 (pc' := 121) (L' := [.retAddr 0, .retAddr 0, .int v2, .retAddr 0, .int v4, .int v5, .ref 61, .ref 63]) (S' := [.int v5]) (σ' := (97, I, (az_ur J (63 + 1) (va_cpy (J (61 + 1)) (J (63 + 1)) v2.toNatClampNeg v4.toNatClampNeg v5.toNatClampNeg)), R)) rfl ?_
                                have h := Option.some.inj h
                                subst h
                                exact az_E.ret (v := some (.int v5)) (σ' := (97, I, (az_ur J (63 + 1) (va_cpy (J (61 + 1)) (J (63 + 1)) v2.toNatClampNeg v4.toNatClampNeg v5.toNatClampNeg)), R)) rfl hQ
            · rw [if_neg hc_93] at h
              refine az_E.sn 1 (pc' := 20) (L' := [.ref 63, .int (I 61 1)]) (S' := [.int (0 : Int32)]) (σ' := (97, I, J, R)) rfl ?_
              refine az_E.ret (v := some (.int (0 : Int32))) (σ' := (97, I, J, R)) rfl ?_
              show az_E az_F ex 2 128 69 [.retAddr 0, .retAddr 0, .int v2, .retAddr 0, .int v4, .int v5, .ref 61, .ref 63] [.int (0 : Int32)] (97, I, J, R) _
              refine az_E.br (c := (0 : Int32) = 0) (tt := 72) (ff := 75) (L' := [.retAddr 0, .retAddr 0, .int v2, .retAddr 0, .int v4, .int v5, .ref 61, .ref 63]) (S' := []) (σ' := (97, I, J, R)) rfl (fun _ => ?_) (fun hn => absurd (by decide) hn)
              refine az_E.sn 1 (pc' := 74) (L' := [.retAddr 0, .retAddr 0, .int v2, .retAddr 0, .int v4, .int v5, .ref 61, .ref 63]) (S' := [.int (-12 : Int32)]) (σ' := (97, I, J, R)) rfl ?_
              have h := Option.some.inj h
              subst h
              exact az_E.ret (v := some (.int (-12 : Int32))) (σ' := (97, I, J, R)) rfl hQ
    · rw [if_neg hc_89] at h
      refine az_E.sn 1 (pc' := 21) (L' := [.ref 63]) (S' := [.int (0 : Int32)]) (σ' := (97, I, J, R)) rfl ?_
      refine az_E.ret (v := some (.int (0 : Int32))) (σ' := (97, I, J, R)) rfl ?_
      show az_E az_F ex 2 128 45 [.retAddr 0, .retAddr 0, .int v2, .retAddr 0, .int v4, .int v5, .ref 61, .ref 63] [.int (0 : Int32)] (97, I, J, R) _
      refine az_E.br (c := (0 : Int32) = 0) (tt := 51) (ff := 48) (L' := [.retAddr 0, .retAddr 0, .int v2, .retAddr 0, .int v4, .int v5, .ref 61, .ref 63]) (S' := []) (σ' := (97, I, J, R)) rfl (fun _ => ?_) (fun hn => absurd (by decide) hn)
      refine az_E.sn 1 (pc' := 53) (L' := [.retAddr 0, .retAddr 0, .int v2, .retAddr 0, .int v4, .int v5, .ref 61, .ref 63]) (S' := [.ref 61]) (σ' := (97, I, J, R)) rfl ?_
      refine az_E.call (d := 1) (k' := 55) (vs := [.ref 61]) (pc' := 56) (S' := []) rfl ?_ (fun _ _ hq => hq)
      show az_E az_F ex 1 55 0 [.ref 61] [] (97, I, J, R) _
      refine az_E.sn 3 (pc' := 5) (L' := [.ref 61]) (S' := [.int (-1 : Int32), .int (I 61 1)]) (σ' := (97, I, J, R)) rfl ?_
      refine az_E.br (c := (I 61 1) = (-1 : Int32)) (tt := 12) (ff := 8) (L' := [.ref 61]) (S' := []) (σ' := (97, I, J, R)) rfl (fun hc_103 => ?_) (fun hc_103 => ?_)
      · rw [if_pos hc_103] at h
        refine az_E.sn 1 (pc' := 13) (L' := [.ref 61]) (S' := [.int (0 : Int32)]) (σ' := (97, I, J, R)) rfl ?_
        refine az_E.ret (v := some (.int (0 : Int32))) (σ' := (97, I, J, R)) rfl ?_
        show az_E az_F ex 2 128 56 [.retAddr 0, .retAddr 0, .int v2, .retAddr 0, .int v4, .int v5, .ref 61, .ref 63] [.int (0 : Int32)] (97, I, J, R) _
        refine az_E.br (c := (0 : Int32) = 0) (tt := 72) (ff := 59) (L' := [.retAddr 0, .retAddr 0, .int v2, .retAddr 0, .int v4, .int v5, .ref 61, .ref 63]) (S' := []) (σ' := (97, I, J, R)) rfl (fun _ => ?_) (fun hn => absurd (by decide) hn)
        refine az_E.sn 1 (pc' := 74) (L' := [.retAddr 0, .retAddr 0, .int v2, .retAddr 0, .int v4, .int v5, .ref 61, .ref 63]) (S' := [.int (-12 : Int32)]) (σ' := (97, I, J, R)) rfl ?_
        have h := Option.some.inj h
        subst h
        exact az_E.ret (v := some (.int (-12 : Int32))) (σ' := (97, I, J, R)) rfl hQ
      · rw [if_neg hc_103] at h
        refine az_E.sn 2 (pc' := 13) (L' := [.ref 61]) (S' := [.int (1 : Int32)]) (σ' := (97, I, J, R)) rfl ?_
        refine az_E.ret (v := some (.int (1 : Int32))) (σ' := (97, I, J, R)) rfl ?_
        show az_E az_F ex 2 128 56 [.retAddr 0, .retAddr 0, .int v2, .retAddr 0, .int v4, .int v5, .ref 61, .ref 63] [.int (1 : Int32)] (97, I, J, R) _
        refine az_E.br (c := (1 : Int32) = 0) (tt := 72) (ff := 59) (L' := [.retAddr 0, .retAddr 0, .int v2, .retAddr 0, .int v4, .int v5, .ref 61, .ref 63]) (S' := []) (σ' := (97, I, J, R)) rfl (fun hn => absurd hn (by decide)) (fun _ => ?_)
        refine az_E.sn 3 (pc' := 66) (L' := [.retAddr 0, .retAddr 0, .int v2, .retAddr 0, .int v4, .int v5, .ref 61, .ref 63]) (S' := [.int (I 61 1), .ref 63]) (σ' := (97, I, J, R)) rfl ?_
        refine az_E.call (d := 1) (k' := 56) (vs := [.ref 63, .int (I 61 1)]) (pc' := 69) (S' := []) rfl ?_ (fun _ _ hq => hq)
        show az_E az_F ex 1 56 0 [.ref 63, .int (I 61 1)] [] (97, I, J, R) _
        refine az_E.sn 1 (pc' := 1) (L' := [.ref 63, .int (I 61 1)]) (S' := [.ref 63]) (σ' := (97, I, J, R)) rfl ?_
        refine az_E.call (d := 0) (k' := 55) (vs := [.ref 63]) (pc' := 4) (S' := []) rfl ?_ (fun _ _ hq => hq)
        show az_E az_F ex 0 55 0 [.ref 63] [] (97, I, J, R) _
        refine az_E.sn 3 (pc' := 5) (L' := [.ref 63]) (S' := [.int (-1 : Int32), .int (I 63 1)]) (σ' := (97, I, J, R)) rfl ?_
        refine az_E.br (c := (I 63 1) = (-1 : Int32)) (tt := 12) (ff := 8) (L' := [.ref 63]) (S' := []) (σ' := (97, I, J, R)) rfl (fun hc_104 => ?_) (fun hc_104 => ?_)
        · rw [if_pos hc_104] at h
          refine az_E.sn 1 (pc' := 13) (L' := [.ref 63]) (S' := [.int (0 : Int32)]) (σ' := (97, I, J, R)) rfl ?_
          refine az_E.ret (v := some (.int (0 : Int32))) (σ' := (97, I, J, R)) rfl ?_
          show az_E az_F ex 1 56 4 [.ref 63, .int (I 61 1)] [.int (0 : Int32)] (97, I, J, R) _
          refine az_E.br (c := (0 : Int32) = 0) (tt := 19) (ff := 7) (L' := [.ref 63, .int (I 61 1)]) (S' := []) (σ' := (97, I, J, R)) rfl (fun _ => ?_) (fun hn => absurd (by decide) hn)
          refine az_E.sn 1 (pc' := 20) (L' := [.ref 63, .int (I 61 1)]) (S' := [.int (0 : Int32)]) (σ' := (97, I, J, R)) rfl ?_
          refine az_E.ret (v := some (.int (0 : Int32))) (σ' := (97, I, J, R)) rfl ?_
          show az_E az_F ex 2 128 69 [.retAddr 0, .retAddr 0, .int v2, .retAddr 0, .int v4, .int v5, .ref 61, .ref 63] [.int (0 : Int32)] (97, I, J, R) _
          refine az_E.br (c := (0 : Int32) = 0) (tt := 72) (ff := 75) (L' := [.retAddr 0, .retAddr 0, .int v2, .retAddr 0, .int v4, .int v5, .ref 61, .ref 63]) (S' := []) (σ' := (97, I, J, R)) rfl (fun _ => ?_) (fun hn => absurd (by decide) hn)
          refine az_E.sn 1 (pc' := 74) (L' := [.retAddr 0, .retAddr 0, .int v2, .retAddr 0, .int v4, .int v5, .ref 61, .ref 63]) (S' := [.int (-12 : Int32)]) (σ' := (97, I, J, R)) rfl ?_
          have h := Option.some.inj h
          subst h
          exact az_E.ret (v := some (.int (-12 : Int32))) (σ' := (97, I, J, R)) rfl hQ
        · rw [if_neg hc_104] at h
          refine az_E.sn 2 (pc' := 13) (L' := [.ref 63]) (S' := [.int (1 : Int32)]) (σ' := (97, I, J, R)) rfl ?_
          refine az_E.ret (v := some (.int (1 : Int32))) (σ' := (97, I, J, R)) rfl ?_
          show az_E az_F ex 1 56 4 [.ref 63, .int (I 61 1)] [.int (1 : Int32)] (97, I, J, R) _
          refine az_E.br (c := (1 : Int32) = 0) (tt := 19) (ff := 7) (L' := [.ref 63, .int (I 61 1)]) (S' := []) (σ' := (97, I, J, R)) rfl (fun hn => absurd hn (by decide)) (fun _ => ?_)
          refine az_E.sn 3 (pc' := 12) (L' := [.ref 63, .int (I 61 1)]) (S' := [.int (I 61 1), .int (I 63 1)]) (σ' := (97, I, J, R)) rfl ?_
          refine az_E.br (c := (I 63 1) = (I 61 1)) (tt := 15) (ff := 19) (L' := [.ref 63, .int (I 61 1)]) (S' := []) (σ' := (97, I, J, R)) rfl (fun hc_105 => ?_) (fun hc_105 => ?_)
          · rw [if_pos hc_105] at h
            refine az_E.sn 2 (pc' := 20) (L' := [.ref 63, .int (I 61 1)]) (S' := [.int (1 : Int32)]) (σ' := (97, I, J, R)) rfl ?_
            refine az_E.ret (v := some (.int (1 : Int32))) (σ' := (97, I, J, R)) rfl ?_
            show az_E az_F ex 2 128 69 [.retAddr 0, .retAddr 0, .int v2, .retAddr 0, .int v4, .int v5, .ref 61, .ref 63] [.int (1 : Int32)] (97, I, J, R) _
            refine az_E.br (c := (1 : Int32) = 0) (tt := 72) (ff := 75) (L' := [.retAddr 0, .retAddr 0, .int v2, .retAddr 0, .int v4, .int v5, .ref 61, .ref 63]) (S' := []) (σ' := (97, I, J, R)) rfl (fun hn => absurd hn (by decide)) (fun _ => ?_)
            refine az_E.sn 3 (pc' := 80) (L' := [.retAddr 0, .retAddr 0, .int v2, .retAddr 0, .int v4, .int v5, .ref 61, .ref 63]) (S' := [.int v5, .int v2, .ref 61]) (σ' := (97, I, J, R)) rfl ?_
            refine az_E.call (d := 1) (k' := 60) (vs := [.ref 61, .int v2, .int v5]) (pc' := 83) (S' := []) rfl ?_ (fun _ _ hq => hq)
            show az_E az_F ex 1 60 0 [.ref 61, .int v2, .int v5] [] (97, I, J, R) _
            refine az_E.sn 1 (pc' := 1) (L' := [.ref 61, .int v2, .int v5]) (S' := [.int v2]) (σ' := (97, I, J, R)) rfl ?_
            refine az_E.br (c := v2 < 0) (tt := 30) (ff := 4) (L' := [.ref 61, .int v2, .int v5]) (S' := []) (σ' := (97, I, J, R)) rfl (fun hc_106 => ?_) (fun hc_106 => ?_)
            · rw [if_pos hc_106] at h
              refine az_E.sn 1 (pc' := 31) (L' := [.ref 61, .int v2, .int v5]) (S' := [.int (0 : Int32)]) (σ' := (97, I, J, R)) rfl ?_
              refine az_E.ret (v := some (.int (0 : Int32))) (σ' := (97, I, J, R)) rfl ?_
              show az_E az_F ex 2 128 83 [.retAddr 0, .retAddr 0, .int v2, .retAddr 0, .int v4, .int v5, .ref 61, .ref 63] [.int (0 : Int32)] (97, I, J, R) _
              refine az_E.br (c := (0 : Int32) = 0) (tt := 98) (ff := 86) (L' := [.retAddr 0, .retAddr 0, .int v2, .retAddr 0, .int v4, .int v5, .ref 61, .ref 63]) (S' := []) (σ' := (97, I, J, R)) rfl (fun _ => ?_) (fun hn => absurd (by decide) hn)
              refine az_E.sn 1 (pc' := 100) (L' := [.retAddr 0, .retAddr 0, .int v2, .retAddr 0, .int v4, .int v5, .ref 61, .ref 63]) (S' := [.int (-13 : Int32)]) (σ' := (97, I, J, R)) rfl ?_
              have h := Option.some.inj h
              subst h
              exact az_E.ret (v := some (.int (-13 : Int32))) (σ' := (97, I, J, R)) rfl hQ
            · rw [if_neg hc_106] at h
              refine az_E.sn 1 (pc' := 5) (L' := [.ref 61, .int v2, .int v5]) (S' := [.int v5]) (σ' := (97, I, J, R)) rfl ?_
              refine az_E.br (c := v5 < 0) (tt := 30) (ff := 8) (L' := [.ref 61, .int v2, .int v5]) (S' := []) (σ' := (97, I, J, R)) rfl (fun hc_107 => ?_) (fun hc_107 => ?_)
              · rw [if_pos hc_107] at h
                refine az_E.sn 1 (pc' := 31) (L' := [.ref 61, .int v2, .int v5]) (S' := [.int (0 : Int32)]) (σ' := (97, I, J, R)) rfl ?_
                refine az_E.ret (v := some (.int (0 : Int32))) (σ' := (97, I, J, R)) rfl ?_
                show az_E az_F ex 2 128 83 [.retAddr 0, .retAddr 0, .int v2, .retAddr 0, .int v4, .int v5, .ref 61, .ref 63] [.int (0 : Int32)] (97, I, J, R) _
                refine az_E.br (c := (0 : Int32) = 0) (tt := 98) (ff := 86) (L' := [.retAddr 0, .retAddr 0, .int v2, .retAddr 0, .int v4, .int v5, .ref 61, .ref 63]) (S' := []) (σ' := (97, I, J, R)) rfl (fun _ => ?_) (fun hn => absurd (by decide) hn)
                refine az_E.sn 1 (pc' := 100) (L' := [.retAddr 0, .retAddr 0, .int v2, .retAddr 0, .int v4, .int v5, .ref 61, .ref 63]) (S' := [.int (-13 : Int32)]) (σ' := (97, I, J, R)) rfl ?_
                have h := Option.some.inj h
                subst h
                exact az_E.ret (v := some (.int (-13 : Int32))) (σ' := (97, I, J, R)) rfl hQ
              · rw [if_neg hc_107] at h
                refine az_E.sn 3 (pc' := 13) (L' := [.ref 61, .int v2, .int v5]) (S' := [.int (I 61 2), .int v2]) (σ' := (97, I, J, R)) rfl ?_
                refine az_E.br (c := (I 61 2) < v2) (tt := 30) (ff := 16) (L' := [.ref 61, .int v2, .int v5]) (S' := []) (σ' := (97, I, J, R)) rfl (fun hc_108 => ?_) (fun hc_108 => ?_)
                · rw [if_pos hc_108] at h
                  refine az_E.sn 1 (pc' := 31) (L' := [.ref 61, .int v2, .int v5]) (S' := [.int (0 : Int32)]) (σ' := (97, I, J, R)) rfl ?_
                  refine az_E.ret (v := some (.int (0 : Int32))) (σ' := (97, I, J, R)) rfl ?_
                  show az_E az_F ex 2 128 83 [.retAddr 0, .retAddr 0, .int v2, .retAddr 0, .int v4, .int v5, .ref 61, .ref 63] [.int (0 : Int32)] (97, I, J, R) _
                  refine az_E.br (c := (0 : Int32) = 0) (tt := 98) (ff := 86) (L' := [.retAddr 0, .retAddr 0, .int v2, .retAddr 0, .int v4, .int v5, .ref 61, .ref 63]) (S' := []) (σ' := (97, I, J, R)) rfl (fun _ => ?_) (fun hn => absurd (by decide) hn)
                  refine az_E.sn 1 (pc' := 100) (L' := [.retAddr 0, .retAddr 0, .int v2, .retAddr 0, .int v4, .int v5, .ref 61, .ref 63]) (S' := [.int (-13 : Int32)]) (σ' := (97, I, J, R)) rfl ?_
                  have h := Option.some.inj h
                  subst h
                  exact az_E.ret (v := some (.int (-13 : Int32))) (σ' := (97, I, J, R)) rfl hQ
                · rw [if_neg hc_108] at h
                  refine az_E.sn 5 (pc' := 23) (L' := [.ref 61, .int v2, .int v5]) (S' := [.int ((I 61 2) - v2), .int v5]) (σ' := (97, I, J, R)) rfl ?_
                  refine az_E.br (c := ((I 61 2) - v2) < v5) (tt := 30) (ff := 26) (L' := [.ref 61, .int v2, .int v5]) (S' := []) (σ' := (97, I, J, R)) rfl (fun hc_109 => ?_) (fun hc_109 => ?_)
                  · rw [if_pos hc_109] at h
                    refine az_E.sn 1 (pc' := 31) (L' := [.ref 61, .int v2, .int v5]) (S' := [.int (0 : Int32)]) (σ' := (97, I, J, R)) rfl ?_
                    refine az_E.ret (v := some (.int (0 : Int32))) (σ' := (97, I, J, R)) rfl ?_
                    show az_E az_F ex 2 128 83 [.retAddr 0, .retAddr 0, .int v2, .retAddr 0, .int v4, .int v5, .ref 61, .ref 63] [.int (0 : Int32)] (97, I, J, R) _
                    refine az_E.br (c := (0 : Int32) = 0) (tt := 98) (ff := 86) (L' := [.retAddr 0, .retAddr 0, .int v2, .retAddr 0, .int v4, .int v5, .ref 61, .ref 63]) (S' := []) (σ' := (97, I, J, R)) rfl (fun _ => ?_) (fun hn => absurd (by decide) hn)
                    refine az_E.sn 1 (pc' := 100) (L' := [.retAddr 0, .retAddr 0, .int v2, .retAddr 0, .int v4, .int v5, .ref 61, .ref 63]) (S' := [.int (-13 : Int32)]) (σ' := (97, I, J, R)) rfl ?_
                    have h := Option.some.inj h
                    subst h
                    exact az_E.ret (v := some (.int (-13 : Int32))) (σ' := (97, I, J, R)) rfl hQ
                  · rw [if_neg hc_109] at h
                    refine az_E.sn 2 (pc' := 31) (L' := [.ref 61, .int v2, .int v5]) (S' := [.int (1 : Int32)]) (σ' := (97, I, J, R)) rfl ?_
                    refine az_E.ret (v := some (.int (1 : Int32))) (σ' := (97, I, J, R)) rfl ?_
                    show az_E az_F ex 2 128 83 [.retAddr 0, .retAddr 0, .int v2, .retAddr 0, .int v4, .int v5, .ref 61, .ref 63] [.int (1 : Int32)] (97, I, J, R) _
                    refine az_E.br (c := (1 : Int32) = 0) (tt := 98) (ff := 86) (L' := [.retAddr 0, .retAddr 0, .int v2, .retAddr 0, .int v4, .int v5, .ref 61, .ref 63]) (S' := []) (σ' := (97, I, J, R)) rfl (fun hn => absurd hn (by decide)) (fun _ => ?_)
                    refine az_E.sn 3 (pc' := 92) (L' := [.retAddr 0, .retAddr 0, .int v2, .retAddr 0, .int v4, .int v5, .ref 61, .ref 63]) (S' := [.int v5, .int v4, .ref 63]) (σ' := (97, I, J, R)) rfl ?_
                    refine az_E.call (d := 1) (k' := 60) (vs := [.ref 63, .int v4, .int v5]) (pc' := 95) (S' := []) rfl ?_ (fun _ _ hq => hq)
                    show az_E az_F ex 1 60 0 [.ref 63, .int v4, .int v5] [] (97, I, J, R) _
                    refine az_E.sn 1 (pc' := 1) (L' := [.ref 63, .int v4, .int v5]) (S' := [.int v4]) (σ' := (97, I, J, R)) rfl ?_
                    refine az_E.br (c := v4 < 0) (tt := 30) (ff := 4) (L' := [.ref 63, .int v4, .int v5]) (S' := []) (σ' := (97, I, J, R)) rfl (fun hc_110 => ?_) (fun hc_110 => ?_)
                    · rw [if_pos hc_110] at h
                      refine az_E.sn 1 (pc' := 31) (L' := [.ref 63, .int v4, .int v5]) (S' := [.int (0 : Int32)]) (σ' := (97, I, J, R)) rfl ?_
                      refine az_E.ret (v := some (.int (0 : Int32))) (σ' := (97, I, J, R)) rfl ?_
                      show az_E az_F ex 2 128 95 [.retAddr 0, .retAddr 0, .int v2, .retAddr 0, .int v4, .int v5, .ref 61, .ref 63] [.int (0 : Int32)] (97, I, J, R) _
                      refine az_E.br (c := (0 : Int32) = 0) (tt := 98) (ff := 101) (L' := [.retAddr 0, .retAddr 0, .int v2, .retAddr 0, .int v4, .int v5, .ref 61, .ref 63]) (S' := []) (σ' := (97, I, J, R)) rfl (fun _ => ?_) (fun hn => absurd (by decide) hn)
                      refine az_E.sn 1 (pc' := 100) (L' := [.retAddr 0, .retAddr 0, .int v2, .retAddr 0, .int v4, .int v5, .ref 61, .ref 63]) (S' := [.int (-13 : Int32)]) (σ' := (97, I, J, R)) rfl ?_
                      have h := Option.some.inj h
                      subst h
                      exact az_E.ret (v := some (.int (-13 : Int32))) (σ' := (97, I, J, R)) rfl hQ
                    · rw [if_neg hc_110] at h
                      refine az_E.sn 1 (pc' := 5) (L' := [.ref 63, .int v4, .int v5]) (S' := [.int v5]) (σ' := (97, I, J, R)) rfl ?_
                      refine az_E.br (c := v5 < 0) (tt := 30) (ff := 8) (L' := [.ref 63, .int v4, .int v5]) (S' := []) (σ' := (97, I, J, R)) rfl (fun hc_111 => ?_) (fun hc_111 => ?_)
                      · rw [if_pos hc_111] at h
                        refine az_E.sn 1 (pc' := 31) (L' := [.ref 63, .int v4, .int v5]) (S' := [.int (0 : Int32)]) (σ' := (97, I, J, R)) rfl ?_
                        refine az_E.ret (v := some (.int (0 : Int32))) (σ' := (97, I, J, R)) rfl ?_
                        show az_E az_F ex 2 128 95 [.retAddr 0, .retAddr 0, .int v2, .retAddr 0, .int v4, .int v5, .ref 61, .ref 63] [.int (0 : Int32)] (97, I, J, R) _
                        refine az_E.br (c := (0 : Int32) = 0) (tt := 98) (ff := 101) (L' := [.retAddr 0, .retAddr 0, .int v2, .retAddr 0, .int v4, .int v5, .ref 61, .ref 63]) (S' := []) (σ' := (97, I, J, R)) rfl (fun _ => ?_) (fun hn => absurd (by decide) hn)
                        refine az_E.sn 1 (pc' := 100) (L' := [.retAddr 0, .retAddr 0, .int v2, .retAddr 0, .int v4, .int v5, .ref 61, .ref 63]) (S' := [.int (-13 : Int32)]) (σ' := (97, I, J, R)) rfl ?_
                        have h := Option.some.inj h
                        subst h
                        exact az_E.ret (v := some (.int (-13 : Int32))) (σ' := (97, I, J, R)) rfl hQ
                      · rw [if_neg hc_111] at h
                        refine az_E.sn 3 (pc' := 13) (L' := [.ref 63, .int v4, .int v5]) (S' := [.int (I 63 2), .int v4]) (σ' := (97, I, J, R)) rfl ?_
                        refine az_E.br (c := (I 63 2) < v4) (tt := 30) (ff := 16) (L' := [.ref 63, .int v4, .int v5]) (S' := []) (σ' := (97, I, J, R)) rfl (fun hc_112 => ?_) (fun hc_112 => ?_)
                        · rw [if_pos hc_112] at h
                          refine az_E.sn 1 (pc' := 31) (L' := [.ref 63, .int v4, .int v5]) (S' := [.int (0 : Int32)]) (σ' := (97, I, J, R)) rfl ?_
                          refine az_E.ret (v := some (.int (0 : Int32))) (σ' := (97, I, J, R)) rfl ?_
                          show az_E az_F ex 2 128 95 [.retAddr 0, .retAddr 0, .int v2, .retAddr 0, .int v4, .int v5, .ref 61, .ref 63] [.int (0 : Int32)] (97, I, J, R) _
                          refine az_E.br (c := (0 : Int32) = 0) (tt := 98) (ff := 101) (L' := [.retAddr 0, .retAddr 0, .int v2, .retAddr 0, .int v4, .int v5, .ref 61, .ref 63]) (S' := []) (σ' := (97, I, J, R)) rfl (fun _ => ?_) (fun hn => absurd (by decide) hn)
                          refine az_E.sn 1 (pc' := 100) (L' := [.retAddr 0, .retAddr 0, .int v2, .retAddr 0, .int v4, .int v5, .ref 61, .ref 63]) (S' := [.int (-13 : Int32)]) (σ' := (97, I, J, R)) rfl ?_
                          have h := Option.some.inj h
                          subst h
                          exact az_E.ret (v := some (.int (-13 : Int32))) (σ' := (97, I, J, R)) rfl hQ
                        · rw [if_neg hc_112] at h
                          refine az_E.sn 5 (pc' := 23) (L' := [.ref 63, .int v4, .int v5]) (S' := [.int ((I 63 2) - v4), .int v5]) (σ' := (97, I, J, R)) rfl ?_
                          refine az_E.br (c := ((I 63 2) - v4) < v5) (tt := 30) (ff := 26) (L' := [.ref 63, .int v4, .int v5]) (S' := []) (σ' := (97, I, J, R)) rfl (fun hc_113 => ?_) (fun hc_113 => ?_)
                          · rw [if_pos hc_113] at h
                            refine az_E.sn 1 (pc' := 31) (L' := [.ref 63, .int v4, .int v5]) (S' := [.int (0 : Int32)]) (σ' := (97, I, J, R)) rfl ?_
                            refine az_E.ret (v := some (.int (0 : Int32))) (σ' := (97, I, J, R)) rfl ?_
                            show az_E az_F ex 2 128 95 [.retAddr 0, .retAddr 0, .int v2, .retAddr 0, .int v4, .int v5, .ref 61, .ref 63] [.int (0 : Int32)] (97, I, J, R) _
                            refine az_E.br (c := (0 : Int32) = 0) (tt := 98) (ff := 101) (L' := [.retAddr 0, .retAddr 0, .int v2, .retAddr 0, .int v4, .int v5, .ref 61, .ref 63]) (S' := []) (σ' := (97, I, J, R)) rfl (fun _ => ?_) (fun hn => absurd (by decide) hn)
                            refine az_E.sn 1 (pc' := 100) (L' := [.retAddr 0, .retAddr 0, .int v2, .retAddr 0, .int v4, .int v5, .ref 61, .ref 63]) (S' := [.int (-13 : Int32)]) (σ' := (97, I, J, R)) rfl ?_
                            have h := Option.some.inj h
                            subst h
                            exact az_E.ret (v := some (.int (-13 : Int32))) (σ' := (97, I, J, R)) rfl hQ
                          · rw [if_neg hc_113] at h
                            refine az_E.sn 2 (pc' := 31) (L' := [.ref 63, .int v4, .int v5]) (S' := [.int (1 : Int32)]) (σ' := (97, I, J, R)) rfl ?_
                            refine az_E.ret (v := some (.int (1 : Int32))) (σ' := (97, I, J, R)) rfl ?_
                            show az_E az_F ex 2 128 95 [.retAddr 0, .retAddr 0, .int v2, .retAddr 0, .int v4, .int v5, .ref 61, .ref 63] [.int (1 : Int32)] (97, I, J, R) _
                            refine az_E.br (c := (1 : Int32) = 0) (tt := 98) (ff := 101) (L' := [.retAddr 0, .retAddr 0, .int v2, .retAddr 0, .int v4, .int v5, .ref 61, .ref 63]) (S' := []) (σ' := (97, I, J, R)) rfl (fun hn => absurd hn (by decide)) (fun _ => ?_)
                            refine az_E.sn 7 (pc' := 116) (L' := [.retAddr 0, .retAddr 0, .int v2, .retAddr 0, .int v4, .int v5, .ref 61, .ref 63]) (S' := [.int v5, .int v4, .ref (63 + 1), .int v2, .ref (61 + 1)]) (σ' := (97, I, J, R)) rfl ?_
                            by_cases hc_114 : v2 < 0 ∨ v4 < 0 ∨ v5 < 0 ∨ 60 < v2.toNatClampNeg + v5.toNatClampNeg ∨ 60 < v4.toNatClampNeg + v5.toNatClampNeg
                            · rw [if_pos hc_114] at h; cases h
                            · rw [if_neg hc_114] at h
                              refine az_E.o (o := az_cp az_F (97, I, J, R) (61 + 1) v2 (63 + 1) v4 v5) (pc' := 119) (L' := [.retAddr 0, .retAddr 0, .int v2, .retAddr 0, .int v4, .int v5, .ref 61, .ref 63]) (S' := []) (x := (97, I, (az_ur J (63 + 1) (va_cpy (J (61 + 1)) (J (63 + 1)) v2.toNatClampNeg v4.toNatClampNeg v5.toNatClampNeg)), R)) rfl (if_neg hc_114) ?_
                              refine az_E.sn 1 (pc' := 121) (L' := [.retAddr 0, .retAddr 0, .int v2, .retAddr 0, .int v4, .int v5, .ref 61, .ref 63]) (S' := [.int v5]) (σ' := (97, I, (az_ur J (63 + 1) (va_cpy (J (61 + 1)) (J (63 + 1)) v2.toNatClampNeg v4.toNatClampNeg v5.toNatClampNeg)), R)) rfl ?_
                              have h := Option.some.inj h
                              subst h
                              exact az_E.ret (v := some (.int v5)) (σ' := (97, I, (az_ur J (63 + 1) (va_cpy (J (61 + 1)) (J (63 + 1)) v2.toNatClampNeg v4.toNatClampNeg v5.toNatClampNeg)), R)) rfl hQ
          · rw [if_neg hc_105] at h
            refine az_E.sn 1 (pc' := 20) (L' := [.ref 63, .int (I 61 1)]) (S' := [.int (0 : Int32)]) (σ' := (97, I, J, R)) rfl ?_
            refine az_E.ret (v := some (.int (0 : Int32))) (σ' := (97, I, J, R)) rfl ?_
            show az_E az_F ex 2 128 69 [.retAddr 0, .retAddr 0, .int v2, .retAddr 0, .int v4, .int v5, .ref 61, .ref 63] [.int (0 : Int32)] (97, I, J, R) _
            refine az_E.br (c := (0 : Int32) = 0) (tt := 72) (ff := 75) (L' := [.retAddr 0, .retAddr 0, .int v2, .retAddr 0, .int v4, .int v5, .ref 61, .ref 63]) (S' := []) (σ' := (97, I, J, R)) rfl (fun _ => ?_) (fun hn => absurd (by decide) hn)
            refine az_E.sn 1 (pc' := 74) (L' := [.retAddr 0, .retAddr 0, .int v2, .retAddr 0, .int v4, .int v5, .ref 61, .ref 63]) (S' := [.int (-12 : Int32)]) (σ' := (97, I, J, R)) rfl ?_
            have h := Option.some.inj h
            subst h
            exact az_E.ret (v := some (.int (-12 : Int32))) (σ' := (97, I, J, R)) rfl hQ
set_option maxRecDepth 100000 in
set_option maxHeartbeats 4000000 in
theorem re_X_shift_30_61_65 {ex : az_X} {I : Nat → Nat → Int32} {J : Nat → Nat → Int64} {R : Nat → Nat → Option Nat} {v2 : Int32} {v4 : Int32} {v5 : Int32} {x : Int32 × (Nat → Nat → Int64)} (h : rs_X_shift_30 61 65 I J v2 v4 v5 = some x) {Q : Option Value → az_S → Prop} (hQ : Q (some (.int x.1)) (97, I, x.2, R)) : az_E az_F ex 2 128 30 [.retAddr 0, .retAddr 0, .int v2, .retAddr 0, .int v4, .int v5, .ref 61, .retAddr 0] [.ref 65] (97, I, J, R) Q := by
  unfold rs_X_shift_30 at h
  refine az_E.sn 2 (pc' := 34) (L' := [.retAddr 0, .retAddr 0, .int v2, .retAddr 0, .int v4, .int v5, .ref 61, .ref 65]) (S' := [.ref 61]) (σ' := (97, I, J, R)) rfl ?_
  refine az_E.call (d := 1) (k' := 54) (vs := [.ref 61]) (pc' := 37) (S' := []) rfl ?_ (fun _ _ hq => hq)
  show az_E az_F ex 1 54 0 [.ref 61] [] (97, I, J, R) _
  refine az_E.sn 3 (pc' := 5) (L' := [.ref 61]) (S' := [.int (-1 : Int32), .int (I 61 0)]) (σ' := (97, I, J, R)) rfl ?_
  refine az_E.br (c := (I 61 0) = (-1 : Int32)) (tt := 8) (ff := 20) (L' := [.ref 61]) (S' := []) (σ' := (97, I, J, R)) rfl (fun hc_115 => ?_) (fun hc_115 => ?_)
  · rw [if_pos hc_115] at h
    refine az_E.sn 3 (pc' := 13) (L' := [.ref 61]) (S' := [.int (-1 : Int32), .int (I 61 1)]) (σ' := (97, I, J, R)) rfl ?_
    refine az_E.br (c := (I 61 1) = (-1 : Int32)) (tt := 16) (ff := 20) (L' := [.ref 61]) (S' := []) (σ' := (97, I, J, R)) rfl (fun hc_116 => ?_) (fun hc_116 => ?_)
    · rw [if_pos hc_116] at h
      refine az_E.sn 2 (pc' := 21) (L' := [.ref 61]) (S' := [.int (1 : Int32)]) (σ' := (97, I, J, R)) rfl ?_
      refine az_E.ret (v := some (.int (1 : Int32))) (σ' := (97, I, J, R)) rfl ?_
      show az_E az_F ex 2 128 37 [.retAddr 0, .retAddr 0, .int v2, .retAddr 0, .int v4, .int v5, .ref 61, .ref 65] [.int (1 : Int32)] (97, I, J, R) _
      refine az_E.br (c := (1 : Int32) = 0) (tt := 40) (ff := 48) (L' := [.retAddr 0, .retAddr 0, .int v2, .retAddr 0, .int v4, .int v5, .ref 61, .ref 65]) (S' := []) (σ' := (97, I, J, R)) rfl (fun hn => absurd hn (by decide)) (fun _ => ?_)
      refine az_E.sn 1 (pc' := 50) (L' := [.retAddr 0, .retAddr 0, .int v2, .retAddr 0, .int v4, .int v5, .ref 61, .ref 65]) (S' := [.int (-11 : Int32)]) (σ' := (97, I, J, R)) rfl ?_
      have h := Option.some.inj h
      subst h
      exact az_E.ret (v := some (.int (-11 : Int32))) (σ' := (97, I, J, R)) rfl hQ
    · rw [if_neg hc_116] at h
      refine az_E.sn 1 (pc' := 21) (L' := [.ref 61]) (S' := [.int (0 : Int32)]) (σ' := (97, I, J, R)) rfl ?_
      refine az_E.ret (v := some (.int (0 : Int32))) (σ' := (97, I, J, R)) rfl ?_
      show az_E az_F ex 2 128 37 [.retAddr 0, .retAddr 0, .int v2, .retAddr 0, .int v4, .int v5, .ref 61, .ref 65] [.int (0 : Int32)] (97, I, J, R) _
      refine az_E.br (c := (0 : Int32) = 0) (tt := 40) (ff := 48) (L' := [.retAddr 0, .retAddr 0, .int v2, .retAddr 0, .int v4, .int v5, .ref 61, .ref 65]) (S' := []) (σ' := (97, I, J, R)) rfl (fun _ => ?_) (fun hn => absurd (by decide) hn)
      refine az_E.sn 1 (pc' := 42) (L' := [.retAddr 0, .retAddr 0, .int v2, .retAddr 0, .int v4, .int v5, .ref 61, .ref 65]) (S' := [.ref 65]) (σ' := (97, I, J, R)) rfl ?_
      refine az_E.call (d := 1) (k' := 54) (vs := [.ref 65]) (pc' := 45) (S' := []) rfl ?_ (fun _ _ hq => hq)
      show az_E az_F ex 1 54 0 [.ref 65] [] (97, I, J, R) _
      refine az_E.sn 3 (pc' := 5) (L' := [.ref 65]) (S' := [.int (-1 : Int32), .int (I 65 0)]) (σ' := (97, I, J, R)) rfl ?_
      refine az_E.br (c := (I 65 0) = (-1 : Int32)) (tt := 8) (ff := 20) (L' := [.ref 65]) (S' := []) (σ' := (97, I, J, R)) rfl (fun hc_117 => ?_) (fun hc_117 => ?_)
      · rw [if_pos hc_117] at h
        refine az_E.sn 3 (pc' := 13) (L' := [.ref 65]) (S' := [.int (-1 : Int32), .int (I 65 1)]) (σ' := (97, I, J, R)) rfl ?_
        refine az_E.br (c := (I 65 1) = (-1 : Int32)) (tt := 16) (ff := 20) (L' := [.ref 65]) (S' := []) (σ' := (97, I, J, R)) rfl (fun hc_118 => ?_) (fun hc_118 => ?_)
        · rw [if_pos hc_118] at h
          refine az_E.sn 2 (pc' := 21) (L' := [.ref 65]) (S' := [.int (1 : Int32)]) (σ' := (97, I, J, R)) rfl ?_
          refine az_E.ret (v := some (.int (1 : Int32))) (σ' := (97, I, J, R)) rfl ?_
          show az_E az_F ex 2 128 45 [.retAddr 0, .retAddr 0, .int v2, .retAddr 0, .int v4, .int v5, .ref 61, .ref 65] [.int (1 : Int32)] (97, I, J, R) _
          refine az_E.br (c := (1 : Int32) = 0) (tt := 51) (ff := 48) (L' := [.retAddr 0, .retAddr 0, .int v2, .retAddr 0, .int v4, .int v5, .ref 61, .ref 65]) (S' := []) (σ' := (97, I, J, R)) rfl (fun hn => absurd hn (by decide)) (fun _ => ?_)
          refine az_E.sn 1 (pc' := 50) (L' := [.retAddr 0, .retAddr 0, .int v2, .retAddr 0, .int v4, .int v5, .ref 61, .ref 65]) (S' := [.int (-11 : Int32)]) (σ' := (97, I, J, R)) rfl ?_
          have h := Option.some.inj h
          subst h
          exact az_E.ret (v := some (.int (-11 : Int32))) (σ' := (97, I, J, R)) rfl hQ
        · rw [if_neg hc_118] at h
          refine az_E.sn 1 (pc' := 21) (L' := [.ref 65]) (S' := [.int (0 : Int32)]) (σ' := (97, I, J, R)) rfl ?_
          refine az_E.ret (v := some (.int (0 : Int32))) (σ' := (97, I, J, R)) rfl ?_
          show az_E az_F ex 2 128 45 [.retAddr 0, .retAddr 0, .int v2, .retAddr 0, .int v4, .int v5, .ref 61, .ref 65] [.int (0 : Int32)] (97, I, J, R) _
          refine az_E.br (c := (0 : Int32) = 0) (tt := 51) (ff := 48) (L' := [.retAddr 0, .retAddr 0, .int v2, .retAddr 0, .int v4, .int v5, .ref 61, .ref 65]) (S' := []) (σ' := (97, I, J, R)) rfl (fun _ => ?_) (fun hn => absurd (by decide) hn)
          refine az_E.sn 1 (pc' := 53) (L' := [.retAddr 0, .retAddr 0, .int v2, .retAddr 0, .int v4, .int v5, .ref 61, .ref 65]) (S' := [.ref 61]) (σ' := (97, I, J, R)) rfl ?_
          refine az_E.call (d := 1) (k' := 55) (vs := [.ref 61]) (pc' := 56) (S' := []) rfl ?_ (fun _ _ hq => hq)
          show az_E az_F ex 1 55 0 [.ref 61] [] (97, I, J, R) _
          refine az_E.sn 3 (pc' := 5) (L' := [.ref 61]) (S' := [.int (-1 : Int32), .int (I 61 1)]) (σ' := (97, I, J, R)) rfl ?_
          refine az_E.br (c := (I 61 1) = (-1 : Int32)) (tt := 12) (ff := 8) (L' := [.ref 61]) (S' := []) (σ' := (97, I, J, R)) rfl (fun hc_119 => ?_) (fun hc_119 => ?_)
          · rw [if_pos hc_119] at h
            refine az_E.sn 1 (pc' := 13) (L' := [.ref 61]) (S' := [.int (0 : Int32)]) (σ' := (97, I, J, R)) rfl ?_
            refine az_E.ret (v := some (.int (0 : Int32))) (σ' := (97, I, J, R)) rfl ?_
            show az_E az_F ex 2 128 56 [.retAddr 0, .retAddr 0, .int v2, .retAddr 0, .int v4, .int v5, .ref 61, .ref 65] [.int (0 : Int32)] (97, I, J, R) _
            refine az_E.br (c := (0 : Int32) = 0) (tt := 72) (ff := 59) (L' := [.retAddr 0, .retAddr 0, .int v2, .retAddr 0, .int v4, .int v5, .ref 61, .ref 65]) (S' := []) (σ' := (97, I, J, R)) rfl (fun _ => ?_) (fun hn => absurd (by decide) hn)
            refine az_E.sn 1 (pc' := 74) (L' := [.retAddr 0, .retAddr 0, .int v2, .retAddr 0, .int v4, .int v5, .ref 61, .ref 65]) (S' := [.int (-12 : Int32)]) (σ' := (97, I, J, R)) rfl ?_
            have h := Option.some.inj h
            subst h
            exact az_E.ret (v := some (.int (-12 : Int32))) (σ' := (97, I, J, R)) rfl hQ
          · rw [if_neg hc_119] at h
            refine az_E.sn 2 (pc' := 13) (L' := [.ref 61]) (S' := [.int (1 : Int32)]) (σ' := (97, I, J, R)) rfl ?_
            refine az_E.ret (v := some (.int (1 : Int32))) (σ' := (97, I, J, R)) rfl ?_
            show az_E az_F ex 2 128 56 [.retAddr 0, .retAddr 0, .int v2, .retAddr 0, .int v4, .int v5, .ref 61, .ref 65] [.int (1 : Int32)] (97, I, J, R) _
            refine az_E.br (c := (1 : Int32) = 0) (tt := 72) (ff := 59) (L' := [.retAddr 0, .retAddr 0, .int v2, .retAddr 0, .int v4, .int v5, .ref 61, .ref 65]) (S' := []) (σ' := (97, I, J, R)) rfl (fun hn => absurd hn (by decide)) (fun _ => ?_)
            refine az_E.sn 3 (pc' := 66) (L' := [.retAddr 0, .retAddr 0, .int v2, .retAddr 0, .int v4, .int v5, .ref 61, .ref 65]) (S' := [.int (I 61 1), .ref 65]) (σ' := (97, I, J, R)) rfl ?_
            refine az_E.call (d := 1) (k' := 56) (vs := [.ref 65, .int (I 61 1)]) (pc' := 69) (S' := []) rfl ?_ (fun _ _ hq => hq)
            show az_E az_F ex 1 56 0 [.ref 65, .int (I 61 1)] [] (97, I, J, R) _
            refine az_E.sn 1 (pc' := 1) (L' := [.ref 65, .int (I 61 1)]) (S' := [.ref 65]) (σ' := (97, I, J, R)) rfl ?_
            refine az_E.call (d := 0) (k' := 55) (vs := [.ref 65]) (pc' := 4) (S' := []) rfl ?_ (fun _ _ hq => hq)
            show az_E az_F ex 0 55 0 [.ref 65] [] (97, I, J, R) _
            refine az_E.sn 3 (pc' := 5) (L' := [.ref 65]) (S' := [.int (-1 : Int32), .int (I 65 1)]) (σ' := (97, I, J, R)) rfl ?_
            refine az_E.br (c := (I 65 1) = (-1 : Int32)) (tt := 12) (ff := 8) (L' := [.ref 65]) (S' := []) (σ' := (97, I, J, R)) rfl (fun hc_120 => ?_) (fun hc_120 => ?_)
            · rw [if_pos hc_120] at h
              refine az_E.sn 1 (pc' := 13) (L' := [.ref 65]) (S' := [.int (0 : Int32)]) (σ' := (97, I, J, R)) rfl ?_
              refine az_E.ret (v := some (.int (0 : Int32))) (σ' := (97, I, J, R)) rfl ?_
              show az_E az_F ex 1 56 4 [.ref 65, .int (I 61 1)] [.int (0 : Int32)] (97, I, J, R) _
              refine az_E.br (c := (0 : Int32) = 0) (tt := 19) (ff := 7) (L' := [.ref 65, .int (I 61 1)]) (S' := []) (σ' := (97, I, J, R)) rfl (fun _ => ?_) (fun hn => absurd (by decide) hn)
              refine az_E.sn 1 (pc' := 20) (L' := [.ref 65, .int (I 61 1)]) (S' := [.int (0 : Int32)]) (σ' := (97, I, J, R)) rfl ?_
              refine az_E.ret (v := some (.int (0 : Int32))) (σ' := (97, I, J, R)) rfl ?_
              show az_E az_F ex 2 128 69 [.retAddr 0, .retAddr 0, .int v2, .retAddr 0, .int v4, .int v5, .ref 61, .ref 65] [.int (0 : Int32)] (97, I, J, R) _
              refine az_E.br (c := (0 : Int32) = 0) (tt := 72) (ff := 75) (L' := [.retAddr 0, .retAddr 0, .int v2, .retAddr 0, .int v4, .int v5, .ref 61, .ref 65]) (S' := []) (σ' := (97, I, J, R)) rfl (fun _ => ?_) (fun hn => absurd (by decide) hn)
              refine az_E.sn 1 (pc' := 74) (L' := [.retAddr 0, .retAddr 0, .int v2, .retAddr 0, .int v4, .int v5, .ref 61, .ref 65]) (S' := [.int (-12 : Int32)]) (σ' := (97, I, J, R)) rfl ?_
              have h := Option.some.inj h
              subst h
              exact az_E.ret (v := some (.int (-12 : Int32))) (σ' := (97, I, J, R)) rfl hQ
            · rw [if_neg hc_120] at h
              refine az_E.sn 2 (pc' := 13) (L' := [.ref 65]) (S' := [.int (1 : Int32)]) (σ' := (97, I, J, R)) rfl ?_
              refine az_E.ret (v := some (.int (1 : Int32))) (σ' := (97, I, J, R)) rfl ?_
              show az_E az_F ex 1 56 4 [.ref 65, .int (I 61 1)] [.int (1 : Int32)] (97, I, J, R) _
              refine az_E.br (c := (1 : Int32) = 0) (tt := 19) (ff := 7) (L' := [.ref 65, .int (I 61 1)]) (S' := []) (σ' := (97, I, J, R)) rfl (fun hn => absurd hn (by decide)) (fun _ => ?_)
              refine az_E.sn 3 (pc' := 12) (L' := [.ref 65, .int (I 61 1)]) (S' := [.int (I 61 1), .int (I 65 1)]) (σ' := (97, I, J, R)) rfl ?_
              refine az_E.br (c := (I 65 1) = (I 61 1)) (tt := 15) (ff := 19) (L' := [.ref 65, .int (I 61 1)]) (S' := []) (σ' := (97, I, J, R)) rfl (fun hc_121 => ?_) (fun hc_121 => ?_)
              · rw [if_pos hc_121] at h
                refine az_E.sn 2 (pc' := 20) (L' := [.ref 65, .int (I 61 1)]) (S' := [.int (1 : Int32)]) (σ' := (97, I, J, R)) rfl ?_
                refine az_E.ret (v := some (.int (1 : Int32))) (σ' := (97, I, J, R)) rfl ?_
                show az_E az_F ex 2 128 69 [.retAddr 0, .retAddr 0, .int v2, .retAddr 0, .int v4, .int v5, .ref 61, .ref 65] [.int (1 : Int32)] (97, I, J, R) _
                refine az_E.br (c := (1 : Int32) = 0) (tt := 72) (ff := 75) (L' := [.retAddr 0, .retAddr 0, .int v2, .retAddr 0, .int v4, .int v5, .ref 61, .ref 65]) (S' := []) (σ' := (97, I, J, R)) rfl (fun hn => absurd hn (by decide)) (fun _ => ?_)
                refine az_E.sn 3 (pc' := 80) (L' := [.retAddr 0, .retAddr 0, .int v2, .retAddr 0, .int v4, .int v5, .ref 61, .ref 65]) (S' := [.int v5, .int v2, .ref 61]) (σ' := (97, I, J, R)) rfl ?_
                refine az_E.call (d := 1) (k' := 60) (vs := [.ref 61, .int v2, .int v5]) (pc' := 83) (S' := []) rfl ?_ (fun _ _ hq => hq)
                show az_E az_F ex 1 60 0 [.ref 61, .int v2, .int v5] [] (97, I, J, R) _
                refine az_E.sn 1 (pc' := 1) (L' := [.ref 61, .int v2, .int v5]) (S' := [.int v2]) (σ' := (97, I, J, R)) rfl ?_
                refine az_E.br (c := v2 < 0) (tt := 30) (ff := 4) (L' := [.ref 61, .int v2, .int v5]) (S' := []) (σ' := (97, I, J, R)) rfl (fun hc_122 => ?_) (fun hc_122 => ?_)
                · rw [if_pos hc_122] at h
                  refine az_E.sn 1 (pc' := 31) (L' := [.ref 61, .int v2, .int v5]) (S' := [.int (0 : Int32)]) (σ' := (97, I, J, R)) rfl ?_
                  refine az_E.ret (v := some (.int (0 : Int32))) (σ' := (97, I, J, R)) rfl ?_
                  show az_E az_F ex 2 128 83 [.retAddr 0, .retAddr 0, .int v2, .retAddr 0, .int v4, .int v5, .ref 61, .ref 65] [.int (0 : Int32)] (97, I, J, R) _
                  refine az_E.br (c := (0 : Int32) = 0) (tt := 98) (ff := 86) (L' := [.retAddr 0, .retAddr 0, .int v2, .retAddr 0, .int v4, .int v5, .ref 61, .ref 65]) (S' := []) (σ' := (97, I, J, R)) rfl (fun _ => ?_) (fun hn => absurd (by decide) hn)
                  refine az_E.sn 1 (pc' := 100) (L' := [.retAddr 0, .retAddr 0, .int v2, .retAddr 0, .int v4, .int v5, .ref 61, .ref 65]) (S' := [.int (-13 : Int32)]) (σ' := (97, I, J, R)) rfl ?_
                  have h := Option.some.inj h
                  subst h
                  exact az_E.ret (v := some (.int (-13 : Int32))) (σ' := (97, I, J, R)) rfl hQ
                · rw [if_neg hc_122] at h
                  refine az_E.sn 1 (pc' := 5) (L' := [.ref 61, .int v2, .int v5]) (S' := [.int v5]) (σ' := (97, I, J, R)) rfl ?_
                  refine az_E.br (c := v5 < 0) (tt := 30) (ff := 8) (L' := [.ref 61, .int v2, .int v5]) (S' := []) (σ' := (97, I, J, R)) rfl (fun hc_123 => ?_) (fun hc_123 => ?_)
                  · rw [if_pos hc_123] at h
                    refine az_E.sn 1 (pc' := 31) (L' := [.ref 61, .int v2, .int v5]) (S' := [.int (0 : Int32)]) (σ' := (97, I, J, R)) rfl ?_
                    refine az_E.ret (v := some (.int (0 : Int32))) (σ' := (97, I, J, R)) rfl ?_
                    show az_E az_F ex 2 128 83 [.retAddr 0, .retAddr 0, .int v2, .retAddr 0, .int v4, .int v5, .ref 61, .ref 65] [.int (0 : Int32)] (97, I, J, R) _
                    refine az_E.br (c := (0 : Int32) = 0) (tt := 98) (ff := 86) (L' := [.retAddr 0, .retAddr 0, .int v2, .retAddr 0, .int v4, .int v5, .ref 61, .ref 65]) (S' := []) (σ' := (97, I, J, R)) rfl (fun _ => ?_) (fun hn => absurd (by decide) hn)
                    refine az_E.sn 1 (pc' := 100) (L' := [.retAddr 0, .retAddr 0, .int v2, .retAddr 0, .int v4, .int v5, .ref 61, .ref 65]) (S' := [.int (-13 : Int32)]) (σ' := (97, I, J, R)) rfl ?_
                    have h := Option.some.inj h
                    subst h
                    exact az_E.ret (v := some (.int (-13 : Int32))) (σ' := (97, I, J, R)) rfl hQ
                  · rw [if_neg hc_123] at h
                    refine az_E.sn 3 (pc' := 13) (L' := [.ref 61, .int v2, .int v5]) (S' := [.int (I 61 2), .int v2]) (σ' := (97, I, J, R)) rfl ?_
                    refine az_E.br (c := (I 61 2) < v2) (tt := 30) (ff := 16) (L' := [.ref 61, .int v2, .int v5]) (S' := []) (σ' := (97, I, J, R)) rfl (fun hc_124 => ?_) (fun hc_124 => ?_)
                    · rw [if_pos hc_124] at h
                      refine az_E.sn 1 (pc' := 31) (L' := [.ref 61, .int v2, .int v5]) (S' := [.int (0 : Int32)]) (σ' := (97, I, J, R)) rfl ?_
                      refine az_E.ret (v := some (.int (0 : Int32))) (σ' := (97, I, J, R)) rfl ?_
                      show az_E az_F ex 2 128 83 [.retAddr 0, .retAddr 0, .int v2, .retAddr 0, .int v4, .int v5, .ref 61, .ref 65] [.int (0 : Int32)] (97, I, J, R) _
                      refine az_E.br (c := (0 : Int32) = 0) (tt := 98) (ff := 86) (L' := [.retAddr 0, .retAddr 0, .int v2, .retAddr 0, .int v4, .int v5, .ref 61, .ref 65]) (S' := []) (σ' := (97, I, J, R)) rfl (fun _ => ?_) (fun hn => absurd (by decide) hn)
                      refine az_E.sn 1 (pc' := 100) (L' := [.retAddr 0, .retAddr 0, .int v2, .retAddr 0, .int v4, .int v5, .ref 61, .ref 65]) (S' := [.int (-13 : Int32)]) (σ' := (97, I, J, R)) rfl ?_
                      have h := Option.some.inj h
                      subst h
                      exact az_E.ret (v := some (.int (-13 : Int32))) (σ' := (97, I, J, R)) rfl hQ
                    · rw [if_neg hc_124] at h
                      refine az_E.sn 5 (pc' := 23) (L' := [.ref 61, .int v2, .int v5]) (S' := [.int ((I 61 2) - v2), .int v5]) (σ' := (97, I, J, R)) rfl ?_
                      refine az_E.br (c := ((I 61 2) - v2) < v5) (tt := 30) (ff := 26) (L' := [.ref 61, .int v2, .int v5]) (S' := []) (σ' := (97, I, J, R)) rfl (fun hc_125 => ?_) (fun hc_125 => ?_)
                      · rw [if_pos hc_125] at h
                        refine az_E.sn 1 (pc' := 31) (L' := [.ref 61, .int v2, .int v5]) (S' := [.int (0 : Int32)]) (σ' := (97, I, J, R)) rfl ?_
                        refine az_E.ret (v := some (.int (0 : Int32))) (σ' := (97, I, J, R)) rfl ?_
                        show az_E az_F ex 2 128 83 [.retAddr 0, .retAddr 0, .int v2, .retAddr 0, .int v4, .int v5, .ref 61, .ref 65] [.int (0 : Int32)] (97, I, J, R) _
                        refine az_E.br (c := (0 : Int32) = 0) (tt := 98) (ff := 86) (L' := [.retAddr 0, .retAddr 0, .int v2, .retAddr 0, .int v4, .int v5, .ref 61, .ref 65]) (S' := []) (σ' := (97, I, J, R)) rfl (fun _ => ?_) (fun hn => absurd (by decide) hn)
                        refine az_E.sn 1 (pc' := 100) (L' := [.retAddr 0, .retAddr 0, .int v2, .retAddr 0, .int v4, .int v5, .ref 61, .ref 65]) (S' := [.int (-13 : Int32)]) (σ' := (97, I, J, R)) rfl ?_
                        have h := Option.some.inj h
                        subst h
                        exact az_E.ret (v := some (.int (-13 : Int32))) (σ' := (97, I, J, R)) rfl hQ
                      · rw [if_neg hc_125] at h
                        refine az_E.sn 2 (pc' := 31) (L' := [.ref 61, .int v2, .int v5]) (S' := [.int (1 : Int32)]) (σ' := (97, I, J, R)) rfl ?_
                        refine az_E.ret (v := some (.int (1 : Int32))) (σ' := (97, I, J, R)) rfl ?_
                        show az_E az_F ex 2 128 83 [.retAddr 0, .retAddr 0, .int v2, .retAddr 0, .int v4, .int v5, .ref 61, .ref 65] [.int (1 : Int32)] (97, I, J, R) _
                        refine az_E.br (c := (1 : Int32) = 0) (tt := 98) (ff := 86) (L' := [.retAddr 0, .retAddr 0, .int v2, .retAddr 0, .int v4, .int v5, .ref 61, .ref 65]) (S' := []) (σ' := (97, I, J, R)) rfl (fun hn => absurd hn (by decide)) (fun _ => ?_)
                        refine az_E.sn 3 (pc' := 92) (L' := [.retAddr 0, .retAddr 0, .int v2, .retAddr 0, .int v4, .int v5, .ref 61, .ref 65]) (S' := [.int v5, .int v4, .ref 65]) (σ' := (97, I, J, R)) rfl ?_
                        refine az_E.call (d := 1) (k' := 60) (vs := [.ref 65, .int v4, .int v5]) (pc' := 95) (S' := []) rfl ?_ (fun _ _ hq => hq)
                        show az_E az_F ex 1 60 0 [.ref 65, .int v4, .int v5] [] (97, I, J, R) _
                        refine az_E.sn 1 (pc' := 1) (L' := [.ref 65, .int v4, .int v5]) (S' := [.int v4]) (σ' := (97, I, J, R)) rfl ?_
                        refine az_E.br (c := v4 < 0) (tt := 30) (ff := 4) (L' := [.ref 65, .int v4, .int v5]) (S' := []) (σ' := (97, I, J, R)) rfl (fun hc_126 => ?_) (fun hc_126 => ?_)
                        · rw [if_pos hc_126] at h
                          refine az_E.sn 1 (pc' := 31) (L' := [.ref 65, .int v4, .int v5]) (S' := [.int (0 : Int32)]) (σ' := (97, I, J, R)) rfl ?_
                          refine az_E.ret (v := some (.int (0 : Int32))) (σ' := (97, I, J, R)) rfl ?_
                          show az_E az_F ex 2 128 95 [.retAddr 0, .retAddr 0, .int v2, .retAddr 0, .int v4, .int v5, .ref 61, .ref 65] [.int (0 : Int32)] (97, I, J, R) _
                          refine az_E.br (c := (0 : Int32) = 0) (tt := 98) (ff := 101) (L' := [.retAddr 0, .retAddr 0, .int v2, .retAddr 0, .int v4, .int v5, .ref 61, .ref 65]) (S' := []) (σ' := (97, I, J, R)) rfl (fun _ => ?_) (fun hn => absurd (by decide) hn)
                          refine az_E.sn 1 (pc' := 100) (L' := [.retAddr 0, .retAddr 0, .int v2, .retAddr 0, .int v4, .int v5, .ref 61, .ref 65]) (S' := [.int (-13 : Int32)]) (σ' := (97, I, J, R)) rfl ?_
                          have h := Option.some.inj h
                          subst h
                          exact az_E.ret (v := some (.int (-13 : Int32))) (σ' := (97, I, J, R)) rfl hQ
                        · rw [if_neg hc_126] at h
                          refine az_E.sn 1 (pc' := 5) (L' := [.ref 65, .int v4, .int v5]) (S' := [.int v5]) (σ' := (97, I, J, R)) rfl ?_
                          refine az_E.br (c := v5 < 0) (tt := 30) (ff := 8) (L' := [.ref 65, .int v4, .int v5]) (S' := []) (σ' := (97, I, J, R)) rfl (fun hc_127 => ?_) (fun hc_127 => ?_)
                          · rw [if_pos hc_127] at h
                            refine az_E.sn 1 (pc' := 31) (L' := [.ref 65, .int v4, .int v5]) (S' := [.int (0 : Int32)]) (σ' := (97, I, J, R)) rfl ?_
                            refine az_E.ret (v := some (.int (0 : Int32))) (σ' := (97, I, J, R)) rfl ?_
                            show az_E az_F ex 2 128 95 [.retAddr 0, .retAddr 0, .int v2, .retAddr 0, .int v4, .int v5, .ref 61, .ref 65] [.int (0 : Int32)] (97, I, J, R) _
                            refine az_E.br (c := (0 : Int32) = 0) (tt := 98) (ff := 101) (L' := [.retAddr 0, .retAddr 0, .int v2, .retAddr 0, .int v4, .int v5, .ref 61, .ref 65]) (S' := []) (σ' := (97, I, J, R)) rfl (fun _ => ?_) (fun hn => absurd (by decide) hn)
                            refine az_E.sn 1 (pc' := 100) (L' := [.retAddr 0, .retAddr 0, .int v2, .retAddr 0, .int v4, .int v5, .ref 61, .ref 65]) (S' := [.int (-13 : Int32)]) (σ' := (97, I, J, R)) rfl ?_
                            have h := Option.some.inj h
                            subst h
                            exact az_E.ret (v := some (.int (-13 : Int32))) (σ' := (97, I, J, R)) rfl hQ
                          · rw [if_neg hc_127] at h
                            refine az_E.sn 3 (pc' := 13) (L' := [.ref 65, .int v4, .int v5]) (S' := [.int (I 65 2), .int v4]) (σ' := (97, I, J, R)) rfl ?_
                            refine az_E.br (c := (I 65 2) < v4) (tt := 30) (ff := 16) (L' := [.ref 65, .int v4, .int v5]) (S' := []) (σ' := (97, I, J, R)) rfl (fun hc_128 => ?_) (fun hc_128 => ?_)
                            · rw [if_pos hc_128] at h
                              refine az_E.sn 1 (pc' := 31) (L' := [.ref 65, .int v4, .int v5]) (S' := [.int (0 : Int32)]) (σ' := (97, I, J, R)) rfl ?_
                              refine az_E.ret (v := some (.int (0 : Int32))) (σ' := (97, I, J, R)) rfl ?_
                              show az_E az_F ex 2 128 95 [.retAddr 0, .retAddr 0, .int v2, .retAddr 0, .int v4, .int v5, .ref 61, .ref 65] [.int (0 : Int32)] (97, I, J, R) _
                              refine az_E.br (c := (0 : Int32) = 0) (tt := 98) (ff := 101) (L' := [.retAddr 0, .retAddr 0, .int v2, .retAddr 0, .int v4, .int v5, .ref 61, .ref 65]) (S' := []) (σ' := (97, I, J, R)) rfl (fun _ => ?_) (fun hn => absurd (by decide) hn)
                              refine az_E.sn 1 (pc' := 100) (L' := [.retAddr 0, .retAddr 0, .int v2, .retAddr 0, .int v4, .int v5, .ref 61, .ref 65]) (S' := [.int (-13 : Int32)]) (σ' := (97, I, J, R)) rfl ?_
                              have h := Option.some.inj h
                              subst h
                              exact az_E.ret (v := some (.int (-13 : Int32))) (σ' := (97, I, J, R)) rfl hQ
                            · rw [if_neg hc_128] at h
                              refine az_E.sn 5 (pc' := 23) (L' := [.ref 65, .int v4, .int v5]) (S' := [.int ((I 65 2) - v4), .int v5]) (σ' := (97, I, J, R)) rfl ?_
                              refine az_E.br (c := ((I 65 2) - v4) < v5) (tt := 30) (ff := 26) (L' := [.ref 65, .int v4, .int v5]) (S' := []) (σ' := (97, I, J, R)) rfl (fun hc_129 => ?_) (fun hc_129 => ?_)
                              · rw [if_pos hc_129] at h
                                refine az_E.sn 1 (pc' := 31) (L' := [.ref 65, .int v4, .int v5]) (S' := [.int (0 : Int32)]) (σ' := (97, I, J, R)) rfl ?_
                                refine az_E.ret (v := some (.int (0 : Int32))) (σ' := (97, I, J, R)) rfl ?_
                                show az_E az_F ex 2 128 95 [.retAddr 0, .retAddr 0, .int v2, .retAddr 0, .int v4, .int v5, .ref 61, .ref 65] [.int (0 : Int32)] (97, I, J, R) _
                                refine az_E.br (c := (0 : Int32) = 0) (tt := 98) (ff := 101) (L' := [.retAddr 0, .retAddr 0, .int v2, .retAddr 0, .int v4, .int v5, .ref 61, .ref 65]) (S' := []) (σ' := (97, I, J, R)) rfl (fun _ => ?_) (fun hn => absurd (by decide) hn)
                                refine az_E.sn 1 (pc' := 100) (L' := [.retAddr 0, .retAddr 0, .int v2, .retAddr 0, .int v4, .int v5, .ref 61, .ref 65]) (S' := [.int (-13 : Int32)]) (σ' := (97, I, J, R)) rfl ?_
                                have h := Option.some.inj h
                                subst h
                                exact az_E.ret (v := some (.int (-13 : Int32))) (σ' := (97, I, J, R)) rfl hQ
                              · rw [if_neg hc_129] at h
                                refine az_E.sn 2 (pc' := 31) (L' := [.ref 65, .int v4, .int v5]) (S' := [.int (1 : Int32)]) (σ' := (97, I, J, R)) rfl ?_
                                refine az_E.ret (v := some (.int (1 : Int32))) (σ' := (97, I, J, R)) rfl ?_
                                show az_E az_F ex 2 128 95 [.retAddr 0, .retAddr 0, .int v2, .retAddr 0, .int v4, .int v5, .ref 61, .ref 65] [.int (1 : Int32)] (97, I, J, R) _
                                refine az_E.br (c := (1 : Int32) = 0) (tt := 98) (ff := 101) (L' := [.retAddr 0, .retAddr 0, .int v2, .retAddr 0, .int v4, .int v5, .ref 61, .ref 65]) (S' := []) (σ' := (97, I, J, R)) rfl (fun hn => absurd hn (by decide)) (fun _ => ?_)
                                refine az_E.sn 7 (pc' := 116) (L' := [.retAddr 0, .retAddr 0, .int v2, .retAddr 0, .int v4, .int v5, .ref 61, .ref 65]) (S' := [.int v5, .int v4, .ref (65 + 1), .int v2, .ref (61 + 1)]) (σ' := (97, I, J, R)) rfl ?_
                                by_cases hc_130 : v2 < 0 ∨ v4 < 0 ∨ v5 < 0 ∨ 60 < v2.toNatClampNeg + v5.toNatClampNeg ∨ 60 < v4.toNatClampNeg + v5.toNatClampNeg
                                · rw [if_pos hc_130] at h; cases h
                                · rw [if_neg hc_130] at h
                                  refine az_E.o (o := az_cp az_F (97, I, J, R) (61 + 1) v2 (65 + 1) v4 v5) (pc' := 119) (L' := [.retAddr 0, .retAddr 0, .int v2, .retAddr 0, .int v4, .int v5, .ref 61, .ref 65]) (S' := []) (x := (97, I, (az_ur J (65 + 1) (va_cpy (J (61 + 1)) (J (65 + 1)) v2.toNatClampNeg v4.toNatClampNeg v5.toNatClampNeg)), R)) rfl (if_neg hc_130) ?_
                                  refine az_E.sn 1 (pc' := 121) (L' := [.retAddr 0, .retAddr 0, .int v2, .retAddr 0, .int v4, .int v5, .ref 61, .ref 65]) (S' := [.int v5]) (σ' := (97, I, (az_ur J (65 + 1) (va_cpy (J (61 + 1)) (J (65 + 1)) v2.toNatClampNeg v4.toNatClampNeg v5.toNatClampNeg)), R)) rfl ?_
                                  have h := Option.some.inj h
                                  subst h
                                  exact az_E.ret (v := some (.int v5)) (σ' := (97, I, (az_ur J (65 + 1) (va_cpy (J (61 + 1)) (J (65 + 1)) v2.toNatClampNeg v4.toNatClampNeg v5.toNatClampNeg)), R)) rfl hQ
              · rw [if_neg hc_121] at h
                refine az_E.sn 1 (pc' := 20) (L' := [.ref 65, .int (I 61 1)]) (S' := [.int (0 : Int32)]) (σ' := (97, I, J, R)) rfl ?_
                refine az_E.ret (v := some (.int (0 : Int32))) (σ' := (97, I, J, R)) rfl ?_
                show az_E az_F ex 2 128 69 [.retAddr 0, .retAddr 0, .int v2, .retAddr 0, .int v4, .int v5, .ref 61, .ref 65] [.int (0 : Int32)] (97, I, J, R) _
                refine az_E.br (c := (0 : Int32) = 0) (tt := 72) (ff := 75) (L' := [.retAddr 0, .retAddr 0, .int v2, .retAddr 0, .int v4, .int v5, .ref 61, .ref 65]) (S' := []) (σ' := (97, I, J, R)) rfl (fun _ => ?_) (fun hn => absurd (by decide) hn)
                refine az_E.sn 1 (pc' := 74) (L' := [.retAddr 0, .retAddr 0, .int v2, .retAddr 0, .int v4, .int v5, .ref 61, .ref 65]) (S' := [.int (-12 : Int32)]) (σ' := (97, I, J, R)) rfl ?_
                have h := Option.some.inj h
                subst h
                exact az_E.ret (v := some (.int (-12 : Int32))) (σ' := (97, I, J, R)) rfl hQ
      · rw [if_neg hc_117] at h
        refine az_E.sn 1 (pc' := 21) (L' := [.ref 65]) (S' := [.int (0 : Int32)]) (σ' := (97, I, J, R)) rfl ?_
        refine az_E.ret (v := some (.int (0 : Int32))) (σ' := (97, I, J, R)) rfl ?_
        show az_E az_F ex 2 128 45 [.retAddr 0, .retAddr 0, .int v2, .retAddr 0, .int v4, .int v5, .ref 61, .ref 65] [.int (0 : Int32)] (97, I, J, R) _
        refine az_E.br (c := (0 : Int32) = 0) (tt := 51) (ff := 48) (L' := [.retAddr 0, .retAddr 0, .int v2, .retAddr 0, .int v4, .int v5, .ref 61, .ref 65]) (S' := []) (σ' := (97, I, J, R)) rfl (fun _ => ?_) (fun hn => absurd (by decide) hn)
        refine az_E.sn 1 (pc' := 53) (L' := [.retAddr 0, .retAddr 0, .int v2, .retAddr 0, .int v4, .int v5, .ref 61, .ref 65]) (S' := [.ref 61]) (σ' := (97, I, J, R)) rfl ?_
        refine az_E.call (d := 1) (k' := 55) (vs := [.ref 61]) (pc' := 56) (S' := []) rfl ?_ (fun _ _ hq => hq)
        show az_E az_F ex 1 55 0 [.ref 61] [] (97, I, J, R) _
        refine az_E.sn 3 (pc' := 5) (L' := [.ref 61]) (S' := [.int (-1 : Int32), .int (I 61 1)]) (σ' := (97, I, J, R)) rfl ?_
        refine az_E.br (c := (I 61 1) = (-1 : Int32)) (tt := 12) (ff := 8) (L' := [.ref 61]) (S' := []) (σ' := (97, I, J, R)) rfl (fun hc_131 => ?_) (fun hc_131 => ?_)
        · rw [if_pos hc_131] at h
          refine az_E.sn 1 (pc' := 13) (L' := [.ref 61]) (S' := [.int (0 : Int32)]) (σ' := (97, I, J, R)) rfl ?_
          refine az_E.ret (v := some (.int (0 : Int32))) (σ' := (97, I, J, R)) rfl ?_
          show az_E az_F ex 2 128 56 [.retAddr 0, .retAddr 0, .int v2, .retAddr 0, .int v4, .int v5, .ref 61, .ref 65] [.int (0 : Int32)] (97, I, J, R) _
          refine az_E.br (c := (0 : Int32) = 0) (tt := 72) (ff := 59) (L' := [.retAddr 0, .retAddr 0, .int v2, .retAddr 0, .int v4, .int v5, .ref 61, .ref 65]) (S' := []) (σ' := (97, I, J, R)) rfl (fun _ => ?_) (fun hn => absurd (by decide) hn)
          refine az_E.sn 1 (pc' := 74) (L' := [.retAddr 0, .retAddr 0, .int v2, .retAddr 0, .int v4, .int v5, .ref 61, .ref 65]) (S' := [.int (-12 : Int32)]) (σ' := (97, I, J, R)) rfl ?_
          have h := Option.some.inj h
          subst h
          exact az_E.ret (v := some (.int (-12 : Int32))) (σ' := (97, I, J, R)) rfl hQ
        · rw [if_neg hc_131] at h
          refine az_E.sn 2 (pc' := 13) (L' := [.ref 61]) (S' := [.int (1 : Int32)]) (σ' := (97, I, J, R)) rfl ?_
          refine az_E.ret (v := some (.int (1 : Int32))) (σ' := (97, I, J, R)) rfl ?_
          show az_E az_F ex 2 128 56 [.retAddr 0, .retAddr 0, .int v2, .retAddr 0, .int v4, .int v5, .ref 61, .ref 65] [.int (1 : Int32)] (97, I, J, R) _
          refine az_E.br (c := (1 : Int32) = 0) (tt := 72) (ff := 59) (L' := [.retAddr 0, .retAddr 0, .int v2, .retAddr 0, .int v4, .int v5, .ref 61, .ref 65]) (S' := []) (σ' := (97, I, J, R)) rfl (fun hn => absurd hn (by decide)) (fun _ => ?_)
          refine az_E.sn 3 (pc' := 66) (L' := [.retAddr 0, .retAddr 0, .int v2, .retAddr 0, .int v4, .int v5, .ref 61, .ref 65]) (S' := [.int (I 61 1), .ref 65]) (σ' := (97, I, J, R)) rfl ?_
          refine az_E.call (d := 1) (k' := 56) (vs := [.ref 65, .int (I 61 1)]) (pc' := 69) (S' := []) rfl ?_ (fun _ _ hq => hq)
          show az_E az_F ex 1 56 0 [.ref 65, .int (I 61 1)] [] (97, I, J, R) _
          refine az_E.sn 1 (pc' := 1) (L' := [.ref 65, .int (I 61 1)]) (S' := [.ref 65]) (σ' := (97, I, J, R)) rfl ?_
          refine az_E.call (d := 0) (k' := 55) (vs := [.ref 65]) (pc' := 4) (S' := []) rfl ?_ (fun _ _ hq => hq)
          show az_E az_F ex 0 55 0 [.ref 65] [] (97, I, J, R) _
          refine az_E.sn 3 (pc' := 5) (L' := [.ref 65]) (S' := [.int (-1 : Int32), .int (I 65 1)]) (σ' := (97, I, J, R)) rfl ?_
          refine az_E.br (c := (I 65 1) = (-1 : Int32)) (tt := 12) (ff := 8) (L' := [.ref 65]) (S' := []) (σ' := (97, I, J, R)) rfl (fun hc_132 => ?_) (fun hc_132 => ?_)
          · rw [if_pos hc_132] at h
            refine az_E.sn 1 (pc' := 13) (L' := [.ref 65]) (S' := [.int (0 : Int32)]) (σ' := (97, I, J, R)) rfl ?_
            refine az_E.ret (v := some (.int (0 : Int32))) (σ' := (97, I, J, R)) rfl ?_
            show az_E az_F ex 1 56 4 [.ref 65, .int (I 61 1)] [.int (0 : Int32)] (97, I, J, R) _
            refine az_E.br (c := (0 : Int32) = 0) (tt := 19) (ff := 7) (L' := [.ref 65, .int (I 61 1)]) (S' := []) (σ' := (97, I, J, R)) rfl (fun _ => ?_) (fun hn => absurd (by decide) hn)
            refine az_E.sn 1 (pc' := 20) (L' := [.ref 65, .int (I 61 1)]) (S' := [.int (0 : Int32)]) (σ' := (97, I, J, R)) rfl ?_
            refine az_E.ret (v := some (.int (0 : Int32))) (σ' := (97, I, J, R)) rfl ?_
            show az_E az_F ex 2 128 69 [.retAddr 0, .retAddr 0, .int v2, .retAddr 0, .int v4, .int v5, .ref 61, .ref 65] [.int (0 : Int32)] (97, I, J, R) _
            refine az_E.br (c := (0 : Int32) = 0) (tt := 72) (ff := 75) (L' := [.retAddr 0, .retAddr 0, .int v2, .retAddr 0, .int v4, .int v5, .ref 61, .ref 65]) (S' := []) (σ' := (97, I, J, R)) rfl (fun _ => ?_) (fun hn => absurd (by decide) hn)
            refine az_E.sn 1 (pc' := 74) (L' := [.retAddr 0, .retAddr 0, .int v2, .retAddr 0, .int v4, .int v5, .ref 61, .ref 65]) (S' := [.int (-12 : Int32)]) (σ' := (97, I, J, R)) rfl ?_
            have h := Option.some.inj h
            subst h
            exact az_E.ret (v := some (.int (-12 : Int32))) (σ' := (97, I, J, R)) rfl hQ
          · rw [if_neg hc_132] at h
            refine az_E.sn 2 (pc' := 13) (L' := [.ref 65]) (S' := [.int (1 : Int32)]) (σ' := (97, I, J, R)) rfl ?_
            refine az_E.ret (v := some (.int (1 : Int32))) (σ' := (97, I, J, R)) rfl ?_
            show az_E az_F ex 1 56 4 [.ref 65, .int (I 61 1)] [.int (1 : Int32)] (97, I, J, R) _
            refine az_E.br (c := (1 : Int32) = 0) (tt := 19) (ff := 7) (L' := [.ref 65, .int (I 61 1)]) (S' := []) (σ' := (97, I, J, R)) rfl (fun hn => absurd hn (by decide)) (fun _ => ?_)
            refine az_E.sn 3 (pc' := 12) (L' := [.ref 65, .int (I 61 1)]) (S' := [.int (I 61 1), .int (I 65 1)]) (σ' := (97, I, J, R)) rfl ?_
            refine az_E.br (c := (I 65 1) = (I 61 1)) (tt := 15) (ff := 19) (L' := [.ref 65, .int (I 61 1)]) (S' := []) (σ' := (97, I, J, R)) rfl (fun hc_133 => ?_) (fun hc_133 => ?_)
            · rw [if_pos hc_133] at h
              refine az_E.sn 2 (pc' := 20) (L' := [.ref 65, .int (I 61 1)]) (S' := [.int (1 : Int32)]) (σ' := (97, I, J, R)) rfl ?_
              refine az_E.ret (v := some (.int (1 : Int32))) (σ' := (97, I, J, R)) rfl ?_
              show az_E az_F ex 2 128 69 [.retAddr 0, .retAddr 0, .int v2, .retAddr 0, .int v4, .int v5, .ref 61, .ref 65] [.int (1 : Int32)] (97, I, J, R) _
              refine az_E.br (c := (1 : Int32) = 0) (tt := 72) (ff := 75) (L' := [.retAddr 0, .retAddr 0, .int v2, .retAddr 0, .int v4, .int v5, .ref 61, .ref 65]) (S' := []) (σ' := (97, I, J, R)) rfl (fun hn => absurd hn (by decide)) (fun _ => ?_)
              refine az_E.sn 3 (pc' := 80) (L' := [.retAddr 0, .retAddr 0, .int v2, .retAddr 0, .int v4, .int v5, .ref 61, .ref 65]) (S' := [.int v5, .int v2, .ref 61]) (σ' := (97, I, J, R)) rfl ?_
              refine az_E.call (d := 1) (k' := 60) (vs := [.ref 61, .int v2, .int v5]) (pc' := 83) (S' := []) rfl ?_ (fun _ _ hq => hq)
              show az_E az_F ex 1 60 0 [.ref 61, .int v2, .int v5] [] (97, I, J, R) _
              refine az_E.sn 1 (pc' := 1) (L' := [.ref 61, .int v2, .int v5]) (S' := [.int v2]) (σ' := (97, I, J, R)) rfl ?_
              refine az_E.br (c := v2 < 0) (tt := 30) (ff := 4) (L' := [.ref 61, .int v2, .int v5]) (S' := []) (σ' := (97, I, J, R)) rfl (fun hc_134 => ?_) (fun hc_134 => ?_)
              · rw [if_pos hc_134] at h
                refine az_E.sn 1 (pc' := 31) (L' := [.ref 61, .int v2, .int v5]) (S' := [.int (0 : Int32)]) (σ' := (97, I, J, R)) rfl ?_
                refine az_E.ret (v := some (.int (0 : Int32))) (σ' := (97, I, J, R)) rfl ?_
                show az_E az_F ex 2 128 83 [.retAddr 0, .retAddr 0, .int v2, .retAddr 0, .int v4, .int v5, .ref 61, .ref 65] [.int (0 : Int32)] (97, I, J, R) _
                refine az_E.br (c := (0 : Int32) = 0) (tt := 98) (ff := 86) (L' := [.retAddr 0, .retAddr 0, .int v2, .retAddr 0, .int v4, .int v5, .ref 61, .ref 65]) (S' := []) (σ' := (97, I, J, R)) rfl (fun _ => ?_) (fun hn => absurd (by decide) hn)
                refine az_E.sn 1 (pc' := 100) (L' := [.retAddr 0, .retAddr 0, .int v2, .retAddr 0, .int v4, .int v5, .ref 61, .ref 65]) (S' := [.int (-13 : Int32)]) (σ' := (97, I, J, R)) rfl ?_
                have h := Option.some.inj h
                subst h
                exact az_E.ret (v := some (.int (-13 : Int32))) (σ' := (97, I, J, R)) rfl hQ
              · rw [if_neg hc_134] at h
                refine az_E.sn 1 (pc' := 5) (L' := [.ref 61, .int v2, .int v5]) (S' := [.int v5]) (σ' := (97, I, J, R)) rfl ?_
                refine az_E.br (c := v5 < 0) (tt := 30) (ff := 8) (L' := [.ref 61, .int v2, .int v5]) (S' := []) (σ' := (97, I, J, R)) rfl (fun hc_135 => ?_) (fun hc_135 => ?_)
                · rw [if_pos hc_135] at h
                  refine az_E.sn 1 (pc' := 31) (L' := [.ref 61, .int v2, .int v5]) (S' := [.int (0 : Int32)]) (σ' := (97, I, J, R)) rfl ?_
                  refine az_E.ret (v := some (.int (0 : Int32))) (σ' := (97, I, J, R)) rfl ?_
                  show az_E az_F ex 2 128 83 [.retAddr 0, .retAddr 0, .int v2, .retAddr 0, .int v4, .int v5, .ref 61, .ref 65] [.int (0 : Int32)] (97, I, J, R) _
                  refine az_E.br (c := (0 : Int32) = 0) (tt := 98) (ff := 86) (L' := [.retAddr 0, .retAddr 0, .int v2, .retAddr 0, .int v4, .int v5, .ref 61, .ref 65]) (S' := []) (σ' := (97, I, J, R)) rfl (fun _ => ?_) (fun hn => absurd (by decide) hn)
                  refine az_E.sn 1 (pc' := 100) (L' := [.retAddr 0, .retAddr 0, .int v2, .retAddr 0, .int v4, .int v5, .ref 61, .ref 65]) (S' := [.int (-13 : Int32)]) (σ' := (97, I, J, R)) rfl ?_
                  have h := Option.some.inj h
                  subst h
                  exact az_E.ret (v := some (.int (-13 : Int32))) (σ' := (97, I, J, R)) rfl hQ
                · rw [if_neg hc_135] at h
                  refine az_E.sn 3 (pc' := 13) (L' := [.ref 61, .int v2, .int v5]) (S' := [.int (I 61 2), .int v2]) (σ' := (97, I, J, R)) rfl ?_
                  refine az_E.br (c := (I 61 2) < v2) (tt := 30) (ff := 16) (L' := [.ref 61, .int v2, .int v5]) (S' := []) (σ' := (97, I, J, R)) rfl (fun hc_136 => ?_) (fun hc_136 => ?_)
                  · rw [if_pos hc_136] at h
                    refine az_E.sn 1 (pc' := 31) (L' := [.ref 61, .int v2, .int v5]) (S' := [.int (0 : Int32)]) (σ' := (97, I, J, R)) rfl ?_
                    refine az_E.ret (v := some (.int (0 : Int32))) (σ' := (97, I, J, R)) rfl ?_
                    show az_E az_F ex 2 128 83 [.retAddr 0, .retAddr 0, .int v2, .retAddr 0, .int v4, .int v5, .ref 61, .ref 65] [.int (0 : Int32)] (97, I, J, R) _
                    refine az_E.br (c := (0 : Int32) = 0) (tt := 98) (ff := 86) (L' := [.retAddr 0, .retAddr 0, .int v2, .retAddr 0, .int v4, .int v5, .ref 61, .ref 65]) (S' := []) (σ' := (97, I, J, R)) rfl (fun _ => ?_) (fun hn => absurd (by decide) hn)
                    refine az_E.sn 1 (pc' := 100) (L' := [.retAddr 0, .retAddr 0, .int v2, .retAddr 0, .int v4, .int v5, .ref 61, .ref 65]) (S' := [.int (-13 : Int32)]) (σ' := (97, I, J, R)) rfl ?_
                    have h := Option.some.inj h
                    subst h
                    exact az_E.ret (v := some (.int (-13 : Int32))) (σ' := (97, I, J, R)) rfl hQ
                  · rw [if_neg hc_136] at h
                    refine az_E.sn 5 (pc' := 23) (L' := [.ref 61, .int v2, .int v5]) (S' := [.int ((I 61 2) - v2), .int v5]) (σ' := (97, I, J, R)) rfl ?_
                    refine az_E.br (c := ((I 61 2) - v2) < v5) (tt := 30) (ff := 26) (L' := [.ref 61, .int v2, .int v5]) (S' := []) (σ' := (97, I, J, R)) rfl (fun hc_137 => ?_) (fun hc_137 => ?_)
                    · rw [if_pos hc_137] at h
                      refine az_E.sn 1 (pc' := 31) (L' := [.ref 61, .int v2, .int v5]) (S' := [.int (0 : Int32)]) (σ' := (97, I, J, R)) rfl ?_
                      refine az_E.ret (v := some (.int (0 : Int32))) (σ' := (97, I, J, R)) rfl ?_
                      show az_E az_F ex 2 128 83 [.retAddr 0, .retAddr 0, .int v2, .retAddr 0, .int v4, .int v5, .ref 61, .ref 65] [.int (0 : Int32)] (97, I, J, R) _
                      refine az_E.br (c := (0 : Int32) = 0) (tt := 98) (ff := 86) (L' := [.retAddr 0, .retAddr 0, .int v2, .retAddr 0, .int v4, .int v5, .ref 61, .ref 65]) (S' := []) (σ' := (97, I, J, R)) rfl (fun _ => ?_) (fun hn => absurd (by decide) hn)
                      refine az_E.sn 1 (pc' := 100) (L' := [.retAddr 0, .retAddr 0, .int v2, .retAddr 0, .int v4, .int v5, .ref 61, .ref 65]) (S' := [.int (-13 : Int32)]) (σ' := (97, I, J, R)) rfl ?_
                      have h := Option.some.inj h
                      subst h
                      exact az_E.ret (v := some (.int (-13 : Int32))) (σ' := (97, I, J, R)) rfl hQ
                    · rw [if_neg hc_137] at h
                      refine az_E.sn 2 (pc' := 31) (L' := [.ref 61, .int v2, .int v5]) (S' := [.int (1 : Int32)]) (σ' := (97, I, J, R)) rfl ?_
                      refine az_E.ret (v := some (.int (1 : Int32))) (σ' := (97, I, J, R)) rfl ?_
                      show az_E az_F ex 2 128 83 [.retAddr 0, .retAddr 0, .int v2, .retAddr 0, .int v4, .int v5, .ref 61, .ref 65] [.int (1 : Int32)] (97, I, J, R) _
                      refine az_E.br (c := (1 : Int32) = 0) (tt := 98) (ff := 86) (L' := [.retAddr 0, .retAddr 0, .int v2, .retAddr 0, .int v4, .int v5, .ref 61, .ref 65]) (S' := []) (σ' := (97, I, J, R)) rfl (fun hn => absurd hn (by decide)) (fun _ => ?_)
                      refine az_E.sn 3 (pc' := 92) (L' := [.retAddr 0, .retAddr 0, .int v2, .retAddr 0, .int v4, .int v5, .ref 61, .ref 65]) (S' := [.int v5, .int v4, .ref 65]) (σ' := (97, I, J, R)) rfl ?_
                      refine az_E.call (d := 1) (k' := 60) (vs := [.ref 65, .int v4, .int v5]) (pc' := 95) (S' := []) rfl ?_ (fun _ _ hq => hq)
                      show az_E az_F ex 1 60 0 [.ref 65, .int v4, .int v5] [] (97, I, J, R) _
                      refine az_E.sn 1 (pc' := 1) (L' := [.ref 65, .int v4, .int v5]) (S' := [.int v4]) (σ' := (97, I, J, R)) rfl ?_
                      refine az_E.br (c := v4 < 0) (tt := 30) (ff := 4) (L' := [.ref 65, .int v4, .int v5]) (S' := []) (σ' := (97, I, J, R)) rfl (fun hc_138 => ?_) (fun hc_138 => ?_)
                      · rw [if_pos hc_138] at h
                        refine az_E.sn 1 (pc' := 31) (L' := [.ref 65, .int v4, .int v5]) (S' := [.int (0 : Int32)]) (σ' := (97, I, J, R)) rfl ?_
                        refine az_E.ret (v := some (.int (0 : Int32))) (σ' := (97, I, J, R)) rfl ?_
                        show az_E az_F ex 2 128 95 [.retAddr 0, .retAddr 0, .int v2, .retAddr 0, .int v4, .int v5, .ref 61, .ref 65] [.int (0 : Int32)] (97, I, J, R) _
                        refine az_E.br (c := (0 : Int32) = 0) (tt := 98) (ff := 101) (L' := [.retAddr 0, .retAddr 0, .int v2, .retAddr 0, .int v4, .int v5, .ref 61, .ref 65]) (S' := []) (σ' := (97, I, J, R)) rfl (fun _ => ?_) (fun hn => absurd (by decide) hn)
                        refine az_E.sn 1 (pc' := 100) (L' := [.retAddr 0, .retAddr 0, .int v2, .retAddr 0, .int v4, .int v5, .ref 61, .ref 65]) (S' := [.int (-13 : Int32)]) (σ' := (97, I, J, R)) rfl ?_
                        have h := Option.some.inj h
                        subst h
                        exact az_E.ret (v := some (.int (-13 : Int32))) (σ' := (97, I, J, R)) rfl hQ
                      · rw [if_neg hc_138] at h
                        refine az_E.sn 1 (pc' := 5) (L' := [.ref 65, .int v4, .int v5]) (S' := [.int v5]) (σ' := (97, I, J, R)) rfl ?_
                        refine az_E.br (c := v5 < 0) (tt := 30) (ff := 8) (L' := [.ref 65, .int v4, .int v5]) (S' := []) (σ' := (97, I, J, R)) rfl (fun hc_139 => ?_) (fun hc_139 => ?_)
                        · rw [if_pos hc_139] at h
                          refine az_E.sn 1 (pc' := 31) (L' := [.ref 65, .int v4, .int v5]) (S' := [.int (0 : Int32)]) (σ' := (97, I, J, R)) rfl ?_
                          refine az_E.ret (v := some (.int (0 : Int32))) (σ' := (97, I, J, R)) rfl ?_
                          show az_E az_F ex 2 128 95 [.retAddr 0, .retAddr 0, .int v2, .retAddr 0, .int v4, .int v5, .ref 61, .ref 65] [.int (0 : Int32)] (97, I, J, R) _
                          refine az_E.br (c := (0 : Int32) = 0) (tt := 98) (ff := 101) (L' := [.retAddr 0, .retAddr 0, .int v2, .retAddr 0, .int v4, .int v5, .ref 61, .ref 65]) (S' := []) (σ' := (97, I, J, R)) rfl (fun _ => ?_) (fun hn => absurd (by decide) hn)
                          refine az_E.sn 1 (pc' := 100) (L' := [.retAddr 0, .retAddr 0, .int v2, .retAddr 0, .int v4, .int v5, .ref 61, .ref 65]) (S' := [.int (-13 : Int32)]) (σ' := (97, I, J, R)) rfl ?_
                          have h := Option.some.inj h
                          subst h
                          exact az_E.ret (v := some (.int (-13 : Int32))) (σ' := (97, I, J, R)) rfl hQ
                        · rw [if_neg hc_139] at h
                          refine az_E.sn 3 (pc' := 13) (L' := [.ref 65, .int v4, .int v5]) (S' := [.int (I 65 2), .int v4]) (σ' := (97, I, J, R)) rfl ?_
                          refine az_E.br (c := (I 65 2) < v4) (tt := 30) (ff := 16) (L' := [.ref 65, .int v4, .int v5]) (S' := []) (σ' := (97, I, J, R)) rfl (fun hc_140 => ?_) (fun hc_140 => ?_)
                          · rw [if_pos hc_140] at h
                            refine az_E.sn 1 (pc' := 31) (L' := [.ref 65, .int v4, .int v5]) (S' := [.int (0 : Int32)]) (σ' := (97, I, J, R)) rfl ?_
                            refine az_E.ret (v := some (.int (0 : Int32))) (σ' := (97, I, J, R)) rfl ?_
                            show az_E az_F ex 2 128 95 [.retAddr 0, .retAddr 0, .int v2, .retAddr 0, .int v4, .int v5, .ref 61, .ref 65] [.int (0 : Int32)] (97, I, J, R) _
                            refine az_E.br (c := (0 : Int32) = 0) (tt := 98) (ff := 101) (L' := [.retAddr 0, .retAddr 0, .int v2, .retAddr 0, .int v4, .int v5, .ref 61, .ref 65]) (S' := []) (σ' := (97, I, J, R)) rfl (fun _ => ?_) (fun hn => absurd (by decide) hn)
                            refine az_E.sn 1 (pc' := 100) (L' := [.retAddr 0, .retAddr 0, .int v2, .retAddr 0, .int v4, .int v5, .ref 61, .ref 65]) (S' := [.int (-13 : Int32)]) (σ' := (97, I, J, R)) rfl ?_
                            have h := Option.some.inj h
                            subst h
                            exact az_E.ret (v := some (.int (-13 : Int32))) (σ' := (97, I, J, R)) rfl hQ
                          · rw [if_neg hc_140] at h
                            refine az_E.sn 5 (pc' := 23) (L' := [.ref 65, .int v4, .int v5]) (S' := [.int ((I 65 2) - v4), .int v5]) (σ' := (97, I, J, R)) rfl ?_
                            refine az_E.br (c := ((I 65 2) - v4) < v5) (tt := 30) (ff := 26) (L' := [.ref 65, .int v4, .int v5]) (S' := []) (σ' := (97, I, J, R)) rfl (fun hc_141 => ?_) (fun hc_141 => ?_)
                            · rw [if_pos hc_141] at h
                              refine az_E.sn 1 (pc' := 31) (L' := [.ref 65, .int v4, .int v5]) (S' := [.int (0 : Int32)]) (σ' := (97, I, J, R)) rfl ?_
                              refine az_E.ret (v := some (.int (0 : Int32))) (σ' := (97, I, J, R)) rfl ?_
                              show az_E az_F ex 2 128 95 [.retAddr 0, .retAddr 0, .int v2, .retAddr 0, .int v4, .int v5, .ref 61, .ref 65] [.int (0 : Int32)] (97, I, J, R) _
                              refine az_E.br (c := (0 : Int32) = 0) (tt := 98) (ff := 101) (L' := [.retAddr 0, .retAddr 0, .int v2, .retAddr 0, .int v4, .int v5, .ref 61, .ref 65]) (S' := []) (σ' := (97, I, J, R)) rfl (fun _ => ?_) (fun hn => absurd (by decide) hn)
                              refine az_E.sn 1 (pc' := 100) (L' := [.retAddr 0, .retAddr 0, .int v2, .retAddr 0, .int v4, .int v5, .ref 61, .ref 65]) (S' := [.int (-13 : Int32)]) (σ' := (97, I, J, R)) rfl ?_
                              have h := Option.some.inj h
                              subst h
                              exact az_E.ret (v := some (.int (-13 : Int32))) (σ' := (97, I, J, R)) rfl hQ
                            · rw [if_neg hc_141] at h
                              refine az_E.sn 2 (pc' := 31) (L' := [.ref 65, .int v4, .int v5]) (S' := [.int (1 : Int32)]) (σ' := (97, I, J, R)) rfl ?_
                              refine az_E.ret (v := some (.int (1 : Int32))) (σ' := (97, I, J, R)) rfl ?_
                              show az_E az_F ex 2 128 95 [.retAddr 0, .retAddr 0, .int v2, .retAddr 0, .int v4, .int v5, .ref 61, .ref 65] [.int (1 : Int32)] (97, I, J, R) _
                              refine az_E.br (c := (1 : Int32) = 0) (tt := 98) (ff := 101) (L' := [.retAddr 0, .retAddr 0, .int v2, .retAddr 0, .int v4, .int v5, .ref 61, .ref 65]) (S' := []) (σ' := (97, I, J, R)) rfl (fun hn => absurd hn (by decide)) (fun _ => ?_)
                              refine az_E.sn 7 (pc' := 116) (L' := [.retAddr 0, .retAddr 0, .int v2, .retAddr 0, .int v4, .int v5, .ref 61, .ref 65]) (S' := [.int v5, .int v4, .ref (65 + 1), .int v2, .ref (61 + 1)]) (σ' := (97, I, J, R)) rfl ?_
                              by_cases hc_142 : v2 < 0 ∨ v4 < 0 ∨ v5 < 0 ∨ 60 < v2.toNatClampNeg + v5.toNatClampNeg ∨ 60 < v4.toNatClampNeg + v5.toNatClampNeg
                              · rw [if_pos hc_142] at h; cases h
                              · rw [if_neg hc_142] at h
                                refine az_E.o (o := az_cp az_F (97, I, J, R) (61 + 1) v2 (65 + 1) v4 v5) (pc' := 119) (L' := [.retAddr 0, .retAddr 0, .int v2, .retAddr 0, .int v4, .int v5, .ref 61, .ref 65]) (S' := []) (x := (97, I, (az_ur J (65 + 1) (va_cpy (J (61 + 1)) (J (65 + 1)) v2.toNatClampNeg v4.toNatClampNeg v5.toNatClampNeg)), R)) rfl (if_neg hc_142) ?_
                                refine az_E.sn 1 (pc' := 121) (L' := [.retAddr 0, .retAddr 0, .int v2, .retAddr 0, .int v4, .int v5, .ref 61, .ref 65]) (S' := [.int v5]) (σ' := (97, I, (az_ur J (65 + 1) (va_cpy (J (61 + 1)) (J (65 + 1)) v2.toNatClampNeg v4.toNatClampNeg v5.toNatClampNeg)), R)) rfl ?_
                                have h := Option.some.inj h
                                subst h
                                exact az_E.ret (v := some (.int v5)) (σ' := (97, I, (az_ur J (65 + 1) (va_cpy (J (61 + 1)) (J (65 + 1)) v2.toNatClampNeg v4.toNatClampNeg v5.toNatClampNeg)), R)) rfl hQ
            · rw [if_neg hc_133] at h
              refine az_E.sn 1 (pc' := 20) (L' := [.ref 65, .int (I 61 1)]) (S' := [.int (0 : Int32)]) (σ' := (97, I, J, R)) rfl ?_
              refine az_E.ret (v := some (.int (0 : Int32))) (σ' := (97, I, J, R)) rfl ?_
              show az_E az_F ex 2 128 69 [.retAddr 0, .retAddr 0, .int v2, .retAddr 0, .int v4, .int v5, .ref 61, .ref 65] [.int (0 : Int32)] (97, I, J, R) _
              refine az_E.br (c := (0 : Int32) = 0) (tt := 72) (ff := 75) (L' := [.retAddr 0, .retAddr 0, .int v2, .retAddr 0, .int v4, .int v5, .ref 61, .ref 65]) (S' := []) (σ' := (97, I, J, R)) rfl (fun _ => ?_) (fun hn => absurd (by decide) hn)
              refine az_E.sn 1 (pc' := 74) (L' := [.retAddr 0, .retAddr 0, .int v2, .retAddr 0, .int v4, .int v5, .ref 61, .ref 65]) (S' := [.int (-12 : Int32)]) (σ' := (97, I, J, R)) rfl ?_
              have h := Option.some.inj h
              subst h
              exact az_E.ret (v := some (.int (-12 : Int32))) (σ' := (97, I, J, R)) rfl hQ
  · rw [if_neg hc_115] at h
    refine az_E.sn 1 (pc' := 21) (L' := [.ref 61]) (S' := [.int (0 : Int32)]) (σ' := (97, I, J, R)) rfl ?_
    refine az_E.ret (v := some (.int (0 : Int32))) (σ' := (97, I, J, R)) rfl ?_
    show az_E az_F ex 2 128 37 [.retAddr 0, .retAddr 0, .int v2, .retAddr 0, .int v4, .int v5, .ref 61, .ref 65] [.int (0 : Int32)] (97, I, J, R) _
    refine az_E.br (c := (0 : Int32) = 0) (tt := 40) (ff := 48) (L' := [.retAddr 0, .retAddr 0, .int v2, .retAddr 0, .int v4, .int v5, .ref 61, .ref 65]) (S' := []) (σ' := (97, I, J, R)) rfl (fun _ => ?_) (fun hn => absurd (by decide) hn)
    refine az_E.sn 1 (pc' := 42) (L' := [.retAddr 0, .retAddr 0, .int v2, .retAddr 0, .int v4, .int v5, .ref 61, .ref 65]) (S' := [.ref 65]) (σ' := (97, I, J, R)) rfl ?_
    refine az_E.call (d := 1) (k' := 54) (vs := [.ref 65]) (pc' := 45) (S' := []) rfl ?_ (fun _ _ hq => hq)
    show az_E az_F ex 1 54 0 [.ref 65] [] (97, I, J, R) _
    refine az_E.sn 3 (pc' := 5) (L' := [.ref 65]) (S' := [.int (-1 : Int32), .int (I 65 0)]) (σ' := (97, I, J, R)) rfl ?_
    refine az_E.br (c := (I 65 0) = (-1 : Int32)) (tt := 8) (ff := 20) (L' := [.ref 65]) (S' := []) (σ' := (97, I, J, R)) rfl (fun hc_143 => ?_) (fun hc_143 => ?_)
    · rw [if_pos hc_143] at h
      refine az_E.sn 3 (pc' := 13) (L' := [.ref 65]) (S' := [.int (-1 : Int32), .int (I 65 1)]) (σ' := (97, I, J, R)) rfl ?_
      refine az_E.br (c := (I 65 1) = (-1 : Int32)) (tt := 16) (ff := 20) (L' := [.ref 65]) (S' := []) (σ' := (97, I, J, R)) rfl (fun hc_144 => ?_) (fun hc_144 => ?_)
      · rw [if_pos hc_144] at h
        refine az_E.sn 2 (pc' := 21) (L' := [.ref 65]) (S' := [.int (1 : Int32)]) (σ' := (97, I, J, R)) rfl ?_
        refine az_E.ret (v := some (.int (1 : Int32))) (σ' := (97, I, J, R)) rfl ?_
        show az_E az_F ex 2 128 45 [.retAddr 0, .retAddr 0, .int v2, .retAddr 0, .int v4, .int v5, .ref 61, .ref 65] [.int (1 : Int32)] (97, I, J, R) _
        refine az_E.br (c := (1 : Int32) = 0) (tt := 51) (ff := 48) (L' := [.retAddr 0, .retAddr 0, .int v2, .retAddr 0, .int v4, .int v5, .ref 61, .ref 65]) (S' := []) (σ' := (97, I, J, R)) rfl (fun hn => absurd hn (by decide)) (fun _ => ?_)
        refine az_E.sn 1 (pc' := 50) (L' := [.retAddr 0, .retAddr 0, .int v2, .retAddr 0, .int v4, .int v5, .ref 61, .ref 65]) (S' := [.int (-11 : Int32)]) (σ' := (97, I, J, R)) rfl ?_
        have h := Option.some.inj h
        subst h
        exact az_E.ret (v := some (.int (-11 : Int32))) (σ' := (97, I, J, R)) rfl hQ
      · rw [if_neg hc_144] at h
        refine az_E.sn 1 (pc' := 21) (L' := [.ref 65]) (S' := [.int (0 : Int32)]) (σ' := (97, I, J, R)) rfl ?_
        refine az_E.ret (v := some (.int (0 : Int32))) (σ' := (97, I, J, R)) rfl ?_
        show az_E az_F ex 2 128 45 [.retAddr 0, .retAddr 0, .int v2, .retAddr 0, .int v4, .int v5, .ref 61, .ref 65] [.int (0 : Int32)] (97, I, J, R) _
        refine az_E.br (c := (0 : Int32) = 0) (tt := 51) (ff := 48) (L' := [.retAddr 0, .retAddr 0, .int v2, .retAddr 0, .int v4, .int v5, .ref 61, .ref 65]) (S' := []) (σ' := (97, I, J, R)) rfl (fun _ => ?_) (fun hn => absurd (by decide) hn)
        refine az_E.sn 1 (pc' := 53) (L' := [.retAddr 0, .retAddr 0, .int v2, .retAddr 0, .int v4, .int v5, .ref 61, .ref 65]) (S' := [.ref 61]) (σ' := (97, I, J, R)) rfl ?_
        refine az_E.call (d := 1) (k' := 55) (vs := [.ref 61]) (pc' := 56) (S' := []) rfl ?_ (fun _ _ hq => hq)
        show az_E az_F ex 1 55 0 [.ref 61] [] (97, I, J, R) _
        refine az_E.sn 3 (pc' := 5) (L' := [.ref 61]) (S' := [.int (-1 : Int32), .int (I 61 1)]) (σ' := (97, I, J, R)) rfl ?_
        refine az_E.br (c := (I 61 1) = (-1 : Int32)) (tt := 12) (ff := 8) (L' := [.ref 61]) (S' := []) (σ' := (97, I, J, R)) rfl (fun hc_145 => ?_) (fun hc_145 => ?_)
        · rw [if_pos hc_145] at h
          refine az_E.sn 1 (pc' := 13) (L' := [.ref 61]) (S' := [.int (0 : Int32)]) (σ' := (97, I, J, R)) rfl ?_
          refine az_E.ret (v := some (.int (0 : Int32))) (σ' := (97, I, J, R)) rfl ?_
          show az_E az_F ex 2 128 56 [.retAddr 0, .retAddr 0, .int v2, .retAddr 0, .int v4, .int v5, .ref 61, .ref 65] [.int (0 : Int32)] (97, I, J, R) _
          refine az_E.br (c := (0 : Int32) = 0) (tt := 72) (ff := 59) (L' := [.retAddr 0, .retAddr 0, .int v2, .retAddr 0, .int v4, .int v5, .ref 61, .ref 65]) (S' := []) (σ' := (97, I, J, R)) rfl (fun _ => ?_) (fun hn => absurd (by decide) hn)
          refine az_E.sn 1 (pc' := 74) (L' := [.retAddr 0, .retAddr 0, .int v2, .retAddr 0, .int v4, .int v5, .ref 61, .ref 65]) (S' := [.int (-12 : Int32)]) (σ' := (97, I, J, R)) rfl ?_
          have h := Option.some.inj h
          subst h
          exact az_E.ret (v := some (.int (-12 : Int32))) (σ' := (97, I, J, R)) rfl hQ
        · rw [if_neg hc_145] at h
          refine az_E.sn 2 (pc' := 13) (L' := [.ref 61]) (S' := [.int (1 : Int32)]) (σ' := (97, I, J, R)) rfl ?_
          refine az_E.ret (v := some (.int (1 : Int32))) (σ' := (97, I, J, R)) rfl ?_
          show az_E az_F ex 2 128 56 [.retAddr 0, .retAddr 0, .int v2, .retAddr 0, .int v4, .int v5, .ref 61, .ref 65] [.int (1 : Int32)] (97, I, J, R) _
          refine az_E.br (c := (1 : Int32) = 0) (tt := 72) (ff := 59) (L' := [.retAddr 0, .retAddr 0, .int v2, .retAddr 0, .int v4, .int v5, .ref 61, .ref 65]) (S' := []) (σ' := (97, I, J, R)) rfl (fun hn => absurd hn (by decide)) (fun _ => ?_)
          refine az_E.sn 3 (pc' := 66) (L' := [.retAddr 0, .retAddr 0, .int v2, .retAddr 0, .int v4, .int v5, .ref 61, .ref 65]) (S' := [.int (I 61 1), .ref 65]) (σ' := (97, I, J, R)) rfl ?_
          refine az_E.call (d := 1) (k' := 56) (vs := [.ref 65, .int (I 61 1)]) (pc' := 69) (S' := []) rfl ?_ (fun _ _ hq => hq)
          show az_E az_F ex 1 56 0 [.ref 65, .int (I 61 1)] [] (97, I, J, R) _
          refine az_E.sn 1 (pc' := 1) (L' := [.ref 65, .int (I 61 1)]) (S' := [.ref 65]) (σ' := (97, I, J, R)) rfl ?_
          refine az_E.call (d := 0) (k' := 55) (vs := [.ref 65]) (pc' := 4) (S' := []) rfl ?_ (fun _ _ hq => hq)
          show az_E az_F ex 0 55 0 [.ref 65] [] (97, I, J, R) _
          refine az_E.sn 3 (pc' := 5) (L' := [.ref 65]) (S' := [.int (-1 : Int32), .int (I 65 1)]) (σ' := (97, I, J, R)) rfl ?_
          refine az_E.br (c := (I 65 1) = (-1 : Int32)) (tt := 12) (ff := 8) (L' := [.ref 65]) (S' := []) (σ' := (97, I, J, R)) rfl (fun hc_146 => ?_) (fun hc_146 => ?_)
          · rw [if_pos hc_146] at h
            refine az_E.sn 1 (pc' := 13) (L' := [.ref 65]) (S' := [.int (0 : Int32)]) (σ' := (97, I, J, R)) rfl ?_
            refine az_E.ret (v := some (.int (0 : Int32))) (σ' := (97, I, J, R)) rfl ?_
            show az_E az_F ex 1 56 4 [.ref 65, .int (I 61 1)] [.int (0 : Int32)] (97, I, J, R) _
            refine az_E.br (c := (0 : Int32) = 0) (tt := 19) (ff := 7) (L' := [.ref 65, .int (I 61 1)]) (S' := []) (σ' := (97, I, J, R)) rfl (fun _ => ?_) (fun hn => absurd (by decide) hn)
            refine az_E.sn 1 (pc' := 20) (L' := [.ref 65, .int (I 61 1)]) (S' := [.int (0 : Int32)]) (σ' := (97, I, J, R)) rfl ?_
            refine az_E.ret (v := some (.int (0 : Int32))) (σ' := (97, I, J, R)) rfl ?_
            show az_E az_F ex 2 128 69 [.retAddr 0, .retAddr 0, .int v2, .retAddr 0, .int v4, .int v5, .ref 61, .ref 65] [.int (0 : Int32)] (97, I, J, R) _
            refine az_E.br (c := (0 : Int32) = 0) (tt := 72) (ff := 75) (L' := [.retAddr 0, .retAddr 0, .int v2, .retAddr 0, .int v4, .int v5, .ref 61, .ref 65]) (S' := []) (σ' := (97, I, J, R)) rfl (fun _ => ?_) (fun hn => absurd (by decide) hn)
            refine az_E.sn 1 (pc' := 74) (L' := [.retAddr 0, .retAddr 0, .int v2, .retAddr 0, .int v4, .int v5, .ref 61, .ref 65]) (S' := [.int (-12 : Int32)]) (σ' := (97, I, J, R)) rfl ?_
            have h := Option.some.inj h
            subst h
            exact az_E.ret (v := some (.int (-12 : Int32))) (σ' := (97, I, J, R)) rfl hQ
          · rw [if_neg hc_146] at h
            refine az_E.sn 2 (pc' := 13) (L' := [.ref 65]) (S' := [.int (1 : Int32)]) (σ' := (97, I, J, R)) rfl ?_
            refine az_E.ret (v := some (.int (1 : Int32))) (σ' := (97, I, J, R)) rfl ?_
            show az_E az_F ex 1 56 4 [.ref 65, .int (I 61 1)] [.int (1 : Int32)] (97, I, J, R) _
            refine az_E.br (c := (1 : Int32) = 0) (tt := 19) (ff := 7) (L' := [.ref 65, .int (I 61 1)]) (S' := []) (σ' := (97, I, J, R)) rfl (fun hn => absurd hn (by decide)) (fun _ => ?_)
            refine az_E.sn 3 (pc' := 12) (L' := [.ref 65, .int (I 61 1)]) (S' := [.int (I 61 1), .int (I 65 1)]) (σ' := (97, I, J, R)) rfl ?_
            refine az_E.br (c := (I 65 1) = (I 61 1)) (tt := 15) (ff := 19) (L' := [.ref 65, .int (I 61 1)]) (S' := []) (σ' := (97, I, J, R)) rfl (fun hc_147 => ?_) (fun hc_147 => ?_)
            · rw [if_pos hc_147] at h
              refine az_E.sn 2 (pc' := 20) (L' := [.ref 65, .int (I 61 1)]) (S' := [.int (1 : Int32)]) (σ' := (97, I, J, R)) rfl ?_
              refine az_E.ret (v := some (.int (1 : Int32))) (σ' := (97, I, J, R)) rfl ?_
              show az_E az_F ex 2 128 69 [.retAddr 0, .retAddr 0, .int v2, .retAddr 0, .int v4, .int v5, .ref 61, .ref 65] [.int (1 : Int32)] (97, I, J, R) _
              refine az_E.br (c := (1 : Int32) = 0) (tt := 72) (ff := 75) (L' := [.retAddr 0, .retAddr 0, .int v2, .retAddr 0, .int v4, .int v5, .ref 61, .ref 65]) (S' := []) (σ' := (97, I, J, R)) rfl (fun hn => absurd hn (by decide)) (fun _ => ?_)
              refine az_E.sn 3 (pc' := 80) (L' := [.retAddr 0, .retAddr 0, .int v2, .retAddr 0, .int v4, .int v5, .ref 61, .ref 65]) (S' := [.int v5, .int v2, .ref 61]) (σ' := (97, I, J, R)) rfl ?_
              refine az_E.call (d := 1) (k' := 60) (vs := [.ref 61, .int v2, .int v5]) (pc' := 83) (S' := []) rfl ?_ (fun _ _ hq => hq)
              show az_E az_F ex 1 60 0 [.ref 61, .int v2, .int v5] [] (97, I, J, R) _
              refine az_E.sn 1 (pc' := 1) (L' := [.ref 61, .int v2, .int v5]) (S' := [.int v2]) (σ' := (97, I, J, R)) rfl ?_
              refine az_E.br (c := v2 < 0) (tt := 30) (ff := 4) (L' := [.ref 61, .int v2, .int v5]) (S' := []) (σ' := (97, I, J, R)) rfl (fun hc_148 => ?_) (fun hc_148 => ?_)
              · rw [if_pos hc_148] at h
                refine az_E.sn 1 (pc' := 31) (L' := [.ref 61, .int v2, .int v5]) (S' := [.int (0 : Int32)]) (σ' := (97, I, J, R)) rfl ?_
                refine az_E.ret (v := some (.int (0 : Int32))) (σ' := (97, I, J, R)) rfl ?_
                show az_E az_F ex 2 128 83 [.retAddr 0, .retAddr 0, .int v2, .retAddr 0, .int v4, .int v5, .ref 61, .ref 65] [.int (0 : Int32)] (97, I, J, R) _
                refine az_E.br (c := (0 : Int32) = 0) (tt := 98) (ff := 86) (L' := [.retAddr 0, .retAddr 0, .int v2, .retAddr 0, .int v4, .int v5, .ref 61, .ref 65]) (S' := []) (σ' := (97, I, J, R)) rfl (fun _ => ?_) (fun hn => absurd (by decide) hn)
                refine az_E.sn 1 (pc' := 100) (L' := [.retAddr 0, .retAddr 0, .int v2, .retAddr 0, .int v4, .int v5, .ref 61, .ref 65]) (S' := [.int (-13 : Int32)]) (σ' := (97, I, J, R)) rfl ?_
                have h := Option.some.inj h
                subst h
                exact az_E.ret (v := some (.int (-13 : Int32))) (σ' := (97, I, J, R)) rfl hQ
              · rw [if_neg hc_148] at h
                refine az_E.sn 1 (pc' := 5) (L' := [.ref 61, .int v2, .int v5]) (S' := [.int v5]) (σ' := (97, I, J, R)) rfl ?_
                refine az_E.br (c := v5 < 0) (tt := 30) (ff := 8) (L' := [.ref 61, .int v2, .int v5]) (S' := []) (σ' := (97, I, J, R)) rfl (fun hc_149 => ?_) (fun hc_149 => ?_)
                · rw [if_pos hc_149] at h
                  refine az_E.sn 1 (pc' := 31) (L' := [.ref 61, .int v2, .int v5]) (S' := [.int (0 : Int32)]) (σ' := (97, I, J, R)) rfl ?_
                  refine az_E.ret (v := some (.int (0 : Int32))) (σ' := (97, I, J, R)) rfl ?_
                  show az_E az_F ex 2 128 83 [.retAddr 0, .retAddr 0, .int v2, .retAddr 0, .int v4, .int v5, .ref 61, .ref 65] [.int (0 : Int32)] (97, I, J, R) _
                  refine az_E.br (c := (0 : Int32) = 0) (tt := 98) (ff := 86) (L' := [.retAddr 0, .retAddr 0, .int v2, .retAddr 0, .int v4, .int v5, .ref 61, .ref 65]) (S' := []) (σ' := (97, I, J, R)) rfl (fun _ => ?_) (fun hn => absurd (by decide) hn)
                  refine az_E.sn 1 (pc' := 100) (L' := [.retAddr 0, .retAddr 0, .int v2, .retAddr 0, .int v4, .int v5, .ref 61, .ref 65]) (S' := [.int (-13 : Int32)]) (σ' := (97, I, J, R)) rfl ?_
                  have h := Option.some.inj h
                  subst h
                  exact az_E.ret (v := some (.int (-13 : Int32))) (σ' := (97, I, J, R)) rfl hQ
                · rw [if_neg hc_149] at h
                  refine az_E.sn 3 (pc' := 13) (L' := [.ref 61, .int v2, .int v5]) (S' := [.int (I 61 2), .int v2]) (σ' := (97, I, J, R)) rfl ?_
                  refine az_E.br (c := (I 61 2) < v2) (tt := 30) (ff := 16) (L' := [.ref 61, .int v2, .int v5]) (S' := []) (σ' := (97, I, J, R)) rfl (fun hc_150 => ?_) (fun hc_150 => ?_)
                  · rw [if_pos hc_150] at h
                    refine az_E.sn 1 (pc' := 31) (L' := [.ref 61, .int v2, .int v5]) (S' := [.int (0 : Int32)]) (σ' := (97, I, J, R)) rfl ?_
                    refine az_E.ret (v := some (.int (0 : Int32))) (σ' := (97, I, J, R)) rfl ?_
                    show az_E az_F ex 2 128 83 [.retAddr 0, .retAddr 0, .int v2, .retAddr 0, .int v4, .int v5, .ref 61, .ref 65] [.int (0 : Int32)] (97, I, J, R) _
                    refine az_E.br (c := (0 : Int32) = 0) (tt := 98) (ff := 86) (L' := [.retAddr 0, .retAddr 0, .int v2, .retAddr 0, .int v4, .int v5, .ref 61, .ref 65]) (S' := []) (σ' := (97, I, J, R)) rfl (fun _ => ?_) (fun hn => absurd (by decide) hn)
                    refine az_E.sn 1 (pc' := 100) (L' := [.retAddr 0, .retAddr 0, .int v2, .retAddr 0, .int v4, .int v5, .ref 61, .ref 65]) (S' := [.int (-13 : Int32)]) (σ' := (97, I, J, R)) rfl ?_
                    have h := Option.some.inj h
                    subst h
                    exact az_E.ret (v := some (.int (-13 : Int32))) (σ' := (97, I, J, R)) rfl hQ
                  · rw [if_neg hc_150] at h
                    refine az_E.sn 5 (pc' := 23) (L' := [.ref 61, .int v2, .int v5]) (S' := [.int ((I 61 2) - v2), .int v5]) (σ' := (97, I, J, R)) rfl ?_
                    refine az_E.br (c := ((I 61 2) - v2) < v5) (tt := 30) (ff := 26) (L' := [.ref 61, .int v2, .int v5]) (S' := []) (σ' := (97, I, J, R)) rfl (fun hc_151 => ?_) (fun hc_151 => ?_)
                    · rw [if_pos hc_151] at h
                      refine az_E.sn 1 (pc' := 31) (L' := [.ref 61, .int v2, .int v5]) (S' := [.int (0 : Int32)]) (σ' := (97, I, J, R)) rfl ?_
                      refine az_E.ret (v := some (.int (0 : Int32))) (σ' := (97, I, J, R)) rfl ?_
                      show az_E az_F ex 2 128 83 [.retAddr 0, .retAddr 0, .int v2, .retAddr 0, .int v4, .int v5, .ref 61, .ref 65] [.int (0 : Int32)] (97, I, J, R) _
                      refine az_E.br (c := (0 : Int32) = 0) (tt := 98) (ff := 86) (L' := [.retAddr 0, .retAddr 0, .int v2, .retAddr 0, .int v4, .int v5, .ref 61, .ref 65]) (S' := []) (σ' := (97, I, J, R)) rfl (fun _ => ?_) (fun hn => absurd (by decide) hn)
                      refine az_E.sn 1 (pc' := 100) (L' := [.retAddr 0, .retAddr 0, .int v2, .retAddr 0, .int v4, .int v5, .ref 61, .ref 65]) (S' := [.int (-13 : Int32)]) (σ' := (97, I, J, R)) rfl ?_
                      have h := Option.some.inj h
                      subst h
                      exact az_E.ret (v := some (.int (-13 : Int32))) (σ' := (97, I, J, R)) rfl hQ
                    · rw [if_neg hc_151] at h
                      refine az_E.sn 2 (pc' := 31) (L' := [.ref 61, .int v2, .int v5]) (S' := [.int (1 : Int32)]) (σ' := (97, I, J, R)) rfl ?_
                      refine az_E.ret (v := some (.int (1 : Int32))) (σ' := (97, I, J, R)) rfl ?_
                      show az_E az_F ex 2 128 83 [.retAddr 0, .retAddr 0, .int v2, .retAddr 0, .int v4, .int v5, .ref 61, .ref 65] [.int (1 : Int32)] (97, I, J, R) _
                      refine az_E.br (c := (1 : Int32) = 0) (tt := 98) (ff := 86) (L' := [.retAddr 0, .retAddr 0, .int v2, .retAddr 0, .int v4, .int v5, .ref 61, .ref 65]) (S' := []) (σ' := (97, I, J, R)) rfl (fun hn => absurd hn (by decide)) (fun _ => ?_)
                      refine az_E.sn 3 (pc' := 92) (L' := [.retAddr 0, .retAddr 0, .int v2, .retAddr 0, .int v4, .int v5, .ref 61, .ref 65]) (S' := [.int v5, .int v4, .ref 65]) (σ' := (97, I, J, R)) rfl ?_
                      refine az_E.call (d := 1) (k' := 60) (vs := [.ref 65, .int v4, .int v5]) (pc' := 95) (S' := []) rfl ?_ (fun _ _ hq => hq)
                      show az_E az_F ex 1 60 0 [.ref 65, .int v4, .int v5] [] (97, I, J, R) _
                      refine az_E.sn 1 (pc' := 1) (L' := [.ref 65, .int v4, .int v5]) (S' := [.int v4]) (σ' := (97, I, J, R)) rfl ?_
                      refine az_E.br (c := v4 < 0) (tt := 30) (ff := 4) (L' := [.ref 65, .int v4, .int v5]) (S' := []) (σ' := (97, I, J, R)) rfl (fun hc_152 => ?_) (fun hc_152 => ?_)
                      · rw [if_pos hc_152] at h
                        refine az_E.sn 1 (pc' := 31) (L' := [.ref 65, .int v4, .int v5]) (S' := [.int (0 : Int32)]) (σ' := (97, I, J, R)) rfl ?_
                        refine az_E.ret (v := some (.int (0 : Int32))) (σ' := (97, I, J, R)) rfl ?_
                        show az_E az_F ex 2 128 95 [.retAddr 0, .retAddr 0, .int v2, .retAddr 0, .int v4, .int v5, .ref 61, .ref 65] [.int (0 : Int32)] (97, I, J, R) _
                        refine az_E.br (c := (0 : Int32) = 0) (tt := 98) (ff := 101) (L' := [.retAddr 0, .retAddr 0, .int v2, .retAddr 0, .int v4, .int v5, .ref 61, .ref 65]) (S' := []) (σ' := (97, I, J, R)) rfl (fun _ => ?_) (fun hn => absurd (by decide) hn)
                        refine az_E.sn 1 (pc' := 100) (L' := [.retAddr 0, .retAddr 0, .int v2, .retAddr 0, .int v4, .int v5, .ref 61, .ref 65]) (S' := [.int (-13 : Int32)]) (σ' := (97, I, J, R)) rfl ?_
                        have h := Option.some.inj h
                        subst h
                        exact az_E.ret (v := some (.int (-13 : Int32))) (σ' := (97, I, J, R)) rfl hQ
                      · rw [if_neg hc_152] at h
                        refine az_E.sn 1 (pc' := 5) (L' := [.ref 65, .int v4, .int v5]) (S' := [.int v5]) (σ' := (97, I, J, R)) rfl ?_
                        refine az_E.br (c := v5 < 0) (tt := 30) (ff := 8) (L' := [.ref 65, .int v4, .int v5]) (S' := []) (σ' := (97, I, J, R)) rfl (fun hc_153 => ?_) (fun hc_153 => ?_)
                        · rw [if_pos hc_153] at h
                          refine az_E.sn 1 (pc' := 31) (L' := [.ref 65, .int v4, .int v5]) (S' := [.int (0 : Int32)]) (σ' := (97, I, J, R)) rfl ?_
                          refine az_E.ret (v := some (.int (0 : Int32))) (σ' := (97, I, J, R)) rfl ?_
                          show az_E az_F ex 2 128 95 [.retAddr 0, .retAddr 0, .int v2, .retAddr 0, .int v4, .int v5, .ref 61, .ref 65] [.int (0 : Int32)] (97, I, J, R) _
                          refine az_E.br (c := (0 : Int32) = 0) (tt := 98) (ff := 101) (L' := [.retAddr 0, .retAddr 0, .int v2, .retAddr 0, .int v4, .int v5, .ref 61, .ref 65]) (S' := []) (σ' := (97, I, J, R)) rfl (fun _ => ?_) (fun hn => absurd (by decide) hn)
                          refine az_E.sn 1 (pc' := 100) (L' := [.retAddr 0, .retAddr 0, .int v2, .retAddr 0, .int v4, .int v5, .ref 61, .ref 65]) (S' := [.int (-13 : Int32)]) (σ' := (97, I, J, R)) rfl ?_
                          have h := Option.some.inj h
                          subst h
                          exact az_E.ret (v := some (.int (-13 : Int32))) (σ' := (97, I, J, R)) rfl hQ
                        · rw [if_neg hc_153] at h
                          refine az_E.sn 3 (pc' := 13) (L' := [.ref 65, .int v4, .int v5]) (S' := [.int (I 65 2), .int v4]) (σ' := (97, I, J, R)) rfl ?_
                          refine az_E.br (c := (I 65 2) < v4) (tt := 30) (ff := 16) (L' := [.ref 65, .int v4, .int v5]) (S' := []) (σ' := (97, I, J, R)) rfl (fun hc_154 => ?_) (fun hc_154 => ?_)
                          · rw [if_pos hc_154] at h
                            refine az_E.sn 1 (pc' := 31) (L' := [.ref 65, .int v4, .int v5]) (S' := [.int (0 : Int32)]) (σ' := (97, I, J, R)) rfl ?_
                            refine az_E.ret (v := some (.int (0 : Int32))) (σ' := (97, I, J, R)) rfl ?_
                            show az_E az_F ex 2 128 95 [.retAddr 0, .retAddr 0, .int v2, .retAddr 0, .int v4, .int v5, .ref 61, .ref 65] [.int (0 : Int32)] (97, I, J, R) _
                            refine az_E.br (c := (0 : Int32) = 0) (tt := 98) (ff := 101) (L' := [.retAddr 0, .retAddr 0, .int v2, .retAddr 0, .int v4, .int v5, .ref 61, .ref 65]) (S' := []) (σ' := (97, I, J, R)) rfl (fun _ => ?_) (fun hn => absurd (by decide) hn)
                            refine az_E.sn 1 (pc' := 100) (L' := [.retAddr 0, .retAddr 0, .int v2, .retAddr 0, .int v4, .int v5, .ref 61, .ref 65]) (S' := [.int (-13 : Int32)]) (σ' := (97, I, J, R)) rfl ?_
                            have h := Option.some.inj h
                            subst h
                            exact az_E.ret (v := some (.int (-13 : Int32))) (σ' := (97, I, J, R)) rfl hQ
                          · rw [if_neg hc_154] at h
                            refine az_E.sn 5 (pc' := 23) (L' := [.ref 65, .int v4, .int v5]) (S' := [.int ((I 65 2) - v4), .int v5]) (σ' := (97, I, J, R)) rfl ?_
                            refine az_E.br (c := ((I 65 2) - v4) < v5) (tt := 30) (ff := 26) (L' := [.ref 65, .int v4, .int v5]) (S' := []) (σ' := (97, I, J, R)) rfl (fun hc_155 => ?_) (fun hc_155 => ?_)
                            · rw [if_pos hc_155] at h
                              refine az_E.sn 1 (pc' := 31) (L' := [.ref 65, .int v4, .int v5]) (S' := [.int (0 : Int32)]) (σ' := (97, I, J, R)) rfl ?_
                              refine az_E.ret (v := some (.int (0 : Int32))) (σ' := (97, I, J, R)) rfl ?_
                              show az_E az_F ex 2 128 95 [.retAddr 0, .retAddr 0, .int v2, .retAddr 0, .int v4, .int v5, .ref 61, .ref 65] [.int (0 : Int32)] (97, I, J, R) _
                              refine az_E.br (c := (0 : Int32) = 0) (tt := 98) (ff := 101) (L' := [.retAddr 0, .retAddr 0, .int v2, .retAddr 0, .int v4, .int v5, .ref 61, .ref 65]) (S' := []) (σ' := (97, I, J, R)) rfl (fun _ => ?_) (fun hn => absurd (by decide) hn)
                              refine az_E.sn 1 (pc' := 100) (L' := [.retAddr 0, .retAddr 0, .int v2, .retAddr 0, .int v4, .int v5, .ref 61, .ref 65]) (S' := [.int (-13 : Int32)]) (σ' := (97, I, J, R)) rfl ?_
                              have h := Option.some.inj h
                              subst h
                              exact az_E.ret (v := some (.int (-13 : Int32))) (σ' := (97, I, J, R)) rfl hQ
                            · rw [if_neg hc_155] at h
                              refine az_E.sn 2 (pc' := 31) (L' := [.ref 65, .int v4, .int v5]) (S' := [.int (1 : Int32)]) (σ' := (97, I, J, R)) rfl ?_
                              refine az_E.ret (v := some (.int (1 : Int32))) (σ' := (97, I, J, R)) rfl ?_
                              show az_E az_F ex 2 128 95 [.retAddr 0, .retAddr 0, .int v2, .retAddr 0, .int v4, .int v5, .ref 61, .ref 65] [.int (1 : Int32)] (97, I, J, R) _
                              refine az_E.br (c := (1 : Int32) = 0) (tt := 98) (ff := 101) (L' := [.retAddr 0, .retAddr 0, .int v2, .retAddr 0, .int v4, .int v5, .ref 61, .ref 65]) (S' := []) (σ' := (97, I, J, R)) rfl (fun hn => absurd hn (by decide)) (fun _ => ?_)
                              refine az_E.sn 7 (pc' := 116) (L' := [.retAddr 0, .retAddr 0, .int v2, .retAddr 0, .int v4, .int v5, .ref 61, .ref 65]) (S' := [.int v5, .int v4, .ref (65 + 1), .int v2, .ref (61 + 1)]) (σ' := (97, I, J, R)) rfl ?_
                              by_cases hc_156 : v2 < 0 ∨ v4 < 0 ∨ v5 < 0 ∨ 60 < v2.toNatClampNeg + v5.toNatClampNeg ∨ 60 < v4.toNatClampNeg + v5.toNatClampNeg
                              · rw [if_pos hc_156] at h; cases h
                              · rw [if_neg hc_156] at h
                                refine az_E.o (o := az_cp az_F (97, I, J, R) (61 + 1) v2 (65 + 1) v4 v5) (pc' := 119) (L' := [.retAddr 0, .retAddr 0, .int v2, .retAddr 0, .int v4, .int v5, .ref 61, .ref 65]) (S' := []) (x := (97, I, (az_ur J (65 + 1) (va_cpy (J (61 + 1)) (J (65 + 1)) v2.toNatClampNeg v4.toNatClampNeg v5.toNatClampNeg)), R)) rfl (if_neg hc_156) ?_
                                refine az_E.sn 1 (pc' := 121) (L' := [.retAddr 0, .retAddr 0, .int v2, .retAddr 0, .int v4, .int v5, .ref 61, .ref 65]) (S' := [.int v5]) (σ' := (97, I, (az_ur J (65 + 1) (va_cpy (J (61 + 1)) (J (65 + 1)) v2.toNatClampNeg v4.toNatClampNeg v5.toNatClampNeg)), R)) rfl ?_
                                have h := Option.some.inj h
                                subst h
                                exact az_E.ret (v := some (.int v5)) (σ' := (97, I, (az_ur J (65 + 1) (va_cpy (J (61 + 1)) (J (65 + 1)) v2.toNatClampNeg v4.toNatClampNeg v5.toNatClampNeg)), R)) rfl hQ
            · rw [if_neg hc_147] at h
              refine az_E.sn 1 (pc' := 20) (L' := [.ref 65, .int (I 61 1)]) (S' := [.int (0 : Int32)]) (σ' := (97, I, J, R)) rfl ?_
              refine az_E.ret (v := some (.int (0 : Int32))) (σ' := (97, I, J, R)) rfl ?_
              show az_E az_F ex 2 128 69 [.retAddr 0, .retAddr 0, .int v2, .retAddr 0, .int v4, .int v5, .ref 61, .ref 65] [.int (0 : Int32)] (97, I, J, R) _
              refine az_E.br (c := (0 : Int32) = 0) (tt := 72) (ff := 75) (L' := [.retAddr 0, .retAddr 0, .int v2, .retAddr 0, .int v4, .int v5, .ref 61, .ref 65]) (S' := []) (σ' := (97, I, J, R)) rfl (fun _ => ?_) (fun hn => absurd (by decide) hn)
              refine az_E.sn 1 (pc' := 74) (L' := [.retAddr 0, .retAddr 0, .int v2, .retAddr 0, .int v4, .int v5, .ref 61, .ref 65]) (S' := [.int (-12 : Int32)]) (σ' := (97, I, J, R)) rfl ?_
              have h := Option.some.inj h
              subst h
              exact az_E.ret (v := some (.int (-12 : Int32))) (σ' := (97, I, J, R)) rfl hQ
    · rw [if_neg hc_143] at h
      refine az_E.sn 1 (pc' := 21) (L' := [.ref 65]) (S' := [.int (0 : Int32)]) (σ' := (97, I, J, R)) rfl ?_
      refine az_E.ret (v := some (.int (0 : Int32))) (σ' := (97, I, J, R)) rfl ?_
      show az_E az_F ex 2 128 45 [.retAddr 0, .retAddr 0, .int v2, .retAddr 0, .int v4, .int v5, .ref 61, .ref 65] [.int (0 : Int32)] (97, I, J, R) _
      refine az_E.br (c := (0 : Int32) = 0) (tt := 51) (ff := 48) (L' := [.retAddr 0, .retAddr 0, .int v2, .retAddr 0, .int v4, .int v5, .ref 61, .ref 65]) (S' := []) (σ' := (97, I, J, R)) rfl (fun _ => ?_) (fun hn => absurd (by decide) hn)
      refine az_E.sn 1 (pc' := 53) (L' := [.retAddr 0, .retAddr 0, .int v2, .retAddr 0, .int v4, .int v5, .ref 61, .ref 65]) (S' := [.ref 61]) (σ' := (97, I, J, R)) rfl ?_
      refine az_E.call (d := 1) (k' := 55) (vs := [.ref 61]) (pc' := 56) (S' := []) rfl ?_ (fun _ _ hq => hq)
      show az_E az_F ex 1 55 0 [.ref 61] [] (97, I, J, R) _
      refine az_E.sn 3 (pc' := 5) (L' := [.ref 61]) (S' := [.int (-1 : Int32), .int (I 61 1)]) (σ' := (97, I, J, R)) rfl ?_
      refine az_E.br (c := (I 61 1) = (-1 : Int32)) (tt := 12) (ff := 8) (L' := [.ref 61]) (S' := []) (σ' := (97, I, J, R)) rfl (fun hc_157 => ?_) (fun hc_157 => ?_)
      · rw [if_pos hc_157] at h
        refine az_E.sn 1 (pc' := 13) (L' := [.ref 61]) (S' := [.int (0 : Int32)]) (σ' := (97, I, J, R)) rfl ?_
        refine az_E.ret (v := some (.int (0 : Int32))) (σ' := (97, I, J, R)) rfl ?_
        show az_E az_F ex 2 128 56 [.retAddr 0, .retAddr 0, .int v2, .retAddr 0, .int v4, .int v5, .ref 61, .ref 65] [.int (0 : Int32)] (97, I, J, R) _
        refine az_E.br (c := (0 : Int32) = 0) (tt := 72) (ff := 59) (L' := [.retAddr 0, .retAddr 0, .int v2, .retAddr 0, .int v4, .int v5, .ref 61, .ref 65]) (S' := []) (σ' := (97, I, J, R)) rfl (fun _ => ?_) (fun hn => absurd (by decide) hn)
        refine az_E.sn 1 (pc' := 74) (L' := [.retAddr 0, .retAddr 0, .int v2, .retAddr 0, .int v4, .int v5, .ref 61, .ref 65]) (S' := [.int (-12 : Int32)]) (σ' := (97, I, J, R)) rfl ?_
        have h := Option.some.inj h
        subst h
        exact az_E.ret (v := some (.int (-12 : Int32))) (σ' := (97, I, J, R)) rfl hQ
      · rw [if_neg hc_157] at h
        refine az_E.sn 2 (pc' := 13) (L' := [.ref 61]) (S' := [.int (1 : Int32)]) (σ' := (97, I, J, R)) rfl ?_
        refine az_E.ret (v := some (.int (1 : Int32))) (σ' := (97, I, J, R)) rfl ?_
        show az_E az_F ex 2 128 56 [.retAddr 0, .retAddr 0, .int v2, .retAddr 0, .int v4, .int v5, .ref 61, .ref 65] [.int (1 : Int32)] (97, I, J, R) _
        refine az_E.br (c := (1 : Int32) = 0) (tt := 72) (ff := 59) (L' := [.retAddr 0, .retAddr 0, .int v2, .retAddr 0, .int v4, .int v5, .ref 61, .ref 65]) (S' := []) (σ' := (97, I, J, R)) rfl (fun hn => absurd hn (by decide)) (fun _ => ?_)
        refine az_E.sn 3 (pc' := 66) (L' := [.retAddr 0, .retAddr 0, .int v2, .retAddr 0, .int v4, .int v5, .ref 61, .ref 65]) (S' := [.int (I 61 1), .ref 65]) (σ' := (97, I, J, R)) rfl ?_
        refine az_E.call (d := 1) (k' := 56) (vs := [.ref 65, .int (I 61 1)]) (pc' := 69) (S' := []) rfl ?_ (fun _ _ hq => hq)
        show az_E az_F ex 1 56 0 [.ref 65, .int (I 61 1)] [] (97, I, J, R) _
        refine az_E.sn 1 (pc' := 1) (L' := [.ref 65, .int (I 61 1)]) (S' := [.ref 65]) (σ' := (97, I, J, R)) rfl ?_
        refine az_E.call (d := 0) (k' := 55) (vs := [.ref 65]) (pc' := 4) (S' := []) rfl ?_ (fun _ _ hq => hq)
        show az_E az_F ex 0 55 0 [.ref 65] [] (97, I, J, R) _
        refine az_E.sn 3 (pc' := 5) (L' := [.ref 65]) (S' := [.int (-1 : Int32), .int (I 65 1)]) (σ' := (97, I, J, R)) rfl ?_
        refine az_E.br (c := (I 65 1) = (-1 : Int32)) (tt := 12) (ff := 8) (L' := [.ref 65]) (S' := []) (σ' := (97, I, J, R)) rfl (fun hc_158 => ?_) (fun hc_158 => ?_)
        · rw [if_pos hc_158] at h
          refine az_E.sn 1 (pc' := 13) (L' := [.ref 65]) (S' := [.int (0 : Int32)]) (σ' := (97, I, J, R)) rfl ?_
          refine az_E.ret (v := some (.int (0 : Int32))) (σ' := (97, I, J, R)) rfl ?_
          show az_E az_F ex 1 56 4 [.ref 65, .int (I 61 1)] [.int (0 : Int32)] (97, I, J, R) _
          refine az_E.br (c := (0 : Int32) = 0) (tt := 19) (ff := 7) (L' := [.ref 65, .int (I 61 1)]) (S' := []) (σ' := (97, I, J, R)) rfl (fun _ => ?_) (fun hn => absurd (by decide) hn)
          refine az_E.sn 1 (pc' := 20) (L' := [.ref 65, .int (I 61 1)]) (S' := [.int (0 : Int32)]) (σ' := (97, I, J, R)) rfl ?_
          refine az_E.ret (v := some (.int (0 : Int32))) (σ' := (97, I, J, R)) rfl ?_
          show az_E az_F ex 2 128 69 [.retAddr 0, .retAddr 0, .int v2, .retAddr 0, .int v4, .int v5, .ref 61, .ref 65] [.int (0 : Int32)] (97, I, J, R) _
          refine az_E.br (c := (0 : Int32) = 0) (tt := 72) (ff := 75) (L' := [.retAddr 0, .retAddr 0, .int v2, .retAddr 0, .int v4, .int v5, .ref 61, .ref 65]) (S' := []) (σ' := (97, I, J, R)) rfl (fun _ => ?_) (fun hn => absurd (by decide) hn)
          refine az_E.sn 1 (pc' := 74) (L' := [.retAddr 0, .retAddr 0, .int v2, .retAddr 0, .int v4, .int v5, .ref 61, .ref 65]) (S' := [.int (-12 : Int32)]) (σ' := (97, I, J, R)) rfl ?_
          have h := Option.some.inj h
          subst h
          exact az_E.ret (v := some (.int (-12 : Int32))) (σ' := (97, I, J, R)) rfl hQ
        · rw [if_neg hc_158] at h
          refine az_E.sn 2 (pc' := 13) (L' := [.ref 65]) (S' := [.int (1 : Int32)]) (σ' := (97, I, J, R)) rfl ?_
          refine az_E.ret (v := some (.int (1 : Int32))) (σ' := (97, I, J, R)) rfl ?_
          show az_E az_F ex 1 56 4 [.ref 65, .int (I 61 1)] [.int (1 : Int32)] (97, I, J, R) _
          refine az_E.br (c := (1 : Int32) = 0) (tt := 19) (ff := 7) (L' := [.ref 65, .int (I 61 1)]) (S' := []) (σ' := (97, I, J, R)) rfl (fun hn => absurd hn (by decide)) (fun _ => ?_)
          refine az_E.sn 3 (pc' := 12) (L' := [.ref 65, .int (I 61 1)]) (S' := [.int (I 61 1), .int (I 65 1)]) (σ' := (97, I, J, R)) rfl ?_
          refine az_E.br (c := (I 65 1) = (I 61 1)) (tt := 15) (ff := 19) (L' := [.ref 65, .int (I 61 1)]) (S' := []) (σ' := (97, I, J, R)) rfl (fun hc_159 => ?_) (fun hc_159 => ?_)
          · rw [if_pos hc_159] at h
            refine az_E.sn 2 (pc' := 20) (L' := [.ref 65, .int (I 61 1)]) (S' := [.int (1 : Int32)]) (σ' := (97, I, J, R)) rfl ?_
            refine az_E.ret (v := some (.int (1 : Int32))) (σ' := (97, I, J, R)) rfl ?_
            show az_E az_F ex 2 128 69 [.retAddr 0, .retAddr 0, .int v2, .retAddr 0, .int v4, .int v5, .ref 61, .ref 65] [.int (1 : Int32)] (97, I, J, R) _
            refine az_E.br (c := (1 : Int32) = 0) (tt := 72) (ff := 75) (L' := [.retAddr 0, .retAddr 0, .int v2, .retAddr 0, .int v4, .int v5, .ref 61, .ref 65]) (S' := []) (σ' := (97, I, J, R)) rfl (fun hn => absurd hn (by decide)) (fun _ => ?_)
            refine az_E.sn 3 (pc' := 80) (L' := [.retAddr 0, .retAddr 0, .int v2, .retAddr 0, .int v4, .int v5, .ref 61, .ref 65]) (S' := [.int v5, .int v2, .ref 61]) (σ' := (97, I, J, R)) rfl ?_
            refine az_E.call (d := 1) (k' := 60) (vs := [.ref 61, .int v2, .int v5]) (pc' := 83) (S' := []) rfl ?_ (fun _ _ hq => hq)
            show az_E az_F ex 1 60 0 [.ref 61, .int v2, .int v5] [] (97, I, J, R) _
            refine az_E.sn 1 (pc' := 1) (L' := [.ref 61, .int v2, .int v5]) (S' := [.int v2]) (σ' := (97, I, J, R)) rfl ?_
            refine az_E.br (c := v2 < 0) (tt := 30) (ff := 4) (L' := [.ref 61, .int v2, .int v5]) (S' := []) (σ' := (97, I, J, R)) rfl (fun hc_160 => ?_) (fun hc_160 => ?_)
            · rw [if_pos hc_160] at h
              refine az_E.sn 1 (pc' := 31) (L' := [.ref 61, .int v2, .int v5]) (S' := [.int (0 : Int32)]) (σ' := (97, I, J, R)) rfl ?_
              refine az_E.ret (v := some (.int (0 : Int32))) (σ' := (97, I, J, R)) rfl ?_
              show az_E az_F ex 2 128 83 [.retAddr 0, .retAddr 0, .int v2, .retAddr 0, .int v4, .int v5, .ref 61, .ref 65] [.int (0 : Int32)] (97, I, J, R) _
              refine az_E.br (c := (0 : Int32) = 0) (tt := 98) (ff := 86) (L' := [.retAddr 0, .retAddr 0, .int v2, .retAddr 0, .int v4, .int v5, .ref 61, .ref 65]) (S' := []) (σ' := (97, I, J, R)) rfl (fun _ => ?_) (fun hn => absurd (by decide) hn)
              refine az_E.sn 1 (pc' := 100) (L' := [.retAddr 0, .retAddr 0, .int v2, .retAddr 0, .int v4, .int v5, .ref 61, .ref 65]) (S' := [.int (-13 : Int32)]) (σ' := (97, I, J, R)) rfl ?_
              have h := Option.some.inj h
              subst h
              exact az_E.ret (v := some (.int (-13 : Int32))) (σ' := (97, I, J, R)) rfl hQ
            · rw [if_neg hc_160] at h
              refine az_E.sn 1 (pc' := 5) (L' := [.ref 61, .int v2, .int v5]) (S' := [.int v5]) (σ' := (97, I, J, R)) rfl ?_
              refine az_E.br (c := v5 < 0) (tt := 30) (ff := 8) (L' := [.ref 61, .int v2, .int v5]) (S' := []) (σ' := (97, I, J, R)) rfl (fun hc_161 => ?_) (fun hc_161 => ?_)
              · rw [if_pos hc_161] at h
                refine az_E.sn 1 (pc' := 31) (L' := [.ref 61, .int v2, .int v5]) (S' := [.int (0 : Int32)]) (σ' := (97, I, J, R)) rfl ?_
                refine az_E.ret (v := some (.int (0 : Int32))) (σ' := (97, I, J, R)) rfl ?_
                show az_E az_F ex 2 128 83 [.retAddr 0, .retAddr 0, .int v2, .retAddr 0, .int v4, .int v5, .ref 61, .ref 65] [.int (0 : Int32)] (97, I, J, R) _
                refine az_E.br (c := (0 : Int32) = 0) (tt := 98) (ff := 86) (L' := [.retAddr 0, .retAddr 0, .int v2, .retAddr 0, .int v4, .int v5, .ref 61, .ref 65]) (S' := []) (σ' := (97, I, J, R)) rfl (fun _ => ?_) (fun hn => absurd (by decide) hn)
                refine az_E.sn 1 (pc' := 100) (L' := [.retAddr 0, .retAddr 0, .int v2, .retAddr 0, .int v4, .int v5, .ref 61, .ref 65]) (S' := [.int (-13 : Int32)]) (σ' := (97, I, J, R)) rfl ?_
                have h := Option.some.inj h
                subst h
                exact az_E.ret (v := some (.int (-13 : Int32))) (σ' := (97, I, J, R)) rfl hQ
              · rw [if_neg hc_161] at h
                refine az_E.sn 3 (pc' := 13) (L' := [.ref 61, .int v2, .int v5]) (S' := [.int (I 61 2), .int v2]) (σ' := (97, I, J, R)) rfl ?_
                refine az_E.br (c := (I 61 2) < v2) (tt := 30) (ff := 16) (L' := [.ref 61, .int v2, .int v5]) (S' := []) (σ' := (97, I, J, R)) rfl (fun hc_162 => ?_) (fun hc_162 => ?_)
                · rw [if_pos hc_162] at h
                  refine az_E.sn 1 (pc' := 31) (L' := [.ref 61, .int v2, .int v5]) (S' := [.int (0 : Int32)]) (σ' := (97, I, J, R)) rfl ?_
                  refine az_E.ret (v := some (.int (0 : Int32))) (σ' := (97, I, J, R)) rfl ?_
                  show az_E az_F ex 2 128 83 [.retAddr 0, .retAddr 0, .int v2, .retAddr 0, .int v4, .int v5, .ref 61, .ref 65] [.int (0 : Int32)] (97, I, J, R) _
                  refine az_E.br (c := (0 : Int32) = 0) (tt := 98) (ff := 86) (L' := [.retAddr 0, .retAddr 0, .int v2, .retAddr 0, .int v4, .int v5, .ref 61, .ref 65]) (S' := []) (σ' := (97, I, J, R)) rfl (fun _ => ?_) (fun hn => absurd (by decide) hn)
                  refine az_E.sn 1 (pc' := 100) (L' := [.retAddr 0, .retAddr 0, .int v2, .retAddr 0, .int v4, .int v5, .ref 61, .ref 65]) (S' := [.int (-13 : Int32)]) (σ' := (97, I, J, R)) rfl ?_
                  have h := Option.some.inj h
                  subst h
                  exact az_E.ret (v := some (.int (-13 : Int32))) (σ' := (97, I, J, R)) rfl hQ
                · rw [if_neg hc_162] at h
                  refine az_E.sn 5 (pc' := 23) (L' := [.ref 61, .int v2, .int v5]) (S' := [.int ((I 61 2) - v2), .int v5]) (σ' := (97, I, J, R)) rfl ?_
                  refine az_E.br (c := ((I 61 2) - v2) < v5) (tt := 30) (ff := 26) (L' := [.ref 61, .int v2, .int v5]) (S' := []) (σ' := (97, I, J, R)) rfl (fun hc_163 => ?_) (fun hc_163 => ?_)
                  · rw [if_pos hc_163] at h
                    refine az_E.sn 1 (pc' := 31) (L' := [.ref 61, .int v2, .int v5]) (S' := [.int (0 : Int32)]) (σ' := (97, I, J, R)) rfl ?_
                    refine az_E.ret (v := some (.int (0 : Int32))) (σ' := (97, I, J, R)) rfl ?_
                    show az_E az_F ex 2 128 83 [.retAddr 0, .retAddr 0, .int v2, .retAddr 0, .int v4, .int v5, .ref 61, .ref 65] [.int (0 : Int32)] (97, I, J, R) _
                    refine az_E.br (c := (0 : Int32) = 0) (tt := 98) (ff := 86) (L' := [.retAddr 0, .retAddr 0, .int v2, .retAddr 0, .int v4, .int v5, .ref 61, .ref 65]) (S' := []) (σ' := (97, I, J, R)) rfl (fun _ => ?_) (fun hn => absurd (by decide) hn)
                    refine az_E.sn 1 (pc' := 100) (L' := [.retAddr 0, .retAddr 0, .int v2, .retAddr 0, .int v4, .int v5, .ref 61, .ref 65]) (S' := [.int (-13 : Int32)]) (σ' := (97, I, J, R)) rfl ?_
                    have h := Option.some.inj h
                    subst h
                    exact az_E.ret (v := some (.int (-13 : Int32))) (σ' := (97, I, J, R)) rfl hQ
                  · rw [if_neg hc_163] at h
                    refine az_E.sn 2 (pc' := 31) (L' := [.ref 61, .int v2, .int v5]) (S' := [.int (1 : Int32)]) (σ' := (97, I, J, R)) rfl ?_
                    refine az_E.ret (v := some (.int (1 : Int32))) (σ' := (97, I, J, R)) rfl ?_
                    show az_E az_F ex 2 128 83 [.retAddr 0, .retAddr 0, .int v2, .retAddr 0, .int v4, .int v5, .ref 61, .ref 65] [.int (1 : Int32)] (97, I, J, R) _
                    refine az_E.br (c := (1 : Int32) = 0) (tt := 98) (ff := 86) (L' := [.retAddr 0, .retAddr 0, .int v2, .retAddr 0, .int v4, .int v5, .ref 61, .ref 65]) (S' := []) (σ' := (97, I, J, R)) rfl (fun hn => absurd hn (by decide)) (fun _ => ?_)
                    refine az_E.sn 3 (pc' := 92) (L' := [.retAddr 0, .retAddr 0, .int v2, .retAddr 0, .int v4, .int v5, .ref 61, .ref 65]) (S' := [.int v5, .int v4, .ref 65]) (σ' := (97, I, J, R)) rfl ?_
                    refine az_E.call (d := 1) (k' := 60) (vs := [.ref 65, .int v4, .int v5]) (pc' := 95) (S' := []) rfl ?_ (fun _ _ hq => hq)
                    show az_E az_F ex 1 60 0 [.ref 65, .int v4, .int v5] [] (97, I, J, R) _
                    refine az_E.sn 1 (pc' := 1) (L' := [.ref 65, .int v4, .int v5]) (S' := [.int v4]) (σ' := (97, I, J, R)) rfl ?_
                    refine az_E.br (c := v4 < 0) (tt := 30) (ff := 4) (L' := [.ref 65, .int v4, .int v5]) (S' := []) (σ' := (97, I, J, R)) rfl (fun hc_164 => ?_) (fun hc_164 => ?_)
                    · rw [if_pos hc_164] at h
                      refine az_E.sn 1 (pc' := 31) (L' := [.ref 65, .int v4, .int v5]) (S' := [.int (0 : Int32)]) (σ' := (97, I, J, R)) rfl ?_
                      refine az_E.ret (v := some (.int (0 : Int32))) (σ' := (97, I, J, R)) rfl ?_
                      show az_E az_F ex 2 128 95 [.retAddr 0, .retAddr 0, .int v2, .retAddr 0, .int v4, .int v5, .ref 61, .ref 65] [.int (0 : Int32)] (97, I, J, R) _
                      refine az_E.br (c := (0 : Int32) = 0) (tt := 98) (ff := 101) (L' := [.retAddr 0, .retAddr 0, .int v2, .retAddr 0, .int v4, .int v5, .ref 61, .ref 65]) (S' := []) (σ' := (97, I, J, R)) rfl (fun _ => ?_) (fun hn => absurd (by decide) hn)
                      refine az_E.sn 1 (pc' := 100) (L' := [.retAddr 0, .retAddr 0, .int v2, .retAddr 0, .int v4, .int v5, .ref 61, .ref 65]) (S' := [.int (-13 : Int32)]) (σ' := (97, I, J, R)) rfl ?_
                      have h := Option.some.inj h
                      subst h
                      exact az_E.ret (v := some (.int (-13 : Int32))) (σ' := (97, I, J, R)) rfl hQ
                    · rw [if_neg hc_164] at h
                      refine az_E.sn 1 (pc' := 5) (L' := [.ref 65, .int v4, .int v5]) (S' := [.int v5]) (σ' := (97, I, J, R)) rfl ?_
                      refine az_E.br (c := v5 < 0) (tt := 30) (ff := 8) (L' := [.ref 65, .int v4, .int v5]) (S' := []) (σ' := (97, I, J, R)) rfl (fun hc_165 => ?_) (fun hc_165 => ?_)
                      · rw [if_pos hc_165] at h
                        refine az_E.sn 1 (pc' := 31) (L' := [.ref 65, .int v4, .int v5]) (S' := [.int (0 : Int32)]) (σ' := (97, I, J, R)) rfl ?_
                        refine az_E.ret (v := some (.int (0 : Int32))) (σ' := (97, I, J, R)) rfl ?_
                        show az_E az_F ex 2 128 95 [.retAddr 0, .retAddr 0, .int v2, .retAddr 0, .int v4, .int v5, .ref 61, .ref 65] [.int (0 : Int32)] (97, I, J, R) _
                        refine az_E.br (c := (0 : Int32) = 0) (tt := 98) (ff := 101) (L' := [.retAddr 0, .retAddr 0, .int v2, .retAddr 0, .int v4, .int v5, .ref 61, .ref 65]) (S' := []) (σ' := (97, I, J, R)) rfl (fun _ => ?_) (fun hn => absurd (by decide) hn)
                        refine az_E.sn 1 (pc' := 100) (L' := [.retAddr 0, .retAddr 0, .int v2, .retAddr 0, .int v4, .int v5, .ref 61, .ref 65]) (S' := [.int (-13 : Int32)]) (σ' := (97, I, J, R)) rfl ?_
                        have h := Option.some.inj h
                        subst h
                        exact az_E.ret (v := some (.int (-13 : Int32))) (σ' := (97, I, J, R)) rfl hQ
                      · rw [if_neg hc_165] at h
                        refine az_E.sn 3 (pc' := 13) (L' := [.ref 65, .int v4, .int v5]) (S' := [.int (I 65 2), .int v4]) (σ' := (97, I, J, R)) rfl ?_
                        refine az_E.br (c := (I 65 2) < v4) (tt := 30) (ff := 16) (L' := [.ref 65, .int v4, .int v5]) (S' := []) (σ' := (97, I, J, R)) rfl (fun hc_166 => ?_) (fun hc_166 => ?_)
                        · rw [if_pos hc_166] at h
                          refine az_E.sn 1 (pc' := 31) (L' := [.ref 65, .int v4, .int v5]) (S' := [.int (0 : Int32)]) (σ' := (97, I, J, R)) rfl ?_
                          refine az_E.ret (v := some (.int (0 : Int32))) (σ' := (97, I, J, R)) rfl ?_
                          show az_E az_F ex 2 128 95 [.retAddr 0, .retAddr 0, .int v2, .retAddr 0, .int v4, .int v5, .ref 61, .ref 65] [.int (0 : Int32)] (97, I, J, R) _
                          refine az_E.br (c := (0 : Int32) = 0) (tt := 98) (ff := 101) (L' := [.retAddr 0, .retAddr 0, .int v2, .retAddr 0, .int v4, .int v5, .ref 61, .ref 65]) (S' := []) (σ' := (97, I, J, R)) rfl (fun _ => ?_) (fun hn => absurd (by decide) hn)
                          refine az_E.sn 1 (pc' := 100) (L' := [.retAddr 0, .retAddr 0, .int v2, .retAddr 0, .int v4, .int v5, .ref 61, .ref 65]) (S' := [.int (-13 : Int32)]) (σ' := (97, I, J, R)) rfl ?_
                          have h := Option.some.inj h
                          subst h
                          exact az_E.ret (v := some (.int (-13 : Int32))) (σ' := (97, I, J, R)) rfl hQ
                        · rw [if_neg hc_166] at h
                          refine az_E.sn 5 (pc' := 23) (L' := [.ref 65, .int v4, .int v5]) (S' := [.int ((I 65 2) - v4), .int v5]) (σ' := (97, I, J, R)) rfl ?_
                          refine az_E.br (c := ((I 65 2) - v4) < v5) (tt := 30) (ff := 26) (L' := [.ref 65, .int v4, .int v5]) (S' := []) (σ' := (97, I, J, R)) rfl (fun hc_167 => ?_) (fun hc_167 => ?_)
                          · rw [if_pos hc_167] at h
                            refine az_E.sn 1 (pc' := 31) (L' := [.ref 65, .int v4, .int v5]) (S' := [.int (0 : Int32)]) (σ' := (97, I, J, R)) rfl ?_
                            refine az_E.ret (v := some (.int (0 : Int32))) (σ' := (97, I, J, R)) rfl ?_
                            show az_E az_F ex 2 128 95 [.retAddr 0, .retAddr 0, .int v2, .retAddr 0, .int v4, .int v5, .ref 61, .ref 65] [.int (0 : Int32)] (97, I, J, R) _
                            refine az_E.br (c := (0 : Int32) = 0) (tt := 98) (ff := 101) (L' := [.retAddr 0, .retAddr 0, .int v2, .retAddr 0, .int v4, .int v5, .ref 61, .ref 65]) (S' := []) (σ' := (97, I, J, R)) rfl (fun _ => ?_) (fun hn => absurd (by decide) hn)
                            refine az_E.sn 1 (pc' := 100) (L' := [.retAddr 0, .retAddr 0, .int v2, .retAddr 0, .int v4, .int v5, .ref 61, .ref 65]) (S' := [.int (-13 : Int32)]) (σ' := (97, I, J, R)) rfl ?_
                            have h := Option.some.inj h
                            subst h
                            exact az_E.ret (v := some (.int (-13 : Int32))) (σ' := (97, I, J, R)) rfl hQ
                          · rw [if_neg hc_167] at h
                            refine az_E.sn 2 (pc' := 31) (L' := [.ref 65, .int v4, .int v5]) (S' := [.int (1 : Int32)]) (σ' := (97, I, J, R)) rfl ?_
                            refine az_E.ret (v := some (.int (1 : Int32))) (σ' := (97, I, J, R)) rfl ?_
                            show az_E az_F ex 2 128 95 [.retAddr 0, .retAddr 0, .int v2, .retAddr 0, .int v4, .int v5, .ref 61, .ref 65] [.int (1 : Int32)] (97, I, J, R) _
                            refine az_E.br (c := (1 : Int32) = 0) (tt := 98) (ff := 101) (L' := [.retAddr 0, .retAddr 0, .int v2, .retAddr 0, .int v4, .int v5, .ref 61, .ref 65]) (S' := []) (σ' := (97, I, J, R)) rfl (fun hn => absurd hn (by decide)) (fun _ => ?_)
                            refine az_E.sn 7 (pc' := 116) (L' := [.retAddr 0, .retAddr 0, .int v2, .retAddr 0, .int v4, .int v5, .ref 61, .ref 65]) (S' := [.int v5, .int v4, .ref (65 + 1), .int v2, .ref (61 + 1)]) (σ' := (97, I, J, R)) rfl ?_
                            by_cases hc_168 : v2 < 0 ∨ v4 < 0 ∨ v5 < 0 ∨ 60 < v2.toNatClampNeg + v5.toNatClampNeg ∨ 60 < v4.toNatClampNeg + v5.toNatClampNeg
                            · rw [if_pos hc_168] at h; cases h
                            · rw [if_neg hc_168] at h
                              refine az_E.o (o := az_cp az_F (97, I, J, R) (61 + 1) v2 (65 + 1) v4 v5) (pc' := 119) (L' := [.retAddr 0, .retAddr 0, .int v2, .retAddr 0, .int v4, .int v5, .ref 61, .ref 65]) (S' := []) (x := (97, I, (az_ur J (65 + 1) (va_cpy (J (61 + 1)) (J (65 + 1)) v2.toNatClampNeg v4.toNatClampNeg v5.toNatClampNeg)), R)) rfl (if_neg hc_168) ?_
                              refine az_E.sn 1 (pc' := 121) (L' := [.retAddr 0, .retAddr 0, .int v2, .retAddr 0, .int v4, .int v5, .ref 61, .ref 65]) (S' := [.int v5]) (σ' := (97, I, (az_ur J (65 + 1) (va_cpy (J (61 + 1)) (J (65 + 1)) v2.toNatClampNeg v4.toNatClampNeg v5.toNatClampNeg)), R)) rfl ?_
                              have h := Option.some.inj h
                              subst h
                              exact az_E.ret (v := some (.int v5)) (σ' := (97, I, (az_ur J (65 + 1) (va_cpy (J (61 + 1)) (J (65 + 1)) v2.toNatClampNeg v4.toNatClampNeg v5.toNatClampNeg)), R)) rfl hQ
          · rw [if_neg hc_159] at h
            refine az_E.sn 1 (pc' := 20) (L' := [.ref 65, .int (I 61 1)]) (S' := [.int (0 : Int32)]) (σ' := (97, I, J, R)) rfl ?_
            refine az_E.ret (v := some (.int (0 : Int32))) (σ' := (97, I, J, R)) rfl ?_
            show az_E az_F ex 2 128 69 [.retAddr 0, .retAddr 0, .int v2, .retAddr 0, .int v4, .int v5, .ref 61, .ref 65] [.int (0 : Int32)] (97, I, J, R) _
            refine az_E.br (c := (0 : Int32) = 0) (tt := 72) (ff := 75) (L' := [.retAddr 0, .retAddr 0, .int v2, .retAddr 0, .int v4, .int v5, .ref 61, .ref 65]) (S' := []) (σ' := (97, I, J, R)) rfl (fun _ => ?_) (fun hn => absurd (by decide) hn)
            refine az_E.sn 1 (pc' := 74) (L' := [.retAddr 0, .retAddr 0, .int v2, .retAddr 0, .int v4, .int v5, .ref 61, .ref 65]) (S' := [.int (-12 : Int32)]) (σ' := (97, I, J, R)) rfl ?_
            have h := Option.some.inj h
            subst h
            exact az_E.ret (v := some (.int (-12 : Int32))) (σ' := (97, I, J, R)) rfl hQ
set_option maxRecDepth 100000 in
set_option maxHeartbeats 4000000 in
theorem re_X_shift_30_61_67 {ex : az_X} {I : Nat → Nat → Int32} {J : Nat → Nat → Int64} {R : Nat → Nat → Option Nat} {v2 : Int32} {v4 : Int32} {v5 : Int32} {x : Int32 × (Nat → Nat → Int64)} (h : rs_X_shift_30 61 67 I J v2 v4 v5 = some x) {Q : Option Value → az_S → Prop} (hQ : Q (some (.int x.1)) (97, I, x.2, R)) : az_E az_F ex 2 128 30 [.retAddr 0, .retAddr 0, .int v2, .retAddr 0, .int v4, .int v5, .ref 61, .retAddr 0] [.ref 67] (97, I, J, R) Q := by
  unfold rs_X_shift_30 at h
  refine az_E.sn 2 (pc' := 34) (L' := [.retAddr 0, .retAddr 0, .int v2, .retAddr 0, .int v4, .int v5, .ref 61, .ref 67]) (S' := [.ref 61]) (σ' := (97, I, J, R)) rfl ?_
  refine az_E.call (d := 1) (k' := 54) (vs := [.ref 61]) (pc' := 37) (S' := []) rfl ?_ (fun _ _ hq => hq)
  show az_E az_F ex 1 54 0 [.ref 61] [] (97, I, J, R) _
  refine az_E.sn 3 (pc' := 5) (L' := [.ref 61]) (S' := [.int (-1 : Int32), .int (I 61 0)]) (σ' := (97, I, J, R)) rfl ?_
  refine az_E.br (c := (I 61 0) = (-1 : Int32)) (tt := 8) (ff := 20) (L' := [.ref 61]) (S' := []) (σ' := (97, I, J, R)) rfl (fun hc_169 => ?_) (fun hc_169 => ?_)
  · rw [if_pos hc_169] at h
    refine az_E.sn 3 (pc' := 13) (L' := [.ref 61]) (S' := [.int (-1 : Int32), .int (I 61 1)]) (σ' := (97, I, J, R)) rfl ?_
    refine az_E.br (c := (I 61 1) = (-1 : Int32)) (tt := 16) (ff := 20) (L' := [.ref 61]) (S' := []) (σ' := (97, I, J, R)) rfl (fun hc_170 => ?_) (fun hc_170 => ?_)
    · rw [if_pos hc_170] at h
      refine az_E.sn 2 (pc' := 21) (L' := [.ref 61]) (S' := [.int (1 : Int32)]) (σ' := (97, I, J, R)) rfl ?_
      refine az_E.ret (v := some (.int (1 : Int32))) (σ' := (97, I, J, R)) rfl ?_
      show az_E az_F ex 2 128 37 [.retAddr 0, .retAddr 0, .int v2, .retAddr 0, .int v4, .int v5, .ref 61, .ref 67] [.int (1 : Int32)] (97, I, J, R) _
      refine az_E.br (c := (1 : Int32) = 0) (tt := 40) (ff := 48) (L' := [.retAddr 0, .retAddr 0, .int v2, .retAddr 0, .int v4, .int v5, .ref 61, .ref 67]) (S' := []) (σ' := (97, I, J, R)) rfl (fun hn => absurd hn (by decide)) (fun _ => ?_)
      refine az_E.sn 1 (pc' := 50) (L' := [.retAddr 0, .retAddr 0, .int v2, .retAddr 0, .int v4, .int v5, .ref 61, .ref 67]) (S' := [.int (-11 : Int32)]) (σ' := (97, I, J, R)) rfl ?_
      have h := Option.some.inj h
      subst h
      exact az_E.ret (v := some (.int (-11 : Int32))) (σ' := (97, I, J, R)) rfl hQ
    · rw [if_neg hc_170] at h
      refine az_E.sn 1 (pc' := 21) (L' := [.ref 61]) (S' := [.int (0 : Int32)]) (σ' := (97, I, J, R)) rfl ?_
      refine az_E.ret (v := some (.int (0 : Int32))) (σ' := (97, I, J, R)) rfl ?_
      show az_E az_F ex 2 128 37 [.retAddr 0, .retAddr 0, .int v2, .retAddr 0, .int v4, .int v5, .ref 61, .ref 67] [.int (0 : Int32)] (97, I, J, R) _
      refine az_E.br (c := (0 : Int32) = 0) (tt := 40) (ff := 48) (L' := [.retAddr 0, .retAddr 0, .int v2, .retAddr 0, .int v4, .int v5, .ref 61, .ref 67]) (S' := []) (σ' := (97, I, J, R)) rfl (fun _ => ?_) (fun hn => absurd (by decide) hn)
      refine az_E.sn 1 (pc' := 42) (L' := [.retAddr 0, .retAddr 0, .int v2, .retAddr 0, .int v4, .int v5, .ref 61, .ref 67]) (S' := [.ref 67]) (σ' := (97, I, J, R)) rfl ?_
      refine az_E.call (d := 1) (k' := 54) (vs := [.ref 67]) (pc' := 45) (S' := []) rfl ?_ (fun _ _ hq => hq)
      show az_E az_F ex 1 54 0 [.ref 67] [] (97, I, J, R) _
      refine az_E.sn 3 (pc' := 5) (L' := [.ref 67]) (S' := [.int (-1 : Int32), .int (I 67 0)]) (σ' := (97, I, J, R)) rfl ?_
      refine az_E.br (c := (I 67 0) = (-1 : Int32)) (tt := 8) (ff := 20) (L' := [.ref 67]) (S' := []) (σ' := (97, I, J, R)) rfl (fun hc_171 => ?_) (fun hc_171 => ?_)
      · rw [if_pos hc_171] at h
        refine az_E.sn 3 (pc' := 13) (L' := [.ref 67]) (S' := [.int (-1 : Int32), .int (I 67 1)]) (σ' := (97, I, J, R)) rfl ?_
        refine az_E.br (c := (I 67 1) = (-1 : Int32)) (tt := 16) (ff := 20) (L' := [.ref 67]) (S' := []) (σ' := (97, I, J, R)) rfl (fun hc_172 => ?_) (fun hc_172 => ?_)
        · rw [if_pos hc_172] at h
          refine az_E.sn 2 (pc' := 21) (L' := [.ref 67]) (S' := [.int (1 : Int32)]) (σ' := (97, I, J, R)) rfl ?_
          refine az_E.ret (v := some (.int (1 : Int32))) (σ' := (97, I, J, R)) rfl ?_
          show az_E az_F ex 2 128 45 [.retAddr 0, .retAddr 0, .int v2, .retAddr 0, .int v4, .int v5, .ref 61, .ref 67] [.int (1 : Int32)] (97, I, J, R) _
          refine az_E.br (c := (1 : Int32) = 0) (tt := 51) (ff := 48) (L' := [.retAddr 0, .retAddr 0, .int v2, .retAddr 0, .int v4, .int v5, .ref 61, .ref 67]) (S' := []) (σ' := (97, I, J, R)) rfl (fun hn => absurd hn (by decide)) (fun _ => ?_)
          refine az_E.sn 1 (pc' := 50) (L' := [.retAddr 0, .retAddr 0, .int v2, .retAddr 0, .int v4, .int v5, .ref 61, .ref 67]) (S' := [.int (-11 : Int32)]) (σ' := (97, I, J, R)) rfl ?_
          have h := Option.some.inj h
          subst h
          exact az_E.ret (v := some (.int (-11 : Int32))) (σ' := (97, I, J, R)) rfl hQ
        · rw [if_neg hc_172] at h
          refine az_E.sn 1 (pc' := 21) (L' := [.ref 67]) (S' := [.int (0 : Int32)]) (σ' := (97, I, J, R)) rfl ?_
          refine az_E.ret (v := some (.int (0 : Int32))) (σ' := (97, I, J, R)) rfl ?_
          show az_E az_F ex 2 128 45 [.retAddr 0, .retAddr 0, .int v2, .retAddr 0, .int v4, .int v5, .ref 61, .ref 67] [.int (0 : Int32)] (97, I, J, R) _
          refine az_E.br (c := (0 : Int32) = 0) (tt := 51) (ff := 48) (L' := [.retAddr 0, .retAddr 0, .int v2, .retAddr 0, .int v4, .int v5, .ref 61, .ref 67]) (S' := []) (σ' := (97, I, J, R)) rfl (fun _ => ?_) (fun hn => absurd (by decide) hn)
          refine az_E.sn 1 (pc' := 53) (L' := [.retAddr 0, .retAddr 0, .int v2, .retAddr 0, .int v4, .int v5, .ref 61, .ref 67]) (S' := [.ref 61]) (σ' := (97, I, J, R)) rfl ?_
          refine az_E.call (d := 1) (k' := 55) (vs := [.ref 61]) (pc' := 56) (S' := []) rfl ?_ (fun _ _ hq => hq)
          show az_E az_F ex 1 55 0 [.ref 61] [] (97, I, J, R) _
          refine az_E.sn 3 (pc' := 5) (L' := [.ref 61]) (S' := [.int (-1 : Int32), .int (I 61 1)]) (σ' := (97, I, J, R)) rfl ?_
          refine az_E.br (c := (I 61 1) = (-1 : Int32)) (tt := 12) (ff := 8) (L' := [.ref 61]) (S' := []) (σ' := (97, I, J, R)) rfl (fun hc_173 => ?_) (fun hc_173 => ?_)
          · rw [if_pos hc_173] at h
            refine az_E.sn 1 (pc' := 13) (L' := [.ref 61]) (S' := [.int (0 : Int32)]) (σ' := (97, I, J, R)) rfl ?_
            refine az_E.ret (v := some (.int (0 : Int32))) (σ' := (97, I, J, R)) rfl ?_
            show az_E az_F ex 2 128 56 [.retAddr 0, .retAddr 0, .int v2, .retAddr 0, .int v4, .int v5, .ref 61, .ref 67] [.int (0 : Int32)] (97, I, J, R) _
            refine az_E.br (c := (0 : Int32) = 0) (tt := 72) (ff := 59) (L' := [.retAddr 0, .retAddr 0, .int v2, .retAddr 0, .int v4, .int v5, .ref 61, .ref 67]) (S' := []) (σ' := (97, I, J, R)) rfl (fun _ => ?_) (fun hn => absurd (by decide) hn)
            refine az_E.sn 1 (pc' := 74) (L' := [.retAddr 0, .retAddr 0, .int v2, .retAddr 0, .int v4, .int v5, .ref 61, .ref 67]) (S' := [.int (-12 : Int32)]) (σ' := (97, I, J, R)) rfl ?_
            have h := Option.some.inj h
            subst h
            exact az_E.ret (v := some (.int (-12 : Int32))) (σ' := (97, I, J, R)) rfl hQ
          · rw [if_neg hc_173] at h
            refine az_E.sn 2 (pc' := 13) (L' := [.ref 61]) (S' := [.int (1 : Int32)]) (σ' := (97, I, J, R)) rfl ?_
            refine az_E.ret (v := some (.int (1 : Int32))) (σ' := (97, I, J, R)) rfl ?_
            show az_E az_F ex 2 128 56 [.retAddr 0, .retAddr 0, .int v2, .retAddr 0, .int v4, .int v5, .ref 61, .ref 67] [.int (1 : Int32)] (97, I, J, R) _
            refine az_E.br (c := (1 : Int32) = 0) (tt := 72) (ff := 59) (L' := [.retAddr 0, .retAddr 0, .int v2, .retAddr 0, .int v4, .int v5, .ref 61, .ref 67]) (S' := []) (σ' := (97, I, J, R)) rfl (fun hn => absurd hn (by decide)) (fun _ => ?_)
            refine az_E.sn 3 (pc' := 66) (L' := [.retAddr 0, .retAddr 0, .int v2, .retAddr 0, .int v4, .int v5, .ref 61, .ref 67]) (S' := [.int (I 61 1), .ref 67]) (σ' := (97, I, J, R)) rfl ?_
            refine az_E.call (d := 1) (k' := 56) (vs := [.ref 67, .int (I 61 1)]) (pc' := 69) (S' := []) rfl ?_ (fun _ _ hq => hq)
            show az_E az_F ex 1 56 0 [.ref 67, .int (I 61 1)] [] (97, I, J, R) _
            refine az_E.sn 1 (pc' := 1) (L' := [.ref 67, .int (I 61 1)]) (S' := [.ref 67]) (σ' := (97, I, J, R)) rfl ?_
            refine az_E.call (d := 0) (k' := 55) (vs := [.ref 67]) (pc' := 4) (S' := []) rfl ?_ (fun _ _ hq => hq)
            show az_E az_F ex 0 55 0 [.ref 67] [] (97, I, J, R) _
            refine az_E.sn 3 (pc' := 5) (L' := [.ref 67]) (S' := [.int (-1 : Int32), .int (I 67 1)]) (σ' := (97, I, J, R)) rfl ?_
            refine az_E.br (c := (I 67 1) = (-1 : Int32)) (tt := 12) (ff := 8) (L' := [.ref 67]) (S' := []) (σ' := (97, I, J, R)) rfl (fun hc_174 => ?_) (fun hc_174 => ?_)
            · rw [if_pos hc_174] at h
              refine az_E.sn 1 (pc' := 13) (L' := [.ref 67]) (S' := [.int (0 : Int32)]) (σ' := (97, I, J, R)) rfl ?_
              refine az_E.ret (v := some (.int (0 : Int32))) (σ' := (97, I, J, R)) rfl ?_
              show az_E az_F ex 1 56 4 [.ref 67, .int (I 61 1)] [.int (0 : Int32)] (97, I, J, R) _
              refine az_E.br (c := (0 : Int32) = 0) (tt := 19) (ff := 7) (L' := [.ref 67, .int (I 61 1)]) (S' := []) (σ' := (97, I, J, R)) rfl (fun _ => ?_) (fun hn => absurd (by decide) hn)
              refine az_E.sn 1 (pc' := 20) (L' := [.ref 67, .int (I 61 1)]) (S' := [.int (0 : Int32)]) (σ' := (97, I, J, R)) rfl ?_
              refine az_E.ret (v := some (.int (0 : Int32))) (σ' := (97, I, J, R)) rfl ?_
              show az_E az_F ex 2 128 69 [.retAddr 0, .retAddr 0, .int v2, .retAddr 0, .int v4, .int v5, .ref 61, .ref 67] [.int (0 : Int32)] (97, I, J, R) _
              refine az_E.br (c := (0 : Int32) = 0) (tt := 72) (ff := 75) (L' := [.retAddr 0, .retAddr 0, .int v2, .retAddr 0, .int v4, .int v5, .ref 61, .ref 67]) (S' := []) (σ' := (97, I, J, R)) rfl (fun _ => ?_) (fun hn => absurd (by decide) hn)
              refine az_E.sn 1 (pc' := 74) (L' := [.retAddr 0, .retAddr 0, .int v2, .retAddr 0, .int v4, .int v5, .ref 61, .ref 67]) (S' := [.int (-12 : Int32)]) (σ' := (97, I, J, R)) rfl ?_
              have h := Option.some.inj h
              subst h
              exact az_E.ret (v := some (.int (-12 : Int32))) (σ' := (97, I, J, R)) rfl hQ
            · rw [if_neg hc_174] at h
              refine az_E.sn 2 (pc' := 13) (L' := [.ref 67]) (S' := [.int (1 : Int32)]) (σ' := (97, I, J, R)) rfl ?_
              refine az_E.ret (v := some (.int (1 : Int32))) (σ' := (97, I, J, R)) rfl ?_
              show az_E az_F ex 1 56 4 [.ref 67, .int (I 61 1)] [.int (1 : Int32)] (97, I, J, R) _
              refine az_E.br (c := (1 : Int32) = 0) (tt := 19) (ff := 7) (L' := [.ref 67, .int (I 61 1)]) (S' := []) (σ' := (97, I, J, R)) rfl (fun hn => absurd hn (by decide)) (fun _ => ?_)
              refine az_E.sn 3 (pc' := 12) (L' := [.ref 67, .int (I 61 1)]) (S' := [.int (I 61 1), .int (I 67 1)]) (σ' := (97, I, J, R)) rfl ?_
              refine az_E.br (c := (I 67 1) = (I 61 1)) (tt := 15) (ff := 19) (L' := [.ref 67, .int (I 61 1)]) (S' := []) (σ' := (97, I, J, R)) rfl (fun hc_175 => ?_) (fun hc_175 => ?_)
              · rw [if_pos hc_175] at h
                refine az_E.sn 2 (pc' := 20) (L' := [.ref 67, .int (I 61 1)]) (S' := [.int (1 : Int32)]) (σ' := (97, I, J, R)) rfl ?_
                refine az_E.ret (v := some (.int (1 : Int32))) (σ' := (97, I, J, R)) rfl ?_
                show az_E az_F ex 2 128 69 [.retAddr 0, .retAddr 0, .int v2, .retAddr 0, .int v4, .int v5, .ref 61, .ref 67] [.int (1 : Int32)] (97, I, J, R) _
                refine az_E.br (c := (1 : Int32) = 0) (tt := 72) (ff := 75) (L' := [.retAddr 0, .retAddr 0, .int v2, .retAddr 0, .int v4, .int v5, .ref 61, .ref 67]) (S' := []) (σ' := (97, I, J, R)) rfl (fun hn => absurd hn (by decide)) (fun _ => ?_)
                refine az_E.sn 3 (pc' := 80) (L' := [.retAddr 0, .retAddr 0, .int v2, .retAddr 0, .int v4, .int v5, .ref 61, .ref 67]) (S' := [.int v5, .int v2, .ref 61]) (σ' := (97, I, J, R)) rfl ?_
                refine az_E.call (d := 1) (k' := 60) (vs := [.ref 61, .int v2, .int v5]) (pc' := 83) (S' := []) rfl ?_ (fun _ _ hq => hq)
                show az_E az_F ex 1 60 0 [.ref 61, .int v2, .int v5] [] (97, I, J, R) _
                refine az_E.sn 1 (pc' := 1) (L' := [.ref 61, .int v2, .int v5]) (S' := [.int v2]) (σ' := (97, I, J, R)) rfl ?_
                refine az_E.br (c := v2 < 0) (tt := 30) (ff := 4) (L' := [.ref 61, .int v2, .int v5]) (S' := []) (σ' := (97, I, J, R)) rfl (fun hc_176 => ?_) (fun hc_176 => ?_)
                · rw [if_pos hc_176] at h
                  refine az_E.sn 1 (pc' := 31) (L' := [.ref 61, .int v2, .int v5]) (S' := [.int (0 : Int32)]) (σ' := (97, I, J, R)) rfl ?_
                  refine az_E.ret (v := some (.int (0 : Int32))) (σ' := (97, I, J, R)) rfl ?_
                  show az_E az_F ex 2 128 83 [.retAddr 0, .retAddr 0, .int v2, .retAddr 0, .int v4, .int v5, .ref 61, .ref 67] [.int (0 : Int32)] (97, I, J, R) _
                  refine az_E.br (c := (0 : Int32) = 0) (tt := 98) (ff := 86) (L' := [.retAddr 0, .retAddr 0, .int v2, .retAddr 0, .int v4, .int v5, .ref 61, .ref 67]) (S' := []) (σ' := (97, I, J, R)) rfl (fun _ => ?_) (fun hn => absurd (by decide) hn)
                  refine az_E.sn 1 (pc' := 100) (L' := [.retAddr 0, .retAddr 0, .int v2, .retAddr 0, .int v4, .int v5, .ref 61, .ref 67]) (S' := [.int (-13 : Int32)]) (σ' := (97, I, J, R)) rfl ?_
                  have h := Option.some.inj h
                  subst h
                  exact az_E.ret (v := some (.int (-13 : Int32))) (σ' := (97, I, J, R)) rfl hQ
                · rw [if_neg hc_176] at h
                  refine az_E.sn 1 (pc' := 5) (L' := [.ref 61, .int v2, .int v5]) (S' := [.int v5]) (σ' := (97, I, J, R)) rfl ?_
                  refine az_E.br (c := v5 < 0) (tt := 30) (ff := 8) (L' := [.ref 61, .int v2, .int v5]) (S' := []) (σ' := (97, I, J, R)) rfl (fun hc_177 => ?_) (fun hc_177 => ?_)
                  · rw [if_pos hc_177] at h
                    refine az_E.sn 1 (pc' := 31) (L' := [.ref 61, .int v2, .int v5]) (S' := [.int (0 : Int32)]) (σ' := (97, I, J, R)) rfl ?_
                    refine az_E.ret (v := some (.int (0 : Int32))) (σ' := (97, I, J, R)) rfl ?_
                    show az_E az_F ex 2 128 83 [.retAddr 0, .retAddr 0, .int v2, .retAddr 0, .int v4, .int v5, .ref 61, .ref 67] [.int (0 : Int32)] (97, I, J, R) _
                    refine az_E.br (c := (0 : Int32) = 0) (tt := 98) (ff := 86) (L' := [.retAddr 0, .retAddr 0, .int v2, .retAddr 0, .int v4, .int v5, .ref 61, .ref 67]) (S' := []) (σ' := (97, I, J, R)) rfl (fun _ => ?_) (fun hn => absurd (by decide) hn)
                    refine az_E.sn 1 (pc' := 100) (L' := [.retAddr 0, .retAddr 0, .int v2, .retAddr 0, .int v4, .int v5, .ref 61, .ref 67]) (S' := [.int (-13 : Int32)]) (σ' := (97, I, J, R)) rfl ?_
                    have h := Option.some.inj h
                    subst h
                    exact az_E.ret (v := some (.int (-13 : Int32))) (σ' := (97, I, J, R)) rfl hQ
                  · rw [if_neg hc_177] at h
                    refine az_E.sn 3 (pc' := 13) (L' := [.ref 61, .int v2, .int v5]) (S' := [.int (I 61 2), .int v2]) (σ' := (97, I, J, R)) rfl ?_
                    refine az_E.br (c := (I 61 2) < v2) (tt := 30) (ff := 16) (L' := [.ref 61, .int v2, .int v5]) (S' := []) (σ' := (97, I, J, R)) rfl (fun hc_178 => ?_) (fun hc_178 => ?_)
                    · rw [if_pos hc_178] at h
                      refine az_E.sn 1 (pc' := 31) (L' := [.ref 61, .int v2, .int v5]) (S' := [.int (0 : Int32)]) (σ' := (97, I, J, R)) rfl ?_
                      refine az_E.ret (v := some (.int (0 : Int32))) (σ' := (97, I, J, R)) rfl ?_
                      show az_E az_F ex 2 128 83 [.retAddr 0, .retAddr 0, .int v2, .retAddr 0, .int v4, .int v5, .ref 61, .ref 67] [.int (0 : Int32)] (97, I, J, R) _
                      refine az_E.br (c := (0 : Int32) = 0) (tt := 98) (ff := 86) (L' := [.retAddr 0, .retAddr 0, .int v2, .retAddr 0, .int v4, .int v5, .ref 61, .ref 67]) (S' := []) (σ' := (97, I, J, R)) rfl (fun _ => ?_) (fun hn => absurd (by decide) hn)
                      refine az_E.sn 1 (pc' := 100) (L' := [.retAddr 0, .retAddr 0, .int v2, .retAddr 0, .int v4, .int v5, .ref 61, .ref 67]) (S' := [.int (-13 : Int32)]) (σ' := (97, I, J, R)) rfl ?_
                      have h := Option.some.inj h
                      subst h
                      exact az_E.ret (v := some (.int (-13 : Int32))) (σ' := (97, I, J, R)) rfl hQ
                    · rw [if_neg hc_178] at h
                      refine az_E.sn 5 (pc' := 23) (L' := [.ref 61, .int v2, .int v5]) (S' := [.int ((I 61 2) - v2), .int v5]) (σ' := (97, I, J, R)) rfl ?_
                      refine az_E.br (c := ((I 61 2) - v2) < v5) (tt := 30) (ff := 26) (L' := [.ref 61, .int v2, .int v5]) (S' := []) (σ' := (97, I, J, R)) rfl (fun hc_179 => ?_) (fun hc_179 => ?_)
                      · rw [if_pos hc_179] at h
                        refine az_E.sn 1 (pc' := 31) (L' := [.ref 61, .int v2, .int v5]) (S' := [.int (0 : Int32)]) (σ' := (97, I, J, R)) rfl ?_
                        refine az_E.ret (v := some (.int (0 : Int32))) (σ' := (97, I, J, R)) rfl ?_
                        show az_E az_F ex 2 128 83 [.retAddr 0, .retAddr 0, .int v2, .retAddr 0, .int v4, .int v5, .ref 61, .ref 67] [.int (0 : Int32)] (97, I, J, R) _
                        refine az_E.br (c := (0 : Int32) = 0) (tt := 98) (ff := 86) (L' := [.retAddr 0, .retAddr 0, .int v2, .retAddr 0, .int v4, .int v5, .ref 61, .ref 67]) (S' := []) (σ' := (97, I, J, R)) rfl (fun _ => ?_) (fun hn => absurd (by decide) hn)
                        refine az_E.sn 1 (pc' := 100) (L' := [.retAddr 0, .retAddr 0, .int v2, .retAddr 0, .int v4, .int v5, .ref 61, .ref 67]) (S' := [.int (-13 : Int32)]) (σ' := (97, I, J, R)) rfl ?_
                        have h := Option.some.inj h
                        subst h
                        exact az_E.ret (v := some (.int (-13 : Int32))) (σ' := (97, I, J, R)) rfl hQ
                      · rw [if_neg hc_179] at h
                        refine az_E.sn 2 (pc' := 31) (L' := [.ref 61, .int v2, .int v5]) (S' := [.int (1 : Int32)]) (σ' := (97, I, J, R)) rfl ?_
                        refine az_E.ret (v := some (.int (1 : Int32))) (σ' := (97, I, J, R)) rfl ?_
                        show az_E az_F ex 2 128 83 [.retAddr 0, .retAddr 0, .int v2, .retAddr 0, .int v4, .int v5, .ref 61, .ref 67] [.int (1 : Int32)] (97, I, J, R) _
                        refine az_E.br (c := (1 : Int32) = 0) (tt := 98) (ff := 86) (L' := [.retAddr 0, .retAddr 0, .int v2, .retAddr 0, .int v4, .int v5, .ref 61, .ref 67]) (S' := []) (σ' := (97, I, J, R)) rfl (fun hn => absurd hn (by decide)) (fun _ => ?_)
                        refine az_E.sn 3 (pc' := 92) (L' := [.retAddr 0, .retAddr 0, .int v2, .retAddr 0, .int v4, .int v5, .ref 61, .ref 67]) (S' := [.int v5, .int v4, .ref 67]) (σ' := (97, I, J, R)) rfl ?_
                        refine az_E.call (d := 1) (k' := 60) (vs := [.ref 67, .int v4, .int v5]) (pc' := 95) (S' := []) rfl ?_ (fun _ _ hq => hq)
                        show az_E az_F ex 1 60 0 [.ref 67, .int v4, .int v5] [] (97, I, J, R) _
                        refine az_E.sn 1 (pc' := 1) (L' := [.ref 67, .int v4, .int v5]) (S' := [.int v4]) (σ' := (97, I, J, R)) rfl ?_
                        refine az_E.br (c := v4 < 0) (tt := 30) (ff := 4) (L' := [.ref 67, .int v4, .int v5]) (S' := []) (σ' := (97, I, J, R)) rfl (fun hc_180 => ?_) (fun hc_180 => ?_)
                        · rw [if_pos hc_180] at h
                          refine az_E.sn 1 (pc' := 31) (L' := [.ref 67, .int v4, .int v5]) (S' := [.int (0 : Int32)]) (σ' := (97, I, J, R)) rfl ?_
                          refine az_E.ret (v := some (.int (0 : Int32))) (σ' := (97, I, J, R)) rfl ?_
                          show az_E az_F ex 2 128 95 [.retAddr 0, .retAddr 0, .int v2, .retAddr 0, .int v4, .int v5, .ref 61, .ref 67] [.int (0 : Int32)] (97, I, J, R) _
                          refine az_E.br (c := (0 : Int32) = 0) (tt := 98) (ff := 101) (L' := [.retAddr 0, .retAddr 0, .int v2, .retAddr 0, .int v4, .int v5, .ref 61, .ref 67]) (S' := []) (σ' := (97, I, J, R)) rfl (fun _ => ?_) (fun hn => absurd (by decide) hn)
                          refine az_E.sn 1 (pc' := 100) (L' := [.retAddr 0, .retAddr 0, .int v2, .retAddr 0, .int v4, .int v5, .ref 61, .ref 67]) (S' := [.int (-13 : Int32)]) (σ' := (97, I, J, R)) rfl ?_
                          have h := Option.some.inj h
                          subst h
                          exact az_E.ret (v := some (.int (-13 : Int32))) (σ' := (97, I, J, R)) rfl hQ
                        · rw [if_neg hc_180] at h
                          refine az_E.sn 1 (pc' := 5) (L' := [.ref 67, .int v4, .int v5]) (S' := [.int v5]) (σ' := (97, I, J, R)) rfl ?_
                          refine az_E.br (c := v5 < 0) (tt := 30) (ff := 8) (L' := [.ref 67, .int v4, .int v5]) (S' := []) (σ' := (97, I, J, R)) rfl (fun hc_181 => ?_) (fun hc_181 => ?_)
                          · rw [if_pos hc_181] at h
                            refine az_E.sn 1 (pc' := 31) (L' := [.ref 67, .int v4, .int v5]) (S' := [.int (0 : Int32)]) (σ' := (97, I, J, R)) rfl ?_
                            refine az_E.ret (v := some (.int (0 : Int32))) (σ' := (97, I, J, R)) rfl ?_
                            show az_E az_F ex 2 128 95 [.retAddr 0, .retAddr 0, .int v2, .retAddr 0, .int v4, .int v5, .ref 61, .ref 67] [.int (0 : Int32)] (97, I, J, R) _
                            refine az_E.br (c := (0 : Int32) = 0) (tt := 98) (ff := 101) (L' := [.retAddr 0, .retAddr 0, .int v2, .retAddr 0, .int v4, .int v5, .ref 61, .ref 67]) (S' := []) (σ' := (97, I, J, R)) rfl (fun _ => ?_) (fun hn => absurd (by decide) hn)
                            refine az_E.sn 1 (pc' := 100) (L' := [.retAddr 0, .retAddr 0, .int v2, .retAddr 0, .int v4, .int v5, .ref 61, .ref 67]) (S' := [.int (-13 : Int32)]) (σ' := (97, I, J, R)) rfl ?_
                            have h := Option.some.inj h
                            subst h
                            exact az_E.ret (v := some (.int (-13 : Int32))) (σ' := (97, I, J, R)) rfl hQ
                          · rw [if_neg hc_181] at h
                            refine az_E.sn 3 (pc' := 13) (L' := [.ref 67, .int v4, .int v5]) (S' := [.int (I 67 2), .int v4]) (σ' := (97, I, J, R)) rfl ?_
                            refine az_E.br (c := (I 67 2) < v4) (tt := 30) (ff := 16) (L' := [.ref 67, .int v4, .int v5]) (S' := []) (σ' := (97, I, J, R)) rfl (fun hc_182 => ?_) (fun hc_182 => ?_)
                            · rw [if_pos hc_182] at h
                              refine az_E.sn 1 (pc' := 31) (L' := [.ref 67, .int v4, .int v5]) (S' := [.int (0 : Int32)]) (σ' := (97, I, J, R)) rfl ?_
                              refine az_E.ret (v := some (.int (0 : Int32))) (σ' := (97, I, J, R)) rfl ?_
                              show az_E az_F ex 2 128 95 [.retAddr 0, .retAddr 0, .int v2, .retAddr 0, .int v4, .int v5, .ref 61, .ref 67] [.int (0 : Int32)] (97, I, J, R) _
                              refine az_E.br (c := (0 : Int32) = 0) (tt := 98) (ff := 101) (L' := [.retAddr 0, .retAddr 0, .int v2, .retAddr 0, .int v4, .int v5, .ref 61, .ref 67]) (S' := []) (σ' := (97, I, J, R)) rfl (fun _ => ?_) (fun hn => absurd (by decide) hn)
                              refine az_E.sn 1 (pc' := 100) (L' := [.retAddr 0, .retAddr 0, .int v2, .retAddr 0, .int v4, .int v5, .ref 61, .ref 67]) (S' := [.int (-13 : Int32)]) (σ' := (97, I, J, R)) rfl ?_
                              have h := Option.some.inj h
                              subst h
                              exact az_E.ret (v := some (.int (-13 : Int32))) (σ' := (97, I, J, R)) rfl hQ
                            · rw [if_neg hc_182] at h
                              refine az_E.sn 5 (pc' := 23) (L' := [.ref 67, .int v4, .int v5]) (S' := [.int ((I 67 2) - v4), .int v5]) (σ' := (97, I, J, R)) rfl ?_
                              refine az_E.br (c := ((I 67 2) - v4) < v5) (tt := 30) (ff := 26) (L' := [.ref 67, .int v4, .int v5]) (S' := []) (σ' := (97, I, J, R)) rfl (fun hc_183 => ?_) (fun hc_183 => ?_)
                              · rw [if_pos hc_183] at h
                                refine az_E.sn 1 (pc' := 31) (L' := [.ref 67, .int v4, .int v5]) (S' := [.int (0 : Int32)]) (σ' := (97, I, J, R)) rfl ?_
                                refine az_E.ret (v := some (.int (0 : Int32))) (σ' := (97, I, J, R)) rfl ?_
                                show az_E az_F ex 2 128 95 [.retAddr 0, .retAddr 0, .int v2, .retAddr 0, .int v4, .int v5, .ref 61, .ref 67] [.int (0 : Int32)] (97, I, J, R) _
                                refine az_E.br (c := (0 : Int32) = 0) (tt := 98) (ff := 101) (L' := [.retAddr 0, .retAddr 0, .int v2, .retAddr 0, .int v4, .int v5, .ref 61, .ref 67]) (S' := []) (σ' := (97, I, J, R)) rfl (fun _ => ?_) (fun hn => absurd (by decide) hn)
                                refine az_E.sn 1 (pc' := 100) (L' := [.retAddr 0, .retAddr 0, .int v2, .retAddr 0, .int v4, .int v5, .ref 61, .ref 67]) (S' := [.int (-13 : Int32)]) (σ' := (97, I, J, R)) rfl ?_
                                have h := Option.some.inj h
                                subst h
                                exact az_E.ret (v := some (.int (-13 : Int32))) (σ' := (97, I, J, R)) rfl hQ
                              · rw [if_neg hc_183] at h
                                refine az_E.sn 2 (pc' := 31) (L' := [.ref 67, .int v4, .int v5]) (S' := [.int (1 : Int32)]) (σ' := (97, I, J, R)) rfl ?_
                                refine az_E.ret (v := some (.int (1 : Int32))) (σ' := (97, I, J, R)) rfl ?_
                                show az_E az_F ex 2 128 95 [.retAddr 0, .retAddr 0, .int v2, .retAddr 0, .int v4, .int v5, .ref 61, .ref 67] [.int (1 : Int32)] (97, I, J, R) _
                                refine az_E.br (c := (1 : Int32) = 0) (tt := 98) (ff := 101) (L' := [.retAddr 0, .retAddr 0, .int v2, .retAddr 0, .int v4, .int v5, .ref 61, .ref 67]) (S' := []) (σ' := (97, I, J, R)) rfl (fun hn => absurd hn (by decide)) (fun _ => ?_)
                                refine az_E.sn 7 (pc' := 116) (L' := [.retAddr 0, .retAddr 0, .int v2, .retAddr 0, .int v4, .int v5, .ref 61, .ref 67]) (S' := [.int v5, .int v4, .ref (67 + 1), .int v2, .ref (61 + 1)]) (σ' := (97, I, J, R)) rfl ?_
                                by_cases hc_184 : v2 < 0 ∨ v4 < 0 ∨ v5 < 0 ∨ 60 < v2.toNatClampNeg + v5.toNatClampNeg ∨ 60 < v4.toNatClampNeg + v5.toNatClampNeg
                                · rw [if_pos hc_184] at h; cases h
                                · rw [if_neg hc_184] at h
                                  refine az_E.o (o := az_cp az_F (97, I, J, R) (61 + 1) v2 (67 + 1) v4 v5) (pc' := 119) (L' := [.retAddr 0, .retAddr 0, .int v2, .retAddr 0, .int v4, .int v5, .ref 61, .ref 67]) (S' := []) (x := (97, I, (az_ur J (67 + 1) (va_cpy (J (61 + 1)) (J (67 + 1)) v2.toNatClampNeg v4.toNatClampNeg v5.toNatClampNeg)), R)) rfl (if_neg hc_184) ?_
                                  refine az_E.sn 1 (pc' := 121) (L' := [.retAddr 0, .retAddr 0, .int v2, .retAddr 0, .int v4, .int v5, .ref 61, .ref 67]) (S' := [.int v5]) (σ' := (97, I, (az_ur J (67 + 1) (va_cpy (J (61 + 1)) (J (67 + 1)) v2.toNatClampNeg v4.toNatClampNeg v5.toNatClampNeg)), R)) rfl ?_
                                  have h := Option.some.inj h
                                  subst h
                                  exact az_E.ret (v := some (.int v5)) (σ' := (97, I, (az_ur J (67 + 1) (va_cpy (J (61 + 1)) (J (67 + 1)) v2.toNatClampNeg v4.toNatClampNeg v5.toNatClampNeg)), R)) rfl hQ
              · rw [if_neg hc_175] at h
                refine az_E.sn 1 (pc' := 20) (L' := [.ref 67, .int (I 61 1)]) (S' := [.int (0 : Int32)]) (σ' := (97, I, J, R)) rfl ?_
                refine az_E.ret (v := some (.int (0 : Int32))) (σ' := (97, I, J, R)) rfl ?_
                show az_E az_F ex 2 128 69 [.retAddr 0, .retAddr 0, .int v2, .retAddr 0, .int v4, .int v5, .ref 61, .ref 67] [.int (0 : Int32)] (97, I, J, R) _
                refine az_E.br (c := (0 : Int32) = 0) (tt := 72) (ff := 75) (L' := [.retAddr 0, .retAddr 0, .int v2, .retAddr 0, .int v4, .int v5, .ref 61, .ref 67]) (S' := []) (σ' := (97, I, J, R)) rfl (fun _ => ?_) (fun hn => absurd (by decide) hn)
                refine az_E.sn 1 (pc' := 74) (L' := [.retAddr 0, .retAddr 0, .int v2, .retAddr 0, .int v4, .int v5, .ref 61, .ref 67]) (S' := [.int (-12 : Int32)]) (σ' := (97, I, J, R)) rfl ?_
                have h := Option.some.inj h
                subst h
                exact az_E.ret (v := some (.int (-12 : Int32))) (σ' := (97, I, J, R)) rfl hQ
      · rw [if_neg hc_171] at h
        refine az_E.sn 1 (pc' := 21) (L' := [.ref 67]) (S' := [.int (0 : Int32)]) (σ' := (97, I, J, R)) rfl ?_
        refine az_E.ret (v := some (.int (0 : Int32))) (σ' := (97, I, J, R)) rfl ?_
        show az_E az_F ex 2 128 45 [.retAddr 0, .retAddr 0, .int v2, .retAddr 0, .int v4, .int v5, .ref 61, .ref 67] [.int (0 : Int32)] (97, I, J, R) _
        refine az_E.br (c := (0 : Int32) = 0) (tt := 51) (ff := 48) (L' := [.retAddr 0, .retAddr 0, .int v2, .retAddr 0, .int v4, .int v5, .ref 61, .ref 67]) (S' := []) (σ' := (97, I, J, R)) rfl (fun _ => ?_) (fun hn => absurd (by decide) hn)
        refine az_E.sn 1 (pc' := 53) (L' := [.retAddr 0, .retAddr 0, .int v2, .retAddr 0, .int v4, .int v5, .ref 61, .ref 67]) (S' := [.ref 61]) (σ' := (97, I, J, R)) rfl ?_
        refine az_E.call (d := 1) (k' := 55) (vs := [.ref 61]) (pc' := 56) (S' := []) rfl ?_ (fun _ _ hq => hq)
        show az_E az_F ex 1 55 0 [.ref 61] [] (97, I, J, R) _
        refine az_E.sn 3 (pc' := 5) (L' := [.ref 61]) (S' := [.int (-1 : Int32), .int (I 61 1)]) (σ' := (97, I, J, R)) rfl ?_
        refine az_E.br (c := (I 61 1) = (-1 : Int32)) (tt := 12) (ff := 8) (L' := [.ref 61]) (S' := []) (σ' := (97, I, J, R)) rfl (fun hc_185 => ?_) (fun hc_185 => ?_)
        · rw [if_pos hc_185] at h
          refine az_E.sn 1 (pc' := 13) (L' := [.ref 61]) (S' := [.int (0 : Int32)]) (σ' := (97, I, J, R)) rfl ?_
          refine az_E.ret (v := some (.int (0 : Int32))) (σ' := (97, I, J, R)) rfl ?_
          show az_E az_F ex 2 128 56 [.retAddr 0, .retAddr 0, .int v2, .retAddr 0, .int v4, .int v5, .ref 61, .ref 67] [.int (0 : Int32)] (97, I, J, R) _
          refine az_E.br (c := (0 : Int32) = 0) (tt := 72) (ff := 59) (L' := [.retAddr 0, .retAddr 0, .int v2, .retAddr 0, .int v4, .int v5, .ref 61, .ref 67]) (S' := []) (σ' := (97, I, J, R)) rfl (fun _ => ?_) (fun hn => absurd (by decide) hn)
          refine az_E.sn 1 (pc' := 74) (L' := [.retAddr 0, .retAddr 0, .int v2, .retAddr 0, .int v4, .int v5, .ref 61, .ref 67]) (S' := [.int (-12 : Int32)]) (σ' := (97, I, J, R)) rfl ?_
          have h := Option.some.inj h
          subst h
          exact az_E.ret (v := some (.int (-12 : Int32))) (σ' := (97, I, J, R)) rfl hQ
        · rw [if_neg hc_185] at h
          refine az_E.sn 2 (pc' := 13) (L' := [.ref 61]) (S' := [.int (1 : Int32)]) (σ' := (97, I, J, R)) rfl ?_
          refine az_E.ret (v := some (.int (1 : Int32))) (σ' := (97, I, J, R)) rfl ?_
          show az_E az_F ex 2 128 56 [.retAddr 0, .retAddr 0, .int v2, .retAddr 0, .int v4, .int v5, .ref 61, .ref 67] [.int (1 : Int32)] (97, I, J, R) _
          refine az_E.br (c := (1 : Int32) = 0) (tt := 72) (ff := 59) (L' := [.retAddr 0, .retAddr 0, .int v2, .retAddr 0, .int v4, .int v5, .ref 61, .ref 67]) (S' := []) (σ' := (97, I, J, R)) rfl (fun hn => absurd hn (by decide)) (fun _ => ?_)
          refine az_E.sn 3 (pc' := 66) (L' := [.retAddr 0, .retAddr 0, .int v2, .retAddr 0, .int v4, .int v5, .ref 61, .ref 67]) (S' := [.int (I 61 1), .ref 67]) (σ' := (97, I, J, R)) rfl ?_
          refine az_E.call (d := 1) (k' := 56) (vs := [.ref 67, .int (I 61 1)]) (pc' := 69) (S' := []) rfl ?_ (fun _ _ hq => hq)
          show az_E az_F ex 1 56 0 [.ref 67, .int (I 61 1)] [] (97, I, J, R) _
          refine az_E.sn 1 (pc' := 1) (L' := [.ref 67, .int (I 61 1)]) (S' := [.ref 67]) (σ' := (97, I, J, R)) rfl ?_
          refine az_E.call (d := 0) (k' := 55) (vs := [.ref 67]) (pc' := 4) (S' := []) rfl ?_ (fun _ _ hq => hq)
          show az_E az_F ex 0 55 0 [.ref 67] [] (97, I, J, R) _
          refine az_E.sn 3 (pc' := 5) (L' := [.ref 67]) (S' := [.int (-1 : Int32), .int (I 67 1)]) (σ' := (97, I, J, R)) rfl ?_
          refine az_E.br (c := (I 67 1) = (-1 : Int32)) (tt := 12) (ff := 8) (L' := [.ref 67]) (S' := []) (σ' := (97, I, J, R)) rfl (fun hc_186 => ?_) (fun hc_186 => ?_)
          · rw [if_pos hc_186] at h
            refine az_E.sn 1 (pc' := 13) (L' := [.ref 67]) (S' := [.int (0 : Int32)]) (σ' := (97, I, J, R)) rfl ?_
            refine az_E.ret (v := some (.int (0 : Int32))) (σ' := (97, I, J, R)) rfl ?_
            show az_E az_F ex 1 56 4 [.ref 67, .int (I 61 1)] [.int (0 : Int32)] (97, I, J, R) _
            refine az_E.br (c := (0 : Int32) = 0) (tt := 19) (ff := 7) (L' := [.ref 67, .int (I 61 1)]) (S' := []) (σ' := (97, I, J, R)) rfl (fun _ => ?_) (fun hn => absurd (by decide) hn)
            refine az_E.sn 1 (pc' := 20) (L' := [.ref 67, .int (I 61 1)]) (S' := [.int (0 : Int32)]) (σ' := (97, I, J, R)) rfl ?_
            refine az_E.ret (v := some (.int (0 : Int32))) (σ' := (97, I, J, R)) rfl ?_
            show az_E az_F ex 2 128 69 [.retAddr 0, .retAddr 0, .int v2, .retAddr 0, .int v4, .int v5, .ref 61, .ref 67] [.int (0 : Int32)] (97, I, J, R) _
            refine az_E.br (c := (0 : Int32) = 0) (tt := 72) (ff := 75) (L' := [.retAddr 0, .retAddr 0, .int v2, .retAddr 0, .int v4, .int v5, .ref 61, .ref 67]) (S' := []) (σ' := (97, I, J, R)) rfl (fun _ => ?_) (fun hn => absurd (by decide) hn)
            refine az_E.sn 1 (pc' := 74) (L' := [.retAddr 0, .retAddr 0, .int v2, .retAddr 0, .int v4, .int v5, .ref 61, .ref 67]) (S' := [.int (-12 : Int32)]) (σ' := (97, I, J, R)) rfl ?_
            have h := Option.some.inj h
            subst h
            exact az_E.ret (v := some (.int (-12 : Int32))) (σ' := (97, I, J, R)) rfl hQ
          · rw [if_neg hc_186] at h
            refine az_E.sn 2 (pc' := 13) (L' := [.ref 67]) (S' := [.int (1 : Int32)]) (σ' := (97, I, J, R)) rfl ?_
            refine az_E.ret (v := some (.int (1 : Int32))) (σ' := (97, I, J, R)) rfl ?_
            show az_E az_F ex 1 56 4 [.ref 67, .int (I 61 1)] [.int (1 : Int32)] (97, I, J, R) _
            refine az_E.br (c := (1 : Int32) = 0) (tt := 19) (ff := 7) (L' := [.ref 67, .int (I 61 1)]) (S' := []) (σ' := (97, I, J, R)) rfl (fun hn => absurd hn (by decide)) (fun _ => ?_)
            refine az_E.sn 3 (pc' := 12) (L' := [.ref 67, .int (I 61 1)]) (S' := [.int (I 61 1), .int (I 67 1)]) (σ' := (97, I, J, R)) rfl ?_
            refine az_E.br (c := (I 67 1) = (I 61 1)) (tt := 15) (ff := 19) (L' := [.ref 67, .int (I 61 1)]) (S' := []) (σ' := (97, I, J, R)) rfl (fun hc_187 => ?_) (fun hc_187 => ?_)
            · rw [if_pos hc_187] at h
              refine az_E.sn 2 (pc' := 20) (L' := [.ref 67, .int (I 61 1)]) (S' := [.int (1 : Int32)]) (σ' := (97, I, J, R)) rfl ?_
              refine az_E.ret (v := some (.int (1 : Int32))) (σ' := (97, I, J, R)) rfl ?_
              show az_E az_F ex 2 128 69 [.retAddr 0, .retAddr 0, .int v2, .retAddr 0, .int v4, .int v5, .ref 61, .ref 67] [.int (1 : Int32)] (97, I, J, R) _
              refine az_E.br (c := (1 : Int32) = 0) (tt := 72) (ff := 75) (L' := [.retAddr 0, .retAddr 0, .int v2, .retAddr 0, .int v4, .int v5, .ref 61, .ref 67]) (S' := []) (σ' := (97, I, J, R)) rfl (fun hn => absurd hn (by decide)) (fun _ => ?_)
              refine az_E.sn 3 (pc' := 80) (L' := [.retAddr 0, .retAddr 0, .int v2, .retAddr 0, .int v4, .int v5, .ref 61, .ref 67]) (S' := [.int v5, .int v2, .ref 61]) (σ' := (97, I, J, R)) rfl ?_
              refine az_E.call (d := 1) (k' := 60) (vs := [.ref 61, .int v2, .int v5]) (pc' := 83) (S' := []) rfl ?_ (fun _ _ hq => hq)
              show az_E az_F ex 1 60 0 [.ref 61, .int v2, .int v5] [] (97, I, J, R) _
              refine az_E.sn 1 (pc' := 1) (L' := [.ref 61, .int v2, .int v5]) (S' := [.int v2]) (σ' := (97, I, J, R)) rfl ?_
              refine az_E.br (c := v2 < 0) (tt := 30) (ff := 4) (L' := [.ref 61, .int v2, .int v5]) (S' := []) (σ' := (97, I, J, R)) rfl (fun hc_188 => ?_) (fun hc_188 => ?_)
              · rw [if_pos hc_188] at h
                refine az_E.sn 1 (pc' := 31) (L' := [.ref 61, .int v2, .int v5]) (S' := [.int (0 : Int32)]) (σ' := (97, I, J, R)) rfl ?_
                refine az_E.ret (v := some (.int (0 : Int32))) (σ' := (97, I, J, R)) rfl ?_
                show az_E az_F ex 2 128 83 [.retAddr 0, .retAddr 0, .int v2, .retAddr 0, .int v4, .int v5, .ref 61, .ref 67] [.int (0 : Int32)] (97, I, J, R) _
                refine az_E.br (c := (0 : Int32) = 0) (tt := 98) (ff := 86) (L' := [.retAddr 0, .retAddr 0, .int v2, .retAddr 0, .int v4, .int v5, .ref 61, .ref 67]) (S' := []) (σ' := (97, I, J, R)) rfl (fun _ => ?_) (fun hn => absurd (by decide) hn)
                refine az_E.sn 1 (pc' := 100) (L' := [.retAddr 0, .retAddr 0, .int v2, .retAddr 0, .int v4, .int v5, .ref 61, .ref 67]) (S' := [.int (-13 : Int32)]) (σ' := (97, I, J, R)) rfl ?_
                have h := Option.some.inj h
                subst h
                exact az_E.ret (v := some (.int (-13 : Int32))) (σ' := (97, I, J, R)) rfl hQ
              · rw [if_neg hc_188] at h
                refine az_E.sn 1 (pc' := 5) (L' := [.ref 61, .int v2, .int v5]) (S' := [.int v5]) (σ' := (97, I, J, R)) rfl ?_
                refine az_E.br (c := v5 < 0) (tt := 30) (ff := 8) (L' := [.ref 61, .int v2, .int v5]) (S' := []) (σ' := (97, I, J, R)) rfl (fun hc_189 => ?_) (fun hc_189 => ?_)
                · rw [if_pos hc_189] at h
                  refine az_E.sn 1 (pc' := 31) (L' := [.ref 61, .int v2, .int v5]) (S' := [.int (0 : Int32)]) (σ' := (97, I, J, R)) rfl ?_
                  refine az_E.ret (v := some (.int (0 : Int32))) (σ' := (97, I, J, R)) rfl ?_
                  show az_E az_F ex 2 128 83 [.retAddr 0, .retAddr 0, .int v2, .retAddr 0, .int v4, .int v5, .ref 61, .ref 67] [.int (0 : Int32)] (97, I, J, R) _
                  refine az_E.br (c := (0 : Int32) = 0) (tt := 98) (ff := 86) (L' := [.retAddr 0, .retAddr 0, .int v2, .retAddr 0, .int v4, .int v5, .ref 61, .ref 67]) (S' := []) (σ' := (97, I, J, R)) rfl (fun _ => ?_) (fun hn => absurd (by decide) hn)
                  refine az_E.sn 1 (pc' := 100) (L' := [.retAddr 0, .retAddr 0, .int v2, .retAddr 0, .int v4, .int v5, .ref 61, .ref 67]) (S' := [.int (-13 : Int32)]) (σ' := (97, I, J, R)) rfl ?_
                  have h := Option.some.inj h
                  subst h
                  exact az_E.ret (v := some (.int (-13 : Int32))) (σ' := (97, I, J, R)) rfl hQ
                · rw [if_neg hc_189] at h
                  refine az_E.sn 3 (pc' := 13) (L' := [.ref 61, .int v2, .int v5]) (S' := [.int (I 61 2), .int v2]) (σ' := (97, I, J, R)) rfl ?_
                  refine az_E.br (c := (I 61 2) < v2) (tt := 30) (ff := 16) (L' := [.ref 61, .int v2, .int v5]) (S' := []) (σ' := (97, I, J, R)) rfl (fun hc_190 => ?_) (fun hc_190 => ?_)
                  · rw [if_pos hc_190] at h
                    refine az_E.sn 1 (pc' := 31) (L' := [.ref 61, .int v2, .int v5]) (S' := [.int (0 : Int32)]) (σ' := (97, I, J, R)) rfl ?_
                    refine az_E.ret (v := some (.int (0 : Int32))) (σ' := (97, I, J, R)) rfl ?_
                    show az_E az_F ex 2 128 83 [.retAddr 0, .retAddr 0, .int v2, .retAddr 0, .int v4, .int v5, .ref 61, .ref 67] [.int (0 : Int32)] (97, I, J, R) _
                    refine az_E.br (c := (0 : Int32) = 0) (tt := 98) (ff := 86) (L' := [.retAddr 0, .retAddr 0, .int v2, .retAddr 0, .int v4, .int v5, .ref 61, .ref 67]) (S' := []) (σ' := (97, I, J, R)) rfl (fun _ => ?_) (fun hn => absurd (by decide) hn)
                    refine az_E.sn 1 (pc' := 100) (L' := [.retAddr 0, .retAddr 0, .int v2, .retAddr 0, .int v4, .int v5, .ref 61, .ref 67]) (S' := [.int (-13 : Int32)]) (σ' := (97, I, J, R)) rfl ?_
                    have h := Option.some.inj h
                    subst h
                    exact az_E.ret (v := some (.int (-13 : Int32))) (σ' := (97, I, J, R)) rfl hQ
                  · rw [if_neg hc_190] at h
                    refine az_E.sn 5 (pc' := 23) (L' := [.ref 61, .int v2, .int v5]) (S' := [.int ((I 61 2) - v2), .int v5]) (σ' := (97, I, J, R)) rfl ?_
                    refine az_E.br (c := ((I 61 2) - v2) < v5) (tt := 30) (ff := 26) (L' := [.ref 61, .int v2, .int v5]) (S' := []) (σ' := (97, I, J, R)) rfl (fun hc_191 => ?_) (fun hc_191 => ?_)
                    · rw [if_pos hc_191] at h
                      refine az_E.sn 1 (pc' := 31) (L' := [.ref 61, .int v2, .int v5]) (S' := [.int (0 : Int32)]) (σ' := (97, I, J, R)) rfl ?_
                      refine az_E.ret (v := some (.int (0 : Int32))) (σ' := (97, I, J, R)) rfl ?_
                      show az_E az_F ex 2 128 83 [.retAddr 0, .retAddr 0, .int v2, .retAddr 0, .int v4, .int v5, .ref 61, .ref 67] [.int (0 : Int32)] (97, I, J, R) _
                      refine az_E.br (c := (0 : Int32) = 0) (tt := 98) (ff := 86) (L' := [.retAddr 0, .retAddr 0, .int v2, .retAddr 0, .int v4, .int v5, .ref 61, .ref 67]) (S' := []) (σ' := (97, I, J, R)) rfl (fun _ => ?_) (fun hn => absurd (by decide) hn)
                      refine az_E.sn 1 (pc' := 100) (L' := [.retAddr 0, .retAddr 0, .int v2, .retAddr 0, .int v4, .int v5, .ref 61, .ref 67]) (S' := [.int (-13 : Int32)]) (σ' := (97, I, J, R)) rfl ?_
                      have h := Option.some.inj h
                      subst h
                      exact az_E.ret (v := some (.int (-13 : Int32))) (σ' := (97, I, J, R)) rfl hQ
                    · rw [if_neg hc_191] at h
                      refine az_E.sn 2 (pc' := 31) (L' := [.ref 61, .int v2, .int v5]) (S' := [.int (1 : Int32)]) (σ' := (97, I, J, R)) rfl ?_
                      refine az_E.ret (v := some (.int (1 : Int32))) (σ' := (97, I, J, R)) rfl ?_
                      show az_E az_F ex 2 128 83 [.retAddr 0, .retAddr 0, .int v2, .retAddr 0, .int v4, .int v5, .ref 61, .ref 67] [.int (1 : Int32)] (97, I, J, R) _
                      refine az_E.br (c := (1 : Int32) = 0) (tt := 98) (ff := 86) (L' := [.retAddr 0, .retAddr 0, .int v2, .retAddr 0, .int v4, .int v5, .ref 61, .ref 67]) (S' := []) (σ' := (97, I, J, R)) rfl (fun hn => absurd hn (by decide)) (fun _ => ?_)
                      refine az_E.sn 3 (pc' := 92) (L' := [.retAddr 0, .retAddr 0, .int v2, .retAddr 0, .int v4, .int v5, .ref 61, .ref 67]) (S' := [.int v5, .int v4, .ref 67]) (σ' := (97, I, J, R)) rfl ?_
                      refine az_E.call (d := 1) (k' := 60) (vs := [.ref 67, .int v4, .int v5]) (pc' := 95) (S' := []) rfl ?_ (fun _ _ hq => hq)
                      show az_E az_F ex 1 60 0 [.ref 67, .int v4, .int v5] [] (97, I, J, R) _
                      refine az_E.sn 1 (pc' := 1) (L' := [.ref 67, .int v4, .int v5]) (S' := [.int v4]) (σ' := (97, I, J, R)) rfl ?_
                      refine az_E.br (c := v4 < 0) (tt := 30) (ff := 4) (L' := [.ref 67, .int v4, .int v5]) (S' := []) (σ' := (97, I, J, R)) rfl (fun hc_192 => ?_) (fun hc_192 => ?_)
                      · rw [if_pos hc_192] at h
                        refine az_E.sn 1 (pc' := 31) (L' := [.ref 67, .int v4, .int v5]) (S' := [.int (0 : Int32)]) (σ' := (97, I, J, R)) rfl ?_
                        refine az_E.ret (v := some (.int (0 : Int32))) (σ' := (97, I, J, R)) rfl ?_
                        show az_E az_F ex 2 128 95 [.retAddr 0, .retAddr 0, .int v2, .retAddr 0, .int v4, .int v5, .ref 61, .ref 67] [.int (0 : Int32)] (97, I, J, R) _
                        refine az_E.br (c := (0 : Int32) = 0) (tt := 98) (ff := 101) (L' := [.retAddr 0, .retAddr 0, .int v2, .retAddr 0, .int v4, .int v5, .ref 61, .ref 67]) (S' := []) (σ' := (97, I, J, R)) rfl (fun _ => ?_) (fun hn => absurd (by decide) hn)
                        refine az_E.sn 1 (pc' := 100) (L' := [.retAddr 0, .retAddr 0, .int v2, .retAddr 0, .int v4, .int v5, .ref 61, .ref 67]) (S' := [.int (-13 : Int32)]) (σ' := (97, I, J, R)) rfl ?_
                        have h := Option.some.inj h
                        subst h
                        exact az_E.ret (v := some (.int (-13 : Int32))) (σ' := (97, I, J, R)) rfl hQ
                      · rw [if_neg hc_192] at h
                        refine az_E.sn 1 (pc' := 5) (L' := [.ref 67, .int v4, .int v5]) (S' := [.int v5]) (σ' := (97, I, J, R)) rfl ?_
                        refine az_E.br (c := v5 < 0) (tt := 30) (ff := 8) (L' := [.ref 67, .int v4, .int v5]) (S' := []) (σ' := (97, I, J, R)) rfl (fun hc_193 => ?_) (fun hc_193 => ?_)
                        · rw [if_pos hc_193] at h
                          refine az_E.sn 1 (pc' := 31) (L' := [.ref 67, .int v4, .int v5]) (S' := [.int (0 : Int32)]) (σ' := (97, I, J, R)) rfl ?_
                          refine az_E.ret (v := some (.int (0 : Int32))) (σ' := (97, I, J, R)) rfl ?_
                          show az_E az_F ex 2 128 95 [.retAddr 0, .retAddr 0, .int v2, .retAddr 0, .int v4, .int v5, .ref 61, .ref 67] [.int (0 : Int32)] (97, I, J, R) _
                          refine az_E.br (c := (0 : Int32) = 0) (tt := 98) (ff := 101) (L' := [.retAddr 0, .retAddr 0, .int v2, .retAddr 0, .int v4, .int v5, .ref 61, .ref 67]) (S' := []) (σ' := (97, I, J, R)) rfl (fun _ => ?_) (fun hn => absurd (by decide) hn)
                          refine az_E.sn 1 (pc' := 100) (L' := [.retAddr 0, .retAddr 0, .int v2, .retAddr 0, .int v4, .int v5, .ref 61, .ref 67]) (S' := [.int (-13 : Int32)]) (σ' := (97, I, J, R)) rfl ?_
                          have h := Option.some.inj h
                          subst h
                          exact az_E.ret (v := some (.int (-13 : Int32))) (σ' := (97, I, J, R)) rfl hQ
                        · rw [if_neg hc_193] at h
                          refine az_E.sn 3 (pc' := 13) (L' := [.ref 67, .int v4, .int v5]) (S' := [.int (I 67 2), .int v4]) (σ' := (97, I, J, R)) rfl ?_
                          refine az_E.br (c := (I 67 2) < v4) (tt := 30) (ff := 16) (L' := [.ref 67, .int v4, .int v5]) (S' := []) (σ' := (97, I, J, R)) rfl (fun hc_194 => ?_) (fun hc_194 => ?_)
                          · rw [if_pos hc_194] at h
                            refine az_E.sn 1 (pc' := 31) (L' := [.ref 67, .int v4, .int v5]) (S' := [.int (0 : Int32)]) (σ' := (97, I, J, R)) rfl ?_
                            refine az_E.ret (v := some (.int (0 : Int32))) (σ' := (97, I, J, R)) rfl ?_
                            show az_E az_F ex 2 128 95 [.retAddr 0, .retAddr 0, .int v2, .retAddr 0, .int v4, .int v5, .ref 61, .ref 67] [.int (0 : Int32)] (97, I, J, R) _
                            refine az_E.br (c := (0 : Int32) = 0) (tt := 98) (ff := 101) (L' := [.retAddr 0, .retAddr 0, .int v2, .retAddr 0, .int v4, .int v5, .ref 61, .ref 67]) (S' := []) (σ' := (97, I, J, R)) rfl (fun _ => ?_) (fun hn => absurd (by decide) hn)
                            refine az_E.sn 1 (pc' := 100) (L' := [.retAddr 0, .retAddr 0, .int v2, .retAddr 0, .int v4, .int v5, .ref 61, .ref 67]) (S' := [.int (-13 : Int32)]) (σ' := (97, I, J, R)) rfl ?_
                            have h := Option.some.inj h
                            subst h
                            exact az_E.ret (v := some (.int (-13 : Int32))) (σ' := (97, I, J, R)) rfl hQ
                          · rw [if_neg hc_194] at h
                            refine az_E.sn 5 (pc' := 23) (L' := [.ref 67, .int v4, .int v5]) (S' := [.int ((I 67 2) - v4), .int v5]) (σ' := (97, I, J, R)) rfl ?_
                            refine az_E.br (c := ((I 67 2) - v4) < v5) (tt := 30) (ff := 26) (L' := [.ref 67, .int v4, .int v5]) (S' := []) (σ' := (97, I, J, R)) rfl (fun hc_195 => ?_) (fun hc_195 => ?_)
                            · rw [if_pos hc_195] at h
                              refine az_E.sn 1 (pc' := 31) (L' := [.ref 67, .int v4, .int v5]) (S' := [.int (0 : Int32)]) (σ' := (97, I, J, R)) rfl ?_
                              refine az_E.ret (v := some (.int (0 : Int32))) (σ' := (97, I, J, R)) rfl ?_
                              show az_E az_F ex 2 128 95 [.retAddr 0, .retAddr 0, .int v2, .retAddr 0, .int v4, .int v5, .ref 61, .ref 67] [.int (0 : Int32)] (97, I, J, R) _
                              refine az_E.br (c := (0 : Int32) = 0) (tt := 98) (ff := 101) (L' := [.retAddr 0, .retAddr 0, .int v2, .retAddr 0, .int v4, .int v5, .ref 61, .ref 67]) (S' := []) (σ' := (97, I, J, R)) rfl (fun _ => ?_) (fun hn => absurd (by decide) hn)
                              refine az_E.sn 1 (pc' := 100) (L' := [.retAddr 0, .retAddr 0, .int v2, .retAddr 0, .int v4, .int v5, .ref 61, .ref 67]) (S' := [.int (-13 : Int32)]) (σ' := (97, I, J, R)) rfl ?_
                              have h := Option.some.inj h
                              subst h
                              exact az_E.ret (v := some (.int (-13 : Int32))) (σ' := (97, I, J, R)) rfl hQ
                            · rw [if_neg hc_195] at h
                              refine az_E.sn 2 (pc' := 31) (L' := [.ref 67, .int v4, .int v5]) (S' := [.int (1 : Int32)]) (σ' := (97, I, J, R)) rfl ?_
                              refine az_E.ret (v := some (.int (1 : Int32))) (σ' := (97, I, J, R)) rfl ?_
                              show az_E az_F ex 2 128 95 [.retAddr 0, .retAddr 0, .int v2, .retAddr 0, .int v4, .int v5, .ref 61, .ref 67] [.int (1 : Int32)] (97, I, J, R) _
                              refine az_E.br (c := (1 : Int32) = 0) (tt := 98) (ff := 101) (L' := [.retAddr 0, .retAddr 0, .int v2, .retAddr 0, .int v4, .int v5, .ref 61, .ref 67]) (S' := []) (σ' := (97, I, J, R)) rfl (fun hn => absurd hn (by decide)) (fun _ => ?_)
                              refine az_E.sn 7 (pc' := 116) (L' := [.retAddr 0, .retAddr 0, .int v2, .retAddr 0, .int v4, .int v5, .ref 61, .ref 67]) (S' := [.int v5, .int v4, .ref (67 + 1), .int v2, .ref (61 + 1)]) (σ' := (97, I, J, R)) rfl ?_
                              by_cases hc_196 : v2 < 0 ∨ v4 < 0 ∨ v5 < 0 ∨ 60 < v2.toNatClampNeg + v5.toNatClampNeg ∨ 60 < v4.toNatClampNeg + v5.toNatClampNeg
                              · rw [if_pos hc_196] at h; cases h
                              · rw [if_neg hc_196] at h
                                refine az_E.o (o := az_cp az_F (97, I, J, R) (61 + 1) v2 (67 + 1) v4 v5) (pc' := 119) (L' := [.retAddr 0, .retAddr 0, .int v2, .retAddr 0, .int v4, .int v5, .ref 61, .ref 67]) (S' := []) (x := (97, I, (az_ur J (67 + 1) (va_cpy (J (61 + 1)) (J (67 + 1)) v2.toNatClampNeg v4.toNatClampNeg v5.toNatClampNeg)), R)) rfl (if_neg hc_196) ?_
                                refine az_E.sn 1 (pc' := 121) (L' := [.retAddr 0, .retAddr 0, .int v2, .retAddr 0, .int v4, .int v5, .ref 61, .ref 67]) (S' := [.int v5]) (σ' := (97, I, (az_ur J (67 + 1) (va_cpy (J (61 + 1)) (J (67 + 1)) v2.toNatClampNeg v4.toNatClampNeg v5.toNatClampNeg)), R)) rfl ?_
                                have h := Option.some.inj h
                                subst h
                                exact az_E.ret (v := some (.int v5)) (σ' := (97, I, (az_ur J (67 + 1) (va_cpy (J (61 + 1)) (J (67 + 1)) v2.toNatClampNeg v4.toNatClampNeg v5.toNatClampNeg)), R)) rfl hQ
            · rw [if_neg hc_187] at h
              refine az_E.sn 1 (pc' := 20) (L' := [.ref 67, .int (I 61 1)]) (S' := [.int (0 : Int32)]) (σ' := (97, I, J, R)) rfl ?_
              refine az_E.ret (v := some (.int (0 : Int32))) (σ' := (97, I, J, R)) rfl ?_
              show az_E az_F ex 2 128 69 [.retAddr 0, .retAddr 0, .int v2, .retAddr 0, .int v4, .int v5, .ref 61, .ref 67] [.int (0 : Int32)] (97, I, J, R) _
              refine az_E.br (c := (0 : Int32) = 0) (tt := 72) (ff := 75) (L' := [.retAddr 0, .retAddr 0, .int v2, .retAddr 0, .int v4, .int v5, .ref 61, .ref 67]) (S' := []) (σ' := (97, I, J, R)) rfl (fun _ => ?_) (fun hn => absurd (by decide) hn)
              refine az_E.sn 1 (pc' := 74) (L' := [.retAddr 0, .retAddr 0, .int v2, .retAddr 0, .int v4, .int v5, .ref 61, .ref 67]) (S' := [.int (-12 : Int32)]) (σ' := (97, I, J, R)) rfl ?_
              have h := Option.some.inj h
              subst h
              exact az_E.ret (v := some (.int (-12 : Int32))) (σ' := (97, I, J, R)) rfl hQ
  · rw [if_neg hc_169] at h
    refine az_E.sn 1 (pc' := 21) (L' := [.ref 61]) (S' := [.int (0 : Int32)]) (σ' := (97, I, J, R)) rfl ?_
    refine az_E.ret (v := some (.int (0 : Int32))) (σ' := (97, I, J, R)) rfl ?_
    show az_E az_F ex 2 128 37 [.retAddr 0, .retAddr 0, .int v2, .retAddr 0, .int v4, .int v5, .ref 61, .ref 67] [.int (0 : Int32)] (97, I, J, R) _
    refine az_E.br (c := (0 : Int32) = 0) (tt := 40) (ff := 48) (L' := [.retAddr 0, .retAddr 0, .int v2, .retAddr 0, .int v4, .int v5, .ref 61, .ref 67]) (S' := []) (σ' := (97, I, J, R)) rfl (fun _ => ?_) (fun hn => absurd (by decide) hn)
    refine az_E.sn 1 (pc' := 42) (L' := [.retAddr 0, .retAddr 0, .int v2, .retAddr 0, .int v4, .int v5, .ref 61, .ref 67]) (S' := [.ref 67]) (σ' := (97, I, J, R)) rfl ?_
    refine az_E.call (d := 1) (k' := 54) (vs := [.ref 67]) (pc' := 45) (S' := []) rfl ?_ (fun _ _ hq => hq)
    show az_E az_F ex 1 54 0 [.ref 67] [] (97, I, J, R) _
    refine az_E.sn 3 (pc' := 5) (L' := [.ref 67]) (S' := [.int (-1 : Int32), .int (I 67 0)]) (σ' := (97, I, J, R)) rfl ?_
    refine az_E.br (c := (I 67 0) = (-1 : Int32)) (tt := 8) (ff := 20) (L' := [.ref 67]) (S' := []) (σ' := (97, I, J, R)) rfl (fun hc_197 => ?_) (fun hc_197 => ?_)
    · rw [if_pos hc_197] at h
      refine az_E.sn 3 (pc' := 13) (L' := [.ref 67]) (S' := [.int (-1 : Int32), .int (I 67 1)]) (σ' := (97, I, J, R)) rfl ?_
      refine az_E.br (c := (I 67 1) = (-1 : Int32)) (tt := 16) (ff := 20) (L' := [.ref 67]) (S' := []) (σ' := (97, I, J, R)) rfl (fun hc_198 => ?_) (fun hc_198 => ?_)
      · rw [if_pos hc_198] at h
        refine az_E.sn 2 (pc' := 21) (L' := [.ref 67]) (S' := [.int (1 : Int32)]) (σ' := (97, I, J, R)) rfl ?_
        refine az_E.ret (v := some (.int (1 : Int32))) (σ' := (97, I, J, R)) rfl ?_
        show az_E az_F ex 2 128 45 [.retAddr 0, .retAddr 0, .int v2, .retAddr 0, .int v4, .int v5, .ref 61, .ref 67] [.int (1 : Int32)] (97, I, J, R) _
        refine az_E.br (c := (1 : Int32) = 0) (tt := 51) (ff := 48) (L' := [.retAddr 0, .retAddr 0, .int v2, .retAddr 0, .int v4, .int v5, .ref 61, .ref 67]) (S' := []) (σ' := (97, I, J, R)) rfl (fun hn => absurd hn (by decide)) (fun _ => ?_)
        refine az_E.sn 1 (pc' := 50) (L' := [.retAddr 0, .retAddr 0, .int v2, .retAddr 0, .int v4, .int v5, .ref 61, .ref 67]) (S' := [.int (-11 : Int32)]) (σ' := (97, I, J, R)) rfl ?_
        have h := Option.some.inj h
        subst h
        exact az_E.ret (v := some (.int (-11 : Int32))) (σ' := (97, I, J, R)) rfl hQ
      · rw [if_neg hc_198] at h
        refine az_E.sn 1 (pc' := 21) (L' := [.ref 67]) (S' := [.int (0 : Int32)]) (σ' := (97, I, J, R)) rfl ?_
        refine az_E.ret (v := some (.int (0 : Int32))) (σ' := (97, I, J, R)) rfl ?_
        show az_E az_F ex 2 128 45 [.retAddr 0, .retAddr 0, .int v2, .retAddr 0, .int v4, .int v5, .ref 61, .ref 67] [.int (0 : Int32)] (97, I, J, R) _
        refine az_E.br (c := (0 : Int32) = 0) (tt := 51) (ff := 48) (L' := [.retAddr 0, .retAddr 0, .int v2, .retAddr 0, .int v4, .int v5, .ref 61, .ref 67]) (S' := []) (σ' := (97, I, J, R)) rfl (fun _ => ?_) (fun hn => absurd (by decide) hn)
        refine az_E.sn 1 (pc' := 53) (L' := [.retAddr 0, .retAddr 0, .int v2, .retAddr 0, .int v4, .int v5, .ref 61, .ref 67]) (S' := [.ref 61]) (σ' := (97, I, J, R)) rfl ?_
        refine az_E.call (d := 1) (k' := 55) (vs := [.ref 61]) (pc' := 56) (S' := []) rfl ?_ (fun _ _ hq => hq)
        show az_E az_F ex 1 55 0 [.ref 61] [] (97, I, J, R) _
        refine az_E.sn 3 (pc' := 5) (L' := [.ref 61]) (S' := [.int (-1 : Int32), .int (I 61 1)]) (σ' := (97, I, J, R)) rfl ?_
        refine az_E.br (c := (I 61 1) = (-1 : Int32)) (tt := 12) (ff := 8) (L' := [.ref 61]) (S' := []) (σ' := (97, I, J, R)) rfl (fun hc_199 => ?_) (fun hc_199 => ?_)
        · rw [if_pos hc_199] at h
          refine az_E.sn 1 (pc' := 13) (L' := [.ref 61]) (S' := [.int (0 : Int32)]) (σ' := (97, I, J, R)) rfl ?_
          refine az_E.ret (v := some (.int (0 : Int32))) (σ' := (97, I, J, R)) rfl ?_
          show az_E az_F ex 2 128 56 [.retAddr 0, .retAddr 0, .int v2, .retAddr 0, .int v4, .int v5, .ref 61, .ref 67] [.int (0 : Int32)] (97, I, J, R) _
          refine az_E.br (c := (0 : Int32) = 0) (tt := 72) (ff := 59) (L' := [.retAddr 0, .retAddr 0, .int v2, .retAddr 0, .int v4, .int v5, .ref 61, .ref 67]) (S' := []) (σ' := (97, I, J, R)) rfl (fun _ => ?_) (fun hn => absurd (by decide) hn)
          refine az_E.sn 1 (pc' := 74) (L' := [.retAddr 0, .retAddr 0, .int v2, .retAddr 0, .int v4, .int v5, .ref 61, .ref 67]) (S' := [.int (-12 : Int32)]) (σ' := (97, I, J, R)) rfl ?_
          have h := Option.some.inj h
          subst h
          exact az_E.ret (v := some (.int (-12 : Int32))) (σ' := (97, I, J, R)) rfl hQ
        · rw [if_neg hc_199] at h
          refine az_E.sn 2 (pc' := 13) (L' := [.ref 61]) (S' := [.int (1 : Int32)]) (σ' := (97, I, J, R)) rfl ?_
          refine az_E.ret (v := some (.int (1 : Int32))) (σ' := (97, I, J, R)) rfl ?_
          show az_E az_F ex 2 128 56 [.retAddr 0, .retAddr 0, .int v2, .retAddr 0, .int v4, .int v5, .ref 61, .ref 67] [.int (1 : Int32)] (97, I, J, R) _
          refine az_E.br (c := (1 : Int32) = 0) (tt := 72) (ff := 59) (L' := [.retAddr 0, .retAddr 0, .int v2, .retAddr 0, .int v4, .int v5, .ref 61, .ref 67]) (S' := []) (σ' := (97, I, J, R)) rfl (fun hn => absurd hn (by decide)) (fun _ => ?_)
          refine az_E.sn 3 (pc' := 66) (L' := [.retAddr 0, .retAddr 0, .int v2, .retAddr 0, .int v4, .int v5, .ref 61, .ref 67]) (S' := [.int (I 61 1), .ref 67]) (σ' := (97, I, J, R)) rfl ?_
          refine az_E.call (d := 1) (k' := 56) (vs := [.ref 67, .int (I 61 1)]) (pc' := 69) (S' := []) rfl ?_ (fun _ _ hq => hq)
          show az_E az_F ex 1 56 0 [.ref 67, .int (I 61 1)] [] (97, I, J, R) _
          refine az_E.sn 1 (pc' := 1) (L' := [.ref 67, .int (I 61 1)]) (S' := [.ref 67]) (σ' := (97, I, J, R)) rfl ?_
          refine az_E.call (d := 0) (k' := 55) (vs := [.ref 67]) (pc' := 4) (S' := []) rfl ?_ (fun _ _ hq => hq)
          show az_E az_F ex 0 55 0 [.ref 67] [] (97, I, J, R) _
          refine az_E.sn 3 (pc' := 5) (L' := [.ref 67]) (S' := [.int (-1 : Int32), .int (I 67 1)]) (σ' := (97, I, J, R)) rfl ?_
          refine az_E.br (c := (I 67 1) = (-1 : Int32)) (tt := 12) (ff := 8) (L' := [.ref 67]) (S' := []) (σ' := (97, I, J, R)) rfl (fun hc_200 => ?_) (fun hc_200 => ?_)
          · rw [if_pos hc_200] at h
            refine az_E.sn 1 (pc' := 13) (L' := [.ref 67]) (S' := [.int (0 : Int32)]) (σ' := (97, I, J, R)) rfl ?_
            refine az_E.ret (v := some (.int (0 : Int32))) (σ' := (97, I, J, R)) rfl ?_
            show az_E az_F ex 1 56 4 [.ref 67, .int (I 61 1)] [.int (0 : Int32)] (97, I, J, R) _
            refine az_E.br (c := (0 : Int32) = 0) (tt := 19) (ff := 7) (L' := [.ref 67, .int (I 61 1)]) (S' := []) (σ' := (97, I, J, R)) rfl (fun _ => ?_) (fun hn => absurd (by decide) hn)
            refine az_E.sn 1 (pc' := 20) (L' := [.ref 67, .int (I 61 1)]) (S' := [.int (0 : Int32)]) (σ' := (97, I, J, R)) rfl ?_
            refine az_E.ret (v := some (.int (0 : Int32))) (σ' := (97, I, J, R)) rfl ?_
            show az_E az_F ex 2 128 69 [.retAddr 0, .retAddr 0, .int v2, .retAddr 0, .int v4, .int v5, .ref 61, .ref 67] [.int (0 : Int32)] (97, I, J, R) _
            refine az_E.br (c := (0 : Int32) = 0) (tt := 72) (ff := 75) (L' := [.retAddr 0, .retAddr 0, .int v2, .retAddr 0, .int v4, .int v5, .ref 61, .ref 67]) (S' := []) (σ' := (97, I, J, R)) rfl (fun _ => ?_) (fun hn => absurd (by decide) hn)
            refine az_E.sn 1 (pc' := 74) (L' := [.retAddr 0, .retAddr 0, .int v2, .retAddr 0, .int v4, .int v5, .ref 61, .ref 67]) (S' := [.int (-12 : Int32)]) (σ' := (97, I, J, R)) rfl ?_
            have h := Option.some.inj h
            subst h
            exact az_E.ret (v := some (.int (-12 : Int32))) (σ' := (97, I, J, R)) rfl hQ
          · rw [if_neg hc_200] at h
            refine az_E.sn 2 (pc' := 13) (L' := [.ref 67]) (S' := [.int (1 : Int32)]) (σ' := (97, I, J, R)) rfl ?_
            refine az_E.ret (v := some (.int (1 : Int32))) (σ' := (97, I, J, R)) rfl ?_
            show az_E az_F ex 1 56 4 [.ref 67, .int (I 61 1)] [.int (1 : Int32)] (97, I, J, R) _
            refine az_E.br (c := (1 : Int32) = 0) (tt := 19) (ff := 7) (L' := [.ref 67, .int (I 61 1)]) (S' := []) (σ' := (97, I, J, R)) rfl (fun hn => absurd hn (by decide)) (fun _ => ?_)
            refine az_E.sn 3 (pc' := 12) (L' := [.ref 67, .int (I 61 1)]) (S' := [.int (I 61 1), .int (I 67 1)]) (σ' := (97, I, J, R)) rfl ?_
            refine az_E.br (c := (I 67 1) = (I 61 1)) (tt := 15) (ff := 19) (L' := [.ref 67, .int (I 61 1)]) (S' := []) (σ' := (97, I, J, R)) rfl (fun hc_201 => ?_) (fun hc_201 => ?_)
            · rw [if_pos hc_201] at h
              refine az_E.sn 2 (pc' := 20) (L' := [.ref 67, .int (I 61 1)]) (S' := [.int (1 : Int32)]) (σ' := (97, I, J, R)) rfl ?_
              refine az_E.ret (v := some (.int (1 : Int32))) (σ' := (97, I, J, R)) rfl ?_
              show az_E az_F ex 2 128 69 [.retAddr 0, .retAddr 0, .int v2, .retAddr 0, .int v4, .int v5, .ref 61, .ref 67] [.int (1 : Int32)] (97, I, J, R) _
              refine az_E.br (c := (1 : Int32) = 0) (tt := 72) (ff := 75) (L' := [.retAddr 0, .retAddr 0, .int v2, .retAddr 0, .int v4, .int v5, .ref 61, .ref 67]) (S' := []) (σ' := (97, I, J, R)) rfl (fun hn => absurd hn (by decide)) (fun _ => ?_)
              refine az_E.sn 3 (pc' := 80) (L' := [.retAddr 0, .retAddr 0, .int v2, .retAddr 0, .int v4, .int v5, .ref 61, .ref 67]) (S' := [.int v5, .int v2, .ref 61]) (σ' := (97, I, J, R)) rfl ?_
              refine az_E.call (d := 1) (k' := 60) (vs := [.ref 61, .int v2, .int v5]) (pc' := 83) (S' := []) rfl ?_ (fun _ _ hq => hq)
              show az_E az_F ex 1 60 0 [.ref 61, .int v2, .int v5] [] (97, I, J, R) _
              refine az_E.sn 1 (pc' := 1) (L' := [.ref 61, .int v2, .int v5]) (S' := [.int v2]) (σ' := (97, I, J, R)) rfl ?_
              refine az_E.br (c := v2 < 0) (tt := 30) (ff := 4) (L' := [.ref 61, .int v2, .int v5]) (S' := []) (σ' := (97, I, J, R)) rfl (fun hc_202 => ?_) (fun hc_202 => ?_)
              · rw [if_pos hc_202] at h
                refine az_E.sn 1 (pc' := 31) (L' := [.ref 61, .int v2, .int v5]) (S' := [.int (0 : Int32)]) (σ' := (97, I, J, R)) rfl ?_
                refine az_E.ret (v := some (.int (0 : Int32))) (σ' := (97, I, J, R)) rfl ?_
                show az_E az_F ex 2 128 83 [.retAddr 0, .retAddr 0, .int v2, .retAddr 0, .int v4, .int v5, .ref 61, .ref 67] [.int (0 : Int32)] (97, I, J, R) _
                refine az_E.br (c := (0 : Int32) = 0) (tt := 98) (ff := 86) (L' := [.retAddr 0, .retAddr 0, .int v2, .retAddr 0, .int v4, .int v5, .ref 61, .ref 67]) (S' := []) (σ' := (97, I, J, R)) rfl (fun _ => ?_) (fun hn => absurd (by decide) hn)
                refine az_E.sn 1 (pc' := 100) (L' := [.retAddr 0, .retAddr 0, .int v2, .retAddr 0, .int v4, .int v5, .ref 61, .ref 67]) (S' := [.int (-13 : Int32)]) (σ' := (97, I, J, R)) rfl ?_
                have h := Option.some.inj h
                subst h
                exact az_E.ret (v := some (.int (-13 : Int32))) (σ' := (97, I, J, R)) rfl hQ
              · rw [if_neg hc_202] at h
                refine az_E.sn 1 (pc' := 5) (L' := [.ref 61, .int v2, .int v5]) (S' := [.int v5]) (σ' := (97, I, J, R)) rfl ?_
                refine az_E.br (c := v5 < 0) (tt := 30) (ff := 8) (L' := [.ref 61, .int v2, .int v5]) (S' := []) (σ' := (97, I, J, R)) rfl (fun hc_203 => ?_) (fun hc_203 => ?_)
                · rw [if_pos hc_203] at h
                  refine az_E.sn 1 (pc' := 31) (L' := [.ref 61, .int v2, .int v5]) (S' := [.int (0 : Int32)]) (σ' := (97, I, J, R)) rfl ?_
                  refine az_E.ret (v := some (.int (0 : Int32))) (σ' := (97, I, J, R)) rfl ?_
                  show az_E az_F ex 2 128 83 [.retAddr 0, .retAddr 0, .int v2, .retAddr 0, .int v4, .int v5, .ref 61, .ref 67] [.int (0 : Int32)] (97, I, J, R) _
                  refine az_E.br (c := (0 : Int32) = 0) (tt := 98) (ff := 86) (L' := [.retAddr 0, .retAddr 0, .int v2, .retAddr 0, .int v4, .int v5, .ref 61, .ref 67]) (S' := []) (σ' := (97, I, J, R)) rfl (fun _ => ?_) (fun hn => absurd (by decide) hn)
                  refine az_E.sn 1 (pc' := 100) (L' := [.retAddr 0, .retAddr 0, .int v2, .retAddr 0, .int v4, .int v5, .ref 61, .ref 67]) (S' := [.int (-13 : Int32)]) (σ' := (97, I, J, R)) rfl ?_
                  have h := Option.some.inj h
                  subst h
                  exact az_E.ret (v := some (.int (-13 : Int32))) (σ' := (97, I, J, R)) rfl hQ
                · rw [if_neg hc_203] at h
                  refine az_E.sn 3 (pc' := 13) (L' := [.ref 61, .int v2, .int v5]) (S' := [.int (I 61 2), .int v2]) (σ' := (97, I, J, R)) rfl ?_
                  refine az_E.br (c := (I 61 2) < v2) (tt := 30) (ff := 16) (L' := [.ref 61, .int v2, .int v5]) (S' := []) (σ' := (97, I, J, R)) rfl (fun hc_204 => ?_) (fun hc_204 => ?_)
                  · rw [if_pos hc_204] at h
                    refine az_E.sn 1 (pc' := 31) (L' := [.ref 61, .int v2, .int v5]) (S' := [.int (0 : Int32)]) (σ' := (97, I, J, R)) rfl ?_
                    refine az_E.ret (v := some (.int (0 : Int32))) (σ' := (97, I, J, R)) rfl ?_
                    show az_E az_F ex 2 128 83 [.retAddr 0, .retAddr 0, .int v2, .retAddr 0, .int v4, .int v5, .ref 61, .ref 67] [.int (0 : Int32)] (97, I, J, R) _
                    refine az_E.br (c := (0 : Int32) = 0) (tt := 98) (ff := 86) (L' := [.retAddr 0, .retAddr 0, .int v2, .retAddr 0, .int v4, .int v5, .ref 61, .ref 67]) (S' := []) (σ' := (97, I, J, R)) rfl (fun _ => ?_) (fun hn => absurd (by decide) hn)
                    refine az_E.sn 1 (pc' := 100) (L' := [.retAddr 0, .retAddr 0, .int v2, .retAddr 0, .int v4, .int v5, .ref 61, .ref 67]) (S' := [.int (-13 : Int32)]) (σ' := (97, I, J, R)) rfl ?_
                    have h := Option.some.inj h
                    subst h
                    exact az_E.ret (v := some (.int (-13 : Int32))) (σ' := (97, I, J, R)) rfl hQ
                  · rw [if_neg hc_204] at h
                    refine az_E.sn 5 (pc' := 23) (L' := [.ref 61, .int v2, .int v5]) (S' := [.int ((I 61 2) - v2), .int v5]) (σ' := (97, I, J, R)) rfl ?_
                    refine az_E.br (c := ((I 61 2) - v2) < v5) (tt := 30) (ff := 26) (L' := [.ref 61, .int v2, .int v5]) (S' := []) (σ' := (97, I, J, R)) rfl (fun hc_205 => ?_) (fun hc_205 => ?_)
                    · rw [if_pos hc_205] at h
                      refine az_E.sn 1 (pc' := 31) (L' := [.ref 61, .int v2, .int v5]) (S' := [.int (0 : Int32)]) (σ' := (97, I, J, R)) rfl ?_
                      refine az_E.ret (v := some (.int (0 : Int32))) (σ' := (97, I, J, R)) rfl ?_
                      show az_E az_F ex 2 128 83 [.retAddr 0, .retAddr 0, .int v2, .retAddr 0, .int v4, .int v5, .ref 61, .ref 67] [.int (0 : Int32)] (97, I, J, R) _
                      refine az_E.br (c := (0 : Int32) = 0) (tt := 98) (ff := 86) (L' := [.retAddr 0, .retAddr 0, .int v2, .retAddr 0, .int v4, .int v5, .ref 61, .ref 67]) (S' := []) (σ' := (97, I, J, R)) rfl (fun _ => ?_) (fun hn => absurd (by decide) hn)
                      refine az_E.sn 1 (pc' := 100) (L' := [.retAddr 0, .retAddr 0, .int v2, .retAddr 0, .int v4, .int v5, .ref 61, .ref 67]) (S' := [.int (-13 : Int32)]) (σ' := (97, I, J, R)) rfl ?_
                      have h := Option.some.inj h
                      subst h
                      exact az_E.ret (v := some (.int (-13 : Int32))) (σ' := (97, I, J, R)) rfl hQ
                    · rw [if_neg hc_205] at h
                      refine az_E.sn 2 (pc' := 31) (L' := [.ref 61, .int v2, .int v5]) (S' := [.int (1 : Int32)]) (σ' := (97, I, J, R)) rfl ?_
                      refine az_E.ret (v := some (.int (1 : Int32))) (σ' := (97, I, J, R)) rfl ?_
                      show az_E az_F ex 2 128 83 [.retAddr 0, .retAddr 0, .int v2, .retAddr 0, .int v4, .int v5, .ref 61, .ref 67] [.int (1 : Int32)] (97, I, J, R) _
                      refine az_E.br (c := (1 : Int32) = 0) (tt := 98) (ff := 86) (L' := [.retAddr 0, .retAddr 0, .int v2, .retAddr 0, .int v4, .int v5, .ref 61, .ref 67]) (S' := []) (σ' := (97, I, J, R)) rfl (fun hn => absurd hn (by decide)) (fun _ => ?_)
                      refine az_E.sn 3 (pc' := 92) (L' := [.retAddr 0, .retAddr 0, .int v2, .retAddr 0, .int v4, .int v5, .ref 61, .ref 67]) (S' := [.int v5, .int v4, .ref 67]) (σ' := (97, I, J, R)) rfl ?_
                      refine az_E.call (d := 1) (k' := 60) (vs := [.ref 67, .int v4, .int v5]) (pc' := 95) (S' := []) rfl ?_ (fun _ _ hq => hq)
                      show az_E az_F ex 1 60 0 [.ref 67, .int v4, .int v5] [] (97, I, J, R) _
                      refine az_E.sn 1 (pc' := 1) (L' := [.ref 67, .int v4, .int v5]) (S' := [.int v4]) (σ' := (97, I, J, R)) rfl ?_
                      refine az_E.br (c := v4 < 0) (tt := 30) (ff := 4) (L' := [.ref 67, .int v4, .int v5]) (S' := []) (σ' := (97, I, J, R)) rfl (fun hc_206 => ?_) (fun hc_206 => ?_)
                      · rw [if_pos hc_206] at h
                        refine az_E.sn 1 (pc' := 31) (L' := [.ref 67, .int v4, .int v5]) (S' := [.int (0 : Int32)]) (σ' := (97, I, J, R)) rfl ?_
                        refine az_E.ret (v := some (.int (0 : Int32))) (σ' := (97, I, J, R)) rfl ?_
                        show az_E az_F ex 2 128 95 [.retAddr 0, .retAddr 0, .int v2, .retAddr 0, .int v4, .int v5, .ref 61, .ref 67] [.int (0 : Int32)] (97, I, J, R) _
                        refine az_E.br (c := (0 : Int32) = 0) (tt := 98) (ff := 101) (L' := [.retAddr 0, .retAddr 0, .int v2, .retAddr 0, .int v4, .int v5, .ref 61, .ref 67]) (S' := []) (σ' := (97, I, J, R)) rfl (fun _ => ?_) (fun hn => absurd (by decide) hn)
                        refine az_E.sn 1 (pc' := 100) (L' := [.retAddr 0, .retAddr 0, .int v2, .retAddr 0, .int v4, .int v5, .ref 61, .ref 67]) (S' := [.int (-13 : Int32)]) (σ' := (97, I, J, R)) rfl ?_
                        have h := Option.some.inj h
                        subst h
                        exact az_E.ret (v := some (.int (-13 : Int32))) (σ' := (97, I, J, R)) rfl hQ
                      · rw [if_neg hc_206] at h
                        refine az_E.sn 1 (pc' := 5) (L' := [.ref 67, .int v4, .int v5]) (S' := [.int v5]) (σ' := (97, I, J, R)) rfl ?_
                        refine az_E.br (c := v5 < 0) (tt := 30) (ff := 8) (L' := [.ref 67, .int v4, .int v5]) (S' := []) (σ' := (97, I, J, R)) rfl (fun hc_207 => ?_) (fun hc_207 => ?_)
                        · rw [if_pos hc_207] at h
                          refine az_E.sn 1 (pc' := 31) (L' := [.ref 67, .int v4, .int v5]) (S' := [.int (0 : Int32)]) (σ' := (97, I, J, R)) rfl ?_
                          refine az_E.ret (v := some (.int (0 : Int32))) (σ' := (97, I, J, R)) rfl ?_
                          show az_E az_F ex 2 128 95 [.retAddr 0, .retAddr 0, .int v2, .retAddr 0, .int v4, .int v5, .ref 61, .ref 67] [.int (0 : Int32)] (97, I, J, R) _
                          refine az_E.br (c := (0 : Int32) = 0) (tt := 98) (ff := 101) (L' := [.retAddr 0, .retAddr 0, .int v2, .retAddr 0, .int v4, .int v5, .ref 61, .ref 67]) (S' := []) (σ' := (97, I, J, R)) rfl (fun _ => ?_) (fun hn => absurd (by decide) hn)
                          refine az_E.sn 1 (pc' := 100) (L' := [.retAddr 0, .retAddr 0, .int v2, .retAddr 0, .int v4, .int v5, .ref 61, .ref 67]) (S' := [.int (-13 : Int32)]) (σ' := (97, I, J, R)) rfl ?_
                          have h := Option.some.inj h
                          subst h
                          exact az_E.ret (v := some (.int (-13 : Int32))) (σ' := (97, I, J, R)) rfl hQ
                        · rw [if_neg hc_207] at h
                          refine az_E.sn 3 (pc' := 13) (L' := [.ref 67, .int v4, .int v5]) (S' := [.int (I 67 2), .int v4]) (σ' := (97, I, J, R)) rfl ?_
                          refine az_E.br (c := (I 67 2) < v4) (tt := 30) (ff := 16) (L' := [.ref 67, .int v4, .int v5]) (S' := []) (σ' := (97, I, J, R)) rfl (fun hc_208 => ?_) (fun hc_208 => ?_)
                          · rw [if_pos hc_208] at h
                            refine az_E.sn 1 (pc' := 31) (L' := [.ref 67, .int v4, .int v5]) (S' := [.int (0 : Int32)]) (σ' := (97, I, J, R)) rfl ?_
                            refine az_E.ret (v := some (.int (0 : Int32))) (σ' := (97, I, J, R)) rfl ?_
                            show az_E az_F ex 2 128 95 [.retAddr 0, .retAddr 0, .int v2, .retAddr 0, .int v4, .int v5, .ref 61, .ref 67] [.int (0 : Int32)] (97, I, J, R) _
                            refine az_E.br (c := (0 : Int32) = 0) (tt := 98) (ff := 101) (L' := [.retAddr 0, .retAddr 0, .int v2, .retAddr 0, .int v4, .int v5, .ref 61, .ref 67]) (S' := []) (σ' := (97, I, J, R)) rfl (fun _ => ?_) (fun hn => absurd (by decide) hn)
                            refine az_E.sn 1 (pc' := 100) (L' := [.retAddr 0, .retAddr 0, .int v2, .retAddr 0, .int v4, .int v5, .ref 61, .ref 67]) (S' := [.int (-13 : Int32)]) (σ' := (97, I, J, R)) rfl ?_
                            have h := Option.some.inj h
                            subst h
                            exact az_E.ret (v := some (.int (-13 : Int32))) (σ' := (97, I, J, R)) rfl hQ
                          · rw [if_neg hc_208] at h
                            refine az_E.sn 5 (pc' := 23) (L' := [.ref 67, .int v4, .int v5]) (S' := [.int ((I 67 2) - v4), .int v5]) (σ' := (97, I, J, R)) rfl ?_
                            refine az_E.br (c := ((I 67 2) - v4) < v5) (tt := 30) (ff := 26) (L' := [.ref 67, .int v4, .int v5]) (S' := []) (σ' := (97, I, J, R)) rfl (fun hc_209 => ?_) (fun hc_209 => ?_)
                            · rw [if_pos hc_209] at h
                              refine az_E.sn 1 (pc' := 31) (L' := [.ref 67, .int v4, .int v5]) (S' := [.int (0 : Int32)]) (σ' := (97, I, J, R)) rfl ?_
                              refine az_E.ret (v := some (.int (0 : Int32))) (σ' := (97, I, J, R)) rfl ?_
                              show az_E az_F ex 2 128 95 [.retAddr 0, .retAddr 0, .int v2, .retAddr 0, .int v4, .int v5, .ref 61, .ref 67] [.int (0 : Int32)] (97, I, J, R) _
                              refine az_E.br (c := (0 : Int32) = 0) (tt := 98) (ff := 101) (L' := [.retAddr 0, .retAddr 0, .int v2, .retAddr 0, .int v4, .int v5, .ref 61, .ref 67]) (S' := []) (σ' := (97, I, J, R)) rfl (fun _ => ?_) (fun hn => absurd (by decide) hn)
                              refine az_E.sn 1 (pc' := 100) (L' := [.retAddr 0, .retAddr 0, .int v2, .retAddr 0, .int v4, .int v5, .ref 61, .ref 67]) (S' := [.int (-13 : Int32)]) (σ' := (97, I, J, R)) rfl ?_
                              have h := Option.some.inj h
                              subst h
                              exact az_E.ret (v := some (.int (-13 : Int32))) (σ' := (97, I, J, R)) rfl hQ
                            · rw [if_neg hc_209] at h
                              refine az_E.sn 2 (pc' := 31) (L' := [.ref 67, .int v4, .int v5]) (S' := [.int (1 : Int32)]) (σ' := (97, I, J, R)) rfl ?_
                              refine az_E.ret (v := some (.int (1 : Int32))) (σ' := (97, I, J, R)) rfl ?_
                              show az_E az_F ex 2 128 95 [.retAddr 0, .retAddr 0, .int v2, .retAddr 0, .int v4, .int v5, .ref 61, .ref 67] [.int (1 : Int32)] (97, I, J, R) _
                              refine az_E.br (c := (1 : Int32) = 0) (tt := 98) (ff := 101) (L' := [.retAddr 0, .retAddr 0, .int v2, .retAddr 0, .int v4, .int v5, .ref 61, .ref 67]) (S' := []) (σ' := (97, I, J, R)) rfl (fun hn => absurd hn (by decide)) (fun _ => ?_)
                              refine az_E.sn 7 (pc' := 116) (L' := [.retAddr 0, .retAddr 0, .int v2, .retAddr 0, .int v4, .int v5, .ref 61, .ref 67]) (S' := [.int v5, .int v4, .ref (67 + 1), .int v2, .ref (61 + 1)]) (σ' := (97, I, J, R)) rfl ?_
                              by_cases hc_210 : v2 < 0 ∨ v4 < 0 ∨ v5 < 0 ∨ 60 < v2.toNatClampNeg + v5.toNatClampNeg ∨ 60 < v4.toNatClampNeg + v5.toNatClampNeg
                              · rw [if_pos hc_210] at h; cases h
                              · rw [if_neg hc_210] at h
                                refine az_E.o (o := az_cp az_F (97, I, J, R) (61 + 1) v2 (67 + 1) v4 v5) (pc' := 119) (L' := [.retAddr 0, .retAddr 0, .int v2, .retAddr 0, .int v4, .int v5, .ref 61, .ref 67]) (S' := []) (x := (97, I, (az_ur J (67 + 1) (va_cpy (J (61 + 1)) (J (67 + 1)) v2.toNatClampNeg v4.toNatClampNeg v5.toNatClampNeg)), R)) rfl (if_neg hc_210) ?_
                                refine az_E.sn 1 (pc' := 121) (L' := [.retAddr 0, .retAddr 0, .int v2, .retAddr 0, .int v4, .int v5, .ref 61, .ref 67]) (S' := [.int v5]) (σ' := (97, I, (az_ur J (67 + 1) (va_cpy (J (61 + 1)) (J (67 + 1)) v2.toNatClampNeg v4.toNatClampNeg v5.toNatClampNeg)), R)) rfl ?_
                                have h := Option.some.inj h
                                subst h
                                exact az_E.ret (v := some (.int v5)) (σ' := (97, I, (az_ur J (67 + 1) (va_cpy (J (61 + 1)) (J (67 + 1)) v2.toNatClampNeg v4.toNatClampNeg v5.toNatClampNeg)), R)) rfl hQ
            · rw [if_neg hc_201] at h
              refine az_E.sn 1 (pc' := 20) (L' := [.ref 67, .int (I 61 1)]) (S' := [.int (0 : Int32)]) (σ' := (97, I, J, R)) rfl ?_
              refine az_E.ret (v := some (.int (0 : Int32))) (σ' := (97, I, J, R)) rfl ?_
              show az_E az_F ex 2 128 69 [.retAddr 0, .retAddr 0, .int v2, .retAddr 0, .int v4, .int v5, .ref 61, .ref 67] [.int (0 : Int32)] (97, I, J, R) _
              refine az_E.br (c := (0 : Int32) = 0) (tt := 72) (ff := 75) (L' := [.retAddr 0, .retAddr 0, .int v2, .retAddr 0, .int v4, .int v5, .ref 61, .ref 67]) (S' := []) (σ' := (97, I, J, R)) rfl (fun _ => ?_) (fun hn => absurd (by decide) hn)
              refine az_E.sn 1 (pc' := 74) (L' := [.retAddr 0, .retAddr 0, .int v2, .retAddr 0, .int v4, .int v5, .ref 61, .ref 67]) (S' := [.int (-12 : Int32)]) (σ' := (97, I, J, R)) rfl ?_
              have h := Option.some.inj h
              subst h
              exact az_E.ret (v := some (.int (-12 : Int32))) (σ' := (97, I, J, R)) rfl hQ
    · rw [if_neg hc_197] at h
      refine az_E.sn 1 (pc' := 21) (L' := [.ref 67]) (S' := [.int (0 : Int32)]) (σ' := (97, I, J, R)) rfl ?_
      refine az_E.ret (v := some (.int (0 : Int32))) (σ' := (97, I, J, R)) rfl ?_
      show az_E az_F ex 2 128 45 [.retAddr 0, .retAddr 0, .int v2, .retAddr 0, .int v4, .int v5, .ref 61, .ref 67] [.int (0 : Int32)] (97, I, J, R) _
      refine az_E.br (c := (0 : Int32) = 0) (tt := 51) (ff := 48) (L' := [.retAddr 0, .retAddr 0, .int v2, .retAddr 0, .int v4, .int v5, .ref 61, .ref 67]) (S' := []) (σ' := (97, I, J, R)) rfl (fun _ => ?_) (fun hn => absurd (by decide) hn)
      refine az_E.sn 1 (pc' := 53) (L' := [.retAddr 0, .retAddr 0, .int v2, .retAddr 0, .int v4, .int v5, .ref 61, .ref 67]) (S' := [.ref 61]) (σ' := (97, I, J, R)) rfl ?_
      refine az_E.call (d := 1) (k' := 55) (vs := [.ref 61]) (pc' := 56) (S' := []) rfl ?_ (fun _ _ hq => hq)
      show az_E az_F ex 1 55 0 [.ref 61] [] (97, I, J, R) _
      refine az_E.sn 3 (pc' := 5) (L' := [.ref 61]) (S' := [.int (-1 : Int32), .int (I 61 1)]) (σ' := (97, I, J, R)) rfl ?_
      refine az_E.br (c := (I 61 1) = (-1 : Int32)) (tt := 12) (ff := 8) (L' := [.ref 61]) (S' := []) (σ' := (97, I, J, R)) rfl (fun hc_211 => ?_) (fun hc_211 => ?_)
      · rw [if_pos hc_211] at h
        refine az_E.sn 1 (pc' := 13) (L' := [.ref 61]) (S' := [.int (0 : Int32)]) (σ' := (97, I, J, R)) rfl ?_
        refine az_E.ret (v := some (.int (0 : Int32))) (σ' := (97, I, J, R)) rfl ?_
        show az_E az_F ex 2 128 56 [.retAddr 0, .retAddr 0, .int v2, .retAddr 0, .int v4, .int v5, .ref 61, .ref 67] [.int (0 : Int32)] (97, I, J, R) _
        refine az_E.br (c := (0 : Int32) = 0) (tt := 72) (ff := 59) (L' := [.retAddr 0, .retAddr 0, .int v2, .retAddr 0, .int v4, .int v5, .ref 61, .ref 67]) (S' := []) (σ' := (97, I, J, R)) rfl (fun _ => ?_) (fun hn => absurd (by decide) hn)
        refine az_E.sn 1 (pc' := 74) (L' := [.retAddr 0, .retAddr 0, .int v2, .retAddr 0, .int v4, .int v5, .ref 61, .ref 67]) (S' := [.int (-12 : Int32)]) (σ' := (97, I, J, R)) rfl ?_
        have h := Option.some.inj h
        subst h
        exact az_E.ret (v := some (.int (-12 : Int32))) (σ' := (97, I, J, R)) rfl hQ
      · rw [if_neg hc_211] at h
        refine az_E.sn 2 (pc' := 13) (L' := [.ref 61]) (S' := [.int (1 : Int32)]) (σ' := (97, I, J, R)) rfl ?_
        refine az_E.ret (v := some (.int (1 : Int32))) (σ' := (97, I, J, R)) rfl ?_
        show az_E az_F ex 2 128 56 [.retAddr 0, .retAddr 0, .int v2, .retAddr 0, .int v4, .int v5, .ref 61, .ref 67] [.int (1 : Int32)] (97, I, J, R) _
        refine az_E.br (c := (1 : Int32) = 0) (tt := 72) (ff := 59) (L' := [.retAddr 0, .retAddr 0, .int v2, .retAddr 0, .int v4, .int v5, .ref 61, .ref 67]) (S' := []) (σ' := (97, I, J, R)) rfl (fun hn => absurd hn (by decide)) (fun _ => ?_)
        refine az_E.sn 3 (pc' := 66) (L' := [.retAddr 0, .retAddr 0, .int v2, .retAddr 0, .int v4, .int v5, .ref 61, .ref 67]) (S' := [.int (I 61 1), .ref 67]) (σ' := (97, I, J, R)) rfl ?_
        refine az_E.call (d := 1) (k' := 56) (vs := [.ref 67, .int (I 61 1)]) (pc' := 69) (S' := []) rfl ?_ (fun _ _ hq => hq)
        show az_E az_F ex 1 56 0 [.ref 67, .int (I 61 1)] [] (97, I, J, R) _
        refine az_E.sn 1 (pc' := 1) (L' := [.ref 67, .int (I 61 1)]) (S' := [.ref 67]) (σ' := (97, I, J, R)) rfl ?_
        refine az_E.call (d := 0) (k' := 55) (vs := [.ref 67]) (pc' := 4) (S' := []) rfl ?_ (fun _ _ hq => hq)
        show az_E az_F ex 0 55 0 [.ref 67] [] (97, I, J, R) _
        refine az_E.sn 3 (pc' := 5) (L' := [.ref 67]) (S' := [.int (-1 : Int32), .int (I 67 1)]) (σ' := (97, I, J, R)) rfl ?_
        refine az_E.br (c := (I 67 1) = (-1 : Int32)) (tt := 12) (ff := 8) (L' := [.ref 67]) (S' := []) (σ' := (97, I, J, R)) rfl (fun hc_212 => ?_) (fun hc_212 => ?_)
        · rw [if_pos hc_212] at h
          refine az_E.sn 1 (pc' := 13) (L' := [.ref 67]) (S' := [.int (0 : Int32)]) (σ' := (97, I, J, R)) rfl ?_
          refine az_E.ret (v := some (.int (0 : Int32))) (σ' := (97, I, J, R)) rfl ?_
          show az_E az_F ex 1 56 4 [.ref 67, .int (I 61 1)] [.int (0 : Int32)] (97, I, J, R) _
          refine az_E.br (c := (0 : Int32) = 0) (tt := 19) (ff := 7) (L' := [.ref 67, .int (I 61 1)]) (S' := []) (σ' := (97, I, J, R)) rfl (fun _ => ?_) (fun hn => absurd (by decide) hn)
          refine az_E.sn 1 (pc' := 20) (L' := [.ref 67, .int (I 61 1)]) (S' := [.int (0 : Int32)]) (σ' := (97, I, J, R)) rfl ?_
          refine az_E.ret (v := some (.int (0 : Int32))) (σ' := (97, I, J, R)) rfl ?_
          show az_E az_F ex 2 128 69 [.retAddr 0, .retAddr 0, .int v2, .retAddr 0, .int v4, .int v5, .ref 61, .ref 67] [.int (0 : Int32)] (97, I, J, R) _
          refine az_E.br (c := (0 : Int32) = 0) (tt := 72) (ff := 75) (L' := [.retAddr 0, .retAddr 0, .int v2, .retAddr 0, .int v4, .int v5, .ref 61, .ref 67]) (S' := []) (σ' := (97, I, J, R)) rfl (fun _ => ?_) (fun hn => absurd (by decide) hn)
          refine az_E.sn 1 (pc' := 74) (L' := [.retAddr 0, .retAddr 0, .int v2, .retAddr 0, .int v4, .int v5, .ref 61, .ref 67]) (S' := [.int (-12 : Int32)]) (σ' := (97, I, J, R)) rfl ?_
          have h := Option.some.inj h
          subst h
          exact az_E.ret (v := some (.int (-12 : Int32))) (σ' := (97, I, J, R)) rfl hQ
        · rw [if_neg hc_212] at h
          refine az_E.sn 2 (pc' := 13) (L' := [.ref 67]) (S' := [.int (1 : Int32)]) (σ' := (97, I, J, R)) rfl ?_
          refine az_E.ret (v := some (.int (1 : Int32))) (σ' := (97, I, J, R)) rfl ?_
          show az_E az_F ex 1 56 4 [.ref 67, .int (I 61 1)] [.int (1 : Int32)] (97, I, J, R) _
          refine az_E.br (c := (1 : Int32) = 0) (tt := 19) (ff := 7) (L' := [.ref 67, .int (I 61 1)]) (S' := []) (σ' := (97, I, J, R)) rfl (fun hn => absurd hn (by decide)) (fun _ => ?_)
          refine az_E.sn 3 (pc' := 12) (L' := [.ref 67, .int (I 61 1)]) (S' := [.int (I 61 1), .int (I 67 1)]) (σ' := (97, I, J, R)) rfl ?_
          refine az_E.br (c := (I 67 1) = (I 61 1)) (tt := 15) (ff := 19) (L' := [.ref 67, .int (I 61 1)]) (S' := []) (σ' := (97, I, J, R)) rfl (fun hc_213 => ?_) (fun hc_213 => ?_)
          · rw [if_pos hc_213] at h
            refine az_E.sn 2 (pc' := 20) (L' := [.ref 67, .int (I 61 1)]) (S' := [.int (1 : Int32)]) (σ' := (97, I, J, R)) rfl ?_
            refine az_E.ret (v := some (.int (1 : Int32))) (σ' := (97, I, J, R)) rfl ?_
            show az_E az_F ex 2 128 69 [.retAddr 0, .retAddr 0, .int v2, .retAddr 0, .int v4, .int v5, .ref 61, .ref 67] [.int (1 : Int32)] (97, I, J, R) _
            refine az_E.br (c := (1 : Int32) = 0) (tt := 72) (ff := 75) (L' := [.retAddr 0, .retAddr 0, .int v2, .retAddr 0, .int v4, .int v5, .ref 61, .ref 67]) (S' := []) (σ' := (97, I, J, R)) rfl (fun hn => absurd hn (by decide)) (fun _ => ?_)
            refine az_E.sn 3 (pc' := 80) (L' := [.retAddr 0, .retAddr 0, .int v2, .retAddr 0, .int v4, .int v5, .ref 61, .ref 67]) (S' := [.int v5, .int v2, .ref 61]) (σ' := (97, I, J, R)) rfl ?_
            refine az_E.call (d := 1) (k' := 60) (vs := [.ref 61, .int v2, .int v5]) (pc' := 83) (S' := []) rfl ?_ (fun _ _ hq => hq)
            show az_E az_F ex 1 60 0 [.ref 61, .int v2, .int v5] [] (97, I, J, R) _
            refine az_E.sn 1 (pc' := 1) (L' := [.ref 61, .int v2, .int v5]) (S' := [.int v2]) (σ' := (97, I, J, R)) rfl ?_
            refine az_E.br (c := v2 < 0) (tt := 30) (ff := 4) (L' := [.ref 61, .int v2, .int v5]) (S' := []) (σ' := (97, I, J, R)) rfl (fun hc_214 => ?_) (fun hc_214 => ?_)
            · rw [if_pos hc_214] at h
              refine az_E.sn 1 (pc' := 31) (L' := [.ref 61, .int v2, .int v5]) (S' := [.int (0 : Int32)]) (σ' := (97, I, J, R)) rfl ?_
              refine az_E.ret (v := some (.int (0 : Int32))) (σ' := (97, I, J, R)) rfl ?_
              show az_E az_F ex 2 128 83 [.retAddr 0, .retAddr 0, .int v2, .retAddr 0, .int v4, .int v5, .ref 61, .ref 67] [.int (0 : Int32)] (97, I, J, R) _
              refine az_E.br (c := (0 : Int32) = 0) (tt := 98) (ff := 86) (L' := [.retAddr 0, .retAddr 0, .int v2, .retAddr 0, .int v4, .int v5, .ref 61, .ref 67]) (S' := []) (σ' := (97, I, J, R)) rfl (fun _ => ?_) (fun hn => absurd (by decide) hn)
              refine az_E.sn 1 (pc' := 100) (L' := [.retAddr 0, .retAddr 0, .int v2, .retAddr 0, .int v4, .int v5, .ref 61, .ref 67]) (S' := [.int (-13 : Int32)]) (σ' := (97, I, J, R)) rfl ?_
              have h := Option.some.inj h
              subst h
              exact az_E.ret (v := some (.int (-13 : Int32))) (σ' := (97, I, J, R)) rfl hQ
            · rw [if_neg hc_214] at h
              refine az_E.sn 1 (pc' := 5) (L' := [.ref 61, .int v2, .int v5]) (S' := [.int v5]) (σ' := (97, I, J, R)) rfl ?_
              refine az_E.br (c := v5 < 0) (tt := 30) (ff := 8) (L' := [.ref 61, .int v2, .int v5]) (S' := []) (σ' := (97, I, J, R)) rfl (fun hc_215 => ?_) (fun hc_215 => ?_)
              · rw [if_pos hc_215] at h
                refine az_E.sn 1 (pc' := 31) (L' := [.ref 61, .int v2, .int v5]) (S' := [.int (0 : Int32)]) (σ' := (97, I, J, R)) rfl ?_
                refine az_E.ret (v := some (.int (0 : Int32))) (σ' := (97, I, J, R)) rfl ?_
                show az_E az_F ex 2 128 83 [.retAddr 0, .retAddr 0, .int v2, .retAddr 0, .int v4, .int v5, .ref 61, .ref 67] [.int (0 : Int32)] (97, I, J, R) _
                refine az_E.br (c := (0 : Int32) = 0) (tt := 98) (ff := 86) (L' := [.retAddr 0, .retAddr 0, .int v2, .retAddr 0, .int v4, .int v5, .ref 61, .ref 67]) (S' := []) (σ' := (97, I, J, R)) rfl (fun _ => ?_) (fun hn => absurd (by decide) hn)
                refine az_E.sn 1 (pc' := 100) (L' := [.retAddr 0, .retAddr 0, .int v2, .retAddr 0, .int v4, .int v5, .ref 61, .ref 67]) (S' := [.int (-13 : Int32)]) (σ' := (97, I, J, R)) rfl ?_
                have h := Option.some.inj h
                subst h
                exact az_E.ret (v := some (.int (-13 : Int32))) (σ' := (97, I, J, R)) rfl hQ
              · rw [if_neg hc_215] at h
                refine az_E.sn 3 (pc' := 13) (L' := [.ref 61, .int v2, .int v5]) (S' := [.int (I 61 2), .int v2]) (σ' := (97, I, J, R)) rfl ?_
                refine az_E.br (c := (I 61 2) < v2) (tt := 30) (ff := 16) (L' := [.ref 61, .int v2, .int v5]) (S' := []) (σ' := (97, I, J, R)) rfl (fun hc_216 => ?_) (fun hc_216 => ?_)
                · rw [if_pos hc_216] at h
                  refine az_E.sn 1 (pc' := 31) (L' := [.ref 61, .int v2, .int v5]) (S' := [.int (0 : Int32)]) (σ' := (97, I, J, R)) rfl ?_
                  refine az_E.ret (v := some (.int (0 : Int32))) (σ' := (97, I, J, R)) rfl ?_
                  show az_E az_F ex 2 128 83 [.retAddr 0, .retAddr 0, .int v2, .retAddr 0, .int v4, .int v5, .ref 61, .ref 67] [.int (0 : Int32)] (97, I, J, R) _
                  refine az_E.br (c := (0 : Int32) = 0) (tt := 98) (ff := 86) (L' := [.retAddr 0, .retAddr 0, .int v2, .retAddr 0, .int v4, .int v5, .ref 61, .ref 67]) (S' := []) (σ' := (97, I, J, R)) rfl (fun _ => ?_) (fun hn => absurd (by decide) hn)
                  refine az_E.sn 1 (pc' := 100) (L' := [.retAddr 0, .retAddr 0, .int v2, .retAddr 0, .int v4, .int v5, .ref 61, .ref 67]) (S' := [.int (-13 : Int32)]) (σ' := (97, I, J, R)) rfl ?_
                  have h := Option.some.inj h
                  subst h
                  exact az_E.ret (v := some (.int (-13 : Int32))) (σ' := (97, I, J, R)) rfl hQ
                · rw [if_neg hc_216] at h
                  refine az_E.sn 5 (pc' := 23) (L' := [.ref 61, .int v2, .int v5]) (S' := [.int ((I 61 2) - v2), .int v5]) (σ' := (97, I, J, R)) rfl ?_
                  refine az_E.br (c := ((I 61 2) - v2) < v5) (tt := 30) (ff := 26) (L' := [.ref 61, .int v2, .int v5]) (S' := []) (σ' := (97, I, J, R)) rfl (fun hc_217 => ?_) (fun hc_217 => ?_)
                  · rw [if_pos hc_217] at h
                    refine az_E.sn 1 (pc' := 31) (L' := [.ref 61, .int v2, .int v5]) (S' := [.int (0 : Int32)]) (σ' := (97, I, J, R)) rfl ?_
                    refine az_E.ret (v := some (.int (0 : Int32))) (σ' := (97, I, J, R)) rfl ?_
                    show az_E az_F ex 2 128 83 [.retAddr 0, .retAddr 0, .int v2, .retAddr 0, .int v4, .int v5, .ref 61, .ref 67] [.int (0 : Int32)] (97, I, J, R) _
                    refine az_E.br (c := (0 : Int32) = 0) (tt := 98) (ff := 86) (L' := [.retAddr 0, .retAddr 0, .int v2, .retAddr 0, .int v4, .int v5, .ref 61, .ref 67]) (S' := []) (σ' := (97, I, J, R)) rfl (fun _ => ?_) (fun hn => absurd (by decide) hn)
                    refine az_E.sn 1 (pc' := 100) (L' := [.retAddr 0, .retAddr 0, .int v2, .retAddr 0, .int v4, .int v5, .ref 61, .ref 67]) (S' := [.int (-13 : Int32)]) (σ' := (97, I, J, R)) rfl ?_
                    have h := Option.some.inj h
                    subst h
                    exact az_E.ret (v := some (.int (-13 : Int32))) (σ' := (97, I, J, R)) rfl hQ
                  · rw [if_neg hc_217] at h
                    refine az_E.sn 2 (pc' := 31) (L' := [.ref 61, .int v2, .int v5]) (S' := [.int (1 : Int32)]) (σ' := (97, I, J, R)) rfl ?_
                    refine az_E.ret (v := some (.int (1 : Int32))) (σ' := (97, I, J, R)) rfl ?_
                    show az_E az_F ex 2 128 83 [.retAddr 0, .retAddr 0, .int v2, .retAddr 0, .int v4, .int v5, .ref 61, .ref 67] [.int (1 : Int32)] (97, I, J, R) _
                    refine az_E.br (c := (1 : Int32) = 0) (tt := 98) (ff := 86) (L' := [.retAddr 0, .retAddr 0, .int v2, .retAddr 0, .int v4, .int v5, .ref 61, .ref 67]) (S' := []) (σ' := (97, I, J, R)) rfl (fun hn => absurd hn (by decide)) (fun _ => ?_)
                    refine az_E.sn 3 (pc' := 92) (L' := [.retAddr 0, .retAddr 0, .int v2, .retAddr 0, .int v4, .int v5, .ref 61, .ref 67]) (S' := [.int v5, .int v4, .ref 67]) (σ' := (97, I, J, R)) rfl ?_
                    refine az_E.call (d := 1) (k' := 60) (vs := [.ref 67, .int v4, .int v5]) (pc' := 95) (S' := []) rfl ?_ (fun _ _ hq => hq)
                    show az_E az_F ex 1 60 0 [.ref 67, .int v4, .int v5] [] (97, I, J, R) _
                    refine az_E.sn 1 (pc' := 1) (L' := [.ref 67, .int v4, .int v5]) (S' := [.int v4]) (σ' := (97, I, J, R)) rfl ?_
                    refine az_E.br (c := v4 < 0) (tt := 30) (ff := 4) (L' := [.ref 67, .int v4, .int v5]) (S' := []) (σ' := (97, I, J, R)) rfl (fun hc_218 => ?_) (fun hc_218 => ?_)
                    · rw [if_pos hc_218] at h
                      refine az_E.sn 1 (pc' := 31) (L' := [.ref 67, .int v4, .int v5]) (S' := [.int (0 : Int32)]) (σ' := (97, I, J, R)) rfl ?_
                      refine az_E.ret (v := some (.int (0 : Int32))) (σ' := (97, I, J, R)) rfl ?_
                      show az_E az_F ex 2 128 95 [.retAddr 0, .retAddr 0, .int v2, .retAddr 0, .int v4, .int v5, .ref 61, .ref 67] [.int (0 : Int32)] (97, I, J, R) _
                      refine az_E.br (c := (0 : Int32) = 0) (tt := 98) (ff := 101) (L' := [.retAddr 0, .retAddr 0, .int v2, .retAddr 0, .int v4, .int v5, .ref 61, .ref 67]) (S' := []) (σ' := (97, I, J, R)) rfl (fun _ => ?_) (fun hn => absurd (by decide) hn)
                      refine az_E.sn 1 (pc' := 100) (L' := [.retAddr 0, .retAddr 0, .int v2, .retAddr 0, .int v4, .int v5, .ref 61, .ref 67]) (S' := [.int (-13 : Int32)]) (σ' := (97, I, J, R)) rfl ?_
                      have h := Option.some.inj h
                      subst h
                      exact az_E.ret (v := some (.int (-13 : Int32))) (σ' := (97, I, J, R)) rfl hQ
                    · rw [if_neg hc_218] at h
                      refine az_E.sn 1 (pc' := 5) (L' := [.ref 67, .int v4, .int v5]) (S' := [.int v5]) (σ' := (97, I, J, R)) rfl ?_
                      refine az_E.br (c := v5 < 0) (tt := 30) (ff := 8) (L' := [.ref 67, .int v4, .int v5]) (S' := []) (σ' := (97, I, J, R)) rfl (fun hc_219 => ?_) (fun hc_219 => ?_)
                      · rw [if_pos hc_219] at h
                        refine az_E.sn 1 (pc' := 31) (L' := [.ref 67, .int v4, .int v5]) (S' := [.int (0 : Int32)]) (σ' := (97, I, J, R)) rfl ?_
                        refine az_E.ret (v := some (.int (0 : Int32))) (σ' := (97, I, J, R)) rfl ?_
                        show az_E az_F ex 2 128 95 [.retAddr 0, .retAddr 0, .int v2, .retAddr 0, .int v4, .int v5, .ref 61, .ref 67] [.int (0 : Int32)] (97, I, J, R) _
                        refine az_E.br (c := (0 : Int32) = 0) (tt := 98) (ff := 101) (L' := [.retAddr 0, .retAddr 0, .int v2, .retAddr 0, .int v4, .int v5, .ref 61, .ref 67]) (S' := []) (σ' := (97, I, J, R)) rfl (fun _ => ?_) (fun hn => absurd (by decide) hn)
                        refine az_E.sn 1 (pc' := 100) (L' := [.retAddr 0, .retAddr 0, .int v2, .retAddr 0, .int v4, .int v5, .ref 61, .ref 67]) (S' := [.int (-13 : Int32)]) (σ' := (97, I, J, R)) rfl ?_
                        have h := Option.some.inj h
                        subst h
                        exact az_E.ret (v := some (.int (-13 : Int32))) (σ' := (97, I, J, R)) rfl hQ
                      · rw [if_neg hc_219] at h
                        refine az_E.sn 3 (pc' := 13) (L' := [.ref 67, .int v4, .int v5]) (S' := [.int (I 67 2), .int v4]) (σ' := (97, I, J, R)) rfl ?_
                        refine az_E.br (c := (I 67 2) < v4) (tt := 30) (ff := 16) (L' := [.ref 67, .int v4, .int v5]) (S' := []) (σ' := (97, I, J, R)) rfl (fun hc_220 => ?_) (fun hc_220 => ?_)
                        · rw [if_pos hc_220] at h
                          refine az_E.sn 1 (pc' := 31) (L' := [.ref 67, .int v4, .int v5]) (S' := [.int (0 : Int32)]) (σ' := (97, I, J, R)) rfl ?_
                          refine az_E.ret (v := some (.int (0 : Int32))) (σ' := (97, I, J, R)) rfl ?_
                          show az_E az_F ex 2 128 95 [.retAddr 0, .retAddr 0, .int v2, .retAddr 0, .int v4, .int v5, .ref 61, .ref 67] [.int (0 : Int32)] (97, I, J, R) _
                          refine az_E.br (c := (0 : Int32) = 0) (tt := 98) (ff := 101) (L' := [.retAddr 0, .retAddr 0, .int v2, .retAddr 0, .int v4, .int v5, .ref 61, .ref 67]) (S' := []) (σ' := (97, I, J, R)) rfl (fun _ => ?_) (fun hn => absurd (by decide) hn)
                          refine az_E.sn 1 (pc' := 100) (L' := [.retAddr 0, .retAddr 0, .int v2, .retAddr 0, .int v4, .int v5, .ref 61, .ref 67]) (S' := [.int (-13 : Int32)]) (σ' := (97, I, J, R)) rfl ?_
                          have h := Option.some.inj h
                          subst h
                          exact az_E.ret (v := some (.int (-13 : Int32))) (σ' := (97, I, J, R)) rfl hQ
                        · rw [if_neg hc_220] at h
                          refine az_E.sn 5 (pc' := 23) (L' := [.ref 67, .int v4, .int v5]) (S' := [.int ((I 67 2) - v4), .int v5]) (σ' := (97, I, J, R)) rfl ?_
                          refine az_E.br (c := ((I 67 2) - v4) < v5) (tt := 30) (ff := 26) (L' := [.ref 67, .int v4, .int v5]) (S' := []) (σ' := (97, I, J, R)) rfl (fun hc_221 => ?_) (fun hc_221 => ?_)
                          · rw [if_pos hc_221] at h
                            refine az_E.sn 1 (pc' := 31) (L' := [.ref 67, .int v4, .int v5]) (S' := [.int (0 : Int32)]) (σ' := (97, I, J, R)) rfl ?_
                            refine az_E.ret (v := some (.int (0 : Int32))) (σ' := (97, I, J, R)) rfl ?_
                            show az_E az_F ex 2 128 95 [.retAddr 0, .retAddr 0, .int v2, .retAddr 0, .int v4, .int v5, .ref 61, .ref 67] [.int (0 : Int32)] (97, I, J, R) _
                            refine az_E.br (c := (0 : Int32) = 0) (tt := 98) (ff := 101) (L' := [.retAddr 0, .retAddr 0, .int v2, .retAddr 0, .int v4, .int v5, .ref 61, .ref 67]) (S' := []) (σ' := (97, I, J, R)) rfl (fun _ => ?_) (fun hn => absurd (by decide) hn)
                            refine az_E.sn 1 (pc' := 100) (L' := [.retAddr 0, .retAddr 0, .int v2, .retAddr 0, .int v4, .int v5, .ref 61, .ref 67]) (S' := [.int (-13 : Int32)]) (σ' := (97, I, J, R)) rfl ?_
                            have h := Option.some.inj h
                            subst h
                            exact az_E.ret (v := some (.int (-13 : Int32))) (σ' := (97, I, J, R)) rfl hQ
                          · rw [if_neg hc_221] at h
                            refine az_E.sn 2 (pc' := 31) (L' := [.ref 67, .int v4, .int v5]) (S' := [.int (1 : Int32)]) (σ' := (97, I, J, R)) rfl ?_
                            refine az_E.ret (v := some (.int (1 : Int32))) (σ' := (97, I, J, R)) rfl ?_
                            show az_E az_F ex 2 128 95 [.retAddr 0, .retAddr 0, .int v2, .retAddr 0, .int v4, .int v5, .ref 61, .ref 67] [.int (1 : Int32)] (97, I, J, R) _
                            refine az_E.br (c := (1 : Int32) = 0) (tt := 98) (ff := 101) (L' := [.retAddr 0, .retAddr 0, .int v2, .retAddr 0, .int v4, .int v5, .ref 61, .ref 67]) (S' := []) (σ' := (97, I, J, R)) rfl (fun hn => absurd hn (by decide)) (fun _ => ?_)
                            refine az_E.sn 7 (pc' := 116) (L' := [.retAddr 0, .retAddr 0, .int v2, .retAddr 0, .int v4, .int v5, .ref 61, .ref 67]) (S' := [.int v5, .int v4, .ref (67 + 1), .int v2, .ref (61 + 1)]) (σ' := (97, I, J, R)) rfl ?_
                            by_cases hc_222 : v2 < 0 ∨ v4 < 0 ∨ v5 < 0 ∨ 60 < v2.toNatClampNeg + v5.toNatClampNeg ∨ 60 < v4.toNatClampNeg + v5.toNatClampNeg
                            · rw [if_pos hc_222] at h; cases h
                            · rw [if_neg hc_222] at h
                              refine az_E.o (o := az_cp az_F (97, I, J, R) (61 + 1) v2 (67 + 1) v4 v5) (pc' := 119) (L' := [.retAddr 0, .retAddr 0, .int v2, .retAddr 0, .int v4, .int v5, .ref 61, .ref 67]) (S' := []) (x := (97, I, (az_ur J (67 + 1) (va_cpy (J (61 + 1)) (J (67 + 1)) v2.toNatClampNeg v4.toNatClampNeg v5.toNatClampNeg)), R)) rfl (if_neg hc_222) ?_
                              refine az_E.sn 1 (pc' := 121) (L' := [.retAddr 0, .retAddr 0, .int v2, .retAddr 0, .int v4, .int v5, .ref 61, .ref 67]) (S' := [.int v5]) (σ' := (97, I, (az_ur J (67 + 1) (va_cpy (J (61 + 1)) (J (67 + 1)) v2.toNatClampNeg v4.toNatClampNeg v5.toNatClampNeg)), R)) rfl ?_
                              have h := Option.some.inj h
                              subst h
                              exact az_E.ret (v := some (.int v5)) (σ' := (97, I, (az_ur J (67 + 1) (va_cpy (J (61 + 1)) (J (67 + 1)) v2.toNatClampNeg v4.toNatClampNeg v5.toNatClampNeg)), R)) rfl hQ
          · rw [if_neg hc_213] at h
            refine az_E.sn 1 (pc' := 20) (L' := [.ref 67, .int (I 61 1)]) (S' := [.int (0 : Int32)]) (σ' := (97, I, J, R)) rfl ?_
            refine az_E.ret (v := some (.int (0 : Int32))) (σ' := (97, I, J, R)) rfl ?_
            show az_E az_F ex 2 128 69 [.retAddr 0, .retAddr 0, .int v2, .retAddr 0, .int v4, .int v5, .ref 61, .ref 67] [.int (0 : Int32)] (97, I, J, R) _
            refine az_E.br (c := (0 : Int32) = 0) (tt := 72) (ff := 75) (L' := [.retAddr 0, .retAddr 0, .int v2, .retAddr 0, .int v4, .int v5, .ref 61, .ref 67]) (S' := []) (σ' := (97, I, J, R)) rfl (fun _ => ?_) (fun hn => absurd (by decide) hn)
            refine az_E.sn 1 (pc' := 74) (L' := [.retAddr 0, .retAddr 0, .int v2, .retAddr 0, .int v4, .int v5, .ref 61, .ref 67]) (S' := [.int (-12 : Int32)]) (σ' := (97, I, J, R)) rfl ?_
            have h := Option.some.inj h
            subst h
            exact az_E.ret (v := some (.int (-12 : Int32))) (σ' := (97, I, J, R)) rfl hQ
set_option maxRecDepth 100000 in
set_option maxHeartbeats 4000000 in
theorem re_X_shift_30_61_69 {ex : az_X} {I : Nat → Nat → Int32} {J : Nat → Nat → Int64} {R : Nat → Nat → Option Nat} {v2 : Int32} {v4 : Int32} {v5 : Int32} {x : Int32 × (Nat → Nat → Int64)} (h : rs_X_shift_30 61 69 I J v2 v4 v5 = some x) {Q : Option Value → az_S → Prop} (hQ : Q (some (.int x.1)) (97, I, x.2, R)) : az_E az_F ex 2 128 30 [.retAddr 0, .retAddr 0, .int v2, .retAddr 0, .int v4, .int v5, .ref 61, .retAddr 0] [.ref 69] (97, I, J, R) Q := by
  unfold rs_X_shift_30 at h
  refine az_E.sn 2 (pc' := 34) (L' := [.retAddr 0, .retAddr 0, .int v2, .retAddr 0, .int v4, .int v5, .ref 61, .ref 69]) (S' := [.ref 61]) (σ' := (97, I, J, R)) rfl ?_
  refine az_E.call (d := 1) (k' := 54) (vs := [.ref 61]) (pc' := 37) (S' := []) rfl ?_ (fun _ _ hq => hq)
  show az_E az_F ex 1 54 0 [.ref 61] [] (97, I, J, R) _
  refine az_E.sn 3 (pc' := 5) (L' := [.ref 61]) (S' := [.int (-1 : Int32), .int (I 61 0)]) (σ' := (97, I, J, R)) rfl ?_
  refine az_E.br (c := (I 61 0) = (-1 : Int32)) (tt := 8) (ff := 20) (L' := [.ref 61]) (S' := []) (σ' := (97, I, J, R)) rfl (fun hc_223 => ?_) (fun hc_223 => ?_)
  · rw [if_pos hc_223] at h
    refine az_E.sn 3 (pc' := 13) (L' := [.ref 61]) (S' := [.int (-1 : Int32), .int (I 61 1)]) (σ' := (97, I, J, R)) rfl ?_
    refine az_E.br (c := (I 61 1) = (-1 : Int32)) (tt := 16) (ff := 20) (L' := [.ref 61]) (S' := []) (σ' := (97, I, J, R)) rfl (fun hc_224 => ?_) (fun hc_224 => ?_)
    · rw [if_pos hc_224] at h
      refine az_E.sn 2 (pc' := 21) (L' := [.ref 61]) (S' := [.int (1 : Int32)]) (σ' := (97, I, J, R)) rfl ?_
      refine az_E.ret (v := some (.int (1 : Int32))) (σ' := (97, I, J, R)) rfl ?_
      show az_E az_F ex 2 128 37 [.retAddr 0, .retAddr 0, .int v2, .retAddr 0, .int v4, .int v5, .ref 61, .ref 69] [.int (1 : Int32)] (97, I, J, R) _
      refine az_E.br (c := (1 : Int32) = 0) (tt := 40) (ff := 48) (L' := [.retAddr 0, .retAddr 0, .int v2, .retAddr 0, .int v4, .int v5, .ref 61, .ref 69]) (S' := []) (σ' := (97, I, J, R)) rfl (fun hn => absurd hn (by decide)) (fun _ => ?_)
      refine az_E.sn 1 (pc' := 50) (L' := [.retAddr 0, .retAddr 0, .int v2, .retAddr 0, .int v4, .int v5, .ref 61, .ref 69]) (S' := [.int (-11 : Int32)]) (σ' := (97, I, J, R)) rfl ?_
      have h := Option.some.inj h
      subst h
      exact az_E.ret (v := some (.int (-11 : Int32))) (σ' := (97, I, J, R)) rfl hQ
    · rw [if_neg hc_224] at h
      refine az_E.sn 1 (pc' := 21) (L' := [.ref 61]) (S' := [.int (0 : Int32)]) (σ' := (97, I, J, R)) rfl ?_
      refine az_E.ret (v := some (.int (0 : Int32))) (σ' := (97, I, J, R)) rfl ?_
      show az_E az_F ex 2 128 37 [.retAddr 0, .retAddr 0, .int v2, .retAddr 0, .int v4, .int v5, .ref 61, .ref 69] [.int (0 : Int32)] (97, I, J, R) _
      refine az_E.br (c := (0 : Int32) = 0) (tt := 40) (ff := 48) (L' := [.retAddr 0, .retAddr 0, .int v2, .retAddr 0, .int v4, .int v5, .ref 61, .ref 69]) (S' := []) (σ' := (97, I, J, R)) rfl (fun _ => ?_) (fun hn => absurd (by decide) hn)
      refine az_E.sn 1 (pc' := 42) (L' := [.retAddr 0, .retAddr 0, .int v2, .retAddr 0, .int v4, .int v5, .ref 61, .ref 69]) (S' := [.ref 69]) (σ' := (97, I, J, R)) rfl ?_
      refine az_E.call (d := 1) (k' := 54) (vs := [.ref 69]) (pc' := 45) (S' := []) rfl ?_ (fun _ _ hq => hq)
      show az_E az_F ex 1 54 0 [.ref 69] [] (97, I, J, R) _
      refine az_E.sn 3 (pc' := 5) (L' := [.ref 69]) (S' := [.int (-1 : Int32), .int (I 69 0)]) (σ' := (97, I, J, R)) rfl ?_
      refine az_E.br (c := (I 69 0) = (-1 : Int32)) (tt := 8) (ff := 20) (L' := [.ref 69]) (S' := []) (σ' := (97, I, J, R)) rfl (fun hc_225 => ?_) (fun hc_225 => ?_)
      · rw [if_pos hc_225] at h
        refine az_E.sn 3 (pc' := 13) (L' := [.ref 69]) (S' := [.int (-1 : Int32), .int (I 69 1)]) (σ' := (97, I, J, R)) rfl ?_
        refine az_E.br (c := (I 69 1) = (-1 : Int32)) (tt := 16) (ff := 20) (L' := [.ref 69]) (S' := []) (σ' := (97, I, J, R)) rfl (fun hc_226 => ?_) (fun hc_226 => ?_)
        · rw [if_pos hc_226] at h
          refine az_E.sn 2 (pc' := 21) (L' := [.ref 69]) (S' := [.int (1 : Int32)]) (σ' := (97, I, J, R)) rfl ?_
          refine az_E.ret (v := some (.int (1 : Int32))) (σ' := (97, I, J, R)) rfl ?_
          show az_E az_F ex 2 128 45 [.retAddr 0, .retAddr 0, .int v2, .retAddr 0, .int v4, .int v5, .ref 61, .ref 69] [.int (1 : Int32)] (97, I, J, R) _
          refine az_E.br (c := (1 : Int32) = 0) (tt := 51) (ff := 48) (L' := [.retAddr 0, .retAddr 0, .int v2, .retAddr 0, .int v4, .int v5, .ref 61, .ref 69]) (S' := []) (σ' := (97, I, J, R)) rfl (fun hn => absurd hn (by decide)) (fun _ => ?_)
          refine az_E.sn 1 (pc' := 50) (L' := [.retAddr 0, .retAddr 0, .int v2, .retAddr 0, .int v4, .int v5, .ref 61, .ref 69]) (S' := [.int (-11 : Int32)]) (σ' := (97, I, J, R)) rfl ?_
          have h := Option.some.inj h
          subst h
          exact az_E.ret (v := some (.int (-11 : Int32))) (σ' := (97, I, J, R)) rfl hQ
        · rw [if_neg hc_226] at h
          refine az_E.sn 1 (pc' := 21) (L' := [.ref 69]) (S' := [.int (0 : Int32)]) (σ' := (97, I, J, R)) rfl ?_
          refine az_E.ret (v := some (.int (0 : Int32))) (σ' := (97, I, J, R)) rfl ?_
          show az_E az_F ex 2 128 45 [.retAddr 0, .retAddr 0, .int v2, .retAddr 0, .int v4, .int v5, .ref 61, .ref 69] [.int (0 : Int32)] (97, I, J, R) _
          refine az_E.br (c := (0 : Int32) = 0) (tt := 51) (ff := 48) (L' := [.retAddr 0, .retAddr 0, .int v2, .retAddr 0, .int v4, .int v5, .ref 61, .ref 69]) (S' := []) (σ' := (97, I, J, R)) rfl (fun _ => ?_) (fun hn => absurd (by decide) hn)
          refine az_E.sn 1 (pc' := 53) (L' := [.retAddr 0, .retAddr 0, .int v2, .retAddr 0, .int v4, .int v5, .ref 61, .ref 69]) (S' := [.ref 61]) (σ' := (97, I, J, R)) rfl ?_
          refine az_E.call (d := 1) (k' := 55) (vs := [.ref 61]) (pc' := 56) (S' := []) rfl ?_ (fun _ _ hq => hq)
          show az_E az_F ex 1 55 0 [.ref 61] [] (97, I, J, R) _
          refine az_E.sn 3 (pc' := 5) (L' := [.ref 61]) (S' := [.int (-1 : Int32), .int (I 61 1)]) (σ' := (97, I, J, R)) rfl ?_
          refine az_E.br (c := (I 61 1) = (-1 : Int32)) (tt := 12) (ff := 8) (L' := [.ref 61]) (S' := []) (σ' := (97, I, J, R)) rfl (fun hc_227 => ?_) (fun hc_227 => ?_)
          · rw [if_pos hc_227] at h
            refine az_E.sn 1 (pc' := 13) (L' := [.ref 61]) (S' := [.int (0 : Int32)]) (σ' := (97, I, J, R)) rfl ?_
            refine az_E.ret (v := some (.int (0 : Int32))) (σ' := (97, I, J, R)) rfl ?_
            show az_E az_F ex 2 128 56 [.retAddr 0, .retAddr 0, .int v2, .retAddr 0, .int v4, .int v5, .ref 61, .ref 69] [.int (0 : Int32)] (97, I, J, R) _
            refine az_E.br (c := (0 : Int32) = 0) (tt := 72) (ff := 59) (L' := [.retAddr 0, .retAddr 0, .int v2, .retAddr 0, .int v4, .int v5, .ref 61, .ref 69]) (S' := []) (σ' := (97, I, J, R)) rfl (fun _ => ?_) (fun hn => absurd (by decide) hn)
            refine az_E.sn 1 (pc' := 74) (L' := [.retAddr 0, .retAddr 0, .int v2, .retAddr 0, .int v4, .int v5, .ref 61, .ref 69]) (S' := [.int (-12 : Int32)]) (σ' := (97, I, J, R)) rfl ?_
            have h := Option.some.inj h
            subst h
            exact az_E.ret (v := some (.int (-12 : Int32))) (σ' := (97, I, J, R)) rfl hQ
          · rw [if_neg hc_227] at h
            refine az_E.sn 2 (pc' := 13) (L' := [.ref 61]) (S' := [.int (1 : Int32)]) (σ' := (97, I, J, R)) rfl ?_
            refine az_E.ret (v := some (.int (1 : Int32))) (σ' := (97, I, J, R)) rfl ?_
            show az_E az_F ex 2 128 56 [.retAddr 0, .retAddr 0, .int v2, .retAddr 0, .int v4, .int v5, .ref 61, .ref 69] [.int (1 : Int32)] (97, I, J, R) _
            refine az_E.br (c := (1 : Int32) = 0) (tt := 72) (ff := 59) (L' := [.retAddr 0, .retAddr 0, .int v2, .retAddr 0, .int v4, .int v5, .ref 61, .ref 69]) (S' := []) (σ' := (97, I, J, R)) rfl (fun hn => absurd hn (by decide)) (fun _ => ?_)
            refine az_E.sn 3 (pc' := 66) (L' := [.retAddr 0, .retAddr 0, .int v2, .retAddr 0, .int v4, .int v5, .ref 61, .ref 69]) (S' := [.int (I 61 1), .ref 69]) (σ' := (97, I, J, R)) rfl ?_
            refine az_E.call (d := 1) (k' := 56) (vs := [.ref 69, .int (I 61 1)]) (pc' := 69) (S' := []) rfl ?_ (fun _ _ hq => hq)
            show az_E az_F ex 1 56 0 [.ref 69, .int (I 61 1)] [] (97, I, J, R) _
            refine az_E.sn 1 (pc' := 1) (L' := [.ref 69, .int (I 61 1)]) (S' := [.ref 69]) (σ' := (97, I, J, R)) rfl ?_
            refine az_E.call (d := 0) (k' := 55) (vs := [.ref 69]) (pc' := 4) (S' := []) rfl ?_ (fun _ _ hq => hq)
            show az_E az_F ex 0 55 0 [.ref 69] [] (97, I, J, R) _
            refine az_E.sn 3 (pc' := 5) (L' := [.ref 69]) (S' := [.int (-1 : Int32), .int (I 69 1)]) (σ' := (97, I, J, R)) rfl ?_
            refine az_E.br (c := (I 69 1) = (-1 : Int32)) (tt := 12) (ff := 8) (L' := [.ref 69]) (S' := []) (σ' := (97, I, J, R)) rfl (fun hc_228 => ?_) (fun hc_228 => ?_)
            · rw [if_pos hc_228] at h
              refine az_E.sn 1 (pc' := 13) (L' := [.ref 69]) (S' := [.int (0 : Int32)]) (σ' := (97, I, J, R)) rfl ?_
              refine az_E.ret (v := some (.int (0 : Int32))) (σ' := (97, I, J, R)) rfl ?_
              show az_E az_F ex 1 56 4 [.ref 69, .int (I 61 1)] [.int (0 : Int32)] (97, I, J, R) _
              refine az_E.br (c := (0 : Int32) = 0) (tt := 19) (ff := 7) (L' := [.ref 69, .int (I 61 1)]) (S' := []) (σ' := (97, I, J, R)) rfl (fun _ => ?_) (fun hn => absurd (by decide) hn)
              refine az_E.sn 1 (pc' := 20) (L' := [.ref 69, .int (I 61 1)]) (S' := [.int (0 : Int32)]) (σ' := (97, I, J, R)) rfl ?_
              refine az_E.ret (v := some (.int (0 : Int32))) (σ' := (97, I, J, R)) rfl ?_
              show az_E az_F ex 2 128 69 [.retAddr 0, .retAddr 0, .int v2, .retAddr 0, .int v4, .int v5, .ref 61, .ref 69] [.int (0 : Int32)] (97, I, J, R) _
              refine az_E.br (c := (0 : Int32) = 0) (tt := 72) (ff := 75) (L' := [.retAddr 0, .retAddr 0, .int v2, .retAddr 0, .int v4, .int v5, .ref 61, .ref 69]) (S' := []) (σ' := (97, I, J, R)) rfl (fun _ => ?_) (fun hn => absurd (by decide) hn)
              refine az_E.sn 1 (pc' := 74) (L' := [.retAddr 0, .retAddr 0, .int v2, .retAddr 0, .int v4, .int v5, .ref 61, .ref 69]) (S' := [.int (-12 : Int32)]) (σ' := (97, I, J, R)) rfl ?_
              have h := Option.some.inj h
              subst h
              exact az_E.ret (v := some (.int (-12 : Int32))) (σ' := (97, I, J, R)) rfl hQ
            · rw [if_neg hc_228] at h
              refine az_E.sn 2 (pc' := 13) (L' := [.ref 69]) (S' := [.int (1 : Int32)]) (σ' := (97, I, J, R)) rfl ?_
              refine az_E.ret (v := some (.int (1 : Int32))) (σ' := (97, I, J, R)) rfl ?_
              show az_E az_F ex 1 56 4 [.ref 69, .int (I 61 1)] [.int (1 : Int32)] (97, I, J, R) _
              refine az_E.br (c := (1 : Int32) = 0) (tt := 19) (ff := 7) (L' := [.ref 69, .int (I 61 1)]) (S' := []) (σ' := (97, I, J, R)) rfl (fun hn => absurd hn (by decide)) (fun _ => ?_)
              refine az_E.sn 3 (pc' := 12) (L' := [.ref 69, .int (I 61 1)]) (S' := [.int (I 61 1), .int (I 69 1)]) (σ' := (97, I, J, R)) rfl ?_
              refine az_E.br (c := (I 69 1) = (I 61 1)) (tt := 15) (ff := 19) (L' := [.ref 69, .int (I 61 1)]) (S' := []) (σ' := (97, I, J, R)) rfl (fun hc_229 => ?_) (fun hc_229 => ?_)
              · rw [if_pos hc_229] at h
                refine az_E.sn 2 (pc' := 20) (L' := [.ref 69, .int (I 61 1)]) (S' := [.int (1 : Int32)]) (σ' := (97, I, J, R)) rfl ?_
                refine az_E.ret (v := some (.int (1 : Int32))) (σ' := (97, I, J, R)) rfl ?_
                show az_E az_F ex 2 128 69 [.retAddr 0, .retAddr 0, .int v2, .retAddr 0, .int v4, .int v5, .ref 61, .ref 69] [.int (1 : Int32)] (97, I, J, R) _
                refine az_E.br (c := (1 : Int32) = 0) (tt := 72) (ff := 75) (L' := [.retAddr 0, .retAddr 0, .int v2, .retAddr 0, .int v4, .int v5, .ref 61, .ref 69]) (S' := []) (σ' := (97, I, J, R)) rfl (fun hn => absurd hn (by decide)) (fun _ => ?_)
                refine az_E.sn 3 (pc' := 80) (L' := [.retAddr 0, .retAddr 0, .int v2, .retAddr 0, .int v4, .int v5, .ref 61, .ref 69]) (S' := [.int v5, .int v2, .ref 61]) (σ' := (97, I, J, R)) rfl ?_
                refine az_E.call (d := 1) (k' := 60) (vs := [.ref 61, .int v2, .int v5]) (pc' := 83) (S' := []) rfl ?_ (fun _ _ hq => hq)
                show az_E az_F ex 1 60 0 [.ref 61, .int v2, .int v5] [] (97, I, J, R) _
                refine az_E.sn 1 (pc' := 1) (L' := [.ref 61, .int v2, .int v5]) (S' := [.int v2]) (σ' := (97, I, J, R)) rfl ?_
                refine az_E.br (c := v2 < 0) (tt := 30) (ff := 4) (L' := [.ref 61, .int v2, .int v5]) (S' := []) (σ' := (97, I, J, R)) rfl (fun hc_230 => ?_) (fun hc_230 => ?_)
                · rw [if_pos hc_230] at h
                  refine az_E.sn 1 (pc' := 31) (L' := [.ref 61, .int v2, .int v5]) (S' := [.int (0 : Int32)]) (σ' := (97, I, J, R)) rfl ?_
                  refine az_E.ret (v := some (.int (0 : Int32))) (σ' := (97, I, J, R)) rfl ?_
                  show az_E az_F ex 2 128 83 [.retAddr 0, .retAddr 0, .int v2, .retAddr 0, .int v4, .int v5, .ref 61, .ref 69] [.int (0 : Int32)] (97, I, J, R) _
                  refine az_E.br (c := (0 : Int32) = 0) (tt := 98) (ff := 86) (L' := [.retAddr 0, .retAddr 0, .int v2, .retAddr 0, .int v4, .int v5, .ref 61, .ref 69]) (S' := []) (σ' := (97, I, J, R)) rfl (fun _ => ?_) (fun hn => absurd (by decide) hn)
                  refine az_E.sn 1 (pc' := 100) (L' := [.retAddr 0, .retAddr 0, .int v2, .retAddr 0, .int v4, .int v5, .ref 61, .ref 69]) (S' := [.int (-13 : Int32)]) (σ' := (97, I, J, R)) rfl ?_
                  have h := Option.some.inj h
                  subst h
                  exact az_E.ret (v := some (.int (-13 : Int32))) (σ' := (97, I, J, R)) rfl hQ
                · rw [if_neg hc_230] at h
                  refine az_E.sn 1 (pc' := 5) (L' := [.ref 61, .int v2, .int v5]) (S' := [.int v5]) (σ' := (97, I, J, R)) rfl ?_
                  refine az_E.br (c := v5 < 0) (tt := 30) (ff := 8) (L' := [.ref 61, .int v2, .int v5]) (S' := []) (σ' := (97, I, J, R)) rfl (fun hc_231 => ?_) (fun hc_231 => ?_)
                  · rw [if_pos hc_231] at h
                    refine az_E.sn 1 (pc' := 31) (L' := [.ref 61, .int v2, .int v5]) (S' := [.int (0 : Int32)]) (σ' := (97, I, J, R)) rfl ?_
                    refine az_E.ret (v := some (.int (0 : Int32))) (σ' := (97, I, J, R)) rfl ?_
                    show az_E az_F ex 2 128 83 [.retAddr 0, .retAddr 0, .int v2, .retAddr 0, .int v4, .int v5, .ref 61, .ref 69] [.int (0 : Int32)] (97, I, J, R) _
                    refine az_E.br (c := (0 : Int32) = 0) (tt := 98) (ff := 86) (L' := [.retAddr 0, .retAddr 0, .int v2, .retAddr 0, .int v4, .int v5, .ref 61, .ref 69]) (S' := []) (σ' := (97, I, J, R)) rfl (fun _ => ?_) (fun hn => absurd (by decide) hn)
                    refine az_E.sn 1 (pc' := 100) (L' := [.retAddr 0, .retAddr 0, .int v2, .retAddr 0, .int v4, .int v5, .ref 61, .ref 69]) (S' := [.int (-13 : Int32)]) (σ' := (97, I, J, R)) rfl ?_
                    have h := Option.some.inj h
                    subst h
                    exact az_E.ret (v := some (.int (-13 : Int32))) (σ' := (97, I, J, R)) rfl hQ
                  · rw [if_neg hc_231] at h
                    refine az_E.sn 3 (pc' := 13) (L' := [.ref 61, .int v2, .int v5]) (S' := [.int (I 61 2), .int v2]) (σ' := (97, I, J, R)) rfl ?_
                    refine az_E.br (c := (I 61 2) < v2) (tt := 30) (ff := 16) (L' := [.ref 61, .int v2, .int v5]) (S' := []) (σ' := (97, I, J, R)) rfl (fun hc_232 => ?_) (fun hc_232 => ?_)
                    · rw [if_pos hc_232] at h
                      refine az_E.sn 1 (pc' := 31) (L' := [.ref 61, .int v2, .int v5]) (S' := [.int (0 : Int32)]) (σ' := (97, I, J, R)) rfl ?_
                      refine az_E.ret (v := some (.int (0 : Int32))) (σ' := (97, I, J, R)) rfl ?_
                      show az_E az_F ex 2 128 83 [.retAddr 0, .retAddr 0, .int v2, .retAddr 0, .int v4, .int v5, .ref 61, .ref 69] [.int (0 : Int32)] (97, I, J, R) _
                      refine az_E.br (c := (0 : Int32) = 0) (tt := 98) (ff := 86) (L' := [.retAddr 0, .retAddr 0, .int v2, .retAddr 0, .int v4, .int v5, .ref 61, .ref 69]) (S' := []) (σ' := (97, I, J, R)) rfl (fun _ => ?_) (fun hn => absurd (by decide) hn)
                      refine az_E.sn 1 (pc' := 100) (L' := [.retAddr 0, .retAddr 0, .int v2, .retAddr 0, .int v4, .int v5, .ref 61, .ref 69]) (S' := [.int (-13 : Int32)]) (σ' := (97, I, J, R)) rfl ?_
                      have h := Option.some.inj h
                      subst h
                      exact az_E.ret (v := some (.int (-13 : Int32))) (σ' := (97, I, J, R)) rfl hQ
                    · rw [if_neg hc_232] at h
                      refine az_E.sn 5 (pc' := 23) (L' := [.ref 61, .int v2, .int v5]) (S' := [.int ((I 61 2) - v2), .int v5]) (σ' := (97, I, J, R)) rfl ?_
                      refine az_E.br (c := ((I 61 2) - v2) < v5) (tt := 30) (ff := 26) (L' := [.ref 61, .int v2, .int v5]) (S' := []) (σ' := (97, I, J, R)) rfl (fun hc_233 => ?_) (fun hc_233 => ?_)
                      · rw [if_pos hc_233] at h
                        refine az_E.sn 1 (pc' := 31) (L' := [.ref 61, .int v2, .int v5]) (S' := [.int (0 : Int32)]) (σ' := (97, I, J, R)) rfl ?_
                        refine az_E.ret (v := some (.int (0 : Int32))) (σ' := (97, I, J, R)) rfl ?_
                        show az_E az_F ex 2 128 83 [.retAddr 0, .retAddr 0, .int v2, .retAddr 0, .int v4, .int v5, .ref 61, .ref 69] [.int (0 : Int32)] (97, I, J, R) _
                        refine az_E.br (c := (0 : Int32) = 0) (tt := 98) (ff := 86) (L' := [.retAddr 0, .retAddr 0, .int v2, .retAddr 0, .int v4, .int v5, .ref 61, .ref 69]) (S' := []) (σ' := (97, I, J, R)) rfl (fun _ => ?_) (fun hn => absurd (by decide) hn)
                        refine az_E.sn 1 (pc' := 100) (L' := [.retAddr 0, .retAddr 0, .int v2, .retAddr 0, .int v4, .int v5, .ref 61, .ref 69]) (S' := [.int (-13 : Int32)]) (σ' := (97, I, J, R)) rfl ?_
                        have h := Option.some.inj h
                        subst h
                        exact az_E.ret (v := some (.int (-13 : Int32))) (σ' := (97, I, J, R)) rfl hQ
                      · rw [if_neg hc_233] at h
                        refine az_E.sn 2 (pc' := 31) (L' := [.ref 61, .int v2, .int v5]) (S' := [.int (1 : Int32)]) (σ' := (97, I, J, R)) rfl ?_
                        refine az_E.ret (v := some (.int (1 : Int32))) (σ' := (97, I, J, R)) rfl ?_
                        show az_E az_F ex 2 128 83 [.retAddr 0, .retAddr 0, .int v2, .retAddr 0, .int v4, .int v5, .ref 61, .ref 69] [.int (1 : Int32)] (97, I, J, R) _
                        refine az_E.br (c := (1 : Int32) = 0) (tt := 98) (ff := 86) (L' := [.retAddr 0, .retAddr 0, .int v2, .retAddr 0, .int v4, .int v5, .ref 61, .ref 69]) (S' := []) (σ' := (97, I, J, R)) rfl (fun hn => absurd hn (by decide)) (fun _ => ?_)
                        refine az_E.sn 3 (pc' := 92) (L' := [.retAddr 0, .retAddr 0, .int v2, .retAddr 0, .int v4, .int v5, .ref 61, .ref 69]) (S' := [.int v5, .int v4, .ref 69]) (σ' := (97, I, J, R)) rfl ?_
                        refine az_E.call (d := 1) (k' := 60) (vs := [.ref 69, .int v4, .int v5]) (pc' := 95) (S' := []) rfl ?_ (fun _ _ hq => hq)
                        show az_E az_F ex 1 60 0 [.ref 69, .int v4, .int v5] [] (97, I, J, R) _
                        refine az_E.sn 1 (pc' := 1) (L' := [.ref 69, .int v4, .int v5]) (S' := [.int v4]) (σ' := (97, I, J, R)) rfl ?_
                        refine az_E.br (c := v4 < 0) (tt := 30) (ff := 4) (L' := [.ref 69, .int v4, .int v5]) (S' := []) (σ' := (97, I, J, R)) rfl (fun hc_234 => ?_) (fun hc_234 => ?_)
                        · rw [if_pos hc_234] at h
                          refine az_E.sn 1 (pc' := 31) (L' := [.ref 69, .int v4, .int v5]) (S' := [.int (0 : Int32)]) (σ' := (97, I, J, R)) rfl ?_
                          refine az_E.ret (v := some (.int (0 : Int32))) (σ' := (97, I, J, R)) rfl ?_
                          show az_E az_F ex 2 128 95 [.retAddr 0, .retAddr 0, .int v2, .retAddr 0, .int v4, .int v5, .ref 61, .ref 69] [.int (0 : Int32)] (97, I, J, R) _
                          refine az_E.br (c := (0 : Int32) = 0) (tt := 98) (ff := 101) (L' := [.retAddr 0, .retAddr 0, .int v2, .retAddr 0, .int v4, .int v5, .ref 61, .ref 69]) (S' := []) (σ' := (97, I, J, R)) rfl (fun _ => ?_) (fun hn => absurd (by decide) hn)
                          refine az_E.sn 1 (pc' := 100) (L' := [.retAddr 0, .retAddr 0, .int v2, .retAddr 0, .int v4, .int v5, .ref 61, .ref 69]) (S' := [.int (-13 : Int32)]) (σ' := (97, I, J, R)) rfl ?_
                          have h := Option.some.inj h
                          subst h
                          exact az_E.ret (v := some (.int (-13 : Int32))) (σ' := (97, I, J, R)) rfl hQ
                        · rw [if_neg hc_234] at h
                          refine az_E.sn 1 (pc' := 5) (L' := [.ref 69, .int v4, .int v5]) (S' := [.int v5]) (σ' := (97, I, J, R)) rfl ?_
                          refine az_E.br (c := v5 < 0) (tt := 30) (ff := 8) (L' := [.ref 69, .int v4, .int v5]) (S' := []) (σ' := (97, I, J, R)) rfl (fun hc_235 => ?_) (fun hc_235 => ?_)
                          · rw [if_pos hc_235] at h
                            refine az_E.sn 1 (pc' := 31) (L' := [.ref 69, .int v4, .int v5]) (S' := [.int (0 : Int32)]) (σ' := (97, I, J, R)) rfl ?_
                            refine az_E.ret (v := some (.int (0 : Int32))) (σ' := (97, I, J, R)) rfl ?_
                            show az_E az_F ex 2 128 95 [.retAddr 0, .retAddr 0, .int v2, .retAddr 0, .int v4, .int v5, .ref 61, .ref 69] [.int (0 : Int32)] (97, I, J, R) _
                            refine az_E.br (c := (0 : Int32) = 0) (tt := 98) (ff := 101) (L' := [.retAddr 0, .retAddr 0, .int v2, .retAddr 0, .int v4, .int v5, .ref 61, .ref 69]) (S' := []) (σ' := (97, I, J, R)) rfl (fun _ => ?_) (fun hn => absurd (by decide) hn)
                            refine az_E.sn 1 (pc' := 100) (L' := [.retAddr 0, .retAddr 0, .int v2, .retAddr 0, .int v4, .int v5, .ref 61, .ref 69]) (S' := [.int (-13 : Int32)]) (σ' := (97, I, J, R)) rfl ?_
                            have h := Option.some.inj h
                            subst h
                            exact az_E.ret (v := some (.int (-13 : Int32))) (σ' := (97, I, J, R)) rfl hQ
                          · rw [if_neg hc_235] at h
                            refine az_E.sn 3 (pc' := 13) (L' := [.ref 69, .int v4, .int v5]) (S' := [.int (I 69 2), .int v4]) (σ' := (97, I, J, R)) rfl ?_
                            refine az_E.br (c := (I 69 2) < v4) (tt := 30) (ff := 16) (L' := [.ref 69, .int v4, .int v5]) (S' := []) (σ' := (97, I, J, R)) rfl (fun hc_236 => ?_) (fun hc_236 => ?_)
                            · rw [if_pos hc_236] at h
                              refine az_E.sn 1 (pc' := 31) (L' := [.ref 69, .int v4, .int v5]) (S' := [.int (0 : Int32)]) (σ' := (97, I, J, R)) rfl ?_
                              refine az_E.ret (v := some (.int (0 : Int32))) (σ' := (97, I, J, R)) rfl ?_
                              show az_E az_F ex 2 128 95 [.retAddr 0, .retAddr 0, .int v2, .retAddr 0, .int v4, .int v5, .ref 61, .ref 69] [.int (0 : Int32)] (97, I, J, R) _
                              refine az_E.br (c := (0 : Int32) = 0) (tt := 98) (ff := 101) (L' := [.retAddr 0, .retAddr 0, .int v2, .retAddr 0, .int v4, .int v5, .ref 61, .ref 69]) (S' := []) (σ' := (97, I, J, R)) rfl (fun _ => ?_) (fun hn => absurd (by decide) hn)
                              refine az_E.sn 1 (pc' := 100) (L' := [.retAddr 0, .retAddr 0, .int v2, .retAddr 0, .int v4, .int v5, .ref 61, .ref 69]) (S' := [.int (-13 : Int32)]) (σ' := (97, I, J, R)) rfl ?_
                              have h := Option.some.inj h
                              subst h
                              exact az_E.ret (v := some (.int (-13 : Int32))) (σ' := (97, I, J, R)) rfl hQ
                            · rw [if_neg hc_236] at h
                              refine az_E.sn 5 (pc' := 23) (L' := [.ref 69, .int v4, .int v5]) (S' := [.int ((I 69 2) - v4), .int v5]) (σ' := (97, I, J, R)) rfl ?_
                              refine az_E.br (c := ((I 69 2) - v4) < v5) (tt := 30) (ff := 26) (L' := [.ref 69, .int v4, .int v5]) (S' := []) (σ' := (97, I, J, R)) rfl (fun hc_237 => ?_) (fun hc_237 => ?_)
                              · rw [if_pos hc_237] at h
                                refine az_E.sn 1 (pc' := 31) (L' := [.ref 69, .int v4, .int v5]) (S' := [.int (0 : Int32)]) (σ' := (97, I, J, R)) rfl ?_
                                refine az_E.ret (v := some (.int (0 : Int32))) (σ' := (97, I, J, R)) rfl ?_
                                show az_E az_F ex 2 128 95 [.retAddr 0, .retAddr 0, .int v2, .retAddr 0, .int v4, .int v5, .ref 61, .ref 69] [.int (0 : Int32)] (97, I, J, R) _
                                refine az_E.br (c := (0 : Int32) = 0) (tt := 98) (ff := 101) (L' := [.retAddr 0, .retAddr 0, .int v2, .retAddr 0, .int v4, .int v5, .ref 61, .ref 69]) (S' := []) (σ' := (97, I, J, R)) rfl (fun _ => ?_) (fun hn => absurd (by decide) hn)
                                refine az_E.sn 1 (pc' := 100) (L' := [.retAddr 0, .retAddr 0, .int v2, .retAddr 0, .int v4, .int v5, .ref 61, .ref 69]) (S' := [.int (-13 : Int32)]) (σ' := (97, I, J, R)) rfl ?_
                                have h := Option.some.inj h
                                subst h
                                exact az_E.ret (v := some (.int (-13 : Int32))) (σ' := (97, I, J, R)) rfl hQ
                              · rw [if_neg hc_237] at h
                                refine az_E.sn 2 (pc' := 31) (L' := [.ref 69, .int v4, .int v5]) (S' := [.int (1 : Int32)]) (σ' := (97, I, J, R)) rfl ?_
                                refine az_E.ret (v := some (.int (1 : Int32))) (σ' := (97, I, J, R)) rfl ?_
                                show az_E az_F ex 2 128 95 [.retAddr 0, .retAddr 0, .int v2, .retAddr 0, .int v4, .int v5, .ref 61, .ref 69] [.int (1 : Int32)] (97, I, J, R) _
                                refine az_E.br (c := (1 : Int32) = 0) (tt := 98) (ff := 101) (L' := [.retAddr 0, .retAddr 0, .int v2, .retAddr 0, .int v4, .int v5, .ref 61, .ref 69]) (S' := []) (σ' := (97, I, J, R)) rfl (fun hn => absurd hn (by decide)) (fun _ => ?_)
                                refine az_E.sn 7 (pc' := 116) (L' := [.retAddr 0, .retAddr 0, .int v2, .retAddr 0, .int v4, .int v5, .ref 61, .ref 69]) (S' := [.int v5, .int v4, .ref (69 + 1), .int v2, .ref (61 + 1)]) (σ' := (97, I, J, R)) rfl ?_
                                by_cases hc_238 : v2 < 0 ∨ v4 < 0 ∨ v5 < 0 ∨ 60 < v2.toNatClampNeg + v5.toNatClampNeg ∨ 60 < v4.toNatClampNeg + v5.toNatClampNeg
                                · rw [if_pos hc_238] at h; cases h
                                · rw [if_neg hc_238] at h
                                  refine az_E.o (o := az_cp az_F (97, I, J, R) (61 + 1) v2 (69 + 1) v4 v5) (pc' := 119) (L' := [.retAddr 0, .retAddr 0, .int v2, .retAddr 0, .int v4, .int v5, .ref 61, .ref 69]) (S' := []) (x := (97, I, (az_ur J (69 + 1) (va_cpy (J (61 + 1)) (J (69 + 1)) v2.toNatClampNeg v4.toNatClampNeg v5.toNatClampNeg)), R)) rfl (if_neg hc_238) ?_
                                  refine az_E.sn 1 (pc' := 121) (L' := [.retAddr 0, .retAddr 0, .int v2, .retAddr 0, .int v4, .int v5, .ref 61, .ref 69]) (S' := [.int v5]) (σ' := (97, I, (az_ur J (69 + 1) (va_cpy (J (61 + 1)) (J (69 + 1)) v2.toNatClampNeg v4.toNatClampNeg v5.toNatClampNeg)), R)) rfl ?_
                                  have h := Option.some.inj h
                                  subst h
                                  exact az_E.ret (v := some (.int v5)) (σ' := (97, I, (az_ur J (69 + 1) (va_cpy (J (61 + 1)) (J (69 + 1)) v2.toNatClampNeg v4.toNatClampNeg v5.toNatClampNeg)), R)) rfl hQ
              · rw [if_neg hc_229] at h
                refine az_E.sn 1 (pc' := 20) (L' := [.ref 69, .int (I 61 1)]) (S' := [.int (0 : Int32)]) (σ' := (97, I, J, R)) rfl ?_
                refine az_E.ret (v := some (.int (0 : Int32))) (σ' := (97, I, J, R)) rfl ?_
                show az_E az_F ex 2 128 69 [.retAddr 0, .retAddr 0, .int v2, .retAddr 0, .int v4, .int v5, .ref 61, .ref 69] [.int (0 : Int32)] (97, I, J, R) _
                refine az_E.br (c := (0 : Int32) = 0) (tt := 72) (ff := 75) (L' := [.retAddr 0, .retAddr 0, .int v2, .retAddr 0, .int v4, .int v5, .ref 61, .ref 69]) (S' := []) (σ' := (97, I, J, R)) rfl (fun _ => ?_) (fun hn => absurd (by decide) hn)
                refine az_E.sn 1 (pc' := 74) (L' := [.retAddr 0, .retAddr 0, .int v2, .retAddr 0, .int v4, .int v5, .ref 61, .ref 69]) (S' := [.int (-12 : Int32)]) (σ' := (97, I, J, R)) rfl ?_
                have h := Option.some.inj h
                subst h
                exact az_E.ret (v := some (.int (-12 : Int32))) (σ' := (97, I, J, R)) rfl hQ
      · rw [if_neg hc_225] at h
        refine az_E.sn 1 (pc' := 21) (L' := [.ref 69]) (S' := [.int (0 : Int32)]) (σ' := (97, I, J, R)) rfl ?_
        refine az_E.ret (v := some (.int (0 : Int32))) (σ' := (97, I, J, R)) rfl ?_
        show az_E az_F ex 2 128 45 [.retAddr 0, .retAddr 0, .int v2, .retAddr 0, .int v4, .int v5, .ref 61, .ref 69] [.int (0 : Int32)] (97, I, J, R) _
        refine az_E.br (c := (0 : Int32) = 0) (tt := 51) (ff := 48) (L' := [.retAddr 0, .retAddr 0, .int v2, .retAddr 0, .int v4, .int v5, .ref 61, .ref 69]) (S' := []) (σ' := (97, I, J, R)) rfl (fun _ => ?_) (fun hn => absurd (by decide) hn)
        refine az_E.sn 1 (pc' := 53) (L' := [.retAddr 0, .retAddr 0, .int v2, .retAddr 0, .int v4, .int v5, .ref 61, .ref 69]) (S' := [.ref 61]) (σ' := (97, I, J, R)) rfl ?_
        refine az_E.call (d := 1) (k' := 55) (vs := [.ref 61]) (pc' := 56) (S' := []) rfl ?_ (fun _ _ hq => hq)
        show az_E az_F ex 1 55 0 [.ref 61] [] (97, I, J, R) _
        refine az_E.sn 3 (pc' := 5) (L' := [.ref 61]) (S' := [.int (-1 : Int32), .int (I 61 1)]) (σ' := (97, I, J, R)) rfl ?_
        refine az_E.br (c := (I 61 1) = (-1 : Int32)) (tt := 12) (ff := 8) (L' := [.ref 61]) (S' := []) (σ' := (97, I, J, R)) rfl (fun hc_239 => ?_) (fun hc_239 => ?_)
        · rw [if_pos hc_239] at h
          refine az_E.sn 1 (pc' := 13) (L' := [.ref 61]) (S' := [.int (0 : Int32)]) (σ' := (97, I, J, R)) rfl ?_
          refine az_E.ret (v := some (.int (0 : Int32))) (σ' := (97, I, J, R)) rfl ?_
          show az_E az_F ex 2 128 56 [.retAddr 0, .retAddr 0, .int v2, .retAddr 0, .int v4, .int v5, .ref 61, .ref 69] [.int (0 : Int32)] (97, I, J, R) _
          refine az_E.br (c := (0 : Int32) = 0) (tt := 72) (ff := 59) (L' := [.retAddr 0, .retAddr 0, .int v2, .retAddr 0, .int v4, .int v5, .ref 61, .ref 69]) (S' := []) (σ' := (97, I, J, R)) rfl (fun _ => ?_) (fun hn => absurd (by decide) hn)
          refine az_E.sn 1 (pc' := 74) (L' := [.retAddr 0, .retAddr 0, .int v2, .retAddr 0, .int v4, .int v5, .ref 61, .ref 69]) (S' := [.int (-12 : Int32)]) (σ' := (97, I, J, R)) rfl ?_
          have h := Option.some.inj h
          subst h
          exact az_E.ret (v := some (.int (-12 : Int32))) (σ' := (97, I, J, R)) rfl hQ
        · rw [if_neg hc_239] at h
          refine az_E.sn 2 (pc' := 13) (L' := [.ref 61]) (S' := [.int (1 : Int32)]) (σ' := (97, I, J, R)) rfl ?_
          refine az_E.ret (v := some (.int (1 : Int32))) (σ' := (97, I, J, R)) rfl ?_
          show az_E az_F ex 2 128 56 [.retAddr 0, .retAddr 0, .int v2, .retAddr 0, .int v4, .int v5, .ref 61, .ref 69] [.int (1 : Int32)] (97, I, J, R) _
          refine az_E.br (c := (1 : Int32) = 0) (tt := 72) (ff := 59) (L' := [.retAddr 0, .retAddr 0, .int v2, .retAddr 0, .int v4, .int v5, .ref 61, .ref 69]) (S' := []) (σ' := (97, I, J, R)) rfl (fun hn => absurd hn (by decide)) (fun _ => ?_)
          refine az_E.sn 3 (pc' := 66) (L' := [.retAddr 0, .retAddr 0, .int v2, .retAddr 0, .int v4, .int v5, .ref 61, .ref 69]) (S' := [.int (I 61 1), .ref 69]) (σ' := (97, I, J, R)) rfl ?_
          refine az_E.call (d := 1) (k' := 56) (vs := [.ref 69, .int (I 61 1)]) (pc' := 69) (S' := []) rfl ?_ (fun _ _ hq => hq)
          show az_E az_F ex 1 56 0 [.ref 69, .int (I 61 1)] [] (97, I, J, R) _
          refine az_E.sn 1 (pc' := 1) (L' := [.ref 69, .int (I 61 1)]) (S' := [.ref 69]) (σ' := (97, I, J, R)) rfl ?_
          refine az_E.call (d := 0) (k' := 55) (vs := [.ref 69]) (pc' := 4) (S' := []) rfl ?_ (fun _ _ hq => hq)
          show az_E az_F ex 0 55 0 [.ref 69] [] (97, I, J, R) _
          refine az_E.sn 3 (pc' := 5) (L' := [.ref 69]) (S' := [.int (-1 : Int32), .int (I 69 1)]) (σ' := (97, I, J, R)) rfl ?_
          refine az_E.br (c := (I 69 1) = (-1 : Int32)) (tt := 12) (ff := 8) (L' := [.ref 69]) (S' := []) (σ' := (97, I, J, R)) rfl (fun hc_240 => ?_) (fun hc_240 => ?_)
          · rw [if_pos hc_240] at h
            refine az_E.sn 1 (pc' := 13) (L' := [.ref 69]) (S' := [.int (0 : Int32)]) (σ' := (97, I, J, R)) rfl ?_
            refine az_E.ret (v := some (.int (0 : Int32))) (σ' := (97, I, J, R)) rfl ?_
            show az_E az_F ex 1 56 4 [.ref 69, .int (I 61 1)] [.int (0 : Int32)] (97, I, J, R) _
            refine az_E.br (c := (0 : Int32) = 0) (tt := 19) (ff := 7) (L' := [.ref 69, .int (I 61 1)]) (S' := []) (σ' := (97, I, J, R)) rfl (fun _ => ?_) (fun hn => absurd (by decide) hn)
            refine az_E.sn 1 (pc' := 20) (L' := [.ref 69, .int (I 61 1)]) (S' := [.int (0 : Int32)]) (σ' := (97, I, J, R)) rfl ?_
            refine az_E.ret (v := some (.int (0 : Int32))) (σ' := (97, I, J, R)) rfl ?_
            show az_E az_F ex 2 128 69 [.retAddr 0, .retAddr 0, .int v2, .retAddr 0, .int v4, .int v5, .ref 61, .ref 69] [.int (0 : Int32)] (97, I, J, R) _
            refine az_E.br (c := (0 : Int32) = 0) (tt := 72) (ff := 75) (L' := [.retAddr 0, .retAddr 0, .int v2, .retAddr 0, .int v4, .int v5, .ref 61, .ref 69]) (S' := []) (σ' := (97, I, J, R)) rfl (fun _ => ?_) (fun hn => absurd (by decide) hn)
            refine az_E.sn 1 (pc' := 74) (L' := [.retAddr 0, .retAddr 0, .int v2, .retAddr 0, .int v4, .int v5, .ref 61, .ref 69]) (S' := [.int (-12 : Int32)]) (σ' := (97, I, J, R)) rfl ?_
            have h := Option.some.inj h
            subst h
            exact az_E.ret (v := some (.int (-12 : Int32))) (σ' := (97, I, J, R)) rfl hQ
          · rw [if_neg hc_240] at h
            refine az_E.sn 2 (pc' := 13) (L' := [.ref 69]) (S' := [.int (1 : Int32)]) (σ' := (97, I, J, R)) rfl ?_
            refine az_E.ret (v := some (.int (1 : Int32))) (σ' := (97, I, J, R)) rfl ?_
            show az_E az_F ex 1 56 4 [.ref 69, .int (I 61 1)] [.int (1 : Int32)] (97, I, J, R) _
            refine az_E.br (c := (1 : Int32) = 0) (tt := 19) (ff := 7) (L' := [.ref 69, .int (I 61 1)]) (S' := []) (σ' := (97, I, J, R)) rfl (fun hn => absurd hn (by decide)) (fun _ => ?_)
            refine az_E.sn 3 (pc' := 12) (L' := [.ref 69, .int (I 61 1)]) (S' := [.int (I 61 1), .int (I 69 1)]) (σ' := (97, I, J, R)) rfl ?_
            refine az_E.br (c := (I 69 1) = (I 61 1)) (tt := 15) (ff := 19) (L' := [.ref 69, .int (I 61 1)]) (S' := []) (σ' := (97, I, J, R)) rfl (fun hc_241 => ?_) (fun hc_241 => ?_)
            · rw [if_pos hc_241] at h
              refine az_E.sn 2 (pc' := 20) (L' := [.ref 69, .int (I 61 1)]) (S' := [.int (1 : Int32)]) (σ' := (97, I, J, R)) rfl ?_
              refine az_E.ret (v := some (.int (1 : Int32))) (σ' := (97, I, J, R)) rfl ?_
              show az_E az_F ex 2 128 69 [.retAddr 0, .retAddr 0, .int v2, .retAddr 0, .int v4, .int v5, .ref 61, .ref 69] [.int (1 : Int32)] (97, I, J, R) _
              refine az_E.br (c := (1 : Int32) = 0) (tt := 72) (ff := 75) (L' := [.retAddr 0, .retAddr 0, .int v2, .retAddr 0, .int v4, .int v5, .ref 61, .ref 69]) (S' := []) (σ' := (97, I, J, R)) rfl (fun hn => absurd hn (by decide)) (fun _ => ?_)
              refine az_E.sn 3 (pc' := 80) (L' := [.retAddr 0, .retAddr 0, .int v2, .retAddr 0, .int v4, .int v5, .ref 61, .ref 69]) (S' := [.int v5, .int v2, .ref 61]) (σ' := (97, I, J, R)) rfl ?_
              refine az_E.call (d := 1) (k' := 60) (vs := [.ref 61, .int v2, .int v5]) (pc' := 83) (S' := []) rfl ?_ (fun _ _ hq => hq)
              show az_E az_F ex 1 60 0 [.ref 61, .int v2, .int v5] [] (97, I, J, R) _
              refine az_E.sn 1 (pc' := 1) (L' := [.ref 61, .int v2, .int v5]) (S' := [.int v2]) (σ' := (97, I, J, R)) rfl ?_
              refine az_E.br (c := v2 < 0) (tt := 30) (ff := 4) (L' := [.ref 61, .int v2, .int v5]) (S' := []) (σ' := (97, I, J, R)) rfl (fun hc_242 => ?_) (fun hc_242 => ?_)
              · rw [if_pos hc_242] at h
                refine az_E.sn 1 (pc' := 31) (L' := [.ref 61, .int v2, .int v5]) (S' := [.int (0 : Int32)]) (σ' := (97, I, J, R)) rfl ?_
                refine az_E.ret (v := some (.int (0 : Int32))) (σ' := (97, I, J, R)) rfl ?_
                show az_E az_F ex 2 128 83 [.retAddr 0, .retAddr 0, .int v2, .retAddr 0, .int v4, .int v5, .ref 61, .ref 69] [.int (0 : Int32)] (97, I, J, R) _
                refine az_E.br (c := (0 : Int32) = 0) (tt := 98) (ff := 86) (L' := [.retAddr 0, .retAddr 0, .int v2, .retAddr 0, .int v4, .int v5, .ref 61, .ref 69]) (S' := []) (σ' := (97, I, J, R)) rfl (fun _ => ?_) (fun hn => absurd (by decide) hn)
                refine az_E.sn 1 (pc' := 100) (L' := [.retAddr 0, .retAddr 0, .int v2, .retAddr 0, .int v4, .int v5, .ref 61, .ref 69]) (S' := [.int (-13 : Int32)]) (σ' := (97, I, J, R)) rfl ?_
                have h := Option.some.inj h
                subst h
                exact az_E.ret (v := some (.int (-13 : Int32))) (σ' := (97, I, J, R)) rfl hQ
              · rw [if_neg hc_242] at h
                refine az_E.sn 1 (pc' := 5) (L' := [.ref 61, .int v2, .int v5]) (S' := [.int v5]) (σ' := (97, I, J, R)) rfl ?_
                refine az_E.br (c := v5 < 0) (tt := 30) (ff := 8) (L' := [.ref 61, .int v2, .int v5]) (S' := []) (σ' := (97, I, J, R)) rfl (fun hc_243 => ?_) (fun hc_243 => ?_)
                · rw [if_pos hc_243] at h
                  refine az_E.sn 1 (pc' := 31) (L' := [.ref 61, .int v2, .int v5]) (S' := [.int (0 : Int32)]) (σ' := (97, I, J, R)) rfl ?_
                  refine az_E.ret (v := some (.int (0 : Int32))) (σ' := (97, I, J, R)) rfl ?_
                  show az_E az_F ex 2 128 83 [.retAddr 0, .retAddr 0, .int v2, .retAddr 0, .int v4, .int v5, .ref 61, .ref 69] [.int (0 : Int32)] (97, I, J, R) _
                  refine az_E.br (c := (0 : Int32) = 0) (tt := 98) (ff := 86) (L' := [.retAddr 0, .retAddr 0, .int v2, .retAddr 0, .int v4, .int v5, .ref 61, .ref 69]) (S' := []) (σ' := (97, I, J, R)) rfl (fun _ => ?_) (fun hn => absurd (by decide) hn)
                  refine az_E.sn 1 (pc' := 100) (L' := [.retAddr 0, .retAddr 0, .int v2, .retAddr 0, .int v4, .int v5, .ref 61, .ref 69]) (S' := [.int (-13 : Int32)]) (σ' := (97, I, J, R)) rfl ?_
                  have h := Option.some.inj h
                  subst h
                  exact az_E.ret (v := some (.int (-13 : Int32))) (σ' := (97, I, J, R)) rfl hQ
                · rw [if_neg hc_243] at h
                  refine az_E.sn 3 (pc' := 13) (L' := [.ref 61, .int v2, .int v5]) (S' := [.int (I 61 2), .int v2]) (σ' := (97, I, J, R)) rfl ?_
                  refine az_E.br (c := (I 61 2) < v2) (tt := 30) (ff := 16) (L' := [.ref 61, .int v2, .int v5]) (S' := []) (σ' := (97, I, J, R)) rfl (fun hc_244 => ?_) (fun hc_244 => ?_)
                  · rw [if_pos hc_244] at h
                    refine az_E.sn 1 (pc' := 31) (L' := [.ref 61, .int v2, .int v5]) (S' := [.int (0 : Int32)]) (σ' := (97, I, J, R)) rfl ?_
                    refine az_E.ret (v := some (.int (0 : Int32))) (σ' := (97, I, J, R)) rfl ?_
                    show az_E az_F ex 2 128 83 [.retAddr 0, .retAddr 0, .int v2, .retAddr 0, .int v4, .int v5, .ref 61, .ref 69] [.int (0 : Int32)] (97, I, J, R) _
                    refine az_E.br (c := (0 : Int32) = 0) (tt := 98) (ff := 86) (L' := [.retAddr 0, .retAddr 0, .int v2, .retAddr 0, .int v4, .int v5, .ref 61, .ref 69]) (S' := []) (σ' := (97, I, J, R)) rfl (fun _ => ?_) (fun hn => absurd (by decide) hn)
                    refine az_E.sn 1 (pc' := 100) (L' := [.retAddr 0, .retAddr 0, .int v2, .retAddr 0, .int v4, .int v5, .ref 61, .ref 69]) (S' := [.int (-13 : Int32)]) (σ' := (97, I, J, R)) rfl ?_
                    have h := Option.some.inj h
                    subst h
                    exact az_E.ret (v := some (.int (-13 : Int32))) (σ' := (97, I, J, R)) rfl hQ
                  · rw [if_neg hc_244] at h
                    refine az_E.sn 5 (pc' := 23) (L' := [.ref 61, .int v2, .int v5]) (S' := [.int ((I 61 2) - v2), .int v5]) (σ' := (97, I, J, R)) rfl ?_
                    refine az_E.br (c := ((I 61 2) - v2) < v5) (tt := 30) (ff := 26) (L' := [.ref 61, .int v2, .int v5]) (S' := []) (σ' := (97, I, J, R)) rfl (fun hc_245 => ?_) (fun hc_245 => ?_)
                    · rw [if_pos hc_245] at h
                      refine az_E.sn 1 (pc' := 31) (L' := [.ref 61, .int v2, .int v5]) (S' := [.int (0 : Int32)]) (σ' := (97, I, J, R)) rfl ?_
                      refine az_E.ret (v := some (.int (0 : Int32))) (σ' := (97, I, J, R)) rfl ?_
                      show az_E az_F ex 2 128 83 [.retAddr 0, .retAddr 0, .int v2, .retAddr 0, .int v4, .int v5, .ref 61, .ref 69] [.int (0 : Int32)] (97, I, J, R) _
                      refine az_E.br (c := (0 : Int32) = 0) (tt := 98) (ff := 86) (L' := [.retAddr 0, .retAddr 0, .int v2, .retAddr 0, .int v4, .int v5, .ref 61, .ref 69]) (S' := []) (σ' := (97, I, J, R)) rfl (fun _ => ?_) (fun hn => absurd (by decide) hn)
                      refine az_E.sn 1 (pc' := 100) (L' := [.retAddr 0, .retAddr 0, .int v2, .retAddr 0, .int v4, .int v5, .ref 61, .ref 69]) (S' := [.int (-13 : Int32)]) (σ' := (97, I, J, R)) rfl ?_
                      have h := Option.some.inj h
                      subst h
                      exact az_E.ret (v := some (.int (-13 : Int32))) (σ' := (97, I, J, R)) rfl hQ
                    · rw [if_neg hc_245] at h
                      refine az_E.sn 2 (pc' := 31) (L' := [.ref 61, .int v2, .int v5]) (S' := [.int (1 : Int32)]) (σ' := (97, I, J, R)) rfl ?_
                      refine az_E.ret (v := some (.int (1 : Int32))) (σ' := (97, I, J, R)) rfl ?_
                      show az_E az_F ex 2 128 83 [.retAddr 0, .retAddr 0, .int v2, .retAddr 0, .int v4, .int v5, .ref 61, .ref 69] [.int (1 : Int32)] (97, I, J, R) _
                      refine az_E.br (c := (1 : Int32) = 0) (tt := 98) (ff := 86) (L' := [.retAddr 0, .retAddr 0, .int v2, .retAddr 0, .int v4, .int v5, .ref 61, .ref 69]) (S' := []) (σ' := (97, I, J, R)) rfl (fun hn => absurd hn (by decide)) (fun _ => ?_)
                      refine az_E.sn 3 (pc' := 92) (L' := [.retAddr 0, .retAddr 0, .int v2, .retAddr 0, .int v4, .int v5, .ref 61, .ref 69]) (S' := [.int v5, .int v4, .ref 69]) (σ' := (97, I, J, R)) rfl ?_
                      refine az_E.call (d := 1) (k' := 60) (vs := [.ref 69, .int v4, .int v5]) (pc' := 95) (S' := []) rfl ?_ (fun _ _ hq => hq)
                      show az_E az_F ex 1 60 0 [.ref 69, .int v4, .int v5] [] (97, I, J, R) _
                      refine az_E.sn 1 (pc' := 1) (L' := [.ref 69, .int v4, .int v5]) (S' := [.int v4]) (σ' := (97, I, J, R)) rfl ?_
                      refine az_E.br (c := v4 < 0) (tt := 30) (ff := 4) (L' := [.ref 69, .int v4, .int v5]) (S' := []) (σ' := (97, I, J, R)) rfl (fun hc_246 => ?_) (fun hc_246 => ?_)
                      · rw [if_pos hc_246] at h
                        refine az_E.sn 1 (pc' := 31) (L' := [.ref 69, .int v4, .int v5]) (S' := [.int (0 : Int32)]) (σ' := (97, I, J, R)) rfl ?_
                        refine az_E.ret (v := some (.int (0 : Int32))) (σ' := (97, I, J, R)) rfl ?_
                        show az_E az_F ex 2 128 95 [.retAddr 0, .retAddr 0, .int v2, .retAddr 0, .int v4, .int v5, .ref 61, .ref 69] [.int (0 : Int32)] (97, I, J, R) _
                        refine az_E.br (c := (0 : Int32) = 0) (tt := 98) (ff := 101) (L' := [.retAddr 0, .retAddr 0, .int v2, .retAddr 0, .int v4, .int v5, .ref 61, .ref 69]) (S' := []) (σ' := (97, I, J, R)) rfl (fun _ => ?_) (fun hn => absurd (by decide) hn)
                        refine az_E.sn 1 (pc' := 100) (L' := [.retAddr 0, .retAddr 0, .int v2, .retAddr 0, .int v4, .int v5, .ref 61, .ref 69]) (S' := [.int (-13 : Int32)]) (σ' := (97, I, J, R)) rfl ?_
                        have h := Option.some.inj h
                        subst h
                        exact az_E.ret (v := some (.int (-13 : Int32))) (σ' := (97, I, J, R)) rfl hQ
                      · rw [if_neg hc_246] at h
                        refine az_E.sn 1 (pc' := 5) (L' := [.ref 69, .int v4, .int v5]) (S' := [.int v5]) (σ' := (97, I, J, R)) rfl ?_
                        refine az_E.br (c := v5 < 0) (tt := 30) (ff := 8) (L' := [.ref 69, .int v4, .int v5]) (S' := []) (σ' := (97, I, J, R)) rfl (fun hc_247 => ?_) (fun hc_247 => ?_)
                        · rw [if_pos hc_247] at h
                          refine az_E.sn 1 (pc' := 31) (L' := [.ref 69, .int v4, .int v5]) (S' := [.int (0 : Int32)]) (σ' := (97, I, J, R)) rfl ?_
                          refine az_E.ret (v := some (.int (0 : Int32))) (σ' := (97, I, J, R)) rfl ?_
                          show az_E az_F ex 2 128 95 [.retAddr 0, .retAddr 0, .int v2, .retAddr 0, .int v4, .int v5, .ref 61, .ref 69] [.int (0 : Int32)] (97, I, J, R) _
                          refine az_E.br (c := (0 : Int32) = 0) (tt := 98) (ff := 101) (L' := [.retAddr 0, .retAddr 0, .int v2, .retAddr 0, .int v4, .int v5, .ref 61, .ref 69]) (S' := []) (σ' := (97, I, J, R)) rfl (fun _ => ?_) (fun hn => absurd (by decide) hn)
                          refine az_E.sn 1 (pc' := 100) (L' := [.retAddr 0, .retAddr 0, .int v2, .retAddr 0, .int v4, .int v5, .ref 61, .ref 69]) (S' := [.int (-13 : Int32)]) (σ' := (97, I, J, R)) rfl ?_
                          have h := Option.some.inj h
                          subst h
                          exact az_E.ret (v := some (.int (-13 : Int32))) (σ' := (97, I, J, R)) rfl hQ
                        · rw [if_neg hc_247] at h
                          refine az_E.sn 3 (pc' := 13) (L' := [.ref 69, .int v4, .int v5]) (S' := [.int (I 69 2), .int v4]) (σ' := (97, I, J, R)) rfl ?_
                          refine az_E.br (c := (I 69 2) < v4) (tt := 30) (ff := 16) (L' := [.ref 69, .int v4, .int v5]) (S' := []) (σ' := (97, I, J, R)) rfl (fun hc_248 => ?_) (fun hc_248 => ?_)
                          · rw [if_pos hc_248] at h
                            refine az_E.sn 1 (pc' := 31) (L' := [.ref 69, .int v4, .int v5]) (S' := [.int (0 : Int32)]) (σ' := (97, I, J, R)) rfl ?_
                            refine az_E.ret (v := some (.int (0 : Int32))) (σ' := (97, I, J, R)) rfl ?_
                            show az_E az_F ex 2 128 95 [.retAddr 0, .retAddr 0, .int v2, .retAddr 0, .int v4, .int v5, .ref 61, .ref 69] [.int (0 : Int32)] (97, I, J, R) _
                            refine az_E.br (c := (0 : Int32) = 0) (tt := 98) (ff := 101) (L' := [.retAddr 0, .retAddr 0, .int v2, .retAddr 0, .int v4, .int v5, .ref 61, .ref 69]) (S' := []) (σ' := (97, I, J, R)) rfl (fun _ => ?_) (fun hn => absurd (by decide) hn)
                            refine az_E.sn 1 (pc' := 100) (L' := [.retAddr 0, .retAddr 0, .int v2, .retAddr 0, .int v4, .int v5, .ref 61, .ref 69]) (S' := [.int (-13 : Int32)]) (σ' := (97, I, J, R)) rfl ?_
                            have h := Option.some.inj h
                            subst h
                            exact az_E.ret (v := some (.int (-13 : Int32))) (σ' := (97, I, J, R)) rfl hQ
                          · rw [if_neg hc_248] at h
                            refine az_E.sn 5 (pc' := 23) (L' := [.ref 69, .int v4, .int v5]) (S' := [.int ((I 69 2) - v4), .int v5]) (σ' := (97, I, J, R)) rfl ?_
                            refine az_E.br (c := ((I 69 2) - v4) < v5) (tt := 30) (ff := 26) (L' := [.ref 69, .int v4, .int v5]) (S' := []) (σ' := (97, I, J, R)) rfl (fun hc_249 => ?_) (fun hc_249 => ?_)
                            · rw [if_pos hc_249] at h
                              refine az_E.sn 1 (pc' := 31) (L' := [.ref 69, .int v4, .int v5]) (S' := [.int (0 : Int32)]) (σ' := (97, I, J, R)) rfl ?_
                              refine az_E.ret (v := some (.int (0 : Int32))) (σ' := (97, I, J, R)) rfl ?_
                              show az_E az_F ex 2 128 95 [.retAddr 0, .retAddr 0, .int v2, .retAddr 0, .int v4, .int v5, .ref 61, .ref 69] [.int (0 : Int32)] (97, I, J, R) _
                              refine az_E.br (c := (0 : Int32) = 0) (tt := 98) (ff := 101) (L' := [.retAddr 0, .retAddr 0, .int v2, .retAddr 0, .int v4, .int v5, .ref 61, .ref 69]) (S' := []) (σ' := (97, I, J, R)) rfl (fun _ => ?_) (fun hn => absurd (by decide) hn)
                              refine az_E.sn 1 (pc' := 100) (L' := [.retAddr 0, .retAddr 0, .int v2, .retAddr 0, .int v4, .int v5, .ref 61, .ref 69]) (S' := [.int (-13 : Int32)]) (σ' := (97, I, J, R)) rfl ?_
                              have h := Option.some.inj h
                              subst h
                              exact az_E.ret (v := some (.int (-13 : Int32))) (σ' := (97, I, J, R)) rfl hQ
                            · rw [if_neg hc_249] at h
                              refine az_E.sn 2 (pc' := 31) (L' := [.ref 69, .int v4, .int v5]) (S' := [.int (1 : Int32)]) (σ' := (97, I, J, R)) rfl ?_
                              refine az_E.ret (v := some (.int (1 : Int32))) (σ' := (97, I, J, R)) rfl ?_
                              show az_E az_F ex 2 128 95 [.retAddr 0, .retAddr 0, .int v2, .retAddr 0, .int v4, .int v5, .ref 61, .ref 69] [.int (1 : Int32)] (97, I, J, R) _
                              refine az_E.br (c := (1 : Int32) = 0) (tt := 98) (ff := 101) (L' := [.retAddr 0, .retAddr 0, .int v2, .retAddr 0, .int v4, .int v5, .ref 61, .ref 69]) (S' := []) (σ' := (97, I, J, R)) rfl (fun hn => absurd hn (by decide)) (fun _ => ?_)
                              refine az_E.sn 7 (pc' := 116) (L' := [.retAddr 0, .retAddr 0, .int v2, .retAddr 0, .int v4, .int v5, .ref 61, .ref 69]) (S' := [.int v5, .int v4, .ref (69 + 1), .int v2, .ref (61 + 1)]) (σ' := (97, I, J, R)) rfl ?_
                              by_cases hc_250 : v2 < 0 ∨ v4 < 0 ∨ v5 < 0 ∨ 60 < v2.toNatClampNeg + v5.toNatClampNeg ∨ 60 < v4.toNatClampNeg + v5.toNatClampNeg
                              · rw [if_pos hc_250] at h; cases h
                              · rw [if_neg hc_250] at h
                                refine az_E.o (o := az_cp az_F (97, I, J, R) (61 + 1) v2 (69 + 1) v4 v5) (pc' := 119) (L' := [.retAddr 0, .retAddr 0, .int v2, .retAddr 0, .int v4, .int v5, .ref 61, .ref 69]) (S' := []) (x := (97, I, (az_ur J (69 + 1) (va_cpy (J (61 + 1)) (J (69 + 1)) v2.toNatClampNeg v4.toNatClampNeg v5.toNatClampNeg)), R)) rfl (if_neg hc_250) ?_
                                refine az_E.sn 1 (pc' := 121) (L' := [.retAddr 0, .retAddr 0, .int v2, .retAddr 0, .int v4, .int v5, .ref 61, .ref 69]) (S' := [.int v5]) (σ' := (97, I, (az_ur J (69 + 1) (va_cpy (J (61 + 1)) (J (69 + 1)) v2.toNatClampNeg v4.toNatClampNeg v5.toNatClampNeg)), R)) rfl ?_
                                have h := Option.some.inj h
                                subst h
                                exact az_E.ret (v := some (.int v5)) (σ' := (97, I, (az_ur J (69 + 1) (va_cpy (J (61 + 1)) (J (69 + 1)) v2.toNatClampNeg v4.toNatClampNeg v5.toNatClampNeg)), R)) rfl hQ
            · rw [if_neg hc_241] at h
              refine az_E.sn 1 (pc' := 20) (L' := [.ref 69, .int (I 61 1)]) (S' := [.int (0 : Int32)]) (σ' := (97, I, J, R)) rfl ?_
              refine az_E.ret (v := some (.int (0 : Int32))) (σ' := (97, I, J, R)) rfl ?_
              show az_E az_F ex 2 128 69 [.retAddr 0, .retAddr 0, .int v2, .retAddr 0, .int v4, .int v5, .ref 61, .ref 69] [.int (0 : Int32)] (97, I, J, R) _
              refine az_E.br (c := (0 : Int32) = 0) (tt := 72) (ff := 75) (L' := [.retAddr 0, .retAddr 0, .int v2, .retAddr 0, .int v4, .int v5, .ref 61, .ref 69]) (S' := []) (σ' := (97, I, J, R)) rfl (fun _ => ?_) (fun hn => absurd (by decide) hn)
              refine az_E.sn 1 (pc' := 74) (L' := [.retAddr 0, .retAddr 0, .int v2, .retAddr 0, .int v4, .int v5, .ref 61, .ref 69]) (S' := [.int (-12 : Int32)]) (σ' := (97, I, J, R)) rfl ?_
              have h := Option.some.inj h
              subst h
              exact az_E.ret (v := some (.int (-12 : Int32))) (σ' := (97, I, J, R)) rfl hQ
  · rw [if_neg hc_223] at h
    refine az_E.sn 1 (pc' := 21) (L' := [.ref 61]) (S' := [.int (0 : Int32)]) (σ' := (97, I, J, R)) rfl ?_
    refine az_E.ret (v := some (.int (0 : Int32))) (σ' := (97, I, J, R)) rfl ?_
    show az_E az_F ex 2 128 37 [.retAddr 0, .retAddr 0, .int v2, .retAddr 0, .int v4, .int v5, .ref 61, .ref 69] [.int (0 : Int32)] (97, I, J, R) _
    refine az_E.br (c := (0 : Int32) = 0) (tt := 40) (ff := 48) (L' := [.retAddr 0, .retAddr 0, .int v2, .retAddr 0, .int v4, .int v5, .ref 61, .ref 69]) (S' := []) (σ' := (97, I, J, R)) rfl (fun _ => ?_) (fun hn => absurd (by decide) hn)
    refine az_E.sn 1 (pc' := 42) (L' := [.retAddr 0, .retAddr 0, .int v2, .retAddr 0, .int v4, .int v5, .ref 61, .ref 69]) (S' := [.ref 69]) (σ' := (97, I, J, R)) rfl ?_
    refine az_E.call (d := 1) (k' := 54) (vs := [.ref 69]) (pc' := 45) (S' := []) rfl ?_ (fun _ _ hq => hq)
    show az_E az_F ex 1 54 0 [.ref 69] [] (97, I, J, R) _
    refine az_E.sn 3 (pc' := 5) (L' := [.ref 69]) (S' := [.int (-1 : Int32), .int (I 69 0)]) (σ' := (97, I, J, R)) rfl ?_
    refine az_E.br (c := (I 69 0) = (-1 : Int32)) (tt := 8) (ff := 20) (L' := [.ref 69]) (S' := []) (σ' := (97, I, J, R)) rfl (fun hc_251 => ?_) (fun hc_251 => ?_)
    · rw [if_pos hc_251] at h
      refine az_E.sn 3 (pc' := 13) (L' := [.ref 69]) (S' := [.int (-1 : Int32), .int (I 69 1)]) (σ' := (97, I, J, R)) rfl ?_
      refine az_E.br (c := (I 69 1) = (-1 : Int32)) (tt := 16) (ff := 20) (L' := [.ref 69]) (S' := []) (σ' := (97, I, J, R)) rfl (fun hc_252 => ?_) (fun hc_252 => ?_)
      · rw [if_pos hc_252] at h
        refine az_E.sn 2 (pc' := 21) (L' := [.ref 69]) (S' := [.int (1 : Int32)]) (σ' := (97, I, J, R)) rfl ?_
        refine az_E.ret (v := some (.int (1 : Int32))) (σ' := (97, I, J, R)) rfl ?_
        show az_E az_F ex 2 128 45 [.retAddr 0, .retAddr 0, .int v2, .retAddr 0, .int v4, .int v5, .ref 61, .ref 69] [.int (1 : Int32)] (97, I, J, R) _
        refine az_E.br (c := (1 : Int32) = 0) (tt := 51) (ff := 48) (L' := [.retAddr 0, .retAddr 0, .int v2, .retAddr 0, .int v4, .int v5, .ref 61, .ref 69]) (S' := []) (σ' := (97, I, J, R)) rfl (fun hn => absurd hn (by decide)) (fun _ => ?_)
        refine az_E.sn 1 (pc' := 50) (L' := [.retAddr 0, .retAddr 0, .int v2, .retAddr 0, .int v4, .int v5, .ref 61, .ref 69]) (S' := [.int (-11 : Int32)]) (σ' := (97, I, J, R)) rfl ?_
        have h := Option.some.inj h
        subst h
        exact az_E.ret (v := some (.int (-11 : Int32))) (σ' := (97, I, J, R)) rfl hQ
      · rw [if_neg hc_252] at h
        refine az_E.sn 1 (pc' := 21) (L' := [.ref 69]) (S' := [.int (0 : Int32)]) (σ' := (97, I, J, R)) rfl ?_
        refine az_E.ret (v := some (.int (0 : Int32))) (σ' := (97, I, J, R)) rfl ?_
        show az_E az_F ex 2 128 45 [.retAddr 0, .retAddr 0, .int v2, .retAddr 0, .int v4, .int v5, .ref 61, .ref 69] [.int (0 : Int32)] (97, I, J, R) _
        refine az_E.br (c := (0 : Int32) = 0) (tt := 51) (ff := 48) (L' := [.retAddr 0, .retAddr 0, .int v2, .retAddr 0, .int v4, .int v5, .ref 61, .ref 69]) (S' := []) (σ' := (97, I, J, R)) rfl (fun _ => ?_) (fun hn => absurd (by decide) hn)
        refine az_E.sn 1 (pc' := 53) (L' := [.retAddr 0, .retAddr 0, .int v2, .retAddr 0, .int v4, .int v5, .ref 61, .ref 69]) (S' := [.ref 61]) (σ' := (97, I, J, R)) rfl ?_
        refine az_E.call (d := 1) (k' := 55) (vs := [.ref 61]) (pc' := 56) (S' := []) rfl ?_ (fun _ _ hq => hq)
        show az_E az_F ex 1 55 0 [.ref 61] [] (97, I, J, R) _
        refine az_E.sn 3 (pc' := 5) (L' := [.ref 61]) (S' := [.int (-1 : Int32), .int (I 61 1)]) (σ' := (97, I, J, R)) rfl ?_
        refine az_E.br (c := (I 61 1) = (-1 : Int32)) (tt := 12) (ff := 8) (L' := [.ref 61]) (S' := []) (σ' := (97, I, J, R)) rfl (fun hc_253 => ?_) (fun hc_253 => ?_)
        · rw [if_pos hc_253] at h
          refine az_E.sn 1 (pc' := 13) (L' := [.ref 61]) (S' := [.int (0 : Int32)]) (σ' := (97, I, J, R)) rfl ?_
          refine az_E.ret (v := some (.int (0 : Int32))) (σ' := (97, I, J, R)) rfl ?_
          show az_E az_F ex 2 128 56 [.retAddr 0, .retAddr 0, .int v2, .retAddr 0, .int v4, .int v5, .ref 61, .ref 69] [.int (0 : Int32)] (97, I, J, R) _
          refine az_E.br (c := (0 : Int32) = 0) (tt := 72) (ff := 59) (L' := [.retAddr 0, .retAddr 0, .int v2, .retAddr 0, .int v4, .int v5, .ref 61, .ref 69]) (S' := []) (σ' := (97, I, J, R)) rfl (fun _ => ?_) (fun hn => absurd (by decide) hn)
          refine az_E.sn 1 (pc' := 74) (L' := [.retAddr 0, .retAddr 0, .int v2, .retAddr 0, .int v4, .int v5, .ref 61, .ref 69]) (S' := [.int (-12 : Int32)]) (σ' := (97, I, J, R)) rfl ?_
          have h := Option.some.inj h
          subst h
          exact az_E.ret (v := some (.int (-12 : Int32))) (σ' := (97, I, J, R)) rfl hQ
        · rw [if_neg hc_253] at h
          refine az_E.sn 2 (pc' := 13) (L' := [.ref 61]) (S' := [.int (1 : Int32)]) (σ' := (97, I, J, R)) rfl ?_
          refine az_E.ret (v := some (.int (1 : Int32))) (σ' := (97, I, J, R)) rfl ?_
          show az_E az_F ex 2 128 56 [.retAddr 0, .retAddr 0, .int v2, .retAddr 0, .int v4, .int v5, .ref 61, .ref 69] [.int (1 : Int32)] (97, I, J, R) _
          refine az_E.br (c := (1 : Int32) = 0) (tt := 72) (ff := 59) (L' := [.retAddr 0, .retAddr 0, .int v2, .retAddr 0, .int v4, .int v5, .ref 61, .ref 69]) (S' := []) (σ' := (97, I, J, R)) rfl (fun hn => absurd hn (by decide)) (fun _ => ?_)
          refine az_E.sn 3 (pc' := 66) (L' := [.retAddr 0, .retAddr 0, .int v2, .retAddr 0, .int v4, .int v5, .ref 61, .ref 69]) (S' := [.int (I 61 1), .ref 69]) (σ' := (97, I, J, R)) rfl ?_
          refine az_E.call (d := 1) (k' := 56) (vs := [.ref 69, .int (I 61 1)]) (pc' := 69) (S' := []) rfl ?_ (fun _ _ hq => hq)
          show az_E az_F ex 1 56 0 [.ref 69, .int (I 61 1)] [] (97, I, J, R) _
          refine az_E.sn 1 (pc' := 1) (L' := [.ref 69, .int (I 61 1)]) (S' := [.ref 69]) (σ' := (97, I, J, R)) rfl ?_
          refine az_E.call (d := 0) (k' := 55) (vs := [.ref 69]) (pc' := 4) (S' := []) rfl ?_ (fun _ _ hq => hq)
          show az_E az_F ex 0 55 0 [.ref 69] [] (97, I, J, R) _
          refine az_E.sn 3 (pc' := 5) (L' := [.ref 69]) (S' := [.int (-1 : Int32), .int (I 69 1)]) (σ' := (97, I, J, R)) rfl ?_
          refine az_E.br (c := (I 69 1) = (-1 : Int32)) (tt := 12) (ff := 8) (L' := [.ref 69]) (S' := []) (σ' := (97, I, J, R)) rfl (fun hc_254 => ?_) (fun hc_254 => ?_)
          · rw [if_pos hc_254] at h
            refine az_E.sn 1 (pc' := 13) (L' := [.ref 69]) (S' := [.int (0 : Int32)]) (σ' := (97, I, J, R)) rfl ?_
            refine az_E.ret (v := some (.int (0 : Int32))) (σ' := (97, I, J, R)) rfl ?_
            show az_E az_F ex 1 56 4 [.ref 69, .int (I 61 1)] [.int (0 : Int32)] (97, I, J, R) _
            refine az_E.br (c := (0 : Int32) = 0) (tt := 19) (ff := 7) (L' := [.ref 69, .int (I 61 1)]) (S' := []) (σ' := (97, I, J, R)) rfl (fun _ => ?_) (fun hn => absurd (by decide) hn)
            refine az_E.sn 1 (pc' := 20) (L' := [.ref 69, .int (I 61 1)]) (S' := [.int (0 : Int32)]) (σ' := (97, I, J, R)) rfl ?_
            refine az_E.ret (v := some (.int (0 : Int32))) (σ' := (97, I, J, R)) rfl ?_
            show az_E az_F ex 2 128 69 [.retAddr 0, .retAddr 0, .int v2, .retAddr 0, .int v4, .int v5, .ref 61, .ref 69] [.int (0 : Int32)] (97, I, J, R) _
            refine az_E.br (c := (0 : Int32) = 0) (tt := 72) (ff := 75) (L' := [.retAddr 0, .retAddr 0, .int v2, .retAddr 0, .int v4, .int v5, .ref 61, .ref 69]) (S' := []) (σ' := (97, I, J, R)) rfl (fun _ => ?_) (fun hn => absurd (by decide) hn)
            refine az_E.sn 1 (pc' := 74) (L' := [.retAddr 0, .retAddr 0, .int v2, .retAddr 0, .int v4, .int v5, .ref 61, .ref 69]) (S' := [.int (-12 : Int32)]) (σ' := (97, I, J, R)) rfl ?_
            have h := Option.some.inj h
            subst h
            exact az_E.ret (v := some (.int (-12 : Int32))) (σ' := (97, I, J, R)) rfl hQ
          · rw [if_neg hc_254] at h
            refine az_E.sn 2 (pc' := 13) (L' := [.ref 69]) (S' := [.int (1 : Int32)]) (σ' := (97, I, J, R)) rfl ?_
            refine az_E.ret (v := some (.int (1 : Int32))) (σ' := (97, I, J, R)) rfl ?_
            show az_E az_F ex 1 56 4 [.ref 69, .int (I 61 1)] [.int (1 : Int32)] (97, I, J, R) _
            refine az_E.br (c := (1 : Int32) = 0) (tt := 19) (ff := 7) (L' := [.ref 69, .int (I 61 1)]) (S' := []) (σ' := (97, I, J, R)) rfl (fun hn => absurd hn (by decide)) (fun _ => ?_)
            refine az_E.sn 3 (pc' := 12) (L' := [.ref 69, .int (I 61 1)]) (S' := [.int (I 61 1), .int (I 69 1)]) (σ' := (97, I, J, R)) rfl ?_
            refine az_E.br (c := (I 69 1) = (I 61 1)) (tt := 15) (ff := 19) (L' := [.ref 69, .int (I 61 1)]) (S' := []) (σ' := (97, I, J, R)) rfl (fun hc_255 => ?_) (fun hc_255 => ?_)
            · rw [if_pos hc_255] at h
              refine az_E.sn 2 (pc' := 20) (L' := [.ref 69, .int (I 61 1)]) (S' := [.int (1 : Int32)]) (σ' := (97, I, J, R)) rfl ?_
              refine az_E.ret (v := some (.int (1 : Int32))) (σ' := (97, I, J, R)) rfl ?_
              show az_E az_F ex 2 128 69 [.retAddr 0, .retAddr 0, .int v2, .retAddr 0, .int v4, .int v5, .ref 61, .ref 69] [.int (1 : Int32)] (97, I, J, R) _
              refine az_E.br (c := (1 : Int32) = 0) (tt := 72) (ff := 75) (L' := [.retAddr 0, .retAddr 0, .int v2, .retAddr 0, .int v4, .int v5, .ref 61, .ref 69]) (S' := []) (σ' := (97, I, J, R)) rfl (fun hn => absurd hn (by decide)) (fun _ => ?_)
              refine az_E.sn 3 (pc' := 80) (L' := [.retAddr 0, .retAddr 0, .int v2, .retAddr 0, .int v4, .int v5, .ref 61, .ref 69]) (S' := [.int v5, .int v2, .ref 61]) (σ' := (97, I, J, R)) rfl ?_
              refine az_E.call (d := 1) (k' := 60) (vs := [.ref 61, .int v2, .int v5]) (pc' := 83) (S' := []) rfl ?_ (fun _ _ hq => hq)
              show az_E az_F ex 1 60 0 [.ref 61, .int v2, .int v5] [] (97, I, J, R) _
              refine az_E.sn 1 (pc' := 1) (L' := [.ref 61, .int v2, .int v5]) (S' := [.int v2]) (σ' := (97, I, J, R)) rfl ?_
              refine az_E.br (c := v2 < 0) (tt := 30) (ff := 4) (L' := [.ref 61, .int v2, .int v5]) (S' := []) (σ' := (97, I, J, R)) rfl (fun hc_256 => ?_) (fun hc_256 => ?_)
              · rw [if_pos hc_256] at h
                refine az_E.sn 1 (pc' := 31) (L' := [.ref 61, .int v2, .int v5]) (S' := [.int (0 : Int32)]) (σ' := (97, I, J, R)) rfl ?_
                refine az_E.ret (v := some (.int (0 : Int32))) (σ' := (97, I, J, R)) rfl ?_
                show az_E az_F ex 2 128 83 [.retAddr 0, .retAddr 0, .int v2, .retAddr 0, .int v4, .int v5, .ref 61, .ref 69] [.int (0 : Int32)] (97, I, J, R) _
                refine az_E.br (c := (0 : Int32) = 0) (tt := 98) (ff := 86) (L' := [.retAddr 0, .retAddr 0, .int v2, .retAddr 0, .int v4, .int v5, .ref 61, .ref 69]) (S' := []) (σ' := (97, I, J, R)) rfl (fun _ => ?_) (fun hn => absurd (by decide) hn)
                refine az_E.sn 1 (pc' := 100) (L' := [.retAddr 0, .retAddr 0, .int v2, .retAddr 0, .int v4, .int v5, .ref 61, .ref 69]) (S' := [.int (-13 : Int32)]) (σ' := (97, I, J, R)) rfl ?_
                have h := Option.some.inj h
                subst h
                exact az_E.ret (v := some (.int (-13 : Int32))) (σ' := (97, I, J, R)) rfl hQ
              · rw [if_neg hc_256] at h
                refine az_E.sn 1 (pc' := 5) (L' := [.ref 61, .int v2, .int v5]) (S' := [.int v5]) (σ' := (97, I, J, R)) rfl ?_
                refine az_E.br (c := v5 < 0) (tt := 30) (ff := 8) (L' := [.ref 61, .int v2, .int v5]) (S' := []) (σ' := (97, I, J, R)) rfl (fun hc_257 => ?_) (fun hc_257 => ?_)
                · rw [if_pos hc_257] at h
                  refine az_E.sn 1 (pc' := 31) (L' := [.ref 61, .int v2, .int v5]) (S' := [.int (0 : Int32)]) (σ' := (97, I, J, R)) rfl ?_
                  refine az_E.ret (v := some (.int (0 : Int32))) (σ' := (97, I, J, R)) rfl ?_
                  show az_E az_F ex 2 128 83 [.retAddr 0, .retAddr 0, .int v2, .retAddr 0, .int v4, .int v5, .ref 61, .ref 69] [.int (0 : Int32)] (97, I, J, R) _
                  refine az_E.br (c := (0 : Int32) = 0) (tt := 98) (ff := 86) (L' := [.retAddr 0, .retAddr 0, .int v2, .retAddr 0, .int v4, .int v5, .ref 61, .ref 69]) (S' := []) (σ' := (97, I, J, R)) rfl (fun _ => ?_) (fun hn => absurd (by decide) hn)
                  refine az_E.sn 1 (pc' := 100) (L' := [.retAddr 0, .retAddr 0, .int v2, .retAddr 0, .int v4, .int v5, .ref 61, .ref 69]) (S' := [.int (-13 : Int32)]) (σ' := (97, I, J, R)) rfl ?_
                  have h := Option.some.inj h
                  subst h
                  exact az_E.ret (v := some (.int (-13 : Int32))) (σ' := (97, I, J, R)) rfl hQ
                · rw [if_neg hc_257] at h
                  refine az_E.sn 3 (pc' := 13) (L' := [.ref 61, .int v2, .int v5]) (S' := [.int (I 61 2), .int v2]) (σ' := (97, I, J, R)) rfl ?_
                  refine az_E.br (c := (I 61 2) < v2) (tt := 30) (ff := 16) (L' := [.ref 61, .int v2, .int v5]) (S' := []) (σ' := (97, I, J, R)) rfl (fun hc_258 => ?_) (fun hc_258 => ?_)
                  · rw [if_pos hc_258] at h
                    refine az_E.sn 1 (pc' := 31) (L' := [.ref 61, .int v2, .int v5]) (S' := [.int (0 : Int32)]) (σ' := (97, I, J, R)) rfl ?_
                    refine az_E.ret (v := some (.int (0 : Int32))) (σ' := (97, I, J, R)) rfl ?_
                    show az_E az_F ex 2 128 83 [.retAddr 0, .retAddr 0, .int v2, .retAddr 0, .int v4, .int v5, .ref 61, .ref 69] [.int (0 : Int32)] (97, I, J, R) _
                    refine az_E.br (c := (0 : Int32) = 0) (tt := 98) (ff := 86) (L' := [.retAddr 0, .retAddr 0, .int v2, .retAddr 0, .int v4, .int v5, .ref 61, .ref 69]) (S' := []) (σ' := (97, I, J, R)) rfl (fun _ => ?_) (fun hn => absurd (by decide) hn)
                    refine az_E.sn 1 (pc' := 100) (L' := [.retAddr 0, .retAddr 0, .int v2, .retAddr 0, .int v4, .int v5, .ref 61, .ref 69]) (S' := [.int (-13 : Int32)]) (σ' := (97, I, J, R)) rfl ?_
                    have h := Option.some.inj h
                    subst h
                    exact az_E.ret (v := some (.int (-13 : Int32))) (σ' := (97, I, J, R)) rfl hQ
                  · rw [if_neg hc_258] at h
                    refine az_E.sn 5 (pc' := 23) (L' := [.ref 61, .int v2, .int v5]) (S' := [.int ((I 61 2) - v2), .int v5]) (σ' := (97, I, J, R)) rfl ?_
                    refine az_E.br (c := ((I 61 2) - v2) < v5) (tt := 30) (ff := 26) (L' := [.ref 61, .int v2, .int v5]) (S' := []) (σ' := (97, I, J, R)) rfl (fun hc_259 => ?_) (fun hc_259 => ?_)
                    · rw [if_pos hc_259] at h
                      refine az_E.sn 1 (pc' := 31) (L' := [.ref 61, .int v2, .int v5]) (S' := [.int (0 : Int32)]) (σ' := (97, I, J, R)) rfl ?_
                      refine az_E.ret (v := some (.int (0 : Int32))) (σ' := (97, I, J, R)) rfl ?_
                      show az_E az_F ex 2 128 83 [.retAddr 0, .retAddr 0, .int v2, .retAddr 0, .int v4, .int v5, .ref 61, .ref 69] [.int (0 : Int32)] (97, I, J, R) _
                      refine az_E.br (c := (0 : Int32) = 0) (tt := 98) (ff := 86) (L' := [.retAddr 0, .retAddr 0, .int v2, .retAddr 0, .int v4, .int v5, .ref 61, .ref 69]) (S' := []) (σ' := (97, I, J, R)) rfl (fun _ => ?_) (fun hn => absurd (by decide) hn)
                      refine az_E.sn 1 (pc' := 100) (L' := [.retAddr 0, .retAddr 0, .int v2, .retAddr 0, .int v4, .int v5, .ref 61, .ref 69]) (S' := [.int (-13 : Int32)]) (σ' := (97, I, J, R)) rfl ?_
                      have h := Option.some.inj h
                      subst h
                      exact az_E.ret (v := some (.int (-13 : Int32))) (σ' := (97, I, J, R)) rfl hQ
                    · rw [if_neg hc_259] at h
                      refine az_E.sn 2 (pc' := 31) (L' := [.ref 61, .int v2, .int v5]) (S' := [.int (1 : Int32)]) (σ' := (97, I, J, R)) rfl ?_
                      refine az_E.ret (v := some (.int (1 : Int32))) (σ' := (97, I, J, R)) rfl ?_
                      show az_E az_F ex 2 128 83 [.retAddr 0, .retAddr 0, .int v2, .retAddr 0, .int v4, .int v5, .ref 61, .ref 69] [.int (1 : Int32)] (97, I, J, R) _
                      refine az_E.br (c := (1 : Int32) = 0) (tt := 98) (ff := 86) (L' := [.retAddr 0, .retAddr 0, .int v2, .retAddr 0, .int v4, .int v5, .ref 61, .ref 69]) (S' := []) (σ' := (97, I, J, R)) rfl (fun hn => absurd hn (by decide)) (fun _ => ?_)
                      refine az_E.sn 3 (pc' := 92) (L' := [.retAddr 0, .retAddr 0, .int v2, .retAddr 0, .int v4, .int v5, .ref 61, .ref 69]) (S' := [.int v5, .int v4, .ref 69]) (σ' := (97, I, J, R)) rfl ?_
                      refine az_E.call (d := 1) (k' := 60) (vs := [.ref 69, .int v4, .int v5]) (pc' := 95) (S' := []) rfl ?_ (fun _ _ hq => hq)
                      show az_E az_F ex 1 60 0 [.ref 69, .int v4, .int v5] [] (97, I, J, R) _
                      refine az_E.sn 1 (pc' := 1) (L' := [.ref 69, .int v4, .int v5]) (S' := [.int v4]) (σ' := (97, I, J, R)) rfl ?_
                      refine az_E.br (c := v4 < 0) (tt := 30) (ff := 4) (L' := [.ref 69, .int v4, .int v5]) (S' := []) (σ' := (97, I, J, R)) rfl (fun hc_260 => ?_) (fun hc_260 => ?_)
                      · rw [if_pos hc_260] at h
                        refine az_E.sn 1 (pc' := 31) (L' := [.ref 69, .int v4, .int v5]) (S' := [.int (0 : Int32)]) (σ' := (97, I, J, R)) rfl ?_
                        refine az_E.ret (v := some (.int (0 : Int32))) (σ' := (97, I, J, R)) rfl ?_
                        show az_E az_F ex 2 128 95 [.retAddr 0, .retAddr 0, .int v2, .retAddr 0, .int v4, .int v5, .ref 61, .ref 69] [.int (0 : Int32)] (97, I, J, R) _
                        refine az_E.br (c := (0 : Int32) = 0) (tt := 98) (ff := 101) (L' := [.retAddr 0, .retAddr 0, .int v2, .retAddr 0, .int v4, .int v5, .ref 61, .ref 69]) (S' := []) (σ' := (97, I, J, R)) rfl (fun _ => ?_) (fun hn => absurd (by decide) hn)
                        refine az_E.sn 1 (pc' := 100) (L' := [.retAddr 0, .retAddr 0, .int v2, .retAddr 0, .int v4, .int v5, .ref 61, .ref 69]) (S' := [.int (-13 : Int32)]) (σ' := (97, I, J, R)) rfl ?_
                        have h := Option.some.inj h
                        subst h
                        exact az_E.ret (v := some (.int (-13 : Int32))) (σ' := (97, I, J, R)) rfl hQ
                      · rw [if_neg hc_260] at h
                        refine az_E.sn 1 (pc' := 5) (L' := [.ref 69, .int v4, .int v5]) (S' := [.int v5]) (σ' := (97, I, J, R)) rfl ?_
                        refine az_E.br (c := v5 < 0) (tt := 30) (ff := 8) (L' := [.ref 69, .int v4, .int v5]) (S' := []) (σ' := (97, I, J, R)) rfl (fun hc_261 => ?_) (fun hc_261 => ?_)
                        · rw [if_pos hc_261] at h
                          refine az_E.sn 1 (pc' := 31) (L' := [.ref 69, .int v4, .int v5]) (S' := [.int (0 : Int32)]) (σ' := (97, I, J, R)) rfl ?_
                          refine az_E.ret (v := some (.int (0 : Int32))) (σ' := (97, I, J, R)) rfl ?_
                          show az_E az_F ex 2 128 95 [.retAddr 0, .retAddr 0, .int v2, .retAddr 0, .int v4, .int v5, .ref 61, .ref 69] [.int (0 : Int32)] (97, I, J, R) _
                          refine az_E.br (c := (0 : Int32) = 0) (tt := 98) (ff := 101) (L' := [.retAddr 0, .retAddr 0, .int v2, .retAddr 0, .int v4, .int v5, .ref 61, .ref 69]) (S' := []) (σ' := (97, I, J, R)) rfl (fun _ => ?_) (fun hn => absurd (by decide) hn)
                          refine az_E.sn 1 (pc' := 100) (L' := [.retAddr 0, .retAddr 0, .int v2, .retAddr 0, .int v4, .int v5, .ref 61, .ref 69]) (S' := [.int (-13 : Int32)]) (σ' := (97, I, J, R)) rfl ?_
                          have h := Option.some.inj h
                          subst h
                          exact az_E.ret (v := some (.int (-13 : Int32))) (σ' := (97, I, J, R)) rfl hQ
                        · rw [if_neg hc_261] at h
                          refine az_E.sn 3 (pc' := 13) (L' := [.ref 69, .int v4, .int v5]) (S' := [.int (I 69 2), .int v4]) (σ' := (97, I, J, R)) rfl ?_
                          refine az_E.br (c := (I 69 2) < v4) (tt := 30) (ff := 16) (L' := [.ref 69, .int v4, .int v5]) (S' := []) (σ' := (97, I, J, R)) rfl (fun hc_262 => ?_) (fun hc_262 => ?_)
                          · rw [if_pos hc_262] at h
                            refine az_E.sn 1 (pc' := 31) (L' := [.ref 69, .int v4, .int v5]) (S' := [.int (0 : Int32)]) (σ' := (97, I, J, R)) rfl ?_
                            refine az_E.ret (v := some (.int (0 : Int32))) (σ' := (97, I, J, R)) rfl ?_
                            show az_E az_F ex 2 128 95 [.retAddr 0, .retAddr 0, .int v2, .retAddr 0, .int v4, .int v5, .ref 61, .ref 69] [.int (0 : Int32)] (97, I, J, R) _
                            refine az_E.br (c := (0 : Int32) = 0) (tt := 98) (ff := 101) (L' := [.retAddr 0, .retAddr 0, .int v2, .retAddr 0, .int v4, .int v5, .ref 61, .ref 69]) (S' := []) (σ' := (97, I, J, R)) rfl (fun _ => ?_) (fun hn => absurd (by decide) hn)
                            refine az_E.sn 1 (pc' := 100) (L' := [.retAddr 0, .retAddr 0, .int v2, .retAddr 0, .int v4, .int v5, .ref 61, .ref 69]) (S' := [.int (-13 : Int32)]) (σ' := (97, I, J, R)) rfl ?_
                            have h := Option.some.inj h
                            subst h
                            exact az_E.ret (v := some (.int (-13 : Int32))) (σ' := (97, I, J, R)) rfl hQ
                          · rw [if_neg hc_262] at h
                            refine az_E.sn 5 (pc' := 23) (L' := [.ref 69, .int v4, .int v5]) (S' := [.int ((I 69 2) - v4), .int v5]) (σ' := (97, I, J, R)) rfl ?_
                            refine az_E.br (c := ((I 69 2) - v4) < v5) (tt := 30) (ff := 26) (L' := [.ref 69, .int v4, .int v5]) (S' := []) (σ' := (97, I, J, R)) rfl (fun hc_263 => ?_) (fun hc_263 => ?_)
                            · rw [if_pos hc_263] at h
                              refine az_E.sn 1 (pc' := 31) (L' := [.ref 69, .int v4, .int v5]) (S' := [.int (0 : Int32)]) (σ' := (97, I, J, R)) rfl ?_
                              refine az_E.ret (v := some (.int (0 : Int32))) (σ' := (97, I, J, R)) rfl ?_
                              show az_E az_F ex 2 128 95 [.retAddr 0, .retAddr 0, .int v2, .retAddr 0, .int v4, .int v5, .ref 61, .ref 69] [.int (0 : Int32)] (97, I, J, R) _
                              refine az_E.br (c := (0 : Int32) = 0) (tt := 98) (ff := 101) (L' := [.retAddr 0, .retAddr 0, .int v2, .retAddr 0, .int v4, .int v5, .ref 61, .ref 69]) (S' := []) (σ' := (97, I, J, R)) rfl (fun _ => ?_) (fun hn => absurd (by decide) hn)
                              refine az_E.sn 1 (pc' := 100) (L' := [.retAddr 0, .retAddr 0, .int v2, .retAddr 0, .int v4, .int v5, .ref 61, .ref 69]) (S' := [.int (-13 : Int32)]) (σ' := (97, I, J, R)) rfl ?_
                              have h := Option.some.inj h
                              subst h
                              exact az_E.ret (v := some (.int (-13 : Int32))) (σ' := (97, I, J, R)) rfl hQ
                            · rw [if_neg hc_263] at h
                              refine az_E.sn 2 (pc' := 31) (L' := [.ref 69, .int v4, .int v5]) (S' := [.int (1 : Int32)]) (σ' := (97, I, J, R)) rfl ?_
                              refine az_E.ret (v := some (.int (1 : Int32))) (σ' := (97, I, J, R)) rfl ?_
                              show az_E az_F ex 2 128 95 [.retAddr 0, .retAddr 0, .int v2, .retAddr 0, .int v4, .int v5, .ref 61, .ref 69] [.int (1 : Int32)] (97, I, J, R) _
                              refine az_E.br (c := (1 : Int32) = 0) (tt := 98) (ff := 101) (L' := [.retAddr 0, .retAddr 0, .int v2, .retAddr 0, .int v4, .int v5, .ref 61, .ref 69]) (S' := []) (σ' := (97, I, J, R)) rfl (fun hn => absurd hn (by decide)) (fun _ => ?_)
                              refine az_E.sn 7 (pc' := 116) (L' := [.retAddr 0, .retAddr 0, .int v2, .retAddr 0, .int v4, .int v5, .ref 61, .ref 69]) (S' := [.int v5, .int v4, .ref (69 + 1), .int v2, .ref (61 + 1)]) (σ' := (97, I, J, R)) rfl ?_
                              by_cases hc_264 : v2 < 0 ∨ v4 < 0 ∨ v5 < 0 ∨ 60 < v2.toNatClampNeg + v5.toNatClampNeg ∨ 60 < v4.toNatClampNeg + v5.toNatClampNeg
                              · rw [if_pos hc_264] at h; cases h
                              · rw [if_neg hc_264] at h
                                refine az_E.o (o := az_cp az_F (97, I, J, R) (61 + 1) v2 (69 + 1) v4 v5) (pc' := 119) (L' := [.retAddr 0, .retAddr 0, .int v2, .retAddr 0, .int v4, .int v5, .ref 61, .ref 69]) (S' := []) (x := (97, I, (az_ur J (69 + 1) (va_cpy (J (61 + 1)) (J (69 + 1)) v2.toNatClampNeg v4.toNatClampNeg v5.toNatClampNeg)), R)) rfl (if_neg hc_264) ?_
                                refine az_E.sn 1 (pc' := 121) (L' := [.retAddr 0, .retAddr 0, .int v2, .retAddr 0, .int v4, .int v5, .ref 61, .ref 69]) (S' := [.int v5]) (σ' := (97, I, (az_ur J (69 + 1) (va_cpy (J (61 + 1)) (J (69 + 1)) v2.toNatClampNeg v4.toNatClampNeg v5.toNatClampNeg)), R)) rfl ?_
                                have h := Option.some.inj h
                                subst h
                                exact az_E.ret (v := some (.int v5)) (σ' := (97, I, (az_ur J (69 + 1) (va_cpy (J (61 + 1)) (J (69 + 1)) v2.toNatClampNeg v4.toNatClampNeg v5.toNatClampNeg)), R)) rfl hQ
            · rw [if_neg hc_255] at h
              refine az_E.sn 1 (pc' := 20) (L' := [.ref 69, .int (I 61 1)]) (S' := [.int (0 : Int32)]) (σ' := (97, I, J, R)) rfl ?_
              refine az_E.ret (v := some (.int (0 : Int32))) (σ' := (97, I, J, R)) rfl ?_
              show az_E az_F ex 2 128 69 [.retAddr 0, .retAddr 0, .int v2, .retAddr 0, .int v4, .int v5, .ref 61, .ref 69] [.int (0 : Int32)] (97, I, J, R) _
              refine az_E.br (c := (0 : Int32) = 0) (tt := 72) (ff := 75) (L' := [.retAddr 0, .retAddr 0, .int v2, .retAddr 0, .int v4, .int v5, .ref 61, .ref 69]) (S' := []) (σ' := (97, I, J, R)) rfl (fun _ => ?_) (fun hn => absurd (by decide) hn)
              refine az_E.sn 1 (pc' := 74) (L' := [.retAddr 0, .retAddr 0, .int v2, .retAddr 0, .int v4, .int v5, .ref 61, .ref 69]) (S' := [.int (-12 : Int32)]) (σ' := (97, I, J, R)) rfl ?_
              have h := Option.some.inj h
              subst h
              exact az_E.ret (v := some (.int (-12 : Int32))) (σ' := (97, I, J, R)) rfl hQ
    · rw [if_neg hc_251] at h
      refine az_E.sn 1 (pc' := 21) (L' := [.ref 69]) (S' := [.int (0 : Int32)]) (σ' := (97, I, J, R)) rfl ?_
      refine az_E.ret (v := some (.int (0 : Int32))) (σ' := (97, I, J, R)) rfl ?_
      show az_E az_F ex 2 128 45 [.retAddr 0, .retAddr 0, .int v2, .retAddr 0, .int v4, .int v5, .ref 61, .ref 69] [.int (0 : Int32)] (97, I, J, R) _
      refine az_E.br (c := (0 : Int32) = 0) (tt := 51) (ff := 48) (L' := [.retAddr 0, .retAddr 0, .int v2, .retAddr 0, .int v4, .int v5, .ref 61, .ref 69]) (S' := []) (σ' := (97, I, J, R)) rfl (fun _ => ?_) (fun hn => absurd (by decide) hn)
      refine az_E.sn 1 (pc' := 53) (L' := [.retAddr 0, .retAddr 0, .int v2, .retAddr 0, .int v4, .int v5, .ref 61, .ref 69]) (S' := [.ref 61]) (σ' := (97, I, J, R)) rfl ?_
      refine az_E.call (d := 1) (k' := 55) (vs := [.ref 61]) (pc' := 56) (S' := []) rfl ?_ (fun _ _ hq => hq)
      show az_E az_F ex 1 55 0 [.ref 61] [] (97, I, J, R) _
      refine az_E.sn 3 (pc' := 5) (L' := [.ref 61]) (S' := [.int (-1 : Int32), .int (I 61 1)]) (σ' := (97, I, J, R)) rfl ?_
      refine az_E.br (c := (I 61 1) = (-1 : Int32)) (tt := 12) (ff := 8) (L' := [.ref 61]) (S' := []) (σ' := (97, I, J, R)) rfl (fun hc_265 => ?_) (fun hc_265 => ?_)
      · rw [if_pos hc_265] at h
        refine az_E.sn 1 (pc' := 13) (L' := [.ref 61]) (S' := [.int (0 : Int32)]) (σ' := (97, I, J, R)) rfl ?_
        refine az_E.ret (v := some (.int (0 : Int32))) (σ' := (97, I, J, R)) rfl ?_
        show az_E az_F ex 2 128 56 [.retAddr 0, .retAddr 0, .int v2, .retAddr 0, .int v4, .int v5, .ref 61, .ref 69] [.int (0 : Int32)] (97, I, J, R) _
        refine az_E.br (c := (0 : Int32) = 0) (tt := 72) (ff := 59) (L' := [.retAddr 0, .retAddr 0, .int v2, .retAddr 0, .int v4, .int v5, .ref 61, .ref 69]) (S' := []) (σ' := (97, I, J, R)) rfl (fun _ => ?_) (fun hn => absurd (by decide) hn)
        refine az_E.sn 1 (pc' := 74) (L' := [.retAddr 0, .retAddr 0, .int v2, .retAddr 0, .int v4, .int v5, .ref 61, .ref 69]) (S' := [.int (-12 : Int32)]) (σ' := (97, I, J, R)) rfl ?_
        have h := Option.some.inj h
        subst h
        exact az_E.ret (v := some (.int (-12 : Int32))) (σ' := (97, I, J, R)) rfl hQ
      · rw [if_neg hc_265] at h
        refine az_E.sn 2 (pc' := 13) (L' := [.ref 61]) (S' := [.int (1 : Int32)]) (σ' := (97, I, J, R)) rfl ?_
        refine az_E.ret (v := some (.int (1 : Int32))) (σ' := (97, I, J, R)) rfl ?_
        show az_E az_F ex 2 128 56 [.retAddr 0, .retAddr 0, .int v2, .retAddr 0, .int v4, .int v5, .ref 61, .ref 69] [.int (1 : Int32)] (97, I, J, R) _
        refine az_E.br (c := (1 : Int32) = 0) (tt := 72) (ff := 59) (L' := [.retAddr 0, .retAddr 0, .int v2, .retAddr 0, .int v4, .int v5, .ref 61, .ref 69]) (S' := []) (σ' := (97, I, J, R)) rfl (fun hn => absurd hn (by decide)) (fun _ => ?_)
        refine az_E.sn 3 (pc' := 66) (L' := [.retAddr 0, .retAddr 0, .int v2, .retAddr 0, .int v4, .int v5, .ref 61, .ref 69]) (S' := [.int (I 61 1), .ref 69]) (σ' := (97, I, J, R)) rfl ?_
        refine az_E.call (d := 1) (k' := 56) (vs := [.ref 69, .int (I 61 1)]) (pc' := 69) (S' := []) rfl ?_ (fun _ _ hq => hq)
        show az_E az_F ex 1 56 0 [.ref 69, .int (I 61 1)] [] (97, I, J, R) _
        refine az_E.sn 1 (pc' := 1) (L' := [.ref 69, .int (I 61 1)]) (S' := [.ref 69]) (σ' := (97, I, J, R)) rfl ?_
        refine az_E.call (d := 0) (k' := 55) (vs := [.ref 69]) (pc' := 4) (S' := []) rfl ?_ (fun _ _ hq => hq)
        show az_E az_F ex 0 55 0 [.ref 69] [] (97, I, J, R) _
        refine az_E.sn 3 (pc' := 5) (L' := [.ref 69]) (S' := [.int (-1 : Int32), .int (I 69 1)]) (σ' := (97, I, J, R)) rfl ?_
        refine az_E.br (c := (I 69 1) = (-1 : Int32)) (tt := 12) (ff := 8) (L' := [.ref 69]) (S' := []) (σ' := (97, I, J, R)) rfl (fun hc_266 => ?_) (fun hc_266 => ?_)
        · rw [if_pos hc_266] at h
          refine az_E.sn 1 (pc' := 13) (L' := [.ref 69]) (S' := [.int (0 : Int32)]) (σ' := (97, I, J, R)) rfl ?_
          refine az_E.ret (v := some (.int (0 : Int32))) (σ' := (97, I, J, R)) rfl ?_
          show az_E az_F ex 1 56 4 [.ref 69, .int (I 61 1)] [.int (0 : Int32)] (97, I, J, R) _
          refine az_E.br (c := (0 : Int32) = 0) (tt := 19) (ff := 7) (L' := [.ref 69, .int (I 61 1)]) (S' := []) (σ' := (97, I, J, R)) rfl (fun _ => ?_) (fun hn => absurd (by decide) hn)
          refine az_E.sn 1 (pc' := 20) (L' := [.ref 69, .int (I 61 1)]) (S' := [.int (0 : Int32)]) (σ' := (97, I, J, R)) rfl ?_
          refine az_E.ret (v := some (.int (0 : Int32))) (σ' := (97, I, J, R)) rfl ?_
          show az_E az_F ex 2 128 69 [.retAddr 0, .retAddr 0, .int v2, .retAddr 0, .int v4, .int v5, .ref 61, .ref 69] [.int (0 : Int32)] (97, I, J, R) _
          refine az_E.br (c := (0 : Int32) = 0) (tt := 72) (ff := 75) (L' := [.retAddr 0, .retAddr 0, .int v2, .retAddr 0, .int v4, .int v5, .ref 61, .ref 69]) (S' := []) (σ' := (97, I, J, R)) rfl (fun _ => ?_) (fun hn => absurd (by decide) hn)
          refine az_E.sn 1 (pc' := 74) (L' := [.retAddr 0, .retAddr 0, .int v2, .retAddr 0, .int v4, .int v5, .ref 61, .ref 69]) (S' := [.int (-12 : Int32)]) (σ' := (97, I, J, R)) rfl ?_
          have h := Option.some.inj h
          subst h
          exact az_E.ret (v := some (.int (-12 : Int32))) (σ' := (97, I, J, R)) rfl hQ
        · rw [if_neg hc_266] at h
          refine az_E.sn 2 (pc' := 13) (L' := [.ref 69]) (S' := [.int (1 : Int32)]) (σ' := (97, I, J, R)) rfl ?_
          refine az_E.ret (v := some (.int (1 : Int32))) (σ' := (97, I, J, R)) rfl ?_
          show az_E az_F ex 1 56 4 [.ref 69, .int (I 61 1)] [.int (1 : Int32)] (97, I, J, R) _
          refine az_E.br (c := (1 : Int32) = 0) (tt := 19) (ff := 7) (L' := [.ref 69, .int (I 61 1)]) (S' := []) (σ' := (97, I, J, R)) rfl (fun hn => absurd hn (by decide)) (fun _ => ?_)
          refine az_E.sn 3 (pc' := 12) (L' := [.ref 69, .int (I 61 1)]) (S' := [.int (I 61 1), .int (I 69 1)]) (σ' := (97, I, J, R)) rfl ?_
          refine az_E.br (c := (I 69 1) = (I 61 1)) (tt := 15) (ff := 19) (L' := [.ref 69, .int (I 61 1)]) (S' := []) (σ' := (97, I, J, R)) rfl (fun hc_267 => ?_) (fun hc_267 => ?_)
          · rw [if_pos hc_267] at h
            refine az_E.sn 2 (pc' := 20) (L' := [.ref 69, .int (I 61 1)]) (S' := [.int (1 : Int32)]) (σ' := (97, I, J, R)) rfl ?_
            refine az_E.ret (v := some (.int (1 : Int32))) (σ' := (97, I, J, R)) rfl ?_
            show az_E az_F ex 2 128 69 [.retAddr 0, .retAddr 0, .int v2, .retAddr 0, .int v4, .int v5, .ref 61, .ref 69] [.int (1 : Int32)] (97, I, J, R) _
            refine az_E.br (c := (1 : Int32) = 0) (tt := 72) (ff := 75) (L' := [.retAddr 0, .retAddr 0, .int v2, .retAddr 0, .int v4, .int v5, .ref 61, .ref 69]) (S' := []) (σ' := (97, I, J, R)) rfl (fun hn => absurd hn (by decide)) (fun _ => ?_)
            refine az_E.sn 3 (pc' := 80) (L' := [.retAddr 0, .retAddr 0, .int v2, .retAddr 0, .int v4, .int v5, .ref 61, .ref 69]) (S' := [.int v5, .int v2, .ref 61]) (σ' := (97, I, J, R)) rfl ?_
            refine az_E.call (d := 1) (k' := 60) (vs := [.ref 61, .int v2, .int v5]) (pc' := 83) (S' := []) rfl ?_ (fun _ _ hq => hq)
            show az_E az_F ex 1 60 0 [.ref 61, .int v2, .int v5] [] (97, I, J, R) _
            refine az_E.sn 1 (pc' := 1) (L' := [.ref 61, .int v2, .int v5]) (S' := [.int v2]) (σ' := (97, I, J, R)) rfl ?_
            refine az_E.br (c := v2 < 0) (tt := 30) (ff := 4) (L' := [.ref 61, .int v2, .int v5]) (S' := []) (σ' := (97, I, J, R)) rfl (fun hc_268 => ?_) (fun hc_268 => ?_)
            · rw [if_pos hc_268] at h
              refine az_E.sn 1 (pc' := 31) (L' := [.ref 61, .int v2, .int v5]) (S' := [.int (0 : Int32)]) (σ' := (97, I, J, R)) rfl ?_
              refine az_E.ret (v := some (.int (0 : Int32))) (σ' := (97, I, J, R)) rfl ?_
              show az_E az_F ex 2 128 83 [.retAddr 0, .retAddr 0, .int v2, .retAddr 0, .int v4, .int v5, .ref 61, .ref 69] [.int (0 : Int32)] (97, I, J, R) _
              refine az_E.br (c := (0 : Int32) = 0) (tt := 98) (ff := 86) (L' := [.retAddr 0, .retAddr 0, .int v2, .retAddr 0, .int v4, .int v5, .ref 61, .ref 69]) (S' := []) (σ' := (97, I, J, R)) rfl (fun _ => ?_) (fun hn => absurd (by decide) hn)
              refine az_E.sn 1 (pc' := 100) (L' := [.retAddr 0, .retAddr 0, .int v2, .retAddr 0, .int v4, .int v5, .ref 61, .ref 69]) (S' := [.int (-13 : Int32)]) (σ' := (97, I, J, R)) rfl ?_
              have h := Option.some.inj h
              subst h
              exact az_E.ret (v := some (.int (-13 : Int32))) (σ' := (97, I, J, R)) rfl hQ
            · rw [if_neg hc_268] at h
              refine az_E.sn 1 (pc' := 5) (L' := [.ref 61, .int v2, .int v5]) (S' := [.int v5]) (σ' := (97, I, J, R)) rfl ?_
              refine az_E.br (c := v5 < 0) (tt := 30) (ff := 8) (L' := [.ref 61, .int v2, .int v5]) (S' := []) (σ' := (97, I, J, R)) rfl (fun hc_269 => ?_) (fun hc_269 => ?_)
              · rw [if_pos hc_269] at h
                refine az_E.sn 1 (pc' := 31) (L' := [.ref 61, .int v2, .int v5]) (S' := [.int (0 : Int32)]) (σ' := (97, I, J, R)) rfl ?_
                refine az_E.ret (v := some (.int (0 : Int32))) (σ' := (97, I, J, R)) rfl ?_
                show az_E az_F ex 2 128 83 [.retAddr 0, .retAddr 0, .int v2, .retAddr 0, .int v4, .int v5, .ref 61, .ref 69] [.int (0 : Int32)] (97, I, J, R) _
                refine az_E.br (c := (0 : Int32) = 0) (tt := 98) (ff := 86) (L' := [.retAddr 0, .retAddr 0, .int v2, .retAddr 0, .int v4, .int v5, .ref 61, .ref 69]) (S' := []) (σ' := (97, I, J, R)) rfl (fun _ => ?_) (fun hn => absurd (by decide) hn)
                refine az_E.sn 1 (pc' := 100) (L' := [.retAddr 0, .retAddr 0, .int v2, .retAddr 0, .int v4, .int v5, .ref 61, .ref 69]) (S' := [.int (-13 : Int32)]) (σ' := (97, I, J, R)) rfl ?_
                have h := Option.some.inj h
                subst h
                exact az_E.ret (v := some (.int (-13 : Int32))) (σ' := (97, I, J, R)) rfl hQ
              · rw [if_neg hc_269] at h
                refine az_E.sn 3 (pc' := 13) (L' := [.ref 61, .int v2, .int v5]) (S' := [.int (I 61 2), .int v2]) (σ' := (97, I, J, R)) rfl ?_
                refine az_E.br (c := (I 61 2) < v2) (tt := 30) (ff := 16) (L' := [.ref 61, .int v2, .int v5]) (S' := []) (σ' := (97, I, J, R)) rfl (fun hc_270 => ?_) (fun hc_270 => ?_)
                · rw [if_pos hc_270] at h
                  refine az_E.sn 1 (pc' := 31) (L' := [.ref 61, .int v2, .int v5]) (S' := [.int (0 : Int32)]) (σ' := (97, I, J, R)) rfl ?_
                  refine az_E.ret (v := some (.int (0 : Int32))) (σ' := (97, I, J, R)) rfl ?_
                  show az_E az_F ex 2 128 83 [.retAddr 0, .retAddr 0, .int v2, .retAddr 0, .int v4, .int v5, .ref 61, .ref 69] [.int (0 : Int32)] (97, I, J, R) _
                  refine az_E.br (c := (0 : Int32) = 0) (tt := 98) (ff := 86) (L' := [.retAddr 0, .retAddr 0, .int v2, .retAddr 0, .int v4, .int v5, .ref 61, .ref 69]) (S' := []) (σ' := (97, I, J, R)) rfl (fun _ => ?_) (fun hn => absurd (by decide) hn)
                  refine az_E.sn 1 (pc' := 100) (L' := [.retAddr 0, .retAddr 0, .int v2, .retAddr 0, .int v4, .int v5, .ref 61, .ref 69]) (S' := [.int (-13 : Int32)]) (σ' := (97, I, J, R)) rfl ?_
                  have h := Option.some.inj h
                  subst h
                  exact az_E.ret (v := some (.int (-13 : Int32))) (σ' := (97, I, J, R)) rfl hQ
                · rw [if_neg hc_270] at h
                  refine az_E.sn 5 (pc' := 23) (L' := [.ref 61, .int v2, .int v5]) (S' := [.int ((I 61 2) - v2), .int v5]) (σ' := (97, I, J, R)) rfl ?_
                  refine az_E.br (c := ((I 61 2) - v2) < v5) (tt := 30) (ff := 26) (L' := [.ref 61, .int v2, .int v5]) (S' := []) (σ' := (97, I, J, R)) rfl (fun hc_271 => ?_) (fun hc_271 => ?_)
                  · rw [if_pos hc_271] at h
                    refine az_E.sn 1 (pc' := 31) (L' := [.ref 61, .int v2, .int v5]) (S' := [.int (0 : Int32)]) (σ' := (97, I, J, R)) rfl ?_
                    refine az_E.ret (v := some (.int (0 : Int32))) (σ' := (97, I, J, R)) rfl ?_
                    show az_E az_F ex 2 128 83 [.retAddr 0, .retAddr 0, .int v2, .retAddr 0, .int v4, .int v5, .ref 61, .ref 69] [.int (0 : Int32)] (97, I, J, R) _
                    refine az_E.br (c := (0 : Int32) = 0) (tt := 98) (ff := 86) (L' := [.retAddr 0, .retAddr 0, .int v2, .retAddr 0, .int v4, .int v5, .ref 61, .ref 69]) (S' := []) (σ' := (97, I, J, R)) rfl (fun _ => ?_) (fun hn => absurd (by decide) hn)
                    refine az_E.sn 1 (pc' := 100) (L' := [.retAddr 0, .retAddr 0, .int v2, .retAddr 0, .int v4, .int v5, .ref 61, .ref 69]) (S' := [.int (-13 : Int32)]) (σ' := (97, I, J, R)) rfl ?_
                    have h := Option.some.inj h
                    subst h
                    exact az_E.ret (v := some (.int (-13 : Int32))) (σ' := (97, I, J, R)) rfl hQ
                  · rw [if_neg hc_271] at h
                    refine az_E.sn 2 (pc' := 31) (L' := [.ref 61, .int v2, .int v5]) (S' := [.int (1 : Int32)]) (σ' := (97, I, J, R)) rfl ?_
                    refine az_E.ret (v := some (.int (1 : Int32))) (σ' := (97, I, J, R)) rfl ?_
                    show az_E az_F ex 2 128 83 [.retAddr 0, .retAddr 0, .int v2, .retAddr 0, .int v4, .int v5, .ref 61, .ref 69] [.int (1 : Int32)] (97, I, J, R) _
                    refine az_E.br (c := (1 : Int32) = 0) (tt := 98) (ff := 86) (L' := [.retAddr 0, .retAddr 0, .int v2, .retAddr 0, .int v4, .int v5, .ref 61, .ref 69]) (S' := []) (σ' := (97, I, J, R)) rfl (fun hn => absurd hn (by decide)) (fun _ => ?_)
                    refine az_E.sn 3 (pc' := 92) (L' := [.retAddr 0, .retAddr 0, .int v2, .retAddr 0, .int v4, .int v5, .ref 61, .ref 69]) (S' := [.int v5, .int v4, .ref 69]) (σ' := (97, I, J, R)) rfl ?_
                    refine az_E.call (d := 1) (k' := 60) (vs := [.ref 69, .int v4, .int v5]) (pc' := 95) (S' := []) rfl ?_ (fun _ _ hq => hq)
                    show az_E az_F ex 1 60 0 [.ref 69, .int v4, .int v5] [] (97, I, J, R) _
                    refine az_E.sn 1 (pc' := 1) (L' := [.ref 69, .int v4, .int v5]) (S' := [.int v4]) (σ' := (97, I, J, R)) rfl ?_
                    refine az_E.br (c := v4 < 0) (tt := 30) (ff := 4) (L' := [.ref 69, .int v4, .int v5]) (S' := []) (σ' := (97, I, J, R)) rfl (fun hc_272 => ?_) (fun hc_272 => ?_)
                    · rw [if_pos hc_272] at h
                      refine az_E.sn 1 (pc' := 31) (L' := [.ref 69, .int v4, .int v5]) (S' := [.int (0 : Int32)]) (σ' := (97, I, J, R)) rfl ?_
                      refine az_E.ret (v := some (.int (0 : Int32))) (σ' := (97, I, J, R)) rfl ?_
                      show az_E az_F ex 2 128 95 [.retAddr 0, .retAddr 0, .int v2, .retAddr 0, .int v4, .int v5, .ref 61, .ref 69] [.int (0 : Int32)] (97, I, J, R) _
                      refine az_E.br (c := (0 : Int32) = 0) (tt := 98) (ff := 101) (L' := [.retAddr 0, .retAddr 0, .int v2, .retAddr 0, .int v4, .int v5, .ref 61, .ref 69]) (S' := []) (σ' := (97, I, J, R)) rfl (fun _ => ?_) (fun hn => absurd (by decide) hn)
                      refine az_E.sn 1 (pc' := 100) (L' := [.retAddr 0, .retAddr 0, .int v2, .retAddr 0, .int v4, .int v5, .ref 61, .ref 69]) (S' := [.int (-13 : Int32)]) (σ' := (97, I, J, R)) rfl ?_
                      have h := Option.some.inj h
                      subst h
                      exact az_E.ret (v := some (.int (-13 : Int32))) (σ' := (97, I, J, R)) rfl hQ
                    · rw [if_neg hc_272] at h
                      refine az_E.sn 1 (pc' := 5) (L' := [.ref 69, .int v4, .int v5]) (S' := [.int v5]) (σ' := (97, I, J, R)) rfl ?_
                      refine az_E.br (c := v5 < 0) (tt := 30) (ff := 8) (L' := [.ref 69, .int v4, .int v5]) (S' := []) (σ' := (97, I, J, R)) rfl (fun hc_273 => ?_) (fun hc_273 => ?_)
                      · rw [if_pos hc_273] at h
                        refine az_E.sn 1 (pc' := 31) (L' := [.ref 69, .int v4, .int v5]) (S' := [.int (0 : Int32)]) (σ' := (97, I, J, R)) rfl ?_
                        refine az_E.ret (v := some (.int (0 : Int32))) (σ' := (97, I, J, R)) rfl ?_
                        show az_E az_F ex 2 128 95 [.retAddr 0, .retAddr 0, .int v2, .retAddr 0, .int v4, .int v5, .ref 61, .ref 69] [.int (0 : Int32)] (97, I, J, R) _
                        refine az_E.br (c := (0 : Int32) = 0) (tt := 98) (ff := 101) (L' := [.retAddr 0, .retAddr 0, .int v2, .retAddr 0, .int v4, .int v5, .ref 61, .ref 69]) (S' := []) (σ' := (97, I, J, R)) rfl (fun _ => ?_) (fun hn => absurd (by decide) hn)
                        refine az_E.sn 1 (pc' := 100) (L' := [.retAddr 0, .retAddr 0, .int v2, .retAddr 0, .int v4, .int v5, .ref 61, .ref 69]) (S' := [.int (-13 : Int32)]) (σ' := (97, I, J, R)) rfl ?_
                        have h := Option.some.inj h
                        subst h
                        exact az_E.ret (v := some (.int (-13 : Int32))) (σ' := (97, I, J, R)) rfl hQ
                      · rw [if_neg hc_273] at h
                        refine az_E.sn 3 (pc' := 13) (L' := [.ref 69, .int v4, .int v5]) (S' := [.int (I 69 2), .int v4]) (σ' := (97, I, J, R)) rfl ?_
                        refine az_E.br (c := (I 69 2) < v4) (tt := 30) (ff := 16) (L' := [.ref 69, .int v4, .int v5]) (S' := []) (σ' := (97, I, J, R)) rfl (fun hc_274 => ?_) (fun hc_274 => ?_)
                        · rw [if_pos hc_274] at h
                          refine az_E.sn 1 (pc' := 31) (L' := [.ref 69, .int v4, .int v5]) (S' := [.int (0 : Int32)]) (σ' := (97, I, J, R)) rfl ?_
                          refine az_E.ret (v := some (.int (0 : Int32))) (σ' := (97, I, J, R)) rfl ?_
                          show az_E az_F ex 2 128 95 [.retAddr 0, .retAddr 0, .int v2, .retAddr 0, .int v4, .int v5, .ref 61, .ref 69] [.int (0 : Int32)] (97, I, J, R) _
                          refine az_E.br (c := (0 : Int32) = 0) (tt := 98) (ff := 101) (L' := [.retAddr 0, .retAddr 0, .int v2, .retAddr 0, .int v4, .int v5, .ref 61, .ref 69]) (S' := []) (σ' := (97, I, J, R)) rfl (fun _ => ?_) (fun hn => absurd (by decide) hn)
                          refine az_E.sn 1 (pc' := 100) (L' := [.retAddr 0, .retAddr 0, .int v2, .retAddr 0, .int v4, .int v5, .ref 61, .ref 69]) (S' := [.int (-13 : Int32)]) (σ' := (97, I, J, R)) rfl ?_
                          have h := Option.some.inj h
                          subst h
                          exact az_E.ret (v := some (.int (-13 : Int32))) (σ' := (97, I, J, R)) rfl hQ
                        · rw [if_neg hc_274] at h
                          refine az_E.sn 5 (pc' := 23) (L' := [.ref 69, .int v4, .int v5]) (S' := [.int ((I 69 2) - v4), .int v5]) (σ' := (97, I, J, R)) rfl ?_
                          refine az_E.br (c := ((I 69 2) - v4) < v5) (tt := 30) (ff := 26) (L' := [.ref 69, .int v4, .int v5]) (S' := []) (σ' := (97, I, J, R)) rfl (fun hc_275 => ?_) (fun hc_275 => ?_)
                          · rw [if_pos hc_275] at h
                            refine az_E.sn 1 (pc' := 31) (L' := [.ref 69, .int v4, .int v5]) (S' := [.int (0 : Int32)]) (σ' := (97, I, J, R)) rfl ?_
                            refine az_E.ret (v := some (.int (0 : Int32))) (σ' := (97, I, J, R)) rfl ?_
                            show az_E az_F ex 2 128 95 [.retAddr 0, .retAddr 0, .int v2, .retAddr 0, .int v4, .int v5, .ref 61, .ref 69] [.int (0 : Int32)] (97, I, J, R) _
                            refine az_E.br (c := (0 : Int32) = 0) (tt := 98) (ff := 101) (L' := [.retAddr 0, .retAddr 0, .int v2, .retAddr 0, .int v4, .int v5, .ref 61, .ref 69]) (S' := []) (σ' := (97, I, J, R)) rfl (fun _ => ?_) (fun hn => absurd (by decide) hn)
                            refine az_E.sn 1 (pc' := 100) (L' := [.retAddr 0, .retAddr 0, .int v2, .retAddr 0, .int v4, .int v5, .ref 61, .ref 69]) (S' := [.int (-13 : Int32)]) (σ' := (97, I, J, R)) rfl ?_
                            have h := Option.some.inj h
                            subst h
                            exact az_E.ret (v := some (.int (-13 : Int32))) (σ' := (97, I, J, R)) rfl hQ
                          · rw [if_neg hc_275] at h
                            refine az_E.sn 2 (pc' := 31) (L' := [.ref 69, .int v4, .int v5]) (S' := [.int (1 : Int32)]) (σ' := (97, I, J, R)) rfl ?_
                            refine az_E.ret (v := some (.int (1 : Int32))) (σ' := (97, I, J, R)) rfl ?_
                            show az_E az_F ex 2 128 95 [.retAddr 0, .retAddr 0, .int v2, .retAddr 0, .int v4, .int v5, .ref 61, .ref 69] [.int (1 : Int32)] (97, I, J, R) _
                            refine az_E.br (c := (1 : Int32) = 0) (tt := 98) (ff := 101) (L' := [.retAddr 0, .retAddr 0, .int v2, .retAddr 0, .int v4, .int v5, .ref 61, .ref 69]) (S' := []) (σ' := (97, I, J, R)) rfl (fun hn => absurd hn (by decide)) (fun _ => ?_)
                            refine az_E.sn 7 (pc' := 116) (L' := [.retAddr 0, .retAddr 0, .int v2, .retAddr 0, .int v4, .int v5, .ref 61, .ref 69]) (S' := [.int v5, .int v4, .ref (69 + 1), .int v2, .ref (61 + 1)]) (σ' := (97, I, J, R)) rfl ?_
                            by_cases hc_276 : v2 < 0 ∨ v4 < 0 ∨ v5 < 0 ∨ 60 < v2.toNatClampNeg + v5.toNatClampNeg ∨ 60 < v4.toNatClampNeg + v5.toNatClampNeg
                            · rw [if_pos hc_276] at h; cases h
                            · rw [if_neg hc_276] at h
                              refine az_E.o (o := az_cp az_F (97, I, J, R) (61 + 1) v2 (69 + 1) v4 v5) (pc' := 119) (L' := [.retAddr 0, .retAddr 0, .int v2, .retAddr 0, .int v4, .int v5, .ref 61, .ref 69]) (S' := []) (x := (97, I, (az_ur J (69 + 1) (va_cpy (J (61 + 1)) (J (69 + 1)) v2.toNatClampNeg v4.toNatClampNeg v5.toNatClampNeg)), R)) rfl (if_neg hc_276) ?_
                              refine az_E.sn 1 (pc' := 121) (L' := [.retAddr 0, .retAddr 0, .int v2, .retAddr 0, .int v4, .int v5, .ref 61, .ref 69]) (S' := [.int v5]) (σ' := (97, I, (az_ur J (69 + 1) (va_cpy (J (61 + 1)) (J (69 + 1)) v2.toNatClampNeg v4.toNatClampNeg v5.toNatClampNeg)), R)) rfl ?_
                              have h := Option.some.inj h
                              subst h
                              exact az_E.ret (v := some (.int v5)) (σ' := (97, I, (az_ur J (69 + 1) (va_cpy (J (61 + 1)) (J (69 + 1)) v2.toNatClampNeg v4.toNatClampNeg v5.toNatClampNeg)), R)) rfl hQ
          · rw [if_neg hc_267] at h
            refine az_E.sn 1 (pc' := 20) (L' := [.ref 69, .int (I 61 1)]) (S' := [.int (0 : Int32)]) (σ' := (97, I, J, R)) rfl ?_
            refine az_E.ret (v := some (.int (0 : Int32))) (σ' := (97, I, J, R)) rfl ?_
            show az_E az_F ex 2 128 69 [.retAddr 0, .retAddr 0, .int v2, .retAddr 0, .int v4, .int v5, .ref 61, .ref 69] [.int (0 : Int32)] (97, I, J, R) _
            refine az_E.br (c := (0 : Int32) = 0) (tt := 72) (ff := 75) (L' := [.retAddr 0, .retAddr 0, .int v2, .retAddr 0, .int v4, .int v5, .ref 61, .ref 69]) (S' := []) (σ' := (97, I, J, R)) rfl (fun _ => ?_) (fun hn => absurd (by decide) hn)
            refine az_E.sn 1 (pc' := 74) (L' := [.retAddr 0, .retAddr 0, .int v2, .retAddr 0, .int v4, .int v5, .ref 61, .ref 69]) (S' := [.int (-12 : Int32)]) (σ' := (97, I, J, R)) rfl ?_
            have h := Option.some.inj h
            subst h
            exact az_E.ret (v := some (.int (-12 : Int32))) (σ' := (97, I, J, R)) rfl hQ
set_option maxRecDepth 100000 in
set_option maxHeartbeats 4000000 in
theorem re_X_shift_30_61_71 {ex : az_X} {I : Nat → Nat → Int32} {J : Nat → Nat → Int64} {R : Nat → Nat → Option Nat} {v2 : Int32} {v4 : Int32} {v5 : Int32} {x : Int32 × (Nat → Nat → Int64)} (h : rs_X_shift_30 61 71 I J v2 v4 v5 = some x) {Q : Option Value → az_S → Prop} (hQ : Q (some (.int x.1)) (97, I, x.2, R)) : az_E az_F ex 2 128 30 [.retAddr 0, .retAddr 0, .int v2, .retAddr 0, .int v4, .int v5, .ref 61, .retAddr 0] [.ref 71] (97, I, J, R) Q := by
  unfold rs_X_shift_30 at h
  refine az_E.sn 2 (pc' := 34) (L' := [.retAddr 0, .retAddr 0, .int v2, .retAddr 0, .int v4, .int v5, .ref 61, .ref 71]) (S' := [.ref 61]) (σ' := (97, I, J, R)) rfl ?_
  refine az_E.call (d := 1) (k' := 54) (vs := [.ref 61]) (pc' := 37) (S' := []) rfl ?_ (fun _ _ hq => hq)
  show az_E az_F ex 1 54 0 [.ref 61] [] (97, I, J, R) _
  refine az_E.sn 3 (pc' := 5) (L' := [.ref 61]) (S' := [.int (-1 : Int32), .int (I 61 0)]) (σ' := (97, I, J, R)) rfl ?_
  refine az_E.br (c := (I 61 0) = (-1 : Int32)) (tt := 8) (ff := 20) (L' := [.ref 61]) (S' := []) (σ' := (97, I, J, R)) rfl (fun hc_277 => ?_) (fun hc_277 => ?_)
  · rw [if_pos hc_277] at h
    refine az_E.sn 3 (pc' := 13) (L' := [.ref 61]) (S' := [.int (-1 : Int32), .int (I 61 1)]) (σ' := (97, I, J, R)) rfl ?_
    refine az_E.br (c := (I 61 1) = (-1 : Int32)) (tt := 16) (ff := 20) (L' := [.ref 61]) (S' := []) (σ' := (97, I, J, R)) rfl (fun hc_278 => ?_) (fun hc_278 => ?_)
    · rw [if_pos hc_278] at h
      refine az_E.sn 2 (pc' := 21) (L' := [.ref 61]) (S' := [.int (1 : Int32)]) (σ' := (97, I, J, R)) rfl ?_
      refine az_E.ret (v := some (.int (1 : Int32))) (σ' := (97, I, J, R)) rfl ?_
      show az_E az_F ex 2 128 37 [.retAddr 0, .retAddr 0, .int v2, .retAddr 0, .int v4, .int v5, .ref 61, .ref 71] [.int (1 : Int32)] (97, I, J, R) _
      refine az_E.br (c := (1 : Int32) = 0) (tt := 40) (ff := 48) (L' := [.retAddr 0, .retAddr 0, .int v2, .retAddr 0, .int v4, .int v5, .ref 61, .ref 71]) (S' := []) (σ' := (97, I, J, R)) rfl (fun hn => absurd hn (by decide)) (fun _ => ?_)
      refine az_E.sn 1 (pc' := 50) (L' := [.retAddr 0, .retAddr 0, .int v2, .retAddr 0, .int v4, .int v5, .ref 61, .ref 71]) (S' := [.int (-11 : Int32)]) (σ' := (97, I, J, R)) rfl ?_
      have h := Option.some.inj h
      subst h
      exact az_E.ret (v := some (.int (-11 : Int32))) (σ' := (97, I, J, R)) rfl hQ
    · rw [if_neg hc_278] at h
      refine az_E.sn 1 (pc' := 21) (L' := [.ref 61]) (S' := [.int (0 : Int32)]) (σ' := (97, I, J, R)) rfl ?_
      refine az_E.ret (v := some (.int (0 : Int32))) (σ' := (97, I, J, R)) rfl ?_
      show az_E az_F ex 2 128 37 [.retAddr 0, .retAddr 0, .int v2, .retAddr 0, .int v4, .int v5, .ref 61, .ref 71] [.int (0 : Int32)] (97, I, J, R) _
      refine az_E.br (c := (0 : Int32) = 0) (tt := 40) (ff := 48) (L' := [.retAddr 0, .retAddr 0, .int v2, .retAddr 0, .int v4, .int v5, .ref 61, .ref 71]) (S' := []) (σ' := (97, I, J, R)) rfl (fun _ => ?_) (fun hn => absurd (by decide) hn)
      refine az_E.sn 1 (pc' := 42) (L' := [.retAddr 0, .retAddr 0, .int v2, .retAddr 0, .int v4, .int v5, .ref 61, .ref 71]) (S' := [.ref 71]) (σ' := (97, I, J, R)) rfl ?_
      refine az_E.call (d := 1) (k' := 54) (vs := [.ref 71]) (pc' := 45) (S' := []) rfl ?_ (fun _ _ hq => hq)
      show az_E az_F ex 1 54 0 [.ref 71] [] (97, I, J, R) _
      refine az_E.sn 3 (pc' := 5) (L' := [.ref 71]) (S' := [.int (-1 : Int32), .int (I 71 0)]) (σ' := (97, I, J, R)) rfl ?_
      refine az_E.br (c := (I 71 0) = (-1 : Int32)) (tt := 8) (ff := 20) (L' := [.ref 71]) (S' := []) (σ' := (97, I, J, R)) rfl (fun hc_279 => ?_) (fun hc_279 => ?_)
      · rw [if_pos hc_279] at h
        refine az_E.sn 3 (pc' := 13) (L' := [.ref 71]) (S' := [.int (-1 : Int32), .int (I 71 1)]) (σ' := (97, I, J, R)) rfl ?_
        refine az_E.br (c := (I 71 1) = (-1 : Int32)) (tt := 16) (ff := 20) (L' := [.ref 71]) (S' := []) (σ' := (97, I, J, R)) rfl (fun hc_280 => ?_) (fun hc_280 => ?_)
        · rw [if_pos hc_280] at h
          refine az_E.sn 2 (pc' := 21) (L' := [.ref 71]) (S' := [.int (1 : Int32)]) (σ' := (97, I, J, R)) rfl ?_
          refine az_E.ret (v := some (.int (1 : Int32))) (σ' := (97, I, J, R)) rfl ?_
          show az_E az_F ex 2 128 45 [.retAddr 0, .retAddr 0, .int v2, .retAddr 0, .int v4, .int v5, .ref 61, .ref 71] [.int (1 : Int32)] (97, I, J, R) _
          refine az_E.br (c := (1 : Int32) = 0) (tt := 51) (ff := 48) (L' := [.retAddr 0, .retAddr 0, .int v2, .retAddr 0, .int v4, .int v5, .ref 61, .ref 71]) (S' := []) (σ' := (97, I, J, R)) rfl (fun hn => absurd hn (by decide)) (fun _ => ?_)
          refine az_E.sn 1 (pc' := 50) (L' := [.retAddr 0, .retAddr 0, .int v2, .retAddr 0, .int v4, .int v5, .ref 61, .ref 71]) (S' := [.int (-11 : Int32)]) (σ' := (97, I, J, R)) rfl ?_
          have h := Option.some.inj h
          subst h
          exact az_E.ret (v := some (.int (-11 : Int32))) (σ' := (97, I, J, R)) rfl hQ
        · rw [if_neg hc_280] at h
          refine az_E.sn 1 (pc' := 21) (L' := [.ref 71]) (S' := [.int (0 : Int32)]) (σ' := (97, I, J, R)) rfl ?_
          refine az_E.ret (v := some (.int (0 : Int32))) (σ' := (97, I, J, R)) rfl ?_
          show az_E az_F ex 2 128 45 [.retAddr 0, .retAddr 0, .int v2, .retAddr 0, .int v4, .int v5, .ref 61, .ref 71] [.int (0 : Int32)] (97, I, J, R) _
          refine az_E.br (c := (0 : Int32) = 0) (tt := 51) (ff := 48) (L' := [.retAddr 0, .retAddr 0, .int v2, .retAddr 0, .int v4, .int v5, .ref 61, .ref 71]) (S' := []) (σ' := (97, I, J, R)) rfl (fun _ => ?_) (fun hn => absurd (by decide) hn)
          refine az_E.sn 1 (pc' := 53) (L' := [.retAddr 0, .retAddr 0, .int v2, .retAddr 0, .int v4, .int v5, .ref 61, .ref 71]) (S' := [.ref 61]) (σ' := (97, I, J, R)) rfl ?_
          refine az_E.call (d := 1) (k' := 55) (vs := [.ref 61]) (pc' := 56) (S' := []) rfl ?_ (fun _ _ hq => hq)
          show az_E az_F ex 1 55 0 [.ref 61] [] (97, I, J, R) _
          refine az_E.sn 3 (pc' := 5) (L' := [.ref 61]) (S' := [.int (-1 : Int32), .int (I 61 1)]) (σ' := (97, I, J, R)) rfl ?_
          refine az_E.br (c := (I 61 1) = (-1 : Int32)) (tt := 12) (ff := 8) (L' := [.ref 61]) (S' := []) (σ' := (97, I, J, R)) rfl (fun hc_281 => ?_) (fun hc_281 => ?_)
          · rw [if_pos hc_281] at h
            refine az_E.sn 1 (pc' := 13) (L' := [.ref 61]) (S' := [.int (0 : Int32)]) (σ' := (97, I, J, R)) rfl ?_
            refine az_E.ret (v := some (.int (0 : Int32))) (σ' := (97, I, J, R)) rfl ?_
            show az_E az_F ex 2 128 56 [.retAddr 0, .retAddr 0, .int v2, .retAddr 0, .int v4, .int v5, .ref 61, .ref 71] [.int (0 : Int32)] (97, I, J, R) _
            refine az_E.br (c := (0 : Int32) = 0) (tt := 72) (ff := 59) (L' := [.retAddr 0, .retAddr 0, .int v2, .retAddr 0, .int v4, .int v5, .ref 61, .ref 71]) (S' := []) (σ' := (97, I, J, R)) rfl (fun _ => ?_) (fun hn => absurd (by decide) hn)
            refine az_E.sn 1 (pc' := 74) (L' := [.retAddr 0, .retAddr 0, .int v2, .retAddr 0, .int v4, .int v5, .ref 61, .ref 71]) (S' := [.int (-12 : Int32)]) (σ' := (97, I, J, R)) rfl ?_
            have h := Option.some.inj h
            subst h
            exact az_E.ret (v := some (.int (-12 : Int32))) (σ' := (97, I, J, R)) rfl hQ
          · rw [if_neg hc_281] at h
            refine az_E.sn 2 (pc' := 13) (L' := [.ref 61]) (S' := [.int (1 : Int32)]) (σ' := (97, I, J, R)) rfl ?_
            refine az_E.ret (v := some (.int (1 : Int32))) (σ' := (97, I, J, R)) rfl ?_
            show az_E az_F ex 2 128 56 [.retAddr 0, .retAddr 0, .int v2, .retAddr 0, .int v4, .int v5, .ref 61, .ref 71] [.int (1 : Int32)] (97, I, J, R) _
            refine az_E.br (c := (1 : Int32) = 0) (tt := 72) (ff := 59) (L' := [.retAddr 0, .retAddr 0, .int v2, .retAddr 0, .int v4, .int v5, .ref 61, .ref 71]) (S' := []) (σ' := (97, I, J, R)) rfl (fun hn => absurd hn (by decide)) (fun _ => ?_)
            refine az_E.sn 3 (pc' := 66) (L' := [.retAddr 0, .retAddr 0, .int v2, .retAddr 0, .int v4, .int v5, .ref 61, .ref 71]) (S' := [.int (I 61 1), .ref 71]) (σ' := (97, I, J, R)) rfl ?_
            refine az_E.call (d := 1) (k' := 56) (vs := [.ref 71, .int (I 61 1)]) (pc' := 69) (S' := []) rfl ?_ (fun _ _ hq => hq)
            show az_E az_F ex 1 56 0 [.ref 71, .int (I 61 1)] [] (97, I, J, R) _
            refine az_E.sn 1 (pc' := 1) (L' := [.ref 71, .int (I 61 1)]) (S' := [.ref 71]) (σ' := (97, I, J, R)) rfl ?_
            refine az_E.call (d := 0) (k' := 55) (vs := [.ref 71]) (pc' := 4) (S' := []) rfl ?_ (fun _ _ hq => hq)
            show az_E az_F ex 0 55 0 [.ref 71] [] (97, I, J, R) _
            refine az_E.sn 3 (pc' := 5) (L' := [.ref 71]) (S' := [.int (-1 : Int32), .int (I 71 1)]) (σ' := (97, I, J, R)) rfl ?_
            refine az_E.br (c := (I 71 1) = (-1 : Int32)) (tt := 12) (ff := 8) (L' := [.ref 71]) (S' := []) (σ' := (97, I, J, R)) rfl (fun hc_282 => ?_) (fun hc_282 => ?_)
            · rw [if_pos hc_282] at h
              refine az_E.sn 1 (pc' := 13) (L' := [.ref 71]) (S' := [.int (0 : Int32)]) (σ' := (97, I, J, R)) rfl ?_
              refine az_E.ret (v := some (.int (0 : Int32))) (σ' := (97, I, J, R)) rfl ?_
              show az_E az_F ex 1 56 4 [.ref 71, .int (I 61 1)] [.int (0 : Int32)] (97, I, J, R) _
              refine az_E.br (c := (0 : Int32) = 0) (tt := 19) (ff := 7) (L' := [.ref 71, .int (I 61 1)]) (S' := []) (σ' := (97, I, J, R)) rfl (fun _ => ?_) (fun hn => absurd (by decide) hn)
              refine az_E.sn 1 (pc' := 20) (L' := [.ref 71, .int (I 61 1)]) (S' := [.int (0 : Int32)]) (σ' := (97, I, J, R)) rfl ?_
              refine az_E.ret (v := some (.int (0 : Int32))) (σ' := (97, I, J, R)) rfl ?_
              show az_E az_F ex 2 128 69 [.retAddr 0, .retAddr 0, .int v2, .retAddr 0, .int v4, .int v5, .ref 61, .ref 71] [.int (0 : Int32)] (97, I, J, R) _
              refine az_E.br (c := (0 : Int32) = 0) (tt := 72) (ff := 75) (L' := [.retAddr 0, .retAddr 0, .int v2, .retAddr 0, .int v4, .int v5, .ref 61, .ref 71]) (S' := []) (σ' := (97, I, J, R)) rfl (fun _ => ?_) (fun hn => absurd (by decide) hn)
              refine az_E.sn 1 (pc' := 74) (L' := [.retAddr 0, .retAddr 0, .int v2, .retAddr 0, .int v4, .int v5, .ref 61, .ref 71]) (S' := [.int (-12 : Int32)]) (σ' := (97, I, J, R)) rfl ?_
              have h := Option.some.inj h
              subst h
              exact az_E.ret (v := some (.int (-12 : Int32))) (σ' := (97, I, J, R)) rfl hQ
            · rw [if_neg hc_282] at h
              refine az_E.sn 2 (pc' := 13) (L' := [.ref 71]) (S' := [.int (1 : Int32)]) (σ' := (97, I, J, R)) rfl ?_
              refine az_E.ret (v := some (.int (1 : Int32))) (σ' := (97, I, J, R)) rfl ?_
              show az_E az_F ex 1 56 4 [.ref 71, .int (I 61 1)] [.int (1 : Int32)] (97, I, J, R) _
              refine az_E.br (c := (1 : Int32) = 0) (tt := 19) (ff := 7) (L' := [.ref 71, .int (I 61 1)]) (S' := []) (σ' := (97, I, J, R)) rfl (fun hn => absurd hn (by decide)) (fun _ => ?_)
              refine az_E.sn 3 (pc' := 12) (L' := [.ref 71, .int (I 61 1)]) (S' := [.int (I 61 1), .int (I 71 1)]) (σ' := (97, I, J, R)) rfl ?_
              refine az_E.br (c := (I 71 1) = (I 61 1)) (tt := 15) (ff := 19) (L' := [.ref 71, .int (I 61 1)]) (S' := []) (σ' := (97, I, J, R)) rfl (fun hc_283 => ?_) (fun hc_283 => ?_)
              · rw [if_pos hc_283] at h
                refine az_E.sn 2 (pc' := 20) (L' := [.ref 71, .int (I 61 1)]) (S' := [.int (1 : Int32)]) (σ' := (97, I, J, R)) rfl ?_
                refine az_E.ret (v := some (.int (1 : Int32))) (σ' := (97, I, J, R)) rfl ?_
                show az_E az_F ex 2 128 69 [.retAddr 0, .retAddr 0, .int v2, .retAddr 0, .int v4, .int v5, .ref 61, .ref 71] [.int (1 : Int32)] (97, I, J, R) _
                refine az_E.br (c := (1 : Int32) = 0) (tt := 72) (ff := 75) (L' := [.retAddr 0, .retAddr 0, .int v2, .retAddr 0, .int v4, .int v5, .ref 61, .ref 71]) (S' := []) (σ' := (97, I, J, R)) rfl (fun hn => absurd hn (by decide)) (fun _ => ?_)
                refine az_E.sn 3 (pc' := 80) (L' := [.retAddr 0, .retAddr 0, .int v2, .retAddr 0, .int v4, .int v5, .ref 61, .ref 71]) (S' := [.int v5, .int v2, .ref 61]) (σ' := (97, I, J, R)) rfl ?_
                refine az_E.call (d := 1) (k' := 60) (vs := [.ref 61, .int v2, .int v5]) (pc' := 83) (S' := []) rfl ?_ (fun _ _ hq => hq)
                show az_E az_F ex 1 60 0 [.ref 61, .int v2, .int v5] [] (97, I, J, R) _
                refine az_E.sn 1 (pc' := 1) (L' := [.ref 61, .int v2, .int v5]) (S' := [.int v2]) (σ' := (97, I, J, R)) rfl ?_
                refine az_E.br (c := v2 < 0) (tt := 30) (ff := 4) (L' := [.ref 61, .int v2, .int v5]) (S' := []) (σ' := (97, I, J, R)) rfl (fun hc_284 => ?_) (fun hc_284 => ?_)
                · rw [if_pos hc_284] at h
                  refine az_E.sn 1 (pc' := 31) (L' := [.ref 61, .int v2, .int v5]) (S' := [.int (0 : Int32)]) (σ' := (97, I, J, R)) rfl ?_
                  refine az_E.ret (v := some (.int (0 : Int32))) (σ' := (97, I, J, R)) rfl ?_
                  show az_E az_F ex 2 128 83 [.retAddr 0, .retAddr 0, .int v2, .retAddr 0, .int v4, .int v5, .ref 61, .ref 71] [.int (0 : Int32)] (97, I, J, R) _
                  refine az_E.br (c := (0 : Int32) = 0) (tt := 98) (ff := 86) (L' := [.retAddr 0, .retAddr 0, .int v2, .retAddr 0, .int v4, .int v5, .ref 61, .ref 71]) (S' := []) (σ' := (97, I, J, R)) rfl (fun _ => ?_) (fun hn => absurd (by decide) hn)
                  refine az_E.sn 1 (pc' := 100) (L' := [.retAddr 0, .retAddr 0, .int v2, .retAddr 0, .int v4, .int v5, .ref 61, .ref 71]) (S' := [.int (-13 : Int32)]) (σ' := (97, I, J, R)) rfl ?_
                  have h := Option.some.inj h
                  subst h
                  exact az_E.ret (v := some (.int (-13 : Int32))) (σ' := (97, I, J, R)) rfl hQ
                · rw [if_neg hc_284] at h
                  refine az_E.sn 1 (pc' := 5) (L' := [.ref 61, .int v2, .int v5]) (S' := [.int v5]) (σ' := (97, I, J, R)) rfl ?_
                  refine az_E.br (c := v5 < 0) (tt := 30) (ff := 8) (L' := [.ref 61, .int v2, .int v5]) (S' := []) (σ' := (97, I, J, R)) rfl (fun hc_285 => ?_) (fun hc_285 => ?_)
                  · rw [if_pos hc_285] at h
                    refine az_E.sn 1 (pc' := 31) (L' := [.ref 61, .int v2, .int v5]) (S' := [.int (0 : Int32)]) (σ' := (97, I, J, R)) rfl ?_
                    refine az_E.ret (v := some (.int (0 : Int32))) (σ' := (97, I, J, R)) rfl ?_
                    show az_E az_F ex 2 128 83 [.retAddr 0, .retAddr 0, .int v2, .retAddr 0, .int v4, .int v5, .ref 61, .ref 71] [.int (0 : Int32)] (97, I, J, R) _
                    refine az_E.br (c := (0 : Int32) = 0) (tt := 98) (ff := 86) (L' := [.retAddr 0, .retAddr 0, .int v2, .retAddr 0, .int v4, .int v5, .ref 61, .ref 71]) (S' := []) (σ' := (97, I, J, R)) rfl (fun _ => ?_) (fun hn => absurd (by decide) hn)
                    refine az_E.sn 1 (pc' := 100) (L' := [.retAddr 0, .retAddr 0, .int v2, .retAddr 0, .int v4, .int v5, .ref 61, .ref 71]) (S' := [.int (-13 : Int32)]) (σ' := (97, I, J, R)) rfl ?_
                    have h := Option.some.inj h
                    subst h
                    exact az_E.ret (v := some (.int (-13 : Int32))) (σ' := (97, I, J, R)) rfl hQ
                  · rw [if_neg hc_285] at h
                    refine az_E.sn 3 (pc' := 13) (L' := [.ref 61, .int v2, .int v5]) (S' := [.int (I 61 2), .int v2]) (σ' := (97, I, J, R)) rfl ?_
                    refine az_E.br (c := (I 61 2) < v2) (tt := 30) (ff := 16) (L' := [.ref 61, .int v2, .int v5]) (S' := []) (σ' := (97, I, J, R)) rfl (fun hc_286 => ?_) (fun hc_286 => ?_)
                    · rw [if_pos hc_286] at h
                      refine az_E.sn 1 (pc' := 31) (L' := [.ref 61, .int v2, .int v5]) (S' := [.int (0 : Int32)]) (σ' := (97, I, J, R)) rfl ?_
                      refine az_E.ret (v := some (.int (0 : Int32))) (σ' := (97, I, J, R)) rfl ?_
                      show az_E az_F ex 2 128 83 [.retAddr 0, .retAddr 0, .int v2, .retAddr 0, .int v4, .int v5, .ref 61, .ref 71] [.int (0 : Int32)] (97, I, J, R) _
                      refine az_E.br (c := (0 : Int32) = 0) (tt := 98) (ff := 86) (L' := [.retAddr 0, .retAddr 0, .int v2, .retAddr 0, .int v4, .int v5, .ref 61, .ref 71]) (S' := []) (σ' := (97, I, J, R)) rfl (fun _ => ?_) (fun hn => absurd (by decide) hn)
                      refine az_E.sn 1 (pc' := 100) (L' := [.retAddr 0, .retAddr 0, .int v2, .retAddr 0, .int v4, .int v5, .ref 61, .ref 71]) (S' := [.int (-13 : Int32)]) (σ' := (97, I, J, R)) rfl ?_
                      have h := Option.some.inj h
                      subst h
                      exact az_E.ret (v := some (.int (-13 : Int32))) (σ' := (97, I, J, R)) rfl hQ
                    · rw [if_neg hc_286] at h
                      refine az_E.sn 5 (pc' := 23) (L' := [.ref 61, .int v2, .int v5]) (S' := [.int ((I 61 2) - v2), .int v5]) (σ' := (97, I, J, R)) rfl ?_
                      refine az_E.br (c := ((I 61 2) - v2) < v5) (tt := 30) (ff := 26) (L' := [.ref 61, .int v2, .int v5]) (S' := []) (σ' := (97, I, J, R)) rfl (fun hc_287 => ?_) (fun hc_287 => ?_)
                      · rw [if_pos hc_287] at h
                        refine az_E.sn 1 (pc' := 31) (L' := [.ref 61, .int v2, .int v5]) (S' := [.int (0 : Int32)]) (σ' := (97, I, J, R)) rfl ?_
                        refine az_E.ret (v := some (.int (0 : Int32))) (σ' := (97, I, J, R)) rfl ?_
                        show az_E az_F ex 2 128 83 [.retAddr 0, .retAddr 0, .int v2, .retAddr 0, .int v4, .int v5, .ref 61, .ref 71] [.int (0 : Int32)] (97, I, J, R) _
                        refine az_E.br (c := (0 : Int32) = 0) (tt := 98) (ff := 86) (L' := [.retAddr 0, .retAddr 0, .int v2, .retAddr 0, .int v4, .int v5, .ref 61, .ref 71]) (S' := []) (σ' := (97, I, J, R)) rfl (fun _ => ?_) (fun hn => absurd (by decide) hn)
                        refine az_E.sn 1 (pc' := 100) (L' := [.retAddr 0, .retAddr 0, .int v2, .retAddr 0, .int v4, .int v5, .ref 61, .ref 71]) (S' := [.int (-13 : Int32)]) (σ' := (97, I, J, R)) rfl ?_
                        have h := Option.some.inj h
                        subst h
                        exact az_E.ret (v := some (.int (-13 : Int32))) (σ' := (97, I, J, R)) rfl hQ
                      · rw [if_neg hc_287] at h
                        refine az_E.sn 2 (pc' := 31) (L' := [.ref 61, .int v2, .int v5]) (S' := [.int (1 : Int32)]) (σ' := (97, I, J, R)) rfl ?_
                        refine az_E.ret (v := some (.int (1 : Int32))) (σ' := (97, I, J, R)) rfl ?_
                        show az_E az_F ex 2 128 83 [.retAddr 0, .retAddr 0, .int v2, .retAddr 0, .int v4, .int v5, .ref 61, .ref 71] [.int (1 : Int32)] (97, I, J, R) _
                        refine az_E.br (c := (1 : Int32) = 0) (tt := 98) (ff := 86) (L' := [.retAddr 0, .retAddr 0, .int v2, .retAddr 0, .int v4, .int v5, .ref 61, .ref 71]) (S' := []) (σ' := (97, I, J, R)) rfl (fun hn => absurd hn (by decide)) (fun _ => ?_)
                        refine az_E.sn 3 (pc' := 92) (L' := [.retAddr 0, .retAddr 0, .int v2, .retAddr 0, .int v4, .int v5, .ref 61, .ref 71]) (S' := [.int v5, .int v4, .ref 71]) (σ' := (97, I, J, R)) rfl ?_
                        refine az_E.call (d := 1) (k' := 60) (vs := [.ref 71, .int v4, .int v5]) (pc' := 95) (S' := []) rfl ?_ (fun _ _ hq => hq)
                        show az_E az_F ex 1 60 0 [.ref 71, .int v4, .int v5] [] (97, I, J, R) _
                        refine az_E.sn 1 (pc' := 1) (L' := [.ref 71, .int v4, .int v5]) (S' := [.int v4]) (σ' := (97, I, J, R)) rfl ?_
                        refine az_E.br (c := v4 < 0) (tt := 30) (ff := 4) (L' := [.ref 71, .int v4, .int v5]) (S' := []) (σ' := (97, I, J, R)) rfl (fun hc_288 => ?_) (fun hc_288 => ?_)
                        · rw [if_pos hc_288] at h
                          refine az_E.sn 1 (pc' := 31) (L' := [.ref 71, .int v4, .int v5]) (S' := [.int (0 : Int32)]) (σ' := (97, I, J, R)) rfl ?_
                          refine az_E.ret (v := some (.int (0 : Int32))) (σ' := (97, I, J, R)) rfl ?_
                          show az_E az_F ex 2 128 95 [.retAddr 0, .retAddr 0, .int v2, .retAddr 0, .int v4, .int v5, .ref 61, .ref 71] [.int (0 : Int32)] (97, I, J, R) _
                          refine az_E.br (c := (0 : Int32) = 0) (tt := 98) (ff := 101) (L' := [.retAddr 0, .retAddr 0, .int v2, .retAddr 0, .int v4, .int v5, .ref 61, .ref 71]) (S' := []) (σ' := (97, I, J, R)) rfl (fun _ => ?_) (fun hn => absurd (by decide) hn)
                          refine az_E.sn 1 (pc' := 100) (L' := [.retAddr 0, .retAddr 0, .int v2, .retAddr 0, .int v4, .int v5, .ref 61, .ref 71]) (S' := [.int (-13 : Int32)]) (σ' := (97, I, J, R)) rfl ?_
                          have h := Option.some.inj h
                          subst h
                          exact az_E.ret (v := some (.int (-13 : Int32))) (σ' := (97, I, J, R)) rfl hQ
                        · rw [if_neg hc_288] at h
                          refine az_E.sn 1 (pc' := 5) (L' := [.ref 71, .int v4, .int v5]) (S' := [.int v5]) (σ' := (97, I, J, R)) rfl ?_
                          refine az_E.br (c := v5 < 0) (tt := 30) (ff := 8) (L' := [.ref 71, .int v4, .int v5]) (S' := []) (σ' := (97, I, J, R)) rfl (fun hc_289 => ?_) (fun hc_289 => ?_)
                          · rw [if_pos hc_289] at h
                            refine az_E.sn 1 (pc' := 31) (L' := [.ref 71, .int v4, .int v5]) (S' := [.int (0 : Int32)]) (σ' := (97, I, J, R)) rfl ?_
                            refine az_E.ret (v := some (.int (0 : Int32))) (σ' := (97, I, J, R)) rfl ?_
                            show az_E az_F ex 2 128 95 [.retAddr 0, .retAddr 0, .int v2, .retAddr 0, .int v4, .int v5, .ref 61, .ref 71] [.int (0 : Int32)] (97, I, J, R) _
                            refine az_E.br (c := (0 : Int32) = 0) (tt := 98) (ff := 101) (L' := [.retAddr 0, .retAddr 0, .int v2, .retAddr 0, .int v4, .int v5, .ref 61, .ref 71]) (S' := []) (σ' := (97, I, J, R)) rfl (fun _ => ?_) (fun hn => absurd (by decide) hn)
                            refine az_E.sn 1 (pc' := 100) (L' := [.retAddr 0, .retAddr 0, .int v2, .retAddr 0, .int v4, .int v5, .ref 61, .ref 71]) (S' := [.int (-13 : Int32)]) (σ' := (97, I, J, R)) rfl ?_
                            have h := Option.some.inj h
                            subst h
                            exact az_E.ret (v := some (.int (-13 : Int32))) (σ' := (97, I, J, R)) rfl hQ
                          · rw [if_neg hc_289] at h
                            refine az_E.sn 3 (pc' := 13) (L' := [.ref 71, .int v4, .int v5]) (S' := [.int (I 71 2), .int v4]) (σ' := (97, I, J, R)) rfl ?_
                            refine az_E.br (c := (I 71 2) < v4) (tt := 30) (ff := 16) (L' := [.ref 71, .int v4, .int v5]) (S' := []) (σ' := (97, I, J, R)) rfl (fun hc_290 => ?_) (fun hc_290 => ?_)
                            · rw [if_pos hc_290] at h
                              refine az_E.sn 1 (pc' := 31) (L' := [.ref 71, .int v4, .int v5]) (S' := [.int (0 : Int32)]) (σ' := (97, I, J, R)) rfl ?_
                              refine az_E.ret (v := some (.int (0 : Int32))) (σ' := (97, I, J, R)) rfl ?_
                              show az_E az_F ex 2 128 95 [.retAddr 0, .retAddr 0, .int v2, .retAddr 0, .int v4, .int v5, .ref 61, .ref 71] [.int (0 : Int32)] (97, I, J, R) _
                              refine az_E.br (c := (0 : Int32) = 0) (tt := 98) (ff := 101) (L' := [.retAddr 0, .retAddr 0, .int v2, .retAddr 0, .int v4, .int v5, .ref 61, .ref 71]) (S' := []) (σ' := (97, I, J, R)) rfl (fun _ => ?_) (fun hn => absurd (by decide) hn)
                              refine az_E.sn 1 (pc' := 100) (L' := [.retAddr 0, .retAddr 0, .int v2, .retAddr 0, .int v4, .int v5, .ref 61, .ref 71]) (S' := [.int (-13 : Int32)]) (σ' := (97, I, J, R)) rfl ?_
                              have h := Option.some.inj h
                              subst h
                              exact az_E.ret (v := some (.int (-13 : Int32))) (σ' := (97, I, J, R)) rfl hQ
                            · rw [if_neg hc_290] at h
                              refine az_E.sn 5 (pc' := 23) (L' := [.ref 71, .int v4, .int v5]) (S' := [.int ((I 71 2) - v4), .int v5]) (σ' := (97, I, J, R)) rfl ?_
                              refine az_E.br (c := ((I 71 2) - v4) < v5) (tt := 30) (ff := 26) (L' := [.ref 71, .int v4, .int v5]) (S' := []) (σ' := (97, I, J, R)) rfl (fun hc_291 => ?_) (fun hc_291 => ?_)
                              · rw [if_pos hc_291] at h
                                refine az_E.sn 1 (pc' := 31) (L' := [.ref 71, .int v4, .int v5]) (S' := [.int (0 : Int32)]) (σ' := (97, I, J, R)) rfl ?_
                                refine az_E.ret (v := some (.int (0 : Int32))) (σ' := (97, I, J, R)) rfl ?_
                                show az_E az_F ex 2 128 95 [.retAddr 0, .retAddr 0, .int v2, .retAddr 0, .int v4, .int v5, .ref 61, .ref 71] [.int (0 : Int32)] (97, I, J, R) _
                                refine az_E.br (c := (0 : Int32) = 0) (tt := 98) (ff := 101) (L' := [.retAddr 0, .retAddr 0, .int v2, .retAddr 0, .int v4, .int v5, .ref 61, .ref 71]) (S' := []) (σ' := (97, I, J, R)) rfl (fun _ => ?_) (fun hn => absurd (by decide) hn)
                                refine az_E.sn 1 (pc' := 100) (L' := [.retAddr 0, .retAddr 0, .int v2, .retAddr 0, .int v4, .int v5, .ref 61, .ref 71]) (S' := [.int (-13 : Int32)]) (σ' := (97, I, J, R)) rfl ?_
                                have h := Option.some.inj h
                                subst h
                                exact az_E.ret (v := some (.int (-13 : Int32))) (σ' := (97, I, J, R)) rfl hQ
                              · rw [if_neg hc_291] at h
                                refine az_E.sn 2 (pc' := 31) (L' := [.ref 71, .int v4, .int v5]) (S' := [.int (1 : Int32)]) (σ' := (97, I, J, R)) rfl ?_
                                refine az_E.ret (v := some (.int (1 : Int32))) (σ' := (97, I, J, R)) rfl ?_
                                show az_E az_F ex 2 128 95 [.retAddr 0, .retAddr 0, .int v2, .retAddr 0, .int v4, .int v5, .ref 61, .ref 71] [.int (1 : Int32)] (97, I, J, R) _
                                refine az_E.br (c := (1 : Int32) = 0) (tt := 98) (ff := 101) (L' := [.retAddr 0, .retAddr 0, .int v2, .retAddr 0, .int v4, .int v5, .ref 61, .ref 71]) (S' := []) (σ' := (97, I, J, R)) rfl (fun hn => absurd hn (by decide)) (fun _ => ?_)
                                refine az_E.sn 7 (pc' := 116) (L' := [.retAddr 0, .retAddr 0, .int v2, .retAddr 0, .int v4, .int v5, .ref 61, .ref 71]) (S' := [.int v5, .int v4, .ref (71 + 1), .int v2, .ref (61 + 1)]) (σ' := (97, I, J, R)) rfl ?_
                                by_cases hc_292 : v2 < 0 ∨ v4 < 0 ∨ v5 < 0 ∨ 60 < v2.toNatClampNeg + v5.toNatClampNeg ∨ 60 < v4.toNatClampNeg + v5.toNatClampNeg
                                · rw [if_pos hc_292] at h; cases h
                                · rw [if_neg hc_292] at h
                                  refine az_E.o (o := az_cp az_F (97, I, J, R) (61 + 1) v2 (71 + 1) v4 v5) (pc' := 119) (L' := [.retAddr 0, .retAddr 0, .int v2, .retAddr 0, .int v4, .int v5, .ref 61, .ref 71]) (S' := []) (x := (97, I, (az_ur J (71 + 1) (va_cpy (J (61 + 1)) (J (71 + 1)) v2.toNatClampNeg v4.toNatClampNeg v5.toNatClampNeg)), R)) rfl (if_neg hc_292) ?_
                                  refine az_E.sn 1 (pc' := 121) (L' := [.retAddr 0, .retAddr 0, .int v2, .retAddr 0, .int v4, .int v5, .ref 61, .ref 71]) (S' := [.int v5]) (σ' := (97, I, (az_ur J (71 + 1) (va_cpy (J (61 + 1)) (J (71 + 1)) v2.toNatClampNeg v4.toNatClampNeg v5.toNatClampNeg)), R)) rfl ?_
                                  have h := Option.some.inj h
                                  subst h
                                  exact az_E.ret (v := some (.int v5)) (σ' := (97, I, (az_ur J (71 + 1) (va_cpy (J (61 + 1)) (J (71 + 1)) v2.toNatClampNeg v4.toNatClampNeg v5.toNatClampNeg)), R)) rfl hQ
              · rw [if_neg hc_283] at h
                refine az_E.sn 1 (pc' := 20) (L' := [.ref 71, .int (I 61 1)]) (S' := [.int (0 : Int32)]) (σ' := (97, I, J, R)) rfl ?_
                refine az_E.ret (v := some (.int (0 : Int32))) (σ' := (97, I, J, R)) rfl ?_
                show az_E az_F ex 2 128 69 [.retAddr 0, .retAddr 0, .int v2, .retAddr 0, .int v4, .int v5, .ref 61, .ref 71] [.int (0 : Int32)] (97, I, J, R) _
                refine az_E.br (c := (0 : Int32) = 0) (tt := 72) (ff := 75) (L' := [.retAddr 0, .retAddr 0, .int v2, .retAddr 0, .int v4, .int v5, .ref 61, .ref 71]) (S' := []) (σ' := (97, I, J, R)) rfl (fun _ => ?_) (fun hn => absurd (by decide) hn)
                refine az_E.sn 1 (pc' := 74) (L' := [.retAddr 0, .retAddr 0, .int v2, .retAddr 0, .int v4, .int v5, .ref 61, .ref 71]) (S' := [.int (-12 : Int32)]) (σ' := (97, I, J, R)) rfl ?_
                have h := Option.some.inj h
                subst h
                exact az_E.ret (v := some (.int (-12 : Int32))) (σ' := (97, I, J, R)) rfl hQ
      · rw [if_neg hc_279] at h
        refine az_E.sn 1 (pc' := 21) (L' := [.ref 71]) (S' := [.int (0 : Int32)]) (σ' := (97, I, J, R)) rfl ?_
        refine az_E.ret (v := some (.int (0 : Int32))) (σ' := (97, I, J, R)) rfl ?_
        show az_E az_F ex 2 128 45 [.retAddr 0, .retAddr 0, .int v2, .retAddr 0, .int v4, .int v5, .ref 61, .ref 71] [.int (0 : Int32)] (97, I, J, R) _
        refine az_E.br (c := (0 : Int32) = 0) (tt := 51) (ff := 48) (L' := [.retAddr 0, .retAddr 0, .int v2, .retAddr 0, .int v4, .int v5, .ref 61, .ref 71]) (S' := []) (σ' := (97, I, J, R)) rfl (fun _ => ?_) (fun hn => absurd (by decide) hn)
        refine az_E.sn 1 (pc' := 53) (L' := [.retAddr 0, .retAddr 0, .int v2, .retAddr 0, .int v4, .int v5, .ref 61, .ref 71]) (S' := [.ref 61]) (σ' := (97, I, J, R)) rfl ?_
        refine az_E.call (d := 1) (k' := 55) (vs := [.ref 61]) (pc' := 56) (S' := []) rfl ?_ (fun _ _ hq => hq)
        show az_E az_F ex 1 55 0 [.ref 61] [] (97, I, J, R) _
        refine az_E.sn 3 (pc' := 5) (L' := [.ref 61]) (S' := [.int (-1 : Int32), .int (I 61 1)]) (σ' := (97, I, J, R)) rfl ?_
        refine az_E.br (c := (I 61 1) = (-1 : Int32)) (tt := 12) (ff := 8) (L' := [.ref 61]) (S' := []) (σ' := (97, I, J, R)) rfl (fun hc_293 => ?_) (fun hc_293 => ?_)
        · rw [if_pos hc_293] at h
          refine az_E.sn 1 (pc' := 13) (L' := [.ref 61]) (S' := [.int (0 : Int32)]) (σ' := (97, I, J, R)) rfl ?_
          refine az_E.ret (v := some (.int (0 : Int32))) (σ' := (97, I, J, R)) rfl ?_
          show az_E az_F ex 2 128 56 [.retAddr 0, .retAddr 0, .int v2, .retAddr 0, .int v4, .int v5, .ref 61, .ref 71] [.int (0 : Int32)] (97, I, J, R) _
          refine az_E.br (c := (0 : Int32) = 0) (tt := 72) (ff := 59) (L' := [.retAddr 0, .retAddr 0, .int v2, .retAddr 0, .int v4, .int v5, .ref 61, .ref 71]) (S' := []) (σ' := (97, I, J, R)) rfl (fun _ => ?_) (fun hn => absurd (by decide) hn)
          refine az_E.sn 1 (pc' := 74) (L' := [.retAddr 0, .retAddr 0, .int v2, .retAddr 0, .int v4, .int v5, .ref 61, .ref 71]) (S' := [.int (-12 : Int32)]) (σ' := (97, I, J, R)) rfl ?_
          have h := Option.some.inj h
          subst h
          exact az_E.ret (v := some (.int (-12 : Int32))) (σ' := (97, I, J, R)) rfl hQ
        · rw [if_neg hc_293] at h
          refine az_E.sn 2 (pc' := 13) (L' := [.ref 61]) (S' := [.int (1 : Int32)]) (σ' := (97, I, J, R)) rfl ?_
          refine az_E.ret (v := some (.int (1 : Int32))) (σ' := (97, I, J, R)) rfl ?_
          show az_E az_F ex 2 128 56 [.retAddr 0, .retAddr 0, .int v2, .retAddr 0, .int v4, .int v5, .ref 61, .ref 71] [.int (1 : Int32)] (97, I, J, R) _
          refine az_E.br (c := (1 : Int32) = 0) (tt := 72) (ff := 59) (L' := [.retAddr 0, .retAddr 0, .int v2, .retAddr 0, .int v4, .int v5, .ref 61, .ref 71]) (S' := []) (σ' := (97, I, J, R)) rfl (fun hn => absurd hn (by decide)) (fun _ => ?_)
          refine az_E.sn 3 (pc' := 66) (L' := [.retAddr 0, .retAddr 0, .int v2, .retAddr 0, .int v4, .int v5, .ref 61, .ref 71]) (S' := [.int (I 61 1), .ref 71]) (σ' := (97, I, J, R)) rfl ?_
          refine az_E.call (d := 1) (k' := 56) (vs := [.ref 71, .int (I 61 1)]) (pc' := 69) (S' := []) rfl ?_ (fun _ _ hq => hq)
          show az_E az_F ex 1 56 0 [.ref 71, .int (I 61 1)] [] (97, I, J, R) _
          refine az_E.sn 1 (pc' := 1) (L' := [.ref 71, .int (I 61 1)]) (S' := [.ref 71]) (σ' := (97, I, J, R)) rfl ?_
          refine az_E.call (d := 0) (k' := 55) (vs := [.ref 71]) (pc' := 4) (S' := []) rfl ?_ (fun _ _ hq => hq)
          show az_E az_F ex 0 55 0 [.ref 71] [] (97, I, J, R) _
          refine az_E.sn 3 (pc' := 5) (L' := [.ref 71]) (S' := [.int (-1 : Int32), .int (I 71 1)]) (σ' := (97, I, J, R)) rfl ?_
          refine az_E.br (c := (I 71 1) = (-1 : Int32)) (tt := 12) (ff := 8) (L' := [.ref 71]) (S' := []) (σ' := (97, I, J, R)) rfl (fun hc_294 => ?_) (fun hc_294 => ?_)
          · rw [if_pos hc_294] at h
            refine az_E.sn 1 (pc' := 13) (L' := [.ref 71]) (S' := [.int (0 : Int32)]) (σ' := (97, I, J, R)) rfl ?_
            refine az_E.ret (v := some (.int (0 : Int32))) (σ' := (97, I, J, R)) rfl ?_
            show az_E az_F ex 1 56 4 [.ref 71, .int (I 61 1)] [.int (0 : Int32)] (97, I, J, R) _
            refine az_E.br (c := (0 : Int32) = 0) (tt := 19) (ff := 7) (L' := [.ref 71, .int (I 61 1)]) (S' := []) (σ' := (97, I, J, R)) rfl (fun _ => ?_) (fun hn => absurd (by decide) hn)
            refine az_E.sn 1 (pc' := 20) (L' := [.ref 71, .int (I 61 1)]) (S' := [.int (0 : Int32)]) (σ' := (97, I, J, R)) rfl ?_
            refine az_E.ret (v := some (.int (0 : Int32))) (σ' := (97, I, J, R)) rfl ?_
            show az_E az_F ex 2 128 69 [.retAddr 0, .retAddr 0, .int v2, .retAddr 0, .int v4, .int v5, .ref 61, .ref 71] [.int (0 : Int32)] (97, I, J, R) _
            refine az_E.br (c := (0 : Int32) = 0) (tt := 72) (ff := 75) (L' := [.retAddr 0, .retAddr 0, .int v2, .retAddr 0, .int v4, .int v5, .ref 61, .ref 71]) (S' := []) (σ' := (97, I, J, R)) rfl (fun _ => ?_) (fun hn => absurd (by decide) hn)
            refine az_E.sn 1 (pc' := 74) (L' := [.retAddr 0, .retAddr 0, .int v2, .retAddr 0, .int v4, .int v5, .ref 61, .ref 71]) (S' := [.int (-12 : Int32)]) (σ' := (97, I, J, R)) rfl ?_
            have h := Option.some.inj h
            subst h
            exact az_E.ret (v := some (.int (-12 : Int32))) (σ' := (97, I, J, R)) rfl hQ
          · rw [if_neg hc_294] at h
            refine az_E.sn 2 (pc' := 13) (L' := [.ref 71]) (S' := [.int (1 : Int32)]) (σ' := (97, I, J, R)) rfl ?_
            refine az_E.ret (v := some (.int (1 : Int32))) (σ' := (97, I, J, R)) rfl ?_
            show az_E az_F ex 1 56 4 [.ref 71, .int (I 61 1)] [.int (1 : Int32)] (97, I, J, R) _
            refine az_E.br (c := (1 : Int32) = 0) (tt := 19) (ff := 7) (L' := [.ref 71, .int (I 61 1)]) (S' := []) (σ' := (97, I, J, R)) rfl (fun hn => absurd hn (by decide)) (fun _ => ?_)
            refine az_E.sn 3 (pc' := 12) (L' := [.ref 71, .int (I 61 1)]) (S' := [.int (I 61 1), .int (I 71 1)]) (σ' := (97, I, J, R)) rfl ?_
            refine az_E.br (c := (I 71 1) = (I 61 1)) (tt := 15) (ff := 19) (L' := [.ref 71, .int (I 61 1)]) (S' := []) (σ' := (97, I, J, R)) rfl (fun hc_295 => ?_) (fun hc_295 => ?_)
            · rw [if_pos hc_295] at h
              refine az_E.sn 2 (pc' := 20) (L' := [.ref 71, .int (I 61 1)]) (S' := [.int (1 : Int32)]) (σ' := (97, I, J, R)) rfl ?_
              refine az_E.ret (v := some (.int (1 : Int32))) (σ' := (97, I, J, R)) rfl ?_
              show az_E az_F ex 2 128 69 [.retAddr 0, .retAddr 0, .int v2, .retAddr 0, .int v4, .int v5, .ref 61, .ref 71] [.int (1 : Int32)] (97, I, J, R) _
              refine az_E.br (c := (1 : Int32) = 0) (tt := 72) (ff := 75) (L' := [.retAddr 0, .retAddr 0, .int v2, .retAddr 0, .int v4, .int v5, .ref 61, .ref 71]) (S' := []) (σ' := (97, I, J, R)) rfl (fun hn => absurd hn (by decide)) (fun _ => ?_)
              refine az_E.sn 3 (pc' := 80) (L' := [.retAddr 0, .retAddr 0, .int v2, .retAddr 0, .int v4, .int v5, .ref 61, .ref 71]) (S' := [.int v5, .int v2, .ref 61]) (σ' := (97, I, J, R)) rfl ?_
              refine az_E.call (d := 1) (k' := 60) (vs := [.ref 61, .int v2, .int v5]) (pc' := 83) (S' := []) rfl ?_ (fun _ _ hq => hq)
              show az_E az_F ex 1 60 0 [.ref 61, .int v2, .int v5] [] (97, I, J, R) _
              refine az_E.sn 1 (pc' := 1) (L' := [.ref 61, .int v2, .int v5]) (S' := [.int v2]) (σ' := (97, I, J, R)) rfl ?_
              refine az_E.br (c := v2 < 0) (tt := 30) (ff := 4) (L' := [.ref 61, .int v2, .int v5]) (S' := []) (σ' := (97, I, J, R)) rfl (fun hc_296 => ?_) (fun hc_296 => ?_)
              · rw [if_pos hc_296] at h
                refine az_E.sn 1 (pc' := 31) (L' := [.ref 61, .int v2, .int v5]) (S' := [.int (0 : Int32)]) (σ' := (97, I, J, R)) rfl ?_
                refine az_E.ret (v := some (.int (0 : Int32))) (σ' := (97, I, J, R)) rfl ?_
                show az_E az_F ex 2 128 83 [.retAddr 0, .retAddr 0, .int v2, .retAddr 0, .int v4, .int v5, .ref 61, .ref 71] [.int (0 : Int32)] (97, I, J, R) _
                refine az_E.br (c := (0 : Int32) = 0) (tt := 98) (ff := 86) (L' := [.retAddr 0, .retAddr 0, .int v2, .retAddr 0, .int v4, .int v5, .ref 61, .ref 71]) (S' := []) (σ' := (97, I, J, R)) rfl (fun _ => ?_) (fun hn => absurd (by decide) hn)
                refine az_E.sn 1 (pc' := 100) (L' := [.retAddr 0, .retAddr 0, .int v2, .retAddr 0, .int v4, .int v5, .ref 61, .ref 71]) (S' := [.int (-13 : Int32)]) (σ' := (97, I, J, R)) rfl ?_
                have h := Option.some.inj h
                subst h
                exact az_E.ret (v := some (.int (-13 : Int32))) (σ' := (97, I, J, R)) rfl hQ
              · rw [if_neg hc_296] at h
                refine az_E.sn 1 (pc' := 5) (L' := [.ref 61, .int v2, .int v5]) (S' := [.int v5]) (σ' := (97, I, J, R)) rfl ?_
                refine az_E.br (c := v5 < 0) (tt := 30) (ff := 8) (L' := [.ref 61, .int v2, .int v5]) (S' := []) (σ' := (97, I, J, R)) rfl (fun hc_297 => ?_) (fun hc_297 => ?_)
                · rw [if_pos hc_297] at h
                  refine az_E.sn 1 (pc' := 31) (L' := [.ref 61, .int v2, .int v5]) (S' := [.int (0 : Int32)]) (σ' := (97, I, J, R)) rfl ?_
                  refine az_E.ret (v := some (.int (0 : Int32))) (σ' := (97, I, J, R)) rfl ?_
                  show az_E az_F ex 2 128 83 [.retAddr 0, .retAddr 0, .int v2, .retAddr 0, .int v4, .int v5, .ref 61, .ref 71] [.int (0 : Int32)] (97, I, J, R) _
                  refine az_E.br (c := (0 : Int32) = 0) (tt := 98) (ff := 86) (L' := [.retAddr 0, .retAddr 0, .int v2, .retAddr 0, .int v4, .int v5, .ref 61, .ref 71]) (S' := []) (σ' := (97, I, J, R)) rfl (fun _ => ?_) (fun hn => absurd (by decide) hn)
                  refine az_E.sn 1 (pc' := 100) (L' := [.retAddr 0, .retAddr 0, .int v2, .retAddr 0, .int v4, .int v5, .ref 61, .ref 71]) (S' := [.int (-13 : Int32)]) (σ' := (97, I, J, R)) rfl ?_
                  have h := Option.some.inj h
                  subst h
                  exact az_E.ret (v := some (.int (-13 : Int32))) (σ' := (97, I, J, R)) rfl hQ
                · rw [if_neg hc_297] at h
                  refine az_E.sn 3 (pc' := 13) (L' := [.ref 61, .int v2, .int v5]) (S' := [.int (I 61 2), .int v2]) (σ' := (97, I, J, R)) rfl ?_
                  refine az_E.br (c := (I 61 2) < v2) (tt := 30) (ff := 16) (L' := [.ref 61, .int v2, .int v5]) (S' := []) (σ' := (97, I, J, R)) rfl (fun hc_298 => ?_) (fun hc_298 => ?_)
                  · rw [if_pos hc_298] at h
                    refine az_E.sn 1 (pc' := 31) (L' := [.ref 61, .int v2, .int v5]) (S' := [.int (0 : Int32)]) (σ' := (97, I, J, R)) rfl ?_
                    refine az_E.ret (v := some (.int (0 : Int32))) (σ' := (97, I, J, R)) rfl ?_
                    show az_E az_F ex 2 128 83 [.retAddr 0, .retAddr 0, .int v2, .retAddr 0, .int v4, .int v5, .ref 61, .ref 71] [.int (0 : Int32)] (97, I, J, R) _
                    refine az_E.br (c := (0 : Int32) = 0) (tt := 98) (ff := 86) (L' := [.retAddr 0, .retAddr 0, .int v2, .retAddr 0, .int v4, .int v5, .ref 61, .ref 71]) (S' := []) (σ' := (97, I, J, R)) rfl (fun _ => ?_) (fun hn => absurd (by decide) hn)
                    refine az_E.sn 1 (pc' := 100) (L' := [.retAddr 0, .retAddr 0, .int v2, .retAddr 0, .int v4, .int v5, .ref 61, .ref 71]) (S' := [.int (-13 : Int32)]) (σ' := (97, I, J, R)) rfl ?_
                    have h := Option.some.inj h
                    subst h
                    exact az_E.ret (v := some (.int (-13 : Int32))) (σ' := (97, I, J, R)) rfl hQ
                  · rw [if_neg hc_298] at h
                    refine az_E.sn 5 (pc' := 23) (L' := [.ref 61, .int v2, .int v5]) (S' := [.int ((I 61 2) - v2), .int v5]) (σ' := (97, I, J, R)) rfl ?_
                    refine az_E.br (c := ((I 61 2) - v2) < v5) (tt := 30) (ff := 26) (L' := [.ref 61, .int v2, .int v5]) (S' := []) (σ' := (97, I, J, R)) rfl (fun hc_299 => ?_) (fun hc_299 => ?_)
                    · rw [if_pos hc_299] at h
                      refine az_E.sn 1 (pc' := 31) (L' := [.ref 61, .int v2, .int v5]) (S' := [.int (0 : Int32)]) (σ' := (97, I, J, R)) rfl ?_
                      refine az_E.ret (v := some (.int (0 : Int32))) (σ' := (97, I, J, R)) rfl ?_
                      show az_E az_F ex 2 128 83 [.retAddr 0, .retAddr 0, .int v2, .retAddr 0, .int v4, .int v5, .ref 61, .ref 71] [.int (0 : Int32)] (97, I, J, R) _
                      refine az_E.br (c := (0 : Int32) = 0) (tt := 98) (ff := 86) (L' := [.retAddr 0, .retAddr 0, .int v2, .retAddr 0, .int v4, .int v5, .ref 61, .ref 71]) (S' := []) (σ' := (97, I, J, R)) rfl (fun _ => ?_) (fun hn => absurd (by decide) hn)
                      refine az_E.sn 1 (pc' := 100) (L' := [.retAddr 0, .retAddr 0, .int v2, .retAddr 0, .int v4, .int v5, .ref 61, .ref 71]) (S' := [.int (-13 : Int32)]) (σ' := (97, I, J, R)) rfl ?_
                      have h := Option.some.inj h
                      subst h
                      exact az_E.ret (v := some (.int (-13 : Int32))) (σ' := (97, I, J, R)) rfl hQ
                    · rw [if_neg hc_299] at h
                      refine az_E.sn 2 (pc' := 31) (L' := [.ref 61, .int v2, .int v5]) (S' := [.int (1 : Int32)]) (σ' := (97, I, J, R)) rfl ?_
                      refine az_E.ret (v := some (.int (1 : Int32))) (σ' := (97, I, J, R)) rfl ?_
                      show az_E az_F ex 2 128 83 [.retAddr 0, .retAddr 0, .int v2, .retAddr 0, .int v4, .int v5, .ref 61, .ref 71] [.int (1 : Int32)] (97, I, J, R) _
                      refine az_E.br (c := (1 : Int32) = 0) (tt := 98) (ff := 86) (L' := [.retAddr 0, .retAddr 0, .int v2, .retAddr 0, .int v4, .int v5, .ref 61, .ref 71]) (S' := []) (σ' := (97, I, J, R)) rfl (fun hn => absurd hn (by decide)) (fun _ => ?_)
                      refine az_E.sn 3 (pc' := 92) (L' := [.retAddr 0, .retAddr 0, .int v2, .retAddr 0, .int v4, .int v5, .ref 61, .ref 71]) (S' := [.int v5, .int v4, .ref 71]) (σ' := (97, I, J, R)) rfl ?_
                      refine az_E.call (d := 1) (k' := 60) (vs := [.ref 71, .int v4, .int v5]) (pc' := 95) (S' := []) rfl ?_ (fun _ _ hq => hq)
                      show az_E az_F ex 1 60 0 [.ref 71, .int v4, .int v5] [] (97, I, J, R) _
                      refine az_E.sn 1 (pc' := 1) (L' := [.ref 71, .int v4, .int v5]) (S' := [.int v4]) (σ' := (97, I, J, R)) rfl ?_
                      refine az_E.br (c := v4 < 0) (tt := 30) (ff := 4) (L' := [.ref 71, .int v4, .int v5]) (S' := []) (σ' := (97, I, J, R)) rfl (fun hc_300 => ?_) (fun hc_300 => ?_)
                      · rw [if_pos hc_300] at h
                        refine az_E.sn 1 (pc' := 31) (L' := [.ref 71, .int v4, .int v5]) (S' := [.int (0 : Int32)]) (σ' := (97, I, J, R)) rfl ?_
                        refine az_E.ret (v := some (.int (0 : Int32))) (σ' := (97, I, J, R)) rfl ?_
                        show az_E az_F ex 2 128 95 [.retAddr 0, .retAddr 0, .int v2, .retAddr 0, .int v4, .int v5, .ref 61, .ref 71] [.int (0 : Int32)] (97, I, J, R) _
                        refine az_E.br (c := (0 : Int32) = 0) (tt := 98) (ff := 101) (L' := [.retAddr 0, .retAddr 0, .int v2, .retAddr 0, .int v4, .int v5, .ref 61, .ref 71]) (S' := []) (σ' := (97, I, J, R)) rfl (fun _ => ?_) (fun hn => absurd (by decide) hn)
                        refine az_E.sn 1 (pc' := 100) (L' := [.retAddr 0, .retAddr 0, .int v2, .retAddr 0, .int v4, .int v5, .ref 61, .ref 71]) (S' := [.int (-13 : Int32)]) (σ' := (97, I, J, R)) rfl ?_
                        have h := Option.some.inj h
                        subst h
                        exact az_E.ret (v := some (.int (-13 : Int32))) (σ' := (97, I, J, R)) rfl hQ
                      · rw [if_neg hc_300] at h
                        refine az_E.sn 1 (pc' := 5) (L' := [.ref 71, .int v4, .int v5]) (S' := [.int v5]) (σ' := (97, I, J, R)) rfl ?_
                        refine az_E.br (c := v5 < 0) (tt := 30) (ff := 8) (L' := [.ref 71, .int v4, .int v5]) (S' := []) (σ' := (97, I, J, R)) rfl (fun hc_301 => ?_) (fun hc_301 => ?_)
                        · rw [if_pos hc_301] at h
                          refine az_E.sn 1 (pc' := 31) (L' := [.ref 71, .int v4, .int v5]) (S' := [.int (0 : Int32)]) (σ' := (97, I, J, R)) rfl ?_
                          refine az_E.ret (v := some (.int (0 : Int32))) (σ' := (97, I, J, R)) rfl ?_
                          show az_E az_F ex 2 128 95 [.retAddr 0, .retAddr 0, .int v2, .retAddr 0, .int v4, .int v5, .ref 61, .ref 71] [.int (0 : Int32)] (97, I, J, R) _
                          refine az_E.br (c := (0 : Int32) = 0) (tt := 98) (ff := 101) (L' := [.retAddr 0, .retAddr 0, .int v2, .retAddr 0, .int v4, .int v5, .ref 61, .ref 71]) (S' := []) (σ' := (97, I, J, R)) rfl (fun _ => ?_) (fun hn => absurd (by decide) hn)
                          refine az_E.sn 1 (pc' := 100) (L' := [.retAddr 0, .retAddr 0, .int v2, .retAddr 0, .int v4, .int v5, .ref 61, .ref 71]) (S' := [.int (-13 : Int32)]) (σ' := (97, I, J, R)) rfl ?_
                          have h := Option.some.inj h
                          subst h
                          exact az_E.ret (v := some (.int (-13 : Int32))) (σ' := (97, I, J, R)) rfl hQ
                        · rw [if_neg hc_301] at h
                          refine az_E.sn 3 (pc' := 13) (L' := [.ref 71, .int v4, .int v5]) (S' := [.int (I 71 2), .int v4]) (σ' := (97, I, J, R)) rfl ?_
                          refine az_E.br (c := (I 71 2) < v4) (tt := 30) (ff := 16) (L' := [.ref 71, .int v4, .int v5]) (S' := []) (σ' := (97, I, J, R)) rfl (fun hc_302 => ?_) (fun hc_302 => ?_)
                          · rw [if_pos hc_302] at h
                            refine az_E.sn 1 (pc' := 31) (L' := [.ref 71, .int v4, .int v5]) (S' := [.int (0 : Int32)]) (σ' := (97, I, J, R)) rfl ?_
                            refine az_E.ret (v := some (.int (0 : Int32))) (σ' := (97, I, J, R)) rfl ?_
                            show az_E az_F ex 2 128 95 [.retAddr 0, .retAddr 0, .int v2, .retAddr 0, .int v4, .int v5, .ref 61, .ref 71] [.int (0 : Int32)] (97, I, J, R) _
                            refine az_E.br (c := (0 : Int32) = 0) (tt := 98) (ff := 101) (L' := [.retAddr 0, .retAddr 0, .int v2, .retAddr 0, .int v4, .int v5, .ref 61, .ref 71]) (S' := []) (σ' := (97, I, J, R)) rfl (fun _ => ?_) (fun hn => absurd (by decide) hn)
                            refine az_E.sn 1 (pc' := 100) (L' := [.retAddr 0, .retAddr 0, .int v2, .retAddr 0, .int v4, .int v5, .ref 61, .ref 71]) (S' := [.int (-13 : Int32)]) (σ' := (97, I, J, R)) rfl ?_
                            have h := Option.some.inj h
                            subst h
                            exact az_E.ret (v := some (.int (-13 : Int32))) (σ' := (97, I, J, R)) rfl hQ
                          · rw [if_neg hc_302] at h
                            refine az_E.sn 5 (pc' := 23) (L' := [.ref 71, .int v4, .int v5]) (S' := [.int ((I 71 2) - v4), .int v5]) (σ' := (97, I, J, R)) rfl ?_
                            refine az_E.br (c := ((I 71 2) - v4) < v5) (tt := 30) (ff := 26) (L' := [.ref 71, .int v4, .int v5]) (S' := []) (σ' := (97, I, J, R)) rfl (fun hc_303 => ?_) (fun hc_303 => ?_)
                            · rw [if_pos hc_303] at h
                              refine az_E.sn 1 (pc' := 31) (L' := [.ref 71, .int v4, .int v5]) (S' := [.int (0 : Int32)]) (σ' := (97, I, J, R)) rfl ?_
                              refine az_E.ret (v := some (.int (0 : Int32))) (σ' := (97, I, J, R)) rfl ?_
                              show az_E az_F ex 2 128 95 [.retAddr 0, .retAddr 0, .int v2, .retAddr 0, .int v4, .int v5, .ref 61, .ref 71] [.int (0 : Int32)] (97, I, J, R) _
                              refine az_E.br (c := (0 : Int32) = 0) (tt := 98) (ff := 101) (L' := [.retAddr 0, .retAddr 0, .int v2, .retAddr 0, .int v4, .int v5, .ref 61, .ref 71]) (S' := []) (σ' := (97, I, J, R)) rfl (fun _ => ?_) (fun hn => absurd (by decide) hn)
                              refine az_E.sn 1 (pc' := 100) (L' := [.retAddr 0, .retAddr 0, .int v2, .retAddr 0, .int v4, .int v5, .ref 61, .ref 71]) (S' := [.int (-13 : Int32)]) (σ' := (97, I, J, R)) rfl ?_
                              have h := Option.some.inj h
                              subst h
                              exact az_E.ret (v := some (.int (-13 : Int32))) (σ' := (97, I, J, R)) rfl hQ
                            · rw [if_neg hc_303] at h
                              refine az_E.sn 2 (pc' := 31) (L' := [.ref 71, .int v4, .int v5]) (S' := [.int (1 : Int32)]) (σ' := (97, I, J, R)) rfl ?_
                              refine az_E.ret (v := some (.int (1 : Int32))) (σ' := (97, I, J, R)) rfl ?_
                              show az_E az_F ex 2 128 95 [.retAddr 0, .retAddr 0, .int v2, .retAddr 0, .int v4, .int v5, .ref 61, .ref 71] [.int (1 : Int32)] (97, I, J, R) _
                              refine az_E.br (c := (1 : Int32) = 0) (tt := 98) (ff := 101) (L' := [.retAddr 0, .retAddr 0, .int v2, .retAddr 0, .int v4, .int v5, .ref 61, .ref 71]) (S' := []) (σ' := (97, I, J, R)) rfl (fun hn => absurd hn (by decide)) (fun _ => ?_)
                              refine az_E.sn 7 (pc' := 116) (L' := [.retAddr 0, .retAddr 0, .int v2, .retAddr 0, .int v4, .int v5, .ref 61, .ref 71]) (S' := [.int v5, .int v4, .ref (71 + 1), .int v2, .ref (61 + 1)]) (σ' := (97, I, J, R)) rfl ?_
                              by_cases hc_304 : v2 < 0 ∨ v4 < 0 ∨ v5 < 0 ∨ 60 < v2.toNatClampNeg + v5.toNatClampNeg ∨ 60 < v4.toNatClampNeg + v5.toNatClampNeg
                              · rw [if_pos hc_304] at h; cases h
                              · rw [if_neg hc_304] at h
                                refine az_E.o (o := az_cp az_F (97, I, J, R) (61 + 1) v2 (71 + 1) v4 v5) (pc' := 119) (L' := [.retAddr 0, .retAddr 0, .int v2, .retAddr 0, .int v4, .int v5, .ref 61, .ref 71]) (S' := []) (x := (97, I, (az_ur J (71 + 1) (va_cpy (J (61 + 1)) (J (71 + 1)) v2.toNatClampNeg v4.toNatClampNeg v5.toNatClampNeg)), R)) rfl (if_neg hc_304) ?_
                                refine az_E.sn 1 (pc' := 121) (L' := [.retAddr 0, .retAddr 0, .int v2, .retAddr 0, .int v4, .int v5, .ref 61, .ref 71]) (S' := [.int v5]) (σ' := (97, I, (az_ur J (71 + 1) (va_cpy (J (61 + 1)) (J (71 + 1)) v2.toNatClampNeg v4.toNatClampNeg v5.toNatClampNeg)), R)) rfl ?_
                                have h := Option.some.inj h
                                subst h
                                exact az_E.ret (v := some (.int v5)) (σ' := (97, I, (az_ur J (71 + 1) (va_cpy (J (61 + 1)) (J (71 + 1)) v2.toNatClampNeg v4.toNatClampNeg v5.toNatClampNeg)), R)) rfl hQ
            · rw [if_neg hc_295] at h
              refine az_E.sn 1 (pc' := 20) (L' := [.ref 71, .int (I 61 1)]) (S' := [.int (0 : Int32)]) (σ' := (97, I, J, R)) rfl ?_
              refine az_E.ret (v := some (.int (0 : Int32))) (σ' := (97, I, J, R)) rfl ?_
              show az_E az_F ex 2 128 69 [.retAddr 0, .retAddr 0, .int v2, .retAddr 0, .int v4, .int v5, .ref 61, .ref 71] [.int (0 : Int32)] (97, I, J, R) _
              refine az_E.br (c := (0 : Int32) = 0) (tt := 72) (ff := 75) (L' := [.retAddr 0, .retAddr 0, .int v2, .retAddr 0, .int v4, .int v5, .ref 61, .ref 71]) (S' := []) (σ' := (97, I, J, R)) rfl (fun _ => ?_) (fun hn => absurd (by decide) hn)
              refine az_E.sn 1 (pc' := 74) (L' := [.retAddr 0, .retAddr 0, .int v2, .retAddr 0, .int v4, .int v5, .ref 61, .ref 71]) (S' := [.int (-12 : Int32)]) (σ' := (97, I, J, R)) rfl ?_
              have h := Option.some.inj h
              subst h
              exact az_E.ret (v := some (.int (-12 : Int32))) (σ' := (97, I, J, R)) rfl hQ
  · rw [if_neg hc_277] at h
    refine az_E.sn 1 (pc' := 21) (L' := [.ref 61]) (S' := [.int (0 : Int32)]) (σ' := (97, I, J, R)) rfl ?_
    refine az_E.ret (v := some (.int (0 : Int32))) (σ' := (97, I, J, R)) rfl ?_
    show az_E az_F ex 2 128 37 [.retAddr 0, .retAddr 0, .int v2, .retAddr 0, .int v4, .int v5, .ref 61, .ref 71] [.int (0 : Int32)] (97, I, J, R) _
    refine az_E.br (c := (0 : Int32) = 0) (tt := 40) (ff := 48) (L' := [.retAddr 0, .retAddr 0, .int v2, .retAddr 0, .int v4, .int v5, .ref 61, .ref 71]) (S' := []) (σ' := (97, I, J, R)) rfl (fun _ => ?_) (fun hn => absurd (by decide) hn)
    refine az_E.sn 1 (pc' := 42) (L' := [.retAddr 0, .retAddr 0, .int v2, .retAddr 0, .int v4, .int v5, .ref 61, .ref 71]) (S' := [.ref 71]) (σ' := (97, I, J, R)) rfl ?_
    refine az_E.call (d := 1) (k' := 54) (vs := [.ref 71]) (pc' := 45) (S' := []) rfl ?_ (fun _ _ hq => hq)
    show az_E az_F ex 1 54 0 [.ref 71] [] (97, I, J, R) _
    refine az_E.sn 3 (pc' := 5) (L' := [.ref 71]) (S' := [.int (-1 : Int32), .int (I 71 0)]) (σ' := (97, I, J, R)) rfl ?_
    refine az_E.br (c := (I 71 0) = (-1 : Int32)) (tt := 8) (ff := 20) (L' := [.ref 71]) (S' := []) (σ' := (97, I, J, R)) rfl (fun hc_305 => ?_) (fun hc_305 => ?_)
    · rw [if_pos hc_305] at h
      refine az_E.sn 3 (pc' := 13) (L' := [.ref 71]) (S' := [.int (-1 : Int32), .int (I 71 1)]) (σ' := (97, I, J, R)) rfl ?_
      refine az_E.br (c := (I 71 1) = (-1 : Int32)) (tt := 16) (ff := 20) (L' := [.ref 71]) (S' := []) (σ' := (97, I, J, R)) rfl (fun hc_306 => ?_) (fun hc_306 => ?_)
      · rw [if_pos hc_306] at h
        refine az_E.sn 2 (pc' := 21) (L' := [.ref 71]) (S' := [.int (1 : Int32)]) (σ' := (97, I, J, R)) rfl ?_
        refine az_E.ret (v := some (.int (1 : Int32))) (σ' := (97, I, J, R)) rfl ?_
        show az_E az_F ex 2 128 45 [.retAddr 0, .retAddr 0, .int v2, .retAddr 0, .int v4, .int v5, .ref 61, .ref 71] [.int (1 : Int32)] (97, I, J, R) _
        refine az_E.br (c := (1 : Int32) = 0) (tt := 51) (ff := 48) (L' := [.retAddr 0, .retAddr 0, .int v2, .retAddr 0, .int v4, .int v5, .ref 61, .ref 71]) (S' := []) (σ' := (97, I, J, R)) rfl (fun hn => absurd hn (by decide)) (fun _ => ?_)
        refine az_E.sn 1 (pc' := 50) (L' := [.retAddr 0, .retAddr 0, .int v2, .retAddr 0, .int v4, .int v5, .ref 61, .ref 71]) (S' := [.int (-11 : Int32)]) (σ' := (97, I, J, R)) rfl ?_
        have h := Option.some.inj h
        subst h
        exact az_E.ret (v := some (.int (-11 : Int32))) (σ' := (97, I, J, R)) rfl hQ
      · rw [if_neg hc_306] at h
        refine az_E.sn 1 (pc' := 21) (L' := [.ref 71]) (S' := [.int (0 : Int32)]) (σ' := (97, I, J, R)) rfl ?_
        refine az_E.ret (v := some (.int (0 : Int32))) (σ' := (97, I, J, R)) rfl ?_
        show az_E az_F ex 2 128 45 [.retAddr 0, .retAddr 0, .int v2, .retAddr 0, .int v4, .int v5, .ref 61, .ref 71] [.int (0 : Int32)] (97, I, J, R) _
        refine az_E.br (c := (0 : Int32) = 0) (tt := 51) (ff := 48) (L' := [.retAddr 0, .retAddr 0, .int v2, .retAddr 0, .int v4, .int v5, .ref 61, .ref 71]) (S' := []) (σ' := (97, I, J, R)) rfl (fun _ => ?_) (fun hn => absurd (by decide) hn)
        refine az_E.sn 1 (pc' := 53) (L' := [.retAddr 0, .retAddr 0, .int v2, .retAddr 0, .int v4, .int v5, .ref 61, .ref 71]) (S' := [.ref 61]) (σ' := (97, I, J, R)) rfl ?_
        refine az_E.call (d := 1) (k' := 55) (vs := [.ref 61]) (pc' := 56) (S' := []) rfl ?_ (fun _ _ hq => hq)
        show az_E az_F ex 1 55 0 [.ref 61] [] (97, I, J, R) _
        refine az_E.sn 3 (pc' := 5) (L' := [.ref 61]) (S' := [.int (-1 : Int32), .int (I 61 1)]) (σ' := (97, I, J, R)) rfl ?_
        refine az_E.br (c := (I 61 1) = (-1 : Int32)) (tt := 12) (ff := 8) (L' := [.ref 61]) (S' := []) (σ' := (97, I, J, R)) rfl (fun hc_307 => ?_) (fun hc_307 => ?_)
        · rw [if_pos hc_307] at h
          refine az_E.sn 1 (pc' := 13) (L' := [.ref 61]) (S' := [.int (0 : Int32)]) (σ' := (97, I, J, R)) rfl ?_
          refine az_E.ret (v := some (.int (0 : Int32))) (σ' := (97, I, J, R)) rfl ?_
          show az_E az_F ex 2 128 56 [.retAddr 0, .retAddr 0, .int v2, .retAddr 0, .int v4, .int v5, .ref 61, .ref 71] [.int (0 : Int32)] (97, I, J, R) _
          refine az_E.br (c := (0 : Int32) = 0) (tt := 72) (ff := 59) (L' := [.retAddr 0, .retAddr 0, .int v2, .retAddr 0, .int v4, .int v5, .ref 61, .ref 71]) (S' := []) (σ' := (97, I, J, R)) rfl (fun _ => ?_) (fun hn => absurd (by decide) hn)
          refine az_E.sn 1 (pc' := 74) (L' := [.retAddr 0, .retAddr 0, .int v2, .retAddr 0, .int v4, .int v5, .ref 61, .ref 71]) (S' := [.int (-12 : Int32)]) (σ' := (97, I, J, R)) rfl ?_
          have h := Option.some.inj h
          subst h
          exact az_E.ret (v := some (.int (-12 : Int32))) (σ' := (97, I, J, R)) rfl hQ
        · rw [if_neg hc_307] at h
          refine az_E.sn 2 (pc' := 13) (L' := [.ref 61]) (S' := [.int (1 : Int32)]) (σ' := (97, I, J, R)) rfl ?_
          refine az_E.ret (v := some (.int (1 : Int32))) (σ' := (97, I, J, R)) rfl ?_
          show az_E az_F ex 2 128 56 [.retAddr 0, .retAddr 0, .int v2, .retAddr 0, .int v4, .int v5, .ref 61, .ref 71] [.int (1 : Int32)] (97, I, J, R) _
          refine az_E.br (c := (1 : Int32) = 0) (tt := 72) (ff := 59) (L' := [.retAddr 0, .retAddr 0, .int v2, .retAddr 0, .int v4, .int v5, .ref 61, .ref 71]) (S' := []) (σ' := (97, I, J, R)) rfl (fun hn => absurd hn (by decide)) (fun _ => ?_)
          refine az_E.sn 3 (pc' := 66) (L' := [.retAddr 0, .retAddr 0, .int v2, .retAddr 0, .int v4, .int v5, .ref 61, .ref 71]) (S' := [.int (I 61 1), .ref 71]) (σ' := (97, I, J, R)) rfl ?_
          refine az_E.call (d := 1) (k' := 56) (vs := [.ref 71, .int (I 61 1)]) (pc' := 69) (S' := []) rfl ?_ (fun _ _ hq => hq)
          show az_E az_F ex 1 56 0 [.ref 71, .int (I 61 1)] [] (97, I, J, R) _
          refine az_E.sn 1 (pc' := 1) (L' := [.ref 71, .int (I 61 1)]) (S' := [.ref 71]) (σ' := (97, I, J, R)) rfl ?_
          refine az_E.call (d := 0) (k' := 55) (vs := [.ref 71]) (pc' := 4) (S' := []) rfl ?_ (fun _ _ hq => hq)
          show az_E az_F ex 0 55 0 [.ref 71] [] (97, I, J, R) _
          refine az_E.sn 3 (pc' := 5) (L' := [.ref 71]) (S' := [.int (-1 : Int32), .int (I 71 1)]) (σ' := (97, I, J, R)) rfl ?_
          refine az_E.br (c := (I 71 1) = (-1 : Int32)) (tt := 12) (ff := 8) (L' := [.ref 71]) (S' := []) (σ' := (97, I, J, R)) rfl (fun hc_308 => ?_) (fun hc_308 => ?_)
          · rw [if_pos hc_308] at h
            refine az_E.sn 1 (pc' := 13) (L' := [.ref 71]) (S' := [.int (0 : Int32)]) (σ' := (97, I, J, R)) rfl ?_
            refine az_E.ret (v := some (.int (0 : Int32))) (σ' := (97, I, J, R)) rfl ?_
            show az_E az_F ex 1 56 4 [.ref 71, .int (I 61 1)] [.int (0 : Int32)] (97, I, J, R) _
            refine az_E.br (c := (0 : Int32) = 0) (tt := 19) (ff := 7) (L' := [.ref 71, .int (I 61 1)]) (S' := []) (σ' := (97, I, J, R)) rfl (fun _ => ?_) (fun hn => absurd (by decide) hn)
            refine az_E.sn 1 (pc' := 20) (L' := [.ref 71, .int (I 61 1)]) (S' := [.int (0 : Int32)]) (σ' := (97, I, J, R)) rfl ?_
            refine az_E.ret (v := some (.int (0 : Int32))) (σ' := (97, I, J, R)) rfl ?_
            show az_E az_F ex 2 128 69 [.retAddr 0, .retAddr 0, .int v2, .retAddr 0, .int v4, .int v5, .ref 61, .ref 71] [.int (0 : Int32)] (97, I, J, R) _
            refine az_E.br (c := (0 : Int32) = 0) (tt := 72) (ff := 75) (L' := [.retAddr 0, .retAddr 0, .int v2, .retAddr 0, .int v4, .int v5, .ref 61, .ref 71]) (S' := []) (σ' := (97, I, J, R)) rfl (fun _ => ?_) (fun hn => absurd (by decide) hn)
            refine az_E.sn 1 (pc' := 74) (L' := [.retAddr 0, .retAddr 0, .int v2, .retAddr 0, .int v4, .int v5, .ref 61, .ref 71]) (S' := [.int (-12 : Int32)]) (σ' := (97, I, J, R)) rfl ?_
            have h := Option.some.inj h
            subst h
            exact az_E.ret (v := some (.int (-12 : Int32))) (σ' := (97, I, J, R)) rfl hQ
          · rw [if_neg hc_308] at h
            refine az_E.sn 2 (pc' := 13) (L' := [.ref 71]) (S' := [.int (1 : Int32)]) (σ' := (97, I, J, R)) rfl ?_
            refine az_E.ret (v := some (.int (1 : Int32))) (σ' := (97, I, J, R)) rfl ?_
            show az_E az_F ex 1 56 4 [.ref 71, .int (I 61 1)] [.int (1 : Int32)] (97, I, J, R) _
            refine az_E.br (c := (1 : Int32) = 0) (tt := 19) (ff := 7) (L' := [.ref 71, .int (I 61 1)]) (S' := []) (σ' := (97, I, J, R)) rfl (fun hn => absurd hn (by decide)) (fun _ => ?_)
            refine az_E.sn 3 (pc' := 12) (L' := [.ref 71, .int (I 61 1)]) (S' := [.int (I 61 1), .int (I 71 1)]) (σ' := (97, I, J, R)) rfl ?_
            refine az_E.br (c := (I 71 1) = (I 61 1)) (tt := 15) (ff := 19) (L' := [.ref 71, .int (I 61 1)]) (S' := []) (σ' := (97, I, J, R)) rfl (fun hc_309 => ?_) (fun hc_309 => ?_)
            · rw [if_pos hc_309] at h
              refine az_E.sn 2 (pc' := 20) (L' := [.ref 71, .int (I 61 1)]) (S' := [.int (1 : Int32)]) (σ' := (97, I, J, R)) rfl ?_
              refine az_E.ret (v := some (.int (1 : Int32))) (σ' := (97, I, J, R)) rfl ?_
              show az_E az_F ex 2 128 69 [.retAddr 0, .retAddr 0, .int v2, .retAddr 0, .int v4, .int v5, .ref 61, .ref 71] [.int (1 : Int32)] (97, I, J, R) _
              refine az_E.br (c := (1 : Int32) = 0) (tt := 72) (ff := 75) (L' := [.retAddr 0, .retAddr 0, .int v2, .retAddr 0, .int v4, .int v5, .ref 61, .ref 71]) (S' := []) (σ' := (97, I, J, R)) rfl (fun hn => absurd hn (by decide)) (fun _ => ?_)
              refine az_E.sn 3 (pc' := 80) (L' := [.retAddr 0, .retAddr 0, .int v2, .retAddr 0, .int v4, .int v5, .ref 61, .ref 71]) (S' := [.int v5, .int v2, .ref 61]) (σ' := (97, I, J, R)) rfl ?_
              refine az_E.call (d := 1) (k' := 60) (vs := [.ref 61, .int v2, .int v5]) (pc' := 83) (S' := []) rfl ?_ (fun _ _ hq => hq)
              show az_E az_F ex 1 60 0 [.ref 61, .int v2, .int v5] [] (97, I, J, R) _
              refine az_E.sn 1 (pc' := 1) (L' := [.ref 61, .int v2, .int v5]) (S' := [.int v2]) (σ' := (97, I, J, R)) rfl ?_
              refine az_E.br (c := v2 < 0) (tt := 30) (ff := 4) (L' := [.ref 61, .int v2, .int v5]) (S' := []) (σ' := (97, I, J, R)) rfl (fun hc_310 => ?_) (fun hc_310 => ?_)
              · rw [if_pos hc_310] at h
                refine az_E.sn 1 (pc' := 31) (L' := [.ref 61, .int v2, .int v5]) (S' := [.int (0 : Int32)]) (σ' := (97, I, J, R)) rfl ?_
                refine az_E.ret (v := some (.int (0 : Int32))) (σ' := (97, I, J, R)) rfl ?_
                show az_E az_F ex 2 128 83 [.retAddr 0, .retAddr 0, .int v2, .retAddr 0, .int v4, .int v5, .ref 61, .ref 71] [.int (0 : Int32)] (97, I, J, R) _
                refine az_E.br (c := (0 : Int32) = 0) (tt := 98) (ff := 86) (L' := [.retAddr 0, .retAddr 0, .int v2, .retAddr 0, .int v4, .int v5, .ref 61, .ref 71]) (S' := []) (σ' := (97, I, J, R)) rfl (fun _ => ?_) (fun hn => absurd (by decide) hn)
                refine az_E.sn 1 (pc' := 100) (L' := [.retAddr 0, .retAddr 0, .int v2, .retAddr 0, .int v4, .int v5, .ref 61, .ref 71]) (S' := [.int (-13 : Int32)]) (σ' := (97, I, J, R)) rfl ?_
                have h := Option.some.inj h
                subst h
                exact az_E.ret (v := some (.int (-13 : Int32))) (σ' := (97, I, J, R)) rfl hQ
              · rw [if_neg hc_310] at h
                refine az_E.sn 1 (pc' := 5) (L' := [.ref 61, .int v2, .int v5]) (S' := [.int v5]) (σ' := (97, I, J, R)) rfl ?_
                refine az_E.br (c := v5 < 0) (tt := 30) (ff := 8) (L' := [.ref 61, .int v2, .int v5]) (S' := []) (σ' := (97, I, J, R)) rfl (fun hc_311 => ?_) (fun hc_311 => ?_)
                · rw [if_pos hc_311] at h
                  refine az_E.sn 1 (pc' := 31) (L' := [.ref 61, .int v2, .int v5]) (S' := [.int (0 : Int32)]) (σ' := (97, I, J, R)) rfl ?_
                  refine az_E.ret (v := some (.int (0 : Int32))) (σ' := (97, I, J, R)) rfl ?_
                  show az_E az_F ex 2 128 83 [.retAddr 0, .retAddr 0, .int v2, .retAddr 0, .int v4, .int v5, .ref 61, .ref 71] [.int (0 : Int32)] (97, I, J, R) _
                  refine az_E.br (c := (0 : Int32) = 0) (tt := 98) (ff := 86) (L' := [.retAddr 0, .retAddr 0, .int v2, .retAddr 0, .int v4, .int v5, .ref 61, .ref 71]) (S' := []) (σ' := (97, I, J, R)) rfl (fun _ => ?_) (fun hn => absurd (by decide) hn)
                  refine az_E.sn 1 (pc' := 100) (L' := [.retAddr 0, .retAddr 0, .int v2, .retAddr 0, .int v4, .int v5, .ref 61, .ref 71]) (S' := [.int (-13 : Int32)]) (σ' := (97, I, J, R)) rfl ?_
                  have h := Option.some.inj h
                  subst h
                  exact az_E.ret (v := some (.int (-13 : Int32))) (σ' := (97, I, J, R)) rfl hQ
                · rw [if_neg hc_311] at h
                  refine az_E.sn 3 (pc' := 13) (L' := [.ref 61, .int v2, .int v5]) (S' := [.int (I 61 2), .int v2]) (σ' := (97, I, J, R)) rfl ?_
                  refine az_E.br (c := (I 61 2) < v2) (tt := 30) (ff := 16) (L' := [.ref 61, .int v2, .int v5]) (S' := []) (σ' := (97, I, J, R)) rfl (fun hc_312 => ?_) (fun hc_312 => ?_)
                  · rw [if_pos hc_312] at h
                    refine az_E.sn 1 (pc' := 31) (L' := [.ref 61, .int v2, .int v5]) (S' := [.int (0 : Int32)]) (σ' := (97, I, J, R)) rfl ?_
                    refine az_E.ret (v := some (.int (0 : Int32))) (σ' := (97, I, J, R)) rfl ?_
                    show az_E az_F ex 2 128 83 [.retAddr 0, .retAddr 0, .int v2, .retAddr 0, .int v4, .int v5, .ref 61, .ref 71] [.int (0 : Int32)] (97, I, J, R) _
                    refine az_E.br (c := (0 : Int32) = 0) (tt := 98) (ff := 86) (L' := [.retAddr 0, .retAddr 0, .int v2, .retAddr 0, .int v4, .int v5, .ref 61, .ref 71]) (S' := []) (σ' := (97, I, J, R)) rfl (fun _ => ?_) (fun hn => absurd (by decide) hn)
                    refine az_E.sn 1 (pc' := 100) (L' := [.retAddr 0, .retAddr 0, .int v2, .retAddr 0, .int v4, .int v5, .ref 61, .ref 71]) (S' := [.int (-13 : Int32)]) (σ' := (97, I, J, R)) rfl ?_
                    have h := Option.some.inj h
                    subst h
                    exact az_E.ret (v := some (.int (-13 : Int32))) (σ' := (97, I, J, R)) rfl hQ
                  · rw [if_neg hc_312] at h
                    refine az_E.sn 5 (pc' := 23) (L' := [.ref 61, .int v2, .int v5]) (S' := [.int ((I 61 2) - v2), .int v5]) (σ' := (97, I, J, R)) rfl ?_
                    refine az_E.br (c := ((I 61 2) - v2) < v5) (tt := 30) (ff := 26) (L' := [.ref 61, .int v2, .int v5]) (S' := []) (σ' := (97, I, J, R)) rfl (fun hc_313 => ?_) (fun hc_313 => ?_)
                    · rw [if_pos hc_313] at h
                      refine az_E.sn 1 (pc' := 31) (L' := [.ref 61, .int v2, .int v5]) (S' := [.int (0 : Int32)]) (σ' := (97, I, J, R)) rfl ?_
                      refine az_E.ret (v := some (.int (0 : Int32))) (σ' := (97, I, J, R)) rfl ?_
                      show az_E az_F ex 2 128 83 [.retAddr 0, .retAddr 0, .int v2, .retAddr 0, .int v4, .int v5, .ref 61, .ref 71] [.int (0 : Int32)] (97, I, J, R) _
                      refine az_E.br (c := (0 : Int32) = 0) (tt := 98) (ff := 86) (L' := [.retAddr 0, .retAddr 0, .int v2, .retAddr 0, .int v4, .int v5, .ref 61, .ref 71]) (S' := []) (σ' := (97, I, J, R)) rfl (fun _ => ?_) (fun hn => absurd (by decide) hn)
                      refine az_E.sn 1 (pc' := 100) (L' := [.retAddr 0, .retAddr 0, .int v2, .retAddr 0, .int v4, .int v5, .ref 61, .ref 71]) (S' := [.int (-13 : Int32)]) (σ' := (97, I, J, R)) rfl ?_
                      have h := Option.some.inj h
                      subst h
                      exact az_E.ret (v := some (.int (-13 : Int32))) (σ' := (97, I, J, R)) rfl hQ
                    · rw [if_neg hc_313] at h
                      refine az_E.sn 2 (pc' := 31) (L' := [.ref 61, .int v2, .int v5]) (S' := [.int (1 : Int32)]) (σ' := (97, I, J, R)) rfl ?_
                      refine az_E.ret (v := some (.int (1 : Int32))) (σ' := (97, I, J, R)) rfl ?_
                      show az_E az_F ex 2 128 83 [.retAddr 0, .retAddr 0, .int v2, .retAddr 0, .int v4, .int v5, .ref 61, .ref 71] [.int (1 : Int32)] (97, I, J, R) _
                      refine az_E.br (c := (1 : Int32) = 0) (tt := 98) (ff := 86) (L' := [.retAddr 0, .retAddr 0, .int v2, .retAddr 0, .int v4, .int v5, .ref 61, .ref 71]) (S' := []) (σ' := (97, I, J, R)) rfl (fun hn => absurd hn (by decide)) (fun _ => ?_)
                      refine az_E.sn 3 (pc' := 92) (L' := [.retAddr 0, .retAddr 0, .int v2, .retAddr 0, .int v4, .int v5, .ref 61, .ref 71]) (S' := [.int v5, .int v4, .ref 71]) (σ' := (97, I, J, R)) rfl ?_
                      refine az_E.call (d := 1) (k' := 60) (vs := [.ref 71, .int v4, .int v5]) (pc' := 95) (S' := []) rfl ?_ (fun _ _ hq => hq)
                      show az_E az_F ex 1 60 0 [.ref 71, .int v4, .int v5] [] (97, I, J, R) _
                      refine az_E.sn 1 (pc' := 1) (L' := [.ref 71, .int v4, .int v5]) (S' := [.int v4]) (σ' := (97, I, J, R)) rfl ?_
                      refine az_E.br (c := v4 < 0) (tt := 30) (ff := 4) (L' := [.ref 71, .int v4, .int v5]) (S' := []) (σ' := (97, I, J, R)) rfl (fun hc_314 => ?_) (fun hc_314 => ?_)
                      · rw [if_pos hc_314] at h
                        refine az_E.sn 1 (pc' := 31) (L' := [.ref 71, .int v4, .int v5]) (S' := [.int (0 : Int32)]) (σ' := (97, I, J, R)) rfl ?_
                        refine az_E.ret (v := some (.int (0 : Int32))) (σ' := (97, I, J, R)) rfl ?_
                        show az_E az_F ex 2 128 95 [.retAddr 0, .retAddr 0, .int v2, .retAddr 0, .int v4, .int v5, .ref 61, .ref 71] [.int (0 : Int32)] (97, I, J, R) _
                        refine az_E.br (c := (0 : Int32) = 0) (tt := 98) (ff := 101) (L' := [.retAddr 0, .retAddr 0, .int v2, .retAddr 0, .int v4, .int v5, .ref 61, .ref 71]) (S' := []) (σ' := (97, I, J, R)) rfl (fun _ => ?_) (fun hn => absurd (by decide) hn)
                        refine az_E.sn 1 (pc' := 100) (L' := [.retAddr 0, .retAddr 0, .int v2, .retAddr 0, .int v4, .int v5, .ref 61, .ref 71]) (S' := [.int (-13 : Int32)]) (σ' := (97, I, J, R)) rfl ?_
                        have h := Option.some.inj h
                        subst h
                        exact az_E.ret (v := some (.int (-13 : Int32))) (σ' := (97, I, J, R)) rfl hQ
                      · rw [if_neg hc_314] at h
                        refine az_E.sn 1 (pc' := 5) (L' := [.ref 71, .int v4, .int v5]) (S' := [.int v5]) (σ' := (97, I, J, R)) rfl ?_
                        refine az_E.br (c := v5 < 0) (tt := 30) (ff := 8) (L' := [.ref 71, .int v4, .int v5]) (S' := []) (σ' := (97, I, J, R)) rfl (fun hc_315 => ?_) (fun hc_315 => ?_)
                        · rw [if_pos hc_315] at h
                          refine az_E.sn 1 (pc' := 31) (L' := [.ref 71, .int v4, .int v5]) (S' := [.int (0 : Int32)]) (σ' := (97, I, J, R)) rfl ?_
                          refine az_E.ret (v := some (.int (0 : Int32))) (σ' := (97, I, J, R)) rfl ?_
                          show az_E az_F ex 2 128 95 [.retAddr 0, .retAddr 0, .int v2, .retAddr 0, .int v4, .int v5, .ref 61, .ref 71] [.int (0 : Int32)] (97, I, J, R) _
                          refine az_E.br (c := (0 : Int32) = 0) (tt := 98) (ff := 101) (L' := [.retAddr 0, .retAddr 0, .int v2, .retAddr 0, .int v4, .int v5, .ref 61, .ref 71]) (S' := []) (σ' := (97, I, J, R)) rfl (fun _ => ?_) (fun hn => absurd (by decide) hn)
                          refine az_E.sn 1 (pc' := 100) (L' := [.retAddr 0, .retAddr 0, .int v2, .retAddr 0, .int v4, .int v5, .ref 61, .ref 71]) (S' := [.int (-13 : Int32)]) (σ' := (97, I, J, R)) rfl ?_
                          have h := Option.some.inj h
                          subst h
                          exact az_E.ret (v := some (.int (-13 : Int32))) (σ' := (97, I, J, R)) rfl hQ
                        · rw [if_neg hc_315] at h
                          refine az_E.sn 3 (pc' := 13) (L' := [.ref 71, .int v4, .int v5]) (S' := [.int (I 71 2), .int v4]) (σ' := (97, I, J, R)) rfl ?_
                          refine az_E.br (c := (I 71 2) < v4) (tt := 30) (ff := 16) (L' := [.ref 71, .int v4, .int v5]) (S' := []) (σ' := (97, I, J, R)) rfl (fun hc_316 => ?_) (fun hc_316 => ?_)
                          · rw [if_pos hc_316] at h
                            refine az_E.sn 1 (pc' := 31) (L' := [.ref 71, .int v4, .int v5]) (S' := [.int (0 : Int32)]) (σ' := (97, I, J, R)) rfl ?_
                            refine az_E.ret (v := some (.int (0 : Int32))) (σ' := (97, I, J, R)) rfl ?_
                            show az_E az_F ex 2 128 95 [.retAddr 0, .retAddr 0, .int v2, .retAddr 0, .int v4, .int v5, .ref 61, .ref 71] [.int (0 : Int32)] (97, I, J, R) _
                            refine az_E.br (c := (0 : Int32) = 0) (tt := 98) (ff := 101) (L' := [.retAddr 0, .retAddr 0, .int v2, .retAddr 0, .int v4, .int v5, .ref 61, .ref 71]) (S' := []) (σ' := (97, I, J, R)) rfl (fun _ => ?_) (fun hn => absurd (by decide) hn)
                            refine az_E.sn 1 (pc' := 100) (L' := [.retAddr 0, .retAddr 0, .int v2, .retAddr 0, .int v4, .int v5, .ref 61, .ref 71]) (S' := [.int (-13 : Int32)]) (σ' := (97, I, J, R)) rfl ?_
                            have h := Option.some.inj h
                            subst h
                            exact az_E.ret (v := some (.int (-13 : Int32))) (σ' := (97, I, J, R)) rfl hQ
                          · rw [if_neg hc_316] at h
                            refine az_E.sn 5 (pc' := 23) (L' := [.ref 71, .int v4, .int v5]) (S' := [.int ((I 71 2) - v4), .int v5]) (σ' := (97, I, J, R)) rfl ?_
                            refine az_E.br (c := ((I 71 2) - v4) < v5) (tt := 30) (ff := 26) (L' := [.ref 71, .int v4, .int v5]) (S' := []) (σ' := (97, I, J, R)) rfl (fun hc_317 => ?_) (fun hc_317 => ?_)
                            · rw [if_pos hc_317] at h
                              refine az_E.sn 1 (pc' := 31) (L' := [.ref 71, .int v4, .int v5]) (S' := [.int (0 : Int32)]) (σ' := (97, I, J, R)) rfl ?_
                              refine az_E.ret (v := some (.int (0 : Int32))) (σ' := (97, I, J, R)) rfl ?_
                              show az_E az_F ex 2 128 95 [.retAddr 0, .retAddr 0, .int v2, .retAddr 0, .int v4, .int v5, .ref 61, .ref 71] [.int (0 : Int32)] (97, I, J, R) _
                              refine az_E.br (c := (0 : Int32) = 0) (tt := 98) (ff := 101) (L' := [.retAddr 0, .retAddr 0, .int v2, .retAddr 0, .int v4, .int v5, .ref 61, .ref 71]) (S' := []) (σ' := (97, I, J, R)) rfl (fun _ => ?_) (fun hn => absurd (by decide) hn)
                              refine az_E.sn 1 (pc' := 100) (L' := [.retAddr 0, .retAddr 0, .int v2, .retAddr 0, .int v4, .int v5, .ref 61, .ref 71]) (S' := [.int (-13 : Int32)]) (σ' := (97, I, J, R)) rfl ?_
                              have h := Option.some.inj h
                              subst h
                              exact az_E.ret (v := some (.int (-13 : Int32))) (σ' := (97, I, J, R)) rfl hQ
                            · rw [if_neg hc_317] at h
                              refine az_E.sn 2 (pc' := 31) (L' := [.ref 71, .int v4, .int v5]) (S' := [.int (1 : Int32)]) (σ' := (97, I, J, R)) rfl ?_
                              refine az_E.ret (v := some (.int (1 : Int32))) (σ' := (97, I, J, R)) rfl ?_
                              show az_E az_F ex 2 128 95 [.retAddr 0, .retAddr 0, .int v2, .retAddr 0, .int v4, .int v5, .ref 61, .ref 71] [.int (1 : Int32)] (97, I, J, R) _
                              refine az_E.br (c := (1 : Int32) = 0) (tt := 98) (ff := 101) (L' := [.retAddr 0, .retAddr 0, .int v2, .retAddr 0, .int v4, .int v5, .ref 61, .ref 71]) (S' := []) (σ' := (97, I, J, R)) rfl (fun hn => absurd hn (by decide)) (fun _ => ?_)
                              refine az_E.sn 7 (pc' := 116) (L' := [.retAddr 0, .retAddr 0, .int v2, .retAddr 0, .int v4, .int v5, .ref 61, .ref 71]) (S' := [.int v5, .int v4, .ref (71 + 1), .int v2, .ref (61 + 1)]) (σ' := (97, I, J, R)) rfl ?_
                              by_cases hc_318 : v2 < 0 ∨ v4 < 0 ∨ v5 < 0 ∨ 60 < v2.toNatClampNeg + v5.toNatClampNeg ∨ 60 < v4.toNatClampNeg + v5.toNatClampNeg
                              · rw [if_pos hc_318] at h; cases h
                              · rw [if_neg hc_318] at h
                                refine az_E.o (o := az_cp az_F (97, I, J, R) (61 + 1) v2 (71 + 1) v4 v5) (pc' := 119) (L' := [.retAddr 0, .retAddr 0, .int v2, .retAddr 0, .int v4, .int v5, .ref 61, .ref 71]) (S' := []) (x := (97, I, (az_ur J (71 + 1) (va_cpy (J (61 + 1)) (J (71 + 1)) v2.toNatClampNeg v4.toNatClampNeg v5.toNatClampNeg)), R)) rfl (if_neg hc_318) ?_
                                refine az_E.sn 1 (pc' := 121) (L' := [.retAddr 0, .retAddr 0, .int v2, .retAddr 0, .int v4, .int v5, .ref 61, .ref 71]) (S' := [.int v5]) (σ' := (97, I, (az_ur J (71 + 1) (va_cpy (J (61 + 1)) (J (71 + 1)) v2.toNatClampNeg v4.toNatClampNeg v5.toNatClampNeg)), R)) rfl ?_
                                have h := Option.some.inj h
                                subst h
                                exact az_E.ret (v := some (.int v5)) (σ' := (97, I, (az_ur J (71 + 1) (va_cpy (J (61 + 1)) (J (71 + 1)) v2.toNatClampNeg v4.toNatClampNeg v5.toNatClampNeg)), R)) rfl hQ
            · rw [if_neg hc_309] at h
              refine az_E.sn 1 (pc' := 20) (L' := [.ref 71, .int (I 61 1)]) (S' := [.int (0 : Int32)]) (σ' := (97, I, J, R)) rfl ?_
              refine az_E.ret (v := some (.int (0 : Int32))) (σ' := (97, I, J, R)) rfl ?_
              show az_E az_F ex 2 128 69 [.retAddr 0, .retAddr 0, .int v2, .retAddr 0, .int v4, .int v5, .ref 61, .ref 71] [.int (0 : Int32)] (97, I, J, R) _
              refine az_E.br (c := (0 : Int32) = 0) (tt := 72) (ff := 75) (L' := [.retAddr 0, .retAddr 0, .int v2, .retAddr 0, .int v4, .int v5, .ref 61, .ref 71]) (S' := []) (σ' := (97, I, J, R)) rfl (fun _ => ?_) (fun hn => absurd (by decide) hn)
              refine az_E.sn 1 (pc' := 74) (L' := [.retAddr 0, .retAddr 0, .int v2, .retAddr 0, .int v4, .int v5, .ref 61, .ref 71]) (S' := [.int (-12 : Int32)]) (σ' := (97, I, J, R)) rfl ?_
              have h := Option.some.inj h
              subst h
              exact az_E.ret (v := some (.int (-12 : Int32))) (σ' := (97, I, J, R)) rfl hQ
    · rw [if_neg hc_305] at h
      refine az_E.sn 1 (pc' := 21) (L' := [.ref 71]) (S' := [.int (0 : Int32)]) (σ' := (97, I, J, R)) rfl ?_
      refine az_E.ret (v := some (.int (0 : Int32))) (σ' := (97, I, J, R)) rfl ?_
      show az_E az_F ex 2 128 45 [.retAddr 0, .retAddr 0, .int v2, .retAddr 0, .int v4, .int v5, .ref 61, .ref 71] [.int (0 : Int32)] (97, I, J, R) _
      refine az_E.br (c := (0 : Int32) = 0) (tt := 51) (ff := 48) (L' := [.retAddr 0, .retAddr 0, .int v2, .retAddr 0, .int v4, .int v5, .ref 61, .ref 71]) (S' := []) (σ' := (97, I, J, R)) rfl (fun _ => ?_) (fun hn => absurd (by decide) hn)
      refine az_E.sn 1 (pc' := 53) (L' := [.retAddr 0, .retAddr 0, .int v2, .retAddr 0, .int v4, .int v5, .ref 61, .ref 71]) (S' := [.ref 61]) (σ' := (97, I, J, R)) rfl ?_
      refine az_E.call (d := 1) (k' := 55) (vs := [.ref 61]) (pc' := 56) (S' := []) rfl ?_ (fun _ _ hq => hq)
      show az_E az_F ex 1 55 0 [.ref 61] [] (97, I, J, R) _
      refine az_E.sn 3 (pc' := 5) (L' := [.ref 61]) (S' := [.int (-1 : Int32), .int (I 61 1)]) (σ' := (97, I, J, R)) rfl ?_
      refine az_E.br (c := (I 61 1) = (-1 : Int32)) (tt := 12) (ff := 8) (L' := [.ref 61]) (S' := []) (σ' := (97, I, J, R)) rfl (fun hc_319 => ?_) (fun hc_319 => ?_)
      · rw [if_pos hc_319] at h
        refine az_E.sn 1 (pc' := 13) (L' := [.ref 61]) (S' := [.int (0 : Int32)]) (σ' := (97, I, J, R)) rfl ?_
        refine az_E.ret (v := some (.int (0 : Int32))) (σ' := (97, I, J, R)) rfl ?_
        show az_E az_F ex 2 128 56 [.retAddr 0, .retAddr 0, .int v2, .retAddr 0, .int v4, .int v5, .ref 61, .ref 71] [.int (0 : Int32)] (97, I, J, R) _
        refine az_E.br (c := (0 : Int32) = 0) (tt := 72) (ff := 59) (L' := [.retAddr 0, .retAddr 0, .int v2, .retAddr 0, .int v4, .int v5, .ref 61, .ref 71]) (S' := []) (σ' := (97, I, J, R)) rfl (fun _ => ?_) (fun hn => absurd (by decide) hn)
        refine az_E.sn 1 (pc' := 74) (L' := [.retAddr 0, .retAddr 0, .int v2, .retAddr 0, .int v4, .int v5, .ref 61, .ref 71]) (S' := [.int (-12 : Int32)]) (σ' := (97, I, J, R)) rfl ?_
        have h := Option.some.inj h
        subst h
        exact az_E.ret (v := some (.int (-12 : Int32))) (σ' := (97, I, J, R)) rfl hQ
      · rw [if_neg hc_319] at h
        refine az_E.sn 2 (pc' := 13) (L' := [.ref 61]) (S' := [.int (1 : Int32)]) (σ' := (97, I, J, R)) rfl ?_
        refine az_E.ret (v := some (.int (1 : Int32))) (σ' := (97, I, J, R)) rfl ?_
        show az_E az_F ex 2 128 56 [.retAddr 0, .retAddr 0, .int v2, .retAddr 0, .int v4, .int v5, .ref 61, .ref 71] [.int (1 : Int32)] (97, I, J, R) _
        refine az_E.br (c := (1 : Int32) = 0) (tt := 72) (ff := 59) (L' := [.retAddr 0, .retAddr 0, .int v2, .retAddr 0, .int v4, .int v5, .ref 61, .ref 71]) (S' := []) (σ' := (97, I, J, R)) rfl (fun hn => absurd hn (by decide)) (fun _ => ?_)
        refine az_E.sn 3 (pc' := 66) (L' := [.retAddr 0, .retAddr 0, .int v2, .retAddr 0, .int v4, .int v5, .ref 61, .ref 71]) (S' := [.int (I 61 1), .ref 71]) (σ' := (97, I, J, R)) rfl ?_
        refine az_E.call (d := 1) (k' := 56) (vs := [.ref 71, .int (I 61 1)]) (pc' := 69) (S' := []) rfl ?_ (fun _ _ hq => hq)
        show az_E az_F ex 1 56 0 [.ref 71, .int (I 61 1)] [] (97, I, J, R) _
        refine az_E.sn 1 (pc' := 1) (L' := [.ref 71, .int (I 61 1)]) (S' := [.ref 71]) (σ' := (97, I, J, R)) rfl ?_
        refine az_E.call (d := 0) (k' := 55) (vs := [.ref 71]) (pc' := 4) (S' := []) rfl ?_ (fun _ _ hq => hq)
        show az_E az_F ex 0 55 0 [.ref 71] [] (97, I, J, R) _
        refine az_E.sn 3 (pc' := 5) (L' := [.ref 71]) (S' := [.int (-1 : Int32), .int (I 71 1)]) (σ' := (97, I, J, R)) rfl ?_
        refine az_E.br (c := (I 71 1) = (-1 : Int32)) (tt := 12) (ff := 8) (L' := [.ref 71]) (S' := []) (σ' := (97, I, J, R)) rfl (fun hc_320 => ?_) (fun hc_320 => ?_)
        · rw [if_pos hc_320] at h
          refine az_E.sn 1 (pc' := 13) (L' := [.ref 71]) (S' := [.int (0 : Int32)]) (σ' := (97, I, J, R)) rfl ?_
          refine az_E.ret (v := some (.int (0 : Int32))) (σ' := (97, I, J, R)) rfl ?_
          show az_E az_F ex 1 56 4 [.ref 71, .int (I 61 1)] [.int (0 : Int32)] (97, I, J, R) _
          refine az_E.br (c := (0 : Int32) = 0) (tt := 19) (ff := 7) (L' := [.ref 71, .int (I 61 1)]) (S' := []) (σ' := (97, I, J, R)) rfl (fun _ => ?_) (fun hn => absurd (by decide) hn)
          refine az_E.sn 1 (pc' := 20) (L' := [.ref 71, .int (I 61 1)]) (S' := [.int (0 : Int32)]) (σ' := (97, I, J, R)) rfl ?_
          refine az_E.ret (v := some (.int (0 : Int32))) (σ' := (97, I, J, R)) rfl ?_
          show az_E az_F ex 2 128 69 [.retAddr 0, .retAddr 0, .int v2, .retAddr 0, .int v4, .int v5, .ref 61, .ref 71] [.int (0 : Int32)] (97, I, J, R) _
          refine az_E.br (c := (0 : Int32) = 0) (tt := 72) (ff := 75) (L' := [.retAddr 0, .retAddr 0, .int v2, .retAddr 0, .int v4, .int v5, .ref 61, .ref 71]) (S' := []) (σ' := (97, I, J, R)) rfl (fun _ => ?_) (fun hn => absurd (by decide) hn)
          refine az_E.sn 1 (pc' := 74) (L' := [.retAddr 0, .retAddr 0, .int v2, .retAddr 0, .int v4, .int v5, .ref 61, .ref 71]) (S' := [.int (-12 : Int32)]) (σ' := (97, I, J, R)) rfl ?_
          have h := Option.some.inj h
          subst h
          exact az_E.ret (v := some (.int (-12 : Int32))) (σ' := (97, I, J, R)) rfl hQ
        · rw [if_neg hc_320] at h
          refine az_E.sn 2 (pc' := 13) (L' := [.ref 71]) (S' := [.int (1 : Int32)]) (σ' := (97, I, J, R)) rfl ?_
          refine az_E.ret (v := some (.int (1 : Int32))) (σ' := (97, I, J, R)) rfl ?_
          show az_E az_F ex 1 56 4 [.ref 71, .int (I 61 1)] [.int (1 : Int32)] (97, I, J, R) _
          refine az_E.br (c := (1 : Int32) = 0) (tt := 19) (ff := 7) (L' := [.ref 71, .int (I 61 1)]) (S' := []) (σ' := (97, I, J, R)) rfl (fun hn => absurd hn (by decide)) (fun _ => ?_)
          refine az_E.sn 3 (pc' := 12) (L' := [.ref 71, .int (I 61 1)]) (S' := [.int (I 61 1), .int (I 71 1)]) (σ' := (97, I, J, R)) rfl ?_
          refine az_E.br (c := (I 71 1) = (I 61 1)) (tt := 15) (ff := 19) (L' := [.ref 71, .int (I 61 1)]) (S' := []) (σ' := (97, I, J, R)) rfl (fun hc_321 => ?_) (fun hc_321 => ?_)
          · rw [if_pos hc_321] at h
            refine az_E.sn 2 (pc' := 20) (L' := [.ref 71, .int (I 61 1)]) (S' := [.int (1 : Int32)]) (σ' := (97, I, J, R)) rfl ?_
            refine az_E.ret (v := some (.int (1 : Int32))) (σ' := (97, I, J, R)) rfl ?_
            show az_E az_F ex 2 128 69 [.retAddr 0, .retAddr 0, .int v2, .retAddr 0, .int v4, .int v5, .ref 61, .ref 71] [.int (1 : Int32)] (97, I, J, R) _
            refine az_E.br (c := (1 : Int32) = 0) (tt := 72) (ff := 75) (L' := [.retAddr 0, .retAddr 0, .int v2, .retAddr 0, .int v4, .int v5, .ref 61, .ref 71]) (S' := []) (σ' := (97, I, J, R)) rfl (fun hn => absurd hn (by decide)) (fun _ => ?_)
            refine az_E.sn 3 (pc' := 80) (L' := [.retAddr 0, .retAddr 0, .int v2, .retAddr 0, .int v4, .int v5, .ref 61, .ref 71]) (S' := [.int v5, .int v2, .ref 61]) (σ' := (97, I, J, R)) rfl ?_
            refine az_E.call (d := 1) (k' := 60) (vs := [.ref 61, .int v2, .int v5]) (pc' := 83) (S' := []) rfl ?_ (fun _ _ hq => hq)
            show az_E az_F ex 1 60 0 [.ref 61, .int v2, .int v5] [] (97, I, J, R) _
            refine az_E.sn 1 (pc' := 1) (L' := [.ref 61, .int v2, .int v5]) (S' := [.int v2]) (σ' := (97, I, J, R)) rfl ?_
            refine az_E.br (c := v2 < 0) (tt := 30) (ff := 4) (L' := [.ref 61, .int v2, .int v5]) (S' := []) (σ' := (97, I, J, R)) rfl (fun hc_322 => ?_) (fun hc_322 => ?_)
            · rw [if_pos hc_322] at h
              refine az_E.sn 1 (pc' := 31) (L' := [.ref 61, .int v2, .int v5]) (S' := [.int (0 : Int32)]) (σ' := (97, I, J, R)) rfl ?_
              refine az_E.ret (v := some (.int (0 : Int32))) (σ' := (97, I, J, R)) rfl ?_
              show az_E az_F ex 2 128 83 [.retAddr 0, .retAddr 0, .int v2, .retAddr 0, .int v4, .int v5, .ref 61, .ref 71] [.int (0 : Int32)] (97, I, J, R) _
              refine az_E.br (c := (0 : Int32) = 0) (tt := 98) (ff := 86) (L' := [.retAddr 0, .retAddr 0, .int v2, .retAddr 0, .int v4, .int v5, .ref 61, .ref 71]) (S' := []) (σ' := (97, I, J, R)) rfl (fun _ => ?_) (fun hn => absurd (by decide) hn)
              refine az_E.sn 1 (pc' := 100) (L' := [.retAddr 0, .retAddr 0, .int v2, .retAddr 0, .int v4, .int v5, .ref 61, .ref 71]) (S' := [.int (-13 : Int32)]) (σ' := (97, I, J, R)) rfl ?_
              have h := Option.some.inj h
              subst h
              exact az_E.ret (v := some (.int (-13 : Int32))) (σ' := (97, I, J, R)) rfl hQ
            · rw [if_neg hc_322] at h
              refine az_E.sn 1 (pc' := 5) (L' := [.ref 61, .int v2, .int v5]) (S' := [.int v5]) (σ' := (97, I, J, R)) rfl ?_
              refine az_E.br (c := v5 < 0) (tt := 30) (ff := 8) (L' := [.ref 61, .int v2, .int v5]) (S' := []) (σ' := (97, I, J, R)) rfl (fun hc_323 => ?_) (fun hc_323 => ?_)
              · rw [if_pos hc_323] at h
                refine az_E.sn 1 (pc' := 31) (L' := [.ref 61, .int v2, .int v5]) (S' := [.int (0 : Int32)]) (σ' := (97, I, J, R)) rfl ?_
                refine az_E.ret (v := some (.int (0 : Int32))) (σ' := (97, I, J, R)) rfl ?_
                show az_E az_F ex 2 128 83 [.retAddr 0, .retAddr 0, .int v2, .retAddr 0, .int v4, .int v5, .ref 61, .ref 71] [.int (0 : Int32)] (97, I, J, R) _
                refine az_E.br (c := (0 : Int32) = 0) (tt := 98) (ff := 86) (L' := [.retAddr 0, .retAddr 0, .int v2, .retAddr 0, .int v4, .int v5, .ref 61, .ref 71]) (S' := []) (σ' := (97, I, J, R)) rfl (fun _ => ?_) (fun hn => absurd (by decide) hn)
                refine az_E.sn 1 (pc' := 100) (L' := [.retAddr 0, .retAddr 0, .int v2, .retAddr 0, .int v4, .int v5, .ref 61, .ref 71]) (S' := [.int (-13 : Int32)]) (σ' := (97, I, J, R)) rfl ?_
                have h := Option.some.inj h
                subst h
                exact az_E.ret (v := some (.int (-13 : Int32))) (σ' := (97, I, J, R)) rfl hQ
              · rw [if_neg hc_323] at h
                refine az_E.sn 3 (pc' := 13) (L' := [.ref 61, .int v2, .int v5]) (S' := [.int (I 61 2), .int v2]) (σ' := (97, I, J, R)) rfl ?_
                refine az_E.br (c := (I 61 2) < v2) (tt := 30) (ff := 16) (L' := [.ref 61, .int v2, .int v5]) (S' := []) (σ' := (97, I, J, R)) rfl (fun hc_324 => ?_) (fun hc_324 => ?_)
                · rw [if_pos hc_324] at h
                  refine az_E.sn 1 (pc' := 31) (L' := [.ref 61, .int v2, .int v5]) (S' := [.int (0 : Int32)]) (σ' := (97, I, J, R)) rfl ?_
                  refine az_E.ret (v := some (.int (0 : Int32))) (σ' := (97, I, J, R)) rfl ?_
                  show az_E az_F ex 2 128 83 [.retAddr 0, .retAddr 0, .int v2, .retAddr 0, .int v4, .int v5, .ref 61, .ref 71] [.int (0 : Int32)] (97, I, J, R) _
                  refine az_E.br (c := (0 : Int32) = 0) (tt := 98) (ff := 86) (L' := [.retAddr 0, .retAddr 0, .int v2, .retAddr 0, .int v4, .int v5, .ref 61, .ref 71]) (S' := []) (σ' := (97, I, J, R)) rfl (fun _ => ?_) (fun hn => absurd (by decide) hn)
                  refine az_E.sn 1 (pc' := 100) (L' := [.retAddr 0, .retAddr 0, .int v2, .retAddr 0, .int v4, .int v5, .ref 61, .ref 71]) (S' := [.int (-13 : Int32)]) (σ' := (97, I, J, R)) rfl ?_
                  have h := Option.some.inj h
                  subst h
                  exact az_E.ret (v := some (.int (-13 : Int32))) (σ' := (97, I, J, R)) rfl hQ
                · rw [if_neg hc_324] at h
                  refine az_E.sn 5 (pc' := 23) (L' := [.ref 61, .int v2, .int v5]) (S' := [.int ((I 61 2) - v2), .int v5]) (σ' := (97, I, J, R)) rfl ?_
                  refine az_E.br (c := ((I 61 2) - v2) < v5) (tt := 30) (ff := 26) (L' := [.ref 61, .int v2, .int v5]) (S' := []) (σ' := (97, I, J, R)) rfl (fun hc_325 => ?_) (fun hc_325 => ?_)
                  · rw [if_pos hc_325] at h
                    refine az_E.sn 1 (pc' := 31) (L' := [.ref 61, .int v2, .int v5]) (S' := [.int (0 : Int32)]) (σ' := (97, I, J, R)) rfl ?_
                    refine az_E.ret (v := some (.int (0 : Int32))) (σ' := (97, I, J, R)) rfl ?_
                    show az_E az_F ex 2 128 83 [.retAddr 0, .retAddr 0, .int v2, .retAddr 0, .int v4, .int v5, .ref 61, .ref 71] [.int (0 : Int32)] (97, I, J, R) _
                    refine az_E.br (c := (0 : Int32) = 0) (tt := 98) (ff := 86) (L' := [.retAddr 0, .retAddr 0, .int v2, .retAddr 0, .int v4, .int v5, .ref 61, .ref 71]) (S' := []) (σ' := (97, I, J, R)) rfl (fun _ => ?_) (fun hn => absurd (by decide) hn)
                    refine az_E.sn 1 (pc' := 100) (L' := [.retAddr 0, .retAddr 0, .int v2, .retAddr 0, .int v4, .int v5, .ref 61, .ref 71]) (S' := [.int (-13 : Int32)]) (σ' := (97, I, J, R)) rfl ?_
                    have h := Option.some.inj h
                    subst h
                    exact az_E.ret (v := some (.int (-13 : Int32))) (σ' := (97, I, J, R)) rfl hQ
                  · rw [if_neg hc_325] at h
                    refine az_E.sn 2 (pc' := 31) (L' := [.ref 61, .int v2, .int v5]) (S' := [.int (1 : Int32)]) (σ' := (97, I, J, R)) rfl ?_
                    refine az_E.ret (v := some (.int (1 : Int32))) (σ' := (97, I, J, R)) rfl ?_
                    show az_E az_F ex 2 128 83 [.retAddr 0, .retAddr 0, .int v2, .retAddr 0, .int v4, .int v5, .ref 61, .ref 71] [.int (1 : Int32)] (97, I, J, R) _
                    refine az_E.br (c := (1 : Int32) = 0) (tt := 98) (ff := 86) (L' := [.retAddr 0, .retAddr 0, .int v2, .retAddr 0, .int v4, .int v5, .ref 61, .ref 71]) (S' := []) (σ' := (97, I, J, R)) rfl (fun hn => absurd hn (by decide)) (fun _ => ?_)
                    refine az_E.sn 3 (pc' := 92) (L' := [.retAddr 0, .retAddr 0, .int v2, .retAddr 0, .int v4, .int v5, .ref 61, .ref 71]) (S' := [.int v5, .int v4, .ref 71]) (σ' := (97, I, J, R)) rfl ?_
                    refine az_E.call (d := 1) (k' := 60) (vs := [.ref 71, .int v4, .int v5]) (pc' := 95) (S' := []) rfl ?_ (fun _ _ hq => hq)
                    show az_E az_F ex 1 60 0 [.ref 71, .int v4, .int v5] [] (97, I, J, R) _
                    refine az_E.sn 1 (pc' := 1) (L' := [.ref 71, .int v4, .int v5]) (S' := [.int v4]) (σ' := (97, I, J, R)) rfl ?_
                    refine az_E.br (c := v4 < 0) (tt := 30) (ff := 4) (L' := [.ref 71, .int v4, .int v5]) (S' := []) (σ' := (97, I, J, R)) rfl (fun hc_326 => ?_) (fun hc_326 => ?_)
                    · rw [if_pos hc_326] at h
                      refine az_E.sn 1 (pc' := 31) (L' := [.ref 71, .int v4, .int v5]) (S' := [.int (0 : Int32)]) (σ' := (97, I, J, R)) rfl ?_
                      refine az_E.ret (v := some (.int (0 : Int32))) (σ' := (97, I, J, R)) rfl ?_
                      show az_E az_F ex 2 128 95 [.retAddr 0, .retAddr 0, .int v2, .retAddr 0, .int v4, .int v5, .ref 61, .ref 71] [.int (0 : Int32)] (97, I, J, R) _
                      refine az_E.br (c := (0 : Int32) = 0) (tt := 98) (ff := 101) (L' := [.retAddr 0, .retAddr 0, .int v2, .retAddr 0, .int v4, .int v5, .ref 61, .ref 71]) (S' := []) (σ' := (97, I, J, R)) rfl (fun _ => ?_) (fun hn => absurd (by decide) hn)
                      refine az_E.sn 1 (pc' := 100) (L' := [.retAddr 0, .retAddr 0, .int v2, .retAddr 0, .int v4, .int v5, .ref 61, .ref 71]) (S' := [.int (-13 : Int32)]) (σ' := (97, I, J, R)) rfl ?_
                      have h := Option.some.inj h
                      subst h
                      exact az_E.ret (v := some (.int (-13 : Int32))) (σ' := (97, I, J, R)) rfl hQ
                    · rw [if_neg hc_326] at h
                      refine az_E.sn 1 (pc' := 5) (L' := [.ref 71, .int v4, .int v5]) (S' := [.int v5]) (σ' := (97, I, J, R)) rfl ?_
                      refine az_E.br (c := v5 < 0) (tt := 30) (ff := 8) (L' := [.ref 71, .int v4, .int v5]) (S' := []) (σ' := (97, I, J, R)) rfl (fun hc_327 => ?_) (fun hc_327 => ?_)
                      · rw [if_pos hc_327] at h
                        refine az_E.sn 1 (pc' := 31) (L' := [.ref 71, .int v4, .int v5]) (S' := [.int (0 : Int32)]) (σ' := (97, I, J, R)) rfl ?_
                        refine az_E.ret (v := some (.int (0 : Int32))) (σ' := (97, I, J, R)) rfl ?_
                        show az_E az_F ex 2 128 95 [.retAddr 0, .retAddr 0, .int v2, .retAddr 0, .int v4, .int v5, .ref 61, .ref 71] [.int (0 : Int32)] (97, I, J, R) _
                        refine az_E.br (c := (0 : Int32) = 0) (tt := 98) (ff := 101) (L' := [.retAddr 0, .retAddr 0, .int v2, .retAddr 0, .int v4, .int v5, .ref 61, .ref 71]) (S' := []) (σ' := (97, I, J, R)) rfl (fun _ => ?_) (fun hn => absurd (by decide) hn)
                        refine az_E.sn 1 (pc' := 100) (L' := [.retAddr 0, .retAddr 0, .int v2, .retAddr 0, .int v4, .int v5, .ref 61, .ref 71]) (S' := [.int (-13 : Int32)]) (σ' := (97, I, J, R)) rfl ?_
                        have h := Option.some.inj h
                        subst h
                        exact az_E.ret (v := some (.int (-13 : Int32))) (σ' := (97, I, J, R)) rfl hQ
                      · rw [if_neg hc_327] at h
                        refine az_E.sn 3 (pc' := 13) (L' := [.ref 71, .int v4, .int v5]) (S' := [.int (I 71 2), .int v4]) (σ' := (97, I, J, R)) rfl ?_
                        refine az_E.br (c := (I 71 2) < v4) (tt := 30) (ff := 16) (L' := [.ref 71, .int v4, .int v5]) (S' := []) (σ' := (97, I, J, R)) rfl (fun hc_328 => ?_) (fun hc_328 => ?_)
                        · rw [if_pos hc_328] at h
                          refine az_E.sn 1 (pc' := 31) (L' := [.ref 71, .int v4, .int v5]) (S' := [.int (0 : Int32)]) (σ' := (97, I, J, R)) rfl ?_
                          refine az_E.ret (v := some (.int (0 : Int32))) (σ' := (97, I, J, R)) rfl ?_
                          show az_E az_F ex 2 128 95 [.retAddr 0, .retAddr 0, .int v2, .retAddr 0, .int v4, .int v5, .ref 61, .ref 71] [.int (0 : Int32)] (97, I, J, R) _
                          refine az_E.br (c := (0 : Int32) = 0) (tt := 98) (ff := 101) (L' := [.retAddr 0, .retAddr 0, .int v2, .retAddr 0, .int v4, .int v5, .ref 61, .ref 71]) (S' := []) (σ' := (97, I, J, R)) rfl (fun _ => ?_) (fun hn => absurd (by decide) hn)
                          refine az_E.sn 1 (pc' := 100) (L' := [.retAddr 0, .retAddr 0, .int v2, .retAddr 0, .int v4, .int v5, .ref 61, .ref 71]) (S' := [.int (-13 : Int32)]) (σ' := (97, I, J, R)) rfl ?_
                          have h := Option.some.inj h
                          subst h
                          exact az_E.ret (v := some (.int (-13 : Int32))) (σ' := (97, I, J, R)) rfl hQ
                        · rw [if_neg hc_328] at h
                          refine az_E.sn 5 (pc' := 23) (L' := [.ref 71, .int v4, .int v5]) (S' := [.int ((I 71 2) - v4), .int v5]) (σ' := (97, I, J, R)) rfl ?_
                          refine az_E.br (c := ((I 71 2) - v4) < v5) (tt := 30) (ff := 26) (L' := [.ref 71, .int v4, .int v5]) (S' := []) (σ' := (97, I, J, R)) rfl (fun hc_329 => ?_) (fun hc_329 => ?_)
                          · rw [if_pos hc_329] at h
                            refine az_E.sn 1 (pc' := 31) (L' := [.ref 71, .int v4, .int v5]) (S' := [.int (0 : Int32)]) (σ' := (97, I, J, R)) rfl ?_
                            refine az_E.ret (v := some (.int (0 : Int32))) (σ' := (97, I, J, R)) rfl ?_
                            show az_E az_F ex 2 128 95 [.retAddr 0, .retAddr 0, .int v2, .retAddr 0, .int v4, .int v5, .ref 61, .ref 71] [.int (0 : Int32)] (97, I, J, R) _
                            refine az_E.br (c := (0 : Int32) = 0) (tt := 98) (ff := 101) (L' := [.retAddr 0, .retAddr 0, .int v2, .retAddr 0, .int v4, .int v5, .ref 61, .ref 71]) (S' := []) (σ' := (97, I, J, R)) rfl (fun _ => ?_) (fun hn => absurd (by decide) hn)
                            refine az_E.sn 1 (pc' := 100) (L' := [.retAddr 0, .retAddr 0, .int v2, .retAddr 0, .int v4, .int v5, .ref 61, .ref 71]) (S' := [.int (-13 : Int32)]) (σ' := (97, I, J, R)) rfl ?_
                            have h := Option.some.inj h
                            subst h
                            exact az_E.ret (v := some (.int (-13 : Int32))) (σ' := (97, I, J, R)) rfl hQ
                          · rw [if_neg hc_329] at h
                            refine az_E.sn 2 (pc' := 31) (L' := [.ref 71, .int v4, .int v5]) (S' := [.int (1 : Int32)]) (σ' := (97, I, J, R)) rfl ?_
                            refine az_E.ret (v := some (.int (1 : Int32))) (σ' := (97, I, J, R)) rfl ?_
                            show az_E az_F ex 2 128 95 [.retAddr 0, .retAddr 0, .int v2, .retAddr 0, .int v4, .int v5, .ref 61, .ref 71] [.int (1 : Int32)] (97, I, J, R) _
                            refine az_E.br (c := (1 : Int32) = 0) (tt := 98) (ff := 101) (L' := [.retAddr 0, .retAddr 0, .int v2, .retAddr 0, .int v4, .int v5, .ref 61, .ref 71]) (S' := []) (σ' := (97, I, J, R)) rfl (fun hn => absurd hn (by decide)) (fun _ => ?_)
                            refine az_E.sn 7 (pc' := 116) (L' := [.retAddr 0, .retAddr 0, .int v2, .retAddr 0, .int v4, .int v5, .ref 61, .ref 71]) (S' := [.int v5, .int v4, .ref (71 + 1), .int v2, .ref (61 + 1)]) (σ' := (97, I, J, R)) rfl ?_
                            by_cases hc_330 : v2 < 0 ∨ v4 < 0 ∨ v5 < 0 ∨ 60 < v2.toNatClampNeg + v5.toNatClampNeg ∨ 60 < v4.toNatClampNeg + v5.toNatClampNeg
                            · rw [if_pos hc_330] at h; cases h
                            · rw [if_neg hc_330] at h
                              refine az_E.o (o := az_cp az_F (97, I, J, R) (61 + 1) v2 (71 + 1) v4 v5) (pc' := 119) (L' := [.retAddr 0, .retAddr 0, .int v2, .retAddr 0, .int v4, .int v5, .ref 61, .ref 71]) (S' := []) (x := (97, I, (az_ur J (71 + 1) (va_cpy (J (61 + 1)) (J (71 + 1)) v2.toNatClampNeg v4.toNatClampNeg v5.toNatClampNeg)), R)) rfl (if_neg hc_330) ?_
                              refine az_E.sn 1 (pc' := 121) (L' := [.retAddr 0, .retAddr 0, .int v2, .retAddr 0, .int v4, .int v5, .ref 61, .ref 71]) (S' := [.int v5]) (σ' := (97, I, (az_ur J (71 + 1) (va_cpy (J (61 + 1)) (J (71 + 1)) v2.toNatClampNeg v4.toNatClampNeg v5.toNatClampNeg)), R)) rfl ?_
                              have h := Option.some.inj h
                              subst h
                              exact az_E.ret (v := some (.int v5)) (σ' := (97, I, (az_ur J (71 + 1) (va_cpy (J (61 + 1)) (J (71 + 1)) v2.toNatClampNeg v4.toNatClampNeg v5.toNatClampNeg)), R)) rfl hQ
          · rw [if_neg hc_321] at h
            refine az_E.sn 1 (pc' := 20) (L' := [.ref 71, .int (I 61 1)]) (S' := [.int (0 : Int32)]) (σ' := (97, I, J, R)) rfl ?_
            refine az_E.ret (v := some (.int (0 : Int32))) (σ' := (97, I, J, R)) rfl ?_
            show az_E az_F ex 2 128 69 [.retAddr 0, .retAddr 0, .int v2, .retAddr 0, .int v4, .int v5, .ref 61, .ref 71] [.int (0 : Int32)] (97, I, J, R) _
            refine az_E.br (c := (0 : Int32) = 0) (tt := 72) (ff := 75) (L' := [.retAddr 0, .retAddr 0, .int v2, .retAddr 0, .int v4, .int v5, .ref 61, .ref 71]) (S' := []) (σ' := (97, I, J, R)) rfl (fun _ => ?_) (fun hn => absurd (by decide) hn)
            refine az_E.sn 1 (pc' := 74) (L' := [.retAddr 0, .retAddr 0, .int v2, .retAddr 0, .int v4, .int v5, .ref 61, .ref 71]) (S' := [.int (-12 : Int32)]) (σ' := (97, I, J, R)) rfl ?_
            have h := Option.some.inj h
            subst h
            exact az_E.ret (v := some (.int (-12 : Int32))) (σ' := (97, I, J, R)) rfl hQ
set_option maxRecDepth 100000 in
set_option maxHeartbeats 4000000 in
theorem re_X_shift_22_61 {ex : az_X} {I : Nat → Nat → Int32} {J : Nat → Nat → Int64} {R : Nat → Nat → Option Nat} {v2 : Int32} {v3 : Int32} {v4 : Int32} {v5 : Int32} {x : Int32 × (Nat → Nat → Int64)} (h : rs_X_shift_22 61 I J v2 v3 v4 v5 = some x) {Q : Option Value → az_S → Prop} (hQ : Q (some (.int x.1)) (97, I, x.2, R)) : az_E az_F ex 2 128 22 [.ref 3, .retAddr 0, .int v2, .int v3, .int v4, .int v5, .retAddr 0, .retAddr 0] [.ref 61] (97, I, J, R) Q := by
  unfold rs_X_shift_22 at h
  refine az_E.sn 4 (pc' := 29) (L' := [.ref 3, .retAddr 0, .int v2, .int v3, .int v4, .int v5, .ref 61, .retAddr 0]) (S' := [.int v3, .ref 58]) (σ' := (97, I, J, R)) rfl ?_
  by_cases hc_6 : v3 < 0 ∨ 6 ≤ v3.toNatClampNeg
  · rw [if_pos hc_6] at h; cases h
  · rw [if_neg hc_6] at h
    rcases az_six hc_6 with ehc_6 | ehc_6 | ehc_6 | ehc_6 | ehc_6 | ehc_6
    · rw [ehc_6] at h ⊢; (try rw [ehc_6] at hQ)
      refine az_E.ov (pc' := 30) (L' := [.ref 3, .retAddr 0, .int v2, .int (0 : Int32), .int v4, .int v5, .ref 61, .retAddr 0]) (S' := []) (σ' := (97, I, J, R)) (x := .ref 61) (o := az_aa az_F (97, I, J, R) 58 (0 : Int32)) rfl rfl ?_
      exact az_E.forget (L := [.retAddr 0, .retAddr 0, .int v2, .retAddr 0, .int v4, .int v5, .ref 61, .retAddr 0]) ⟨trivial, trivial, rfl, trivial, rfl, rfl, rfl, trivial, trivial⟩ (re_X_shift_30_61_61 (I := I) (J := J) (R := R)  h hQ)
    · rw [ehc_6] at h ⊢; (try rw [ehc_6] at hQ)
      refine az_E.ov (pc' := 30) (L' := [.ref 3, .retAddr 0, .int v2, .int (1 : Int32), .int v4, .int v5, .ref 61, .retAddr 0]) (S' := []) (σ' := (97, I, J, R)) (x := .ref 63) (o := az_aa az_F (97, I, J, R) 58 (1 : Int32)) rfl rfl ?_
      exact az_E.forget (L := [.retAddr 0, .retAddr 0, .int v2, .retAddr 0, .int v4, .int v5, .ref 61, .retAddr 0]) ⟨trivial, trivial, rfl, trivial, rfl, rfl, rfl, trivial, trivial⟩ (re_X_shift_30_61_63 (I := I) (J := J) (R := R)  h hQ)
    · rw [ehc_6] at h ⊢; (try rw [ehc_6] at hQ)
      refine az_E.ov (pc' := 30) (L' := [.ref 3, .retAddr 0, .int v2, .int (2 : Int32), .int v4, .int v5, .ref 61, .retAddr 0]) (S' := []) (σ' := (97, I, J, R)) (x := .ref 65) (o := az_aa az_F (97, I, J, R) 58 (2 : Int32)) rfl rfl ?_
      exact az_E.forget (L := [.retAddr 0, .retAddr 0, .int v2, .retAddr 0, .int v4, .int v5, .ref 61, .retAddr 0]) ⟨trivial, trivial, rfl, trivial, rfl, rfl, rfl, trivial, trivial⟩ (re_X_shift_30_61_65 (I := I) (J := J) (R := R)  h hQ)
    · rw [ehc_6] at h ⊢; (try rw [ehc_6] at hQ)
      refine az_E.ov (pc' := 30) (L' := [.ref 3, .retAddr 0, .int v2, .int (3 : Int32), .int v4, .int v5, .ref 61, .retAddr 0]) (S' := []) (σ' := (97, I, J, R)) (x := .ref 67) (o := az_aa az_F (97, I, J, R) 58 (3 : Int32)) rfl rfl ?_
      exact az_E.forget (L := [.retAddr 0, .retAddr 0, .int v2, .retAddr 0, .int v4, .int v5, .ref 61, .retAddr 0]) ⟨trivial, trivial, rfl, trivial, rfl, rfl, rfl, trivial, trivial⟩ (re_X_shift_30_61_67 (I := I) (J := J) (R := R)  h hQ)
    · rw [ehc_6] at h ⊢; (try rw [ehc_6] at hQ)
      refine az_E.ov (pc' := 30) (L' := [.ref 3, .retAddr 0, .int v2, .int (4 : Int32), .int v4, .int v5, .ref 61, .retAddr 0]) (S' := []) (σ' := (97, I, J, R)) (x := .ref 69) (o := az_aa az_F (97, I, J, R) 58 (4 : Int32)) rfl rfl ?_
      exact az_E.forget (L := [.retAddr 0, .retAddr 0, .int v2, .retAddr 0, .int v4, .int v5, .ref 61, .retAddr 0]) ⟨trivial, trivial, rfl, trivial, rfl, rfl, rfl, trivial, trivial⟩ (re_X_shift_30_61_69 (I := I) (J := J) (R := R)  h hQ)
    · rw [ehc_6] at h ⊢; (try rw [ehc_6] at hQ)
      refine az_E.ov (pc' := 30) (L' := [.ref 3, .retAddr 0, .int v2, .int (5 : Int32), .int v4, .int v5, .ref 61, .retAddr 0]) (S' := []) (σ' := (97, I, J, R)) (x := .ref 71) (o := az_aa az_F (97, I, J, R) 58 (5 : Int32)) rfl rfl ?_
      exact az_E.forget (L := [.retAddr 0, .retAddr 0, .int v2, .retAddr 0, .int v4, .int v5, .ref 61, .retAddr 0]) ⟨trivial, trivial, rfl, trivial, rfl, rfl, rfl, trivial, trivial⟩ (re_X_shift_30_61_71 (I := I) (J := J) (R := R)  h hQ)
set_option maxRecDepth 100000 in
set_option maxHeartbeats 4000000 in
theorem re_X_shift_30_63_61 {ex : az_X} {I : Nat → Nat → Int32} {J : Nat → Nat → Int64} {R : Nat → Nat → Option Nat} {v2 : Int32} {v4 : Int32} {v5 : Int32} {x : Int32 × (Nat → Nat → Int64)} (h : rs_X_shift_30 63 61 I J v2 v4 v5 = some x) {Q : Option Value → az_S → Prop} (hQ : Q (some (.int x.1)) (97, I, x.2, R)) : az_E az_F ex 2 128 30 [.retAddr 0, .retAddr 0, .int v2, .retAddr 0, .int v4, .int v5, .ref 63, .retAddr 0] [.ref 61] (97, I, J, R) Q := by
  unfold rs_X_shift_30 at h
  refine az_E.sn 2 (pc' := 34) (L' := [.retAddr 0, .retAddr 0, .int v2, .retAddr 0, .int v4, .int v5, .ref 63, .ref 61]) (S' := [.ref 63]) (σ' := (97, I, J, R)) rfl ?_
  refine az_E.call (d := 1) (k' := 54) (vs := [.ref 63]) (pc' := 37) (S' := []) rfl ?_ (fun _ _ hq => hq)
  show az_E az_F ex 1 54 0 [.ref 63] [] (97, I, J, R) _
  refine az_E.sn 3 (pc' := 5) (L' := [.ref 63]) (S' := [.int (-1 : Int32), .int (I 63 0)]) (σ' := (97, I, J, R)) rfl ?_
  refine az_E.br (c := (I 63 0) = (-1 : Int32)) (tt := 8) (ff := 20) (L' := [.ref 63]) (S' := []) (σ' := (97, I, J, R)) rfl (fun hc_332 => ?_) (fun hc_332 => ?_)
  · rw [if_pos hc_332] at h
    refine az_E.sn 3 (pc' := 13) (L' := [.ref 63]) (S' := [.int (-1 : Int32), .int (I 63 1)]) (σ' := (97, I, J, R)) rfl ?_
    refine az_E.br (c := (I 63 1) = (-1 : Int32)) (tt := 16) (ff := 20) (L' := [.ref 63]) (S' := []) (σ' := (97, I, J, R)) rfl (fun hc_333 => ?_) (fun hc_333 => ?_)
    · rw [if_pos hc_333] at h
      refine az_E.sn 2 (pc' := 21) (L' := [.ref 63]) (S' := [.int (1 : Int32)]) (σ' := (97, I, J, R)) rfl ?_
      refine az_E.ret (v := some (.int (1 : Int32))) (σ' := (97, I, J, R)) rfl ?_
      show az_E az_F ex 2 128 37 [.retAddr 0, .retAddr 0, .int v2, .retAddr 0, .int v4, .int v5, .ref 63, .ref 61] [.int (1 : Int32)] (97, I, J, R) _
      refine az_E.br (c := (1 : Int32) = 0) (tt := 40) (ff := 48) (L' := [.retAddr 0, .retAddr 0, .int v2, .retAddr 0, .int v4, .int v5, .ref 63, .ref 61]) (S' := []) (σ' := (97, I, J, R)) rfl (fun hn => absurd hn (by decide)) (fun _ => ?_)
      refine az_E.sn 1 (pc' := 50) (L' := [.retAddr 0, .retAddr 0, .int v2, .retAddr 0, .int v4, .int v5, .ref 63, .ref 61]) (S' := [.int (-11 : Int32)]) (σ' := (97, I, J, R)) rfl ?_
      have h := Option.some.inj h
      subst h
      exact az_E.ret (v := some (.int (-11 : Int32))) (σ' := (97, I, J, R)) rfl hQ
    · rw [if_neg hc_333] at h
      refine az_E.sn 1 (pc' := 21) (L' := [.ref 63]) (S' := [.int (0 : Int32)]) (σ' := (97, I, J, R)) rfl ?_
      refine az_E.ret (v := some (.int (0 : Int32))) (σ' := (97, I, J, R)) rfl ?_
      show az_E az_F ex 2 128 37 [.retAddr 0, .retAddr 0, .int v2, .retAddr 0, .int v4, .int v5, .ref 63, .ref 61] [.int (0 : Int32)] (97, I, J, R) _
      refine az_E.br (c := (0 : Int32) = 0) (tt := 40) (ff := 48) (L' := [.retAddr 0, .retAddr 0, .int v2, .retAddr 0, .int v4, .int v5, .ref 63, .ref 61]) (S' := []) (σ' := (97, I, J, R)) rfl (fun _ => ?_) (fun hn => absurd (by decide) hn)
      refine az_E.sn 1 (pc' := 42) (L' := [.retAddr 0, .retAddr 0, .int v2, .retAddr 0, .int v4, .int v5, .ref 63, .ref 61]) (S' := [.ref 61]) (σ' := (97, I, J, R)) rfl ?_
      refine az_E.call (d := 1) (k' := 54) (vs := [.ref 61]) (pc' := 45) (S' := []) rfl ?_ (fun _ _ hq => hq)
      show az_E az_F ex 1 54 0 [.ref 61] [] (97, I, J, R) _
      refine az_E.sn 3 (pc' := 5) (L' := [.ref 61]) (S' := [.int (-1 : Int32), .int (I 61 0)]) (σ' := (97, I, J, R)) rfl ?_
      refine az_E.br (c := (I 61 0) = (-1 : Int32)) (tt := 8) (ff := 20) (L' := [.ref 61]) (S' := []) (σ' := (97, I, J, R)) rfl (fun hc_334 => ?_) (fun hc_334 => ?_)
      · rw [if_pos hc_334] at h
        refine az_E.sn 3 (pc' := 13) (L' := [.ref 61]) (S' := [.int (-1 : Int32), .int (I 61 1)]) (σ' := (97, I, J, R)) rfl ?_
        refine az_E.br (c := (I 61 1) = (-1 : Int32)) (tt := 16) (ff := 20) (L' := [.ref 61]) (S' := []) (σ' := (97, I, J, R)) rfl (fun hc_335 => ?_) (fun hc_335 => ?_)
        · rw [if_pos hc_335] at h
          refine az_E.sn 2 (pc' := 21) (L' := [.ref 61]) (S' := [.int (1 : Int32)]) (σ' := (97, I, J, R)) rfl ?_
          refine az_E.ret (v := some (.int (1 : Int32))) (σ' := (97, I, J, R)) rfl ?_
          show az_E az_F ex 2 128 45 [.retAddr 0, .retAddr 0, .int v2, .retAddr 0, .int v4, .int v5, .ref 63, .ref 61] [.int (1 : Int32)] (97, I, J, R) _
          refine az_E.br (c := (1 : Int32) = 0) (tt := 51) (ff := 48) (L' := [.retAddr 0, .retAddr 0, .int v2, .retAddr 0, .int v4, .int v5, .ref 63, .ref 61]) (S' := []) (σ' := (97, I, J, R)) rfl (fun hn => absurd hn (by decide)) (fun _ => ?_)
          refine az_E.sn 1 (pc' := 50) (L' := [.retAddr 0, .retAddr 0, .int v2, .retAddr 0, .int v4, .int v5, .ref 63, .ref 61]) (S' := [.int (-11 : Int32)]) (σ' := (97, I, J, R)) rfl ?_
          have h := Option.some.inj h
          subst h
          exact az_E.ret (v := some (.int (-11 : Int32))) (σ' := (97, I, J, R)) rfl hQ
        · rw [if_neg hc_335] at h
          refine az_E.sn 1 (pc' := 21) (L' := [.ref 61]) (S' := [.int (0 : Int32)]) (σ' := (97, I, J, R)) rfl ?_
          refine az_E.ret (v := some (.int (0 : Int32))) (σ' := (97, I, J, R)) rfl ?_
          show az_E az_F ex 2 128 45 [.retAddr 0, .retAddr 0, .int v2, .retAddr 0, .int v4, .int v5, .ref 63, .ref 61] [.int (0 : Int32)] (97, I, J, R) _
          refine az_E.br (c := (0 : Int32) = 0) (tt := 51) (ff := 48) (L' := [.retAddr 0, .retAddr 0, .int v2, .retAddr 0, .int v4, .int v5, .ref 63, .ref 61]) (S' := []) (σ' := (97, I, J, R)) rfl (fun _ => ?_) (fun hn => absurd (by decide) hn)
          refine az_E.sn 1 (pc' := 53) (L' := [.retAddr 0, .retAddr 0, .int v2, .retAddr 0, .int v4, .int v5, .ref 63, .ref 61]) (S' := [.ref 63]) (σ' := (97, I, J, R)) rfl ?_
          refine az_E.call (d := 1) (k' := 55) (vs := [.ref 63]) (pc' := 56) (S' := []) rfl ?_ (fun _ _ hq => hq)
          show az_E az_F ex 1 55 0 [.ref 63] [] (97, I, J, R) _
          refine az_E.sn 3 (pc' := 5) (L' := [.ref 63]) (S' := [.int (-1 : Int32), .int (I 63 1)]) (σ' := (97, I, J, R)) rfl ?_
          refine az_E.br (c := (I 63 1) = (-1 : Int32)) (tt := 12) (ff := 8) (L' := [.ref 63]) (S' := []) (σ' := (97, I, J, R)) rfl (fun hc_336 => ?_) (fun hc_336 => ?_)
          · rw [if_pos hc_336] at h
            refine az_E.sn 1 (pc' := 13) (L' := [.ref 63]) (S' := [.int (0 : Int32)]) (σ' := (97, I, J, R)) rfl ?_
            refine az_E.ret (v := some (.int (0 : Int32))) (σ' := (97, I, J, R)) rfl ?_
            show az_E az_F ex 2 128 56 [.retAddr 0, .retAddr 0, .int v2, .retAddr 0, .int v4, .int v5, .ref 63, .ref 61] [.int (0 : Int32)] (97, I, J, R) _
            refine az_E.br (c := (0 : Int32) = 0) (tt := 72) (ff := 59) (L' := [.retAddr 0, .retAddr 0, .int v2, .retAddr 0, .int v4, .int v5, .ref 63, .ref 61]) (S' := []) (σ' := (97, I, J, R)) rfl (fun _ => ?_) (fun hn => absurd (by decide) hn)
            refine az_E.sn 1 (pc' := 74) (L' := [.retAddr 0, .retAddr 0, .int v2, .retAddr 0, .int v4, .int v5, .ref 63, .ref 61]) (S' := [.int (-12 : Int32)]) (σ' := (97, I, J, R)) rfl ?_
            have h := Option.some.inj h
            subst h
            exact az_E.ret (v := some (.int (-12 : Int32))) (σ' := (97, I, J, R)) rfl hQ
          · rw [if_neg hc_336] at h
            refine az_E.sn 2 (pc' := 13) (L' := [.ref 63]) (S' := [.int (1 : Int32)]) (σ' := (97, I, J, R)) rfl ?_
            refine az_E.ret (v := some (.int (1 : Int32))) (σ' := (97, I, J, R)) rfl ?_
            show az_E az_F ex 2 128 56 [.retAddr 0, .retAddr 0, .int v2, .retAddr 0, .int v4, .int v5, .ref 63, .ref 61] [.int (1 : Int32)] (97, I, J, R) _
            refine az_E.br (c := (1 : Int32) = 0) (tt := 72) (ff := 59) (L' := [.retAddr 0, .retAddr 0, .int v2, .retAddr 0, .int v4, .int v5, .ref 63, .ref 61]) (S' := []) (σ' := (97, I, J, R)) rfl (fun hn => absurd hn (by decide)) (fun _ => ?_)
            refine az_E.sn 3 (pc' := 66) (L' := [.retAddr 0, .retAddr 0, .int v2, .retAddr 0, .int v4, .int v5, .ref 63, .ref 61]) (S' := [.int (I 63 1), .ref 61]) (σ' := (97, I, J, R)) rfl ?_
            refine az_E.call (d := 1) (k' := 56) (vs := [.ref 61, .int (I 63 1)]) (pc' := 69) (S' := []) rfl ?_ (fun _ _ hq => hq)
            show az_E az_F ex 1 56 0 [.ref 61, .int (I 63 1)] [] (97, I, J, R) _
            refine az_E.sn 1 (pc' := 1) (L' := [.ref 61, .int (I 63 1)]) (S' := [.ref 61]) (σ' := (97, I, J, R)) rfl ?_
            refine az_E.call (d := 0) (k' := 55) (vs := [.ref 61]) (pc' := 4) (S' := []) rfl ?_ (fun _ _ hq => hq)
            show az_E az_F ex 0 55 0 [.ref 61] [] (97, I, J, R) _
            refine az_E.sn 3 (pc' := 5) (L' := [.ref 61]) (S' := [.int (-1 : Int32), .int (I 61 1)]) (σ' := (97, I, J, R)) rfl ?_
            refine az_E.br (c := (I 61 1) = (-1 : Int32)) (tt := 12) (ff := 8) (L' := [.ref 61]) (S' := []) (σ' := (97, I, J, R)) rfl (fun hc_337 => ?_) (fun hc_337 => ?_)
            · rw [if_pos hc_337] at h
              refine az_E.sn 1 (pc' := 13) (L' := [.ref 61]) (S' := [.int (0 : Int32)]) (σ' := (97, I, J, R)) rfl ?_
              refine az_E.ret (v := some (.int (0 : Int32))) (σ' := (97, I, J, R)) rfl ?_
              show az_E az_F ex 1 56 4 [.ref 61, .int (I 63 1)] [.int (0 : Int32)] (97, I, J, R) _
              refine az_E.br (c := (0 : Int32) = 0) (tt := 19) (ff := 7) (L' := [.ref 61, .int (I 63 1)]) (S' := []) (σ' := (97, I, J, R)) rfl (fun _ => ?_) (fun hn => absurd (by decide) hn)
              refine az_E.sn 1 (pc' := 20) (L' := [.ref 61, .int (I 63 1)]) (S' := [.int (0 : Int32)]) (σ' := (97, I, J, R)) rfl ?_
              refine az_E.ret (v := some (.int (0 : Int32))) (σ' := (97, I, J, R)) rfl ?_
              show az_E az_F ex 2 128 69 [.retAddr 0, .retAddr 0, .int v2, .retAddr 0, .int v4, .int v5, .ref 63, .ref 61] [.int (0 : Int32)] (97, I, J, R) _
              refine az_E.br (c := (0 : Int32) = 0) (tt := 72) (ff := 75) (L' := [.retAddr 0, .retAddr 0, .int v2, .retAddr 0, .int v4, .int v5, .ref 63, .ref 61]) (S' := []) (σ' := (97, I, J, R)) rfl (fun _ => ?_) (fun hn => absurd (by decide) hn)
              refine az_E.sn 1 (pc' := 74) (L' := [.retAddr 0, .retAddr 0, .int v2, .retAddr 0, .int v4, .int v5, .ref 63, .ref 61]) (S' := [.int (-12 : Int32)]) (σ' := (97, I, J, R)) rfl ?_
              have h := Option.some.inj h
              subst h
              exact az_E.ret (v := some (.int (-12 : Int32))) (σ' := (97, I, J, R)) rfl hQ
            · rw [if_neg hc_337] at h
              refine az_E.sn 2 (pc' := 13) (L' := [.ref 61]) (S' := [.int (1 : Int32)]) (σ' := (97, I, J, R)) rfl ?_
              refine az_E.ret (v := some (.int (1 : Int32))) (σ' := (97, I, J, R)) rfl ?_
              show az_E az_F ex 1 56 4 [.ref 61, .int (I 63 1)] [.int (1 : Int32)] (97, I, J, R) _
              refine az_E.br (c := (1 : Int32) = 0) (tt := 19) (ff := 7) (L' := [.ref 61, .int (I 63 1)]) (S' := []) (σ' := (97, I, J, R)) rfl (fun hn => absurd hn (by decide)) (fun _ => ?_)
              refine az_E.sn 3 (pc' := 12) (L' := [.ref 61, .int (I 63 1)]) (S' := [.int (I 63 1), .int (I 61 1)]) (σ' := (97, I, J, R)) rfl ?_
              refine az_E.br (c := (I 61 1) = (I 63 1)) (tt := 15) (ff := 19) (L' := [.ref 61, .int (I 63 1)]) (S' := []) (σ' := (97, I, J, R)) rfl (fun hc_338 => ?_) (fun hc_338 => ?_)
              · rw [if_pos hc_338] at h
                refine az_E.sn 2 (pc' := 20) (L' := [.ref 61, .int (I 63 1)]) (S' := [.int (1 : Int32)]) (σ' := (97, I, J, R)) rfl ?_
                refine az_E.ret (v := some (.int (1 : Int32))) (σ' := (97, I, J, R)) rfl ?_
                show az_E az_F ex 2 128 69 [.retAddr 0, .retAddr 0, .int v2, .retAddr 0, .int v4, .int v5, .ref 63, .ref 61] [.int (1 : Int32)] (97, I, J, R) _
                refine az_E.br (c := (1 : Int32) = 0) (tt := 72) (ff := 75) (L' := [.retAddr 0, .retAddr 0, .int v2, .retAddr 0, .int v4, .int v5, .ref 63, .ref 61]) (S' := []) (σ' := (97, I, J, R)) rfl (fun hn => absurd hn (by decide)) (fun _ => ?_)
                refine az_E.sn 3 (pc' := 80) (L' := [.retAddr 0, .retAddr 0, .int v2, .retAddr 0, .int v4, .int v5, .ref 63, .ref 61]) (S' := [.int v5, .int v2, .ref 63]) (σ' := (97, I, J, R)) rfl ?_
                refine az_E.call (d := 1) (k' := 60) (vs := [.ref 63, .int v2, .int v5]) (pc' := 83) (S' := []) rfl ?_ (fun _ _ hq => hq)
                show az_E az_F ex 1 60 0 [.ref 63, .int v2, .int v5] [] (97, I, J, R) _
                refine az_E.sn 1 (pc' := 1) (L' := [.ref 63, .int v2, .int v5]) (S' := [.int v2]) (σ' := (97, I, J, R)) rfl ?_
                refine az_E.br (c := v2 < 0) (tt := 30) (ff := 4) (L' := [.ref 63, .int v2, .int v5]) (S' := []) (σ' := (97, I, J, R)) rfl (fun hc_339 => ?_) (fun hc_339 => ?_)
                · rw [if_pos hc_339] at h
                  refine az_E.sn 1 (pc' := 31) (L' := [.ref 63, .int v2, .int v5]) (S' := [.int (0 : Int32)]) (σ' := (97, I, J, R)) rfl ?_
                  refine az_E.ret (v := some (.int (0 : Int32))) (σ' := (97, I, J, R)) rfl ?_
                  show az_E az_F ex 2 128 83 [.retAddr 0, .retAddr 0, .int v2, .retAddr 0, .int v4, .int v5, .ref 63, .ref 61] [.int (0 : Int32)] (97, I, J, R) _
                  refine az_E.br (c := (0 : Int32) = 0) (tt := 98) (ff := 86) (L' := [.retAddr 0, .retAddr 0, .int v2, .retAddr 0, .int v4, .int v5, .ref 63, .ref 61]) (S' := []) (σ' := (97, I, J, R)) rfl (fun _ => ?_) (fun hn => absurd (by decide) hn)
                  refine az_E.sn 1 (pc' := 100) (L' := [.retAddr 0, .retAddr 0, .int v2, .retAddr 0, .int v4, .int v5, .ref 63, .ref 61]) (S' := [.int (-13 : Int32)]) (σ' := (97, I, J, R)) rfl ?_
                  have h := Option.some.inj h
                  subst h
                  exact az_E.ret (v := some (.int (-13 : Int32))) (σ' := (97, I, J, R)) rfl hQ
                · rw [if_neg hc_339] at h
                  refine az_E.sn 1 (pc' := 5) (L' := [.ref 63, .int v2, .int v5]) (S' := [.int v5]) (σ' := (97, I, J, R)) rfl ?_
                  refine az_E.br (c := v5 < 0) (tt := 30) (ff := 8) (L' := [.ref 63, .int v2, .int v5]) (S' := []) (σ' := (97, I, J, R)) rfl (fun hc_340 => ?_) (fun hc_340 => ?_)
                  · rw [if_pos hc_340] at h
                    refine az_E.sn 1 (pc' := 31) (L' := [.ref 63, .int v2, .int v5]) (S' := [.int (0 : Int32)]) (σ' := (97, I, J, R)) rfl ?_
                    refine az_E.ret (v := some (.int (0 : Int32))) (σ' := (97, I, J, R)) rfl ?_
                    show az_E az_F ex 2 128 83 [.retAddr 0, .retAddr 0, .int v2, .retAddr 0, .int v4, .int v5, .ref 63, .ref 61] [.int (0 : Int32)] (97, I, J, R) _
                    refine az_E.br (c := (0 : Int32) = 0) (tt := 98) (ff := 86) (L' := [.retAddr 0, .retAddr 0, .int v2, .retAddr 0, .int v4, .int v5, .ref 63, .ref 61]) (S' := []) (σ' := (97, I, J, R)) rfl (fun _ => ?_) (fun hn => absurd (by decide) hn)
                    refine az_E.sn 1 (pc' := 100) (L' := [.retAddr 0, .retAddr 0, .int v2, .retAddr 0, .int v4, .int v5, .ref 63, .ref 61]) (S' := [.int (-13 : Int32)]) (σ' := (97, I, J, R)) rfl ?_
                    have h := Option.some.inj h
                    subst h
                    exact az_E.ret (v := some (.int (-13 : Int32))) (σ' := (97, I, J, R)) rfl hQ
                  · rw [if_neg hc_340] at h
                    refine az_E.sn 3 (pc' := 13) (L' := [.ref 63, .int v2, .int v5]) (S' := [.int (I 63 2), .int v2]) (σ' := (97, I, J, R)) rfl ?_
                    refine az_E.br (c := (I 63 2) < v2) (tt := 30) (ff := 16) (L' := [.ref 63, .int v2, .int v5]) (S' := []) (σ' := (97, I, J, R)) rfl (fun hc_341 => ?_) (fun hc_341 => ?_)
                    · rw [if_pos hc_341] at h
                      refine az_E.sn 1 (pc' := 31) (L' := [.ref 63, .int v2, .int v5]) (S' := [.int (0 : Int32)]) (σ' := (97, I, J, R)) rfl ?_
                      refine az_E.ret (v := some (.int (0 : Int32))) (σ' := (97, I, J, R)) rfl ?_
                      show az_E az_F ex 2 128 83 [.retAddr 0, .retAddr 0, .int v2, .retAddr 0, .int v4, .int v5, .ref 63, .ref 61] [.int (0 : Int32)] (97, I, J, R) _
                      refine az_E.br (c := (0 : Int32) = 0) (tt := 98) (ff := 86) (L' := [.retAddr 0, .retAddr 0, .int v2, .retAddr 0, .int v4, .int v5, .ref 63, .ref 61]) (S' := []) (σ' := (97, I, J, R)) rfl (fun _ => ?_) (fun hn => absurd (by decide) hn)
                      refine az_E.sn 1 (pc' := 100) (L' := [.retAddr 0, .retAddr 0, .int v2, .retAddr 0, .int v4, .int v5, .ref 63, .ref 61]) (S' := [.int (-13 : Int32)]) (σ' := (97, I, J, R)) rfl ?_
                      have h := Option.some.inj h
                      subst h
                      exact az_E.ret (v := some (.int (-13 : Int32))) (σ' := (97, I, J, R)) rfl hQ
                    · rw [if_neg hc_341] at h
                      refine az_E.sn 5 (pc' := 23) (L' := [.ref 63, .int v2, .int v5]) (S' := [.int ((I 63 2) - v2), .int v5]) (σ' := (97, I, J, R)) rfl ?_
                      refine az_E.br (c := ((I 63 2) - v2) < v5) (tt := 30) (ff := 26) (L' := [.ref 63, .int v2, .int v5]) (S' := []) (σ' := (97, I, J, R)) rfl (fun hc_342 => ?_) (fun hc_342 => ?_)
                      · rw [if_pos hc_342] at h
                        refine az_E.sn 1 (pc' := 31) (L' := [.ref 63, .int v2, .int v5]) (S' := [.int (0 : Int32)]) (σ' := (97, I, J, R)) rfl ?_
                        refine az_E.ret (v := some (.int (0 : Int32))) (σ' := (97, I, J, R)) rfl ?_
                        show az_E az_F ex 2 128 83 [.retAddr 0, .retAddr 0, .int v2, .retAddr 0, .int v4, .int v5, .ref 63, .ref 61] [.int (0 : Int32)] (97, I, J, R) _
                        refine az_E.br (c := (0 : Int32) = 0) (tt := 98) (ff := 86) (L' := [.retAddr 0, .retAddr 0, .int v2, .retAddr 0, .int v4, .int v5, .ref 63, .ref 61]) (S' := []) (σ' := (97, I, J, R)) rfl (fun _ => ?_) (fun hn => absurd (by decide) hn)
                        refine az_E.sn 1 (pc' := 100) (L' := [.retAddr 0, .retAddr 0, .int v2, .retAddr 0, .int v4, .int v5, .ref 63, .ref 61]) (S' := [.int (-13 : Int32)]) (σ' := (97, I, J, R)) rfl ?_
                        have h := Option.some.inj h
                        subst h
                        exact az_E.ret (v := some (.int (-13 : Int32))) (σ' := (97, I, J, R)) rfl hQ
                      · rw [if_neg hc_342] at h
                        refine az_E.sn 2 (pc' := 31) (L' := [.ref 63, .int v2, .int v5]) (S' := [.int (1 : Int32)]) (σ' := (97, I, J, R)) rfl ?_
                        refine az_E.ret (v := some (.int (1 : Int32))) (σ' := (97, I, J, R)) rfl ?_
                        show az_E az_F ex 2 128 83 [.retAddr 0, .retAddr 0, .int v2, .retAddr 0, .int v4, .int v5, .ref 63, .ref 61] [.int (1 : Int32)] (97, I, J, R) _
                        refine az_E.br (c := (1 : Int32) = 0) (tt := 98) (ff := 86) (L' := [.retAddr 0, .retAddr 0, .int v2, .retAddr 0, .int v4, .int v5, .ref 63, .ref 61]) (S' := []) (σ' := (97, I, J, R)) rfl (fun hn => absurd hn (by decide)) (fun _ => ?_)
                        refine az_E.sn 3 (pc' := 92) (L' := [.retAddr 0, .retAddr 0, .int v2, .retAddr 0, .int v4, .int v5, .ref 63, .ref 61]) (S' := [.int v5, .int v4, .ref 61]) (σ' := (97, I, J, R)) rfl ?_
                        refine az_E.call (d := 1) (k' := 60) (vs := [.ref 61, .int v4, .int v5]) (pc' := 95) (S' := []) rfl ?_ (fun _ _ hq => hq)
                        show az_E az_F ex 1 60 0 [.ref 61, .int v4, .int v5] [] (97, I, J, R) _
                        refine az_E.sn 1 (pc' := 1) (L' := [.ref 61, .int v4, .int v5]) (S' := [.int v4]) (σ' := (97, I, J, R)) rfl ?_
                        refine az_E.br (c := v4 < 0) (tt := 30) (ff := 4) (L' := [.ref 61, .int v4, .int v5]) (S' := []) (σ' := (97, I, J, R)) rfl (fun hc_343 => ?_) (fun hc_343 => ?_)
                        · rw [if_pos hc_343] at h
                          refine az_E.sn 1 (pc' := 31) (L' := [.ref 61, .int v4, .int v5]) (S' := [.int (0 : Int32)]) (σ' := (97, I, J, R)) rfl ?_
                          refine az_E.ret (v := some (.int (0 : Int32))) (σ' := (97, I, J, R)) rfl ?_
                          show az_E az_F ex 2 128 95 [.retAddr 0, .retAddr 0, .int v2, .retAddr 0, .int v4, .int v5, .ref 63, .ref 61] [.int (0 : Int32)] (97, I, J, R) _
                          refine az_E.br (c := (0 : Int32) = 0) (tt := 98) (ff := 101) (L' := [.retAddr 0, .retAddr 0, .int v2, .retAddr 0, .int v4, .int v5, .ref 63, .ref 61]) (S' := []) (σ' := (97, I, J, R)) rfl (fun _ => ?_) (fun hn => absurd (by decide) hn)
                          refine az_E.sn 1 (pc' := 100) (L' := [.retAddr 0, .retAddr 0, .int v2, .retAddr 0, .int v4, .int v5, .ref 63, .ref 61]) (S' := [.int (-13 : Int32)]) (σ' := (97, I, J, R)) rfl ?_
                          have h := Option.some.inj h
                          subst h
                          exact az_E.ret (v := some (.int (-13 : Int32))) (σ' := (97, I, J, R)) rfl hQ
                        · rw [if_neg hc_343] at h
                          refine az_E.sn 1 (pc' := 5) (L' := [.ref 61, .int v4, .int v5]) (S' := [.int v5]) (σ' := (97, I, J, R)) rfl ?_
                          refine az_E.br (c := v5 < 0) (tt := 30) (ff := 8) (L' := [.ref 61, .int v4, .int v5]) (S' := []) (σ' := (97, I, J, R)) rfl (fun hc_344 => ?_) (fun hc_344 => ?_)
                          · rw [if_pos hc_344] at h
                            refine az_E.sn 1 (pc' := 31) (L' := [.ref 61, .int v4, .int v5]) (S' := [.int (0 : Int32)]) (σ' := (97, I, J, R)) rfl ?_
                            refine az_E.ret (v := some (.int (0 : Int32))) (σ' := (97, I, J, R)) rfl ?_
                            show az_E az_F ex 2 128 95 [.retAddr 0, .retAddr 0, .int v2, .retAddr 0, .int v4, .int v5, .ref 63, .ref 61] [.int (0 : Int32)] (97, I, J, R) _
                            refine az_E.br (c := (0 : Int32) = 0) (tt := 98) (ff := 101) (L' := [.retAddr 0, .retAddr 0, .int v2, .retAddr 0, .int v4, .int v5, .ref 63, .ref 61]) (S' := []) (σ' := (97, I, J, R)) rfl (fun _ => ?_) (fun hn => absurd (by decide) hn)
                            refine az_E.sn 1 (pc' := 100) (L' := [.retAddr 0, .retAddr 0, .int v2, .retAddr 0, .int v4, .int v5, .ref 63, .ref 61]) (S' := [.int (-13 : Int32)]) (σ' := (97, I, J, R)) rfl ?_
                            have h := Option.some.inj h
                            subst h
                            exact az_E.ret (v := some (.int (-13 : Int32))) (σ' := (97, I, J, R)) rfl hQ
                          · rw [if_neg hc_344] at h
                            refine az_E.sn 3 (pc' := 13) (L' := [.ref 61, .int v4, .int v5]) (S' := [.int (I 61 2), .int v4]) (σ' := (97, I, J, R)) rfl ?_
                            refine az_E.br (c := (I 61 2) < v4) (tt := 30) (ff := 16) (L' := [.ref 61, .int v4, .int v5]) (S' := []) (σ' := (97, I, J, R)) rfl (fun hc_345 => ?_) (fun hc_345 => ?_)
                            · rw [if_pos hc_345] at h
                              refine az_E.sn 1 (pc' := 31) (L' := [.ref 61, .int v4, .int v5]) (S' := [.int (0 : Int32)]) (σ' := (97, I, J, R)) rfl ?_
                              refine az_E.ret (v := some (.int (0 : Int32))) (σ' := (97, I, J, R)) rfl ?_
                              show az_E az_F ex 2 128 95 [.retAddr 0, .retAddr 0, .int v2, .retAddr 0, .int v4, .int v5, .ref 63, .ref 61] [.int (0 : Int32)] (97, I, J, R) _
                              refine az_E.br (c := (0 : Int32) = 0) (tt := 98) (ff := 101) (L' := [.retAddr 0, .retAddr 0, .int v2, .retAddr 0, .int v4, .int v5, .ref 63, .ref 61]) (S' := []) (σ' := (97, I, J, R)) rfl (fun _ => ?_) (fun hn => absurd (by decide) hn)
                              refine az_E.sn 1 (pc' := 100) (L' := [.retAddr 0, .retAddr 0, .int v2, .retAddr 0, .int v4, .int v5, .ref 63, .ref 61]) (S' := [.int (-13 : Int32)]) (σ' := (97, I, J, R)) rfl ?_
                              have h := Option.some.inj h
                              subst h
                              exact az_E.ret (v := some (.int (-13 : Int32))) (σ' := (97, I, J, R)) rfl hQ
                            · rw [if_neg hc_345] at h
                              refine az_E.sn 5 (pc' := 23) (L' := [.ref 61, .int v4, .int v5]) (S' := [.int ((I 61 2) - v4), .int v5]) (σ' := (97, I, J, R)) rfl ?_
                              refine az_E.br (c := ((I 61 2) - v4) < v5) (tt := 30) (ff := 26) (L' := [.ref 61, .int v4, .int v5]) (S' := []) (σ' := (97, I, J, R)) rfl (fun hc_346 => ?_) (fun hc_346 => ?_)
                              · rw [if_pos hc_346] at h
                                refine az_E.sn 1 (pc' := 31) (L' := [.ref 61, .int v4, .int v5]) (S' := [.int (0 : Int32)]) (σ' := (97, I, J, R)) rfl ?_
                                refine az_E.ret (v := some (.int (0 : Int32))) (σ' := (97, I, J, R)) rfl ?_
                                show az_E az_F ex 2 128 95 [.retAddr 0, .retAddr 0, .int v2, .retAddr 0, .int v4, .int v5, .ref 63, .ref 61] [.int (0 : Int32)] (97, I, J, R) _
                                refine az_E.br (c := (0 : Int32) = 0) (tt := 98) (ff := 101) (L' := [.retAddr 0, .retAddr 0, .int v2, .retAddr 0, .int v4, .int v5, .ref 63, .ref 61]) (S' := []) (σ' := (97, I, J, R)) rfl (fun _ => ?_) (fun hn => absurd (by decide) hn)
                                refine az_E.sn 1 (pc' := 100) (L' := [.retAddr 0, .retAddr 0, .int v2, .retAddr 0, .int v4, .int v5, .ref 63, .ref 61]) (S' := [.int (-13 : Int32)]) (σ' := (97, I, J, R)) rfl ?_
                                have h := Option.some.inj h
                                subst h
                                exact az_E.ret (v := some (.int (-13 : Int32))) (σ' := (97, I, J, R)) rfl hQ
                              · rw [if_neg hc_346] at h
                                refine az_E.sn 2 (pc' := 31) (L' := [.ref 61, .int v4, .int v5]) (S' := [.int (1 : Int32)]) (σ' := (97, I, J, R)) rfl ?_
                                refine az_E.ret (v := some (.int (1 : Int32))) (σ' := (97, I, J, R)) rfl ?_
                                show az_E az_F ex 2 128 95 [.retAddr 0, .retAddr 0, .int v2, .retAddr 0, .int v4, .int v5, .ref 63, .ref 61] [.int (1 : Int32)] (97, I, J, R) _
                                refine az_E.br (c := (1 : Int32) = 0) (tt := 98) (ff := 101) (L' := [.retAddr 0, .retAddr 0, .int v2, .retAddr 0, .int v4, .int v5, .ref 63, .ref 61]) (S' := []) (σ' := (97, I, J, R)) rfl (fun hn => absurd hn (by decide)) (fun _ => ?_)
                                refine az_E.sn 7 (pc' := 116) (L' := [.retAddr 0, .retAddr 0, .int v2, .retAddr 0, .int v4, .int v5, .ref 63, .ref 61]) (S' := [.int v5, .int v4, .ref (61 + 1), .int v2, .ref (63 + 1)]) (σ' := (97, I, J, R)) rfl ?_
                                by_cases hc_347 : v2 < 0 ∨ v4 < 0 ∨ v5 < 0 ∨ 60 < v2.toNatClampNeg + v5.toNatClampNeg ∨ 60 < v4.toNatClampNeg + v5.toNatClampNeg
                                · rw [if_pos hc_347] at h; cases h
                                · rw [if_neg hc_347] at h
                                  refine az_E.o (o := az_cp az_F (97, I, J, R) (63 + 1) v2 (61 + 1) v4 v5) (pc' := 119) (L' := [.retAddr 0, .retAddr 0, .int v2, .retAddr 0, .int v4, .int v5, .ref 63, .ref 61]) (S' := []) (x := (97, I, (az_ur J (61 + 1) (va_cpy (J (63 + 1)) (J (61 + 1)) v2.toNatClampNeg v4.toNatClampNeg v5.toNatClampNeg)), R)) rfl (if_neg hc_347) ?_
                                  refine az_E.sn 1 (pc' := 121) (L' := [.retAddr 0, .retAddr 0, .int v2, .retAddr 0, .int v4, .int v5, .ref 63, .ref 61]) (S' := [.int v5]) (σ' := (97, I, (az_ur J (61 + 1) (va_cpy (J (63 + 1)) (J (61 + 1)) v2.toNatClampNeg v4.toNatClampNeg v5.toNatClampNeg)), R)) rfl ?_
                                  have h := Option.some.inj h
                                  subst h
                                  exact az_E.ret (v := some (.int v5)) (σ' := (97, I, (az_ur J (61 + 1) (va_cpy (J (63 + 1)) (J (61 + 1)) v2.toNatClampNeg v4.toNatClampNeg v5.toNatClampNeg)), R)) rfl hQ
              · rw [if_neg hc_338] at h
                refine az_E.sn 1 (pc' := 20) (L' := [.ref 61, .int (I 63 1)]) (S' := [.int (0 : Int32)]) (σ' := (97, I, J, R)) rfl ?_
                refine az_E.ret (v := some (.int (0 : Int32))) (σ' := (97, I, J, R)) rfl ?_
                show az_E az_F ex 2 128 69 [.retAddr 0, .retAddr 0, .int v2, .retAddr 0, .int v4, .int v5, .ref 63, .ref 61] [.int (0 : Int32)] (97, I, J, R) _
                refine az_E.br (c := (0 : Int32) = 0) (tt := 72) (ff := 75) (L' := [.retAddr 0, .retAddr 0, .int v2, .retAddr 0, .int v4, .int v5, .ref 63, .ref 61]) (S' := []) (σ' := (97, I, J, R)) rfl (fun _ => ?_) (fun hn => absurd (by decide) hn)
                refine az_E.sn 1 (pc' := 74) (L' := [.retAddr 0, .retAddr 0, .int v2, .retAddr 0, .int v4, .int v5, .ref 63, .ref 61]) (S' := [.int (-12 : Int32)]) (σ' := (97, I, J, R)) rfl ?_
                have h := Option.some.inj h
                subst h
                exact az_E.ret (v := some (.int (-12 : Int32))) (σ' := (97, I, J, R)) rfl hQ
      · rw [if_neg hc_334] at h
        refine az_E.sn 1 (pc' := 21) (L' := [.ref 61]) (S' := [.int (0 : Int32)]) (σ' := (97, I, J, R)) rfl ?_
        refine az_E.ret (v := some (.int (0 : Int32))) (σ' := (97, I, J, R)) rfl ?_
        show az_E az_F ex 2 128 45 [.retAddr 0, .retAddr 0, .int v2, .retAddr 0, .int v4, .int v5, .ref 63, .ref 61] [.int (0 : Int32)] (97, I, J, R) _
        refine az_E.br (c := (0 : Int32) = 0) (tt := 51) (ff := 48) (L' := [.retAddr 0, .retAddr 0, .int v2, .retAddr 0, .int v4, .int v5, .ref 63, .ref 61]) (S' := []) (σ' := (97, I, J, R)) rfl (fun _ => ?_) (fun hn => absurd (by decide) hn)
        refine az_E.sn 1 (pc' := 53) (L' := [.retAddr 0, .retAddr 0, .int v2, .retAddr 0, .int v4, .int v5, .ref 63, .ref 61]) (S' := [.ref 63]) (σ' := (97, I, J, R)) rfl ?_
        refine az_E.call (d := 1) (k' := 55) (vs := [.ref 63]) (pc' := 56) (S' := []) rfl ?_ (fun _ _ hq => hq)
        show az_E az_F ex 1 55 0 [.ref 63] [] (97, I, J, R) _
        refine az_E.sn 3 (pc' := 5) (L' := [.ref 63]) (S' := [.int (-1 : Int32), .int (I 63 1)]) (σ' := (97, I, J, R)) rfl ?_
        refine az_E.br (c := (I 63 1) = (-1 : Int32)) (tt := 12) (ff := 8) (L' := [.ref 63]) (S' := []) (σ' := (97, I, J, R)) rfl (fun hc_348 => ?_) (fun hc_348 => ?_)
        · rw [if_pos hc_348] at h
          refine az_E.sn 1 (pc' := 13) (L' := [.ref 63]) (S' := [.int (0 : Int32)]) (σ' := (97, I, J, R)) rfl ?_
          refine az_E.ret (v := some (.int (0 : Int32))) (σ' := (97, I, J, R)) rfl ?_
          show az_E az_F ex 2 128 56 [.retAddr 0, .retAddr 0, .int v2, .retAddr 0, .int v4, .int v5, .ref 63, .ref 61] [.int (0 : Int32)] (97, I, J, R) _
          refine az_E.br (c := (0 : Int32) = 0) (tt := 72) (ff := 59) (L' := [.retAddr 0, .retAddr 0, .int v2, .retAddr 0, .int v4, .int v5, .ref 63, .ref 61]) (S' := []) (σ' := (97, I, J, R)) rfl (fun _ => ?_) (fun hn => absurd (by decide) hn)
          refine az_E.sn 1 (pc' := 74) (L' := [.retAddr 0, .retAddr 0, .int v2, .retAddr 0, .int v4, .int v5, .ref 63, .ref 61]) (S' := [.int (-12 : Int32)]) (σ' := (97, I, J, R)) rfl ?_
          have h := Option.some.inj h
          subst h
          exact az_E.ret (v := some (.int (-12 : Int32))) (σ' := (97, I, J, R)) rfl hQ
        · rw [if_neg hc_348] at h
          refine az_E.sn 2 (pc' := 13) (L' := [.ref 63]) (S' := [.int (1 : Int32)]) (σ' := (97, I, J, R)) rfl ?_
          refine az_E.ret (v := some (.int (1 : Int32))) (σ' := (97, I, J, R)) rfl ?_
          show az_E az_F ex 2 128 56 [.retAddr 0, .retAddr 0, .int v2, .retAddr 0, .int v4, .int v5, .ref 63, .ref 61] [.int (1 : Int32)] (97, I, J, R) _
          refine az_E.br (c := (1 : Int32) = 0) (tt := 72) (ff := 59) (L' := [.retAddr 0, .retAddr 0, .int v2, .retAddr 0, .int v4, .int v5, .ref 63, .ref 61]) (S' := []) (σ' := (97, I, J, R)) rfl (fun hn => absurd hn (by decide)) (fun _ => ?_)
          refine az_E.sn 3 (pc' := 66) (L' := [.retAddr 0, .retAddr 0, .int v2, .retAddr 0, .int v4, .int v5, .ref 63, .ref 61]) (S' := [.int (I 63 1), .ref 61]) (σ' := (97, I, J, R)) rfl ?_
          refine az_E.call (d := 1) (k' := 56) (vs := [.ref 61, .int (I 63 1)]) (pc' := 69) (S' := []) rfl ?_ (fun _ _ hq => hq)
          show az_E az_F ex 1 56 0 [.ref 61, .int (I 63 1)] [] (97, I, J, R) _
          refine az_E.sn 1 (pc' := 1) (L' := [.ref 61, .int (I 63 1)]) (S' := [.ref 61]) (σ' := (97, I, J, R)) rfl ?_
          refine az_E.call (d := 0) (k' := 55) (vs := [.ref 61]) (pc' := 4) (S' := []) rfl ?_ (fun _ _ hq => hq)
          show az_E az_F ex 0 55 0 [.ref 61] [] (97, I, J, R) _
          refine az_E.sn 3 (pc' := 5) (L' := [.ref 61]) (S' := [.int (-1 : Int32), .int (I 61 1)]) (σ' := (97, I, J, R)) rfl ?_
          refine az_E.br (c := (I 61 1) = (-1 : Int32)) (tt := 12) (ff := 8) (L' := [.ref 61]) (S' := []) (σ' := (97, I, J, R)) rfl (fun hc_349 => ?_) (fun hc_349 => ?_)
          · rw [if_pos hc_349] at h
            refine az_E.sn 1 (pc' := 13) (L' := [.ref 61]) (S' := [.int (0 : Int32)]) (σ' := (97, I, J, R)) rfl ?_
            refine az_E.ret (v := some (.int (0 : Int32))) (σ' := (97, I, J, R)) rfl ?_
            show az_E az_F ex 1 56 4 [.ref 61, .int (I 63 1)] [.int (0 : Int32)] (97, I, J, R) _
            refine az_E.br (c := (0 : Int32) = 0) (tt := 19) (ff := 7) (L' := [.ref 61, .int (I 63 1)]) (S' := []) (σ' := (97, I, J, R)) rfl (fun _ => ?_) (fun hn => absurd (by decide) hn)
            refine az_E.sn 1 (pc' := 20) (L' := [.ref 61, .int (I 63 1)]) (S' := [.int (0 : Int32)]) (σ' := (97, I, J, R)) rfl ?_
            refine az_E.ret (v := some (.int (0 : Int32))) (σ' := (97, I, J, R)) rfl ?_
            show az_E az_F ex 2 128 69 [.retAddr 0, .retAddr 0, .int v2, .retAddr 0, .int v4, .int v5, .ref 63, .ref 61] [.int (0 : Int32)] (97, I, J, R) _
            refine az_E.br (c := (0 : Int32) = 0) (tt := 72) (ff := 75) (L' := [.retAddr 0, .retAddr 0, .int v2, .retAddr 0, .int v4, .int v5, .ref 63, .ref 61]) (S' := []) (σ' := (97, I, J, R)) rfl (fun _ => ?_) (fun hn => absurd (by decide) hn)
            refine az_E.sn 1 (pc' := 74) (L' := [.retAddr 0, .retAddr 0, .int v2, .retAddr 0, .int v4, .int v5, .ref 63, .ref 61]) (S' := [.int (-12 : Int32)]) (σ' := (97, I, J, R)) rfl ?_
            have h := Option.some.inj h
            subst h
            exact az_E.ret (v := some (.int (-12 : Int32))) (σ' := (97, I, J, R)) rfl hQ
          · rw [if_neg hc_349] at h
            refine az_E.sn 2 (pc' := 13) (L' := [.ref 61]) (S' := [.int (1 : Int32)]) (σ' := (97, I, J, R)) rfl ?_
            refine az_E.ret (v := some (.int (1 : Int32))) (σ' := (97, I, J, R)) rfl ?_
            show az_E az_F ex 1 56 4 [.ref 61, .int (I 63 1)] [.int (1 : Int32)] (97, I, J, R) _
            refine az_E.br (c := (1 : Int32) = 0) (tt := 19) (ff := 7) (L' := [.ref 61, .int (I 63 1)]) (S' := []) (σ' := (97, I, J, R)) rfl (fun hn => absurd hn (by decide)) (fun _ => ?_)
            refine az_E.sn 3 (pc' := 12) (L' := [.ref 61, .int (I 63 1)]) (S' := [.int (I 63 1), .int (I 61 1)]) (σ' := (97, I, J, R)) rfl ?_
            refine az_E.br (c := (I 61 1) = (I 63 1)) (tt := 15) (ff := 19) (L' := [.ref 61, .int (I 63 1)]) (S' := []) (σ' := (97, I, J, R)) rfl (fun hc_350 => ?_) (fun hc_350 => ?_)
            · rw [if_pos hc_350] at h
              refine az_E.sn 2 (pc' := 20) (L' := [.ref 61, .int (I 63 1)]) (S' := [.int (1 : Int32)]) (σ' := (97, I, J, R)) rfl ?_
              refine az_E.ret (v := some (.int (1 : Int32))) (σ' := (97, I, J, R)) rfl ?_
              show az_E az_F ex 2 128 69 [.retAddr 0, .retAddr 0, .int v2, .retAddr 0, .int v4, .int v5, .ref 63, .ref 61] [.int (1 : Int32)] (97, I, J, R) _
              refine az_E.br (c := (1 : Int32) = 0) (tt := 72) (ff := 75) (L' := [.retAddr 0, .retAddr 0, .int v2, .retAddr 0, .int v4, .int v5, .ref 63, .ref 61]) (S' := []) (σ' := (97, I, J, R)) rfl (fun hn => absurd hn (by decide)) (fun _ => ?_)
              refine az_E.sn 3 (pc' := 80) (L' := [.retAddr 0, .retAddr 0, .int v2, .retAddr 0, .int v4, .int v5, .ref 63, .ref 61]) (S' := [.int v5, .int v2, .ref 63]) (σ' := (97, I, J, R)) rfl ?_
              refine az_E.call (d := 1) (k' := 60) (vs := [.ref 63, .int v2, .int v5]) (pc' := 83) (S' := []) rfl ?_ (fun _ _ hq => hq)
              show az_E az_F ex 1 60 0 [.ref 63, .int v2, .int v5] [] (97, I, J, R) _
              refine az_E.sn 1 (pc' := 1) (L' := [.ref 63, .int v2, .int v5]) (S' := [.int v2]) (σ' := (97, I, J, R)) rfl ?_
              refine az_E.br (c := v2 < 0) (tt := 30) (ff := 4) (L' := [.ref 63, .int v2, .int v5]) (S' := []) (σ' := (97, I, J, R)) rfl (fun hc_351 => ?_) (fun hc_351 => ?_)
              · rw [if_pos hc_351] at h
                refine az_E.sn 1 (pc' := 31) (L' := [.ref 63, .int v2, .int v5]) (S' := [.int (0 : Int32)]) (σ' := (97, I, J, R)) rfl ?_
                refine az_E.ret (v := some (.int (0 : Int32))) (σ' := (97, I, J, R)) rfl ?_
                show az_E az_F ex 2 128 83 [.retAddr 0, .retAddr 0, .int v2, .retAddr 0, .int v4, .int v5, .ref 63, .ref 61] [.int (0 : Int32)] (97, I, J, R) _
                refine az_E.br (c := (0 : Int32) = 0) (tt := 98) (ff := 86) (L' := [.retAddr 0, .retAddr 0, .int v2, .retAddr 0, .int v4, .int v5, .ref 63, .ref 61]) (S' := []) (σ' := (97, I, J, R)) rfl (fun _ => ?_) (fun hn => absurd (by decide) hn)
                refine az_E.sn 1 (pc' := 100) (L' := [.retAddr 0, .retAddr 0, .int v2, .retAddr 0, .int v4, .int v5, .ref 63, .ref 61]) (S' := [.int (-13 : Int32)]) (σ' := (97, I, J, R)) rfl ?_
                have h := Option.some.inj h
                subst h
                exact az_E.ret (v := some (.int (-13 : Int32))) (σ' := (97, I, J, R)) rfl hQ
              · rw [if_neg hc_351] at h
                refine az_E.sn 1 (pc' := 5) (L' := [.ref 63, .int v2, .int v5]) (S' := [.int v5]) (σ' := (97, I, J, R)) rfl ?_
                refine az_E.br (c := v5 < 0) (tt := 30) (ff := 8) (L' := [.ref 63, .int v2, .int v5]) (S' := []) (σ' := (97, I, J, R)) rfl (fun hc_352 => ?_) (fun hc_352 => ?_)
                · rw [if_pos hc_352] at h
                  refine az_E.sn 1 (pc' := 31) (L' := [.ref 63, .int v2, .int v5]) (S' := [.int (0 : Int32)]) (σ' := (97, I, J, R)) rfl ?_
                  refine az_E.ret (v := some (.int (0 : Int32))) (σ' := (97, I, J, R)) rfl ?_
                  show az_E az_F ex 2 128 83 [.retAddr 0, .retAddr 0, .int v2, .retAddr 0, .int v4, .int v5, .ref 63, .ref 61] [.int (0 : Int32)] (97, I, J, R) _
                  refine az_E.br (c := (0 : Int32) = 0) (tt := 98) (ff := 86) (L' := [.retAddr 0, .retAddr 0, .int v2, .retAddr 0, .int v4, .int v5, .ref 63, .ref 61]) (S' := []) (σ' := (97, I, J, R)) rfl (fun _ => ?_) (fun hn => absurd (by decide) hn)
                  refine az_E.sn 1 (pc' := 100) (L' := [.retAddr 0, .retAddr 0, .int v2, .retAddr 0, .int v4, .int v5, .ref 63, .ref 61]) (S' := [.int (-13 : Int32)]) (σ' := (97, I, J, R)) rfl ?_
                  have h := Option.some.inj h
                  subst h
                  exact az_E.ret (v := some (.int (-13 : Int32))) (σ' := (97, I, J, R)) rfl hQ
                · rw [if_neg hc_352] at h
                  refine az_E.sn 3 (pc' := 13) (L' := [.ref 63, .int v2, .int v5]) (S' := [.int (I 63 2), .int v2]) (σ' := (97, I, J, R)) rfl ?_
                  refine az_E.br (c := (I 63 2) < v2) (tt := 30) (ff := 16) (L' := [.ref 63, .int v2, .int v5]) (S' := []) (σ' := (97, I, J, R)) rfl (fun hc_353 => ?_) (fun hc_353 => ?_)
                  · rw [if_pos hc_353] at h
                    refine az_E.sn 1 (pc' := 31) (L' := [.ref 63, .int v2, .int v5]) (S' := [.int (0 : Int32)]) (σ' := (97, I, J, R)) rfl ?_
                    refine az_E.ret (v := some (.int (0 : Int32))) (σ' := (97, I, J, R)) rfl ?_
                    show az_E az_F ex 2 128 83 [.retAddr 0, .retAddr 0, .int v2, .retAddr 0, .int v4, .int v5, .ref 63, .ref 61] [.int (0 : Int32)] (97, I, J, R) _
                    refine az_E.br (c := (0 : Int32) = 0) (tt := 98) (ff := 86) (L' := [.retAddr 0, .retAddr 0, .int v2, .retAddr 0, .int v4, .int v5, .ref 63, .ref 61]) (S' := []) (σ' := (97, I, J, R)) rfl (fun _ => ?_) (fun hn => absurd (by decide) hn)
                    refine az_E.sn 1 (pc' := 100) (L' := [.retAddr 0, .retAddr 0, .int v2, .retAddr 0, .int v4, .int v5, .ref 63, .ref 61]) (S' := [.int (-13 : Int32)]) (σ' := (97, I, J, R)) rfl ?_
                    have h := Option.some.inj h
                    subst h
                    exact az_E.ret (v := some (.int (-13 : Int32))) (σ' := (97, I, J, R)) rfl hQ
                  · rw [if_neg hc_353] at h
                    refine az_E.sn 5 (pc' := 23) (L' := [.ref 63, .int v2, .int v5]) (S' := [.int ((I 63 2) - v2), .int v5]) (σ' := (97, I, J, R)) rfl ?_
                    refine az_E.br (c := ((I 63 2) - v2) < v5) (tt := 30) (ff := 26) (L' := [.ref 63, .int v2, .int v5]) (S' := []) (σ' := (97, I, J, R)) rfl (fun hc_354 => ?_) (fun hc_354 => ?_)
                    · rw [if_pos hc_354] at h
                      refine az_E.sn 1 (pc' := 31) (L' := [.ref 63, .int v2, .int v5]) (S' := [.int (0 : Int32)]) (σ' := (97, I, J, R)) rfl ?_
                      refine az_E.ret (v := some (.int (0 : Int32))) (σ' := (97, I, J, R)) rfl ?_
                      show az_E az_F ex 2 128 83 [.retAddr 0, .retAddr 0, .int v2, .retAddr 0, .int v4, .int v5, .ref 63, .ref 61] [.int (0 : Int32)] (97, I, J, R) _
                      refine az_E.br (c := (0 : Int32) = 0) (tt := 98) (ff := 86) (L' := [.retAddr 0, .retAddr 0, .int v2, .retAddr 0, .int v4, .int v5, .ref 63, .ref 61]) (S' := []) (σ' := (97, I, J, R)) rfl (fun _ => ?_) (fun hn => absurd (by decide) hn)
                      refine az_E.sn 1 (pc' := 100) (L' := [.retAddr 0, .retAddr 0, .int v2, .retAddr 0, .int v4, .int v5, .ref 63, .ref 61]) (S' := [.int (-13 : Int32)]) (σ' := (97, I, J, R)) rfl ?_
                      have h := Option.some.inj h
                      subst h
                      exact az_E.ret (v := some (.int (-13 : Int32))) (σ' := (97, I, J, R)) rfl hQ
                    · rw [if_neg hc_354] at h
                      refine az_E.sn 2 (pc' := 31) (L' := [.ref 63, .int v2, .int v5]) (S' := [.int (1 : Int32)]) (σ' := (97, I, J, R)) rfl ?_
                      refine az_E.ret (v := some (.int (1 : Int32))) (σ' := (97, I, J, R)) rfl ?_
                      show az_E az_F ex 2 128 83 [.retAddr 0, .retAddr 0, .int v2, .retAddr 0, .int v4, .int v5, .ref 63, .ref 61] [.int (1 : Int32)] (97, I, J, R) _
                      refine az_E.br (c := (1 : Int32) = 0) (tt := 98) (ff := 86) (L' := [.retAddr 0, .retAddr 0, .int v2, .retAddr 0, .int v4, .int v5, .ref 63, .ref 61]) (S' := []) (σ' := (97, I, J, R)) rfl (fun hn => absurd hn (by decide)) (fun _ => ?_)
                      refine az_E.sn 3 (pc' := 92) (L' := [.retAddr 0, .retAddr 0, .int v2, .retAddr 0, .int v4, .int v5, .ref 63, .ref 61]) (S' := [.int v5, .int v4, .ref 61]) (σ' := (97, I, J, R)) rfl ?_
                      refine az_E.call (d := 1) (k' := 60) (vs := [.ref 61, .int v4, .int v5]) (pc' := 95) (S' := []) rfl ?_ (fun _ _ hq => hq)
                      show az_E az_F ex 1 60 0 [.ref 61, .int v4, .int v5] [] (97, I, J, R) _
                      refine az_E.sn 1 (pc' := 1) (L' := [.ref 61, .int v4, .int v5]) (S' := [.int v4]) (σ' := (97, I, J, R)) rfl ?_
                      refine az_E.br (c := v4 < 0) (tt := 30) (ff := 4) (L' := [.ref 61, .int v4, .int v5]) (S' := []) (σ' := (97, I, J, R)) rfl (fun hc_355 => ?_) (fun hc_355 => ?_)
                      · rw [if_pos hc_355] at h
                        refine az_E.sn 1 (pc' := 31) (L' := [.ref 61, .int v4, .int v5]) (S' := [.int (0 : Int32)]) (σ' := (97, I, J, R)) rfl ?_
                        refine az_E.ret (v := some (.int (0 : Int32))) (σ' := (97, I, J, R)) rfl ?_
                        show az_E az_F ex 2 128 95 [.retAddr 0, .retAddr 0, .int v2, .retAddr 0, .int v4, .int v5, .ref 63, .ref 61] [.int (0 : Int32)] (97, I, J, R) _
                        refine az_E.br (c := (0 : Int32) = 0) (tt := 98) (ff := 101) (L' := [.retAddr 0, .retAddr 0, .int v2, .retAddr 0, .int v4, .int v5, .ref 63, .ref 61]) (S' := []) (σ' := (97, I, J, R)) rfl (fun _ => ?_) (fun hn => absurd (by decide) hn)
                        refine az_E.sn 1 (pc' := 100) (L' := [.retAddr 0, .retAddr 0, .int v2, .retAddr 0, .int v4, .int v5, .ref 63, .ref 61]) (S' := [.int (-13 : Int32)]) (σ' := (97, I, J, R)) rfl ?_
                        have h := Option.some.inj h
                        subst h
                        exact az_E.ret (v := some (.int (-13 : Int32))) (σ' := (97, I, J, R)) rfl hQ
                      · rw [if_neg hc_355] at h
                        refine az_E.sn 1 (pc' := 5) (L' := [.ref 61, .int v4, .int v5]) (S' := [.int v5]) (σ' := (97, I, J, R)) rfl ?_
                        refine az_E.br (c := v5 < 0) (tt := 30) (ff := 8) (L' := [.ref 61, .int v4, .int v5]) (S' := []) (σ' := (97, I, J, R)) rfl (fun hc_356 => ?_) (fun hc_356 => ?_)
                        · rw [if_pos hc_356] at h
                          refine az_E.sn 1 (pc' := 31) (L' := [.ref 61, .int v4, .int v5]) (S' := [.int (0 : Int32)]) (σ' := (97, I, J, R)) rfl ?_
                          refine az_E.ret (v := some (.int (0 : Int32))) (σ' := (97, I, J, R)) rfl ?_
                          show az_E az_F ex 2 128 95 [.retAddr 0, .retAddr 0, .int v2, .retAddr 0, .int v4, .int v5, .ref 63, .ref 61] [.int (0 : Int32)] (97, I, J, R) _
                          refine az_E.br (c := (0 : Int32) = 0) (tt := 98) (ff := 101) (L' := [.retAddr 0, .retAddr 0, .int v2, .retAddr 0, .int v4, .int v5, .ref 63, .ref 61]) (S' := []) (σ' := (97, I, J, R)) rfl (fun _ => ?_) (fun hn => absurd (by decide) hn)
                          refine az_E.sn 1 (pc' := 100) (L' := [.retAddr 0, .retAddr 0, .int v2, .retAddr 0, .int v4, .int v5, .ref 63, .ref 61]) (S' := [.int (-13 : Int32)]) (σ' := (97, I, J, R)) rfl ?_
                          have h := Option.some.inj h
                          subst h
                          exact az_E.ret (v := some (.int (-13 : Int32))) (σ' := (97, I, J, R)) rfl hQ
                        · rw [if_neg hc_356] at h
                          refine az_E.sn 3 (pc' := 13) (L' := [.ref 61, .int v4, .int v5]) (S' := [.int (I 61 2), .int v4]) (σ' := (97, I, J, R)) rfl ?_
                          refine az_E.br (c := (I 61 2) < v4) (tt := 30) (ff := 16) (L' := [.ref 61, .int v4, .int v5]) (S' := []) (σ' := (97, I, J, R)) rfl (fun hc_357 => ?_) (fun hc_357 => ?_)
                          · rw [if_pos hc_357] at h
                            refine az_E.sn 1 (pc' := 31) (L' := [.ref 61, .int v4, .int v5]) (S' := [.int (0 : Int32)]) (σ' := (97, I, J, R)) rfl ?_
                            refine az_E.ret (v := some (.int (0 : Int32))) (σ' := (97, I, J, R)) rfl ?_
                            show az_E az_F ex 2 128 95 [.retAddr 0, .retAddr 0, .int v2, .retAddr 0, .int v4, .int v5, .ref 63, .ref 61] [.int (0 : Int32)] (97, I, J, R) _
                            refine az_E.br (c := (0 : Int32) = 0) (tt := 98) (ff := 101) (L' := [.retAddr 0, .retAddr 0, .int v2, .retAddr 0, .int v4, .int v5, .ref 63, .ref 61]) (S' := []) (σ' := (97, I, J, R)) rfl (fun _ => ?_) (fun hn => absurd (by decide) hn)
                            refine az_E.sn 1 (pc' := 100) (L' := [.retAddr 0, .retAddr 0, .int v2, .retAddr 0, .int v4, .int v5, .ref 63, .ref 61]) (S' := [.int (-13 : Int32)]) (σ' := (97, I, J, R)) rfl ?_
                            have h := Option.some.inj h
                            subst h
                            exact az_E.ret (v := some (.int (-13 : Int32))) (σ' := (97, I, J, R)) rfl hQ
                          · rw [if_neg hc_357] at h
                            refine az_E.sn 5 (pc' := 23) (L' := [.ref 61, .int v4, .int v5]) (S' := [.int ((I 61 2) - v4), .int v5]) (σ' := (97, I, J, R)) rfl ?_
                            refine az_E.br (c := ((I 61 2) - v4) < v5) (tt := 30) (ff := 26) (L' := [.ref 61, .int v4, .int v5]) (S' := []) (σ' := (97, I, J, R)) rfl (fun hc_358 => ?_) (fun hc_358 => ?_)
                            · rw [if_pos hc_358] at h
                              refine az_E.sn 1 (pc' := 31) (L' := [.ref 61, .int v4, .int v5]) (S' := [.int (0 : Int32)]) (σ' := (97, I, J, R)) rfl ?_
                              refine az_E.ret (v := some (.int (0 : Int32))) (σ' := (97, I, J, R)) rfl ?_
                              show az_E az_F ex 2 128 95 [.retAddr 0, .retAddr 0, .int v2, .retAddr 0, .int v4, .int v5, .ref 63, .ref 61] [.int (0 : Int32)] (97, I, J, R) _
                              refine az_E.br (c := (0 : Int32) = 0) (tt := 98) (ff := 101) (L' := [.retAddr 0, .retAddr 0, .int v2, .retAddr 0, .int v4, .int v5, .ref 63, .ref 61]) (S' := []) (σ' := (97, I, J, R)) rfl (fun _ => ?_) (fun hn => absurd (by decide) hn)
                              refine az_E.sn 1 (pc' := 100) (L' := [.retAddr 0, .retAddr 0, .int v2, .retAddr 0, .int v4, .int v5, .ref 63, .ref 61]) (S' := [.int (-13 : Int32)]) (σ' := (97, I, J, R)) rfl ?_
                              have h := Option.some.inj h
                              subst h
                              exact az_E.ret (v := some (.int (-13 : Int32))) (σ' := (97, I, J, R)) rfl hQ
                            · rw [if_neg hc_358] at h
                              refine az_E.sn 2 (pc' := 31) (L' := [.ref 61, .int v4, .int v5]) (S' := [.int (1 : Int32)]) (σ' := (97, I, J, R)) rfl ?_
                              refine az_E.ret (v := some (.int (1 : Int32))) (σ' := (97, I, J, R)) rfl ?_
                              show az_E az_F ex 2 128 95 [.retAddr 0, .retAddr 0, .int v2, .retAddr 0, .int v4, .int v5, .ref 63, .ref 61] [.int (1 : Int32)] (97, I, J, R) _
                              refine az_E.br (c := (1 : Int32) = 0) (tt := 98) (ff := 101) (L' := [.retAddr 0, .retAddr 0, .int v2, .retAddr 0, .int v4, .int v5, .ref 63, .ref 61]) (S' := []) (σ' := (97, I, J, R)) rfl (fun hn => absurd hn (by decide)) (fun _ => ?_)
                              refine az_E.sn 7 (pc' := 116) (L' := [.retAddr 0, .retAddr 0, .int v2, .retAddr 0, .int v4, .int v5, .ref 63, .ref 61]) (S' := [.int v5, .int v4, .ref (61 + 1), .int v2, .ref (63 + 1)]) (σ' := (97, I, J, R)) rfl ?_
                              by_cases hc_359 : v2 < 0 ∨ v4 < 0 ∨ v5 < 0 ∨ 60 < v2.toNatClampNeg + v5.toNatClampNeg ∨ 60 < v4.toNatClampNeg + v5.toNatClampNeg
                              · rw [if_pos hc_359] at h; cases h
                              · rw [if_neg hc_359] at h
                                refine az_E.o (o := az_cp az_F (97, I, J, R) (63 + 1) v2 (61 + 1) v4 v5) (pc' := 119) (L' := [.retAddr 0, .retAddr 0, .int v2, .retAddr 0, .int v4, .int v5, .ref 63, .ref 61]) (S' := []) (x := (97, I, (az_ur J (61 + 1) (va_cpy (J (63 + 1)) (J (61 + 1)) v2.toNatClampNeg v4.toNatClampNeg v5.toNatClampNeg)), R)) rfl (if_neg hc_359) ?_
                                refine az_E.sn 1 (pc' := 121) (L' := [.retAddr 0, .retAddr 0, .int v2, .retAddr 0, .int v4, .int v5, .ref 63, .ref 61]) (S' := [.int v5]) (σ' := (97, I, (az_ur J (61 + 1) (va_cpy (J (63 + 1)) (J (61 + 1)) v2.toNatClampNeg v4.toNatClampNeg v5.toNatClampNeg)), R)) rfl ?_
                                have h := Option.some.inj h
                                subst h
                                exact az_E.ret (v := some (.int v5)) (σ' := (97, I, (az_ur J (61 + 1) (va_cpy (J (63 + 1)) (J (61 + 1)) v2.toNatClampNeg v4.toNatClampNeg v5.toNatClampNeg)), R)) rfl hQ
            · rw [if_neg hc_350] at h
              refine az_E.sn 1 (pc' := 20) (L' := [.ref 61, .int (I 63 1)]) (S' := [.int (0 : Int32)]) (σ' := (97, I, J, R)) rfl ?_
              refine az_E.ret (v := some (.int (0 : Int32))) (σ' := (97, I, J, R)) rfl ?_
              show az_E az_F ex 2 128 69 [.retAddr 0, .retAddr 0, .int v2, .retAddr 0, .int v4, .int v5, .ref 63, .ref 61] [.int (0 : Int32)] (97, I, J, R) _
              refine az_E.br (c := (0 : Int32) = 0) (tt := 72) (ff := 75) (L' := [.retAddr 0, .retAddr 0, .int v2, .retAddr 0, .int v4, .int v5, .ref 63, .ref 61]) (S' := []) (σ' := (97, I, J, R)) rfl (fun _ => ?_) (fun hn => absurd (by decide) hn)
              refine az_E.sn 1 (pc' := 74) (L' := [.retAddr 0, .retAddr 0, .int v2, .retAddr 0, .int v4, .int v5, .ref 63, .ref 61]) (S' := [.int (-12 : Int32)]) (σ' := (97, I, J, R)) rfl ?_
              have h := Option.some.inj h
              subst h
              exact az_E.ret (v := some (.int (-12 : Int32))) (σ' := (97, I, J, R)) rfl hQ
  · rw [if_neg hc_332] at h
    refine az_E.sn 1 (pc' := 21) (L' := [.ref 63]) (S' := [.int (0 : Int32)]) (σ' := (97, I, J, R)) rfl ?_
    refine az_E.ret (v := some (.int (0 : Int32))) (σ' := (97, I, J, R)) rfl ?_
    show az_E az_F ex 2 128 37 [.retAddr 0, .retAddr 0, .int v2, .retAddr 0, .int v4, .int v5, .ref 63, .ref 61] [.int (0 : Int32)] (97, I, J, R) _
    refine az_E.br (c := (0 : Int32) = 0) (tt := 40) (ff := 48) (L' := [.retAddr 0, .retAddr 0, .int v2, .retAddr 0, .int v4, .int v5, .ref 63, .ref 61]) (S' := []) (σ' := (97, I, J, R)) rfl (fun _ => ?_) (fun hn => absurd (by decide) hn)
    refine az_E.sn 1 (pc' := 42) (L' := [.retAddr 0, .retAddr 0, .int v2, .retAddr 0, .int v4, .int v5, .ref 63, .ref 61]) (S' := [.ref 61]) (σ' := (97, I, J, R)) rfl ?_
    refine az_E.call (d := 1) (k' := 54) (vs := [.ref 61]) (pc' := 45) (S' := []) rfl ?_ (fun _ _ hq => hq)
    show az_E az_F ex 1 54 0 [.ref 61] [] (97, I, J, R) _
    refine az_E.sn 3 (pc' := 5) (L' := [.ref 61]) (S' := [.int (-1 : Int32), .int (I 61 0)]) (σ' := (97, I, J, R)) rfl ?_
    refine az_E.br (c := (I 61 0) = (-1 : Int32)) (tt := 8) (ff := 20) (L' := [.ref 61]) (S' := []) (σ' := (97, I, J, R)) rfl (fun hc_360 => ?_) (fun hc_360 => ?_)
    · rw [if_pos hc_360] at h
      refine az_E.sn 3 (pc' := 13) (L' := [.ref 61]) (S' := [.int (-1 : Int32), .int (I 61 1)]) (σ' := (97, I, J, R)) rfl ?_
      refine az_E.br (c := (I 61 1) = (-1 : Int32)) (tt := 16) (ff := 20) (L' := [.ref 61]) (S' := []) (σ' := (97, I, J, R)) rfl (fun hc_361 => ?_) (fun hc_361 => ?_)
      · rw [if_pos hc_361] at h
        refine az_E.sn 2 (pc' := 21) (L' := [.ref 61]) (S' := [.int (1 : Int32)]) (σ' := (97, I, J, R)) rfl ?_
        refine az_E.ret (v := some (.int (1 : Int32))) (σ' := (97, I, J, R)) rfl ?_
        show az_E az_F ex 2 128 45 [.retAddr 0, .retAddr 0, .int v2, .retAddr 0, .int v4, .int v5, .ref 63, .ref 61] [.int (1 : Int32)] (97, I, J, R) _
        refine az_E.br (c := (1 : Int32) = 0) (tt := 51) (ff := 48) (L' := [.retAddr 0, .retAddr 0, .int v2, .retAddr 0, .int v4, .int v5, .ref 63, .ref 61]) (S' := []) (σ' := (97, I, J, R)) rfl (fun hn => absurd hn (by decide)) (fun _ => ?_)
        refine az_E.sn 1 (pc' := 50) (L' := [.retAddr 0, .retAddr 0, .int v2, .retAddr 0, .int v4, .int v5, .ref 63, .ref 61]) (S' := [.int (-11 : Int32)]) (σ' := (97, I, J, R)) rfl ?_
        have h := Option.some.inj h
        subst h
        exact az_E.ret (v := some (.int (-11 : Int32))) (σ' := (97, I, J, R)) rfl hQ
      · rw [if_neg hc_361] at h
        refine az_E.sn 1 (pc' := 21) (L' := [.ref 61]) (S' := [.int (0 : Int32)]) (σ' := (97, I, J, R)) rfl ?_
        refine az_E.ret (v := some (.int (0 : Int32))) (σ' := (97, I, J, R)) rfl ?_
        show az_E az_F ex 2 128 45 [.retAddr 0, .retAddr 0, .int v2, .retAddr 0, .int v4, .int v5, .ref 63, .ref 61] [.int (0 : Int32)] (97, I, J, R) _
        refine az_E.br (c := (0 : Int32) = 0) (tt := 51) (ff := 48) (L' := [.retAddr 0, .retAddr 0, .int v2, .retAddr 0, .int v4, .int v5, .ref 63, .ref 61]) (S' := []) (σ' := (97, I, J, R)) rfl (fun _ => ?_) (fun hn => absurd (by decide) hn)
        refine az_E.sn 1 (pc' := 53) (L' := [.retAddr 0, .retAddr 0, .int v2, .retAddr 0, .int v4, .int v5, .ref 63, .ref 61]) (S' := [.ref 63]) (σ' := (97, I, J, R)) rfl ?_
        refine az_E.call (d := 1) (k' := 55) (vs := [.ref 63]) (pc' := 56) (S' := []) rfl ?_ (fun _ _ hq => hq)
        show az_E az_F ex 1 55 0 [.ref 63] [] (97, I, J, R) _
        refine az_E.sn 3 (pc' := 5) (L' := [.ref 63]) (S' := [.int (-1 : Int32), .int (I 63 1)]) (σ' := (97, I, J, R)) rfl ?_
        refine az_E.br (c := (I 63 1) = (-1 : Int32)) (tt := 12) (ff := 8) (L' := [.ref 63]) (S' := []) (σ' := (97, I, J, R)) rfl (fun hc_362 => ?_) (fun hc_362 => ?_)
        · rw [if_pos hc_362] at h
          refine az_E.sn 1 (pc' := 13) (L' := [.ref 63]) (S' := [.int (0 : Int32)]) (σ' := (97, I, J, R)) rfl ?_
          refine az_E.ret (v := some (.int (0 : Int32))) (σ' := (97, I, J, R)) rfl ?_
          show az_E az_F ex 2 128 56 [.retAddr 0, .retAddr 0, .int v2, .retAddr 0, .int v4, .int v5, .ref 63, .ref 61] [.int (0 : Int32)] (97, I, J, R) _
          refine az_E.br (c := (0 : Int32) = 0) (tt := 72) (ff := 59) (L' := [.retAddr 0, .retAddr 0, .int v2, .retAddr 0, .int v4, .int v5, .ref 63, .ref 61]) (S' := []) (σ' := (97, I, J, R)) rfl (fun _ => ?_) (fun hn => absurd (by decide) hn)
          refine az_E.sn 1 (pc' := 74) (L' := [.retAddr 0, .retAddr 0, .int v2, .retAddr 0, .int v4, .int v5, .ref 63, .ref 61]) (S' := [.int (-12 : Int32)]) (σ' := (97, I, J, R)) rfl ?_
          have h := Option.some.inj h
          subst h
          exact az_E.ret (v := some (.int (-12 : Int32))) (σ' := (97, I, J, R)) rfl hQ
        · rw [if_neg hc_362] at h
          refine az_E.sn 2 (pc' := 13) (L' := [.ref 63]) (S' := [.int (1 : Int32)]) (σ' := (97, I, J, R)) rfl ?_
          refine az_E.ret (v := some (.int (1 : Int32))) (σ' := (97, I, J, R)) rfl ?_
          show az_E az_F ex 2 128 56 [.retAddr 0, .retAddr 0, .int v2, .retAddr 0, .int v4, .int v5, .ref 63, .ref 61] [.int (1 : Int32)] (97, I, J, R) _
          refine az_E.br (c := (1 : Int32) = 0) (tt := 72) (ff := 59) (L' := [.retAddr 0, .retAddr 0, .int v2, .retAddr 0, .int v4, .int v5, .ref 63, .ref 61]) (S' := []) (σ' := (97, I, J, R)) rfl (fun hn => absurd hn (by decide)) (fun _ => ?_)
          refine az_E.sn 3 (pc' := 66) (L' := [.retAddr 0, .retAddr 0, .int v2, .retAddr 0, .int v4, .int v5, .ref 63, .ref 61]) (S' := [.int (I 63 1), .ref 61]) (σ' := (97, I, J, R)) rfl ?_
          refine az_E.call (d := 1) (k' := 56) (vs := [.ref 61, .int (I 63 1)]) (pc' := 69) (S' := []) rfl ?_ (fun _ _ hq => hq)
          show az_E az_F ex 1 56 0 [.ref 61, .int (I 63 1)] [] (97, I, J, R) _
          refine az_E.sn 1 (pc' := 1) (L' := [.ref 61, .int (I 63 1)]) (S' := [.ref 61]) (σ' := (97, I, J, R)) rfl ?_
          refine az_E.call (d := 0) (k' := 55) (vs := [.ref 61]) (pc' := 4) (S' := []) rfl ?_ (fun _ _ hq => hq)
          show az_E az_F ex 0 55 0 [.ref 61] [] (97, I, J, R) _
          refine az_E.sn 3 (pc' := 5) (L' := [.ref 61]) (S' := [.int (-1 : Int32), .int (I 61 1)]) (σ' := (97, I, J, R)) rfl ?_
          refine az_E.br (c := (I 61 1) = (-1 : Int32)) (tt := 12) (ff := 8) (L' := [.ref 61]) (S' := []) (σ' := (97, I, J, R)) rfl (fun hc_363 => ?_) (fun hc_363 => ?_)
          · rw [if_pos hc_363] at h
            refine az_E.sn 1 (pc' := 13) (L' := [.ref 61]) (S' := [.int (0 : Int32)]) (σ' := (97, I, J, R)) rfl ?_
            refine az_E.ret (v := some (.int (0 : Int32))) (σ' := (97, I, J, R)) rfl ?_
            show az_E az_F ex 1 56 4 [.ref 61, .int (I 63 1)] [.int (0 : Int32)] (97, I, J, R) _
            refine az_E.br (c := (0 : Int32) = 0) (tt := 19) (ff := 7) (L' := [.ref 61, .int (I 63 1)]) (S' := []) (σ' := (97, I, J, R)) rfl (fun _ => ?_) (fun hn => absurd (by decide) hn)
            refine az_E.sn 1 (pc' := 20) (L' := [.ref 61, .int (I 63 1)]) (S' := [.int (0 : Int32)]) (σ' := (97, I, J, R)) rfl ?_
            refine az_E.ret (v := some (.int (0 : Int32))) (σ' := (97, I, J, R)) rfl ?_
            show az_E az_F ex 2 128 69 [.retAddr 0, .retAddr 0, .int v2, .retAddr 0, .int v4, .int v5, .ref 63, .ref 61] [.int (0 : Int32)] (97, I, J, R) _
            refine az_E.br (c := (0 : Int32) = 0) (tt := 72) (ff := 75) (L' := [.retAddr 0, .retAddr 0, .int v2, .retAddr 0, .int v4, .int v5, .ref 63, .ref 61]) (S' := []) (σ' := (97, I, J, R)) rfl (fun _ => ?_) (fun hn => absurd (by decide) hn)
            refine az_E.sn 1 (pc' := 74) (L' := [.retAddr 0, .retAddr 0, .int v2, .retAddr 0, .int v4, .int v5, .ref 63, .ref 61]) (S' := [.int (-12 : Int32)]) (σ' := (97, I, J, R)) rfl ?_
            have h := Option.some.inj h
            subst h
            exact az_E.ret (v := some (.int (-12 : Int32))) (σ' := (97, I, J, R)) rfl hQ
          · rw [if_neg hc_363] at h
            refine az_E.sn 2 (pc' := 13) (L' := [.ref 61]) (S' := [.int (1 : Int32)]) (σ' := (97, I, J, R)) rfl ?_
            refine az_E.ret (v := some (.int (1 : Int32))) (σ' := (97, I, J, R)) rfl ?_
            show az_E az_F ex 1 56 4 [.ref 61, .int (I 63 1)] [.int (1 : Int32)] (97, I, J, R) _
            refine az_E.br (c := (1 : Int32) = 0) (tt := 19) (ff := 7) (L' := [.ref 61, .int (I 63 1)]) (S' := []) (σ' := (97, I, J, R)) rfl (fun hn => absurd hn (by decide)) (fun _ => ?_)
            refine az_E.sn 3 (pc' := 12) (L' := [.ref 61, .int (I 63 1)]) (S' := [.int (I 63 1), .int (I 61 1)]) (σ' := (97, I, J, R)) rfl ?_
            refine az_E.br (c := (I 61 1) = (I 63 1)) (tt := 15) (ff := 19) (L' := [.ref 61, .int (I 63 1)]) (S' := []) (σ' := (97, I, J, R)) rfl (fun hc_364 => ?_) (fun hc_364 => ?_)
            · rw [if_pos hc_364] at h
              refine az_E.sn 2 (pc' := 20) (L' := [.ref 61, .int (I 63 1)]) (S' := [.int (1 : Int32)]) (σ' := (97, I, J, R)) rfl ?_
              refine az_E.ret (v := some (.int (1 : Int32))) (σ' := (97, I, J, R)) rfl ?_
              show az_E az_F ex 2 128 69 [.retAddr 0, .retAddr 0, .int v2, .retAddr 0, .int v4, .int v5, .ref 63, .ref 61] [.int (1 : Int32)] (97, I, J, R) _
              refine az_E.br (c := (1 : Int32) = 0) (tt := 72) (ff := 75) (L' := [.retAddr 0, .retAddr 0, .int v2, .retAddr 0, .int v4, .int v5, .ref 63, .ref 61]) (S' := []) (σ' := (97, I, J, R)) rfl (fun hn => absurd hn (by decide)) (fun _ => ?_)
              refine az_E.sn 3 (pc' := 80) (L' := [.retAddr 0, .retAddr 0, .int v2, .retAddr 0, .int v4, .int v5, .ref 63, .ref 61]) (S' := [.int v5, .int v2, .ref 63]) (σ' := (97, I, J, R)) rfl ?_
              refine az_E.call (d := 1) (k' := 60) (vs := [.ref 63, .int v2, .int v5]) (pc' := 83) (S' := []) rfl ?_ (fun _ _ hq => hq)
              show az_E az_F ex 1 60 0 [.ref 63, .int v2, .int v5] [] (97, I, J, R) _
              refine az_E.sn 1 (pc' := 1) (L' := [.ref 63, .int v2, .int v5]) (S' := [.int v2]) (σ' := (97, I, J, R)) rfl ?_
              refine az_E.br (c := v2 < 0) (tt := 30) (ff := 4) (L' := [.ref 63, .int v2, .int v5]) (S' := []) (σ' := (97, I, J, R)) rfl (fun hc_365 => ?_) (fun hc_365 => ?_)
              · rw [if_pos hc_365] at h
                refine az_E.sn 1 (pc' := 31) (L' := [.ref 63, .int v2, .int v5]) (S' := [.int (0 : Int32)]) (σ' := (97, I, J, R)) rfl ?_
                refine az_E.ret (v := some (.int (0 : Int32))) (σ' := (97, I, J, R)) rfl ?_
                show az_E az_F ex 2 128 83 [.retAddr 0, .retAddr 0, .int v2, .retAddr 0, .int v4, .int v5, .ref 63, .ref 61] [.int (0 : Int32)] (97, I, J, R) _
                refine az_E.br (c := (0 : Int32) = 0) (tt := 98) (ff := 86) (L' := [.retAddr 0, .retAddr 0, .int v2, .retAddr 0, .int v4, .int v5, .ref 63, .ref 61]) (S' := []) (σ' := (97, I, J, R)) rfl (fun _ => ?_) (fun hn => absurd (by decide) hn)
                refine az_E.sn 1 (pc' := 100) (L' := [.retAddr 0, .retAddr 0, .int v2, .retAddr 0, .int v4, .int v5, .ref 63, .ref 61]) (S' := [.int (-13 : Int32)]) (σ' := (97, I, J, R)) rfl ?_
                have h := Option.some.inj h
                subst h
                exact az_E.ret (v := some (.int (-13 : Int32))) (σ' := (97, I, J, R)) rfl hQ
              · rw [if_neg hc_365] at h
                refine az_E.sn 1 (pc' := 5) (L' := [.ref 63, .int v2, .int v5]) (S' := [.int v5]) (σ' := (97, I, J, R)) rfl ?_
                refine az_E.br (c := v5 < 0) (tt := 30) (ff := 8) (L' := [.ref 63, .int v2, .int v5]) (S' := []) (σ' := (97, I, J, R)) rfl (fun hc_366 => ?_) (fun hc_366 => ?_)
                · rw [if_pos hc_366] at h
                  refine az_E.sn 1 (pc' := 31) (L' := [.ref 63, .int v2, .int v5]) (S' := [.int (0 : Int32)]) (σ' := (97, I, J, R)) rfl ?_
                  refine az_E.ret (v := some (.int (0 : Int32))) (σ' := (97, I, J, R)) rfl ?_
                  show az_E az_F ex 2 128 83 [.retAddr 0, .retAddr 0, .int v2, .retAddr 0, .int v4, .int v5, .ref 63, .ref 61] [.int (0 : Int32)] (97, I, J, R) _
                  refine az_E.br (c := (0 : Int32) = 0) (tt := 98) (ff := 86) (L' := [.retAddr 0, .retAddr 0, .int v2, .retAddr 0, .int v4, .int v5, .ref 63, .ref 61]) (S' := []) (σ' := (97, I, J, R)) rfl (fun _ => ?_) (fun hn => absurd (by decide) hn)
                  refine az_E.sn 1 (pc' := 100) (L' := [.retAddr 0, .retAddr 0, .int v2, .retAddr 0, .int v4, .int v5, .ref 63, .ref 61]) (S' := [.int (-13 : Int32)]) (σ' := (97, I, J, R)) rfl ?_
                  have h := Option.some.inj h
                  subst h
                  exact az_E.ret (v := some (.int (-13 : Int32))) (σ' := (97, I, J, R)) rfl hQ
                · rw [if_neg hc_366] at h
                  refine az_E.sn 3 (pc' := 13) (L' := [.ref 63, .int v2, .int v5]) (S' := [.int (I 63 2), .int v2]) (σ' := (97, I, J, R)) rfl ?_
                  refine az_E.br (c := (I 63 2) < v2) (tt := 30) (ff := 16) (L' := [.ref 63, .int v2, .int v5]) (S' := []) (σ' := (97, I, J, R)) rfl (fun hc_367 => ?_) (fun hc_367 => ?_)
                  · rw [if_pos hc_367] at h
                    refine az_E.sn 1 (pc' := 31) (L' := [.ref 63, .int v2, .int v5]) (S' := [.int (0 : Int32)]) (σ' := (97, I, J, R)) rfl ?_
                    refine az_E.ret (v := some (.int (0 : Int32))) (σ' := (97, I, J, R)) rfl ?_
                    show az_E az_F ex 2 128 83 [.retAddr 0, .retAddr 0, .int v2, .retAddr 0, .int v4, .int v5, .ref 63, .ref 61] [.int (0 : Int32)] (97, I, J, R) _
                    refine az_E.br (c := (0 : Int32) = 0) (tt := 98) (ff := 86) (L' := [.retAddr 0, .retAddr 0, .int v2, .retAddr 0, .int v4, .int v5, .ref 63, .ref 61]) (S' := []) (σ' := (97, I, J, R)) rfl (fun _ => ?_) (fun hn => absurd (by decide) hn)
                    refine az_E.sn 1 (pc' := 100) (L' := [.retAddr 0, .retAddr 0, .int v2, .retAddr 0, .int v4, .int v5, .ref 63, .ref 61]) (S' := [.int (-13 : Int32)]) (σ' := (97, I, J, R)) rfl ?_
                    have h := Option.some.inj h
                    subst h
                    exact az_E.ret (v := some (.int (-13 : Int32))) (σ' := (97, I, J, R)) rfl hQ
                  · rw [if_neg hc_367] at h
                    refine az_E.sn 5 (pc' := 23) (L' := [.ref 63, .int v2, .int v5]) (S' := [.int ((I 63 2) - v2), .int v5]) (σ' := (97, I, J, R)) rfl ?_
                    refine az_E.br (c := ((I 63 2) - v2) < v5) (tt := 30) (ff := 26) (L' := [.ref 63, .int v2, .int v5]) (S' := []) (σ' := (97, I, J, R)) rfl (fun hc_368 => ?_) (fun hc_368 => ?_)
                    · rw [if_pos hc_368] at h
                      refine az_E.sn 1 (pc' := 31) (L' := [.ref 63, .int v2, .int v5]) (S' := [.int (0 : Int32)]) (σ' := (97, I, J, R)) rfl ?_
                      refine az_E.ret (v := some (.int (0 : Int32))) (σ' := (97, I, J, R)) rfl ?_
                      show az_E az_F ex 2 128 83 [.retAddr 0, .retAddr 0, .int v2, .retAddr 0, .int v4, .int v5, .ref 63, .ref 61] [.int (0 : Int32)] (97, I, J, R) _
                      refine az_E.br (c := (0 : Int32) = 0) (tt := 98) (ff := 86) (L' := [.retAddr 0, .retAddr 0, .int v2, .retAddr 0, .int v4, .int v5, .ref 63, .ref 61]) (S' := []) (σ' := (97, I, J, R)) rfl (fun _ => ?_) (fun hn => absurd (by decide) hn)
                      refine az_E.sn 1 (pc' := 100) (L' := [.retAddr 0, .retAddr 0, .int v2, .retAddr 0, .int v4, .int v5, .ref 63, .ref 61]) (S' := [.int (-13 : Int32)]) (σ' := (97, I, J, R)) rfl ?_
                      have h := Option.some.inj h
                      subst h
                      exact az_E.ret (v := some (.int (-13 : Int32))) (σ' := (97, I, J, R)) rfl hQ
                    · rw [if_neg hc_368] at h
                      refine az_E.sn 2 (pc' := 31) (L' := [.ref 63, .int v2, .int v5]) (S' := [.int (1 : Int32)]) (σ' := (97, I, J, R)) rfl ?_
                      refine az_E.ret (v := some (.int (1 : Int32))) (σ' := (97, I, J, R)) rfl ?_
                      show az_E az_F ex 2 128 83 [.retAddr 0, .retAddr 0, .int v2, .retAddr 0, .int v4, .int v5, .ref 63, .ref 61] [.int (1 : Int32)] (97, I, J, R) _
                      refine az_E.br (c := (1 : Int32) = 0) (tt := 98) (ff := 86) (L' := [.retAddr 0, .retAddr 0, .int v2, .retAddr 0, .int v4, .int v5, .ref 63, .ref 61]) (S' := []) (σ' := (97, I, J, R)) rfl (fun hn => absurd hn (by decide)) (fun _ => ?_)
                      refine az_E.sn 3 (pc' := 92) (L' := [.retAddr 0, .retAddr 0, .int v2, .retAddr 0, .int v4, .int v5, .ref 63, .ref 61]) (S' := [.int v5, .int v4, .ref 61]) (σ' := (97, I, J, R)) rfl ?_
                      refine az_E.call (d := 1) (k' := 60) (vs := [.ref 61, .int v4, .int v5]) (pc' := 95) (S' := []) rfl ?_ (fun _ _ hq => hq)
                      show az_E az_F ex 1 60 0 [.ref 61, .int v4, .int v5] [] (97, I, J, R) _
                      refine az_E.sn 1 (pc' := 1) (L' := [.ref 61, .int v4, .int v5]) (S' := [.int v4]) (σ' := (97, I, J, R)) rfl ?_
                      refine az_E.br (c := v4 < 0) (tt := 30) (ff := 4) (L' := [.ref 61, .int v4, .int v5]) (S' := []) (σ' := (97, I, J, R)) rfl (fun hc_369 => ?_) (fun hc_369 => ?_)
                      · rw [if_pos hc_369] at h
                        refine az_E.sn 1 (pc' := 31) (L' := [.ref 61, .int v4, .int v5]) (S' := [.int (0 : Int32)]) (σ' := (97, I, J, R)) rfl ?_
                        refine az_E.ret (v := some (.int (0 : Int32))) (σ' := (97, I, J, R)) rfl ?_
                        show az_E az_F ex 2 128 95 [.retAddr 0, .retAddr 0, .int v2, .retAddr 0, .int v4, .int v5, .ref 63, .ref 61] [.int (0 : Int32)] (97, I, J, R) _
                        refine az_E.br (c := (0 : Int32) = 0) (tt := 98) (ff := 101) (L' := [.retAddr 0, .retAddr 0, .int v2, .retAddr 0, .int v4, .int v5, .ref 63, .ref 61]) (S' := []) (σ' := (97, I, J, R)) rfl (fun _ => ?_) (fun hn => absurd (by decide) hn)
                        refine az_E.sn 1 (pc' := 100) (L' := [.retAddr 0, .retAddr 0, .int v2, .retAddr 0, .int v4, .int v5, .ref 63, .ref 61]) (S' := [.int (-13 : Int32)]) (σ' := (97, I, J, R)) rfl ?_
                        have h := Option.some.inj h
                        subst h
                        exact az_E.ret (v := some (.int (-13 : Int32))) (σ' := (97, I, J, R)) rfl hQ
                      · rw [if_neg hc_369] at h
                        refine az_E.sn 1 (pc' := 5) (L' := [.ref 61, .int v4, .int v5]) (S' := [.int v5]) (σ' := (97, I, J, R)) rfl ?_
                        refine az_E.br (c := v5 < 0) (tt := 30) (ff := 8) (L' := [.ref 61, .int v4, .int v5]) (S' := []) (σ' := (97, I, J, R)) rfl (fun hc_370 => ?_) (fun hc_370 => ?_)
                        · rw [if_pos hc_370] at h
                          refine az_E.sn 1 (pc' := 31) (L' := [.ref 61, .int v4, .int v5]) (S' := [.int (0 : Int32)]) (σ' := (97, I, J, R)) rfl ?_
                          refine az_E.ret (v := some (.int (0 : Int32))) (σ' := (97, I, J, R)) rfl ?_
                          show az_E az_F ex 2 128 95 [.retAddr 0, .retAddr 0, .int v2, .retAddr 0, .int v4, .int v5, .ref 63, .ref 61] [.int (0 : Int32)] (97, I, J, R) _
                          refine az_E.br (c := (0 : Int32) = 0) (tt := 98) (ff := 101) (L' := [.retAddr 0, .retAddr 0, .int v2, .retAddr 0, .int v4, .int v5, .ref 63, .ref 61]) (S' := []) (σ' := (97, I, J, R)) rfl (fun _ => ?_) (fun hn => absurd (by decide) hn)
                          refine az_E.sn 1 (pc' := 100) (L' := [.retAddr 0, .retAddr 0, .int v2, .retAddr 0, .int v4, .int v5, .ref 63, .ref 61]) (S' := [.int (-13 : Int32)]) (σ' := (97, I, J, R)) rfl ?_
                          have h := Option.some.inj h
                          subst h
                          exact az_E.ret (v := some (.int (-13 : Int32))) (σ' := (97, I, J, R)) rfl hQ
                        · rw [if_neg hc_370] at h
                          refine az_E.sn 3 (pc' := 13) (L' := [.ref 61, .int v4, .int v5]) (S' := [.int (I 61 2), .int v4]) (σ' := (97, I, J, R)) rfl ?_
                          refine az_E.br (c := (I 61 2) < v4) (tt := 30) (ff := 16) (L' := [.ref 61, .int v4, .int v5]) (S' := []) (σ' := (97, I, J, R)) rfl (fun hc_371 => ?_) (fun hc_371 => ?_)
                          · rw [if_pos hc_371] at h
                            refine az_E.sn 1 (pc' := 31) (L' := [.ref 61, .int v4, .int v5]) (S' := [.int (0 : Int32)]) (σ' := (97, I, J, R)) rfl ?_
                            refine az_E.ret (v := some (.int (0 : Int32))) (σ' := (97, I, J, R)) rfl ?_
                            show az_E az_F ex 2 128 95 [.retAddr 0, .retAddr 0, .int v2, .retAddr 0, .int v4, .int v5, .ref 63, .ref 61] [.int (0 : Int32)] (97, I, J, R) _
                            refine az_E.br (c := (0 : Int32) = 0) (tt := 98) (ff := 101) (L' := [.retAddr 0, .retAddr 0, .int v2, .retAddr 0, .int v4, .int v5, .ref 63, .ref 61]) (S' := []) (σ' := (97, I, J, R)) rfl (fun _ => ?_) (fun hn => absurd (by decide) hn)
                            refine az_E.sn 1 (pc' := 100) (L' := [.retAddr 0, .retAddr 0, .int v2, .retAddr 0, .int v4, .int v5, .ref 63, .ref 61]) (S' := [.int (-13 : Int32)]) (σ' := (97, I, J, R)) rfl ?_
                            have h := Option.some.inj h
                            subst h
                            exact az_E.ret (v := some (.int (-13 : Int32))) (σ' := (97, I, J, R)) rfl hQ
                          · rw [if_neg hc_371] at h
                            refine az_E.sn 5 (pc' := 23) (L' := [.ref 61, .int v4, .int v5]) (S' := [.int ((I 61 2) - v4), .int v5]) (σ' := (97, I, J, R)) rfl ?_
                            refine az_E.br (c := ((I 61 2) - v4) < v5) (tt := 30) (ff := 26) (L' := [.ref 61, .int v4, .int v5]) (S' := []) (σ' := (97, I, J, R)) rfl (fun hc_372 => ?_) (fun hc_372 => ?_)
                            · rw [if_pos hc_372] at h
                              refine az_E.sn 1 (pc' := 31) (L' := [.ref 61, .int v4, .int v5]) (S' := [.int (0 : Int32)]) (σ' := (97, I, J, R)) rfl ?_
                              refine az_E.ret (v := some (.int (0 : Int32))) (σ' := (97, I, J, R)) rfl ?_
                              show az_E az_F ex 2 128 95 [.retAddr 0, .retAddr 0, .int v2, .retAddr 0, .int v4, .int v5, .ref 63, .ref 61] [.int (0 : Int32)] (97, I, J, R) _
                              refine az_E.br (c := (0 : Int32) = 0) (tt := 98) (ff := 101) (L' := [.retAddr 0, .retAddr 0, .int v2, .retAddr 0, .int v4, .int v5, .ref 63, .ref 61]) (S' := []) (σ' := (97, I, J, R)) rfl (fun _ => ?_) (fun hn => absurd (by decide) hn)
                              refine az_E.sn 1 (pc' := 100) (L' := [.retAddr 0, .retAddr 0, .int v2, .retAddr 0, .int v4, .int v5, .ref 63, .ref 61]) (S' := [.int (-13 : Int32)]) (σ' := (97, I, J, R)) rfl ?_
                              have h := Option.some.inj h
                              subst h
                              exact az_E.ret (v := some (.int (-13 : Int32))) (σ' := (97, I, J, R)) rfl hQ
                            · rw [if_neg hc_372] at h
                              refine az_E.sn 2 (pc' := 31) (L' := [.ref 61, .int v4, .int v5]) (S' := [.int (1 : Int32)]) (σ' := (97, I, J, R)) rfl ?_
                              refine az_E.ret (v := some (.int (1 : Int32))) (σ' := (97, I, J, R)) rfl ?_
                              show az_E az_F ex 2 128 95 [.retAddr 0, .retAddr 0, .int v2, .retAddr 0, .int v4, .int v5, .ref 63, .ref 61] [.int (1 : Int32)] (97, I, J, R) _
                              refine az_E.br (c := (1 : Int32) = 0) (tt := 98) (ff := 101) (L' := [.retAddr 0, .retAddr 0, .int v2, .retAddr 0, .int v4, .int v5, .ref 63, .ref 61]) (S' := []) (σ' := (97, I, J, R)) rfl (fun hn => absurd hn (by decide)) (fun _ => ?_)
                              refine az_E.sn 7 (pc' := 116) (L' := [.retAddr 0, .retAddr 0, .int v2, .retAddr 0, .int v4, .int v5, .ref 63, .ref 61]) (S' := [.int v5, .int v4, .ref (61 + 1), .int v2, .ref (63 + 1)]) (σ' := (97, I, J, R)) rfl ?_
                              by_cases hc_373 : v2 < 0 ∨ v4 < 0 ∨ v5 < 0 ∨ 60 < v2.toNatClampNeg + v5.toNatClampNeg ∨ 60 < v4.toNatClampNeg + v5.toNatClampNeg
                              · rw [if_pos hc_373] at h; cases h
                              · rw [if_neg hc_373] at h
                                refine az_E.o (o := az_cp az_F (97, I, J, R) (63 + 1) v2 (61 + 1) v4 v5) (pc' := 119) (L' := [.retAddr 0, .retAddr 0, .int v2, .retAddr 0, .int v4, .int v5, .ref 63, .ref 61]) (S' := []) (x := (97, I, (az_ur J (61 + 1) (va_cpy (J (63 + 1)) (J (61 + 1)) v2.toNatClampNeg v4.toNatClampNeg v5.toNatClampNeg)), R)) rfl (if_neg hc_373) ?_
                                refine az_E.sn 1 (pc' := 121) (L' := [.retAddr 0, .retAddr 0, .int v2, .retAddr 0, .int v4, .int v5, .ref 63, .ref 61]) (S' := [.int v5]) (σ' := (97, I, (az_ur J (61 + 1) (va_cpy (J (63 + 1)) (J (61 + 1)) v2.toNatClampNeg v4.toNatClampNeg v5.toNatClampNeg)), R)) rfl ?_
                                have h := Option.some.inj h
                                subst h
                                exact az_E.ret (v := some (.int v5)) (σ' := (97, I, (az_ur J (61 + 1) (va_cpy (J (63 + 1)) (J (61 + 1)) v2.toNatClampNeg v4.toNatClampNeg v5.toNatClampNeg)), R)) rfl hQ
            · rw [if_neg hc_364] at h
              refine az_E.sn 1 (pc' := 20) (L' := [.ref 61, .int (I 63 1)]) (S' := [.int (0 : Int32)]) (σ' := (97, I, J, R)) rfl ?_
              refine az_E.ret (v := some (.int (0 : Int32))) (σ' := (97, I, J, R)) rfl ?_
              show az_E az_F ex 2 128 69 [.retAddr 0, .retAddr 0, .int v2, .retAddr 0, .int v4, .int v5, .ref 63, .ref 61] [.int (0 : Int32)] (97, I, J, R) _
              refine az_E.br (c := (0 : Int32) = 0) (tt := 72) (ff := 75) (L' := [.retAddr 0, .retAddr 0, .int v2, .retAddr 0, .int v4, .int v5, .ref 63, .ref 61]) (S' := []) (σ' := (97, I, J, R)) rfl (fun _ => ?_) (fun hn => absurd (by decide) hn)
              refine az_E.sn 1 (pc' := 74) (L' := [.retAddr 0, .retAddr 0, .int v2, .retAddr 0, .int v4, .int v5, .ref 63, .ref 61]) (S' := [.int (-12 : Int32)]) (σ' := (97, I, J, R)) rfl ?_
              have h := Option.some.inj h
              subst h
              exact az_E.ret (v := some (.int (-12 : Int32))) (σ' := (97, I, J, R)) rfl hQ
    · rw [if_neg hc_360] at h
      refine az_E.sn 1 (pc' := 21) (L' := [.ref 61]) (S' := [.int (0 : Int32)]) (σ' := (97, I, J, R)) rfl ?_
      refine az_E.ret (v := some (.int (0 : Int32))) (σ' := (97, I, J, R)) rfl ?_
      show az_E az_F ex 2 128 45 [.retAddr 0, .retAddr 0, .int v2, .retAddr 0, .int v4, .int v5, .ref 63, .ref 61] [.int (0 : Int32)] (97, I, J, R) _
      refine az_E.br (c := (0 : Int32) = 0) (tt := 51) (ff := 48) (L' := [.retAddr 0, .retAddr 0, .int v2, .retAddr 0, .int v4, .int v5, .ref 63, .ref 61]) (S' := []) (σ' := (97, I, J, R)) rfl (fun _ => ?_) (fun hn => absurd (by decide) hn)
      refine az_E.sn 1 (pc' := 53) (L' := [.retAddr 0, .retAddr 0, .int v2, .retAddr 0, .int v4, .int v5, .ref 63, .ref 61]) (S' := [.ref 63]) (σ' := (97, I, J, R)) rfl ?_
      refine az_E.call (d := 1) (k' := 55) (vs := [.ref 63]) (pc' := 56) (S' := []) rfl ?_ (fun _ _ hq => hq)
      show az_E az_F ex 1 55 0 [.ref 63] [] (97, I, J, R) _
      refine az_E.sn 3 (pc' := 5) (L' := [.ref 63]) (S' := [.int (-1 : Int32), .int (I 63 1)]) (σ' := (97, I, J, R)) rfl ?_
      refine az_E.br (c := (I 63 1) = (-1 : Int32)) (tt := 12) (ff := 8) (L' := [.ref 63]) (S' := []) (σ' := (97, I, J, R)) rfl (fun hc_374 => ?_) (fun hc_374 => ?_)
      · rw [if_pos hc_374] at h
        refine az_E.sn 1 (pc' := 13) (L' := [.ref 63]) (S' := [.int (0 : Int32)]) (σ' := (97, I, J, R)) rfl ?_
        refine az_E.ret (v := some (.int (0 : Int32))) (σ' := (97, I, J, R)) rfl ?_
        show az_E az_F ex 2 128 56 [.retAddr 0, .retAddr 0, .int v2, .retAddr 0, .int v4, .int v5, .ref 63, .ref 61] [.int (0 : Int32)] (97, I, J, R) _
        refine az_E.br (c := (0 : Int32) = 0) (tt := 72) (ff := 59) (L' := [.retAddr 0, .retAddr 0, .int v2, .retAddr 0, .int v4, .int v5, .ref 63, .ref 61]) (S' := []) (σ' := (97, I, J, R)) rfl (fun _ => ?_) (fun hn => absurd (by decide) hn)
        refine az_E.sn 1 (pc' := 74) (L' := [.retAddr 0, .retAddr 0, .int v2, .retAddr 0, .int v4, .int v5, .ref 63, .ref 61]) (S' := [.int (-12 : Int32)]) (σ' := (97, I, J, R)) rfl ?_
        have h := Option.some.inj h
        subst h
        exact az_E.ret (v := some (.int (-12 : Int32))) (σ' := (97, I, J, R)) rfl hQ
      · rw [if_neg hc_374] at h
        refine az_E.sn 2 (pc' := 13) (L' := [.ref 63]) (S' := [.int (1 : Int32)]) (σ' := (97, I, J, R)) rfl ?_
        refine az_E.ret (v := some (.int (1 : Int32))) (σ' := (97, I, J, R)) rfl ?_
        show az_E az_F ex 2 128 56 [.retAddr 0, .retAddr 0, .int v2, .retAddr 0, .int v4, .int v5, .ref 63, .ref 61] [.int (1 : Int32)] (97, I, J, R) _
        refine az_E.br (c := (1 : Int32) = 0) (tt := 72) (ff := 59) (L' := [.retAddr 0, .retAddr 0, .int v2, .retAddr 0, .int v4, .int v5, .ref 63, .ref 61]) (S' := []) (σ' := (97, I, J, R)) rfl (fun hn => absurd hn (by decide)) (fun _ => ?_)
        refine az_E.sn 3 (pc' := 66) (L' := [.retAddr 0, .retAddr 0, .int v2, .retAddr 0, .int v4, .int v5, .ref 63, .ref 61]) (S' := [.int (I 63 1), .ref 61]) (σ' := (97, I, J, R)) rfl ?_
        refine az_E.call (d := 1) (k' := 56) (vs := [.ref 61, .int (I 63 1)]) (pc' := 69) (S' := []) rfl ?_ (fun _ _ hq => hq)
        show az_E az_F ex 1 56 0 [.ref 61, .int (I 63 1)] [] (97, I, J, R) _
        refine az_E.sn 1 (pc' := 1) (L' := [.ref 61, .int (I 63 1)]) (S' := [.ref 61]) (σ' := (97, I, J, R)) rfl ?_
        refine az_E.call (d := 0) (k' := 55) (vs := [.ref 61]) (pc' := 4) (S' := []) rfl ?_ (fun _ _ hq => hq)
        show az_E az_F ex 0 55 0 [.ref 61] [] (97, I, J, R) _
        refine az_E.sn 3 (pc' := 5) (L' := [.ref 61]) (S' := [.int (-1 : Int32), .int (I 61 1)]) (σ' := (97, I, J, R)) rfl ?_
        refine az_E.br (c := (I 61 1) = (-1 : Int32)) (tt := 12) (ff := 8) (L' := [.ref 61]) (S' := []) (σ' := (97, I, J, R)) rfl (fun hc_375 => ?_) (fun hc_375 => ?_)
        · rw [if_pos hc_375] at h
          refine az_E.sn 1 (pc' := 13) (L' := [.ref 61]) (S' := [.int (0 : Int32)]) (σ' := (97, I, J, R)) rfl ?_
          refine az_E.ret (v := some (.int (0 : Int32))) (σ' := (97, I, J, R)) rfl ?_
          show az_E az_F ex 1 56 4 [.ref 61, .int (I 63 1)] [.int (0 : Int32)] (97, I, J, R) _
          refine az_E.br (c := (0 : Int32) = 0) (tt := 19) (ff := 7) (L' := [.ref 61, .int (I 63 1)]) (S' := []) (σ' := (97, I, J, R)) rfl (fun _ => ?_) (fun hn => absurd (by decide) hn)
          refine az_E.sn 1 (pc' := 20) (L' := [.ref 61, .int (I 63 1)]) (S' := [.int (0 : Int32)]) (σ' := (97, I, J, R)) rfl ?_
          refine az_E.ret (v := some (.int (0 : Int32))) (σ' := (97, I, J, R)) rfl ?_
          show az_E az_F ex 2 128 69 [.retAddr 0, .retAddr 0, .int v2, .retAddr 0, .int v4, .int v5, .ref 63, .ref 61] [.int (0 : Int32)] (97, I, J, R) _
          refine az_E.br (c := (0 : Int32) = 0) (tt := 72) (ff := 75) (L' := [.retAddr 0, .retAddr 0, .int v2, .retAddr 0, .int v4, .int v5, .ref 63, .ref 61]) (S' := []) (σ' := (97, I, J, R)) rfl (fun _ => ?_) (fun hn => absurd (by decide) hn)
          refine az_E.sn 1 (pc' := 74) (L' := [.retAddr 0, .retAddr 0, .int v2, .retAddr 0, .int v4, .int v5, .ref 63, .ref 61]) (S' := [.int (-12 : Int32)]) (σ' := (97, I, J, R)) rfl ?_
          have h := Option.some.inj h
          subst h
          exact az_E.ret (v := some (.int (-12 : Int32))) (σ' := (97, I, J, R)) rfl hQ
        · rw [if_neg hc_375] at h
          refine az_E.sn 2 (pc' := 13) (L' := [.ref 61]) (S' := [.int (1 : Int32)]) (σ' := (97, I, J, R)) rfl ?_
          refine az_E.ret (v := some (.int (1 : Int32))) (σ' := (97, I, J, R)) rfl ?_
          show az_E az_F ex 1 56 4 [.ref 61, .int (I 63 1)] [.int (1 : Int32)] (97, I, J, R) _
          refine az_E.br (c := (1 : Int32) = 0) (tt := 19) (ff := 7) (L' := [.ref 61, .int (I 63 1)]) (S' := []) (σ' := (97, I, J, R)) rfl (fun hn => absurd hn (by decide)) (fun _ => ?_)
          refine az_E.sn 3 (pc' := 12) (L' := [.ref 61, .int (I 63 1)]) (S' := [.int (I 63 1), .int (I 61 1)]) (σ' := (97, I, J, R)) rfl ?_
          refine az_E.br (c := (I 61 1) = (I 63 1)) (tt := 15) (ff := 19) (L' := [.ref 61, .int (I 63 1)]) (S' := []) (σ' := (97, I, J, R)) rfl (fun hc_376 => ?_) (fun hc_376 => ?_)
          · rw [if_pos hc_376] at h
            refine az_E.sn 2 (pc' := 20) (L' := [.ref 61, .int (I 63 1)]) (S' := [.int (1 : Int32)]) (σ' := (97, I, J, R)) rfl ?_
            refine az_E.ret (v := some (.int (1 : Int32))) (σ' := (97, I, J, R)) rfl ?_
            show az_E az_F ex 2 128 69 [.retAddr 0, .retAddr 0, .int v2, .retAddr 0, .int v4, .int v5, .ref 63, .ref 61] [.int (1 : Int32)] (97, I, J, R) _
            refine az_E.br (c := (1 : Int32) = 0) (tt := 72) (ff := 75) (L' := [.retAddr 0, .retAddr 0, .int v2, .retAddr 0, .int v4, .int v5, .ref 63, .ref 61]) (S' := []) (σ' := (97, I, J, R)) rfl (fun hn => absurd hn (by decide)) (fun _ => ?_)
            refine az_E.sn 3 (pc' := 80) (L' := [.retAddr 0, .retAddr 0, .int v2, .retAddr 0, .int v4, .int v5, .ref 63, .ref 61]) (S' := [.int v5, .int v2, .ref 63]) (σ' := (97, I, J, R)) rfl ?_
            refine az_E.call (d := 1) (k' := 60) (vs := [.ref 63, .int v2, .int v5]) (pc' := 83) (S' := []) rfl ?_ (fun _ _ hq => hq)
            show az_E az_F ex 1 60 0 [.ref 63, .int v2, .int v5] [] (97, I, J, R) _
            refine az_E.sn 1 (pc' := 1) (L' := [.ref 63, .int v2, .int v5]) (S' := [.int v2]) (σ' := (97, I, J, R)) rfl ?_
            refine az_E.br (c := v2 < 0) (tt := 30) (ff := 4) (L' := [.ref 63, .int v2, .int v5]) (S' := []) (σ' := (97, I, J, R)) rfl (fun hc_377 => ?_) (fun hc_377 => ?_)
            · rw [if_pos hc_377] at h
              refine az_E.sn 1 (pc' := 31) (L' := [.ref 63, .int v2, .int v5]) (S' := [.int (0 : Int32)]) (σ' := (97, I, J, R)) rfl ?_
              refine az_E.ret (v := some (.int (0 : Int32))) (σ' := (97, I, J, R)) rfl ?_
              show az_E az_F ex 2 128 83 [.retAddr 0, .retAddr 0, .int v2, .retAddr 0, .int v4, .int v5, .ref 63, .ref 61] [.int (0 : Int32)] (97, I, J, R) _
              refine az_E.br (c := (0 : Int32) = 0) (tt := 98) (ff := 86) (L' := [.retAddr 0, .retAddr 0, .int v2, .retAddr 0, .int v4, .int v5, .ref 63, .ref 61]) (S' := []) (σ' := (97, I, J, R)) rfl (fun _ => ?_) (fun hn => absurd (by decide) hn)
              refine az_E.sn 1 (pc' := 100) (L' := [.retAddr 0, .retAddr 0, .int v2, .retAddr 0, .int v4, .int v5, .ref 63, .ref 61]) (S' := [.int (-13 : Int32)]) (σ' := (97, I, J, R)) rfl ?_
              have h := Option.some.inj h
              subst h
              exact az_E.ret (v := some (.int (-13 : Int32))) (σ' := (97, I, J, R)) rfl hQ
            · rw [if_neg hc_377] at h
              refine az_E.sn 1 (pc' := 5) (L' := [.ref 63, .int v2, .int v5]) (S' := [.int v5]) (σ' := (97, I, J, R)) rfl ?_
              refine az_E.br (c := v5 < 0) (tt := 30) (ff := 8) (L' := [.ref 63, .int v2, .int v5]) (S' := []) (σ' := (97, I, J, R)) rfl (fun hc_378 => ?_) (fun hc_378 => ?_)
              · rw [if_pos hc_378] at h
                refine az_E.sn 1 (pc' := 31) (L' := [.ref 63, .int v2, .int v5]) (S' := [.int (0 : Int32)]) (σ' := (97, I, J, R)) rfl ?_
                refine az_E.ret (v := some (.int (0 : Int32))) (σ' := (97, I, J, R)) rfl ?_
                show az_E az_F ex 2 128 83 [.retAddr 0, .retAddr 0, .int v2, .retAddr 0, .int v4, .int v5, .ref 63, .ref 61] [.int (0 : Int32)] (97, I, J, R) _
                refine az_E.br (c := (0 : Int32) = 0) (tt := 98) (ff := 86) (L' := [.retAddr 0, .retAddr 0, .int v2, .retAddr 0, .int v4, .int v5, .ref 63, .ref 61]) (S' := []) (σ' := (97, I, J, R)) rfl (fun _ => ?_) (fun hn => absurd (by decide) hn)
                refine az_E.sn 1 (pc' := 100) (L' := [.retAddr 0, .retAddr 0, .int v2, .retAddr 0, .int v4, .int v5, .ref 63, .ref 61]) (S' := [.int (-13 : Int32)]) (σ' := (97, I, J, R)) rfl ?_
                have h := Option.some.inj h
                subst h
                exact az_E.ret (v := some (.int (-13 : Int32))) (σ' := (97, I, J, R)) rfl hQ
              · rw [if_neg hc_378] at h
                refine az_E.sn 3 (pc' := 13) (L' := [.ref 63, .int v2, .int v5]) (S' := [.int (I 63 2), .int v2]) (σ' := (97, I, J, R)) rfl ?_
                refine az_E.br (c := (I 63 2) < v2) (tt := 30) (ff := 16) (L' := [.ref 63, .int v2, .int v5]) (S' := []) (σ' := (97, I, J, R)) rfl (fun hc_379 => ?_) (fun hc_379 => ?_)
                · rw [if_pos hc_379] at h
                  refine az_E.sn 1 (pc' := 31) (L' := [.ref 63, .int v2, .int v5]) (S' := [.int (0 : Int32)]) (σ' := (97, I, J, R)) rfl ?_
                  refine az_E.ret (v := some (.int (0 : Int32))) (σ' := (97, I, J, R)) rfl ?_
                  show az_E az_F ex 2 128 83 [.retAddr 0, .retAddr 0, .int v2, .retAddr 0, .int v4, .int v5, .ref 63, .ref 61] [.int (0 : Int32)] (97, I, J, R) _
                  refine az_E.br (c := (0 : Int32) = 0) (tt := 98) (ff := 86) (L' := [.retAddr 0, .retAddr 0, .int v2, .retAddr 0, .int v4, .int v5, .ref 63, .ref 61]) (S' := []) (σ' := (97, I, J, R)) rfl (fun _ => ?_) (fun hn => absurd (by decide) hn)
                  refine az_E.sn 1 (pc' := 100) (L' := [.retAddr 0, .retAddr 0, .int v2, .retAddr 0, .int v4, .int v5, .ref 63, .ref 61]) (S' := [.int (-13 : Int32)]) (σ' := (97, I, J, R)) rfl ?_
                  have h := Option.some.inj h
                  subst h
                  exact az_E.ret (v := some (.int (-13 : Int32))) (σ' := (97, I, J, R)) rfl hQ
                · rw [if_neg hc_379] at h
                  refine az_E.sn 5 (pc' := 23) (L' := [.ref 63, .int v2, .int v5]) (S' := [.int ((I 63 2) - v2), .int v5]) (σ' := (97, I, J, R)) rfl ?_
                  refine az_E.br (c := ((I 63 2) - v2) < v5) (tt := 30) (ff := 26) (L' := [.ref 63, .int v2, .int v5]) (S' := []) (σ' := (97, I, J, R)) rfl (fun hc_380 => ?_) (fun hc_380 => ?_)
                  · rw [if_pos hc_380] at h
                    refine az_E.sn 1 (pc' := 31) (L' := [.ref 63, .int v2, .int v5]) (S' := [.int (0 : Int32)]) (σ' := (97, I, J, R)) rfl ?_
                    refine az_E.ret (v := some (.int (0 : Int32))) (σ' := (97, I, J, R)) rfl ?_
                    show az_E az_F ex 2 128 83 [.retAddr 0, .retAddr 0, .int v2, .retAddr 0, .int v4, .int v5, .ref 63, .ref 61] [.int (0 : Int32)] (97, I, J, R) _
                    refine az_E.br (c := (0 : Int32) = 0) (tt := 98) (ff := 86) (L' := [.retAddr 0, .retAddr 0, .int v2, .retAddr 0, .int v4, .int v5, .ref 63, .ref 61]) (S' := []) (σ' := (97, I, J, R)) rfl (fun _ => ?_) (fun hn => absurd (by decide) hn)
                    refine az_E.sn 1 (pc' := 100) (L' := [.retAddr 0, .retAddr 0, .int v2, .retAddr 0, .int v4, .int v5, .ref 63, .ref 61]) (S' := [.int (-13 : Int32)]) (σ' := (97, I, J, R)) rfl ?_
                    have h := Option.some.inj h
                    subst h
                    exact az_E.ret (v := some (.int (-13 : Int32))) (σ' := (97, I, J, R)) rfl hQ
                  · rw [if_neg hc_380] at h
                    refine az_E.sn 2 (pc' := 31) (L' := [.ref 63, .int v2, .int v5]) (S' := [.int (1 : Int32)]) (σ' := (97, I, J, R)) rfl ?_
                    refine az_E.ret (v := some (.int (1 : Int32))) (σ' := (97, I, J, R)) rfl ?_
                    show az_E az_F ex 2 128 83 [.retAddr 0, .retAddr 0, .int v2, .retAddr 0, .int v4, .int v5, .ref 63, .ref 61] [.int (1 : Int32)] (97, I, J, R) _
                    refine az_E.br (c := (1 : Int32) = 0) (tt := 98) (ff := 86) (L' := [.retAddr 0, .retAddr 0, .int v2, .retAddr 0, .int v4, .int v5, .ref 63, .ref 61]) (S' := []) (σ' := (97, I, J, R)) rfl (fun hn => absurd hn (by decide)) (fun _ => ?_)
                    refine az_E.sn 3 (pc' := 92) (L' := [.retAddr 0, .retAddr 0, .int v2, .retAddr 0, .int v4, .int v5, .ref 63, .ref 61]) (S' := [.int v5, .int v4, .ref 61]) (σ' := (97, I, J, R)) rfl ?_
                    refine az_E.call (d := 1) (k' := 60) (vs := [.ref 61, .int v4, .int v5]) (pc' := 95) (S' := []) rfl ?_ (fun _ _ hq => hq)
                    show az_E az_F ex 1 60 0 [.ref 61, .int v4, .int v5] [] (97, I, J, R) _
                    refine az_E.sn 1 (pc' := 1) (L' := [.ref 61, .int v4, .int v5]) (S' := [.int v4]) (σ' := (97, I, J, R)) rfl ?_
                    refine az_E.br (c := v4 < 0) (tt := 30) (ff := 4) (L' := [.ref 61, .int v4, .int v5]) (S' := []) (σ' := (97, I, J, R)) rfl (fun hc_381 => ?_) (fun hc_381 => ?_)
                    · rw [if_pos hc_381] at h
                      refine az_E.sn 1 (pc' := 31) (L' := [.ref 61, .int v4, .int v5]) (S' := [.int (0 : Int32)]) (σ' := (97, I, J, R)) rfl ?_
                      refine az_E.ret (v := some (.int (0 : Int32))) (σ' := (97, I, J, R)) rfl ?_
                      show az_E az_F ex 2 128 95 [.retAddr 0, .retAddr 0, .int v2, .retAddr 0, .int v4, .int v5, .ref 63, .ref 61] [.int (0 : Int32)] (97, I, J, R) _
                      refine az_E.br (c := (0 : Int32) = 0) (tt := 98) (ff := 101) (L' := [.retAddr 0, .retAddr 0, .int v2, .retAddr 0, .int v4, .int v5, .ref 63, .ref 61]) (S' := []) (σ' := (97, I, J, R)) rfl (fun _ => ?_) (fun hn => absurd (by decide) hn)
                      refine az_E.sn 1 (pc' := 100) (L' := [.retAddr 0, .retAddr 0, .int v2, .retAddr 0, .int v4, .int v5, .ref 63, .ref 61]) (S' := [.int (-13 : Int32)]) (σ' := (97, I, J, R)) rfl ?_
                      have h := Option.some.inj h
                      subst h
                      exact az_E.ret (v := some (.int (-13 : Int32))) (σ' := (97, I, J, R)) rfl hQ
                    · rw [if_neg hc_381] at h
                      refine az_E.sn 1 (pc' := 5) (L' := [.ref 61, .int v4, .int v5]) (S' := [.int v5]) (σ' := (97, I, J, R)) rfl ?_
                      refine az_E.br (c := v5 < 0) (tt := 30) (ff := 8) (L' := [.ref 61, .int v4, .int v5]) (S' := []) (σ' := (97, I, J, R)) rfl (fun hc_382 => ?_) (fun hc_382 => ?_)
                      · rw [if_pos hc_382] at h
                        refine az_E.sn 1 (pc' := 31) (L' := [.ref 61, .int v4, .int v5]) (S' := [.int (0 : Int32)]) (σ' := (97, I, J, R)) rfl ?_
                        refine az_E.ret (v := some (.int (0 : Int32))) (σ' := (97, I, J, R)) rfl ?_
                        show az_E az_F ex 2 128 95 [.retAddr 0, .retAddr 0, .int v2, .retAddr 0, .int v4, .int v5, .ref 63, .ref 61] [.int (0 : Int32)] (97, I, J, R) _
                        refine az_E.br (c := (0 : Int32) = 0) (tt := 98) (ff := 101) (L' := [.retAddr 0, .retAddr 0, .int v2, .retAddr 0, .int v4, .int v5, .ref 63, .ref 61]) (S' := []) (σ' := (97, I, J, R)) rfl (fun _ => ?_) (fun hn => absurd (by decide) hn)
                        refine az_E.sn 1 (pc' := 100) (L' := [.retAddr 0, .retAddr 0, .int v2, .retAddr 0, .int v4, .int v5, .ref 63, .ref 61]) (S' := [.int (-13 : Int32)]) (σ' := (97, I, J, R)) rfl ?_
                        have h := Option.some.inj h
                        subst h
                        exact az_E.ret (v := some (.int (-13 : Int32))) (σ' := (97, I, J, R)) rfl hQ
                      · rw [if_neg hc_382] at h
                        refine az_E.sn 3 (pc' := 13) (L' := [.ref 61, .int v4, .int v5]) (S' := [.int (I 61 2), .int v4]) (σ' := (97, I, J, R)) rfl ?_
                        refine az_E.br (c := (I 61 2) < v4) (tt := 30) (ff := 16) (L' := [.ref 61, .int v4, .int v5]) (S' := []) (σ' := (97, I, J, R)) rfl (fun hc_383 => ?_) (fun hc_383 => ?_)
                        · rw [if_pos hc_383] at h
                          refine az_E.sn 1 (pc' := 31) (L' := [.ref 61, .int v4, .int v5]) (S' := [.int (0 : Int32)]) (σ' := (97, I, J, R)) rfl ?_
                          refine az_E.ret (v := some (.int (0 : Int32))) (σ' := (97, I, J, R)) rfl ?_
                          show az_E az_F ex 2 128 95 [.retAddr 0, .retAddr 0, .int v2, .retAddr 0, .int v4, .int v5, .ref 63, .ref 61] [.int (0 : Int32)] (97, I, J, R) _
                          refine az_E.br (c := (0 : Int32) = 0) (tt := 98) (ff := 101) (L' := [.retAddr 0, .retAddr 0, .int v2, .retAddr 0, .int v4, .int v5, .ref 63, .ref 61]) (S' := []) (σ' := (97, I, J, R)) rfl (fun _ => ?_) (fun hn => absurd (by decide) hn)
                          refine az_E.sn 1 (pc' := 100) (L' := [.retAddr 0, .retAddr 0, .int v2, .retAddr 0, .int v4, .int v5, .ref 63, .ref 61]) (S' := [.int (-13 : Int32)]) (σ' := (97, I, J, R)) rfl ?_
                          have h := Option.some.inj h
                          subst h
                          exact az_E.ret (v := some (.int (-13 : Int32))) (σ' := (97, I, J, R)) rfl hQ
                        · rw [if_neg hc_383] at h
                          refine az_E.sn 5 (pc' := 23) (L' := [.ref 61, .int v4, .int v5]) (S' := [.int ((I 61 2) - v4), .int v5]) (σ' := (97, I, J, R)) rfl ?_
                          refine az_E.br (c := ((I 61 2) - v4) < v5) (tt := 30) (ff := 26) (L' := [.ref 61, .int v4, .int v5]) (S' := []) (σ' := (97, I, J, R)) rfl (fun hc_384 => ?_) (fun hc_384 => ?_)
                          · rw [if_pos hc_384] at h
                            refine az_E.sn 1 (pc' := 31) (L' := [.ref 61, .int v4, .int v5]) (S' := [.int (0 : Int32)]) (σ' := (97, I, J, R)) rfl ?_
                            refine az_E.ret (v := some (.int (0 : Int32))) (σ' := (97, I, J, R)) rfl ?_
                            show az_E az_F ex 2 128 95 [.retAddr 0, .retAddr 0, .int v2, .retAddr 0, .int v4, .int v5, .ref 63, .ref 61] [.int (0 : Int32)] (97, I, J, R) _
                            refine az_E.br (c := (0 : Int32) = 0) (tt := 98) (ff := 101) (L' := [.retAddr 0, .retAddr 0, .int v2, .retAddr 0, .int v4, .int v5, .ref 63, .ref 61]) (S' := []) (σ' := (97, I, J, R)) rfl (fun _ => ?_) (fun hn => absurd (by decide) hn)
                            refine az_E.sn 1 (pc' := 100) (L' := [.retAddr 0, .retAddr 0, .int v2, .retAddr 0, .int v4, .int v5, .ref 63, .ref 61]) (S' := [.int (-13 : Int32)]) (σ' := (97, I, J, R)) rfl ?_
                            have h := Option.some.inj h
                            subst h
                            exact az_E.ret (v := some (.int (-13 : Int32))) (σ' := (97, I, J, R)) rfl hQ
                          · rw [if_neg hc_384] at h
                            refine az_E.sn 2 (pc' := 31) (L' := [.ref 61, .int v4, .int v5]) (S' := [.int (1 : Int32)]) (σ' := (97, I, J, R)) rfl ?_
                            refine az_E.ret (v := some (.int (1 : Int32))) (σ' := (97, I, J, R)) rfl ?_
                            show az_E az_F ex 2 128 95 [.retAddr 0, .retAddr 0, .int v2, .retAddr 0, .int v4, .int v5, .ref 63, .ref 61] [.int (1 : Int32)] (97, I, J, R) _
                            refine az_E.br (c := (1 : Int32) = 0) (tt := 98) (ff := 101) (L' := [.retAddr 0, .retAddr 0, .int v2, .retAddr 0, .int v4, .int v5, .ref 63, .ref 61]) (S' := []) (σ' := (97, I, J, R)) rfl (fun hn => absurd hn (by decide)) (fun _ => ?_)
                            refine az_E.sn 7 (pc' := 116) (L' := [.retAddr 0, .retAddr 0, .int v2, .retAddr 0, .int v4, .int v5, .ref 63, .ref 61]) (S' := [.int v5, .int v4, .ref (61 + 1), .int v2, .ref (63 + 1)]) (σ' := (97, I, J, R)) rfl ?_
                            by_cases hc_385 : v2 < 0 ∨ v4 < 0 ∨ v5 < 0 ∨ 60 < v2.toNatClampNeg + v5.toNatClampNeg ∨ 60 < v4.toNatClampNeg + v5.toNatClampNeg
                            · rw [if_pos hc_385] at h; cases h
                            · rw [if_neg hc_385] at h
                              refine az_E.o (o := az_cp az_F (97, I, J, R) (63 + 1) v2 (61 + 1) v4 v5) (pc' := 119) (L' := [.retAddr 0, .retAddr 0, .int v2, .retAddr 0, .int v4, .int v5, .ref 63, .ref 61]) (S' := []) (x := (97, I, (az_ur J (61 + 1) (va_cpy (J (63 + 1)) (J (61 + 1)) v2.toNatClampNeg v4.toNatClampNeg v5.toNatClampNeg)), R)) rfl (if_neg hc_385) ?_
                              refine az_E.sn 1 (pc' := 121) (L' := [.retAddr 0, .retAddr 0, .int v2, .retAddr 0, .int v4, .int v5, .ref 63, .ref 61]) (S' := [.int v5]) (σ' := (97, I, (az_ur J (61 + 1) (va_cpy (J (63 + 1)) (J (61 + 1)) v2.toNatClampNeg v4.toNatClampNeg v5.toNatClampNeg)), R)) rfl ?_
                              have h := Option.some.inj h
                              subst h
                              exact az_E.ret (v := some (.int v5)) (σ' := (97, I, (az_ur J (61 + 1) (va_cpy (J (63 + 1)) (J (61 + 1)) v2.toNatClampNeg v4.toNatClampNeg v5.toNatClampNeg)), R)) rfl hQ
          · rw [if_neg hc_376] at h
            refine az_E.sn 1 (pc' := 20) (L' := [.ref 61, .int (I 63 1)]) (S' := [.int (0 : Int32)]) (σ' := (97, I, J, R)) rfl ?_
            refine az_E.ret (v := some (.int (0 : Int32))) (σ' := (97, I, J, R)) rfl ?_
            show az_E az_F ex 2 128 69 [.retAddr 0, .retAddr 0, .int v2, .retAddr 0, .int v4, .int v5, .ref 63, .ref 61] [.int (0 : Int32)] (97, I, J, R) _
            refine az_E.br (c := (0 : Int32) = 0) (tt := 72) (ff := 75) (L' := [.retAddr 0, .retAddr 0, .int v2, .retAddr 0, .int v4, .int v5, .ref 63, .ref 61]) (S' := []) (σ' := (97, I, J, R)) rfl (fun _ => ?_) (fun hn => absurd (by decide) hn)
            refine az_E.sn 1 (pc' := 74) (L' := [.retAddr 0, .retAddr 0, .int v2, .retAddr 0, .int v4, .int v5, .ref 63, .ref 61]) (S' := [.int (-12 : Int32)]) (σ' := (97, I, J, R)) rfl ?_
            have h := Option.some.inj h
            subst h
            exact az_E.ret (v := some (.int (-12 : Int32))) (σ' := (97, I, J, R)) rfl hQ
set_option maxRecDepth 100000 in
set_option maxHeartbeats 4000000 in
theorem re_X_shift_30_63_63 {ex : az_X} {I : Nat → Nat → Int32} {J : Nat → Nat → Int64} {R : Nat → Nat → Option Nat} {v2 : Int32} {v4 : Int32} {v5 : Int32} {x : Int32 × (Nat → Nat → Int64)} (h : rs_X_shift_30 63 63 I J v2 v4 v5 = some x) {Q : Option Value → az_S → Prop} (hQ : Q (some (.int x.1)) (97, I, x.2, R)) : az_E az_F ex 2 128 30 [.retAddr 0, .retAddr 0, .int v2, .retAddr 0, .int v4, .int v5, .ref 63, .retAddr 0] [.ref 63] (97, I, J, R) Q := by
  unfold rs_X_shift_30 at h
  refine az_E.sn 2 (pc' := 34) (L' := [.retAddr 0, .retAddr 0, .int v2, .retAddr 0, .int v4, .int v5, .ref 63, .ref 63]) (S' := [.ref 63]) (σ' := (97, I, J, R)) rfl ?_
  refine az_E.call (d := 1) (k' := 54) (vs := [.ref 63]) (pc' := 37) (S' := []) rfl ?_ (fun _ _ hq => hq)
  show az_E az_F ex 1 54 0 [.ref 63] [] (97, I, J, R) _
  refine az_E.sn 3 (pc' := 5) (L' := [.ref 63]) (S' := [.int (-1 : Int32), .int (I 63 0)]) (σ' := (97, I, J, R)) rfl ?_
  refine az_E.br (c := (I 63 0) = (-1 : Int32)) (tt := 8) (ff := 20) (L' := [.ref 63]) (S' := []) (σ' := (97, I, J, R)) rfl (fun hc_386 => ?_) (fun hc_386 => ?_)
  · rw [if_pos hc_386] at h
    refine az_E.sn 3 (pc' := 13) (L' := [.ref 63]) (S' := [.int (-1 : Int32), .int (I 63 1)]) (σ' := (97, I, J, R)) rfl ?_
    refine az_E.br (c := (I 63 1) = (-1 : Int32)) (tt := 16) (ff := 20) (L' := [.ref 63]) (S' := []) (σ' := (97, I, J, R)) rfl (fun hc_387 => ?_) (fun hc_387 => ?_)
    · rw [if_pos hc_387] at h
      refine az_E.sn 2 (pc' := 21) (L' := [.ref 63]) (S' := [.int (1 : Int32)]) (σ' := (97, I, J, R)) rfl ?_
      refine az_E.ret (v := some (.int (1 : Int32))) (σ' := (97, I, J, R)) rfl ?_
      show az_E az_F ex 2 128 37 [.retAddr 0, .retAddr 0, .int v2, .retAddr 0, .int v4, .int v5, .ref 63, .ref 63] [.int (1 : Int32)] (97, I, J, R) _
      refine az_E.br (c := (1 : Int32) = 0) (tt := 40) (ff := 48) (L' := [.retAddr 0, .retAddr 0, .int v2, .retAddr 0, .int v4, .int v5, .ref 63, .ref 63]) (S' := []) (σ' := (97, I, J, R)) rfl (fun hn => absurd hn (by decide)) (fun _ => ?_)
      refine az_E.sn 1 (pc' := 50) (L' := [.retAddr 0, .retAddr 0, .int v2, .retAddr 0, .int v4, .int v5, .ref 63, .ref 63]) (S' := [.int (-11 : Int32)]) (σ' := (97, I, J, R)) rfl ?_
      have h := Option.some.inj h
      subst h
      exact az_E.ret (v := some (.int (-11 : Int32))) (σ' := (97, I, J, R)) rfl hQ
    · rw [if_neg hc_387] at h
      refine az_E.sn 1 (pc' := 21) (L' := [.ref 63]) (S' := [.int (0 : Int32)]) (σ' := (97, I, J, R)) rfl ?_
      refine az_E.ret (v := some (.int (0 : Int32))) (σ' := (97, I, J, R)) rfl ?_
      show az_E az_F ex 2 128 37 [.retAddr 0, .retAddr 0, .int v2, .retAddr 0, .int v4, .int v5, .ref 63, .ref 63] [.int (0 : Int32)] (97, I, J, R) _
      refine az_E.br (c := (0 : Int32) = 0) (tt := 40) (ff := 48) (L' := [.retAddr 0, .retAddr 0, .int v2, .retAddr 0, .int v4, .int v5, .ref 63, .ref 63]) (S' := []) (σ' := (97, I, J, R)) rfl (fun _ => ?_) (fun hn => absurd (by decide) hn)
      refine az_E.sn 1 (pc' := 42) (L' := [.retAddr 0, .retAddr 0, .int v2, .retAddr 0, .int v4, .int v5, .ref 63, .ref 63]) (S' := [.ref 63]) (σ' := (97, I, J, R)) rfl ?_
      refine az_E.call (d := 1) (k' := 54) (vs := [.ref 63]) (pc' := 45) (S' := []) rfl ?_ (fun _ _ hq => hq)
      show az_E az_F ex 1 54 0 [.ref 63] [] (97, I, J, R) _
      refine az_E.sn 3 (pc' := 5) (L' := [.ref 63]) (S' := [.int (-1 : Int32), .int (I 63 0)]) (σ' := (97, I, J, R)) rfl ?_
      refine az_E.br (c := (I 63 0) = (-1 : Int32)) (tt := 8) (ff := 20) (L' := [.ref 63]) (S' := []) (σ' := (97, I, J, R)) rfl (fun hc_388 => ?_) (fun hc_388 => ?_)
      · rw [if_pos hc_388] at h
        refine az_E.sn 3 (pc' := 13) (L' := [.ref 63]) (S' := [.int (-1 : Int32), .int (I 63 1)]) (σ' := (97, I, J, R)) rfl ?_
        refine az_E.br (c := (I 63 1) = (-1 : Int32)) (tt := 16) (ff := 20) (L' := [.ref 63]) (S' := []) (σ' := (97, I, J, R)) rfl (fun hc_389 => ?_) (fun hc_389 => ?_)
        · rw [if_pos hc_389] at h
          refine az_E.sn 2 (pc' := 21) (L' := [.ref 63]) (S' := [.int (1 : Int32)]) (σ' := (97, I, J, R)) rfl ?_
          refine az_E.ret (v := some (.int (1 : Int32))) (σ' := (97, I, J, R)) rfl ?_
          show az_E az_F ex 2 128 45 [.retAddr 0, .retAddr 0, .int v2, .retAddr 0, .int v4, .int v5, .ref 63, .ref 63] [.int (1 : Int32)] (97, I, J, R) _
          refine az_E.br (c := (1 : Int32) = 0) (tt := 51) (ff := 48) (L' := [.retAddr 0, .retAddr 0, .int v2, .retAddr 0, .int v4, .int v5, .ref 63, .ref 63]) (S' := []) (σ' := (97, I, J, R)) rfl (fun hn => absurd hn (by decide)) (fun _ => ?_)
          refine az_E.sn 1 (pc' := 50) (L' := [.retAddr 0, .retAddr 0, .int v2, .retAddr 0, .int v4, .int v5, .ref 63, .ref 63]) (S' := [.int (-11 : Int32)]) (σ' := (97, I, J, R)) rfl ?_
          have h := Option.some.inj h
          subst h
          exact az_E.ret (v := some (.int (-11 : Int32))) (σ' := (97, I, J, R)) rfl hQ
        · rw [if_neg hc_389] at h
          refine az_E.sn 1 (pc' := 21) (L' := [.ref 63]) (S' := [.int (0 : Int32)]) (σ' := (97, I, J, R)) rfl ?_
          refine az_E.ret (v := some (.int (0 : Int32))) (σ' := (97, I, J, R)) rfl ?_
          show az_E az_F ex 2 128 45 [.retAddr 0, .retAddr 0, .int v2, .retAddr 0, .int v4, .int v5, .ref 63, .ref 63] [.int (0 : Int32)] (97, I, J, R) _
          refine az_E.br (c := (0 : Int32) = 0) (tt := 51) (ff := 48) (L' := [.retAddr 0, .retAddr 0, .int v2, .retAddr 0, .int v4, .int v5, .ref 63, .ref 63]) (S' := []) (σ' := (97, I, J, R)) rfl (fun _ => ?_) (fun hn => absurd (by decide) hn)
          refine az_E.sn 1 (pc' := 53) (L' := [.retAddr 0, .retAddr 0, .int v2, .retAddr 0, .int v4, .int v5, .ref 63, .ref 63]) (S' := [.ref 63]) (σ' := (97, I, J, R)) rfl ?_
          refine az_E.call (d := 1) (k' := 55) (vs := [.ref 63]) (pc' := 56) (S' := []) rfl ?_ (fun _ _ hq => hq)
          show az_E az_F ex 1 55 0 [.ref 63] [] (97, I, J, R) _
          refine az_E.sn 3 (pc' := 5) (L' := [.ref 63]) (S' := [.int (-1 : Int32), .int (I 63 1)]) (σ' := (97, I, J, R)) rfl ?_
          refine az_E.br (c := (I 63 1) = (-1 : Int32)) (tt := 12) (ff := 8) (L' := [.ref 63]) (S' := []) (σ' := (97, I, J, R)) rfl (fun hc_390 => ?_) (fun hc_390 => ?_)
          · rw [if_pos hc_390] at h
            refine az_E.sn 1 (pc' := 13) (L' := [.ref 63]) (S' := [.int (0 : Int32)]) (σ' := (97, I, J, R)) rfl ?_
            refine az_E.ret (v := some (.int (0 : Int32))) (σ' := (97, I, J, R)) rfl ?_
            show az_E az_F ex 2 128 56 [.retAddr 0, .retAddr 0, .int v2, .retAddr 0, .int v4, .int v5, .ref 63, .ref 63] [.int (0 : Int32)] (97, I, J, R) _
            refine az_E.br (c := (0 : Int32) = 0) (tt := 72) (ff := 59) (L' := [.retAddr 0, .retAddr 0, .int v2, .retAddr 0, .int v4, .int v5, .ref 63, .ref 63]) (S' := []) (σ' := (97, I, J, R)) rfl (fun _ => ?_) (fun hn => absurd (by decide) hn)
            refine az_E.sn 1 (pc' := 74) (L' := [.retAddr 0, .retAddr 0, .int v2, .retAddr 0, .int v4, .int v5, .ref 63, .ref 63]) (S' := [.int (-12 : Int32)]) (σ' := (97, I, J, R)) rfl ?_
            have h := Option.some.inj h
            subst h
            exact az_E.ret (v := some (.int (-12 : Int32))) (σ' := (97, I, J, R)) rfl hQ
          · rw [if_neg hc_390] at h
            refine az_E.sn 2 (pc' := 13) (L' := [.ref 63]) (S' := [.int (1 : Int32)]) (σ' := (97, I, J, R)) rfl ?_
            refine az_E.ret (v := some (.int (1 : Int32))) (σ' := (97, I, J, R)) rfl ?_
            show az_E az_F ex 2 128 56 [.retAddr 0, .retAddr 0, .int v2, .retAddr 0, .int v4, .int v5, .ref 63, .ref 63] [.int (1 : Int32)] (97, I, J, R) _
            refine az_E.br (c := (1 : Int32) = 0) (tt := 72) (ff := 59) (L' := [.retAddr 0, .retAddr 0, .int v2, .retAddr 0, .int v4, .int v5, .ref 63, .ref 63]) (S' := []) (σ' := (97, I, J, R)) rfl (fun hn => absurd hn (by decide)) (fun _ => ?_)
            refine az_E.sn 3 (pc' := 66) (L' := [.retAddr 0, .retAddr 0, .int v2, .retAddr 0, .int v4, .int v5, .ref 63, .ref 63]) (S' := [.int (I 63 1), .ref 63]) (σ' := (97, I, J, R)) rfl ?_
            refine az_E.call (d := 1) (k' := 56) (vs := [.ref 63, .int (I 63 1)]) (pc' := 69) (S' := []) rfl ?_ (fun _ _ hq => hq)
            show az_E az_F ex 1 56 0 [.ref 63, .int (I 63 1)] [] (97, I, J, R) _
            refine az_E.sn 1 (pc' := 1) (L' := [.ref 63, .int (I 63 1)]) (S' := [.ref 63]) (σ' := (97, I, J, R)) rfl ?_
            refine az_E.call (d := 0) (k' := 55) (vs := [.ref 63]) (pc' := 4) (S' := []) rfl ?_ (fun _ _ hq => hq)
            show az_E az_F ex 0 55 0 [.ref 63] [] (97, I, J, R) _
            refine az_E.sn 3 (pc' := 5) (L' := [.ref 63]) (S' := [.int (-1 : Int32), .int (I 63 1)]) (σ' := (97, I, J, R)) rfl ?_
            refine az_E.br (c := (I 63 1) = (-1 : Int32)) (tt := 12) (ff := 8) (L' := [.ref 63]) (S' := []) (σ' := (97, I, J, R)) rfl (fun hc_391 => ?_) (fun hc_391 => ?_)
            · rw [if_pos hc_391] at h
              refine az_E.sn 1 (pc' := 13) (L' := [.ref 63]) (S' := [.int (0 : Int32)]) (σ' := (97, I, J, R)) rfl ?_
              refine az_E.ret (v := some (.int (0 : Int32))) (σ' := (97, I, J, R)) rfl ?_
              show az_E az_F ex 1 56 4 [.ref 63, .int (I 63 1)] [.int (0 : Int32)] (97, I, J, R) _
              refine az_E.br (c := (0 : Int32) = 0) (tt := 19) (ff := 7) (L' := [.ref 63, .int (I 63 1)]) (S' := []) (σ' := (97, I, J, R)) rfl (fun _ => ?_) (fun hn => absurd (by decide) hn)
              refine az_E.sn 1 (pc' := 20) (L' := [.ref 63, .int (I 63 1)]) (S' := [.int (0 : Int32)]) (σ' := (97, I, J, R)) rfl ?_
              refine az_E.ret (v := some (.int (0 : Int32))) (σ' := (97, I, J, R)) rfl ?_
              show az_E az_F ex 2 128 69 [.retAddr 0, .retAddr 0, .int v2, .retAddr 0, .int v4, .int v5, .ref 63, .ref 63] [.int (0 : Int32)] (97, I, J, R) _
              refine az_E.br (c := (0 : Int32) = 0) (tt := 72) (ff := 75) (L' := [.retAddr 0, .retAddr 0, .int v2, .retAddr 0, .int v4, .int v5, .ref 63, .ref 63]) (S' := []) (σ' := (97, I, J, R)) rfl (fun _ => ?_) (fun hn => absurd (by decide) hn)
              refine az_E.sn 1 (pc' := 74) (L' := [.retAddr 0, .retAddr 0, .int v2, .retAddr 0, .int v4, .int v5, .ref 63, .ref 63]) (S' := [.int (-12 : Int32)]) (σ' := (97, I, J, R)) rfl ?_
              have h := Option.some.inj h
              subst h
              exact az_E.ret (v := some (.int (-12 : Int32))) (σ' := (97, I, J, R)) rfl hQ
            · rw [if_neg hc_391] at h
              refine az_E.sn 2 (pc' := 13) (L' := [.ref 63]) (S' := [.int (1 : Int32)]) (σ' := (97, I, J, R)) rfl ?_
              refine az_E.ret (v := some (.int (1 : Int32))) (σ' := (97, I, J, R)) rfl ?_
              show az_E az_F ex 1 56 4 [.ref 63, .int (I 63 1)] [.int (1 : Int32)] (97, I, J, R) _
              refine az_E.br (c := (1 : Int32) = 0) (tt := 19) (ff := 7) (L' := [.ref 63, .int (I 63 1)]) (S' := []) (σ' := (97, I, J, R)) rfl (fun hn => absurd hn (by decide)) (fun _ => ?_)
              refine az_E.sn 3 (pc' := 12) (L' := [.ref 63, .int (I 63 1)]) (S' := [.int (I 63 1), .int (I 63 1)]) (σ' := (97, I, J, R)) rfl ?_
              refine az_E.br (c := (I 63 1) = (I 63 1)) (tt := 15) (ff := 19) (L' := [.ref 63, .int (I 63 1)]) (S' := []) (σ' := (97, I, J, R)) rfl (fun hc_392 => ?_) (fun hc_392 => ?_)
              · rw [if_pos hc_392] at h
                refine az_E.sn 2 (pc' := 20) (L' := [.ref 63, .int (I 63 1)]) (S' := [.int (1 : Int32)]) (σ' := (97, I, J, R)) rfl ?_
                refine az_E.ret (v := some (.int (1 : Int32))) (σ' := (97, I, J, R)) rfl ?_
                show az_E az_F ex 2 128 69 [.retAddr 0, .retAddr 0, .int v2, .retAddr 0, .int v4, .int v5, .ref 63, .ref 63] [.int (1 : Int32)] (97, I, J, R) _
                refine az_E.br (c := (1 : Int32) = 0) (tt := 72) (ff := 75) (L' := [.retAddr 0, .retAddr 0, .int v2, .retAddr 0, .int v4, .int v5, .ref 63, .ref 63]) (S' := []) (σ' := (97, I, J, R)) rfl (fun hn => absurd hn (by decide)) (fun _ => ?_)
                refine az_E.sn 3 (pc' := 80) (L' := [.retAddr 0, .retAddr 0, .int v2, .retAddr 0, .int v4, .int v5, .ref 63, .ref 63]) (S' := [.int v5, .int v2, .ref 63]) (σ' := (97, I, J, R)) rfl ?_
                refine az_E.call (d := 1) (k' := 60) (vs := [.ref 63, .int v2, .int v5]) (pc' := 83) (S' := []) rfl ?_ (fun _ _ hq => hq)
                show az_E az_F ex 1 60 0 [.ref 63, .int v2, .int v5] [] (97, I, J, R) _
                refine az_E.sn 1 (pc' := 1) (L' := [.ref 63, .int v2, .int v5]) (S' := [.int v2]) (σ' := (97, I, J, R)) rfl ?_
                refine az_E.br (c := v2 < 0) (tt := 30) (ff := 4) (L' := [.ref 63, .int v2, .int v5]) (S' := []) (σ' := (97, I, J, R)) rfl (fun hc_393 => ?_) (fun hc_393 => ?_)
                · rw [if_pos hc_393] at h
                  refine az_E.sn 1 (pc' := 31) (L' := [.ref 63, .int v2, .int v5]) (S' := [.int (0 : Int32)]) (σ' := (97, I, J, R)) rfl ?_
                  refine az_E.ret (v := some (.int (0 : Int32))) (σ' := (97, I, J, R)) rfl ?_
                  show az_E az_F ex 2 128 83 [.retAddr 0, .retAddr 0, .int v2, .retAddr 0, .int v4, .int v5, .ref 63, .ref 63] [.int (0 : Int32)] (97, I, J, R) _
                  refine az_E.br (c := (0 : Int32) = 0) (tt := 98) (ff := 86) (L' := [.retAddr 0, .retAddr 0, .int v2, .retAddr 0, .int v4, .int v5, .ref 63, .ref 63]) (S' := []) (σ' := (97, I, J, R)) rfl (fun _ => ?_) (fun hn => absurd (by decide) hn)
                  refine az_E.sn 1 (pc' := 100) (L' := [.retAddr 0, .retAddr 0, .int v2, .retAddr 0, .int v4, .int v5, .ref 63, .ref 63]) (S' := [.int (-13 : Int32)]) (σ' := (97, I, J, R)) rfl ?_
                  have h := Option.some.inj h
                  subst h
                  exact az_E.ret (v := some (.int (-13 : Int32))) (σ' := (97, I, J, R)) rfl hQ
                · rw [if_neg hc_393] at h
                  refine az_E.sn 1 (pc' := 5) (L' := [.ref 63, .int v2, .int v5]) (S' := [.int v5]) (σ' := (97, I, J, R)) rfl ?_
                  refine az_E.br (c := v5 < 0) (tt := 30) (ff := 8) (L' := [.ref 63, .int v2, .int v5]) (S' := []) (σ' := (97, I, J, R)) rfl (fun hc_394 => ?_) (fun hc_394 => ?_)
                  · rw [if_pos hc_394] at h
                    refine az_E.sn 1 (pc' := 31) (L' := [.ref 63, .int v2, .int v5]) (S' := [.int (0 : Int32)]) (σ' := (97, I, J, R)) rfl ?_
                    refine az_E.ret (v := some (.int (0 : Int32))) (σ' := (97, I, J, R)) rfl ?_
                    show az_E az_F ex 2 128 83 [.retAddr 0, .retAddr 0, .int v2, .retAddr 0, .int v4, .int v5, .ref 63, .ref 63] [.int (0 : Int32)] (97, I, J, R) _
                    refine az_E.br (c := (0 : Int32) = 0) (tt := 98) (ff := 86) (L' := [.retAddr 0, .retAddr 0, .int v2, .retAddr 0, .int v4, .int v5, .ref 63, .ref 63]) (S' := []) (σ' := (97, I, J, R)) rfl (fun _ => ?_) (fun hn => absurd (by decide) hn)
                    refine az_E.sn 1 (pc' := 100) (L' := [.retAddr 0, .retAddr 0, .int v2, .retAddr 0, .int v4, .int v5, .ref 63, .ref 63]) (S' := [.int (-13 : Int32)]) (σ' := (97, I, J, R)) rfl ?_
                    have h := Option.some.inj h
                    subst h
                    exact az_E.ret (v := some (.int (-13 : Int32))) (σ' := (97, I, J, R)) rfl hQ
                  · rw [if_neg hc_394] at h
                    refine az_E.sn 3 (pc' := 13) (L' := [.ref 63, .int v2, .int v5]) (S' := [.int (I 63 2), .int v2]) (σ' := (97, I, J, R)) rfl ?_
                    refine az_E.br (c := (I 63 2) < v2) (tt := 30) (ff := 16) (L' := [.ref 63, .int v2, .int v5]) (S' := []) (σ' := (97, I, J, R)) rfl (fun hc_395 => ?_) (fun hc_395 => ?_)
                    · rw [if_pos hc_395] at h
                      refine az_E.sn 1 (pc' := 31) (L' := [.ref 63, .int v2, .int v5]) (S' := [.int (0 : Int32)]) (σ' := (97, I, J, R)) rfl ?_
                      refine az_E.ret (v := some (.int (0 : Int32))) (σ' := (97, I, J, R)) rfl ?_
                      show az_E az_F ex 2 128 83 [.retAddr 0, .retAddr 0, .int v2, .retAddr 0, .int v4, .int v5, .ref 63, .ref 63] [.int (0 : Int32)] (97, I, J, R) _
                      refine az_E.br (c := (0 : Int32) = 0) (tt := 98) (ff := 86) (L' := [.retAddr 0, .retAddr 0, .int v2, .retAddr 0, .int v4, .int v5, .ref 63, .ref 63]) (S' := []) (σ' := (97, I, J, R)) rfl (fun _ => ?_) (fun hn => absurd (by decide) hn)
                      refine az_E.sn 1 (pc' := 100) (L' := [.retAddr 0, .retAddr 0, .int v2, .retAddr 0, .int v4, .int v5, .ref 63, .ref 63]) (S' := [.int (-13 : Int32)]) (σ' := (97, I, J, R)) rfl ?_
                      have h := Option.some.inj h
                      subst h
                      exact az_E.ret (v := some (.int (-13 : Int32))) (σ' := (97, I, J, R)) rfl hQ
                    · rw [if_neg hc_395] at h
                      refine az_E.sn 5 (pc' := 23) (L' := [.ref 63, .int v2, .int v5]) (S' := [.int ((I 63 2) - v2), .int v5]) (σ' := (97, I, J, R)) rfl ?_
                      refine az_E.br (c := ((I 63 2) - v2) < v5) (tt := 30) (ff := 26) (L' := [.ref 63, .int v2, .int v5]) (S' := []) (σ' := (97, I, J, R)) rfl (fun hc_396 => ?_) (fun hc_396 => ?_)
                      · rw [if_pos hc_396] at h
                        refine az_E.sn 1 (pc' := 31) (L' := [.ref 63, .int v2, .int v5]) (S' := [.int (0 : Int32)]) (σ' := (97, I, J, R)) rfl ?_
                        refine az_E.ret (v := some (.int (0 : Int32))) (σ' := (97, I, J, R)) rfl ?_
                        show az_E az_F ex 2 128 83 [.retAddr 0, .retAddr 0, .int v2, .retAddr 0, .int v4, .int v5, .ref 63, .ref 63] [.int (0 : Int32)] (97, I, J, R) _
                        refine az_E.br (c := (0 : Int32) = 0) (tt := 98) (ff := 86) (L' := [.retAddr 0, .retAddr 0, .int v2, .retAddr 0, .int v4, .int v5, .ref 63, .ref 63]) (S' := []) (σ' := (97, I, J, R)) rfl (fun _ => ?_) (fun hn => absurd (by decide) hn)
                        refine az_E.sn 1 (pc' := 100) (L' := [.retAddr 0, .retAddr 0, .int v2, .retAddr 0, .int v4, .int v5, .ref 63, .ref 63]) (S' := [.int (-13 : Int32)]) (σ' := (97, I, J, R)) rfl ?_
                        have h := Option.some.inj h
                        subst h
                        exact az_E.ret (v := some (.int (-13 : Int32))) (σ' := (97, I, J, R)) rfl hQ
                      · rw [if_neg hc_396] at h
                        refine az_E.sn 2 (pc' := 31) (L' := [.ref 63, .int v2, .int v5]) (S' := [.int (1 : Int32)]) (σ' := (97, I, J, R)) rfl ?_
                        refine az_E.ret (v := some (.int (1 : Int32))) (σ' := (97, I, J, R)) rfl ?_
                        show az_E az_F ex 2 128 83 [.retAddr 0, .retAddr 0, .int v2, .retAddr 0, .int v4, .int v5, .ref 63, .ref 63] [.int (1 : Int32)] (97, I, J, R) _
                        refine az_E.br (c := (1 : Int32) = 0) (tt := 98) (ff := 86) (L' := [.retAddr 0, .retAddr 0, .int v2, .retAddr 0, .int v4, .int v5, .ref 63, .ref 63]) (S' := []) (σ' := (97, I, J, R)) rfl (fun hn => absurd hn (by decide)) (fun _ => ?_)
                        refine az_E.sn 3 (pc' := 92) (L' := [.retAddr 0, .retAddr 0, .int v2, .retAddr 0, .int v4, .int v5, .ref 63, .ref 63]) (S' := [.int v5, .int v4, .ref 63]) (σ' := (97, I, J, R)) rfl ?_
                        refine az_E.call (d := 1) (k' := 60) (vs := [.ref 63, .int v4, .int v5]) (pc' := 95) (S' := []) rfl ?_ (fun _ _ hq => hq)
                        show az_E az_F ex 1 60 0 [.ref 63, .int v4, .int v5] [] (97, I, J, R) _
                        refine az_E.sn 1 (pc' := 1) (L' := [.ref 63, .int v4, .int v5]) (S' := [.int v4]) (σ' := (97, I, J, R)) rfl ?_
                        refine az_E.br (c := v4 < 0) (tt := 30) (ff := 4) (L' := [.ref 63, .int v4, .int v5]) (S' := []) (σ' := (97, I, J, R)) rfl (fun hc_397 => ?_) (fun hc_397 => ?_)
                        · rw [if_pos hc_397] at h
                          refine az_E.sn 1 (pc' := 31) (L' := [.ref 63, .int v4, .int v5]) (S' := [.int (0 : Int32)]) (σ' := (97, I, J, R)) rfl ?_
                          refine az_E.ret (v := some (.int (0 : Int32))) (σ' := (97, I, J, R)) rfl ?_
                          show az_E az_F ex 2 128 95 [.retAddr 0, .retAddr 0, .int v2, .retAddr 0, .int v4, .int v5, .ref 63, .ref 63] [.int (0 : Int32)] (97, I, J, R) _
                          refine az_E.br (c := (0 : Int32) = 0) (tt := 98) (ff := 101) (L' := [.retAddr 0, .retAddr 0, .int v2, .retAddr 0, .int v4, .int v5, .ref 63, .ref 63]) (S' := []) (σ' := (97, I, J, R)) rfl (fun _ => ?_) (fun hn => absurd (by decide) hn)
                          refine az_E.sn 1 (pc' := 100) (L' := [.retAddr 0, .retAddr 0, .int v2, .retAddr 0, .int v4, .int v5, .ref 63, .ref 63]) (S' := [.int (-13 : Int32)]) (σ' := (97, I, J, R)) rfl ?_
                          have h := Option.some.inj h
                          subst h
                          exact az_E.ret (v := some (.int (-13 : Int32))) (σ' := (97, I, J, R)) rfl hQ
                        · rw [if_neg hc_397] at h
                          refine az_E.sn 1 (pc' := 5) (L' := [.ref 63, .int v4, .int v5]) (S' := [.int v5]) (σ' := (97, I, J, R)) rfl ?_
                          refine az_E.br (c := v5 < 0) (tt := 30) (ff := 8) (L' := [.ref 63, .int v4, .int v5]) (S' := []) (σ' := (97, I, J, R)) rfl (fun hc_398 => ?_) (fun hc_398 => ?_)
                          · rw [if_pos hc_398] at h
                            refine az_E.sn 1 (pc' := 31) (L' := [.ref 63, .int v4, .int v5]) (S' := [.int (0 : Int32)]) (σ' := (97, I, J, R)) rfl ?_
                            refine az_E.ret (v := some (.int (0 : Int32))) (σ' := (97, I, J, R)) rfl ?_
                            show az_E az_F ex 2 128 95 [.retAddr 0, .retAddr 0, .int v2, .retAddr 0, .int v4, .int v5, .ref 63, .ref 63] [.int (0 : Int32)] (97, I, J, R) _
                            refine az_E.br (c := (0 : Int32) = 0) (tt := 98) (ff := 101) (L' := [.retAddr 0, .retAddr 0, .int v2, .retAddr 0, .int v4, .int v5, .ref 63, .ref 63]) (S' := []) (σ' := (97, I, J, R)) rfl (fun _ => ?_) (fun hn => absurd (by decide) hn)
                            refine az_E.sn 1 (pc' := 100) (L' := [.retAddr 0, .retAddr 0, .int v2, .retAddr 0, .int v4, .int v5, .ref 63, .ref 63]) (S' := [.int (-13 : Int32)]) (σ' := (97, I, J, R)) rfl ?_
                            have h := Option.some.inj h
                            subst h
                            exact az_E.ret (v := some (.int (-13 : Int32))) (σ' := (97, I, J, R)) rfl hQ
                          · rw [if_neg hc_398] at h
                            refine az_E.sn 3 (pc' := 13) (L' := [.ref 63, .int v4, .int v5]) (S' := [.int (I 63 2), .int v4]) (σ' := (97, I, J, R)) rfl ?_
                            refine az_E.br (c := (I 63 2) < v4) (tt := 30) (ff := 16) (L' := [.ref 63, .int v4, .int v5]) (S' := []) (σ' := (97, I, J, R)) rfl (fun hc_399 => ?_) (fun hc_399 => ?_)
                            · rw [if_pos hc_399] at h
                              refine az_E.sn 1 (pc' := 31) (L' := [.ref 63, .int v4, .int v5]) (S' := [.int (0 : Int32)]) (σ' := (97, I, J, R)) rfl ?_
                              refine az_E.ret (v := some (.int (0 : Int32))) (σ' := (97, I, J, R)) rfl ?_
                              show az_E az_F ex 2 128 95 [.retAddr 0, .retAddr 0, .int v2, .retAddr 0, .int v4, .int v5, .ref 63, .ref 63] [.int (0 : Int32)] (97, I, J, R) _
                              refine az_E.br (c := (0 : Int32) = 0) (tt := 98) (ff := 101) (L' := [.retAddr 0, .retAddr 0, .int v2, .retAddr 0, .int v4, .int v5, .ref 63, .ref 63]) (S' := []) (σ' := (97, I, J, R)) rfl (fun _ => ?_) (fun hn => absurd (by decide) hn)
                              refine az_E.sn 1 (pc' := 100) (L' := [.retAddr 0, .retAddr 0, .int v2, .retAddr 0, .int v4, .int v5, .ref 63, .ref 63]) (S' := [.int (-13 : Int32)]) (σ' := (97, I, J, R)) rfl ?_
                              have h := Option.some.inj h
                              subst h
                              exact az_E.ret (v := some (.int (-13 : Int32))) (σ' := (97, I, J, R)) rfl hQ
                            · rw [if_neg hc_399] at h
                              refine az_E.sn 5 (pc' := 23) (L' := [.ref 63, .int v4, .int v5]) (S' := [.int ((I 63 2) - v4), .int v5]) (σ' := (97, I, J, R)) rfl ?_
                              refine az_E.br (c := ((I 63 2) - v4) < v5) (tt := 30) (ff := 26) (L' := [.ref 63, .int v4, .int v5]) (S' := []) (σ' := (97, I, J, R)) rfl (fun hc_400 => ?_) (fun hc_400 => ?_)
                              · rw [if_pos hc_400] at h
                                refine az_E.sn 1 (pc' := 31) (L' := [.ref 63, .int v4, .int v5]) (S' := [.int (0 : Int32)]) (σ' := (97, I, J, R)) rfl ?_
                                refine az_E.ret (v := some (.int (0 : Int32))) (σ' := (97, I, J, R)) rfl ?_
                                show az_E az_F ex 2 128 95 [.retAddr 0, .retAddr 0, .int v2, .retAddr 0, .int v4, .int v5, .ref 63, .ref 63] [.int (0 : Int32)] (97, I, J, R) _
                                refine az_E.br (c := (0 : Int32) = 0) (tt := 98) (ff := 101) (L' := [.retAddr 0, .retAddr 0, .int v2, .retAddr 0, .int v4, .int v5, .ref 63, .ref 63]) (S' := []) (σ' := (97, I, J, R)) rfl (fun _ => ?_) (fun hn => absurd (by decide) hn)
                                refine az_E.sn 1 (pc' := 100) (L' := [.retAddr 0, .retAddr 0, .int v2, .retAddr 0, .int v4, .int v5, .ref 63, .ref 63]) (S' := [.int (-13 : Int32)]) (σ' := (97, I, J, R)) rfl ?_
                                have h := Option.some.inj h
                                subst h
                                exact az_E.ret (v := some (.int (-13 : Int32))) (σ' := (97, I, J, R)) rfl hQ
                              · rw [if_neg hc_400] at h
                                refine az_E.sn 2 (pc' := 31) (L' := [.ref 63, .int v4, .int v5]) (S' := [.int (1 : Int32)]) (σ' := (97, I, J, R)) rfl ?_
                                refine az_E.ret (v := some (.int (1 : Int32))) (σ' := (97, I, J, R)) rfl ?_
                                show az_E az_F ex 2 128 95 [.retAddr 0, .retAddr 0, .int v2, .retAddr 0, .int v4, .int v5, .ref 63, .ref 63] [.int (1 : Int32)] (97, I, J, R) _
                                refine az_E.br (c := (1 : Int32) = 0) (tt := 98) (ff := 101) (L' := [.retAddr 0, .retAddr 0, .int v2, .retAddr 0, .int v4, .int v5, .ref 63, .ref 63]) (S' := []) (σ' := (97, I, J, R)) rfl (fun hn => absurd hn (by decide)) (fun _ => ?_)
                                refine az_E.sn 7 (pc' := 116) (L' := [.retAddr 0, .retAddr 0, .int v2, .retAddr 0, .int v4, .int v5, .ref 63, .ref 63]) (S' := [.int v5, .int v4, .ref (63 + 1), .int v2, .ref (63 + 1)]) (σ' := (97, I, J, R)) rfl ?_
                                by_cases hc_401 : v2 < 0 ∨ v4 < 0 ∨ v5 < 0 ∨ 60 < v2.toNatClampNeg + v5.toNatClampNeg ∨ 60 < v4.toNatClampNeg + v5.toNatClampNeg
                                · rw [if_pos hc_401] at h; cases h
                                · rw [if_neg hc_401] at h
                                  refine az_E.o (o := az_cp az_F (97, I, J, R) (63 + 1) v2 (63 + 1) v4 v5) (pc' := 119) (L' := [.retAddr 0, .retAddr 0, .int v2, .retAddr 0, .int v4, .int v5, .ref 63, .ref 63]) (S' := []) (x := (97, I, (az_ur J (63 + 1) (va_cpy (J (63 + 1)) (J (63 + 1)) v2.toNatClampNeg v4.toNatClampNeg v5.toNatClampNeg)), R)) rfl (if_neg hc_401) ?_
                                  refine az_E.sn 1 (pc' := 121) (L' := [.retAddr 0, .retAddr 0, .int v2, .retAddr 0, .int v4, .int v5, .ref 63, .ref 63]) (S' := [.int v5]) (σ' := (97, I, (az_ur J (63 + 1) (va_cpy (J (63 + 1)) (J (63 + 1)) v2.toNatClampNeg v4.toNatClampNeg v5.toNatClampNeg)), R)) rfl ?_
                                  have h := Option.some.inj h
                                  subst h
                                  exact az_E.ret (v := some (.int v5)) (σ' := (97, I, (az_ur J (63 + 1) (va_cpy (J (63 + 1)) (J (63 + 1)) v2.toNatClampNeg v4.toNatClampNeg v5.toNatClampNeg)), R)) rfl hQ
              · rw [if_neg hc_392] at h
                refine az_E.sn 1 (pc' := 20) (L' := [.ref 63, .int (I 63 1)]) (S' := [.int (0 : Int32)]) (σ' := (97, I, J, R)) rfl ?_
                refine az_E.ret (v := some (.int (0 : Int32))) (σ' := (97, I, J, R)) rfl ?_
                show az_E az_F ex 2 128 69 [.retAddr 0, .retAddr 0, .int v2, .retAddr 0, .int v4, .int v5, .ref 63, .ref 63] [.int (0 : Int32)] (97, I, J, R) _
                refine az_E.br (c := (0 : Int32) = 0) (tt := 72) (ff := 75) (L' := [.retAddr 0, .retAddr 0, .int v2, .retAddr 0, .int v4, .int v5, .ref 63, .ref 63]) (S' := []) (σ' := (97, I, J, R)) rfl (fun _ => ?_) (fun hn => absurd (by decide) hn)
                refine az_E.sn 1 (pc' := 74) (L' := [.retAddr 0, .retAddr 0, .int v2, .retAddr 0, .int v4, .int v5, .ref 63, .ref 63]) (S' := [.int (-12 : Int32)]) (σ' := (97, I, J, R)) rfl ?_
                have h := Option.some.inj h
                subst h
                exact az_E.ret (v := some (.int (-12 : Int32))) (σ' := (97, I, J, R)) rfl hQ
      · rw [if_neg hc_388] at h
        refine az_E.sn 1 (pc' := 21) (L' := [.ref 63]) (S' := [.int (0 : Int32)]) (σ' := (97, I, J, R)) rfl ?_
        refine az_E.ret (v := some (.int (0 : Int32))) (σ' := (97, I, J, R)) rfl ?_
        show az_E az_F ex 2 128 45 [.retAddr 0, .retAddr 0, .int v2, .retAddr 0, .int v4, .int v5, .ref 63, .ref 63] [.int (0 : Int32)] (97, I, J, R) _
        refine az_E.br (c := (0 : Int32) = 0) (tt := 51) (ff := 48) (L' := [.retAddr 0, .retAddr 0, .int v2, .retAddr 0, .int v4, .int v5, .ref 63, .ref 63]) (S' := []) (σ' := (97, I, J, R)) rfl (fun _ => ?_) (fun hn => absurd (by decide) hn)
        refine az_E.sn 1 (pc' := 53) (L' := [.retAddr 0, .retAddr 0, .int v2, .retAddr 0, .int v4, .int v5, .ref 63, .ref 63]) (S' := [.ref 63]) (σ' := (97, I, J, R)) rfl ?_
        refine az_E.call (d := 1) (k' := 55) (vs := [.ref 63]) (pc' := 56) (S' := []) rfl ?_ (fun _ _ hq => hq)
        show az_E az_F ex 1 55 0 [.ref 63] [] (97, I, J, R) _
        refine az_E.sn 3 (pc' := 5) (L' := [.ref 63]) (S' := [.int (-1 : Int32), .int (I 63 1)]) (σ' := (97, I, J, R)) rfl ?_
        refine az_E.br (c := (I 63 1) = (-1 : Int32)) (tt := 12) (ff := 8) (L' := [.ref 63]) (S' := []) (σ' := (97, I, J, R)) rfl (fun hc_402 => ?_) (fun hc_402 => ?_)
        · rw [if_pos hc_402] at h
          refine az_E.sn 1 (pc' := 13) (L' := [.ref 63]) (S' := [.int (0 : Int32)]) (σ' := (97, I, J, R)) rfl ?_
          refine az_E.ret (v := some (.int (0 : Int32))) (σ' := (97, I, J, R)) rfl ?_
          show az_E az_F ex 2 128 56 [.retAddr 0, .retAddr 0, .int v2, .retAddr 0, .int v4, .int v5, .ref 63, .ref 63] [.int (0 : Int32)] (97, I, J, R) _
          refine az_E.br (c := (0 : Int32) = 0) (tt := 72) (ff := 59) (L' := [.retAddr 0, .retAddr 0, .int v2, .retAddr 0, .int v4, .int v5, .ref 63, .ref 63]) (S' := []) (σ' := (97, I, J, R)) rfl (fun _ => ?_) (fun hn => absurd (by decide) hn)
          refine az_E.sn 1 (pc' := 74) (L' := [.retAddr 0, .retAddr 0, .int v2, .retAddr 0, .int v4, .int v5, .ref 63, .ref 63]) (S' := [.int (-12 : Int32)]) (σ' := (97, I, J, R)) rfl ?_
          have h := Option.some.inj h
          subst h
          exact az_E.ret (v := some (.int (-12 : Int32))) (σ' := (97, I, J, R)) rfl hQ
        · rw [if_neg hc_402] at h
          refine az_E.sn 2 (pc' := 13) (L' := [.ref 63]) (S' := [.int (1 : Int32)]) (σ' := (97, I, J, R)) rfl ?_
          refine az_E.ret (v := some (.int (1 : Int32))) (σ' := (97, I, J, R)) rfl ?_
          show az_E az_F ex 2 128 56 [.retAddr 0, .retAddr 0, .int v2, .retAddr 0, .int v4, .int v5, .ref 63, .ref 63] [.int (1 : Int32)] (97, I, J, R) _
          refine az_E.br (c := (1 : Int32) = 0) (tt := 72) (ff := 59) (L' := [.retAddr 0, .retAddr 0, .int v2, .retAddr 0, .int v4, .int v5, .ref 63, .ref 63]) (S' := []) (σ' := (97, I, J, R)) rfl (fun hn => absurd hn (by decide)) (fun _ => ?_)
          refine az_E.sn 3 (pc' := 66) (L' := [.retAddr 0, .retAddr 0, .int v2, .retAddr 0, .int v4, .int v5, .ref 63, .ref 63]) (S' := [.int (I 63 1), .ref 63]) (σ' := (97, I, J, R)) rfl ?_
          refine az_E.call (d := 1) (k' := 56) (vs := [.ref 63, .int (I 63 1)]) (pc' := 69) (S' := []) rfl ?_ (fun _ _ hq => hq)
          show az_E az_F ex 1 56 0 [.ref 63, .int (I 63 1)] [] (97, I, J, R) _
          refine az_E.sn 1 (pc' := 1) (L' := [.ref 63, .int (I 63 1)]) (S' := [.ref 63]) (σ' := (97, I, J, R)) rfl ?_
          refine az_E.call (d := 0) (k' := 55) (vs := [.ref 63]) (pc' := 4) (S' := []) rfl ?_ (fun _ _ hq => hq)
          show az_E az_F ex 0 55 0 [.ref 63] [] (97, I, J, R) _
          refine az_E.sn 3 (pc' := 5) (L' := [.ref 63]) (S' := [.int (-1 : Int32), .int (I 63 1)]) (σ' := (97, I, J, R)) rfl ?_
          refine az_E.br (c := (I 63 1) = (-1 : Int32)) (tt := 12) (ff := 8) (L' := [.ref 63]) (S' := []) (σ' := (97, I, J, R)) rfl (fun hc_403 => ?_) (fun hc_403 => ?_)
          · rw [if_pos hc_403] at h
            refine az_E.sn 1 (pc' := 13) (L' := [.ref 63]) (S' := [.int (0 : Int32)]) (σ' := (97, I, J, R)) rfl ?_
            refine az_E.ret (v := some (.int (0 : Int32))) (σ' := (97, I, J, R)) rfl ?_
            show az_E az_F ex 1 56 4 [.ref 63, .int (I 63 1)] [.int (0 : Int32)] (97, I, J, R) _
            refine az_E.br (c := (0 : Int32) = 0) (tt := 19) (ff := 7) (L' := [.ref 63, .int (I 63 1)]) (S' := []) (σ' := (97, I, J, R)) rfl (fun _ => ?_) (fun hn => absurd (by decide) hn)
            refine az_E.sn 1 (pc' := 20) (L' := [.ref 63, .int (I 63 1)]) (S' := [.int (0 : Int32)]) (σ' := (97, I, J, R)) rfl ?_
            refine az_E.ret (v := some (.int (0 : Int32))) (σ' := (97, I, J, R)) rfl ?_
            show az_E az_F ex 2 128 69 [.retAddr 0, .retAddr 0, .int v2, .retAddr 0, .int v4, .int v5, .ref 63, .ref 63] [.int (0 : Int32)] (97, I, J, R) _
            refine az_E.br (c := (0 : Int32) = 0) (tt := 72) (ff := 75) (L' := [.retAddr 0, .retAddr 0, .int v2, .retAddr 0, .int v4, .int v5, .ref 63, .ref 63]) (S' := []) (σ' := (97, I, J, R)) rfl (fun _ => ?_) (fun hn => absurd (by decide) hn)
            refine az_E.sn 1 (pc' := 74) (L' := [.retAddr 0, .retAddr 0, .int v2, .retAddr 0, .int v4, .int v5, .ref 63, .ref 63]) (S' := [.int (-12 : Int32)]) (σ' := (97, I, J, R)) rfl ?_
            have h := Option.some.inj h
            subst h
            exact az_E.ret (v := some (.int (-12 : Int32))) (σ' := (97, I, J, R)) rfl hQ
          · rw [if_neg hc_403] at h
            refine az_E.sn 2 (pc' := 13) (L' := [.ref 63]) (S' := [.int (1 : Int32)]) (σ' := (97, I, J, R)) rfl ?_
            refine az_E.ret (v := some (.int (1 : Int32))) (σ' := (97, I, J, R)) rfl ?_
            show az_E az_F ex 1 56 4 [.ref 63, .int (I 63 1)] [.int (1 : Int32)] (97, I, J, R) _
            refine az_E.br (c := (1 : Int32) = 0) (tt := 19) (ff := 7) (L' := [.ref 63, .int (I 63 1)]) (S' := []) (σ' := (97, I, J, R)) rfl (fun hn => absurd hn (by decide)) (fun _ => ?_)
            refine az_E.sn 3 (pc' := 12) (L' := [.ref 63, .int (I 63 1)]) (S' := [.int (I 63 1), .int (I 63 1)]) (σ' := (97, I, J, R)) rfl ?_
            refine az_E.br (c := (I 63 1) = (I 63 1)) (tt := 15) (ff := 19) (L' := [.ref 63, .int (I 63 1)]) (S' := []) (σ' := (97, I, J, R)) rfl (fun hc_404 => ?_) (fun hc_404 => ?_)
            · rw [if_pos hc_404] at h
              refine az_E.sn 2 (pc' := 20) (L' := [.ref 63, .int (I 63 1)]) (S' := [.int (1 : Int32)]) (σ' := (97, I, J, R)) rfl ?_
              refine az_E.ret (v := some (.int (1 : Int32))) (σ' := (97, I, J, R)) rfl ?_
              show az_E az_F ex 2 128 69 [.retAddr 0, .retAddr 0, .int v2, .retAddr 0, .int v4, .int v5, .ref 63, .ref 63] [.int (1 : Int32)] (97, I, J, R) _
              refine az_E.br (c := (1 : Int32) = 0) (tt := 72) (ff := 75) (L' := [.retAddr 0, .retAddr 0, .int v2, .retAddr 0, .int v4, .int v5, .ref 63, .ref 63]) (S' := []) (σ' := (97, I, J, R)) rfl (fun hn => absurd hn (by decide)) (fun _ => ?_)
              refine az_E.sn 3 (pc' := 80) (L' := [.retAddr 0, .retAddr 0, .int v2, .retAddr 0, .int v4, .int v5, .ref 63, .ref 63]) (S' := [.int v5, .int v2, .ref 63]) (σ' := (97, I, J, R)) rfl ?_
              refine az_E.call (d := 1) (k' := 60) (vs := [.ref 63, .int v2, .int v5]) (pc' := 83) (S' := []) rfl ?_ (fun _ _ hq => hq)
              show az_E az_F ex 1 60 0 [.ref 63, .int v2, .int v5] [] (97, I, J, R) _
              refine az_E.sn 1 (pc' := 1) (L' := [.ref 63, .int v2, .int v5]) (S' := [.int v2]) (σ' := (97, I, J, R)) rfl ?_
              refine az_E.br (c := v2 < 0) (tt := 30) (ff := 4) (L' := [.ref 63, .int v2, .int v5]) (S' := []) (σ' := (97, I, J, R)) rfl (fun hc_405 => ?_) (fun hc_405 => ?_)
              · rw [if_pos hc_405] at h
                refine az_E.sn 1 (pc' := 31) (L' := [.ref 63, .int v2, .int v5]) (S' := [.int (0 : Int32)]) (σ' := (97, I, J, R)) rfl ?_
                refine az_E.ret (v := some (.int (0 : Int32))) (σ' := (97, I, J, R)) rfl ?_
                show az_E az_F ex 2 128 83 [.retAddr 0, .retAddr 0, .int v2, .retAddr 0, .int v4, .int v5, .ref 63, .ref 63] [.int (0 : Int32)] (97, I, J, R) _
                refine az_E.br (c := (0 : Int32) = 0) (tt := 98) (ff := 86) (L' := [.retAddr 0, .retAddr 0, .int v2, .retAddr 0, .int v4, .int v5, .ref 63, .ref 63]) (S' := []) (σ' := (97, I, J, R)) rfl (fun _ => ?_) (fun hn => absurd (by decide) hn)
                refine az_E.sn 1 (pc' := 100) (L' := [.retAddr 0, .retAddr 0, .int v2, .retAddr 0, .int v4, .int v5, .ref 63, .ref 63]) (S' := [.int (-13 : Int32)]) (σ' := (97, I, J, R)) rfl ?_
                have h := Option.some.inj h
                subst h
                exact az_E.ret (v := some (.int (-13 : Int32))) (σ' := (97, I, J, R)) rfl hQ
              · rw [if_neg hc_405] at h
                refine az_E.sn 1 (pc' := 5) (L' := [.ref 63, .int v2, .int v5]) (S' := [.int v5]) (σ' := (97, I, J, R)) rfl ?_
                refine az_E.br (c := v5 < 0) (tt := 30) (ff := 8) (L' := [.ref 63, .int v2, .int v5]) (S' := []) (σ' := (97, I, J, R)) rfl (fun hc_406 => ?_) (fun hc_406 => ?_)
                · rw [if_pos hc_406] at h
                  refine az_E.sn 1 (pc' := 31) (L' := [.ref 63, .int v2, .int v5]) (S' := [.int (0 : Int32)]) (σ' := (97, I, J, R)) rfl ?_
                  refine az_E.ret (v := some (.int (0 : Int32))) (σ' := (97, I, J, R)) rfl ?_
                  show az_E az_F ex 2 128 83 [.retAddr 0, .retAddr 0, .int v2, .retAddr 0, .int v4, .int v5, .ref 63, .ref 63] [.int (0 : Int32)] (97, I, J, R) _
                  refine az_E.br (c := (0 : Int32) = 0) (tt := 98) (ff := 86) (L' := [.retAddr 0, .retAddr 0, .int v2, .retAddr 0, .int v4, .int v5, .ref 63, .ref 63]) (S' := []) (σ' := (97, I, J, R)) rfl (fun _ => ?_) (fun hn => absurd (by decide) hn)
                  refine az_E.sn 1 (pc' := 100) (L' := [.retAddr 0, .retAddr 0, .int v2, .retAddr 0, .int v4, .int v5, .ref 63, .ref 63]) (S' := [.int (-13 : Int32)]) (σ' := (97, I, J, R)) rfl ?_
                  have h := Option.some.inj h
                  subst h
                  exact az_E.ret (v := some (.int (-13 : Int32))) (σ' := (97, I, J, R)) rfl hQ
                · rw [if_neg hc_406] at h
                  refine az_E.sn 3 (pc' := 13) (L' := [.ref 63, .int v2, .int v5]) (S' := [.int (I 63 2), .int v2]) (σ' := (97, I, J, R)) rfl ?_
                  refine az_E.br (c := (I 63 2) < v2) (tt := 30) (ff := 16) (L' := [.ref 63, .int v2, .int v5]) (S' := []) (σ' := (97, I, J, R)) rfl (fun hc_407 => ?_) (fun hc_407 => ?_)
                  · rw [if_pos hc_407] at h
                    refine az_E.sn 1 (pc' := 31) (L' := [.ref 63, .int v2, .int v5]) (S' := [.int (0 : Int32)]) (σ' := (97, I, J, R)) rfl ?_
                    refine az_E.ret (v := some (.int (0 : Int32))) (σ' := (97, I, J, R)) rfl ?_
                    show az_E az_F ex 2 128 83 [.retAddr 0, .retAddr 0, .int v2, .retAddr 0, .int v4, .int v5, .ref 63, .ref 63] [.int (0 : Int32)] (97, I, J, R) _
                    refine az_E.br (c := (0 : Int32) = 0) (tt := 98) (ff := 86) (L' := [.retAddr 0, .retAddr 0, .int v2, .retAddr 0, .int v4, .int v5, .ref 63, .ref 63]) (S' := []) (σ' := (97, I, J, R)) rfl (fun _ => ?_) (fun hn => absurd (by decide) hn)
                    refine az_E.sn 1 (pc' := 100) (L' := [.retAddr 0, .retAddr 0, .int v2, .retAddr 0, .int v4, .int v5, .ref 63, .ref 63]) (S' := [.int (-13 : Int32)]) (σ' := (97, I, J, R)) rfl ?_
                    have h := Option.some.inj h
                    subst h
                    exact az_E.ret (v := some (.int (-13 : Int32))) (σ' := (97, I, J, R)) rfl hQ
                  · rw [if_neg hc_407] at h
                    refine az_E.sn 5 (pc' := 23) (L' := [.ref 63, .int v2, .int v5]) (S' := [.int ((I 63 2) - v2), .int v5]) (σ' := (97, I, J, R)) rfl ?_
                    refine az_E.br (c := ((I 63 2) - v2) < v5) (tt := 30) (ff := 26) (L' := [.ref 63, .int v2, .int v5]) (S' := []) (σ' := (97, I, J, R)) rfl (fun hc_408 => ?_) (fun hc_408 => ?_)
                    · rw [if_pos hc_408] at h
                      refine az_E.sn 1 (pc' := 31) (L' := [.ref 63, .int v2, .int v5]) (S' := [.int (0 : Int32)]) (σ' := (97, I, J, R)) rfl ?_
                      refine az_E.ret (v := some (.int (0 : Int32))) (σ' := (97, I, J, R)) rfl ?_
                      show az_E az_F ex 2 128 83 [.retAddr 0, .retAddr 0, .int v2, .retAddr 0, .int v4, .int v5, .ref 63, .ref 63] [.int (0 : Int32)] (97, I, J, R) _
                      refine az_E.br (c := (0 : Int32) = 0) (tt := 98) (ff := 86) (L' := [.retAddr 0, .retAddr 0, .int v2, .retAddr 0, .int v4, .int v5, .ref 63, .ref 63]) (S' := []) (σ' := (97, I, J, R)) rfl (fun _ => ?_) (fun hn => absurd (by decide) hn)
                      refine az_E.sn 1 (pc' := 100) (L' := [.retAddr 0, .retAddr 0, .int v2, .retAddr 0, .int v4, .int v5, .ref 63, .ref 63]) (S' := [.int (-13 : Int32)]) (σ' := (97, I, J, R)) rfl ?_
                      have h := Option.some.inj h
                      subst h
                      exact az_E.ret (v := some (.int (-13 : Int32))) (σ' := (97, I, J, R)) rfl hQ
                    · rw [if_neg hc_408] at h
                      refine az_E.sn 2 (pc' := 31) (L' := [.ref 63, .int v2, .int v5]) (S' := [.int (1 : Int32)]) (σ' := (97, I, J, R)) rfl ?_
                      refine az_E.ret (v := some (.int (1 : Int32))) (σ' := (97, I, J, R)) rfl ?_
                      show az_E az_F ex 2 128 83 [.retAddr 0, .retAddr 0, .int v2, .retAddr 0, .int v4, .int v5, .ref 63, .ref 63] [.int (1 : Int32)] (97, I, J, R) _
                      refine az_E.br (c := (1 : Int32) = 0) (tt := 98) (ff := 86) (L' := [.retAddr 0, .retAddr 0, .int v2, .retAddr 0, .int v4, .int v5, .ref 63, .ref 63]) (S' := []) (σ' := (97, I, J, R)) rfl (fun hn => absurd hn (by decide)) (fun _ => ?_)
                      refine az_E.sn 3 (pc' := 92) (L' := [.retAddr 0, .retAddr 0, .int v2, .retAddr 0, .int v4, .int v5, .ref 63, .ref 63]) (S' := [.int v5, .int v4, .ref 63]) (σ' := (97, I, J, R)) rfl ?_
                      refine az_E.call (d := 1) (k' := 60) (vs := [.ref 63, .int v4, .int v5]) (pc' := 95) (S' := []) rfl ?_ (fun _ _ hq => hq)
                      show az_E az_F ex 1 60 0 [.ref 63, .int v4, .int v5] [] (97, I, J, R) _
                      refine az_E.sn 1 (pc' := 1) (L' := [.ref 63, .int v4, .int v5]) (S' := [.int v4]) (σ' := (97, I, J, R)) rfl ?_
                      refine az_E.br (c := v4 < 0) (tt := 30) (ff := 4) (L' := [.ref 63, .int v4, .int v5]) (S' := []) (σ' := (97, I, J, R)) rfl (fun hc_409 => ?_) (fun hc_409 => ?_)
                      · rw [if_pos hc_409] at h
                        refine az_E.sn 1 (pc' := 31) (L' := [.ref 63, .int v4, .int v5]) (S' := [.int (0 : Int32)]) (σ' := (97, I, J, R)) rfl ?_
                        refine az_E.ret (v := some (.int (0 : Int32))) (σ' := (97, I, J, R)) rfl ?_
                        show az_E az_F ex 2 128 95 [.retAddr 0, .retAddr 0, .int v2, .retAddr 0, .int v4, .int v5, .ref 63, .ref 63] [.int (0 : Int32)] (97, I, J, R) _
                        refine az_E.br (c := (0 : Int32) = 0) (tt := 98) (ff := 101) (L' := [.retAddr 0, .retAddr 0, .int v2, .retAddr 0, .int v4, .int v5, .ref 63, .ref 63]) (S' := []) (σ' := (97, I, J, R)) rfl (fun _ => ?_) (fun hn => absurd (by decide) hn)
                        refine az_E.sn 1 (pc' := 100) (L' := [.retAddr 0, .retAddr 0, .int v2, .retAddr 0, .int v4, .int v5, .ref 63, .ref 63]) (S' := [.int (-13 : Int32)]) (σ' := (97, I, J, R)) rfl ?_
                        have h := Option.some.inj h
                        subst h
                        exact az_E.ret (v := some (.int (-13 : Int32))) (σ' := (97, I, J, R)) rfl hQ
                      · rw [if_neg hc_409] at h
                        refine az_E.sn 1 (pc' := 5) (L' := [.ref 63, .int v4, .int v5]) (S' := [.int v5]) (σ' := (97, I, J, R)) rfl ?_
                        refine az_E.br (c := v5 < 0) (tt := 30) (ff := 8) (L' := [.ref 63, .int v4, .int v5]) (S' := []) (σ' := (97, I, J, R)) rfl (fun hc_410 => ?_) (fun hc_410 => ?_)
                        · rw [if_pos hc_410] at h
                          refine az_E.sn 1 (pc' := 31) (L' := [.ref 63, .int v4, .int v5]) (S' := [.int (0 : Int32)]) (σ' := (97, I, J, R)) rfl ?_
                          refine az_E.ret (v := some (.int (0 : Int32))) (σ' := (97, I, J, R)) rfl ?_
                          show az_E az_F ex 2 128 95 [.retAddr 0, .retAddr 0, .int v2, .retAddr 0, .int v4, .int v5, .ref 63, .ref 63] [.int (0 : Int32)] (97, I, J, R) _
                          refine az_E.br (c := (0 : Int32) = 0) (tt := 98) (ff := 101) (L' := [.retAddr 0, .retAddr 0, .int v2, .retAddr 0, .int v4, .int v5, .ref 63, .ref 63]) (S' := []) (σ' := (97, I, J, R)) rfl (fun _ => ?_) (fun hn => absurd (by decide) hn)
                          refine az_E.sn 1 (pc' := 100) (L' := [.retAddr 0, .retAddr 0, .int v2, .retAddr 0, .int v4, .int v5, .ref 63, .ref 63]) (S' := [.int (-13 : Int32)]) (σ' := (97, I, J, R)) rfl ?_
                          have h := Option.some.inj h
                          subst h
                          exact az_E.ret (v := some (.int (-13 : Int32))) (σ' := (97, I, J, R)) rfl hQ
                        · rw [if_neg hc_410] at h
                          refine az_E.sn 3 (pc' := 13) (L' := [.ref 63, .int v4, .int v5]) (S' := [.int (I 63 2), .int v4]) (σ' := (97, I, J, R)) rfl ?_
                          refine az_E.br (c := (I 63 2) < v4) (tt := 30) (ff := 16) (L' := [.ref 63, .int v4, .int v5]) (S' := []) (σ' := (97, I, J, R)) rfl (fun hc_411 => ?_) (fun hc_411 => ?_)
                          · rw [if_pos hc_411] at h
                            refine az_E.sn 1 (pc' := 31) (L' := [.ref 63, .int v4, .int v5]) (S' := [.int (0 : Int32)]) (σ' := (97, I, J, R)) rfl ?_
                            refine az_E.ret (v := some (.int (0 : Int32))) (σ' := (97, I, J, R)) rfl ?_
                            show az_E az_F ex 2 128 95 [.retAddr 0, .retAddr 0, .int v2, .retAddr 0, .int v4, .int v5, .ref 63, .ref 63] [.int (0 : Int32)] (97, I, J, R) _
                            refine az_E.br (c := (0 : Int32) = 0) (tt := 98) (ff := 101) (L' := [.retAddr 0, .retAddr 0, .int v2, .retAddr 0, .int v4, .int v5, .ref 63, .ref 63]) (S' := []) (σ' := (97, I, J, R)) rfl (fun _ => ?_) (fun hn => absurd (by decide) hn)
                            refine az_E.sn 1 (pc' := 100) (L' := [.retAddr 0, .retAddr 0, .int v2, .retAddr 0, .int v4, .int v5, .ref 63, .ref 63]) (S' := [.int (-13 : Int32)]) (σ' := (97, I, J, R)) rfl ?_
                            have h := Option.some.inj h
                            subst h
                            exact az_E.ret (v := some (.int (-13 : Int32))) (σ' := (97, I, J, R)) rfl hQ
                          · rw [if_neg hc_411] at h
                            refine az_E.sn 5 (pc' := 23) (L' := [.ref 63, .int v4, .int v5]) (S' := [.int ((I 63 2) - v4), .int v5]) (σ' := (97, I, J, R)) rfl ?_
                            refine az_E.br (c := ((I 63 2) - v4) < v5) (tt := 30) (ff := 26) (L' := [.ref 63, .int v4, .int v5]) (S' := []) (σ' := (97, I, J, R)) rfl (fun hc_412 => ?_) (fun hc_412 => ?_)
                            · rw [if_pos hc_412] at h
                              refine az_E.sn 1 (pc' := 31) (L' := [.ref 63, .int v4, .int v5]) (S' := [.int (0 : Int32)]) (σ' := (97, I, J, R)) rfl ?_
                              refine az_E.ret (v := some (.int (0 : Int32))) (σ' := (97, I, J, R)) rfl ?_
                              show az_E az_F ex 2 128 95 [.retAddr 0, .retAddr 0, .int v2, .retAddr 0, .int v4, .int v5, .ref 63, .ref 63] [.int (0 : Int32)] (97, I, J, R) _
                              refine az_E.br (c := (0 : Int32) = 0) (tt := 98) (ff := 101) (L' := [.retAddr 0, .retAddr 0, .int v2, .retAddr 0, .int v4, .int v5, .ref 63, .ref 63]) (S' := []) (σ' := (97, I, J, R)) rfl (fun _ => ?_) (fun hn => absurd (by decide) hn)
                              refine az_E.sn 1 (pc' := 100) (L' := [.retAddr 0, .retAddr 0, .int v2, .retAddr 0, .int v4, .int v5, .ref 63, .ref 63]) (S' := [.int (-13 : Int32)]) (σ' := (97, I, J, R)) rfl ?_
                              have h := Option.some.inj h
                              subst h
                              exact az_E.ret (v := some (.int (-13 : Int32))) (σ' := (97, I, J, R)) rfl hQ
                            · rw [if_neg hc_412] at h
                              refine az_E.sn 2 (pc' := 31) (L' := [.ref 63, .int v4, .int v5]) (S' := [.int (1 : Int32)]) (σ' := (97, I, J, R)) rfl ?_
                              refine az_E.ret (v := some (.int (1 : Int32))) (σ' := (97, I, J, R)) rfl ?_
                              show az_E az_F ex 2 128 95 [.retAddr 0, .retAddr 0, .int v2, .retAddr 0, .int v4, .int v5, .ref 63, .ref 63] [.int (1 : Int32)] (97, I, J, R) _
                              refine az_E.br (c := (1 : Int32) = 0) (tt := 98) (ff := 101) (L' := [.retAddr 0, .retAddr 0, .int v2, .retAddr 0, .int v4, .int v5, .ref 63, .ref 63]) (S' := []) (σ' := (97, I, J, R)) rfl (fun hn => absurd hn (by decide)) (fun _ => ?_)
                              refine az_E.sn 7 (pc' := 116) (L' := [.retAddr 0, .retAddr 0, .int v2, .retAddr 0, .int v4, .int v5, .ref 63, .ref 63]) (S' := [.int v5, .int v4, .ref (63 + 1), .int v2, .ref (63 + 1)]) (σ' := (97, I, J, R)) rfl ?_
                              by_cases hc_413 : v2 < 0 ∨ v4 < 0 ∨ v5 < 0 ∨ 60 < v2.toNatClampNeg + v5.toNatClampNeg ∨ 60 < v4.toNatClampNeg + v5.toNatClampNeg
                              · rw [if_pos hc_413] at h; cases h
                              · rw [if_neg hc_413] at h
                                refine az_E.o (o := az_cp az_F (97, I, J, R) (63 + 1) v2 (63 + 1) v4 v5) (pc' := 119) (L' := [.retAddr 0, .retAddr 0, .int v2, .retAddr 0, .int v4, .int v5, .ref 63, .ref 63]) (S' := []) (x := (97, I, (az_ur J (63 + 1) (va_cpy (J (63 + 1)) (J (63 + 1)) v2.toNatClampNeg v4.toNatClampNeg v5.toNatClampNeg)), R)) rfl (if_neg hc_413) ?_
                                refine az_E.sn 1 (pc' := 121) (L' := [.retAddr 0, .retAddr 0, .int v2, .retAddr 0, .int v4, .int v5, .ref 63, .ref 63]) (S' := [.int v5]) (σ' := (97, I, (az_ur J (63 + 1) (va_cpy (J (63 + 1)) (J (63 + 1)) v2.toNatClampNeg v4.toNatClampNeg v5.toNatClampNeg)), R)) rfl ?_
                                have h := Option.some.inj h
                                subst h
                                exact az_E.ret (v := some (.int v5)) (σ' := (97, I, (az_ur J (63 + 1) (va_cpy (J (63 + 1)) (J (63 + 1)) v2.toNatClampNeg v4.toNatClampNeg v5.toNatClampNeg)), R)) rfl hQ
            · rw [if_neg hc_404] at h
              refine az_E.sn 1 (pc' := 20) (L' := [.ref 63, .int (I 63 1)]) (S' := [.int (0 : Int32)]) (σ' := (97, I, J, R)) rfl ?_
              refine az_E.ret (v := some (.int (0 : Int32))) (σ' := (97, I, J, R)) rfl ?_
              show az_E az_F ex 2 128 69 [.retAddr 0, .retAddr 0, .int v2, .retAddr 0, .int v4, .int v5, .ref 63, .ref 63] [.int (0 : Int32)] (97, I, J, R) _
              refine az_E.br (c := (0 : Int32) = 0) (tt := 72) (ff := 75) (L' := [.retAddr 0, .retAddr 0, .int v2, .retAddr 0, .int v4, .int v5, .ref 63, .ref 63]) (S' := []) (σ' := (97, I, J, R)) rfl (fun _ => ?_) (fun hn => absurd (by decide) hn)
              refine az_E.sn 1 (pc' := 74) (L' := [.retAddr 0, .retAddr 0, .int v2, .retAddr 0, .int v4, .int v5, .ref 63, .ref 63]) (S' := [.int (-12 : Int32)]) (σ' := (97, I, J, R)) rfl ?_
              have h := Option.some.inj h
              subst h
              exact az_E.ret (v := some (.int (-12 : Int32))) (σ' := (97, I, J, R)) rfl hQ
  · rw [if_neg hc_386] at h
    refine az_E.sn 1 (pc' := 21) (L' := [.ref 63]) (S' := [.int (0 : Int32)]) (σ' := (97, I, J, R)) rfl ?_
    refine az_E.ret (v := some (.int (0 : Int32))) (σ' := (97, I, J, R)) rfl ?_
    show az_E az_F ex 2 128 37 [.retAddr 0, .retAddr 0, .int v2, .retAddr 0, .int v4, .int v5, .ref 63, .ref 63] [.int (0 : Int32)] (97, I, J, R) _
    refine az_E.br (c := (0 : Int32) = 0) (tt := 40) (ff := 48) (L' := [.retAddr 0, .retAddr 0, .int v2, .retAddr 0, .int v4, .int v5, .ref 63, .ref 63]) (S' := []) (σ' := (97, I, J, R)) rfl (fun _ => ?_) (fun hn => absurd (by decide) hn)
    refine az_E.sn 1 (pc' := 42) (L' := [.retAddr 0, .retAddr 0, .int v2, .retAddr 0, .int v4, .int v5, .ref 63, .ref 63]) (S' := [.ref 63]) (σ' := (97, I, J, R)) rfl ?_
    refine az_E.call (d := 1) (k' := 54) (vs := [.ref 63]) (pc' := 45) (S' := []) rfl ?_ (fun _ _ hq => hq)
    show az_E az_F ex 1 54 0 [.ref 63] [] (97, I, J, R) _
    refine az_E.sn 3 (pc' := 5) (L' := [.ref 63]) (S' := [.int (-1 : Int32), .int (I 63 0)]) (σ' := (97, I, J, R)) rfl ?_
    refine az_E.br (c := (I 63 0) = (-1 : Int32)) (tt := 8) (ff := 20) (L' := [.ref 63]) (S' := []) (σ' := (97, I, J, R)) rfl (fun hc_414 => ?_) (fun hc_414 => ?_)
    · rw [if_pos hc_414] at h
      refine az_E.sn 3 (pc' := 13) (L' := [.ref 63]) (S' := [.int (-1 : Int32), .int (I 63 1)]) (σ' := (97, I, J, R)) rfl ?_
      refine az_E.br (c := (I 63 1) = (-1 : Int32)) (tt := 16) (ff := 20) (L' := [.ref 63]) (S' := []) (σ' := (97, I, J, R)) rfl (fun hc_415 => ?_) (fun hc_415 => ?_)
      · rw [if_pos hc_415] at h
        refine az_E.sn 2 (pc' := 21) (L' := [.ref 63]) (S' := [.int (1 : Int32)]) (σ' := (97, I, J, R)) rfl ?_
        refine az_E.ret (v := some (.int (1 : Int32))) (σ' := (97, I, J, R)) rfl ?_
        show az_E az_F ex 2 128 45 [.retAddr 0, .retAddr 0, .int v2, .retAddr 0, .int v4, .int v5, .ref 63, .ref 63] [.int (1 : Int32)] (97, I, J, R) _
        refine az_E.br (c := (1 : Int32) = 0) (tt := 51) (ff := 48) (L' := [.retAddr 0, .retAddr 0, .int v2, .retAddr 0, .int v4, .int v5, .ref 63, .ref 63]) (S' := []) (σ' := (97, I, J, R)) rfl (fun hn => absurd hn (by decide)) (fun _ => ?_)
        refine az_E.sn 1 (pc' := 50) (L' := [.retAddr 0, .retAddr 0, .int v2, .retAddr 0, .int v4, .int v5, .ref 63, .ref 63]) (S' := [.int (-11 : Int32)]) (σ' := (97, I, J, R)) rfl ?_
        have h := Option.some.inj h
        subst h
        exact az_E.ret (v := some (.int (-11 : Int32))) (σ' := (97, I, J, R)) rfl hQ
      · rw [if_neg hc_415] at h
        refine az_E.sn 1 (pc' := 21) (L' := [.ref 63]) (S' := [.int (0 : Int32)]) (σ' := (97, I, J, R)) rfl ?_
        refine az_E.ret (v := some (.int (0 : Int32))) (σ' := (97, I, J, R)) rfl ?_
        show az_E az_F ex 2 128 45 [.retAddr 0, .retAddr 0, .int v2, .retAddr 0, .int v4, .int v5, .ref 63, .ref 63] [.int (0 : Int32)] (97, I, J, R) _
        refine az_E.br (c := (0 : Int32) = 0) (tt := 51) (ff := 48) (L' := [.retAddr 0, .retAddr 0, .int v2, .retAddr 0, .int v4, .int v5, .ref 63, .ref 63]) (S' := []) (σ' := (97, I, J, R)) rfl (fun _ => ?_) (fun hn => absurd (by decide) hn)
        refine az_E.sn 1 (pc' := 53) (L' := [.retAddr 0, .retAddr 0, .int v2, .retAddr 0, .int v4, .int v5, .ref 63, .ref 63]) (S' := [.ref 63]) (σ' := (97, I, J, R)) rfl ?_
        refine az_E.call (d := 1) (k' := 55) (vs := [.ref 63]) (pc' := 56) (S' := []) rfl ?_ (fun _ _ hq => hq)
        show az_E az_F ex 1 55 0 [.ref 63] [] (97, I, J, R) _
        refine az_E.sn 3 (pc' := 5) (L' := [.ref 63]) (S' := [.int (-1 : Int32), .int (I 63 1)]) (σ' := (97, I, J, R)) rfl ?_
        refine az_E.br (c := (I 63 1) = (-1 : Int32)) (tt := 12) (ff := 8) (L' := [.ref 63]) (S' := []) (σ' := (97, I, J, R)) rfl (fun hc_416 => ?_) (fun hc_416 => ?_)
        · rw [if_pos hc_416] at h
          refine az_E.sn 1 (pc' := 13) (L' := [.ref 63]) (S' := [.int (0 : Int32)]) (σ' := (97, I, J, R)) rfl ?_
          refine az_E.ret (v := some (.int (0 : Int32))) (σ' := (97, I, J, R)) rfl ?_
          show az_E az_F ex 2 128 56 [.retAddr 0, .retAddr 0, .int v2, .retAddr 0, .int v4, .int v5, .ref 63, .ref 63] [.int (0 : Int32)] (97, I, J, R) _
          refine az_E.br (c := (0 : Int32) = 0) (tt := 72) (ff := 59) (L' := [.retAddr 0, .retAddr 0, .int v2, .retAddr 0, .int v4, .int v5, .ref 63, .ref 63]) (S' := []) (σ' := (97, I, J, R)) rfl (fun _ => ?_) (fun hn => absurd (by decide) hn)
          refine az_E.sn 1 (pc' := 74) (L' := [.retAddr 0, .retAddr 0, .int v2, .retAddr 0, .int v4, .int v5, .ref 63, .ref 63]) (S' := [.int (-12 : Int32)]) (σ' := (97, I, J, R)) rfl ?_
          have h := Option.some.inj h
          subst h
          exact az_E.ret (v := some (.int (-12 : Int32))) (σ' := (97, I, J, R)) rfl hQ
        · rw [if_neg hc_416] at h
          refine az_E.sn 2 (pc' := 13) (L' := [.ref 63]) (S' := [.int (1 : Int32)]) (σ' := (97, I, J, R)) rfl ?_
          refine az_E.ret (v := some (.int (1 : Int32))) (σ' := (97, I, J, R)) rfl ?_
          show az_E az_F ex 2 128 56 [.retAddr 0, .retAddr 0, .int v2, .retAddr 0, .int v4, .int v5, .ref 63, .ref 63] [.int (1 : Int32)] (97, I, J, R) _
          refine az_E.br (c := (1 : Int32) = 0) (tt := 72) (ff := 59) (L' := [.retAddr 0, .retAddr 0, .int v2, .retAddr 0, .int v4, .int v5, .ref 63, .ref 63]) (S' := []) (σ' := (97, I, J, R)) rfl (fun hn => absurd hn (by decide)) (fun _ => ?_)
          refine az_E.sn 3 (pc' := 66) (L' := [.retAddr 0, .retAddr 0, .int v2, .retAddr 0, .int v4, .int v5, .ref 63, .ref 63]) (S' := [.int (I 63 1), .ref 63]) (σ' := (97, I, J, R)) rfl ?_
          refine az_E.call (d := 1) (k' := 56) (vs := [.ref 63, .int (I 63 1)]) (pc' := 69) (S' := []) rfl ?_ (fun _ _ hq => hq)
          show az_E az_F ex 1 56 0 [.ref 63, .int (I 63 1)] [] (97, I, J, R) _
          refine az_E.sn 1 (pc' := 1) (L' := [.ref 63, .int (I 63 1)]) (S' := [.ref 63]) (σ' := (97, I, J, R)) rfl ?_
          refine az_E.call (d := 0) (k' := 55) (vs := [.ref 63]) (pc' := 4) (S' := []) rfl ?_ (fun _ _ hq => hq)
          show az_E az_F ex 0 55 0 [.ref 63] [] (97, I, J, R) _
          refine az_E.sn 3 (pc' := 5) (L' := [.ref 63]) (S' := [.int (-1 : Int32), .int (I 63 1)]) (σ' := (97, I, J, R)) rfl ?_
          refine az_E.br (c := (I 63 1) = (-1 : Int32)) (tt := 12) (ff := 8) (L' := [.ref 63]) (S' := []) (σ' := (97, I, J, R)) rfl (fun hc_417 => ?_) (fun hc_417 => ?_)
          · rw [if_pos hc_417] at h
            refine az_E.sn 1 (pc' := 13) (L' := [.ref 63]) (S' := [.int (0 : Int32)]) (σ' := (97, I, J, R)) rfl ?_
            refine az_E.ret (v := some (.int (0 : Int32))) (σ' := (97, I, J, R)) rfl ?_
            show az_E az_F ex 1 56 4 [.ref 63, .int (I 63 1)] [.int (0 : Int32)] (97, I, J, R) _
            refine az_E.br (c := (0 : Int32) = 0) (tt := 19) (ff := 7) (L' := [.ref 63, .int (I 63 1)]) (S' := []) (σ' := (97, I, J, R)) rfl (fun _ => ?_) (fun hn => absurd (by decide) hn)
            refine az_E.sn 1 (pc' := 20) (L' := [.ref 63, .int (I 63 1)]) (S' := [.int (0 : Int32)]) (σ' := (97, I, J, R)) rfl ?_
            refine az_E.ret (v := some (.int (0 : Int32))) (σ' := (97, I, J, R)) rfl ?_
            show az_E az_F ex 2 128 69 [.retAddr 0, .retAddr 0, .int v2, .retAddr 0, .int v4, .int v5, .ref 63, .ref 63] [.int (0 : Int32)] (97, I, J, R) _
            refine az_E.br (c := (0 : Int32) = 0) (tt := 72) (ff := 75) (L' := [.retAddr 0, .retAddr 0, .int v2, .retAddr 0, .int v4, .int v5, .ref 63, .ref 63]) (S' := []) (σ' := (97, I, J, R)) rfl (fun _ => ?_) (fun hn => absurd (by decide) hn)
            refine az_E.sn 1 (pc' := 74) (L' := [.retAddr 0, .retAddr 0, .int v2, .retAddr 0, .int v4, .int v5, .ref 63, .ref 63]) (S' := [.int (-12 : Int32)]) (σ' := (97, I, J, R)) rfl ?_
            have h := Option.some.inj h
            subst h
            exact az_E.ret (v := some (.int (-12 : Int32))) (σ' := (97, I, J, R)) rfl hQ
          · rw [if_neg hc_417] at h
            refine az_E.sn 2 (pc' := 13) (L' := [.ref 63]) (S' := [.int (1 : Int32)]) (σ' := (97, I, J, R)) rfl ?_
            refine az_E.ret (v := some (.int (1 : Int32))) (σ' := (97, I, J, R)) rfl ?_
            show az_E az_F ex 1 56 4 [.ref 63, .int (I 63 1)] [.int (1 : Int32)] (97, I, J, R) _
            refine az_E.br (c := (1 : Int32) = 0) (tt := 19) (ff := 7) (L' := [.ref 63, .int (I 63 1)]) (S' := []) (σ' := (97, I, J, R)) rfl (fun hn => absurd hn (by decide)) (fun _ => ?_)
            refine az_E.sn 3 (pc' := 12) (L' := [.ref 63, .int (I 63 1)]) (S' := [.int (I 63 1), .int (I 63 1)]) (σ' := (97, I, J, R)) rfl ?_
            refine az_E.br (c := (I 63 1) = (I 63 1)) (tt := 15) (ff := 19) (L' := [.ref 63, .int (I 63 1)]) (S' := []) (σ' := (97, I, J, R)) rfl (fun hc_418 => ?_) (fun hc_418 => ?_)
            · rw [if_pos hc_418] at h
              refine az_E.sn 2 (pc' := 20) (L' := [.ref 63, .int (I 63 1)]) (S' := [.int (1 : Int32)]) (σ' := (97, I, J, R)) rfl ?_
              refine az_E.ret (v := some (.int (1 : Int32))) (σ' := (97, I, J, R)) rfl ?_
              show az_E az_F ex 2 128 69 [.retAddr 0, .retAddr 0, .int v2, .retAddr 0, .int v4, .int v5, .ref 63, .ref 63] [.int (1 : Int32)] (97, I, J, R) _
              refine az_E.br (c := (1 : Int32) = 0) (tt := 72) (ff := 75) (L' := [.retAddr 0, .retAddr 0, .int v2, .retAddr 0, .int v4, .int v5, .ref 63, .ref 63]) (S' := []) (σ' := (97, I, J, R)) rfl (fun hn => absurd hn (by decide)) (fun _ => ?_)
              refine az_E.sn 3 (pc' := 80) (L' := [.retAddr 0, .retAddr 0, .int v2, .retAddr 0, .int v4, .int v5, .ref 63, .ref 63]) (S' := [.int v5, .int v2, .ref 63]) (σ' := (97, I, J, R)) rfl ?_
              refine az_E.call (d := 1) (k' := 60) (vs := [.ref 63, .int v2, .int v5]) (pc' := 83) (S' := []) rfl ?_ (fun _ _ hq => hq)
              show az_E az_F ex 1 60 0 [.ref 63, .int v2, .int v5] [] (97, I, J, R) _
              refine az_E.sn 1 (pc' := 1) (L' := [.ref 63, .int v2, .int v5]) (S' := [.int v2]) (σ' := (97, I, J, R)) rfl ?_
              refine az_E.br (c := v2 < 0) (tt := 30) (ff := 4) (L' := [.ref 63, .int v2, .int v5]) (S' := []) (σ' := (97, I, J, R)) rfl (fun hc_419 => ?_) (fun hc_419 => ?_)
              · rw [if_pos hc_419] at h
                refine az_E.sn 1 (pc' := 31) (L' := [.ref 63, .int v2, .int v5]) (S' := [.int (0 : Int32)]) (σ' := (97, I, J, R)) rfl ?_
                refine az_E.ret (v := some (.int (0 : Int32))) (σ' := (97, I, J, R)) rfl ?_
                show az_E az_F ex 2 128 83 [.retAddr 0, .retAddr 0, .int v2, .retAddr 0, .int v4, .int v5, .ref 63, .ref 63] [.int (0 : Int32)] (97, I, J, R) _
                refine az_E.br (c := (0 : Int32) = 0) (tt := 98) (ff := 86) (L' := [.retAddr 0, .retAddr 0, .int v2, .retAddr 0, .int v4, .int v5, .ref 63, .ref 63]) (S' := []) (σ' := (97, I, J, R)) rfl (fun _ => ?_) (fun hn => absurd (by decide) hn)
                refine az_E.sn 1 (pc' := 100) (L' := [.retAddr 0, .retAddr 0, .int v2, .retAddr 0, .int v4, .int v5, .ref 63, .ref 63]) (S' := [.int (-13 : Int32)]) (σ' := (97, I, J, R)) rfl ?_
                have h := Option.some.inj h
                subst h
                exact az_E.ret (v := some (.int (-13 : Int32))) (σ' := (97, I, J, R)) rfl hQ
              · rw [if_neg hc_419] at h
                refine az_E.sn 1 (pc' := 5) (L' := [.ref 63, .int v2, .int v5]) (S' := [.int v5]) (σ' := (97, I, J, R)) rfl ?_
                refine az_E.br (c := v5 < 0) (tt := 30) (ff := 8) (L' := [.ref 63, .int v2, .int v5]) (S' := []) (σ' := (97, I, J, R)) rfl (fun hc_420 => ?_) (fun hc_420 => ?_)
                · rw [if_pos hc_420] at h
                  refine az_E.sn 1 (pc' := 31) (L' := [.ref 63, .int v2, .int v5]) (S' := [.int (0 : Int32)]) (σ' := (97, I, J, R)) rfl ?_
                  refine az_E.ret (v := some (.int (0 : Int32))) (σ' := (97, I, J, R)) rfl ?_
                  show az_E az_F ex 2 128 83 [.retAddr 0, .retAddr 0, .int v2, .retAddr 0, .int v4, .int v5, .ref 63, .ref 63] [.int (0 : Int32)] (97, I, J, R) _
                  refine az_E.br (c := (0 : Int32) = 0) (tt := 98) (ff := 86) (L' := [.retAddr 0, .retAddr 0, .int v2, .retAddr 0, .int v4, .int v5, .ref 63, .ref 63]) (S' := []) (σ' := (97, I, J, R)) rfl (fun _ => ?_) (fun hn => absurd (by decide) hn)
                  refine az_E.sn 1 (pc' := 100) (L' := [.retAddr 0, .retAddr 0, .int v2, .retAddr 0, .int v4, .int v5, .ref 63, .ref 63]) (S' := [.int (-13 : Int32)]) (σ' := (97, I, J, R)) rfl ?_
                  have h := Option.some.inj h
                  subst h
                  exact az_E.ret (v := some (.int (-13 : Int32))) (σ' := (97, I, J, R)) rfl hQ
                · rw [if_neg hc_420] at h
                  refine az_E.sn 3 (pc' := 13) (L' := [.ref 63, .int v2, .int v5]) (S' := [.int (I 63 2), .int v2]) (σ' := (97, I, J, R)) rfl ?_
                  refine az_E.br (c := (I 63 2) < v2) (tt := 30) (ff := 16) (L' := [.ref 63, .int v2, .int v5]) (S' := []) (σ' := (97, I, J, R)) rfl (fun hc_421 => ?_) (fun hc_421 => ?_)
                  · rw [if_pos hc_421] at h
                    refine az_E.sn 1 (pc' := 31) (L' := [.ref 63, .int v2, .int v5]) (S' := [.int (0 : Int32)]) (σ' := (97, I, J, R)) rfl ?_
                    refine az_E.ret (v := some (.int (0 : Int32))) (σ' := (97, I, J, R)) rfl ?_
                    show az_E az_F ex 2 128 83 [.retAddr 0, .retAddr 0, .int v2, .retAddr 0, .int v4, .int v5, .ref 63, .ref 63] [.int (0 : Int32)] (97, I, J, R) _
                    refine az_E.br (c := (0 : Int32) = 0) (tt := 98) (ff := 86) (L' := [.retAddr 0, .retAddr 0, .int v2, .retAddr 0, .int v4, .int v5, .ref 63, .ref 63]) (S' := []) (σ' := (97, I, J, R)) rfl (fun _ => ?_) (fun hn => absurd (by decide) hn)
                    refine az_E.sn 1 (pc' := 100) (L' := [.retAddr 0, .retAddr 0, .int v2, .retAddr 0, .int v4, .int v5, .ref 63, .ref 63]) (S' := [.int (-13 : Int32)]) (σ' := (97, I, J, R)) rfl ?_
                    have h := Option.some.inj h
                    subst h
                    exact az_E.ret (v := some (.int (-13 : Int32))) (σ' := (97, I, J, R)) rfl hQ
                  · rw [if_neg hc_421] at h
                    refine az_E.sn 5 (pc' := 23) (L' := [.ref 63, .int v2, .int v5]) (S' := [.int ((I 63 2) - v2), .int v5]) (σ' := (97, I, J, R)) rfl ?_
                    refine az_E.br (c := ((I 63 2) - v2) < v5) (tt := 30) (ff := 26) (L' := [.ref 63, .int v2, .int v5]) (S' := []) (σ' := (97, I, J, R)) rfl (fun hc_422 => ?_) (fun hc_422 => ?_)
                    · rw [if_pos hc_422] at h
                      refine az_E.sn 1 (pc' := 31) (L' := [.ref 63, .int v2, .int v5]) (S' := [.int (0 : Int32)]) (σ' := (97, I, J, R)) rfl ?_
                      refine az_E.ret (v := some (.int (0 : Int32))) (σ' := (97, I, J, R)) rfl ?_
                      show az_E az_F ex 2 128 83 [.retAddr 0, .retAddr 0, .int v2, .retAddr 0, .int v4, .int v5, .ref 63, .ref 63] [.int (0 : Int32)] (97, I, J, R) _
                      refine az_E.br (c := (0 : Int32) = 0) (tt := 98) (ff := 86) (L' := [.retAddr 0, .retAddr 0, .int v2, .retAddr 0, .int v4, .int v5, .ref 63, .ref 63]) (S' := []) (σ' := (97, I, J, R)) rfl (fun _ => ?_) (fun hn => absurd (by decide) hn)
                      refine az_E.sn 1 (pc' := 100) (L' := [.retAddr 0, .retAddr 0, .int v2, .retAddr 0, .int v4, .int v5, .ref 63, .ref 63]) (S' := [.int (-13 : Int32)]) (σ' := (97, I, J, R)) rfl ?_
                      have h := Option.some.inj h
                      subst h
                      exact az_E.ret (v := some (.int (-13 : Int32))) (σ' := (97, I, J, R)) rfl hQ
                    · rw [if_neg hc_422] at h
                      refine az_E.sn 2 (pc' := 31) (L' := [.ref 63, .int v2, .int v5]) (S' := [.int (1 : Int32)]) (σ' := (97, I, J, R)) rfl ?_
                      refine az_E.ret (v := some (.int (1 : Int32))) (σ' := (97, I, J, R)) rfl ?_
                      show az_E az_F ex 2 128 83 [.retAddr 0, .retAddr 0, .int v2, .retAddr 0, .int v4, .int v5, .ref 63, .ref 63] [.int (1 : Int32)] (97, I, J, R) _
                      refine az_E.br (c := (1 : Int32) = 0) (tt := 98) (ff := 86) (L' := [.retAddr 0, .retAddr 0, .int v2, .retAddr 0, .int v4, .int v5, .ref 63, .ref 63]) (S' := []) (σ' := (97, I, J, R)) rfl (fun hn => absurd hn (by decide)) (fun _ => ?_)
                      refine az_E.sn 3 (pc' := 92) (L' := [.retAddr 0, .retAddr 0, .int v2, .retAddr 0, .int v4, .int v5, .ref 63, .ref 63]) (S' := [.int v5, .int v4, .ref 63]) (σ' := (97, I, J, R)) rfl ?_
                      refine az_E.call (d := 1) (k' := 60) (vs := [.ref 63, .int v4, .int v5]) (pc' := 95) (S' := []) rfl ?_ (fun _ _ hq => hq)
                      show az_E az_F ex 1 60 0 [.ref 63, .int v4, .int v5] [] (97, I, J, R) _
                      refine az_E.sn 1 (pc' := 1) (L' := [.ref 63, .int v4, .int v5]) (S' := [.int v4]) (σ' := (97, I, J, R)) rfl ?_
                      refine az_E.br (c := v4 < 0) (tt := 30) (ff := 4) (L' := [.ref 63, .int v4, .int v5]) (S' := []) (σ' := (97, I, J, R)) rfl (fun hc_423 => ?_) (fun hc_423 => ?_)
                      · rw [if_pos hc_423] at h
                        refine az_E.sn 1 (pc' := 31) (L' := [.ref 63, .int v4, .int v5]) (S' := [.int (0 : Int32)]) (σ' := (97, I, J, R)) rfl ?_
                        refine az_E.ret (v := some (.int (0 : Int32))) (σ' := (97, I, J, R)) rfl ?_
                        show az_E az_F ex 2 128 95 [.retAddr 0, .retAddr 0, .int v2, .retAddr 0, .int v4, .int v5, .ref 63, .ref 63] [.int (0 : Int32)] (97, I, J, R) _
                        refine az_E.br (c := (0 : Int32) = 0) (tt := 98) (ff := 101) (L' := [.retAddr 0, .retAddr 0, .int v2, .retAddr 0, .int v4, .int v5, .ref 63, .ref 63]) (S' := []) (σ' := (97, I, J, R)) rfl (fun _ => ?_) (fun hn => absurd (by decide) hn)
                        refine az_E.sn 1 (pc' := 100) (L' := [.retAddr 0, .retAddr 0, .int v2, .retAddr 0, .int v4, .int v5, .ref 63, .ref 63]) (S' := [.int (-13 : Int32)]) (σ' := (97, I, J, R)) rfl ?_
                        have h := Option.some.inj h
                        subst h
                        exact az_E.ret (v := some (.int (-13 : Int32))) (σ' := (97, I, J, R)) rfl hQ
                      · rw [if_neg hc_423] at h
                        refine az_E.sn 1 (pc' := 5) (L' := [.ref 63, .int v4, .int v5]) (S' := [.int v5]) (σ' := (97, I, J, R)) rfl ?_
                        refine az_E.br (c := v5 < 0) (tt := 30) (ff := 8) (L' := [.ref 63, .int v4, .int v5]) (S' := []) (σ' := (97, I, J, R)) rfl (fun hc_424 => ?_) (fun hc_424 => ?_)
                        · rw [if_pos hc_424] at h
                          refine az_E.sn 1 (pc' := 31) (L' := [.ref 63, .int v4, .int v5]) (S' := [.int (0 : Int32)]) (σ' := (97, I, J, R)) rfl ?_
                          refine az_E.ret (v := some (.int (0 : Int32))) (σ' := (97, I, J, R)) rfl ?_
                          show az_E az_F ex 2 128 95 [.retAddr 0, .retAddr 0, .int v2, .retAddr 0, .int v4, .int v5, .ref 63, .ref 63] [.int (0 : Int32)] (97, I, J, R) _
                          refine az_E.br (c := (0 : Int32) = 0) (tt := 98) (ff := 101) (L' := [.retAddr 0, .retAddr 0, .int v2, .retAddr 0, .int v4, .int v5, .ref 63, .ref 63]) (S' := []) (σ' := (97, I, J, R)) rfl (fun _ => ?_) (fun hn => absurd (by decide) hn)
                          refine az_E.sn 1 (pc' := 100) (L' := [.retAddr 0, .retAddr 0, .int v2, .retAddr 0, .int v4, .int v5, .ref 63, .ref 63]) (S' := [.int (-13 : Int32)]) (σ' := (97, I, J, R)) rfl ?_
                          have h := Option.some.inj h
                          subst h
                          exact az_E.ret (v := some (.int (-13 : Int32))) (σ' := (97, I, J, R)) rfl hQ
                        · rw [if_neg hc_424] at h
                          refine az_E.sn 3 (pc' := 13) (L' := [.ref 63, .int v4, .int v5]) (S' := [.int (I 63 2), .int v4]) (σ' := (97, I, J, R)) rfl ?_
                          refine az_E.br (c := (I 63 2) < v4) (tt := 30) (ff := 16) (L' := [.ref 63, .int v4, .int v5]) (S' := []) (σ' := (97, I, J, R)) rfl (fun hc_425 => ?_) (fun hc_425 => ?_)
                          · rw [if_pos hc_425] at h
                            refine az_E.sn 1 (pc' := 31) (L' := [.ref 63, .int v4, .int v5]) (S' := [.int (0 : Int32)]) (σ' := (97, I, J, R)) rfl ?_
                            refine az_E.ret (v := some (.int (0 : Int32))) (σ' := (97, I, J, R)) rfl ?_
                            show az_E az_F ex 2 128 95 [.retAddr 0, .retAddr 0, .int v2, .retAddr 0, .int v4, .int v5, .ref 63, .ref 63] [.int (0 : Int32)] (97, I, J, R) _
                            refine az_E.br (c := (0 : Int32) = 0) (tt := 98) (ff := 101) (L' := [.retAddr 0, .retAddr 0, .int v2, .retAddr 0, .int v4, .int v5, .ref 63, .ref 63]) (S' := []) (σ' := (97, I, J, R)) rfl (fun _ => ?_) (fun hn => absurd (by decide) hn)
                            refine az_E.sn 1 (pc' := 100) (L' := [.retAddr 0, .retAddr 0, .int v2, .retAddr 0, .int v4, .int v5, .ref 63, .ref 63]) (S' := [.int (-13 : Int32)]) (σ' := (97, I, J, R)) rfl ?_
                            have h := Option.some.inj h
                            subst h
                            exact az_E.ret (v := some (.int (-13 : Int32))) (σ' := (97, I, J, R)) rfl hQ
                          · rw [if_neg hc_425] at h
                            refine az_E.sn 5 (pc' := 23) (L' := [.ref 63, .int v4, .int v5]) (S' := [.int ((I 63 2) - v4), .int v5]) (σ' := (97, I, J, R)) rfl ?_
                            refine az_E.br (c := ((I 63 2) - v4) < v5) (tt := 30) (ff := 26) (L' := [.ref 63, .int v4, .int v5]) (S' := []) (σ' := (97, I, J, R)) rfl (fun hc_426 => ?_) (fun hc_426 => ?_)
                            · rw [if_pos hc_426] at h
                              refine az_E.sn 1 (pc' := 31) (L' := [.ref 63, .int v4, .int v5]) (S' := [.int (0 : Int32)]) (σ' := (97, I, J, R)) rfl ?_
                              refine az_E.ret (v := some (.int (0 : Int32))) (σ' := (97, I, J, R)) rfl ?_
                              show az_E az_F ex 2 128 95 [.retAddr 0, .retAddr 0, .int v2, .retAddr 0, .int v4, .int v5, .ref 63, .ref 63] [.int (0 : Int32)] (97, I, J, R) _
                              refine az_E.br (c := (0 : Int32) = 0) (tt := 98) (ff := 101) (L' := [.retAddr 0, .retAddr 0, .int v2, .retAddr 0, .int v4, .int v5, .ref 63, .ref 63]) (S' := []) (σ' := (97, I, J, R)) rfl (fun _ => ?_) (fun hn => absurd (by decide) hn)
                              refine az_E.sn 1 (pc' := 100) (L' := [.retAddr 0, .retAddr 0, .int v2, .retAddr 0, .int v4, .int v5, .ref 63, .ref 63]) (S' := [.int (-13 : Int32)]) (σ' := (97, I, J, R)) rfl ?_
                              have h := Option.some.inj h
                              subst h
                              exact az_E.ret (v := some (.int (-13 : Int32))) (σ' := (97, I, J, R)) rfl hQ
                            · rw [if_neg hc_426] at h
                              refine az_E.sn 2 (pc' := 31) (L' := [.ref 63, .int v4, .int v5]) (S' := [.int (1 : Int32)]) (σ' := (97, I, J, R)) rfl ?_
                              refine az_E.ret (v := some (.int (1 : Int32))) (σ' := (97, I, J, R)) rfl ?_
                              show az_E az_F ex 2 128 95 [.retAddr 0, .retAddr 0, .int v2, .retAddr 0, .int v4, .int v5, .ref 63, .ref 63] [.int (1 : Int32)] (97, I, J, R) _
                              refine az_E.br (c := (1 : Int32) = 0) (tt := 98) (ff := 101) (L' := [.retAddr 0, .retAddr 0, .int v2, .retAddr 0, .int v4, .int v5, .ref 63, .ref 63]) (S' := []) (σ' := (97, I, J, R)) rfl (fun hn => absurd hn (by decide)) (fun _ => ?_)
                              refine az_E.sn 7 (pc' := 116) (L' := [.retAddr 0, .retAddr 0, .int v2, .retAddr 0, .int v4, .int v5, .ref 63, .ref 63]) (S' := [.int v5, .int v4, .ref (63 + 1), .int v2, .ref (63 + 1)]) (σ' := (97, I, J, R)) rfl ?_
                              by_cases hc_427 : v2 < 0 ∨ v4 < 0 ∨ v5 < 0 ∨ 60 < v2.toNatClampNeg + v5.toNatClampNeg ∨ 60 < v4.toNatClampNeg + v5.toNatClampNeg
                              · rw [if_pos hc_427] at h; cases h
                              · rw [if_neg hc_427] at h
                                refine az_E.o (o := az_cp az_F (97, I, J, R) (63 + 1) v2 (63 + 1) v4 v5) (pc' := 119) (L' := [.retAddr 0, .retAddr 0, .int v2, .retAddr 0, .int v4, .int v5, .ref 63, .ref 63]) (S' := []) (x := (97, I, (az_ur J (63 + 1) (va_cpy (J (63 + 1)) (J (63 + 1)) v2.toNatClampNeg v4.toNatClampNeg v5.toNatClampNeg)), R)) rfl (if_neg hc_427) ?_
                                refine az_E.sn 1 (pc' := 121) (L' := [.retAddr 0, .retAddr 0, .int v2, .retAddr 0, .int v4, .int v5, .ref 63, .ref 63]) (S' := [.int v5]) (σ' := (97, I, (az_ur J (63 + 1) (va_cpy (J (63 + 1)) (J (63 + 1)) v2.toNatClampNeg v4.toNatClampNeg v5.toNatClampNeg)), R)) rfl ?_
                                have h := Option.some.inj h
                                subst h
                                exact az_E.ret (v := some (.int v5)) (σ' := (97, I, (az_ur J (63 + 1) (va_cpy (J (63 + 1)) (J (63 + 1)) v2.toNatClampNeg v4.toNatClampNeg v5.toNatClampNeg)), R)) rfl hQ
            · rw [if_neg hc_418] at h
              refine az_E.sn 1 (pc' := 20) (L' := [.ref 63, .int (I 63 1)]) (S' := [.int (0 : Int32)]) (σ' := (97, I, J, R)) rfl ?_
              refine az_E.ret (v := some (.int (0 : Int32))) (σ' := (97, I, J, R)) rfl ?_
              show az_E az_F ex 2 128 69 [.retAddr 0, .retAddr 0, .int v2, .retAddr 0, .int v4, .int v5, .ref 63, .ref 63] [.int (0 : Int32)] (97, I, J, R) _
              refine az_E.br (c := (0 : Int32) = 0) (tt := 72) (ff := 75) (L' := [.retAddr 0, .retAddr 0, .int v2, .retAddr 0, .int v4, .int v5, .ref 63, .ref 63]) (S' := []) (σ' := (97, I, J, R)) rfl (fun _ => ?_) (fun hn => absurd (by decide) hn)
              refine az_E.sn 1 (pc' := 74) (L' := [.retAddr 0, .retAddr 0, .int v2, .retAddr 0, .int v4, .int v5, .ref 63, .ref 63]) (S' := [.int (-12 : Int32)]) (σ' := (97, I, J, R)) rfl ?_
              have h := Option.some.inj h
              subst h
              exact az_E.ret (v := some (.int (-12 : Int32))) (σ' := (97, I, J, R)) rfl hQ
    · rw [if_neg hc_414] at h
      refine az_E.sn 1 (pc' := 21) (L' := [.ref 63]) (S' := [.int (0 : Int32)]) (σ' := (97, I, J, R)) rfl ?_
      refine az_E.ret (v := some (.int (0 : Int32))) (σ' := (97, I, J, R)) rfl ?_
      show az_E az_F ex 2 128 45 [.retAddr 0, .retAddr 0, .int v2, .retAddr 0, .int v4, .int v5, .ref 63, .ref 63] [.int (0 : Int32)] (97, I, J, R) _
      refine az_E.br (c := (0 : Int32) = 0) (tt := 51) (ff := 48) (L' := [.retAddr 0, .retAddr 0, .int v2, .retAddr 0, .int v4, .int v5, .ref 63, .ref 63]) (S' := []) (σ' := (97, I, J, R)) rfl (fun _ => ?_) (fun hn => absurd (by decide) hn)
      refine az_E.sn 1 (pc' := 53) (L' := [.retAddr 0, .retAddr 0, .int v2, .retAddr 0, .int v4, .int v5, .ref 63, .ref 63]) (S' := [.ref 63]) (σ' := (97, I, J, R)) rfl ?_
      refine az_E.call (d := 1) (k' := 55) (vs := [.ref 63]) (pc' := 56) (S' := []) rfl ?_ (fun _ _ hq => hq)
      show az_E az_F ex 1 55 0 [.ref 63] [] (97, I, J, R) _
      refine az_E.sn 3 (pc' := 5) (L' := [.ref 63]) (S' := [.int (-1 : Int32), .int (I 63 1)]) (σ' := (97, I, J, R)) rfl ?_
      refine az_E.br (c := (I 63 1) = (-1 : Int32)) (tt := 12) (ff := 8) (L' := [.ref 63]) (S' := []) (σ' := (97, I, J, R)) rfl (fun hc_428 => ?_) (fun hc_428 => ?_)
      · rw [if_pos hc_428] at h
        refine az_E.sn 1 (pc' := 13) (L' := [.ref 63]) (S' := [.int (0 : Int32)]) (σ' := (97, I, J, R)) rfl ?_
        refine az_E.ret (v := some (.int (0 : Int32))) (σ' := (97, I, J, R)) rfl ?_
        show az_E az_F ex 2 128 56 [.retAddr 0, .retAddr 0, .int v2, .retAddr 0, .int v4, .int v5, .ref 63, .ref 63] [.int (0 : Int32)] (97, I, J, R) _
        refine az_E.br (c := (0 : Int32) = 0) (tt := 72) (ff := 59) (L' := [.retAddr 0, .retAddr 0, .int v2, .retAddr 0, .int v4, .int v5, .ref 63, .ref 63]) (S' := []) (σ' := (97, I, J, R)) rfl (fun _ => ?_) (fun hn => absurd (by decide) hn)
        refine az_E.sn 1 (pc' := 74) (L' := [.retAddr 0, .retAddr 0, .int v2, .retAddr 0, .int v4, .int v5, .ref 63, .ref 63]) (S' := [.int (-12 : Int32)]) (σ' := (97, I, J, R)) rfl ?_
        have h := Option.some.inj h
        subst h
        exact az_E.ret (v := some (.int (-12 : Int32))) (σ' := (97, I, J, R)) rfl hQ
      · rw [if_neg hc_428] at h
        refine az_E.sn 2 (pc' := 13) (L' := [.ref 63]) (S' := [.int (1 : Int32)]) (σ' := (97, I, J, R)) rfl ?_
        refine az_E.ret (v := some (.int (1 : Int32))) (σ' := (97, I, J, R)) rfl ?_
        show az_E az_F ex 2 128 56 [.retAddr 0, .retAddr 0, .int v2, .retAddr 0, .int v4, .int v5, .ref 63, .ref 63] [.int (1 : Int32)] (97, I, J, R) _
        refine az_E.br (c := (1 : Int32) = 0) (tt := 72) (ff := 59) (L' := [.retAddr 0, .retAddr 0, .int v2, .retAddr 0, .int v4, .int v5, .ref 63, .ref 63]) (S' := []) (σ' := (97, I, J, R)) rfl (fun hn => absurd hn (by decide)) (fun _ => ?_)
        refine az_E.sn 3 (pc' := 66) (L' := [.retAddr 0, .retAddr 0, .int v2, .retAddr 0, .int v4, .int v5, .ref 63, .ref 63]) (S' := [.int (I 63 1), .ref 63]) (σ' := (97, I, J, R)) rfl ?_
        refine az_E.call (d := 1) (k' := 56) (vs := [.ref 63, .int (I 63 1)]) (pc' := 69) (S' := []) rfl ?_ (fun _ _ hq => hq)
        show az_E az_F ex 1 56 0 [.ref 63, .int (I 63 1)] [] (97, I, J, R) _
        refine az_E.sn 1 (pc' := 1) (L' := [.ref 63, .int (I 63 1)]) (S' := [.ref 63]) (σ' := (97, I, J, R)) rfl ?_
        refine az_E.call (d := 0) (k' := 55) (vs := [.ref 63]) (pc' := 4) (S' := []) rfl ?_ (fun _ _ hq => hq)
        show az_E az_F ex 0 55 0 [.ref 63] [] (97, I, J, R) _
        refine az_E.sn 3 (pc' := 5) (L' := [.ref 63]) (S' := [.int (-1 : Int32), .int (I 63 1)]) (σ' := (97, I, J, R)) rfl ?_
        refine az_E.br (c := (I 63 1) = (-1 : Int32)) (tt := 12) (ff := 8) (L' := [.ref 63]) (S' := []) (σ' := (97, I, J, R)) rfl (fun hc_429 => ?_) (fun hc_429 => ?_)
        · rw [if_pos hc_429] at h
          refine az_E.sn 1 (pc' := 13) (L' := [.ref 63]) (S' := [.int (0 : Int32)]) (σ' := (97, I, J, R)) rfl ?_
          refine az_E.ret (v := some (.int (0 : Int32))) (σ' := (97, I, J, R)) rfl ?_
          show az_E az_F ex 1 56 4 [.ref 63, .int (I 63 1)] [.int (0 : Int32)] (97, I, J, R) _
          refine az_E.br (c := (0 : Int32) = 0) (tt := 19) (ff := 7) (L' := [.ref 63, .int (I 63 1)]) (S' := []) (σ' := (97, I, J, R)) rfl (fun _ => ?_) (fun hn => absurd (by decide) hn)
          refine az_E.sn 1 (pc' := 20) (L' := [.ref 63, .int (I 63 1)]) (S' := [.int (0 : Int32)]) (σ' := (97, I, J, R)) rfl ?_
          refine az_E.ret (v := some (.int (0 : Int32))) (σ' := (97, I, J, R)) rfl ?_
          show az_E az_F ex 2 128 69 [.retAddr 0, .retAddr 0, .int v2, .retAddr 0, .int v4, .int v5, .ref 63, .ref 63] [.int (0 : Int32)] (97, I, J, R) _
          refine az_E.br (c := (0 : Int32) = 0) (tt := 72) (ff := 75) (L' := [.retAddr 0, .retAddr 0, .int v2, .retAddr 0, .int v4, .int v5, .ref 63, .ref 63]) (S' := []) (σ' := (97, I, J, R)) rfl (fun _ => ?_) (fun hn => absurd (by decide) hn)
          refine az_E.sn 1 (pc' := 74) (L' := [.retAddr 0, .retAddr 0, .int v2, .retAddr 0, .int v4, .int v5, .ref 63, .ref 63]) (S' := [.int (-12 : Int32)]) (σ' := (97, I, J, R)) rfl ?_
          have h := Option.some.inj h
          subst h
          exact az_E.ret (v := some (.int (-12 : Int32))) (σ' := (97, I, J, R)) rfl hQ
        · rw [if_neg hc_429] at h
          refine az_E.sn 2 (pc' := 13) (L' := [.ref 63]) (S' := [.int (1 : Int32)]) (σ' := (97, I, J, R)) rfl ?_
          refine az_E.ret (v := some (.int (1 : Int32))) (σ' := (97, I, J, R)) rfl ?_
          show az_E az_F ex 1 56 4 [.ref 63, .int (I 63 1)] [.int (1 : Int32)] (97, I, J, R) _
          refine az_E.br (c := (1 : Int32) = 0) (tt := 19) (ff := 7) (L' := [.ref 63, .int (I 63 1)]) (S' := []) (σ' := (97, I, J, R)) rfl (fun hn => absurd hn (by decide)) (fun _ => ?_)
          refine az_E.sn 3 (pc' := 12) (L' := [.ref 63, .int (I 63 1)]) (S' := [.int (I 63 1), .int (I 63 1)]) (σ' := (97, I, J, R)) rfl ?_
          refine az_E.br (c := (I 63 1) = (I 63 1)) (tt := 15) (ff := 19) (L' := [.ref 63, .int (I 63 1)]) (S' := []) (σ' := (97, I, J, R)) rfl (fun hc_430 => ?_) (fun hc_430 => ?_)
          · rw [if_pos hc_430] at h
            refine az_E.sn 2 (pc' := 20) (L' := [.ref 63, .int (I 63 1)]) (S' := [.int (1 : Int32)]) (σ' := (97, I, J, R)) rfl ?_
            refine az_E.ret (v := some (.int (1 : Int32))) (σ' := (97, I, J, R)) rfl ?_
            show az_E az_F ex 2 128 69 [.retAddr 0, .retAddr 0, .int v2, .retAddr 0, .int v4, .int v5, .ref 63, .ref 63] [.int (1 : Int32)] (97, I, J, R) _
            refine az_E.br (c := (1 : Int32) = 0) (tt := 72) (ff := 75) (L' := [.retAddr 0, .retAddr 0, .int v2, .retAddr 0, .int v4, .int v5, .ref 63, .ref 63]) (S' := []) (σ' := (97, I, J, R)) rfl (fun hn => absurd hn (by decide)) (fun _ => ?_)
            refine az_E.sn 3 (pc' := 80) (L' := [.retAddr 0, .retAddr 0, .int v2, .retAddr 0, .int v4, .int v5, .ref 63, .ref 63]) (S' := [.int v5, .int v2, .ref 63]) (σ' := (97, I, J, R)) rfl ?_
            refine az_E.call (d := 1) (k' := 60) (vs := [.ref 63, .int v2, .int v5]) (pc' := 83) (S' := []) rfl ?_ (fun _ _ hq => hq)
            show az_E az_F ex 1 60 0 [.ref 63, .int v2, .int v5] [] (97, I, J, R) _
            refine az_E.sn 1 (pc' := 1) (L' := [.ref 63, .int v2, .int v5]) (S' := [.int v2]) (σ' := (97, I, J, R)) rfl ?_
            refine az_E.br (c := v2 < 0) (tt := 30) (ff := 4) (L' := [.ref 63, .int v2, .int v5]) (S' := []) (σ' := (97, I, J, R)) rfl (fun hc_431 => ?_) (fun hc_431 => ?_)
            · rw [if_pos hc_431] at h
              refine az_E.sn 1 (pc' := 31) (L' := [.ref 63, .int v2, .int v5]) (S' := [.int (0 : Int32)]) (σ' := (97, I, J, R)) rfl ?_
              refine az_E.ret (v := some (.int (0 : Int32))) (σ' := (97, I, J, R)) rfl ?_
              show az_E az_F ex 2 128 83 [.retAddr 0, .retAddr 0, .int v2, .retAddr 0, .int v4, .int v5, .ref 63, .ref 63] [.int (0 : Int32)] (97, I, J, R) _
              refine az_E.br (c := (0 : Int32) = 0) (tt := 98) (ff := 86) (L' := [.retAddr 0, .retAddr 0, .int v2, .retAddr 0, .int v4, .int v5, .ref 63, .ref 63]) (S' := []) (σ' := (97, I, J, R)) rfl (fun _ => ?_) (fun hn => absurd (by decide) hn)
              refine az_E.sn 1 (pc' := 100) (L' := [.retAddr 0, .retAddr 0, .int v2, .retAddr 0, .int v4, .int v5, .ref 63, .ref 63]) (S' := [.int (-13 : Int32)]) (σ' := (97, I, J, R)) rfl ?_
              have h := Option.some.inj h
              subst h
              exact az_E.ret (v := some (.int (-13 : Int32))) (σ' := (97, I, J, R)) rfl hQ
            · rw [if_neg hc_431] at h
              refine az_E.sn 1 (pc' := 5) (L' := [.ref 63, .int v2, .int v5]) (S' := [.int v5]) (σ' := (97, I, J, R)) rfl ?_
              refine az_E.br (c := v5 < 0) (tt := 30) (ff := 8) (L' := [.ref 63, .int v2, .int v5]) (S' := []) (σ' := (97, I, J, R)) rfl (fun hc_432 => ?_) (fun hc_432 => ?_)
              · rw [if_pos hc_432] at h
                refine az_E.sn 1 (pc' := 31) (L' := [.ref 63, .int v2, .int v5]) (S' := [.int (0 : Int32)]) (σ' := (97, I, J, R)) rfl ?_
                refine az_E.ret (v := some (.int (0 : Int32))) (σ' := (97, I, J, R)) rfl ?_
                show az_E az_F ex 2 128 83 [.retAddr 0, .retAddr 0, .int v2, .retAddr 0, .int v4, .int v5, .ref 63, .ref 63] [.int (0 : Int32)] (97, I, J, R) _
                refine az_E.br (c := (0 : Int32) = 0) (tt := 98) (ff := 86) (L' := [.retAddr 0, .retAddr 0, .int v2, .retAddr 0, .int v4, .int v5, .ref 63, .ref 63]) (S' := []) (σ' := (97, I, J, R)) rfl (fun _ => ?_) (fun hn => absurd (by decide) hn)
                refine az_E.sn 1 (pc' := 100) (L' := [.retAddr 0, .retAddr 0, .int v2, .retAddr 0, .int v4, .int v5, .ref 63, .ref 63]) (S' := [.int (-13 : Int32)]) (σ' := (97, I, J, R)) rfl ?_
                have h := Option.some.inj h
                subst h
                exact az_E.ret (v := some (.int (-13 : Int32))) (σ' := (97, I, J, R)) rfl hQ
              · rw [if_neg hc_432] at h
                refine az_E.sn 3 (pc' := 13) (L' := [.ref 63, .int v2, .int v5]) (S' := [.int (I 63 2), .int v2]) (σ' := (97, I, J, R)) rfl ?_
                refine az_E.br (c := (I 63 2) < v2) (tt := 30) (ff := 16) (L' := [.ref 63, .int v2, .int v5]) (S' := []) (σ' := (97, I, J, R)) rfl (fun hc_433 => ?_) (fun hc_433 => ?_)
                · rw [if_pos hc_433] at h
                  refine az_E.sn 1 (pc' := 31) (L' := [.ref 63, .int v2, .int v5]) (S' := [.int (0 : Int32)]) (σ' := (97, I, J, R)) rfl ?_
                  refine az_E.ret (v := some (.int (0 : Int32))) (σ' := (97, I, J, R)) rfl ?_
                  show az_E az_F ex 2 128 83 [.retAddr 0, .retAddr 0, .int v2, .retAddr 0, .int v4, .int v5, .ref 63, .ref 63] [.int (0 : Int32)] (97, I, J, R) _
                  refine az_E.br (c := (0 : Int32) = 0) (tt := 98) (ff := 86) (L' := [.retAddr 0, .retAddr 0, .int v2, .retAddr 0, .int v4, .int v5, .ref 63, .ref 63]) (S' := []) (σ' := (97, I, J, R)) rfl (fun _ => ?_) (fun hn => absurd (by decide) hn)
                  refine az_E.sn 1 (pc' := 100) (L' := [.retAddr 0, .retAddr 0, .int v2, .retAddr 0, .int v4, .int v5, .ref 63, .ref 63]) (S' := [.int (-13 : Int32)]) (σ' := (97, I, J, R)) rfl ?_
                  have h := Option.some.inj h
                  subst h
                  exact az_E.ret (v := some (.int (-13 : Int32))) (σ' := (97, I, J, R)) rfl hQ
                · rw [if_neg hc_433] at h
                  refine az_E.sn 5 (pc' := 23) (L' := [.ref 63, .int v2, .int v5]) (S' := [.int ((I 63 2) - v2), .int v5]) (σ' := (97, I, J, R)) rfl ?_
                  refine az_E.br (c := ((I 63 2) - v2) < v5) (tt := 30) (ff := 26) (L' := [.ref 63, .int v2, .int v5]) (S' := []) (σ' := (97, I, J, R)) rfl (fun hc_434 => ?_) (fun hc_434 => ?_)
                  · rw [if_pos hc_434] at h
                    refine az_E.sn 1 (pc' := 31) (L' := [.ref 63, .int v2, .int v5]) (S' := [.int (0 : Int32)]) (σ' := (97, I, J, R)) rfl ?_
                    refine az_E.ret (v := some (.int (0 : Int32))) (σ' := (97, I, J, R)) rfl ?_
                    show az_E az_F ex 2 128 83 [.retAddr 0, .retAddr 0, .int v2, .retAddr 0, .int v4, .int v5, .ref 63, .ref 63] [.int (0 : Int32)] (97, I, J, R) _
                    refine az_E.br (c := (0 : Int32) = 0) (tt := 98) (ff := 86) (L' := [.retAddr 0, .retAddr 0, .int v2, .retAddr 0, .int v4, .int v5, .ref 63, .ref 63]) (S' := []) (σ' := (97, I, J, R)) rfl (fun _ => ?_) (fun hn => absurd (by decide) hn)
                    refine az_E.sn 1 (pc' := 100) (L' := [.retAddr 0, .retAddr 0, .int v2, .retAddr 0, .int v4, .int v5, .ref 63, .ref 63]) (S' := [.int (-13 : Int32)]) (σ' := (97, I, J, R)) rfl ?_
                    have h := Option.some.inj h
                    subst h
                    exact az_E.ret (v := some (.int (-13 : Int32))) (σ' := (97, I, J, R)) rfl hQ
                  · rw [if_neg hc_434] at h
                    refine az_E.sn 2 (pc' := 31) (L' := [.ref 63, .int v2, .int v5]) (S' := [.int (1 : Int32)]) (σ' := (97, I, J, R)) rfl ?_
                    refine az_E.ret (v := some (.int (1 : Int32))) (σ' := (97, I, J, R)) rfl ?_
                    show az_E az_F ex 2 128 83 [.retAddr 0, .retAddr 0, .int v2, .retAddr 0, .int v4, .int v5, .ref 63, .ref 63] [.int (1 : Int32)] (97, I, J, R) _
                    refine az_E.br (c := (1 : Int32) = 0) (tt := 98) (ff := 86) (L' := [.retAddr 0, .retAddr 0, .int v2, .retAddr 0, .int v4, .int v5, .ref 63, .ref 63]) (S' := []) (σ' := (97, I, J, R)) rfl (fun hn => absurd hn (by decide)) (fun _ => ?_)
                    refine az_E.sn 3 (pc' := 92) (L' := [.retAddr 0, .retAddr 0, .int v2, .retAddr 0, .int v4, .int v5, .ref 63, .ref 63]) (S' := [.int v5, .int v4, .ref 63]) (σ' := (97, I, J, R)) rfl ?_
                    refine az_E.call (d := 1) (k' := 60) (vs := [.ref 63, .int v4, .int v5]) (pc' := 95) (S' := []) rfl ?_ (fun _ _ hq => hq)
                    show az_E az_F ex 1 60 0 [.ref 63, .int v4, .int v5] [] (97, I, J, R) _
                    refine az_E.sn 1 (pc' := 1) (L' := [.ref 63, .int v4, .int v5]) (S' := [.int v4]) (σ' := (97, I, J, R)) rfl ?_
                    refine az_E.br (c := v4 < 0) (tt := 30) (ff := 4) (L' := [.ref 63, .int v4, .int v5]) (S' := []) (σ' := (97, I, J, R)) rfl (fun hc_435 => ?_) (fun hc_435 => ?_)
                    · rw [if_pos hc_435] at h
                      refine az_E.sn 1 (pc' := 31) (L' := [.ref 63, .int v4, .int v5]) (S' := [.int (0 : Int32)]) (σ' := (97, I, J, R)) rfl ?_
                      refine az_E.ret (v := some (.int (0 : Int32))) (σ' := (97, I, J, R)) rfl ?_
                      show az_E az_F ex 2 128 95 [.retAddr 0, .retAddr 0, .int v2, .retAddr 0, .int v4, .int v5, .ref 63, .ref 63] [.int (0 : Int32)] (97, I, J, R) _
                      refine az_E.br (c := (0 : Int32) = 0) (tt := 98) (ff := 101) (L' := [.retAddr 0, .retAddr 0, .int v2, .retAddr 0, .int v4, .int v5, .ref 63, .ref 63]) (S' := []) (σ' := (97, I, J, R)) rfl (fun _ => ?_) (fun hn => absurd (by decide) hn)
                      refine az_E.sn 1 (pc' := 100) (L' := [.retAddr 0, .retAddr 0, .int v2, .retAddr 0, .int v4, .int v5, .ref 63, .ref 63]) (S' := [.int (-13 : Int32)]) (σ' := (97, I, J, R)) rfl ?_
                      have h := Option.some.inj h
                      subst h
                      exact az_E.ret (v := some (.int (-13 : Int32))) (σ' := (97, I, J, R)) rfl hQ
                    · rw [if_neg hc_435] at h
                      refine az_E.sn 1 (pc' := 5) (L' := [.ref 63, .int v4, .int v5]) (S' := [.int v5]) (σ' := (97, I, J, R)) rfl ?_
                      refine az_E.br (c := v5 < 0) (tt := 30) (ff := 8) (L' := [.ref 63, .int v4, .int v5]) (S' := []) (σ' := (97, I, J, R)) rfl (fun hc_436 => ?_) (fun hc_436 => ?_)
                      · rw [if_pos hc_436] at h
                        refine az_E.sn 1 (pc' := 31) (L' := [.ref 63, .int v4, .int v5]) (S' := [.int (0 : Int32)]) (σ' := (97, I, J, R)) rfl ?_
                        refine az_E.ret (v := some (.int (0 : Int32))) (σ' := (97, I, J, R)) rfl ?_
                        show az_E az_F ex 2 128 95 [.retAddr 0, .retAddr 0, .int v2, .retAddr 0, .int v4, .int v5, .ref 63, .ref 63] [.int (0 : Int32)] (97, I, J, R) _
                        refine az_E.br (c := (0 : Int32) = 0) (tt := 98) (ff := 101) (L' := [.retAddr 0, .retAddr 0, .int v2, .retAddr 0, .int v4, .int v5, .ref 63, .ref 63]) (S' := []) (σ' := (97, I, J, R)) rfl (fun _ => ?_) (fun hn => absurd (by decide) hn)
                        refine az_E.sn 1 (pc' := 100) (L' := [.retAddr 0, .retAddr 0, .int v2, .retAddr 0, .int v4, .int v5, .ref 63, .ref 63]) (S' := [.int (-13 : Int32)]) (σ' := (97, I, J, R)) rfl ?_
                        have h := Option.some.inj h
                        subst h
                        exact az_E.ret (v := some (.int (-13 : Int32))) (σ' := (97, I, J, R)) rfl hQ
                      · rw [if_neg hc_436] at h
                        refine az_E.sn 3 (pc' := 13) (L' := [.ref 63, .int v4, .int v5]) (S' := [.int (I 63 2), .int v4]) (σ' := (97, I, J, R)) rfl ?_
                        refine az_E.br (c := (I 63 2) < v4) (tt := 30) (ff := 16) (L' := [.ref 63, .int v4, .int v5]) (S' := []) (σ' := (97, I, J, R)) rfl (fun hc_437 => ?_) (fun hc_437 => ?_)
                        · rw [if_pos hc_437] at h
                          refine az_E.sn 1 (pc' := 31) (L' := [.ref 63, .int v4, .int v5]) (S' := [.int (0 : Int32)]) (σ' := (97, I, J, R)) rfl ?_
                          refine az_E.ret (v := some (.int (0 : Int32))) (σ' := (97, I, J, R)) rfl ?_
                          show az_E az_F ex 2 128 95 [.retAddr 0, .retAddr 0, .int v2, .retAddr 0, .int v4, .int v5, .ref 63, .ref 63] [.int (0 : Int32)] (97, I, J, R) _
                          refine az_E.br (c := (0 : Int32) = 0) (tt := 98) (ff := 101) (L' := [.retAddr 0, .retAddr 0, .int v2, .retAddr 0, .int v4, .int v5, .ref 63, .ref 63]) (S' := []) (σ' := (97, I, J, R)) rfl (fun _ => ?_) (fun hn => absurd (by decide) hn)
                          refine az_E.sn 1 (pc' := 100) (L' := [.retAddr 0, .retAddr 0, .int v2, .retAddr 0, .int v4, .int v5, .ref 63, .ref 63]) (S' := [.int (-13 : Int32)]) (σ' := (97, I, J, R)) rfl ?_
                          have h := Option.some.inj h
                          subst h
                          exact az_E.ret (v := some (.int (-13 : Int32))) (σ' := (97, I, J, R)) rfl hQ
                        · rw [if_neg hc_437] at h
                          refine az_E.sn 5 (pc' := 23) (L' := [.ref 63, .int v4, .int v5]) (S' := [.int ((I 63 2) - v4), .int v5]) (σ' := (97, I, J, R)) rfl ?_
                          refine az_E.br (c := ((I 63 2) - v4) < v5) (tt := 30) (ff := 26) (L' := [.ref 63, .int v4, .int v5]) (S' := []) (σ' := (97, I, J, R)) rfl (fun hc_438 => ?_) (fun hc_438 => ?_)
                          · rw [if_pos hc_438] at h
                            refine az_E.sn 1 (pc' := 31) (L' := [.ref 63, .int v4, .int v5]) (S' := [.int (0 : Int32)]) (σ' := (97, I, J, R)) rfl ?_
                            refine az_E.ret (v := some (.int (0 : Int32))) (σ' := (97, I, J, R)) rfl ?_
                            show az_E az_F ex 2 128 95 [.retAddr 0, .retAddr 0, .int v2, .retAddr 0, .int v4, .int v5, .ref 63, .ref 63] [.int (0 : Int32)] (97, I, J, R) _
                            refine az_E.br (c := (0 : Int32) = 0) (tt := 98) (ff := 101) (L' := [.retAddr 0, .retAddr 0, .int v2, .retAddr 0, .int v4, .int v5, .ref 63, .ref 63]) (S' := []) (σ' := (97, I, J, R)) rfl (fun _ => ?_) (fun hn => absurd (by decide) hn)
                            refine az_E.sn 1 (pc' := 100) (L' := [.retAddr 0, .retAddr 0, .int v2, .retAddr 0, .int v4, .int v5, .ref 63, .ref 63]) (S' := [.int (-13 : Int32)]) (σ' := (97, I, J, R)) rfl ?_
                            have h := Option.some.inj h
                            subst h
                            exact az_E.ret (v := some (.int (-13 : Int32))) (σ' := (97, I, J, R)) rfl hQ
                          · rw [if_neg hc_438] at h
                            refine az_E.sn 2 (pc' := 31) (L' := [.ref 63, .int v4, .int v5]) (S' := [.int (1 : Int32)]) (σ' := (97, I, J, R)) rfl ?_
                            refine az_E.ret (v := some (.int (1 : Int32))) (σ' := (97, I, J, R)) rfl ?_
                            show az_E az_F ex 2 128 95 [.retAddr 0, .retAddr 0, .int v2, .retAddr 0, .int v4, .int v5, .ref 63, .ref 63] [.int (1 : Int32)] (97, I, J, R) _
                            refine az_E.br (c := (1 : Int32) = 0) (tt := 98) (ff := 101) (L' := [.retAddr 0, .retAddr 0, .int v2, .retAddr 0, .int v4, .int v5, .ref 63, .ref 63]) (S' := []) (σ' := (97, I, J, R)) rfl (fun hn => absurd hn (by decide)) (fun _ => ?_)
                            refine az_E.sn 7 (pc' := 116) (L' := [.retAddr 0, .retAddr 0, .int v2, .retAddr 0, .int v4, .int v5, .ref 63, .ref 63]) (S' := [.int v5, .int v4, .ref (63 + 1), .int v2, .ref (63 + 1)]) (σ' := (97, I, J, R)) rfl ?_
                            by_cases hc_439 : v2 < 0 ∨ v4 < 0 ∨ v5 < 0 ∨ 60 < v2.toNatClampNeg + v5.toNatClampNeg ∨ 60 < v4.toNatClampNeg + v5.toNatClampNeg
                            · rw [if_pos hc_439] at h; cases h
                            · rw [if_neg hc_439] at h
                              refine az_E.o (o := az_cp az_F (97, I, J, R) (63 + 1) v2 (63 + 1) v4 v5) (pc' := 119) (L' := [.retAddr 0, .retAddr 0, .int v2, .retAddr 0, .int v4, .int v5, .ref 63, .ref 63]) (S' := []) (x := (97, I, (az_ur J (63 + 1) (va_cpy (J (63 + 1)) (J (63 + 1)) v2.toNatClampNeg v4.toNatClampNeg v5.toNatClampNeg)), R)) rfl (if_neg hc_439) ?_
                              refine az_E.sn 1 (pc' := 121) (L' := [.retAddr 0, .retAddr 0, .int v2, .retAddr 0, .int v4, .int v5, .ref 63, .ref 63]) (S' := [.int v5]) (σ' := (97, I, (az_ur J (63 + 1) (va_cpy (J (63 + 1)) (J (63 + 1)) v2.toNatClampNeg v4.toNatClampNeg v5.toNatClampNeg)), R)) rfl ?_
                              have h := Option.some.inj h
                              subst h
                              exact az_E.ret (v := some (.int v5)) (σ' := (97, I, (az_ur J (63 + 1) (va_cpy (J (63 + 1)) (J (63 + 1)) v2.toNatClampNeg v4.toNatClampNeg v5.toNatClampNeg)), R)) rfl hQ
          · rw [if_neg hc_430] at h
            refine az_E.sn 1 (pc' := 20) (L' := [.ref 63, .int (I 63 1)]) (S' := [.int (0 : Int32)]) (σ' := (97, I, J, R)) rfl ?_
            refine az_E.ret (v := some (.int (0 : Int32))) (σ' := (97, I, J, R)) rfl ?_
            show az_E az_F ex 2 128 69 [.retAddr 0, .retAddr 0, .int v2, .retAddr 0, .int v4, .int v5, .ref 63, .ref 63] [.int (0 : Int32)] (97, I, J, R) _
            refine az_E.br (c := (0 : Int32) = 0) (tt := 72) (ff := 75) (L' := [.retAddr 0, .retAddr 0, .int v2, .retAddr 0, .int v4, .int v5, .ref 63, .ref 63]) (S' := []) (σ' := (97, I, J, R)) rfl (fun _ => ?_) (fun hn => absurd (by decide) hn)
            refine az_E.sn 1 (pc' := 74) (L' := [.retAddr 0, .retAddr 0, .int v2, .retAddr 0, .int v4, .int v5, .ref 63, .ref 63]) (S' := [.int (-12 : Int32)]) (σ' := (97, I, J, R)) rfl ?_
            have h := Option.some.inj h
            subst h
            exact az_E.ret (v := some (.int (-12 : Int32))) (σ' := (97, I, J, R)) rfl hQ

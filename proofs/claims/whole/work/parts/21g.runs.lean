set_option maxRecDepth 100000 in
set_option maxHeartbeats 4000000 in
theorem re_X_shift_30_63_65 {ex : az_X} {I : Nat → Nat → Int32} {J : Nat → Nat → Int64} {R : Nat → Nat → Option Nat} {v2 : Int32} {v4 : Int32} {v5 : Int32} {x : Int32 × (Nat → Nat → Int64)} (h : rs_X_shift_30 63 65 I J v2 v4 v5 = some x) {Q : Option Value → az_S → Prop} (hQ : Q (some (.int x.1)) (97, I, x.2, R)) : az_E az_F ex 2 128 30 [.retAddr 0, .retAddr 0, .int v2, .retAddr 0, .int v4, .int v5, .ref 63, .retAddr 0] [.ref 65] (97, I, J, R) Q := by
  unfold rs_X_shift_30 at h
  refine az_E.sn 2 (pc' := 34) (L' := [.retAddr 0, .retAddr 0, .int v2, .retAddr 0, .int v4, .int v5, .ref 63, .ref 65]) (S' := [.ref 63]) (σ' := (97, I, J, R)) rfl ?_
  refine az_E.call (d := 1) (k' := 54) (vs := [.ref 63]) (pc' := 37) (S' := []) rfl ?_ (fun _ _ hq => hq)
  show az_E az_F ex 1 54 0 [.ref 63] [] (97, I, J, R) _
  refine az_E.sn 3 (pc' := 5) (L' := [.ref 63]) (S' := [.int (-1 : Int32), .int (I 63 0)]) (σ' := (97, I, J, R)) rfl ?_
  refine az_E.br (c := (I 63 0) = (-1 : Int32)) (tt := 8) (ff := 20) (L' := [.ref 63]) (S' := []) (σ' := (97, I, J, R)) rfl (fun hc_440 => ?_) (fun hc_440 => ?_)
  · rw [if_pos hc_440] at h
    refine az_E.sn 3 (pc' := 13) (L' := [.ref 63]) (S' := [.int (-1 : Int32), .int (I 63 1)]) (σ' := (97, I, J, R)) rfl ?_
    refine az_E.br (c := (I 63 1) = (-1 : Int32)) (tt := 16) (ff := 20) (L' := [.ref 63]) (S' := []) (σ' := (97, I, J, R)) rfl (fun hc_441 => ?_) (fun hc_441 => ?_)
    · rw [if_pos hc_441] at h
      refine az_E.sn 2 (pc' := 21) (L' := [.ref 63]) (S' := [.int (1 : Int32)]) (σ' := (97, I, J, R)) rfl ?_
      refine az_E.ret (v := some (.int (1 : Int32))) (σ' := (97, I, J, R)) rfl ?_
      show az_E az_F ex 2 128 37 [.retAddr 0, .retAddr 0, .int v2, .retAddr 0, .int v4, .int v5, .ref 63, .ref 65] [.int (1 : Int32)] (97, I, J, R) _
      refine az_E.br (c := (1 : Int32) = 0) (tt := 40) (ff := 48) (L' := [.retAddr 0, .retAddr 0, .int v2, .retAddr 0, .int v4, .int v5, .ref 63, .ref 65]) (S' := []) (σ' := (97, I, J, R)) rfl (fun hn => absurd hn (by decide)) (fun _ => ?_)
      refine az_E.sn 1 (pc' := 50) (L' := [.retAddr 0, .retAddr 0, .int v2, .retAddr 0, .int v4, .int v5, .ref 63, .ref 65]) (S' := [.int (-11 : Int32)]) (σ' := (97, I, J, R)) rfl ?_
      have h := Option.some.inj h
      subst h
      exact az_E.ret (v := some (.int (-11 : Int32))) (σ' := (97, I, J, R)) rfl hQ
    · rw [if_neg hc_441] at h
      refine az_E.sn 1 (pc' := 21) (L' := [.ref 63]) (S' := [.int (0 : Int32)]) (σ' := (97, I, J, R)) rfl ?_
      refine az_E.ret (v := some (.int (0 : Int32))) (σ' := (97, I, J, R)) rfl ?_
      show az_E az_F ex 2 128 37 [.retAddr 0, .retAddr 0, .int v2, .retAddr 0, .int v4, .int v5, .ref 63, .ref 65] [.int (0 : Int32)] (97, I, J, R) _
      refine az_E.br (c := (0 : Int32) = 0) (tt := 40) (ff := 48) (L' := [.retAddr 0, .retAddr 0, .int v2, .retAddr 0, .int v4, .int v5, .ref 63, .ref 65]) (S' := []) (σ' := (97, I, J, R)) rfl (fun _ => ?_) (fun hn => absurd (by decide) hn)
      refine az_E.sn 1 (pc' := 42) (L' := [.retAddr 0, .retAddr 0, .int v2, .retAddr 0, .int v4, .int v5, .ref 63, .ref 65]) (S' := [.ref 65]) (σ' := (97, I, J, R)) rfl ?_
      refine az_E.call (d := 1) (k' := 54) (vs := [.ref 65]) (pc' := 45) (S' := []) rfl ?_ (fun _ _ hq => hq)
      show az_E az_F ex 1 54 0 [.ref 65] [] (97, I, J, R) _
      refine az_E.sn 3 (pc' := 5) (L' := [.ref 65]) (S' := [.int (-1 : Int32), .int (I 65 0)]) (σ' := (97, I, J, R)) rfl ?_
      refine az_E.br (c := (I 65 0) = (-1 : Int32)) (tt := 8) (ff := 20) (L' := [.ref 65]) (S' := []) (σ' := (97, I, J, R)) rfl (fun hc_442 => ?_) (fun hc_442 => ?_)
      · rw [if_pos hc_442] at h
        refine az_E.sn 3 (pc' := 13) (L' := [.ref 65]) (S' := [.int (-1 : Int32), .int (I 65 1)]) (σ' := (97, I, J, R)) rfl ?_
        refine az_E.br (c := (I 65 1) = (-1 : Int32)) (tt := 16) (ff := 20) (L' := [.ref 65]) (S' := []) (σ' := (97, I, J, R)) rfl (fun hc_443 => ?_) (fun hc_443 => ?_)
        · rw [if_pos hc_443] at h
          refine az_E.sn 2 (pc' := 21) (L' := [.ref 65]) (S' := [.int (1 : Int32)]) (σ' := (97, I, J, R)) rfl ?_
          refine az_E.ret (v := some (.int (1 : Int32))) (σ' := (97, I, J, R)) rfl ?_
          show az_E az_F ex 2 128 45 [.retAddr 0, .retAddr 0, .int v2, .retAddr 0, .int v4, .int v5, .ref 63, .ref 65] [.int (1 : Int32)] (97, I, J, R) _
          refine az_E.br (c := (1 : Int32) = 0) (tt := 51) (ff := 48) (L' := [.retAddr 0, .retAddr 0, .int v2, .retAddr 0, .int v4, .int v5, .ref 63, .ref 65]) (S' := []) (σ' := (97, I, J, R)) rfl (fun hn => absurd hn (by decide)) (fun _ => ?_)
          refine az_E.sn 1 (pc' := 50) (L' := [.retAddr 0, .retAddr 0, .int v2, .retAddr 0, .int v4, .int v5, .ref 63, .ref 65]) (S' := [.int (-11 : Int32)]) (σ' := (97, I, J, R)) rfl ?_
          have h := Option.some.inj h
          subst h
          exact az_E.ret (v := some (.int (-11 : Int32))) (σ' := (97, I, J, R)) rfl hQ
        · rw [if_neg hc_443] at h
          refine az_E.sn 1 (pc' := 21) (L' := [.ref 65]) (S' := [.int (0 : Int32)]) (σ' := (97, I, J, R)) rfl ?_
          refine az_E.ret (v := some (.int (0 : Int32))) (σ' := (97, I, J, R)) rfl ?_
          show az_E az_F ex 2 128 45 [.retAddr 0, .retAddr 0, .int v2, .retAddr 0, .int v4, .int v5, .ref 63, .ref 65] [.int (0 : Int32)] (97, I, J, R) _
          refine az_E.br (c := (0 : Int32) = 0) (tt := 51) (ff := 48) (L' := [.retAddr 0, .retAddr 0, .int v2, .retAddr 0, .int v4, .int v5, .ref 63, .ref 65]) (S' := []) (σ' := (97, I, J, R)) rfl (fun _ => ?_) (fun hn => absurd (by decide) hn)
          refine az_E.sn 1 (pc' := 53) (L' := [.retAddr 0, .retAddr 0, .int v2, .retAddr 0, .int v4, .int v5, .ref 63, .ref 65]) (S' := [.ref 63]) (σ' := (97, I, J, R)) rfl ?_
          refine az_E.call (d := 1) (k' := 55) (vs := [.ref 63]) (pc' := 56) (S' := []) rfl ?_ (fun _ _ hq => hq)
          show az_E az_F ex 1 55 0 [.ref 63] [] (97, I, J, R) _
          refine az_E.sn 3 (pc' := 5) (L' := [.ref 63]) (S' := [.int (-1 : Int32), .int (I 63 1)]) (σ' := (97, I, J, R)) rfl ?_
          refine az_E.br (c := (I 63 1) = (-1 : Int32)) (tt := 12) (ff := 8) (L' := [.ref 63]) (S' := []) (σ' := (97, I, J, R)) rfl (fun hc_444 => ?_) (fun hc_444 => ?_)
          · rw [if_pos hc_444] at h
            refine az_E.sn 1 (pc' := 13) (L' := [.ref 63]) (S' := [.int (0 : Int32)]) (σ' := (97, I, J, R)) rfl ?_
            refine az_E.ret (v := some (.int (0 : Int32))) (σ' := (97, I, J, R)) rfl ?_
            show az_E az_F ex 2 128 56 [.retAddr 0, .retAddr 0, .int v2, .retAddr 0, .int v4, .int v5, .ref 63, .ref 65] [.int (0 : Int32)] (97, I, J, R) _
            refine az_E.br (c := (0 : Int32) = 0) (tt := 72) (ff := 59) (L' := [.retAddr 0, .retAddr 0, .int v2, .retAddr 0, .int v4, .int v5, .ref 63, .ref 65]) (S' := []) (σ' := (97, I, J, R)) rfl (fun _ => ?_) (fun hn => absurd (by decide) hn)
            refine az_E.sn 1 (pc' := 74) (L' := [.retAddr 0, .retAddr 0, .int v2, .retAddr 0, .int v4, .int v5, .ref 63, .ref 65]) (S' := [.int (-12 : Int32)]) (σ' := (97, I, J, R)) rfl ?_
            have h := Option.some.inj h
            subst h
            exact az_E.ret (v := some (.int (-12 : Int32))) (σ' := (97, I, J, R)) rfl hQ
          · rw [if_neg hc_444] at h
            refine az_E.sn 2 (pc' := 13) (L' := [.ref 63]) (S' := [.int (1 : Int32)]) (σ' := (97, I, J, R)) rfl ?_
            refine az_E.ret (v := some (.int (1 : Int32))) (σ' := (97, I, J, R)) rfl ?_
            show az_E az_F ex 2 128 56 [.retAddr 0, .retAddr 0, .int v2, .retAddr 0, .int v4, .int v5, .ref 63, .ref 65] [.int (1 : Int32)] (97, I, J, R) _
            refine az_E.br (c := (1 : Int32) = 0) (tt := 72) (ff := 59) (L' := [.retAddr 0, .retAddr 0, .int v2, .retAddr 0, .int v4, .int v5, .ref 63, .ref 65]) (S' := []) (σ' := (97, I, J, R)) rfl (fun hn => absurd hn (by decide)) (fun _ => ?_)
            refine az_E.sn 3 (pc' := 66) (L' := [.retAddr 0, .retAddr 0, .int v2, .retAddr 0, .int v4, .int v5, .ref 63, .ref 65]) (S' := [.int (I 63 1), .ref 65]) (σ' := (97, I, J, R)) rfl ?_
            refine az_E.call (d := 1) (k' := 56) (vs := [.ref 65, .int (I 63 1)]) (pc' := 69) (S' := []) rfl ?_ (fun _ _ hq => hq)
            show az_E az_F ex 1 56 0 [.ref 65, .int (I 63 1)] [] (97, I, J, R) _
            refine az_E.sn 1 (pc' := 1) (L' := [.ref 65, .int (I 63 1)]) (S' := [.ref 65]) (σ' := (97, I, J, R)) rfl ?_
            refine az_E.call (d := 0) (k' := 55) (vs := [.ref 65]) (pc' := 4) (S' := []) rfl ?_ (fun _ _ hq => hq)
            show az_E az_F ex 0 55 0 [.ref 65] [] (97, I, J, R) _
            refine az_E.sn 3 (pc' := 5) (L' := [.ref 65]) (S' := [.int (-1 : Int32), .int (I 65 1)]) (σ' := (97, I, J, R)) rfl ?_
            refine az_E.br (c := (I 65 1) = (-1 : Int32)) (tt := 12) (ff := 8) (L' := [.ref 65]) (S' := []) (σ' := (97, I, J, R)) rfl (fun hc_445 => ?_) (fun hc_445 => ?_)
            · rw [if_pos hc_445] at h
              refine az_E.sn 1 (pc' := 13) (L' := [.ref 65]) (S' := [.int (0 : Int32)]) (σ' := (97, I, J, R)) rfl ?_
              refine az_E.ret (v := some (.int (0 : Int32))) (σ' := (97, I, J, R)) rfl ?_
              show az_E az_F ex 1 56 4 [.ref 65, .int (I 63 1)] [.int (0 : Int32)] (97, I, J, R) _
              refine az_E.br (c := (0 : Int32) = 0) (tt := 19) (ff := 7) (L' := [.ref 65, .int (I 63 1)]) (S' := []) (σ' := (97, I, J, R)) rfl (fun _ => ?_) (fun hn => absurd (by decide) hn)
              refine az_E.sn 1 (pc' := 20) (L' := [.ref 65, .int (I 63 1)]) (S' := [.int (0 : Int32)]) (σ' := (97, I, J, R)) rfl ?_
              refine az_E.ret (v := some (.int (0 : Int32))) (σ' := (97, I, J, R)) rfl ?_
              show az_E az_F ex 2 128 69 [.retAddr 0, .retAddr 0, .int v2, .retAddr 0, .int v4, .int v5, .ref 63, .ref 65] [.int (0 : Int32)] (97, I, J, R) _
              refine az_E.br (c := (0 : Int32) = 0) (tt := 72) (ff := 75) (L' := [.retAddr 0, .retAddr 0, .int v2, .retAddr 0, .int v4, .int v5, .ref 63, .ref 65]) (S' := []) (σ' := (97, I, J, R)) rfl (fun _ => ?_) (fun hn => absurd (by decide) hn)
              refine az_E.sn 1 (pc' := 74) (L' := [.retAddr 0, .retAddr 0, .int v2, .retAddr 0, .int v4, .int v5, .ref 63, .ref 65]) (S' := [.int (-12 : Int32)]) (σ' := (97, I, J, R)) rfl ?_
              have h := Option.some.inj h
              subst h
              exact az_E.ret (v := some (.int (-12 : Int32))) (σ' := (97, I, J, R)) rfl hQ
            · rw [if_neg hc_445] at h
              refine az_E.sn 2 (pc' := 13) (L' := [.ref 65]) (S' := [.int (1 : Int32)]) (σ' := (97, I, J, R)) rfl ?_
              refine az_E.ret (v := some (.int (1 : Int32))) (σ' := (97, I, J, R)) rfl ?_
              show az_E az_F ex 1 56 4 [.ref 65, .int (I 63 1)] [.int (1 : Int32)] (97, I, J, R) _
              refine az_E.br (c := (1 : Int32) = 0) (tt := 19) (ff := 7) (L' := [.ref 65, .int (I 63 1)]) (S' := []) (σ' := (97, I, J, R)) rfl (fun hn => absurd hn (by decide)) (fun _ => ?_)
              refine az_E.sn 3 (pc' := 12) (L' := [.ref 65, .int (I 63 1)]) (S' := [.int (I 63 1), .int (I 65 1)]) (σ' := (97, I, J, R)) rfl ?_
              refine az_E.br (c := (I 65 1) = (I 63 1)) (tt := 15) (ff := 19) (L' := [.ref 65, .int (I 63 1)]) (S' := []) (σ' := (97, I, J, R)) rfl (fun hc_446 => ?_) (fun hc_446 => ?_)
              · rw [if_pos hc_446] at h
                refine az_E.sn 2 (pc' := 20) (L' := [.ref 65, .int (I 63 1)]) (S' := [.int (1 : Int32)]) (σ' := (97, I, J, R)) rfl ?_
                refine az_E.ret (v := some (.int (1 : Int32))) (σ' := (97, I, J, R)) rfl ?_
                show az_E az_F ex 2 128 69 [.retAddr 0, .retAddr 0, .int v2, .retAddr 0, .int v4, .int v5, .ref 63, .ref 65] [.int (1 : Int32)] (97, I, J, R) _
                refine az_E.br (c := (1 : Int32) = 0) (tt := 72) (ff := 75) (L' := [.retAddr 0, .retAddr 0, .int v2, .retAddr 0, .int v4, .int v5, .ref 63, .ref 65]) (S' := []) (σ' := (97, I, J, R)) rfl (fun hn => absurd hn (by decide)) (fun _ => ?_)
                refine az_E.sn 3 (pc' := 80) (L' := [.retAddr 0, .retAddr 0, .int v2, .retAddr 0, .int v4, .int v5, .ref 63, .ref 65]) (S' := [.int v5, .int v2, .ref 63]) (σ' := (97, I, J, R)) rfl ?_
                refine az_E.call (d := 1) (k' := 60) (vs := [.ref 63, .int v2, .int v5]) (pc' := 83) (S' := []) rfl ?_ (fun _ _ hq => hq)
                show az_E az_F ex 1 60 0 [.ref 63, .int v2, .int v5] [] (97, I, J, R) _
                refine az_E.sn 1 (pc' := 1) (L' := [.ref 63, .int v2, .int v5]) (S' := [.int v2]) (σ' := (97, I, J, R)) rfl ?_
                refine az_E.br (c := v2 < 0) (tt := 30) (ff := 4) (L' := [.ref 63, .int v2, .int v5]) (S' := []) (σ' := (97, I, J, R)) rfl (fun hc_447 => ?_) (fun hc_447 => ?_)
                · rw [if_pos hc_447] at h
                  refine az_E.sn 1 (pc' := 31) (L' := [.ref 63, .int v2, .int v5]) (S' := [.int (0 : Int32)]) (σ' := (97, I, J, R)) rfl ?_
                  refine az_E.ret (v := some (.int (0 : Int32))) (σ' := (97, I, J, R)) rfl ?_
                  show az_E az_F ex 2 128 83 [.retAddr 0, .retAddr 0, .int v2, .retAddr 0, .int v4, .int v5, .ref 63, .ref 65] [.int (0 : Int32)] (97, I, J, R) _
                  refine az_E.br (c := (0 : Int32) = 0) (tt := 98) (ff := 86) (L' := [.retAddr 0, .retAddr 0, .int v2, .retAddr 0, .int v4, .int v5, .ref 63, .ref 65]) (S' := []) (σ' := (97, I, J, R)) rfl (fun _ => ?_) (fun hn => absurd (by decide) hn)
                  refine az_E.sn 1 (pc' := 100) (L' := [.retAddr 0, .retAddr 0, .int v2, .retAddr 0, .int v4, .int v5, .ref 63, .ref 65]) (S' := [.int (-13 : Int32)]) (σ' := (97, I, J, R)) rfl ?_
                  have h := Option.some.inj h
                  subst h
                  exact az_E.ret (v := some (.int (-13 : Int32))) (σ' := (97, I, J, R)) rfl hQ
                · rw [if_neg hc_447] at h
                  refine az_E.sn 1 (pc' := 5) (L' := [.ref 63, .int v2, .int v5]) (S' := [.int v5]) (σ' := (97, I, J, R)) rfl ?_
                  refine az_E.br (c := v5 < 0) (tt := 30) (ff := 8) (L' := [.ref 63, .int v2, .int v5]) (S' := []) (σ' := (97, I, J, R)) rfl (fun hc_448 => ?_) (fun hc_448 => ?_)
                  · rw [if_pos hc_448] at h
                    refine az_E.sn 1 (pc' := 31) (L' := [.ref 63, .int v2, .int v5]) (S' := [.int (0 : Int32)]) (σ' := (97, I, J, R)) rfl ?_
                    refine az_E.ret (v := some (.int (0 : Int32))) (σ' := (97, I, J, R)) rfl ?_
                    show az_E az_F ex 2 128 83 [.retAddr 0, .retAddr 0, .int v2, .retAddr 0, .int v4, .int v5, .ref 63, .ref 65] [.int (0 : Int32)] (97, I, J, R) _
                    refine az_E.br (c := (0 : Int32) = 0) (tt := 98) (ff := 86) (L' := [.retAddr 0, .retAddr 0, .int v2, .retAddr 0, .int v4, .int v5, .ref 63, .ref 65]) (S' := []) (σ' := (97, I, J, R)) rfl (fun _ => ?_) (fun hn => absurd (by decide) hn)
                    refine az_E.sn 1 (pc' := 100) (L' := [.retAddr 0, .retAddr 0, .int v2, .retAddr 0, .int v4, .int v5, .ref 63, .ref 65]) (S' := [.int (-13 : Int32)]) (σ' := (97, I, J, R)) rfl ?_
                    have h := Option.some.inj h
                    subst h
                    exact az_E.ret (v := some (.int (-13 : Int32))) (σ' := (97, I, J, R)) rfl hQ
                  · rw [if_neg hc_448] at h
                    refine az_E.sn 3 (pc' := 13) (L' := [.ref 63, .int v2, .int v5]) (S' := [.int (I 63 2), .int v2]) (σ' := (97, I, J, R)) rfl ?_
                    refine az_E.br (c := (I 63 2) < v2) (tt := 30) (ff := 16) (L' := [.ref 63, .int v2, .int v5]) (S' := []) (σ' := (97, I, J, R)) rfl (fun hc_449 => ?_) (fun hc_449 => ?_)
                    · rw [if_pos hc_449] at h
                      refine az_E.sn 1 (pc' := 31) (L' := [.ref 63, .int v2, .int v5]) (S' := [.int (0 : Int32)]) (σ' := (97, I, J, R)) rfl ?_
                      refine az_E.ret (v := some (.int (0 : Int32))) (σ' := (97, I, J, R)) rfl ?_
                      show az_E az_F ex 2 128 83 [.retAddr 0, .retAddr 0, .int v2, .retAddr 0, .int v4, .int v5, .ref 63, .ref 65] [.int (0 : Int32)] (97, I, J, R) _
                      refine az_E.br (c := (0 : Int32) = 0) (tt := 98) (ff := 86) (L' := [.retAddr 0, .retAddr 0, .int v2, .retAddr 0, .int v4, .int v5, .ref 63, .ref 65]) (S' := []) (σ' := (97, I, J, R)) rfl (fun _ => ?_) (fun hn => absurd (by decide) hn)
                      refine az_E.sn 1 (pc' := 100) (L' := [.retAddr 0, .retAddr 0, .int v2, .retAddr 0, .int v4, .int v5, .ref 63, .ref 65]) (S' := [.int (-13 : Int32)]) (σ' := (97, I, J, R)) rfl ?_
                      have h := Option.some.inj h
                      subst h
                      exact az_E.ret (v := some (.int (-13 : Int32))) (σ' := (97, I, J, R)) rfl hQ
                    · rw [if_neg hc_449] at h
                      refine az_E.sn 5 (pc' := 23) (L' := [.ref 63, .int v2, .int v5]) (S' := [.int ((I 63 2) - v2), .int v5]) (σ' := (97, I, J, R)) rfl ?_
                      refine az_E.br (c := ((I 63 2) - v2) < v5) (tt := 30) (ff := 26) (L' := [.ref 63, .int v2, .int v5]) (S' := []) (σ' := (97, I, J, R)) rfl (fun hc_450 => ?_) (fun hc_450 => ?_)
                      · rw [if_pos hc_450] at h
                        refine az_E.sn 1 (pc' := 31) (L' := [.ref 63, .int v2, .int v5]) (S' := [.int (0 : Int32)]) (σ' := (97, I, J, R)) rfl ?_
                        refine az_E.ret (v := some (.int (0 : Int32))) (σ' := (97, I, J, R)) rfl ?_
                        show az_E az_F ex 2 128 83 [.retAddr 0, .retAddr 0, .int v2, .retAddr 0, .int v4, .int v5, .ref 63, .ref 65] [.int (0 : Int32)] (97, I, J, R) _
                        refine az_E.br (c := (0 : Int32) = 0) (tt := 98) (ff := 86) (L' := [.retAddr 0, .retAddr 0, .int v2, .retAddr 0, .int v4, .int v5, .ref 63, .ref 65]) (S' := []) (σ' := (97, I, J, R)) rfl (fun _ => ?_) (fun hn => absurd (by decide) hn)
                        refine az_E.sn 1 (pc' := 100) (L' := [.retAddr 0, .retAddr 0, .int v2, .retAddr 0, .int v4, .int v5, .ref 63, .ref 65]) (S' := [.int (-13 : Int32)]) (σ' := (97, I, J, R)) rfl ?_
                        have h := Option.some.inj h
                        subst h
                        exact az_E.ret (v := some (.int (-13 : Int32))) (σ' := (97, I, J, R)) rfl hQ
                      · rw [if_neg hc_450] at h
                        refine az_E.sn 2 (pc' := 31) (L' := [.ref 63, .int v2, .int v5]) (S' := [.int (1 : Int32)]) (σ' := (97, I, J, R)) rfl ?_
                        refine az_E.ret (v := some (.int (1 : Int32))) (σ' := (97, I, J, R)) rfl ?_
                        show az_E az_F ex 2 128 83 [.retAddr 0, .retAddr 0, .int v2, .retAddr 0, .int v4, .int v5, .ref 63, .ref 65] [.int (1 : Int32)] (97, I, J, R) _
                        refine az_E.br (c := (1 : Int32) = 0) (tt := 98) (ff := 86) (L' := [.retAddr 0, .retAddr 0, .int v2, .retAddr 0, .int v4, .int v5, .ref 63, .ref 65]) (S' := []) (σ' := (97, I, J, R)) rfl (fun hn => absurd hn (by decide)) (fun _ => ?_)
                        refine az_E.sn 3 (pc' := 92) (L' := [.retAddr 0, .retAddr 0, .int v2, .retAddr 0, .int v4, .int v5, .ref 63, .ref 65]) (S' := [.int v5, .int v4, .ref 65]) (σ' := (97, I, J, R)) rfl ?_
                        refine az_E.call (d := 1) (k' := 60) (vs := [.ref 65, .int v4, .int v5]) (pc' := 95) (S' := []) rfl ?_ (fun _ _ hq => hq)
                        show az_E az_F ex 1 60 0 [.ref 65, .int v4, .int v5] [] (97, I, J, R) _
                        refine az_E.sn 1 (pc' := 1) (L' := [.ref 65, .int v4, .int v5]) (S' := [.int v4]) (σ' := (97, I, J, R)) rfl ?_
                        refine az_E.br (c := v4 < 0) (tt := 30) (ff := 4) (L' := [.ref 65, .int v4, .int v5]) (S' := []) (σ' := (97, I, J, R)) rfl (fun hc_451 => ?_) (fun hc_451 => ?_)
                        · rw [if_pos hc_451] at h
                          refine az_E.sn 1 (pc' := 31) (L' := [.ref 65, .int v4, .int v5]) (S' := [.int (0 : Int32)]) (σ' := (97, I, J, R)) rfl ?_
                          refine az_E.ret (v := some (.int (0 : Int32))) (σ' := (97, I, J, R)) rfl ?_
                          show az_E az_F ex 2 128 95 [.retAddr 0, .retAddr 0, .int v2, .retAddr 0, .int v4, .int v5, .ref 63, .ref 65] [.int (0 : Int32)] (97, I, J, R) _
                          refine az_E.br (c := (0 : Int32) = 0) (tt := 98) (ff := 101) (L' := [.retAddr 0, .retAddr 0, .int v2, .retAddr 0, .int v4, .int v5, .ref 63, .ref 65]) (S' := []) (σ' := (97, I, J, R)) rfl (fun _ => ?_) (fun hn => absurd (by decide) hn)
                          refine az_E.sn 1 (pc' := 100) (L' := [.retAddr 0, .retAddr 0, .int v2, .retAddr 0, .int v4, .int v5, .ref 63, .ref 65]) (S' := [.int (-13 : Int32)]) (σ' := (97, I, J, R)) rfl ?_
                          have h := Option.some.inj h
                          subst h
                          exact az_E.ret (v := some (.int (-13 : Int32))) (σ' := (97, I, J, R)) rfl hQ
                        · rw [if_neg hc_451] at h
                          refine az_E.sn 1 (pc' := 5) (L' := [.ref 65, .int v4, .int v5]) (S' := [.int v5]) (σ' := (97, I, J, R)) rfl ?_
                          refine az_E.br (c := v5 < 0) (tt := 30) (ff := 8) (L' := [.ref 65, .int v4, .int v5]) (S' := []) (σ' := (97, I, J, R)) rfl (fun hc_452 => ?_) (fun hc_452 => ?_)
                          · rw [if_pos hc_452] at h
                            refine az_E.sn 1 (pc' := 31) (L' := [.ref 65, .int v4, .int v5]) (S' := [.int (0 : Int32)]) (σ' := (97, I, J, R)) rfl ?_
                            refine az_E.ret (v := some (.int (0 : Int32))) (σ' := (97, I, J, R)) rfl ?_
                            show az_E az_F ex 2 128 95 [.retAddr 0, .retAddr 0, .int v2, .retAddr 0, .int v4, .int v5, .ref 63, .ref 65] [.int (0 : Int32)] (97, I, J, R) _
                            refine az_E.br (c := (0 : Int32) = 0) (tt := 98) (ff := 101) (L' := [.retAddr 0, .retAddr 0, .int v2, .retAddr 0, .int v4, .int v5, .ref 63, .ref 65]) (S' := []) (σ' := (97, I, J, R)) rfl (fun _ => ?_) (fun hn => absurd (by decide) hn)
                            refine az_E.sn 1 (pc' := 100) (L' := [.retAddr 0, .retAddr 0, .int v2, .retAddr 0, .int v4, .int v5, .ref 63, .ref 65]) (S' := [.int (-13 : Int32)]) (σ' := (97, I, J, R)) rfl ?_
                            have h := Option.some.inj h
                            subst h
                            exact az_E.ret (v := some (.int (-13 : Int32))) (σ' := (97, I, J, R)) rfl hQ
                          · rw [if_neg hc_452] at h
                            refine az_E.sn 3 (pc' := 13) (L' := [.ref 65, .int v4, .int v5]) (S' := [.int (I 65 2), .int v4]) (σ' := (97, I, J, R)) rfl ?_
                            refine az_E.br (c := (I 65 2) < v4) (tt := 30) (ff := 16) (L' := [.ref 65, .int v4, .int v5]) (S' := []) (σ' := (97, I, J, R)) rfl (fun hc_453 => ?_) (fun hc_453 => ?_)
                            · rw [if_pos hc_453] at h
                              refine az_E.sn 1 (pc' := 31) (L' := [.ref 65, .int v4, .int v5]) (S' := [.int (0 : Int32)]) (σ' := (97, I, J, R)) rfl ?_
                              refine az_E.ret (v := some (.int (0 : Int32))) (σ' := (97, I, J, R)) rfl ?_
                              show az_E az_F ex 2 128 95 [.retAddr 0, .retAddr 0, .int v2, .retAddr 0, .int v4, .int v5, .ref 63, .ref 65] [.int (0 : Int32)] (97, I, J, R) _
                              refine az_E.br (c := (0 : Int32) = 0) (tt := 98) (ff := 101) (L' := [.retAddr 0, .retAddr 0, .int v2, .retAddr 0, .int v4, .int v5, .ref 63, .ref 65]) (S' := []) (σ' := (97, I, J, R)) rfl (fun _ => ?_) (fun hn => absurd (by decide) hn)
                              refine az_E.sn 1 (pc' := 100) (L' := [.retAddr 0, .retAddr 0, .int v2, .retAddr 0, .int v4, .int v5, .ref 63, .ref 65]) (S' := [.int (-13 : Int32)]) (σ' := (97, I, J, R)) rfl ?_
                              have h := Option.some.inj h
                              subst h
                              exact az_E.ret (v := some (.int (-13 : Int32))) (σ' := (97, I, J, R)) rfl hQ
                            · rw [if_neg hc_453] at h
                              refine az_E.sn 5 (pc' := 23) (L' := [.ref 65, .int v4, .int v5]) (S' := [.int ((I 65 2) - v4), .int v5]) (σ' := (97, I, J, R)) rfl ?_
                              refine az_E.br (c := ((I 65 2) - v4) < v5) (tt := 30) (ff := 26) (L' := [.ref 65, .int v4, .int v5]) (S' := []) (σ' := (97, I, J, R)) rfl (fun hc_454 => ?_) (fun hc_454 => ?_)
                              · rw [if_pos hc_454] at h
                                refine az_E.sn 1 (pc' := 31) (L' := [.ref 65, .int v4, .int v5]) (S' := [.int (0 : Int32)]) (σ' := (97, I, J, R)) rfl ?_
                                refine az_E.ret (v := some (.int (0 : Int32))) (σ' := (97, I, J, R)) rfl ?_
                                show az_E az_F ex 2 128 95 [.retAddr 0, .retAddr 0, .int v2, .retAddr 0, .int v4, .int v5, .ref 63, .ref 65] [.int (0 : Int32)] (97, I, J, R) _
                                refine az_E.br (c := (0 : Int32) = 0) (tt := 98) (ff := 101) (L' := [.retAddr 0, .retAddr 0, .int v2, .retAddr 0, .int v4, .int v5, .ref 63, .ref 65]) (S' := []) (σ' := (97, I, J, R)) rfl (fun _ => ?_) (fun hn => absurd (by decide) hn)
                                refine az_E.sn 1 (pc' := 100) (L' := [.retAddr 0, .retAddr 0, .int v2, .retAddr 0, .int v4, .int v5, .ref 63, .ref 65]) (S' := [.int (-13 : Int32)]) (σ' := (97, I, J, R)) rfl ?_
                                have h := Option.some.inj h
                                subst h
                                exact az_E.ret (v := some (.int (-13 : Int32))) (σ' := (97, I, J, R)) rfl hQ
                              · rw [if_neg hc_454] at h
                                refine az_E.sn 2 (pc' := 31) (L' := [.ref 65, .int v4, .int v5]) (S' := [.int (1 : Int32)]) (σ' := (97, I, J, R)) rfl ?_
                                refine az_E.ret (v := some (.int (1 : Int32))) (σ' := (97, I, J, R)) rfl ?_
                                show az_E az_F ex 2 128 95 [.retAddr 0, .retAddr 0, .int v2, .retAddr 0, .int v4, .int v5, .ref 63, .ref 65] [.int (1 : Int32)] (97, I, J, R) _
                                refine az_E.br (c := (1 : Int32) = 0) (tt := 98) (ff := 101) (L' := [.retAddr 0, .retAddr 0, .int v2, .retAddr 0, .int v4, .int v5, .ref 63, .ref 65]) (S' := []) (σ' := (97, I, J, R)) rfl (fun hn => absurd hn (by decide)) (fun _ => ?_)
                                refine az_E.sn 7 (pc' := 116) (L' := [.retAddr 0, .retAddr 0, .int v2, .retAddr 0, .int v4, .int v5, .ref 63, .ref 65]) (S' := [.int v5, .int v4, .ref (65 + 1), .int v2, .ref (63 + 1)]) (σ' := (97, I, J, R)) rfl ?_
                                by_cases hc_455 : v2 < 0 ∨ v4 < 0 ∨ v5 < 0 ∨ 60 < v2.toNatClampNeg + v5.toNatClampNeg ∨ 60 < v4.toNatClampNeg + v5.toNatClampNeg
                                · rw [if_pos hc_455] at h; cases h
                                · rw [if_neg hc_455] at h
                                  refine az_E.o (o := az_cp az_F (97, I, J, R) (63 + 1) v2 (65 + 1) v4 v5) (pc' := 119) (L' := [.retAddr 0, .retAddr 0, .int v2, .retAddr 0, .int v4, .int v5, .ref 63, .ref 65]) (S' := []) (x := (97, I, (az_ur J (65 + 1) (va_cpy (J (63 + 1)) (J (65 + 1)) v2.toNatClampNeg v4.toNatClampNeg v5.toNatClampNeg)), R)) rfl (if_neg hc_455) ?_
                                  refine az_E.sn 1 (pc' := 121) (L' := [.retAddr 0, .retAddr 0, .int v2, .retAddr 0, .int v4, .int v5, .ref 63, .ref 65]) (S' := [.int v5]) (σ' := (97, I, (az_ur J (65 + 1) (va_cpy (J (63 + 1)) (J (65 + 1)) v2.toNatClampNeg v4.toNatClampNeg v5.toNatClampNeg)), R)) rfl ?_
                                  have h := Option.some.inj h
                                  subst h
                                  exact az_E.ret (v := some (.int v5)) (σ' := (97, I, (az_ur J (65 + 1) (va_cpy (J (63 + 1)) (J (65 + 1)) v2.toNatClampNeg v4.toNatClampNeg v5.toNatClampNeg)), R)) rfl hQ
              · rw [if_neg hc_446] at h
                refine az_E.sn 1 (pc' := 20) (L' := [.ref 65, .int (I 63 1)]) (S' := [.int (0 : Int32)]) (σ' := (97, I, J, R)) rfl ?_
                refine az_E.ret (v := some (.int (0 : Int32))) (σ' := (97, I, J, R)) rfl ?_
                show az_E az_F ex 2 128 69 [.retAddr 0, .retAddr 0, .int v2, .retAddr 0, .int v4, .int v5, .ref 63, .ref 65] [.int (0 : Int32)] (97, I, J, R) _
                refine az_E.br (c := (0 : Int32) = 0) (tt := 72) (ff := 75) (L' := [.retAddr 0, .retAddr 0, .int v2, .retAddr 0, .int v4, .int v5, .ref 63, .ref 65]) (S' := []) (σ' := (97, I, J, R)) rfl (fun _ => ?_) (fun hn => absurd (by decide) hn)
                refine az_E.sn 1 (pc' := 74) (L' := [.retAddr 0, .retAddr 0, .int v2, .retAddr 0, .int v4, .int v5, .ref 63, .ref 65]) (S' := [.int (-12 : Int32)]) (σ' := (97, I, J, R)) rfl ?_
                have h := Option.some.inj h
                subst h
                exact az_E.ret (v := some (.int (-12 : Int32))) (σ' := (97, I, J, R)) rfl hQ
      · rw [if_neg hc_442] at h
        refine az_E.sn 1 (pc' := 21) (L' := [.ref 65]) (S' := [.int (0 : Int32)]) (σ' := (97, I, J, R)) rfl ?_
        refine az_E.ret (v := some (.int (0 : Int32))) (σ' := (97, I, J, R)) rfl ?_
        show az_E az_F ex 2 128 45 [.retAddr 0, .retAddr 0, .int v2, .retAddr 0, .int v4, .int v5, .ref 63, .ref 65] [.int (0 : Int32)] (97, I, J, R) _
        refine az_E.br (c := (0 : Int32) = 0) (tt := 51) (ff := 48) (L' := [.retAddr 0, .retAddr 0, .int v2, .retAddr 0, .int v4, .int v5, .ref 63, .ref 65]) (S' := []) (σ' := (97, I, J, R)) rfl (fun _ => ?_) (fun hn => absurd (by decide) hn)
        refine az_E.sn 1 (pc' := 53) (L' := [.retAddr 0, .retAddr 0, .int v2, .retAddr 0, .int v4, .int v5, .ref 63, .ref 65]) (S' := [.ref 63]) (σ' := (97, I, J, R)) rfl ?_
        refine az_E.call (d := 1) (k' := 55) (vs := [.ref 63]) (pc' := 56) (S' := []) rfl ?_ (fun _ _ hq => hq)
        show az_E az_F ex 1 55 0 [.ref 63] [] (97, I, J, R) _
        refine az_E.sn 3 (pc' := 5) (L' := [.ref 63]) (S' := [.int (-1 : Int32), .int (I 63 1)]) (σ' := (97, I, J, R)) rfl ?_
        refine az_E.br (c := (I 63 1) = (-1 : Int32)) (tt := 12) (ff := 8) (L' := [.ref 63]) (S' := []) (σ' := (97, I, J, R)) rfl (fun hc_456 => ?_) (fun hc_456 => ?_)
        · rw [if_pos hc_456] at h
          refine az_E.sn 1 (pc' := 13) (L' := [.ref 63]) (S' := [.int (0 : Int32)]) (σ' := (97, I, J, R)) rfl ?_
          refine az_E.ret (v := some (.int (0 : Int32))) (σ' := (97, I, J, R)) rfl ?_
          show az_E az_F ex 2 128 56 [.retAddr 0, .retAddr 0, .int v2, .retAddr 0, .int v4, .int v5, .ref 63, .ref 65] [.int (0 : Int32)] (97, I, J, R) _
          refine az_E.br (c := (0 : Int32) = 0) (tt := 72) (ff := 59) (L' := [.retAddr 0, .retAddr 0, .int v2, .retAddr 0, .int v4, .int v5, .ref 63, .ref 65]) (S' := []) (σ' := (97, I, J, R)) rfl (fun _ => ?_) (fun hn => absurd (by decide) hn)
          refine az_E.sn 1 (pc' := 74) (L' := [.retAddr 0, .retAddr 0, .int v2, .retAddr 0, .int v4, .int v5, .ref 63, .ref 65]) (S' := [.int (-12 : Int32)]) (σ' := (97, I, J, R)) rfl ?_
          have h := Option.some.inj h
          subst h
          exact az_E.ret (v := some (.int (-12 : Int32))) (σ' := (97, I, J, R)) rfl hQ
        · rw [if_neg hc_456] at h
          refine az_E.sn 2 (pc' := 13) (L' := [.ref 63]) (S' := [.int (1 : Int32)]) (σ' := (97, I, J, R)) rfl ?_
          refine az_E.ret (v := some (.int (1 : Int32))) (σ' := (97, I, J, R)) rfl ?_
          show az_E az_F ex 2 128 56 [.retAddr 0, .retAddr 0, .int v2, .retAddr 0, .int v4, .int v5, .ref 63, .ref 65] [.int (1 : Int32)] (97, I, J, R) _
          refine az_E.br (c := (1 : Int32) = 0) (tt := 72) (ff := 59) (L' := [.retAddr 0, .retAddr 0, .int v2, .retAddr 0, .int v4, .int v5, .ref 63, .ref 65]) (S' := []) (σ' := (97, I, J, R)) rfl (fun hn => absurd hn (by decide)) (fun _ => ?_)
          refine az_E.sn 3 (pc' := 66) (L' := [.retAddr 0, .retAddr 0, .int v2, .retAddr 0, .int v4, .int v5, .ref 63, .ref 65]) (S' := [.int (I 63 1), .ref 65]) (σ' := (97, I, J, R)) rfl ?_
          refine az_E.call (d := 1) (k' := 56) (vs := [.ref 65, .int (I 63 1)]) (pc' := 69) (S' := []) rfl ?_ (fun _ _ hq => hq)
          show az_E az_F ex 1 56 0 [.ref 65, .int (I 63 1)] [] (97, I, J, R) _
          refine az_E.sn 1 (pc' := 1) (L' := [.ref 65, .int (I 63 1)]) (S' := [.ref 65]) (σ' := (97, I, J, R)) rfl ?_
          refine az_E.call (d := 0) (k' := 55) (vs := [.ref 65]) (pc' := 4) (S' := []) rfl ?_ (fun _ _ hq => hq)
          show az_E az_F ex 0 55 0 [.ref 65] [] (97, I, J, R) _
          refine az_E.sn 3 (pc' := 5) (L' := [.ref 65]) (S' := [.int (-1 : Int32), .int (I 65 1)]) (σ' := (97, I, J, R)) rfl ?_
          refine az_E.br (c := (I 65 1) = (-1 : Int32)) (tt := 12) (ff := 8) (L' := [.ref 65]) (S' := []) (σ' := (97, I, J, R)) rfl (fun hc_457 => ?_) (fun hc_457 => ?_)
          · rw [if_pos hc_457] at h
            refine az_E.sn 1 (pc' := 13) (L' := [.ref 65]) (S' := [.int (0 : Int32)]) (σ' := (97, I, J, R)) rfl ?_
            refine az_E.ret (v := some (.int (0 : Int32))) (σ' := (97, I, J, R)) rfl ?_
            show az_E az_F ex 1 56 4 [.ref 65, .int (I 63 1)] [.int (0 : Int32)] (97, I, J, R) _
            refine az_E.br (c := (0 : Int32) = 0) (tt := 19) (ff := 7) (L' := [.ref 65, .int (I 63 1)]) (S' := []) (σ' := (97, I, J, R)) rfl (fun _ => ?_) (fun hn => absurd (by decide) hn)
            refine az_E.sn 1 (pc' := 20) (L' := [.ref 65, .int (I 63 1)]) (S' := [.int (0 : Int32)]) (σ' := (97, I, J, R)) rfl ?_
            refine az_E.ret (v := some (.int (0 : Int32))) (σ' := (97, I, J, R)) rfl ?_
            show az_E az_F ex 2 128 69 [.retAddr 0, .retAddr 0, .int v2, .retAddr 0, .int v4, .int v5, .ref 63, .ref 65] [.int (0 : Int32)] (97, I, J, R) _
            refine az_E.br (c := (0 : Int32) = 0) (tt := 72) (ff := 75) (L' := [.retAddr 0, .retAddr 0, .int v2, .retAddr 0, .int v4, .int v5, .ref 63, .ref 65]) (S' := []) (σ' := (97, I, J, R)) rfl (fun _ => ?_) (fun hn => absurd (by decide) hn)
            refine az_E.sn 1 (pc' := 74) (L' := [.retAddr 0, .retAddr 0, .int v2, .retAddr 0, .int v4, .int v5, .ref 63, .ref 65]) (S' := [.int (-12 : Int32)]) (σ' := (97, I, J, R)) rfl ?_
            have h := Option.some.inj h
            subst h
            exact az_E.ret (v := some (.int (-12 : Int32))) (σ' := (97, I, J, R)) rfl hQ
          · rw [if_neg hc_457] at h
            refine az_E.sn 2 (pc' := 13) (L' := [.ref 65]) (S' := [.int (1 : Int32)]) (σ' := (97, I, J, R)) rfl ?_
            refine az_E.ret (v := some (.int (1 : Int32))) (σ' := (97, I, J, R)) rfl ?_
            show az_E az_F ex 1 56 4 [.ref 65, .int (I 63 1)] [.int (1 : Int32)] (97, I, J, R) _
            refine az_E.br (c := (1 : Int32) = 0) (tt := 19) (ff := 7) (L' := [.ref 65, .int (I 63 1)]) (S' := []) (σ' := (97, I, J, R)) rfl (fun hn => absurd hn (by decide)) (fun _ => ?_)
            refine az_E.sn 3 (pc' := 12) (L' := [.ref 65, .int (I 63 1)]) (S' := [.int (I 63 1), .int (I 65 1)]) (σ' := (97, I, J, R)) rfl ?_
            refine az_E.br (c := (I 65 1) = (I 63 1)) (tt := 15) (ff := 19) (L' := [.ref 65, .int (I 63 1)]) (S' := []) (σ' := (97, I, J, R)) rfl (fun hc_458 => ?_) (fun hc_458 => ?_)
            · rw [if_pos hc_458] at h
              refine az_E.sn 2 (pc' := 20) (L' := [.ref 65, .int (I 63 1)]) (S' := [.int (1 : Int32)]) (σ' := (97, I, J, R)) rfl ?_
              refine az_E.ret (v := some (.int (1 : Int32))) (σ' := (97, I, J, R)) rfl ?_
              show az_E az_F ex 2 128 69 [.retAddr 0, .retAddr 0, .int v2, .retAddr 0, .int v4, .int v5, .ref 63, .ref 65] [.int (1 : Int32)] (97, I, J, R) _
              refine az_E.br (c := (1 : Int32) = 0) (tt := 72) (ff := 75) (L' := [.retAddr 0, .retAddr 0, .int v2, .retAddr 0, .int v4, .int v5, .ref 63, .ref 65]) (S' := []) (σ' := (97, I, J, R)) rfl (fun hn => absurd hn (by decide)) (fun _ => ?_)
              refine az_E.sn 3 (pc' := 80) (L' := [.retAddr 0, .retAddr 0, .int v2, .retAddr 0, .int v4, .int v5, .ref 63, .ref 65]) (S' := [.int v5, .int v2, .ref 63]) (σ' := (97, I, J, R)) rfl ?_
              refine az_E.call (d := 1) (k' := 60) (vs := [.ref 63, .int v2, .int v5]) (pc' := 83) (S' := []) rfl ?_ (fun _ _ hq => hq)
              show az_E az_F ex 1 60 0 [.ref 63, .int v2, .int v5] [] (97, I, J, R) _
              refine az_E.sn 1 (pc' := 1) (L' := [.ref 63, .int v2, .int v5]) (S' := [.int v2]) (σ' := (97, I, J, R)) rfl ?_
              refine az_E.br (c := v2 < 0) (tt := 30) (ff := 4) (L' := [.ref 63, .int v2, .int v5]) (S' := []) (σ' := (97, I, J, R)) rfl (fun hc_459 => ?_) (fun hc_459 => ?_)
              · rw [if_pos hc_459] at h
                refine az_E.sn 1 (pc' := 31) (L' := [.ref 63, .int v2, .int v5]) (S' := [.int (0 : Int32)]) (σ' := (97, I, J, R)) rfl ?_
                refine az_E.ret (v := some (.int (0 : Int32))) (σ' := (97, I, J, R)) rfl ?_
                show az_E az_F ex 2 128 83 [.retAddr 0, .retAddr 0, .int v2, .retAddr 0, .int v4, .int v5, .ref 63, .ref 65] [.int (0 : Int32)] (97, I, J, R) _
                refine az_E.br (c := (0 : Int32) = 0) (tt := 98) (ff := 86) (L' := [.retAddr 0, .retAddr 0, .int v2, .retAddr 0, .int v4, .int v5, .ref 63, .ref 65]) (S' := []) (σ' := (97, I, J, R)) rfl (fun _ => ?_) (fun hn => absurd (by decide) hn)
                refine az_E.sn 1 (pc' := 100) (L' := [.retAddr 0, .retAddr 0, .int v2, .retAddr 0, .int v4, .int v5, .ref 63, .ref 65]) (S' := [.int (-13 : Int32)]) (σ' := (97, I, J, R)) rfl ?_
                have h := Option.some.inj h
                subst h
                exact az_E.ret (v := some (.int (-13 : Int32))) (σ' := (97, I, J, R)) rfl hQ
              · rw [if_neg hc_459] at h
                refine az_E.sn 1 (pc' := 5) (L' := [.ref 63, .int v2, .int v5]) (S' := [.int v5]) (σ' := (97, I, J, R)) rfl ?_
                refine az_E.br (c := v5 < 0) (tt := 30) (ff := 8) (L' := [.ref 63, .int v2, .int v5]) (S' := []) (σ' := (97, I, J, R)) rfl (fun hc_460 => ?_) (fun hc_460 => ?_)
                · rw [if_pos hc_460] at h
                  refine az_E.sn 1 (pc' := 31) (L' := [.ref 63, .int v2, .int v5]) (S' := [.int (0 : Int32)]) (σ' := (97, I, J, R)) rfl ?_
                  refine az_E.ret (v := some (.int (0 : Int32))) (σ' := (97, I, J, R)) rfl ?_
                  show az_E az_F ex 2 128 83 [.retAddr 0, .retAddr 0, .int v2, .retAddr 0, .int v4, .int v5, .ref 63, .ref 65] [.int (0 : Int32)] (97, I, J, R) _
                  refine az_E.br (c := (0 : Int32) = 0) (tt := 98) (ff := 86) (L' := [.retAddr 0, .retAddr 0, .int v2, .retAddr 0, .int v4, .int v5, .ref 63, .ref 65]) (S' := []) (σ' := (97, I, J, R)) rfl (fun _ => ?_) (fun hn => absurd (by decide) hn)
                  refine az_E.sn 1 (pc' := 100) (L' := [.retAddr 0, .retAddr 0, .int v2, .retAddr 0, .int v4, .int v5, .ref 63, .ref 65]) (S' := [.int (-13 : Int32)]) (σ' := (97, I, J, R)) rfl ?_
                  have h := Option.some.inj h
                  subst h
                  exact az_E.ret (v := some (.int (-13 : Int32))) (σ' := (97, I, J, R)) rfl hQ
                · rw [if_neg hc_460] at h
                  refine az_E.sn 3 (pc' := 13) (L' := [.ref 63, .int v2, .int v5]) (S' := [.int (I 63 2), .int v2]) (σ' := (97, I, J, R)) rfl ?_
                  refine az_E.br (c := (I 63 2) < v2) (tt := 30) (ff := 16) (L' := [.ref 63, .int v2, .int v5]) (S' := []) (σ' := (97, I, J, R)) rfl (fun hc_461 => ?_) (fun hc_461 => ?_)
                  · rw [if_pos hc_461] at h
                    refine az_E.sn 1 (pc' := 31) (L' := [.ref 63, .int v2, .int v5]) (S' := [.int (0 : Int32)]) (σ' := (97, I, J, R)) rfl ?_
                    refine az_E.ret (v := some (.int (0 : Int32))) (σ' := (97, I, J, R)) rfl ?_
                    show az_E az_F ex 2 128 83 [.retAddr 0, .retAddr 0, .int v2, .retAddr 0, .int v4, .int v5, .ref 63, .ref 65] [.int (0 : Int32)] (97, I, J, R) _
                    refine az_E.br (c := (0 : Int32) = 0) (tt := 98) (ff := 86) (L' := [.retAddr 0, .retAddr 0, .int v2, .retAddr 0, .int v4, .int v5, .ref 63, .ref 65]) (S' := []) (σ' := (97, I, J, R)) rfl (fun _ => ?_) (fun hn => absurd (by decide) hn)
                    refine az_E.sn 1 (pc' := 100) (L' := [.retAddr 0, .retAddr 0, .int v2, .retAddr 0, .int v4, .int v5, .ref 63, .ref 65]) (S' := [.int (-13 : Int32)]) (σ' := (97, I, J, R)) rfl ?_
                    have h := Option.some.inj h
                    subst h
                    exact az_E.ret (v := some (.int (-13 : Int32))) (σ' := (97, I, J, R)) rfl hQ
                  · rw [if_neg hc_461] at h
                    refine az_E.sn 5 (pc' := 23) (L' := [.ref 63, .int v2, .int v5]) (S' := [.int ((I 63 2) - v2), .int v5]) (σ' := (97, I, J, R)) rfl ?_
                    refine az_E.br (c := ((I 63 2) - v2) < v5) (tt := 30) (ff := 26) (L' := [.ref 63, .int v2, .int v5]) (S' := []) (σ' := (97, I, J, R)) rfl (fun hc_462 => ?_) (fun hc_462 => ?_)
                    · rw [if_pos hc_462] at h
                      refine az_E.sn 1 (pc' := 31) (L' := [.ref 63, .int v2, .int v5]) (S' := [.int (0 : Int32)]) (σ' := (97, I, J, R)) rfl ?_
                      refine az_E.ret (v := some (.int (0 : Int32))) (σ' := (97, I, J, R)) rfl ?_
                      show az_E az_F ex 2 128 83 [.retAddr 0, .retAddr 0, .int v2, .retAddr 0, .int v4, .int v5, .ref 63, .ref 65] [.int (0 : Int32)] (97, I, J, R) _
                      refine az_E.br (c := (0 : Int32) = 0) (tt := 98) (ff := 86) (L' := [.retAddr 0, .retAddr 0, .int v2, .retAddr 0, .int v4, .int v5, .ref 63, .ref 65]) (S' := []) (σ' := (97, I, J, R)) rfl (fun _ => ?_) (fun hn => absurd (by decide) hn)
                      refine az_E.sn 1 (pc' := 100) (L' := [.retAddr 0, .retAddr 0, .int v2, .retAddr 0, .int v4, .int v5, .ref 63, .ref 65]) (S' := [.int (-13 : Int32)]) (σ' := (97, I, J, R)) rfl ?_
                      have h := Option.some.inj h
                      subst h
                      exact az_E.ret (v := some (.int (-13 : Int32))) (σ' := (97, I, J, R)) rfl hQ
                    · rw [if_neg hc_462] at h
                      refine az_E.sn 2 (pc' := 31) (L' := [.ref 63, .int v2, .int v5]) (S' := [.int (1 : Int32)]) (σ' := (97, I, J, R)) rfl ?_
                      refine az_E.ret (v := some (.int (1 : Int32))) (σ' := (97, I, J, R)) rfl ?_
                      show az_E az_F ex 2 128 83 [.retAddr 0, .retAddr 0, .int v2, .retAddr 0, .int v4, .int v5, .ref 63, .ref 65] [.int (1 : Int32)] (97, I, J, R) _
                      refine az_E.br (c := (1 : Int32) = 0) (tt := 98) (ff := 86) (L' := [.retAddr 0, .retAddr 0, .int v2, .retAddr 0, .int v4, .int v5, .ref 63, .ref 65]) (S' := []) (σ' := (97, I, J, R)) rfl (fun hn => absurd hn (by decide)) (fun _ => ?_)
                      refine az_E.sn 3 (pc' := 92) (L' := [.retAddr 0, .retAddr 0, .int v2, .retAddr 0, .int v4, .int v5, .ref 63, .ref 65]) (S' := [.int v5, .int v4, .ref 65]) (σ' := (97, I, J, R)) rfl ?_
                      refine az_E.call (d := 1) (k' := 60) (vs := [.ref 65, .int v4, .int v5]) (pc' := 95) (S' := []) rfl ?_ (fun _ _ hq => hq)
                      show az_E az_F ex 1 60 0 [.ref 65, .int v4, .int v5] [] (97, I, J, R) _
                      refine az_E.sn 1 (pc' := 1) (L' := [.ref 65, .int v4, .int v5]) (S' := [.int v4]) (σ' := (97, I, J, R)) rfl ?_
                      refine az_E.br (c := v4 < 0) (tt := 30) (ff := 4) (L' := [.ref 65, .int v4, .int v5]) (S' := []) (σ' := (97, I, J, R)) rfl (fun hc_463 => ?_) (fun hc_463 => ?_)
                      · rw [if_pos hc_463] at h
                        refine az_E.sn 1 (pc' := 31) (L' := [.ref 65, .int v4, .int v5]) (S' := [.int (0 : Int32)]) (σ' := (97, I, J, R)) rfl ?_
                        refine az_E.ret (v := some (.int (0 : Int32))) (σ' := (97, I, J, R)) rfl ?_
                        show az_E az_F ex 2 128 95 [.retAddr 0, .retAddr 0, .int v2, .retAddr 0, .int v4, .int v5, .ref 63, .ref 65] [.int (0 : Int32)] (97, I, J, R) _
                        refine az_E.br (c := (0 : Int32) = 0) (tt := 98) (ff := 101) (L' := [.retAddr 0, .retAddr 0, .int v2, .retAddr 0, .int v4, .int v5, .ref 63, .ref 65]) (S' := []) (σ' := (97, I, J, R)) rfl (fun _ => ?_) (fun hn => absurd (by decide) hn)
                        refine az_E.sn 1 (pc' := 100) (L' := [.retAddr 0, .retAddr 0, .int v2, .retAddr 0, .int v4, .int v5, .ref 63, .ref 65]) (S' := [.int (-13 : Int32)]) (σ' := (97, I, J, R)) rfl ?_
                        have h := Option.some.inj h
                        subst h
                        exact az_E.ret (v := some (.int (-13 : Int32))) (σ' := (97, I, J, R)) rfl hQ
                      · rw [if_neg hc_463] at h
                        refine az_E.sn 1 (pc' := 5) (L' := [.ref 65, .int v4, .int v5]) (S' := [.int v5]) (σ' := (97, I, J, R)) rfl ?_
                        refine az_E.br (c := v5 < 0) (tt := 30) (ff := 8) (L' := [.ref 65, .int v4, .int v5]) (S' := []) (σ' := (97, I, J, R)) rfl (fun hc_464 => ?_) (fun hc_464 => ?_)
                        · rw [if_pos hc_464] at h
                          refine az_E.sn 1 (pc' := 31) (L' := [.ref 65, .int v4, .int v5]) (S' := [.int (0 : Int32)]) (σ' := (97, I, J, R)) rfl ?_
                          refine az_E.ret (v := some (.int (0 : Int32))) (σ' := (97, I, J, R)) rfl ?_
                          show az_E az_F ex 2 128 95 [.retAddr 0, .retAddr 0, .int v2, .retAddr 0, .int v4, .int v5, .ref 63, .ref 65] [.int (0 : Int32)] (97, I, J, R) _
                          refine az_E.br (c := (0 : Int32) = 0) (tt := 98) (ff := 101) (L' := [.retAddr 0, .retAddr 0, .int v2, .retAddr 0, .int v4, .int v5, .ref 63, .ref 65]) (S' := []) (σ' := (97, I, J, R)) rfl (fun _ => ?_) (fun hn => absurd (by decide) hn)
                          refine az_E.sn 1 (pc' := 100) (L' := [.retAddr 0, .retAddr 0, .int v2, .retAddr 0, .int v4, .int v5, .ref 63, .ref 65]) (S' := [.int (-13 : Int32)]) (σ' := (97, I, J, R)) rfl ?_
                          have h := Option.some.inj h
                          subst h
                          exact az_E.ret (v := some (.int (-13 : Int32))) (σ' := (97, I, J, R)) rfl hQ
                        · rw [if_neg hc_464] at h
                          refine az_E.sn 3 (pc' := 13) (L' := [.ref 65, .int v4, .int v5]) (S' := [.int (I 65 2), .int v4]) (σ' := (97, I, J, R)) rfl ?_
                          refine az_E.br (c := (I 65 2) < v4) (tt := 30) (ff := 16) (L' := [.ref 65, .int v4, .int v5]) (S' := []) (σ' := (97, I, J, R)) rfl (fun hc_465 => ?_) (fun hc_465 => ?_)
                          · rw [if_pos hc_465] at h
                            refine az_E.sn 1 (pc' := 31) (L' := [.ref 65, .int v4, .int v5]) (S' := [.int (0 : Int32)]) (σ' := (97, I, J, R)) rfl ?_
                            refine az_E.ret (v := some (.int (0 : Int32))) (σ' := (97, I, J, R)) rfl ?_
                            show az_E az_F ex 2 128 95 [.retAddr 0, .retAddr 0, .int v2, .retAddr 0, .int v4, .int v5, .ref 63, .ref 65] [.int (0 : Int32)] (97, I, J, R) _
                            refine az_E.br (c := (0 : Int32) = 0) (tt := 98) (ff := 101) (L' := [.retAddr 0, .retAddr 0, .int v2, .retAddr 0, .int v4, .int v5, .ref 63, .ref 65]) (S' := []) (σ' := (97, I, J, R)) rfl (fun _ => ?_) (fun hn => absurd (by decide) hn)
                            refine az_E.sn 1 (pc' := 100) (L' := [.retAddr 0, .retAddr 0, .int v2, .retAddr 0, .int v4, .int v5, .ref 63, .ref 65]) (S' := [.int (-13 : Int32)]) (σ' := (97, I, J, R)) rfl ?_
                            have h := Option.some.inj h
                            subst h
                            exact az_E.ret (v := some (.int (-13 : Int32))) (σ' := (97, I, J, R)) rfl hQ
                          · rw [if_neg hc_465] at h
                            refine az_E.sn 5 (pc' := 23) (L' := [.ref 65, .int v4, .int v5]) (S' := [.int ((I 65 2) - v4), .int v5]) (σ' := (97, I, J, R)) rfl ?_
                            refine az_E.br (c := ((I 65 2) - v4) < v5) (tt := 30) (ff := 26) (L' := [.ref 65, .int v4, .int v5]) (S' := []) (σ' := (97, I, J, R)) rfl (fun hc_466 => ?_) (fun hc_466 => ?_)
                            · rw [if_pos hc_466] at h
                              refine az_E.sn 1 (pc' := 31) (L' := [.ref 65, .int v4, .int v5]) (S' := [.int (0 : Int32)]) (σ' := (97, I, J, R)) rfl ?_
                              refine az_E.ret (v := some (.int (0 : Int32))) (σ' := (97, I, J, R)) rfl ?_
                              show az_E az_F ex 2 128 95 [.retAddr 0, .retAddr 0, .int v2, .retAddr 0, .int v4, .int v5, .ref 63, .ref 65] [.int (0 : Int32)] (97, I, J, R) _
                              refine az_E.br (c := (0 : Int32) = 0) (tt := 98) (ff := 101) (L' := [.retAddr 0, .retAddr 0, .int v2, .retAddr 0, .int v4, .int v5, .ref 63, .ref 65]) (S' := []) (σ' := (97, I, J, R)) rfl (fun _ => ?_) (fun hn => absurd (by decide) hn)
                              refine az_E.sn 1 (pc' := 100) (L' := [.retAddr 0, .retAddr 0, .int v2, .retAddr 0, .int v4, .int v5, .ref 63, .ref 65]) (S' := [.int (-13 : Int32)]) (σ' := (97, I, J, R)) rfl ?_
                              have h := Option.some.inj h
                              subst h
                              exact az_E.ret (v := some (.int (-13 : Int32))) (σ' := (97, I, J, R)) rfl hQ
                            · rw [if_neg hc_466] at h
                              refine az_E.sn 2 (pc' := 31) (L' := [.ref 65, .int v4, .int v5]) (S' := [.int (1 : Int32)]) (σ' := (97, I, J, R)) rfl ?_
                              refine az_E.ret (v := some (.int (1 : Int32))) (σ' := (97, I, J, R)) rfl ?_
                              show az_E az_F ex 2 128 95 [.retAddr 0, .retAddr 0, .int v2, .retAddr 0, .int v4, .int v5, .ref 63, .ref 65] [.int (1 : Int32)] (97, I, J, R) _
                              refine az_E.br (c := (1 : Int32) = 0) (tt := 98) (ff := 101) (L' := [.retAddr 0, .retAddr 0, .int v2, .retAddr 0, .int v4, .int v5, .ref 63, .ref 65]) (S' := []) (σ' := (97, I, J, R)) rfl (fun hn => absurd hn (by decide)) (fun _ => ?_)
                              refine az_E.sn 7 (pc' := 116) (L' := [.retAddr 0, .retAddr 0, .int v2, .retAddr 0, .int v4, .int v5, .ref 63, .ref 65]) (S' := [.int v5, .int v4, .ref (65 + 1), .int v2, .ref (63 + 1)]) (σ' := (97, I, J, R)) rfl ?_
                              by_cases hc_467 : v2 < 0 ∨ v4 < 0 ∨ v5 < 0 ∨ 60 < v2.toNatClampNeg + v5.toNatClampNeg ∨ 60 < v4.toNatClampNeg + v5.toNatClampNeg
                              · rw [if_pos hc_467] at h; cases h
                              · rw [if_neg hc_467] at h
                                refine az_E.o (o := az_cp az_F (97, I, J, R) (63 + 1) v2 (65 + 1) v4 v5) (pc' := 119) (L' := [.retAddr 0, .retAddr 0, .int v2, .retAddr 0, .int v4, .int v5, .ref 63, .ref 65]) (S' := []) (x := (97, I, (az_ur J (65 + 1) (va_cpy (J (63 + 1)) (J (65 + 1)) v2.toNatClampNeg v4.toNatClampNeg v5.toNatClampNeg)), R)) rfl (if_neg hc_467) ?_
                                refine az_E.sn 1 (pc' := 121) (L' := [.retAddr 0, .retAddr 0, .int v2, .retAddr 0, .int v4, .int v5, .ref 63, .ref 65]) (S' := [.int v5]) (σ' := (97, I, (az_ur J (65 + 1) (va_cpy (J (63 + 1)) (J (65 + 1)) v2.toNatClampNeg v4.toNatClampNeg v5.toNatClampNeg)), R)) rfl ?_
                                have h := Option.some.inj h
                                subst h
                                exact az_E.ret (v := some (.int v5)) (σ' := (97, I, (az_ur J (65 + 1) (va_cpy (J (63 + 1)) (J (65 + 1)) v2.toNatClampNeg v4.toNatClampNeg v5.toNatClampNeg)), R)) rfl hQ
            · rw [if_neg hc_458] at h
              refine az_E.sn 1 (pc' := 20) (L' := [.ref 65, .int (I 63 1)]) (S' := [.int (0 : Int32)]) (σ' := (97, I, J, R)) rfl ?_
              refine az_E.ret (v := some (.int (0 : Int32))) (σ' := (97, I, J, R)) rfl ?_
              show az_E az_F ex 2 128 69 [.retAddr 0, .retAddr 0, .int v2, .retAddr 0, .int v4, .int v5, .ref 63, .ref 65] [.int (0 : Int32)] (97, I, J, R) _
              refine az_E.br (c := (0 : Int32) = 0) (tt := 72) (ff := 75) (L' := [.retAddr 0, .retAddr 0, .int v2, .retAddr 0, .int v4, .int v5, .ref 63, .ref 65]) (S' := []) (σ' := (97, I, J, R)) rfl (fun _ => ?_) (fun hn => absurd (by decide) hn)
              refine az_E.sn 1 (pc' := 74) (L' := [.retAddr 0, .retAddr 0, .int v2, .retAddr 0, .int v4, .int v5, .ref 63, .ref 65]) (S' := [.int (-12 : Int32)]) (σ' := (97, I, J, R)) rfl ?_
              have h := Option.some.inj h
              subst h
              exact az_E.ret (v := some (.int (-12 : Int32))) (σ' := (97, I, J, R)) rfl hQ
  · rw [if_neg hc_440] at h
    refine az_E.sn 1 (pc' := 21) (L' := [.ref 63]) (S' := [.int (0 : Int32)]) (σ' := (97, I, J, R)) rfl ?_
    refine az_E.ret (v := some (.int (0 : Int32))) (σ' := (97, I, J, R)) rfl ?_
    show az_E az_F ex 2 128 37 [.retAddr 0, .retAddr 0, .int v2, .retAddr 0, .int v4, .int v5, .ref 63, .ref 65] [.int (0 : Int32)] (97, I, J, R) _
    refine az_E.br (c := (0 : Int32) = 0) (tt := 40) (ff := 48) (L' := [.retAddr 0, .retAddr 0, .int v2, .retAddr 0, .int v4, .int v5, .ref 63, .ref 65]) (S' := []) (σ' := (97, I, J, R)) rfl (fun _ => ?_) (fun hn => absurd (by decide) hn)
    refine az_E.sn 1 (pc' := 42) (L' := [.retAddr 0, .retAddr 0, .int v2, .retAddr 0, .int v4, .int v5, .ref 63, .ref 65]) (S' := [.ref 65]) (σ' := (97, I, J, R)) rfl ?_
    refine az_E.call (d := 1) (k' := 54) (vs := [.ref 65]) (pc' := 45) (S' := []) rfl ?_ (fun _ _ hq => hq)
    show az_E az_F ex 1 54 0 [.ref 65] [] (97, I, J, R) _
    refine az_E.sn 3 (pc' := 5) (L' := [.ref 65]) (S' := [.int (-1 : Int32), .int (I 65 0)]) (σ' := (97, I, J, R)) rfl ?_
    refine az_E.br (c := (I 65 0) = (-1 : Int32)) (tt := 8) (ff := 20) (L' := [.ref 65]) (S' := []) (σ' := (97, I, J, R)) rfl (fun hc_468 => ?_) (fun hc_468 => ?_)
    · rw [if_pos hc_468] at h
      refine az_E.sn 3 (pc' := 13) (L' := [.ref 65]) (S' := [.int (-1 : Int32), .int (I 65 1)]) (σ' := (97, I, J, R)) rfl ?_
      refine az_E.br (c := (I 65 1) = (-1 : Int32)) (tt := 16) (ff := 20) (L' := [.ref 65]) (S' := []) (σ' := (97, I, J, R)) rfl (fun hc_469 => ?_) (fun hc_469 => ?_)
      · rw [if_pos hc_469] at h
        refine az_E.sn 2 (pc' := 21) (L' := [.ref 65]) (S' := [.int (1 : Int32)]) (σ' := (97, I, J, R)) rfl ?_
        refine az_E.ret (v := some (.int (1 : Int32))) (σ' := (97, I, J, R)) rfl ?_
        show az_E az_F ex 2 128 45 [.retAddr 0, .retAddr 0, .int v2, .retAddr 0, .int v4, .int v5, .ref 63, .ref 65] [.int (1 : Int32)] (97, I, J, R) _
        refine az_E.br (c := (1 : Int32) = 0) (tt := 51) (ff := 48) (L' := [.retAddr 0, .retAddr 0, .int v2, .retAddr 0, .int v4, .int v5, .ref 63, .ref 65]) (S' := []) (σ' := (97, I, J, R)) rfl (fun hn => absurd hn (by decide)) (fun _ => ?_)
        refine az_E.sn 1 (pc' := 50) (L' := [.retAddr 0, .retAddr 0, .int v2, .retAddr 0, .int v4, .int v5, .ref 63, .ref 65]) (S' := [.int (-11 : Int32)]) (σ' := (97, I, J, R)) rfl ?_
        have h := Option.some.inj h
        subst h
        exact az_E.ret (v := some (.int (-11 : Int32))) (σ' := (97, I, J, R)) rfl hQ
      · rw [if_neg hc_469] at h
        refine az_E.sn 1 (pc' := 21) (L' := [.ref 65]) (S' := [.int (0 : Int32)]) (σ' := (97, I, J, R)) rfl ?_
        refine az_E.ret (v := some (.int (0 : Int32))) (σ' := (97, I, J, R)) rfl ?_
        show az_E az_F ex 2 128 45 [.retAddr 0, .retAddr 0, .int v2, .retAddr 0, .int v4, .int v5, .ref 63, .ref 65] [.int (0 : Int32)] (97, I, J, R) _
        refine az_E.br (c := (0 : Int32) = 0) (tt := 51) (ff := 48) (L' := [.retAddr 0, .retAddr 0, .int v2, .retAddr 0, .int v4, .int v5, .ref 63, .ref 65]) (S' := []) (σ' := (97, I, J, R)) rfl (fun _ => ?_) (fun hn => absurd (by decide) hn)
        refine az_E.sn 1 (pc' := 53) (L' := [.retAddr 0, .retAddr 0, .int v2, .retAddr 0, .int v4, .int v5, .ref 63, .ref 65]) (S' := [.ref 63]) (σ' := (97, I, J, R)) rfl ?_
        refine az_E.call (d := 1) (k' := 55) (vs := [.ref 63]) (pc' := 56) (S' := []) rfl ?_ (fun _ _ hq => hq)
        show az_E az_F ex 1 55 0 [.ref 63] [] (97, I, J, R) _
        refine az_E.sn 3 (pc' := 5) (L' := [.ref 63]) (S' := [.int (-1 : Int32), .int (I 63 1)]) (σ' := (97, I, J, R)) rfl ?_
        refine az_E.br (c := (I 63 1) = (-1 : Int32)) (tt := 12) (ff := 8) (L' := [.ref 63]) (S' := []) (σ' := (97, I, J, R)) rfl (fun hc_470 => ?_) (fun hc_470 => ?_)
        · rw [if_pos hc_470] at h
          refine az_E.sn 1 (pc' := 13) (L' := [.ref 63]) (S' := [.int (0 : Int32)]) (σ' := (97, I, J, R)) rfl ?_
          refine az_E.ret (v := some (.int (0 : Int32))) (σ' := (97, I, J, R)) rfl ?_
          show az_E az_F ex 2 128 56 [.retAddr 0, .retAddr 0, .int v2, .retAddr 0, .int v4, .int v5, .ref 63, .ref 65] [.int (0 : Int32)] (97, I, J, R) _
          refine az_E.br (c := (0 : Int32) = 0) (tt := 72) (ff := 59) (L' := [.retAddr 0, .retAddr 0, .int v2, .retAddr 0, .int v4, .int v5, .ref 63, .ref 65]) (S' := []) (σ' := (97, I, J, R)) rfl (fun _ => ?_) (fun hn => absurd (by decide) hn)
          refine az_E.sn 1 (pc' := 74) (L' := [.retAddr 0, .retAddr 0, .int v2, .retAddr 0, .int v4, .int v5, .ref 63, .ref 65]) (S' := [.int (-12 : Int32)]) (σ' := (97, I, J, R)) rfl ?_
          have h := Option.some.inj h
          subst h
          exact az_E.ret (v := some (.int (-12 : Int32))) (σ' := (97, I, J, R)) rfl hQ
        · rw [if_neg hc_470] at h
          refine az_E.sn 2 (pc' := 13) (L' := [.ref 63]) (S' := [.int (1 : Int32)]) (σ' := (97, I, J, R)) rfl ?_
          refine az_E.ret (v := some (.int (1 : Int32))) (σ' := (97, I, J, R)) rfl ?_
          show az_E az_F ex 2 128 56 [.retAddr 0, .retAddr 0, .int v2, .retAddr 0, .int v4, .int v5, .ref 63, .ref 65] [.int (1 : Int32)] (97, I, J, R) _
          refine az_E.br (c := (1 : Int32) = 0) (tt := 72) (ff := 59) (L' := [.retAddr 0, .retAddr 0, .int v2, .retAddr 0, .int v4, .int v5, .ref 63, .ref 65]) (S' := []) (σ' := (97, I, J, R)) rfl (fun hn => absurd hn (by decide)) (fun _ => ?_)
          refine az_E.sn 3 (pc' := 66) (L' := [.retAddr 0, .retAddr 0, .int v2, .retAddr 0, .int v4, .int v5, .ref 63, .ref 65]) (S' := [.int (I 63 1), .ref 65]) (σ' := (97, I, J, R)) rfl ?_
          refine az_E.call (d := 1) (k' := 56) (vs := [.ref 65, .int (I 63 1)]) (pc' := 69) (S' := []) rfl ?_ (fun _ _ hq => hq)
          show az_E az_F ex 1 56 0 [.ref 65, .int (I 63 1)] [] (97, I, J, R) _
          refine az_E.sn 1 (pc' := 1) (L' := [.ref 65, .int (I 63 1)]) (S' := [.ref 65]) (σ' := (97, I, J, R)) rfl ?_
          refine az_E.call (d := 0) (k' := 55) (vs := [.ref 65]) (pc' := 4) (S' := []) rfl ?_ (fun _ _ hq => hq)
          show az_E az_F ex 0 55 0 [.ref 65] [] (97, I, J, R) _
          refine az_E.sn 3 (pc' := 5) (L' := [.ref 65]) (S' := [.int (-1 : Int32), .int (I 65 1)]) (σ' := (97, I, J, R)) rfl ?_
          refine az_E.br (c := (I 65 1) = (-1 : Int32)) (tt := 12) (ff := 8) (L' := [.ref 65]) (S' := []) (σ' := (97, I, J, R)) rfl (fun hc_471 => ?_) (fun hc_471 => ?_)
          · rw [if_pos hc_471] at h
            refine az_E.sn 1 (pc' := 13) (L' := [.ref 65]) (S' := [.int (0 : Int32)]) (σ' := (97, I, J, R)) rfl ?_
            refine az_E.ret (v := some (.int (0 : Int32))) (σ' := (97, I, J, R)) rfl ?_
            show az_E az_F ex 1 56 4 [.ref 65, .int (I 63 1)] [.int (0 : Int32)] (97, I, J, R) _
            refine az_E.br (c := (0 : Int32) = 0) (tt := 19) (ff := 7) (L' := [.ref 65, .int (I 63 1)]) (S' := []) (σ' := (97, I, J, R)) rfl (fun _ => ?_) (fun hn => absurd (by decide) hn)
            refine az_E.sn 1 (pc' := 20) (L' := [.ref 65, .int (I 63 1)]) (S' := [.int (0 : Int32)]) (σ' := (97, I, J, R)) rfl ?_
            refine az_E.ret (v := some (.int (0 : Int32))) (σ' := (97, I, J, R)) rfl ?_
            show az_E az_F ex 2 128 69 [.retAddr 0, .retAddr 0, .int v2, .retAddr 0, .int v4, .int v5, .ref 63, .ref 65] [.int (0 : Int32)] (97, I, J, R) _
            refine az_E.br (c := (0 : Int32) = 0) (tt := 72) (ff := 75) (L' := [.retAddr 0, .retAddr 0, .int v2, .retAddr 0, .int v4, .int v5, .ref 63, .ref 65]) (S' := []) (σ' := (97, I, J, R)) rfl (fun _ => ?_) (fun hn => absurd (by decide) hn)
            refine az_E.sn 1 (pc' := 74) (L' := [.retAddr 0, .retAddr 0, .int v2, .retAddr 0, .int v4, .int v5, .ref 63, .ref 65]) (S' := [.int (-12 : Int32)]) (σ' := (97, I, J, R)) rfl ?_
            have h := Option.some.inj h
            subst h
            exact az_E.ret (v := some (.int (-12 : Int32))) (σ' := (97, I, J, R)) rfl hQ
          · rw [if_neg hc_471] at h
            refine az_E.sn 2 (pc' := 13) (L' := [.ref 65]) (S' := [.int (1 : Int32)]) (σ' := (97, I, J, R)) rfl ?_
            refine az_E.ret (v := some (.int (1 : Int32))) (σ' := (97, I, J, R)) rfl ?_
            show az_E az_F ex 1 56 4 [.ref 65, .int (I 63 1)] [.int (1 : Int32)] (97, I, J, R) _
            refine az_E.br (c := (1 : Int32) = 0) (tt := 19) (ff := 7) (L' := [.ref 65, .int (I 63 1)]) (S' := []) (σ' := (97, I, J, R)) rfl (fun hn => absurd hn (by decide)) (fun _ => ?_)
            refine az_E.sn 3 (pc' := 12) (L' := [.ref 65, .int (I 63 1)]) (S' := [.int (I 63 1), .int (I 65 1)]) (σ' := (97, I, J, R)) rfl ?_
            refine az_E.br (c := (I 65 1) = (I 63 1)) (tt := 15) (ff := 19) (L' := [.ref 65, .int (I 63 1)]) (S' := []) (σ' := (97, I, J, R)) rfl (fun hc_472 => ?_) (fun hc_472 => ?_)
            · rw [if_pos hc_472] at h
              refine az_E.sn 2 (pc' := 20) (L' := [.ref 65, .int (I 63 1)]) (S' := [.int (1 : Int32)]) (σ' := (97, I, J, R)) rfl ?_
              refine az_E.ret (v := some (.int (1 : Int32))) (σ' := (97, I, J, R)) rfl ?_
              show az_E az_F ex 2 128 69 [.retAddr 0, .retAddr 0, .int v2, .retAddr 0, .int v4, .int v5, .ref 63, .ref 65] [.int (1 : Int32)] (97, I, J, R) _
              refine az_E.br (c := (1 : Int32) = 0) (tt := 72) (ff := 75) (L' := [.retAddr 0, .retAddr 0, .int v2, .retAddr 0, .int v4, .int v5, .ref 63, .ref 65]) (S' := []) (σ' := (97, I, J, R)) rfl (fun hn => absurd hn (by decide)) (fun _ => ?_)
              refine az_E.sn 3 (pc' := 80) (L' := [.retAddr 0, .retAddr 0, .int v2, .retAddr 0, .int v4, .int v5, .ref 63, .ref 65]) (S' := [.int v5, .int v2, .ref 63]) (σ' := (97, I, J, R)) rfl ?_
              refine az_E.call (d := 1) (k' := 60) (vs := [.ref 63, .int v2, .int v5]) (pc' := 83) (S' := []) rfl ?_ (fun _ _ hq => hq)
              show az_E az_F ex 1 60 0 [.ref 63, .int v2, .int v5] [] (97, I, J, R) _
              refine az_E.sn 1 (pc' := 1) (L' := [.ref 63, .int v2, .int v5]) (S' := [.int v2]) (σ' := (97, I, J, R)) rfl ?_
              refine az_E.br (c := v2 < 0) (tt := 30) (ff := 4) (L' := [.ref 63, .int v2, .int v5]) (S' := []) (σ' := (97, I, J, R)) rfl (fun hc_473 => ?_) (fun hc_473 => ?_)
              · rw [if_pos hc_473] at h
                refine az_E.sn 1 (pc' := 31) (L' := [.ref 63, .int v2, .int v5]) (S' := [.int (0 : Int32)]) (σ' := (97, I, J, R)) rfl ?_
                refine az_E.ret (v := some (.int (0 : Int32))) (σ' := (97, I, J, R)) rfl ?_
                show az_E az_F ex 2 128 83 [.retAddr 0, .retAddr 0, .int v2, .retAddr 0, .int v4, .int v5, .ref 63, .ref 65] [.int (0 : Int32)] (97, I, J, R) _
                refine az_E.br (c := (0 : Int32) = 0) (tt := 98) (ff := 86) (L' := [.retAddr 0, .retAddr 0, .int v2, .retAddr 0, .int v4, .int v5, .ref 63, .ref 65]) (S' := []) (σ' := (97, I, J, R)) rfl (fun _ => ?_) (fun hn => absurd (by decide) hn)
                refine az_E.sn 1 (pc' := 100) (L' := [.retAddr 0, .retAddr 0, .int v2, .retAddr 0, .int v4, .int v5, .ref 63, .ref 65]) (S' := [.int (-13 : Int32)]) (σ' := (97, I, J, R)) rfl ?_
                have h := Option.some.inj h
                subst h
                exact az_E.ret (v := some (.int (-13 : Int32))) (σ' := (97, I, J, R)) rfl hQ
              · rw [if_neg hc_473] at h
                refine az_E.sn 1 (pc' := 5) (L' := [.ref 63, .int v2, .int v5]) (S' := [.int v5]) (σ' := (97, I, J, R)) rfl ?_
                refine az_E.br (c := v5 < 0) (tt := 30) (ff := 8) (L' := [.ref 63, .int v2, .int v5]) (S' := []) (σ' := (97, I, J, R)) rfl (fun hc_474 => ?_) (fun hc_474 => ?_)
                · rw [if_pos hc_474] at h
                  refine az_E.sn 1 (pc' := 31) (L' := [.ref 63, .int v2, .int v5]) (S' := [.int (0 : Int32)]) (σ' := (97, I, J, R)) rfl ?_
                  refine az_E.ret (v := some (.int (0 : Int32))) (σ' := (97, I, J, R)) rfl ?_
                  show az_E az_F ex 2 128 83 [.retAddr 0, .retAddr 0, .int v2, .retAddr 0, .int v4, .int v5, .ref 63, .ref 65] [.int (0 : Int32)] (97, I, J, R) _
                  refine az_E.br (c := (0 : Int32) = 0) (tt := 98) (ff := 86) (L' := [.retAddr 0, .retAddr 0, .int v2, .retAddr 0, .int v4, .int v5, .ref 63, .ref 65]) (S' := []) (σ' := (97, I, J, R)) rfl (fun _ => ?_) (fun hn => absurd (by decide) hn)
                  refine az_E.sn 1 (pc' := 100) (L' := [.retAddr 0, .retAddr 0, .int v2, .retAddr 0, .int v4, .int v5, .ref 63, .ref 65]) (S' := [.int (-13 : Int32)]) (σ' := (97, I, J, R)) rfl ?_
                  have h := Option.some.inj h
                  subst h
                  exact az_E.ret (v := some (.int (-13 : Int32))) (σ' := (97, I, J, R)) rfl hQ
                · rw [if_neg hc_474] at h
                  refine az_E.sn 3 (pc' := 13) (L' := [.ref 63, .int v2, .int v5]) (S' := [.int (I 63 2), .int v2]) (σ' := (97, I, J, R)) rfl ?_
                  refine az_E.br (c := (I 63 2) < v2) (tt := 30) (ff := 16) (L' := [.ref 63, .int v2, .int v5]) (S' := []) (σ' := (97, I, J, R)) rfl (fun hc_475 => ?_) (fun hc_475 => ?_)
                  · rw [if_pos hc_475] at h
                    refine az_E.sn 1 (pc' := 31) (L' := [.ref 63, .int v2, .int v5]) (S' := [.int (0 : Int32)]) (σ' := (97, I, J, R)) rfl ?_
                    refine az_E.ret (v := some (.int (0 : Int32))) (σ' := (97, I, J, R)) rfl ?_
                    show az_E az_F ex 2 128 83 [.retAddr 0, .retAddr 0, .int v2, .retAddr 0, .int v4, .int v5, .ref 63, .ref 65] [.int (0 : Int32)] (97, I, J, R) _
                    refine az_E.br (c := (0 : Int32) = 0) (tt := 98) (ff := 86) (L' := [.retAddr 0, .retAddr 0, .int v2, .retAddr 0, .int v4, .int v5, .ref 63, .ref 65]) (S' := []) (σ' := (97, I, J, R)) rfl (fun _ => ?_) (fun hn => absurd (by decide) hn)
                    refine az_E.sn 1 (pc' := 100) (L' := [.retAddr 0, .retAddr 0, .int v2, .retAddr 0, .int v4, .int v5, .ref 63, .ref 65]) (S' := [.int (-13 : Int32)]) (σ' := (97, I, J, R)) rfl ?_
                    have h := Option.some.inj h
                    subst h
                    exact az_E.ret (v := some (.int (-13 : Int32))) (σ' := (97, I, J, R)) rfl hQ
                  · rw [if_neg hc_475] at h
                    refine az_E.sn 5 (pc' := 23) (L' := [.ref 63, .int v2, .int v5]) (S' := [.int ((I 63 2) - v2), .int v5]) (σ' := (97, I, J, R)) rfl ?_
                    refine az_E.br (c := ((I 63 2) - v2) < v5) (tt := 30) (ff := 26) (L' := [.ref 63, .int v2, .int v5]) (S' := []) (σ' := (97, I, J, R)) rfl (fun hc_476 => ?_) (fun hc_476 => ?_)
                    · rw [if_pos hc_476] at h
                      refine az_E.sn 1 (pc' := 31) (L' := [.ref 63, .int v2, .int v5]) (S' := [.int (0 : Int32)]) (σ' := (97, I, J, R)) rfl ?_
                      refine az_E.ret (v := some (.int (0 : Int32))) (σ' := (97, I, J, R)) rfl ?_
                      show az_E az_F ex 2 128 83 [.retAddr 0, .retAddr 0, .int v2, .retAddr 0, .int v4, .int v5, .ref 63, .ref 65] [.int (0 : Int32)] (97, I, J, R) _
                      refine az_E.br (c := (0 : Int32) = 0) (tt := 98) (ff := 86) (L' := [.retAddr 0, .retAddr 0, .int v2, .retAddr 0, .int v4, .int v5, .ref 63, .ref 65]) (S' := []) (σ' := (97, I, J, R)) rfl (fun _ => ?_) (fun hn => absurd (by decide) hn)
                      refine az_E.sn 1 (pc' := 100) (L' := [.retAddr 0, .retAddr 0, .int v2, .retAddr 0, .int v4, .int v5, .ref 63, .ref 65]) (S' := [.int (-13 : Int32)]) (σ' := (97, I, J, R)) rfl ?_
                      have h := Option.some.inj h
                      subst h
                      exact az_E.ret (v := some (.int (-13 : Int32))) (σ' := (97, I, J, R)) rfl hQ
                    · rw [if_neg hc_476] at h
                      refine az_E.sn 2 (pc' := 31) (L' := [.ref 63, .int v2, .int v5]) (S' := [.int (1 : Int32)]) (σ' := (97, I, J, R)) rfl ?_
                      refine az_E.ret (v := some (.int (1 : Int32))) (σ' := (97, I, J, R)) rfl ?_
                      show az_E az_F ex 2 128 83 [.retAddr 0, .retAddr 0, .int v2, .retAddr 0, .int v4, .int v5, .ref 63, .ref 65] [.int (1 : Int32)] (97, I, J, R) _
                      refine az_E.br (c := (1 : Int32) = 0) (tt := 98) (ff := 86) (L' := [.retAddr 0, .retAddr 0, .int v2, .retAddr 0, .int v4, .int v5, .ref 63, .ref 65]) (S' := []) (σ' := (97, I, J, R)) rfl (fun hn => absurd hn (by decide)) (fun _ => ?_)
                      refine az_E.sn 3 (pc' := 92) (L' := [.retAddr 0, .retAddr 0, .int v2, .retAddr 0, .int v4, .int v5, .ref 63, .ref 65]) (S' := [.int v5, .int v4, .ref 65]) (σ' := (97, I, J, R)) rfl ?_
                      refine az_E.call (d := 1) (k' := 60) (vs := [.ref 65, .int v4, .int v5]) (pc' := 95) (S' := []) rfl ?_ (fun _ _ hq => hq)
                      show az_E az_F ex 1 60 0 [.ref 65, .int v4, .int v5] [] (97, I, J, R) _
                      refine az_E.sn 1 (pc' := 1) (L' := [.ref 65, .int v4, .int v5]) (S' := [.int v4]) (σ' := (97, I, J, R)) rfl ?_
                      refine az_E.br (c := v4 < 0) (tt := 30) (ff := 4) (L' := [.ref 65, .int v4, .int v5]) (S' := []) (σ' := (97, I, J, R)) rfl (fun hc_477 => ?_) (fun hc_477 => ?_)
                      · rw [if_pos hc_477] at h
                        refine az_E.sn 1 (pc' := 31) (L' := [.ref 65, .int v4, .int v5]) (S' := [.int (0 : Int32)]) (σ' := (97, I, J, R)) rfl ?_
                        refine az_E.ret (v := some (.int (0 : Int32))) (σ' := (97, I, J, R)) rfl ?_
                        show az_E az_F ex 2 128 95 [.retAddr 0, .retAddr 0, .int v2, .retAddr 0, .int v4, .int v5, .ref 63, .ref 65] [.int (0 : Int32)] (97, I, J, R) _
                        refine az_E.br (c := (0 : Int32) = 0) (tt := 98) (ff := 101) (L' := [.retAddr 0, .retAddr 0, .int v2, .retAddr 0, .int v4, .int v5, .ref 63, .ref 65]) (S' := []) (σ' := (97, I, J, R)) rfl (fun _ => ?_) (fun hn => absurd (by decide) hn)
                        refine az_E.sn 1 (pc' := 100) (L' := [.retAddr 0, .retAddr 0, .int v2, .retAddr 0, .int v4, .int v5, .ref 63, .ref 65]) (S' := [.int (-13 : Int32)]) (σ' := (97, I, J, R)) rfl ?_
                        have h := Option.some.inj h
                        subst h
                        exact az_E.ret (v := some (.int (-13 : Int32))) (σ' := (97, I, J, R)) rfl hQ
                      · rw [if_neg hc_477] at h
                        refine az_E.sn 1 (pc' := 5) (L' := [.ref 65, .int v4, .int v5]) (S' := [.int v5]) (σ' := (97, I, J, R)) rfl ?_
                        refine az_E.br (c := v5 < 0) (tt := 30) (ff := 8) (L' := [.ref 65, .int v4, .int v5]) (S' := []) (σ' := (97, I, J, R)) rfl (fun hc_478 => ?_) (fun hc_478 => ?_)
                        · rw [if_pos hc_478] at h
                          refine az_E.sn 1 (pc' := 31) (L' := [.ref 65, .int v4, .int v5]) (S' := [.int (0 : Int32)]) (σ' := (97, I, J, R)) rfl ?_
                          refine az_E.ret (v := some (.int (0 : Int32))) (σ' := (97, I, J, R)) rfl ?_
                          show az_E az_F ex 2 128 95 [.retAddr 0, .retAddr 0, .int v2, .retAddr 0, .int v4, .int v5, .ref 63, .ref 65] [.int (0 : Int32)] (97, I, J, R) _
                          refine az_E.br (c := (0 : Int32) = 0) (tt := 98) (ff := 101) (L' := [.retAddr 0, .retAddr 0, .int v2, .retAddr 0, .int v4, .int v5, .ref 63, .ref 65]) (S' := []) (σ' := (97, I, J, R)) rfl (fun _ => ?_) (fun hn => absurd (by decide) hn)
                          refine az_E.sn 1 (pc' := 100) (L' := [.retAddr 0, .retAddr 0, .int v2, .retAddr 0, .int v4, .int v5, .ref 63, .ref 65]) (S' := [.int (-13 : Int32)]) (σ' := (97, I, J, R)) rfl ?_
                          have h := Option.some.inj h
                          subst h
                          exact az_E.ret (v := some (.int (-13 : Int32))) (σ' := (97, I, J, R)) rfl hQ
                        · rw [if_neg hc_478] at h
                          refine az_E.sn 3 (pc' := 13) (L' := [.ref 65, .int v4, .int v5]) (S' := [.int (I 65 2), .int v4]) (σ' := (97, I, J, R)) rfl ?_
                          refine az_E.br (c := (I 65 2) < v4) (tt := 30) (ff := 16) (L' := [.ref 65, .int v4, .int v5]) (S' := []) (σ' := (97, I, J, R)) rfl (fun hc_479 => ?_) (fun hc_479 => ?_)
                          · rw [if_pos hc_479] at h
                            refine az_E.sn 1 (pc' := 31) (L' := [.ref 65, .int v4, .int v5]) (S' := [.int (0 : Int32)]) (σ' := (97, I, J, R)) rfl ?_
                            refine az_E.ret (v := some (.int (0 : Int32))) (σ' := (97, I, J, R)) rfl ?_
                            show az_E az_F ex 2 128 95 [.retAddr 0, .retAddr 0, .int v2, .retAddr 0, .int v4, .int v5, .ref 63, .ref 65] [.int (0 : Int32)] (97, I, J, R) _
                            refine az_E.br (c := (0 : Int32) = 0) (tt := 98) (ff := 101) (L' := [.retAddr 0, .retAddr 0, .int v2, .retAddr 0, .int v4, .int v5, .ref 63, .ref 65]) (S' := []) (σ' := (97, I, J, R)) rfl (fun _ => ?_) (fun hn => absurd (by decide) hn)
                            refine az_E.sn 1 (pc' := 100) (L' := [.retAddr 0, .retAddr 0, .int v2, .retAddr 0, .int v4, .int v5, .ref 63, .ref 65]) (S' := [.int (-13 : Int32)]) (σ' := (97, I, J, R)) rfl ?_
                            have h := Option.some.inj h
                            subst h
                            exact az_E.ret (v := some (.int (-13 : Int32))) (σ' := (97, I, J, R)) rfl hQ
                          · rw [if_neg hc_479] at h
                            refine az_E.sn 5 (pc' := 23) (L' := [.ref 65, .int v4, .int v5]) (S' := [.int ((I 65 2) - v4), .int v5]) (σ' := (97, I, J, R)) rfl ?_
                            refine az_E.br (c := ((I 65 2) - v4) < v5) (tt := 30) (ff := 26) (L' := [.ref 65, .int v4, .int v5]) (S' := []) (σ' := (97, I, J, R)) rfl (fun hc_480 => ?_) (fun hc_480 => ?_)
                            · rw [if_pos hc_480] at h
                              refine az_E.sn 1 (pc' := 31) (L' := [.ref 65, .int v4, .int v5]) (S' := [.int (0 : Int32)]) (σ' := (97, I, J, R)) rfl ?_
                              refine az_E.ret (v := some (.int (0 : Int32))) (σ' := (97, I, J, R)) rfl ?_
                              show az_E az_F ex 2 128 95 [.retAddr 0, .retAddr 0, .int v2, .retAddr 0, .int v4, .int v5, .ref 63, .ref 65] [.int (0 : Int32)] (97, I, J, R) _
                              refine az_E.br (c := (0 : Int32) = 0) (tt := 98) (ff := 101) (L' := [.retAddr 0, .retAddr 0, .int v2, .retAddr 0, .int v4, .int v5, .ref 63, .ref 65]) (S' := []) (σ' := (97, I, J, R)) rfl (fun _ => ?_) (fun hn => absurd (by decide) hn)
                              refine az_E.sn 1 (pc' := 100) (L' := [.retAddr 0, .retAddr 0, .int v2, .retAddr 0, .int v4, .int v5, .ref 63, .ref 65]) (S' := [.int (-13 : Int32)]) (σ' := (97, I, J, R)) rfl ?_
                              have h := Option.some.inj h
                              subst h
                              exact az_E.ret (v := some (.int (-13 : Int32))) (σ' := (97, I, J, R)) rfl hQ
                            · rw [if_neg hc_480] at h
                              refine az_E.sn 2 (pc' := 31) (L' := [.ref 65, .int v4, .int v5]) (S' := [.int (1 : Int32)]) (σ' := (97, I, J, R)) rfl ?_
                              refine az_E.ret (v := some (.int (1 : Int32))) (σ' := (97, I, J, R)) rfl ?_
                              show az_E az_F ex 2 128 95 [.retAddr 0, .retAddr 0, .int v2, .retAddr 0, .int v4, .int v5, .ref 63, .ref 65] [.int (1 : Int32)] (97, I, J, R) _
                              refine az_E.br (c := (1 : Int32) = 0) (tt := 98) (ff := 101) (L' := [.retAddr 0, .retAddr 0, .int v2, .retAddr 0, .int v4, .int v5, .ref 63, .ref 65]) (S' := []) (σ' := (97, I, J, R)) rfl (fun hn => absurd hn (by decide)) (fun _ => ?_)
                              refine az_E.sn 7 (pc' := 116) (L' := [.retAddr 0, .retAddr 0, .int v2, .retAddr 0, .int v4, .int v5, .ref 63, .ref 65]) (S' := [.int v5, .int v4, .ref (65 + 1), .int v2, .ref (63 + 1)]) (σ' := (97, I, J, R)) rfl ?_
                              by_cases hc_481 : v2 < 0 ∨ v4 < 0 ∨ v5 < 0 ∨ 60 < v2.toNatClampNeg + v5.toNatClampNeg ∨ 60 < v4.toNatClampNeg + v5.toNatClampNeg
                              · rw [if_pos hc_481] at h; cases h
                              · rw [if_neg hc_481] at h
                                refine az_E.o (o := az_cp az_F (97, I, J, R) (63 + 1) v2 (65 + 1) v4 v5) (pc' := 119) (L' := [.retAddr 0, .retAddr 0, .int v2, .retAddr 0, .int v4, .int v5, .ref 63, .ref 65]) (S' := []) (x := (97, I, (az_ur J (65 + 1) (va_cpy (J (63 + 1)) (J (65 + 1)) v2.toNatClampNeg v4.toNatClampNeg v5.toNatClampNeg)), R)) rfl (if_neg hc_481) ?_
                                refine az_E.sn 1 (pc' := 121) (L' := [.retAddr 0, .retAddr 0, .int v2, .retAddr 0, .int v4, .int v5, .ref 63, .ref 65]) (S' := [.int v5]) (σ' := (97, I, (az_ur J (65 + 1) (va_cpy (J (63 + 1)) (J (65 + 1)) v2.toNatClampNeg v4.toNatClampNeg v5.toNatClampNeg)), R)) rfl ?_
                                have h := Option.some.inj h
                                subst h
                                exact az_E.ret (v := some (.int v5)) (σ' := (97, I, (az_ur J (65 + 1) (va_cpy (J (63 + 1)) (J (65 + 1)) v2.toNatClampNeg v4.toNatClampNeg v5.toNatClampNeg)), R)) rfl hQ
            · rw [if_neg hc_472] at h
              refine az_E.sn 1 (pc' := 20) (L' := [.ref 65, .int (I 63 1)]) (S' := [.int (0 : Int32)]) (σ' := (97, I, J, R)) rfl ?_
              refine az_E.ret (v := some (.int (0 : Int32))) (σ' := (97, I, J, R)) rfl ?_
              show az_E az_F ex 2 128 69 [.retAddr 0, .retAddr 0, .int v2, .retAddr 0, .int v4, .int v5, .ref 63, .ref 65] [.int (0 : Int32)] (97, I, J, R) _
              refine az_E.br (c := (0 : Int32) = 0) (tt := 72) (ff := 75) (L' := [.retAddr 0, .retAddr 0, .int v2, .retAddr 0, .int v4, .int v5, .ref 63, .ref 65]) (S' := []) (σ' := (97, I, J, R)) rfl (fun _ => ?_) (fun hn => absurd (by decide) hn)
              refine az_E.sn 1 (pc' := 74) (L' := [.retAddr 0, .retAddr 0, .int v2, .retAddr 0, .int v4, .int v5, .ref 63, .ref 65]) (S' := [.int (-12 : Int32)]) (σ' := (97, I, J, R)) rfl ?_
              have h := Option.some.inj h
              subst h
              exact az_E.ret (v := some (.int (-12 : Int32))) (σ' := (97, I, J, R)) rfl hQ
    · rw [if_neg hc_468] at h
      refine az_E.sn 1 (pc' := 21) (L' := [.ref 65]) (S' := [.int (0 : Int32)]) (σ' := (97, I, J, R)) rfl ?_
      refine az_E.ret (v := some (.int (0 : Int32))) (σ' := (97, I, J, R)) rfl ?_
      show az_E az_F ex 2 128 45 [.retAddr 0, .retAddr 0, .int v2, .retAddr 0, .int v4, .int v5, .ref 63, .ref 65] [.int (0 : Int32)] (97, I, J, R) _
      refine az_E.br (c := (0 : Int32) = 0) (tt := 51) (ff := 48) (L' := [.retAddr 0, .retAddr 0, .int v2, .retAddr 0, .int v4, .int v5, .ref 63, .ref 65]) (S' := []) (σ' := (97, I, J, R)) rfl (fun _ => ?_) (fun hn => absurd (by decide) hn)
      refine az_E.sn 1 (pc' := 53) (L' := [.retAddr 0, .retAddr 0, .int v2, .retAddr 0, .int v4, .int v5, .ref 63, .ref 65]) (S' := [.ref 63]) (σ' := (97, I, J, R)) rfl ?_
      refine az_E.call (d := 1) (k' := 55) (vs := [.ref 63]) (pc' := 56) (S' := []) rfl ?_ (fun _ _ hq => hq)
      show az_E az_F ex 1 55 0 [.ref 63] [] (97, I, J, R) _
      refine az_E.sn 3 (pc' := 5) (L' := [.ref 63]) (S' := [.int (-1 : Int32), .int (I 63 1)]) (σ' := (97, I, J, R)) rfl ?_
      refine az_E.br (c := (I 63 1) = (-1 : Int32)) (tt := 12) (ff := 8) (L' := [.ref 63]) (S' := []) (σ' := (97, I, J, R)) rfl (fun hc_482 => ?_) (fun hc_482 => ?_)
      · rw [if_pos hc_482] at h
        refine az_E.sn 1 (pc' := 13) (L' := [.ref 63]) (S' := [.int (0 : Int32)]) (σ' := (97, I, J, R)) rfl ?_
        refine az_E.ret (v := some (.int (0 : Int32))) (σ' := (97, I, J, R)) rfl ?_
        show az_E az_F ex 2 128 56 [.retAddr 0, .retAddr 0, .int v2, .retAddr 0, .int v4, .int v5, .ref 63, .ref 65] [.int (0 : Int32)] (97, I, J, R) _
        refine az_E.br (c := (0 : Int32) = 0) (tt := 72) (ff := 59) (L' := [.retAddr 0, .retAddr 0, .int v2, .retAddr 0, .int v4, .int v5, .ref 63, .ref 65]) (S' := []) (σ' := (97, I, J, R)) rfl (fun _ => ?_) (fun hn => absurd (by decide) hn)
        refine az_E.sn 1 (pc' := 74) (L' := [.retAddr 0, .retAddr 0, .int v2, .retAddr 0, .int v4, .int v5, .ref 63, .ref 65]) (S' := [.int (-12 : Int32)]) (σ' := (97, I, J, R)) rfl ?_
        have h := Option.some.inj h
        subst h
        exact az_E.ret (v := some (.int (-12 : Int32))) (σ' := (97, I, J, R)) rfl hQ
      · rw [if_neg hc_482] at h
        refine az_E.sn 2 (pc' := 13) (L' := [.ref 63]) (S' := [.int (1 : Int32)]) (σ' := (97, I, J, R)) rfl ?_
        refine az_E.ret (v := some (.int (1 : Int32))) (σ' := (97, I, J, R)) rfl ?_
        show az_E az_F ex 2 128 56 [.retAddr 0, .retAddr 0, .int v2, .retAddr 0, .int v4, .int v5, .ref 63, .ref 65] [.int (1 : Int32)] (97, I, J, R) _
        refine az_E.br (c := (1 : Int32) = 0) (tt := 72) (ff := 59) (L' := [.retAddr 0, .retAddr 0, .int v2, .retAddr 0, .int v4, .int v5, .ref 63, .ref 65]) (S' := []) (σ' := (97, I, J, R)) rfl (fun hn => absurd hn (by decide)) (fun _ => ?_)
        refine az_E.sn 3 (pc' := 66) (L' := [.retAddr 0, .retAddr 0, .int v2, .retAddr 0, .int v4, .int v5, .ref 63, .ref 65]) (S' := [.int (I 63 1), .ref 65]) (σ' := (97, I, J, R)) rfl ?_
        refine az_E.call (d := 1) (k' := 56) (vs := [.ref 65, .int (I 63 1)]) (pc' := 69) (S' := []) rfl ?_ (fun _ _ hq => hq)
        show az_E az_F ex 1 56 0 [.ref 65, .int (I 63 1)] [] (97, I, J, R) _
        refine az_E.sn 1 (pc' := 1) (L' := [.ref 65, .int (I 63 1)]) (S' := [.ref 65]) (σ' := (97, I, J, R)) rfl ?_
        refine az_E.call (d := 0) (k' := 55) (vs := [.ref 65]) (pc' := 4) (S' := []) rfl ?_ (fun _ _ hq => hq)
        show az_E az_F ex 0 55 0 [.ref 65] [] (97, I, J, R) _
        refine az_E.sn 3 (pc' := 5) (L' := [.ref 65]) (S' := [.int (-1 : Int32), .int (I 65 1)]) (σ' := (97, I, J, R)) rfl ?_
        refine az_E.br (c := (I 65 1) = (-1 : Int32)) (tt := 12) (ff := 8) (L' := [.ref 65]) (S' := []) (σ' := (97, I, J, R)) rfl (fun hc_483 => ?_) (fun hc_483 => ?_)
        · rw [if_pos hc_483] at h
          refine az_E.sn 1 (pc' := 13) (L' := [.ref 65]) (S' := [.int (0 : Int32)]) (σ' := (97, I, J, R)) rfl ?_
          refine az_E.ret (v := some (.int (0 : Int32))) (σ' := (97, I, J, R)) rfl ?_
          show az_E az_F ex 1 56 4 [.ref 65, .int (I 63 1)] [.int (0 : Int32)] (97, I, J, R) _
          refine az_E.br (c := (0 : Int32) = 0) (tt := 19) (ff := 7) (L' := [.ref 65, .int (I 63 1)]) (S' := []) (σ' := (97, I, J, R)) rfl (fun _ => ?_) (fun hn => absurd (by decide) hn)
          refine az_E.sn 1 (pc' := 20) (L' := [.ref 65, .int (I 63 1)]) (S' := [.int (0 : Int32)]) (σ' := (97, I, J, R)) rfl ?_
          refine az_E.ret (v := some (.int (0 : Int32))) (σ' := (97, I, J, R)) rfl ?_
          show az_E az_F ex 2 128 69 [.retAddr 0, .retAddr 0, .int v2, .retAddr 0, .int v4, .int v5, .ref 63, .ref 65] [.int (0 : Int32)] (97, I, J, R) _
          refine az_E.br (c := (0 : Int32) = 0) (tt := 72) (ff := 75) (L' := [.retAddr 0, .retAddr 0, .int v2, .retAddr 0, .int v4, .int v5, .ref 63, .ref 65]) (S' := []) (σ' := (97, I, J, R)) rfl (fun _ => ?_) (fun hn => absurd (by decide) hn)
          refine az_E.sn 1 (pc' := 74) (L' := [.retAddr 0, .retAddr 0, .int v2, .retAddr 0, .int v4, .int v5, .ref 63, .ref 65]) (S' := [.int (-12 : Int32)]) (σ' := (97, I, J, R)) rfl ?_
          have h := Option.some.inj h
          subst h
          exact az_E.ret (v := some (.int (-12 : Int32))) (σ' := (97, I, J, R)) rfl hQ
        · rw [if_neg hc_483] at h
          refine az_E.sn 2 (pc' := 13) (L' := [.ref 65]) (S' := [.int (1 : Int32)]) (σ' := (97, I, J, R)) rfl ?_
          refine az_E.ret (v := some (.int (1 : Int32))) (σ' := (97, I, J, R)) rfl ?_
          show az_E az_F ex 1 56 4 [.ref 65, .int (I 63 1)] [.int (1 : Int32)] (97, I, J, R) _
          refine az_E.br (c := (1 : Int32) = 0) (tt := 19) (ff := 7) (L' := [.ref 65, .int (I 63 1)]) (S' := []) (σ' := (97, I, J, R)) rfl (fun hn => absurd hn (by decide)) (fun _ => ?_)
          refine az_E.sn 3 (pc' := 12) (L' := [.ref 65, .int (I 63 1)]) (S' := [.int (I 63 1), .int (I 65 1)]) (σ' := (97, I, J, R)) rfl ?_
          refine az_E.br (c := (I 65 1) = (I 63 1)) (tt := 15) (ff := 19) (L' := [.ref 65, .int (I 63 1)]) (S' := []) (σ' := (97, I, J, R)) rfl (fun hc_484 => ?_) (fun hc_484 => ?_)
          · rw [if_pos hc_484] at h
            refine az_E.sn 2 (pc' := 20) (L' := [.ref 65, .int (I 63 1)]) (S' := [.int (1 : Int32)]) (σ' := (97, I, J, R)) rfl ?_
            refine az_E.ret (v := some (.int (1 : Int32))) (σ' := (97, I, J, R)) rfl ?_
            show az_E az_F ex 2 128 69 [.retAddr 0, .retAddr 0, .int v2, .retAddr 0, .int v4, .int v5, .ref 63, .ref 65] [.int (1 : Int32)] (97, I, J, R) _
            refine az_E.br (c := (1 : Int32) = 0) (tt := 72) (ff := 75) (L' := [.retAddr 0, .retAddr 0, .int v2, .retAddr 0, .int v4, .int v5, .ref 63, .ref 65]) (S' := []) (σ' := (97, I, J, R)) rfl (fun hn => absurd hn (by decide)) (fun _ => ?_)
            refine az_E.sn 3 (pc' := 80) (L' := [.retAddr 0, .retAddr 0, .int v2, .retAddr 0, .int v4, .int v5, .ref 63, .ref 65]) (S' := [.int v5, .int v2, .ref 63]) (σ' := (97, I, J, R)) rfl ?_
            refine az_E.call (d := 1) (k' := 60) (vs := [.ref 63, .int v2, .int v5]) (pc' := 83) (S' := []) rfl ?_ (fun _ _ hq => hq)
            show az_E az_F ex 1 60 0 [.ref 63, .int v2, .int v5] [] (97, I, J, R) _
            refine az_E.sn 1 (pc' := 1) (L' := [.ref 63, .int v2, .int v5]) (S' := [.int v2]) (σ' := (97, I, J, R)) rfl ?_
            refine az_E.br (c := v2 < 0) (tt := 30) (ff := 4) (L' := [.ref 63, .int v2, .int v5]) (S' := []) (σ' := (97, I, J, R)) rfl (fun hc_485 => ?_) (fun hc_485 => ?_)
            · rw [if_pos hc_485] at h
              refine az_E.sn 1 (pc' := 31) (L' := [.ref 63, .int v2, .int v5]) (S' := [.int (0 : Int32)]) (σ' := (97, I, J, R)) rfl ?_
              refine az_E.ret (v := some (.int (0 : Int32))) (σ' := (97, I, J, R)) rfl ?_
              show az_E az_F ex 2 128 83 [.retAddr 0, .retAddr 0, .int v2, .retAddr 0, .int v4, .int v5, .ref 63, .ref 65] [.int (0 : Int32)] (97, I, J, R) _
              refine az_E.br (c := (0 : Int32) = 0) (tt := 98) (ff := 86) (L' := [.retAddr 0, .retAddr 0, .int v2, .retAddr 0, .int v4, .int v5, .ref 63, .ref 65]) (S' := []) (σ' := (97, I, J, R)) rfl (fun _ => ?_) (fun hn => absurd (by decide) hn)
              refine az_E.sn 1 (pc' := 100) (L' := [.retAddr 0, .retAddr 0, .int v2, .retAddr 0, .int v4, .int v5, .ref 63, .ref 65]) (S' := [.int (-13 : Int32)]) (σ' := (97, I, J, R)) rfl ?_
              have h := Option.some.inj h
              subst h
              exact az_E.ret (v := some (.int (-13 : Int32))) (σ' := (97, I, J, R)) rfl hQ
            · rw [if_neg hc_485] at h
              refine az_E.sn 1 (pc' := 5) (L' := [.ref 63, .int v2, .int v5]) (S' := [.int v5]) (σ' := (97, I, J, R)) rfl ?_
              refine az_E.br (c := v5 < 0) (tt := 30) (ff := 8) (L' := [.ref 63, .int v2, .int v5]) (S' := []) (σ' := (97, I, J, R)) rfl (fun hc_486 => ?_) (fun hc_486 => ?_)
              · rw [if_pos hc_486] at h
                refine az_E.sn 1 (pc' := 31) (L' := [.ref 63, .int v2, .int v5]) (S' := [.int (0 : Int32)]) (σ' := (97, I, J, R)) rfl ?_
                refine az_E.ret (v := some (.int (0 : Int32))) (σ' := (97, I, J, R)) rfl ?_
                show az_E az_F ex 2 128 83 [.retAddr 0, .retAddr 0, .int v2, .retAddr 0, .int v4, .int v5, .ref 63, .ref 65] [.int (0 : Int32)] (97, I, J, R) _
                refine az_E.br (c := (0 : Int32) = 0) (tt := 98) (ff := 86) (L' := [.retAddr 0, .retAddr 0, .int v2, .retAddr 0, .int v4, .int v5, .ref 63, .ref 65]) (S' := []) (σ' := (97, I, J, R)) rfl (fun _ => ?_) (fun hn => absurd (by decide) hn)
                refine az_E.sn 1 (pc' := 100) (L' := [.retAddr 0, .retAddr 0, .int v2, .retAddr 0, .int v4, .int v5, .ref 63, .ref 65]) (S' := [.int (-13 : Int32)]) (σ' := (97, I, J, R)) rfl ?_
                have h := Option.some.inj h
                subst h
                exact az_E.ret (v := some (.int (-13 : Int32))) (σ' := (97, I, J, R)) rfl hQ
              · rw [if_neg hc_486] at h
                refine az_E.sn 3 (pc' := 13) (L' := [.ref 63, .int v2, .int v5]) (S' := [.int (I 63 2), .int v2]) (σ' := (97, I, J, R)) rfl ?_
                refine az_E.br (c := (I 63 2) < v2) (tt := 30) (ff := 16) (L' := [.ref 63, .int v2, .int v5]) (S' := []) (σ' := (97, I, J, R)) rfl (fun hc_487 => ?_) (fun hc_487 => ?_)
                · rw [if_pos hc_487] at h
                  refine az_E.sn 1 (pc' := 31) (L' := [.ref 63, .int v2, .int v5]) (S' := [.int (0 : Int32)]) (σ' := (97, I, J, R)) rfl ?_
                  refine az_E.ret (v := some (.int (0 : Int32))) (σ' := (97, I, J, R)) rfl ?_
                  show az_E az_F ex 2 128 83 [.retAddr 0, .retAddr 0, .int v2, .retAddr 0, .int v4, .int v5, .ref 63, .ref 65] [.int (0 : Int32)] (97, I, J, R) _
                  refine az_E.br (c := (0 : Int32) = 0) (tt := 98) (ff := 86) (L' := [.retAddr 0, .retAddr 0, .int v2, .retAddr 0, .int v4, .int v5, .ref 63, .ref 65]) (S' := []) (σ' := (97, I, J, R)) rfl (fun _ => ?_) (fun hn => absurd (by decide) hn)
                  refine az_E.sn 1 (pc' := 100) (L' := [.retAddr 0, .retAddr 0, .int v2, .retAddr 0, .int v4, .int v5, .ref 63, .ref 65]) (S' := [.int (-13 : Int32)]) (σ' := (97, I, J, R)) rfl ?_
                  have h := Option.some.inj h
                  subst h
                  exact az_E.ret (v := some (.int (-13 : Int32))) (σ' := (97, I, J, R)) rfl hQ
                · rw [if_neg hc_487] at h
                  refine az_E.sn 5 (pc' := 23) (L' := [.ref 63, .int v2, .int v5]) (S' := [.int ((I 63 2) - v2), .int v5]) (σ' := (97, I, J, R)) rfl ?_
                  refine az_E.br (c := ((I 63 2) - v2) < v5) (tt := 30) (ff := 26) (L' := [.ref 63, .int v2, .int v5]) (S' := []) (σ' := (97, I, J, R)) rfl (fun hc_488 => ?_) (fun hc_488 => ?_)
                  · rw [if_pos hc_488] at h
                    refine az_E.sn 1 (pc' := 31) (L' := [.ref 63, .int v2, .int v5]) (S' := [.int (0 : Int32)]) (σ' := (97, I, J, R)) rfl ?_
                    refine az_E.ret (v := some (.int (0 : Int32))) (σ' := (97, I, J, R)) rfl ?_
                    show az_E az_F ex 2 128 83 [.retAddr 0, .retAddr 0, .int v2, .retAddr 0, .int v4, .int v5, .ref 63, .ref 65] [.int (0 : Int32)] (97, I, J, R) _
                    refine az_E.br (c := (0 : Int32) = 0) (tt := 98) (ff := 86) (L' := [.retAddr 0, .retAddr 0, .int v2, .retAddr 0, .int v4, .int v5, .ref 63, .ref 65]) (S' := []) (σ' := (97, I, J, R)) rfl (fun _ => ?_) (fun hn => absurd (by decide) hn)
                    refine az_E.sn 1 (pc' := 100) (L' := [.retAddr 0, .retAddr 0, .int v2, .retAddr 0, .int v4, .int v5, .ref 63, .ref 65]) (S' := [.int (-13 : Int32)]) (σ' := (97, I, J, R)) rfl ?_
                    have h := Option.some.inj h
                    subst h
                    exact az_E.ret (v := some (.int (-13 : Int32))) (σ' := (97, I, J, R)) rfl hQ
                  · rw [if_neg hc_488] at h
                    refine az_E.sn 2 (pc' := 31) (L' := [.ref 63, .int v2, .int v5]) (S' := [.int (1 : Int32)]) (σ' := (97, I, J, R)) rfl ?_
                    refine az_E.ret (v := some (.int (1 : Int32))) (σ' := (97, I, J, R)) rfl ?_
                    show az_E az_F ex 2 128 83 [.retAddr 0, .retAddr 0, .int v2, .retAddr 0, .int v4, .int v5, .ref 63, .ref 65] [.int (1 : Int32)] (97, I, J, R) _
                    refine az_E.br (c := (1 : Int32) = 0) (tt := 98) (ff := 86) (L' := [.retAddr 0, .retAddr 0, .int v2, .retAddr 0, .int v4, .int v5, .ref 63, .ref 65]) (S' := []) (σ' := (97, I, J, R)) rfl (fun hn => absurd hn (by decide)) (fun _ => ?_)
                    refine az_E.sn 3 (pc' := 92) (L' := [.retAddr 0, .retAddr 0, .int v2, .retAddr 0, .int v4, .int v5, .ref 63, .ref 65]) (S' := [.int v5, .int v4, .ref 65]) (σ' := (97, I, J, R)) rfl ?_
                    refine az_E.call (d := 1) (k' := 60) (vs := [.ref 65, .int v4, .int v5]) (pc' := 95) (S' := []) rfl ?_ (fun _ _ hq => hq)
                    show az_E az_F ex 1 60 0 [.ref 65, .int v4, .int v5] [] (97, I, J, R) _
                    refine az_E.sn 1 (pc' := 1) (L' := [.ref 65, .int v4, .int v5]) (S' := [.int v4]) (σ' := (97, I, J, R)) rfl ?_
                    refine az_E.br (c := v4 < 0) (tt := 30) (ff := 4) (L' := [.ref 65, .int v4, .int v5]) (S' := []) (σ' := (97, I, J, R)) rfl (fun hc_489 => ?_) (fun hc_489 => ?_)
                    · rw [if_pos hc_489] at h
                      refine az_E.sn 1 (pc' := 31) (L' := [.ref 65, .int v4, .int v5]) (S' := [.int (0 : Int32)]) (σ' := (97, I, J, R)) rfl ?_
                      refine az_E.ret (v := some (.int (0 : Int32))) (σ' := (97, I, J, R)) rfl ?_
                      show az_E az_F ex 2 128 95 [.retAddr 0, .retAddr 0, .int v2, .retAddr 0, .int v4, .int v5, .ref 63, .ref 65] [.int (0 : Int32)] (97, I, J, R) _
                      refine az_E.br (c := (0 : Int32) = 0) (tt := 98) (ff := 101) (L' := [.retAddr 0, .retAddr 0, .int v2, .retAddr 0, .int v4, .int v5, .ref 63, .ref 65]) (S' := []) (σ' := (97, I, J, R)) rfl (fun _ => ?_) (fun hn => absurd (by decide) hn)
                      refine az_E.sn 1 (pc' := 100) (L' := [.retAddr 0, .retAddr 0, .int v2, .retAddr 0, .int v4, .int v5, .ref 63, .ref 65]) (S' := [.int (-13 : Int32)]) (σ' := (97, I, J, R)) rfl ?_
                      have h := Option.some.inj h
                      subst h
                      exact az_E.ret (v := some (.int (-13 : Int32))) (σ' := (97, I, J, R)) rfl hQ
                    · rw [if_neg hc_489] at h
                      refine az_E.sn 1 (pc' := 5) (L' := [.ref 65, .int v4, .int v5]) (S' := [.int v5]) (σ' := (97, I, J, R)) rfl ?_
                      refine az_E.br (c := v5 < 0) (tt := 30) (ff := 8) (L' := [.ref 65, .int v4, .int v5]) (S' := []) (σ' := (97, I, J, R)) rfl (fun hc_490 => ?_) (fun hc_490 => ?_)
                      · rw [if_pos hc_490] at h
                        refine az_E.sn 1 (pc' := 31) (L' := [.ref 65, .int v4, .int v5]) (S' := [.int (0 : Int32)]) (σ' := (97, I, J, R)) rfl ?_
                        refine az_E.ret (v := some (.int (0 : Int32))) (σ' := (97, I, J, R)) rfl ?_
                        show az_E az_F ex 2 128 95 [.retAddr 0, .retAddr 0, .int v2, .retAddr 0, .int v4, .int v5, .ref 63, .ref 65] [.int (0 : Int32)] (97, I, J, R) _
                        refine az_E.br (c := (0 : Int32) = 0) (tt := 98) (ff := 101) (L' := [.retAddr 0, .retAddr 0, .int v2, .retAddr 0, .int v4, .int v5, .ref 63, .ref 65]) (S' := []) (σ' := (97, I, J, R)) rfl (fun _ => ?_) (fun hn => absurd (by decide) hn)
                        refine az_E.sn 1 (pc' := 100) (L' := [.retAddr 0, .retAddr 0, .int v2, .retAddr 0, .int v4, .int v5, .ref 63, .ref 65]) (S' := [.int (-13 : Int32)]) (σ' := (97, I, J, R)) rfl ?_
                        have h := Option.some.inj h
                        subst h
                        exact az_E.ret (v := some (.int (-13 : Int32))) (σ' := (97, I, J, R)) rfl hQ
                      · rw [if_neg hc_490] at h
                        refine az_E.sn 3 (pc' := 13) (L' := [.ref 65, .int v4, .int v5]) (S' := [.int (I 65 2), .int v4]) (σ' := (97, I, J, R)) rfl ?_
                        refine az_E.br (c := (I 65 2) < v4) (tt := 30) (ff := 16) (L' := [.ref 65, .int v4, .int v5]) (S' := []) (σ' := (97, I, J, R)) rfl (fun hc_491 => ?_) (fun hc_491 => ?_)
                        · rw [if_pos hc_491] at h
                          refine az_E.sn 1 (pc' := 31) (L' := [.ref 65, .int v4, .int v5]) (S' := [.int (0 : Int32)]) (σ' := (97, I, J, R)) rfl ?_
                          refine az_E.ret (v := some (.int (0 : Int32))) (σ' := (97, I, J, R)) rfl ?_
                          show az_E az_F ex 2 128 95 [.retAddr 0, .retAddr 0, .int v2, .retAddr 0, .int v4, .int v5, .ref 63, .ref 65] [.int (0 : Int32)] (97, I, J, R) _
                          refine az_E.br (c := (0 : Int32) = 0) (tt := 98) (ff := 101) (L' := [.retAddr 0, .retAddr 0, .int v2, .retAddr 0, .int v4, .int v5, .ref 63, .ref 65]) (S' := []) (σ' := (97, I, J, R)) rfl (fun _ => ?_) (fun hn => absurd (by decide) hn)
                          refine az_E.sn 1 (pc' := 100) (L' := [.retAddr 0, .retAddr 0, .int v2, .retAddr 0, .int v4, .int v5, .ref 63, .ref 65]) (S' := [.int (-13 : Int32)]) (σ' := (97, I, J, R)) rfl ?_
                          have h := Option.some.inj h
                          subst h
                          exact az_E.ret (v := some (.int (-13 : Int32))) (σ' := (97, I, J, R)) rfl hQ
                        · rw [if_neg hc_491] at h
                          refine az_E.sn 5 (pc' := 23) (L' := [.ref 65, .int v4, .int v5]) (S' := [.int ((I 65 2) - v4), .int v5]) (σ' := (97, I, J, R)) rfl ?_
                          refine az_E.br (c := ((I 65 2) - v4) < v5) (tt := 30) (ff := 26) (L' := [.ref 65, .int v4, .int v5]) (S' := []) (σ' := (97, I, J, R)) rfl (fun hc_492 => ?_) (fun hc_492 => ?_)
                          · rw [if_pos hc_492] at h
                            refine az_E.sn 1 (pc' := 31) (L' := [.ref 65, .int v4, .int v5]) (S' := [.int (0 : Int32)]) (σ' := (97, I, J, R)) rfl ?_
                            refine az_E.ret (v := some (.int (0 : Int32))) (σ' := (97, I, J, R)) rfl ?_
                            show az_E az_F ex 2 128 95 [.retAddr 0, .retAddr 0, .int v2, .retAddr 0, .int v4, .int v5, .ref 63, .ref 65] [.int (0 : Int32)] (97, I, J, R) _
                            refine az_E.br (c := (0 : Int32) = 0) (tt := 98) (ff := 101) (L' := [.retAddr 0, .retAddr 0, .int v2, .retAddr 0, .int v4, .int v5, .ref 63, .ref 65]) (S' := []) (σ' := (97, I, J, R)) rfl (fun _ => ?_) (fun hn => absurd (by decide) hn)
                            refine az_E.sn 1 (pc' := 100) (L' := [.retAddr 0, .retAddr 0, .int v2, .retAddr 0, .int v4, .int v5, .ref 63, .ref 65]) (S' := [.int (-13 : Int32)]) (σ' := (97, I, J, R)) rfl ?_
                            have h := Option.some.inj h
                            subst h
                            exact az_E.ret (v := some (.int (-13 : Int32))) (σ' := (97, I, J, R)) rfl hQ
                          · rw [if_neg hc_492] at h
                            refine az_E.sn 2 (pc' := 31) (L' := [.ref 65, .int v4, .int v5]) (S' := [.int (1 : Int32)]) (σ' := (97, I, J, R)) rfl ?_
                            refine az_E.ret (v := some (.int (1 : Int32))) (σ' := (97, I, J, R)) rfl ?_
                            show az_E az_F ex 2 128 95 [.retAddr 0, .retAddr 0, .int v2, .retAddr 0, .int v4, .int v5, .ref 63, .ref 65] [.int (1 : Int32)] (97, I, J, R) _
                            refine az_E.br (c := (1 : Int32) = 0) (tt := 98) (ff := 101) (L' := [.retAddr 0, .retAddr 0, .int v2, .retAddr 0, .int v4, .int v5, .ref 63, .ref 65]) (S' := []) (σ' := (97, I, J, R)) rfl (fun hn => absurd hn (by decide)) (fun _ => ?_)
                            refine az_E.sn 7 (pc' := 116) (L' := [.retAddr 0, .retAddr 0, .int v2, .retAddr 0, .int v4, .int v5, .ref 63, .ref 65]) (S' := [.int v5, .int v4, .ref (65 + 1), .int v2, .ref (63 + 1)]) (σ' := (97, I, J, R)) rfl ?_
                            by_cases hc_493 : v2 < 0 ∨ v4 < 0 ∨ v5 < 0 ∨ 60 < v2.toNatClampNeg + v5.toNatClampNeg ∨ 60 < v4.toNatClampNeg + v5.toNatClampNeg
                            · rw [if_pos hc_493] at h; cases h
                            · rw [if_neg hc_493] at h
                              refine az_E.o (o := az_cp az_F (97, I, J, R) (63 + 1) v2 (65 + 1) v4 v5) (pc' := 119) (L' := [.retAddr 0, .retAddr 0, .int v2, .retAddr 0, .int v4, .int v5, .ref 63, .ref 65]) (S' := []) (x := (97, I, (az_ur J (65 + 1) (va_cpy (J (63 + 1)) (J (65 + 1)) v2.toNatClampNeg v4.toNatClampNeg v5.toNatClampNeg)), R)) rfl (if_neg hc_493) ?_
                              refine az_E.sn 1 (pc' := 121) (L' := [.retAddr 0, .retAddr 0, .int v2, .retAddr 0, .int v4, .int v5, .ref 63, .ref 65]) (S' := [.int v5]) (σ' := (97, I, (az_ur J (65 + 1) (va_cpy (J (63 + 1)) (J (65 + 1)) v2.toNatClampNeg v4.toNatClampNeg v5.toNatClampNeg)), R)) rfl ?_
                              have h := Option.some.inj h
                              subst h
                              exact az_E.ret (v := some (.int v5)) (σ' := (97, I, (az_ur J (65 + 1) (va_cpy (J (63 + 1)) (J (65 + 1)) v2.toNatClampNeg v4.toNatClampNeg v5.toNatClampNeg)), R)) rfl hQ
          · rw [if_neg hc_484] at h
            refine az_E.sn 1 (pc' := 20) (L' := [.ref 65, .int (I 63 1)]) (S' := [.int (0 : Int32)]) (σ' := (97, I, J, R)) rfl ?_
            refine az_E.ret (v := some (.int (0 : Int32))) (σ' := (97, I, J, R)) rfl ?_
            show az_E az_F ex 2 128 69 [.retAddr 0, .retAddr 0, .int v2, .retAddr 0, .int v4, .int v5, .ref 63, .ref 65] [.int (0 : Int32)] (97, I, J, R) _
            refine az_E.br (c := (0 : Int32) = 0) (tt := 72) (ff := 75) (L' := [.retAddr 0, .retAddr 0, .int v2, .retAddr 0, .int v4, .int v5, .ref 63, .ref 65]) (S' := []) (σ' := (97, I, J, R)) rfl (fun _ => ?_) (fun hn => absurd (by decide) hn)
            refine az_E.sn 1 (pc' := 74) (L' := [.retAddr 0, .retAddr 0, .int v2, .retAddr 0, .int v4, .int v5, .ref 63, .ref 65]) (S' := [.int (-12 : Int32)]) (σ' := (97, I, J, R)) rfl ?_
            have h := Option.some.inj h
            subst h
            exact az_E.ret (v := some (.int (-12 : Int32))) (σ' := (97, I, J, R)) rfl hQ
set_option maxRecDepth 100000 in
set_option maxHeartbeats 4000000 in
theorem re_X_shift_30_63_67 {ex : az_X} {I : Nat → Nat → Int32} {J : Nat → Nat → Int64} {R : Nat → Nat → Option Nat} {v2 : Int32} {v4 : Int32} {v5 : Int32} {x : Int32 × (Nat → Nat → Int64)} (h : rs_X_shift_30 63 67 I J v2 v4 v5 = some x) {Q : Option Value → az_S → Prop} (hQ : Q (some (.int x.1)) (97, I, x.2, R)) : az_E az_F ex 2 128 30 [.retAddr 0, .retAddr 0, .int v2, .retAddr 0, .int v4, .int v5, .ref 63, .retAddr 0] [.ref 67] (97, I, J, R) Q := by
  unfold rs_X_shift_30 at h
  refine az_E.sn 2 (pc' := 34) (L' := [.retAddr 0, .retAddr 0, .int v2, .retAddr 0, .int v4, .int v5, .ref 63, .ref 67]) (S' := [.ref 63]) (σ' := (97, I, J, R)) rfl ?_
  refine az_E.call (d := 1) (k' := 54) (vs := [.ref 63]) (pc' := 37) (S' := []) rfl ?_ (fun _ _ hq => hq)
  show az_E az_F ex 1 54 0 [.ref 63] [] (97, I, J, R) _
  refine az_E.sn 3 (pc' := 5) (L' := [.ref 63]) (S' := [.int (-1 : Int32), .int (I 63 0)]) (σ' := (97, I, J, R)) rfl ?_
  refine az_E.br (c := (I 63 0) = (-1 : Int32)) (tt := 8) (ff := 20) (L' := [.ref 63]) (S' := []) (σ' := (97, I, J, R)) rfl (fun hc_494 => ?_) (fun hc_494 => ?_)
  · rw [if_pos hc_494] at h
    refine az_E.sn 3 (pc' := 13) (L' := [.ref 63]) (S' := [.int (-1 : Int32), .int (I 63 1)]) (σ' := (97, I, J, R)) rfl ?_
    refine az_E.br (c := (I 63 1) = (-1 : Int32)) (tt := 16) (ff := 20) (L' := [.ref 63]) (S' := []) (σ' := (97, I, J, R)) rfl (fun hc_495 => ?_) (fun hc_495 => ?_)
    · rw [if_pos hc_495] at h
      refine az_E.sn 2 (pc' := 21) (L' := [.ref 63]) (S' := [.int (1 : Int32)]) (σ' := (97, I, J, R)) rfl ?_
      refine az_E.ret (v := some (.int (1 : Int32))) (σ' := (97, I, J, R)) rfl ?_
      show az_E az_F ex 2 128 37 [.retAddr 0, .retAddr 0, .int v2, .retAddr 0, .int v4, .int v5, .ref 63, .ref 67] [.int (1 : Int32)] (97, I, J, R) _
      refine az_E.br (c := (1 : Int32) = 0) (tt := 40) (ff := 48) (L' := [.retAddr 0, .retAddr 0, .int v2, .retAddr 0, .int v4, .int v5, .ref 63, .ref 67]) (S' := []) (σ' := (97, I, J, R)) rfl (fun hn => absurd hn (by decide)) (fun _ => ?_)
      refine az_E.sn 1 (pc' := 50) (L' := [.retAddr 0, .retAddr 0, .int v2, .retAddr 0, .int v4, .int v5, .ref 63, .ref 67]) (S' := [.int (-11 : Int32)]) (σ' := (97, I, J, R)) rfl ?_
      have h := Option.some.inj h
      subst h
      exact az_E.ret (v := some (.int (-11 : Int32))) (σ' := (97, I, J, R)) rfl hQ
    · rw [if_neg hc_495] at h
      refine az_E.sn 1 (pc' := 21) (L' := [.ref 63]) (S' := [.int (0 : Int32)]) (σ' := (97, I, J, R)) rfl ?_
      refine az_E.ret (v := some (.int (0 : Int32))) (σ' := (97, I, J, R)) rfl ?_
      show az_E az_F ex 2 128 37 [.retAddr 0, .retAddr 0, .int v2, .retAddr 0, .int v4, .int v5, .ref 63, .ref 67] [.int (0 : Int32)] (97, I, J, R) _
      refine az_E.br (c := (0 : Int32) = 0) (tt := 40) (ff := 48) (L' := [.retAddr 0, .retAddr 0, .int v2, .retAddr 0, .int v4, .int v5, .ref 63, .ref 67]) (S' := []) (σ' := (97, I, J, R)) rfl (fun _ => ?_) (fun hn => absurd (by decide) hn)
      refine az_E.sn 1 (pc' := 42) (L' := [.retAddr 0, .retAddr 0, .int v2, .retAddr 0, .int v4, .int v5, .ref 63, .ref 67]) (S' := [.ref 67]) (σ' := (97, I, J, R)) rfl ?_
      refine az_E.call (d := 1) (k' := 54) (vs := [.ref 67]) (pc' := 45) (S' := []) rfl ?_ (fun _ _ hq => hq)
      show az_E az_F ex 1 54 0 [.ref 67] [] (97, I, J, R) _
      refine az_E.sn 3 (pc' := 5) (L' := [.ref 67]) (S' := [.int (-1 : Int32), .int (I 67 0)]) (σ' := (97, I, J, R)) rfl ?_
      refine az_E.br (c := (I 67 0) = (-1 : Int32)) (tt := 8) (ff := 20) (L' := [.ref 67]) (S' := []) (σ' := (97, I, J, R)) rfl (fun hc_496 => ?_) (fun hc_496 => ?_)
      · rw [if_pos hc_496] at h
        refine az_E.sn 3 (pc' := 13) (L' := [.ref 67]) (S' := [.int (-1 : Int32), .int (I 67 1)]) (σ' := (97, I, J, R)) rfl ?_
        refine az_E.br (c := (I 67 1) = (-1 : Int32)) (tt := 16) (ff := 20) (L' := [.ref 67]) (S' := []) (σ' := (97, I, J, R)) rfl (fun hc_497 => ?_) (fun hc_497 => ?_)
        · rw [if_pos hc_497] at h
          refine az_E.sn 2 (pc' := 21) (L' := [.ref 67]) (S' := [.int (1 : Int32)]) (σ' := (97, I, J, R)) rfl ?_
          refine az_E.ret (v := some (.int (1 : Int32))) (σ' := (97, I, J, R)) rfl ?_
          show az_E az_F ex 2 128 45 [.retAddr 0, .retAddr 0, .int v2, .retAddr 0, .int v4, .int v5, .ref 63, .ref 67] [.int (1 : Int32)] (97, I, J, R) _
          refine az_E.br (c := (1 : Int32) = 0) (tt := 51) (ff := 48) (L' := [.retAddr 0, .retAddr 0, .int v2, .retAddr 0, .int v4, .int v5, .ref 63, .ref 67]) (S' := []) (σ' := (97, I, J, R)) rfl (fun hn => absurd hn (by decide)) (fun _ => ?_)
          refine az_E.sn 1 (pc' := 50) (L' := [.retAddr 0, .retAddr 0, .int v2, .retAddr 0, .int v4, .int v5, .ref 63, .ref 67]) (S' := [.int (-11 : Int32)]) (σ' := (97, I, J, R)) rfl ?_
          have h := Option.some.inj h
          subst h
          exact az_E.ret (v := some (.int (-11 : Int32))) (σ' := (97, I, J, R)) rfl hQ
        · rw [if_neg hc_497] at h
          refine az_E.sn 1 (pc' := 21) (L' := [.ref 67]) (S' := [.int (0 : Int32)]) (σ' := (97, I, J, R)) rfl ?_
          refine az_E.ret (v := some (.int (0 : Int32))) (σ' := (97, I, J, R)) rfl ?_
          show az_E az_F ex 2 128 45 [.retAddr 0, .retAddr 0, .int v2, .retAddr 0, .int v4, .int v5, .ref 63, .ref 67] [.int (0 : Int32)] (97, I, J, R) _
          refine az_E.br (c := (0 : Int32) = 0) (tt := 51) (ff := 48) (L' := [.retAddr 0, .retAddr 0, .int v2, .retAddr 0, .int v4, .int v5, .ref 63, .ref 67]) (S' := []) (σ' := (97, I, J, R)) rfl (fun _ => ?_) (fun hn => absurd (by decide) hn)
          refine az_E.sn 1 (pc' := 53) (L' := [.retAddr 0, .retAddr 0, .int v2, .retAddr 0, .int v4, .int v5, .ref 63, .ref 67]) (S' := [.ref 63]) (σ' := (97, I, J, R)) rfl ?_
          refine az_E.call (d := 1) (k' := 55) (vs := [.ref 63]) (pc' := 56) (S' := []) rfl ?_ (fun _ _ hq => hq)
          show az_E az_F ex 1 55 0 [.ref 63] [] (97, I, J, R) _
          refine az_E.sn 3 (pc' := 5) (L' := [.ref 63]) (S' := [.int (-1 : Int32), .int (I 63 1)]) (σ' := (97, I, J, R)) rfl ?_
          refine az_E.br (c := (I 63 1) = (-1 : Int32)) (tt := 12) (ff := 8) (L' := [.ref 63]) (S' := []) (σ' := (97, I, J, R)) rfl (fun hc_498 => ?_) (fun hc_498 => ?_)
          · rw [if_pos hc_498] at h
            refine az_E.sn 1 (pc' := 13) (L' := [.ref 63]) (S' := [.int (0 : Int32)]) (σ' := (97, I, J, R)) rfl ?_
            refine az_E.ret (v := some (.int (0 : Int32))) (σ' := (97, I, J, R)) rfl ?_
            show az_E az_F ex 2 128 56 [.retAddr 0, .retAddr 0, .int v2, .retAddr 0, .int v4, .int v5, .ref 63, .ref 67] [.int (0 : Int32)] (97, I, J, R) _
            refine az_E.br (c := (0 : Int32) = 0) (tt := 72) (ff := 59) (L' := [.retAddr 0, .retAddr 0, .int v2, .retAddr 0, .int v4, .int v5, .ref 63, .ref 67]) (S' := []) (σ' := (97, I, J, R)) rfl (fun _ => ?_) (fun hn => absurd (by decide) hn)
            refine az_E.sn 1 (pc' := 74) (L' := [.retAddr 0, .retAddr 0, .int v2, .retAddr 0, .int v4, .int v5, .ref 63, .ref 67]) (S' := [.int (-12 : Int32)]) (σ' := (97, I, J, R)) rfl ?_
            have h := Option.some.inj h
            subst h
            exact az_E.ret (v := some (.int (-12 : Int32))) (σ' := (97, I, J, R)) rfl hQ
          · rw [if_neg hc_498] at h
            refine az_E.sn 2 (pc' := 13) (L' := [.ref 63]) (S' := [.int (1 : Int32)]) (σ' := (97, I, J, R)) rfl ?_
            refine az_E.ret (v := some (.int (1 : Int32))) (σ' := (97, I, J, R)) rfl ?_
            show az_E az_F ex 2 128 56 [.retAddr 0, .retAddr 0, .int v2, .retAddr 0, .int v4, .int v5, .ref 63, .ref 67] [.int (1 : Int32)] (97, I, J, R) _
            refine az_E.br (c := (1 : Int32) = 0) (tt := 72) (ff := 59) (L' := [.retAddr 0, .retAddr 0, .int v2, .retAddr 0, .int v4, .int v5, .ref 63, .ref 67]) (S' := []) (σ' := (97, I, J, R)) rfl (fun hn => absurd hn (by decide)) (fun _ => ?_)
            refine az_E.sn 3 (pc' := 66) (L' := [.retAddr 0, .retAddr 0, .int v2, .retAddr 0, .int v4, .int v5, .ref 63, .ref 67]) (S' := [.int (I 63 1), .ref 67]) (σ' := (97, I, J, R)) rfl ?_
            refine az_E.call (d := 1) (k' := 56) (vs := [.ref 67, .int (I 63 1)]) (pc' := 69) (S' := []) rfl ?_ (fun _ _ hq => hq)
            show az_E az_F ex 1 56 0 [.ref 67, .int (I 63 1)] [] (97, I, J, R) _
            refine az_E.sn 1 (pc' := 1) (L' := [.ref 67, .int (I 63 1)]) (S' := [.ref 67]) (σ' := (97, I, J, R)) rfl ?_
            refine az_E.call (d := 0) (k' := 55) (vs := [.ref 67]) (pc' := 4) (S' := []) rfl ?_ (fun _ _ hq => hq)
            show az_E az_F ex 0 55 0 [.ref 67] [] (97, I, J, R) _
            refine az_E.sn 3 (pc' := 5) (L' := [.ref 67]) (S' := [.int (-1 : Int32), .int (I 67 1)]) (σ' := (97, I, J, R)) rfl ?_
            refine az_E.br (c := (I 67 1) = (-1 : Int32)) (tt := 12) (ff := 8) (L' := [.ref 67]) (S' := []) (σ' := (97, I, J, R)) rfl (fun hc_499 => ?_) (fun hc_499 => ?_)
            · rw [if_pos hc_499] at h
              refine az_E.sn 1 (pc' := 13) (L' := [.ref 67]) (S' := [.int (0 : Int32)]) (σ' := (97, I, J, R)) rfl ?_
              refine az_E.ret (v := some (.int (0 : Int32))) (σ' := (97, I, J, R)) rfl ?_
              show az_E az_F ex 1 56 4 [.ref 67, .int (I 63 1)] [.int (0 : Int32)] (97, I, J, R) _
              refine az_E.br (c := (0 : Int32) = 0) (tt := 19) (ff := 7) (L' := [.ref 67, .int (I 63 1)]) (S' := []) (σ' := (97, I, J, R)) rfl (fun _ => ?_) (fun hn => absurd (by decide) hn)
              refine az_E.sn 1 (pc' := 20) (L' := [.ref 67, .int (I 63 1)]) (S' := [.int (0 : Int32)]) (σ' := (97, I, J, R)) rfl ?_
              refine az_E.ret (v := some (.int (0 : Int32))) (σ' := (97, I, J, R)) rfl ?_
              show az_E az_F ex 2 128 69 [.retAddr 0, .retAddr 0, .int v2, .retAddr 0, .int v4, .int v5, .ref 63, .ref 67] [.int (0 : Int32)] (97, I, J, R) _
              refine az_E.br (c := (0 : Int32) = 0) (tt := 72) (ff := 75) (L' := [.retAddr 0, .retAddr 0, .int v2, .retAddr 0, .int v4, .int v5, .ref 63, .ref 67]) (S' := []) (σ' := (97, I, J, R)) rfl (fun _ => ?_) (fun hn => absurd (by decide) hn)
              refine az_E.sn 1 (pc' := 74) (L' := [.retAddr 0, .retAddr 0, .int v2, .retAddr 0, .int v4, .int v5, .ref 63, .ref 67]) (S' := [.int (-12 : Int32)]) (σ' := (97, I, J, R)) rfl ?_
              have h := Option.some.inj h
              subst h
              exact az_E.ret (v := some (.int (-12 : Int32))) (σ' := (97, I, J, R)) rfl hQ
            · rw [if_neg hc_499] at h
              refine az_E.sn 2 (pc' := 13) (L' := [.ref 67]) (S' := [.int (1 : Int32)]) (σ' := (97, I, J, R)) rfl ?_
              refine az_E.ret (v := some (.int (1 : Int32))) (σ' := (97, I, J, R)) rfl ?_
              show az_E az_F ex 1 56 4 [.ref 67, .int (I 63 1)] [.int (1 : Int32)] (97, I, J, R) _
              refine az_E.br (c := (1 : Int32) = 0) (tt := 19) (ff := 7) (L' := [.ref 67, .int (I 63 1)]) (S' := []) (σ' := (97, I, J, R)) rfl (fun hn => absurd hn (by decide)) (fun _ => ?_)
              refine az_E.sn 3 (pc' := 12) (L' := [.ref 67, .int (I 63 1)]) (S' := [.int (I 63 1), .int (I 67 1)]) (σ' := (97, I, J, R)) rfl ?_
              refine az_E.br (c := (I 67 1) = (I 63 1)) (tt := 15) (ff := 19) (L' := [.ref 67, .int (I 63 1)]) (S' := []) (σ' := (97, I, J, R)) rfl (fun hc_500 => ?_) (fun hc_500 => ?_)
              · rw [if_pos hc_500] at h
                refine az_E.sn 2 (pc' := 20) (L' := [.ref 67, .int (I 63 1)]) (S' := [.int (1 : Int32)]) (σ' := (97, I, J, R)) rfl ?_
                refine az_E.ret (v := some (.int (1 : Int32))) (σ' := (97, I, J, R)) rfl ?_
                show az_E az_F ex 2 128 69 [.retAddr 0, .retAddr 0, .int v2, .retAddr 0, .int v4, .int v5, .ref 63, .ref 67] [.int (1 : Int32)] (97, I, J, R) _
                refine az_E.br (c := (1 : Int32) = 0) (tt := 72) (ff := 75) (L' := [.retAddr 0, .retAddr 0, .int v2, .retAddr 0, .int v4, .int v5, .ref 63, .ref 67]) (S' := []) (σ' := (97, I, J, R)) rfl (fun hn => absurd hn (by decide)) (fun _ => ?_)
                refine az_E.sn 3 (pc' := 80) (L' := [.retAddr 0, .retAddr 0, .int v2, .retAddr 0, .int v4, .int v5, .ref 63, .ref 67]) (S' := [.int v5, .int v2, .ref 63]) (σ' := (97, I, J, R)) rfl ?_
                refine az_E.call (d := 1) (k' := 60) (vs := [.ref 63, .int v2, .int v5]) (pc' := 83) (S' := []) rfl ?_ (fun _ _ hq => hq)
                show az_E az_F ex 1 60 0 [.ref 63, .int v2, .int v5] [] (97, I, J, R) _
                refine az_E.sn 1 (pc' := 1) (L' := [.ref 63, .int v2, .int v5]) (S' := [.int v2]) (σ' := (97, I, J, R)) rfl ?_
                refine az_E.br (c := v2 < 0) (tt := 30) (ff := 4) (L' := [.ref 63, .int v2, .int v5]) (S' := []) (σ' := (97, I, J, R)) rfl (fun hc_501 => ?_) (fun hc_501 => ?_)
                · rw [if_pos hc_501] at h
                  refine az_E.sn 1 (pc' := 31) (L' := [.ref 63, .int v2, .int v5]) (S' := [.int (0 : Int32)]) (σ' := (97, I, J, R)) rfl ?_
                  refine az_E.ret (v := some (.int (0 : Int32))) (σ' := (97, I, J, R)) rfl ?_
                  show az_E az_F ex 2 128 83 [.retAddr 0, .retAddr 0, .int v2, .retAddr 0, .int v4, .int v5, .ref 63, .ref 67] [.int (0 : Int32)] (97, I, J, R) _
                  refine az_E.br (c := (0 : Int32) = 0) (tt := 98) (ff := 86) (L' := [.retAddr 0, .retAddr 0, .int v2, .retAddr 0, .int v4, .int v5, .ref 63, .ref 67]) (S' := []) (σ' := (97, I, J, R)) rfl (fun _ => ?_) (fun hn => absurd (by decide) hn)
                  refine az_E.sn 1 (pc' := 100) (L' := [.retAddr 0, .retAddr 0, .int v2, .retAddr 0, .int v4, .int v5, .ref 63, .ref 67]) (S' := [.int (-13 : Int32)]) (σ' := (97, I, J, R)) rfl ?_
                  have h := Option.some.inj h
                  subst h
                  exact az_E.ret (v := some (.int (-13 : Int32))) (σ' := (97, I, J, R)) rfl hQ
                · rw [if_neg hc_501] at h
                  refine az_E.sn 1 (pc' := 5) (L' := [.ref 63, .int v2, .int v5]) (S' := [.int v5]) (σ' := (97, I, J, R)) rfl ?_
                  refine az_E.br (c := v5 < 0) (tt := 30) (ff := 8) (L' := [.ref 63, .int v2, .int v5]) (S' := []) (σ' := (97, I, J, R)) rfl (fun hc_502 => ?_) (fun hc_502 => ?_)
                  · rw [if_pos hc_502] at h
                    refine az_E.sn 1 (pc' := 31) (L' := [.ref 63, .int v2, .int v5]) (S' := [.int (0 : Int32)]) (σ' := (97, I, J, R)) rfl ?_
                    refine az_E.ret (v := some (.int (0 : Int32))) (σ' := (97, I, J, R)) rfl ?_
                    show az_E az_F ex 2 128 83 [.retAddr 0, .retAddr 0, .int v2, .retAddr 0, .int v4, .int v5, .ref 63, .ref 67] [.int (0 : Int32)] (97, I, J, R) _
                    refine az_E.br (c := (0 : Int32) = 0) (tt := 98) (ff := 86) (L' := [.retAddr 0, .retAddr 0, .int v2, .retAddr 0, .int v4, .int v5, .ref 63, .ref 67]) (S' := []) (σ' := (97, I, J, R)) rfl (fun _ => ?_) (fun hn => absurd (by decide) hn)
                    refine az_E.sn 1 (pc' := 100) (L' := [.retAddr 0, .retAddr 0, .int v2, .retAddr 0, .int v4, .int v5, .ref 63, .ref 67]) (S' := [.int (-13 : Int32)]) (σ' := (97, I, J, R)) rfl ?_
                    have h := Option.some.inj h
                    subst h
                    exact az_E.ret (v := some (.int (-13 : Int32))) (σ' := (97, I, J, R)) rfl hQ
                  · rw [if_neg hc_502] at h
                    refine az_E.sn 3 (pc' := 13) (L' := [.ref 63, .int v2, .int v5]) (S' := [.int (I 63 2), .int v2]) (σ' := (97, I, J, R)) rfl ?_
                    refine az_E.br (c := (I 63 2) < v2) (tt := 30) (ff := 16) (L' := [.ref 63, .int v2, .int v5]) (S' := []) (σ' := (97, I, J, R)) rfl (fun hc_503 => ?_) (fun hc_503 => ?_)
                    · rw [if_pos hc_503] at h
                      refine az_E.sn 1 (pc' := 31) (L' := [.ref 63, .int v2, .int v5]) (S' := [.int (0 : Int32)]) (σ' := (97, I, J, R)) rfl ?_
                      refine az_E.ret (v := some (.int (0 : Int32))) (σ' := (97, I, J, R)) rfl ?_
                      show az_E az_F ex 2 128 83 [.retAddr 0, .retAddr 0, .int v2, .retAddr 0, .int v4, .int v5, .ref 63, .ref 67] [.int (0 : Int32)] (97, I, J, R) _
                      refine az_E.br (c := (0 : Int32) = 0) (tt := 98) (ff := 86) (L' := [.retAddr 0, .retAddr 0, .int v2, .retAddr 0, .int v4, .int v5, .ref 63, .ref 67]) (S' := []) (σ' := (97, I, J, R)) rfl (fun _ => ?_) (fun hn => absurd (by decide) hn)
                      refine az_E.sn 1 (pc' := 100) (L' := [.retAddr 0, .retAddr 0, .int v2, .retAddr 0, .int v4, .int v5, .ref 63, .ref 67]) (S' := [.int (-13 : Int32)]) (σ' := (97, I, J, R)) rfl ?_
                      have h := Option.some.inj h
                      subst h
                      exact az_E.ret (v := some (.int (-13 : Int32))) (σ' := (97, I, J, R)) rfl hQ
                    · rw [if_neg hc_503] at h
                      refine az_E.sn 5 (pc' := 23) (L' := [.ref 63, .int v2, .int v5]) (S' := [.int ((I 63 2) - v2), .int v5]) (σ' := (97, I, J, R)) rfl ?_
                      refine az_E.br (c := ((I 63 2) - v2) < v5) (tt := 30) (ff := 26) (L' := [.ref 63, .int v2, .int v5]) (S' := []) (σ' := (97, I, J, R)) rfl (fun hc_504 => ?_) (fun hc_504 => ?_)
                      · rw [if_pos hc_504] at h
                        refine az_E.sn 1 (pc' := 31) (L' := [.ref 63, .int v2, .int v5]) (S' := [.int (0 : Int32)]) (σ' := (97, I, J, R)) rfl ?_
                        refine az_E.ret (v := some (.int (0 : Int32))) (σ' := (97, I, J, R)) rfl ?_
                        show az_E az_F ex 2 128 83 [.retAddr 0, .retAddr 0, .int v2, .retAddr 0, .int v4, .int v5, .ref 63, .ref 67] [.int (0 : Int32)] (97, I, J, R) _
                        refine az_E.br (c := (0 : Int32) = 0) (tt := 98) (ff := 86) (L' := [.retAddr 0, .retAddr 0, .int v2, .retAddr 0, .int v4, .int v5, .ref 63, .ref 67]) (S' := []) (σ' := (97, I, J, R)) rfl (fun _ => ?_) (fun hn => absurd (by decide) hn)
                        refine az_E.sn 1 (pc' := 100) (L' := [.retAddr 0, .retAddr 0, .int v2, .retAddr 0, .int v4, .int v5, .ref 63, .ref 67]) (S' := [.int (-13 : Int32)]) (σ' := (97, I, J, R)) rfl ?_
                        have h := Option.some.inj h
                        subst h
                        exact az_E.ret (v := some (.int (-13 : Int32))) (σ' := (97, I, J, R)) rfl hQ
                      · rw [if_neg hc_504] at h
                        refine az_E.sn 2 (pc' := 31) (L' := [.ref 63, .int v2, .int v5]) (S' := [.int (1 : Int32)]) (σ' := (97, I, J, R)) rfl ?_
                        refine az_E.ret (v := some (.int (1 : Int32))) (σ' := (97, I, J, R)) rfl ?_
                        show az_E az_F ex 2 128 83 [.retAddr 0, .retAddr 0, .int v2, .retAddr 0, .int v4, .int v5, .ref 63, .ref 67] [.int (1 : Int32)] (97, I, J, R) _
                        refine az_E.br (c := (1 : Int32) = 0) (tt := 98) (ff := 86) (L' := [.retAddr 0, .retAddr 0, .int v2, .retAddr 0, .int v4, .int v5, .ref 63, .ref 67]) (S' := []) (σ' := (97, I, J, R)) rfl (fun hn => absurd hn (by decide)) (fun _ => ?_)
                        refine az_E.sn 3 (pc' := 92) (L' := [.retAddr 0, .retAddr 0, .int v2, .retAddr 0, .int v4, .int v5, .ref 63, .ref 67]) (S' := [.int v5, .int v4, .ref 67]) (σ' := (97, I, J, R)) rfl ?_
                        refine az_E.call (d := 1) (k' := 60) (vs := [.ref 67, .int v4, .int v5]) (pc' := 95) (S' := []) rfl ?_ (fun _ _ hq => hq)
                        show az_E az_F ex 1 60 0 [.ref 67, .int v4, .int v5] [] (97, I, J, R) _
                        refine az_E.sn 1 (pc' := 1) (L' := [.ref 67, .int v4, .int v5]) (S' := [.int v4]) (σ' := (97, I, J, R)) rfl ?_
                        refine az_E.br (c := v4 < 0) (tt := 30) (ff := 4) (L' := [.ref 67, .int v4, .int v5]) (S' := []) (σ' := (97, I, J, R)) rfl (fun hc_505 => ?_) (fun hc_505 => ?_)
                        · rw [if_pos hc_505] at h
                          refine az_E.sn 1 (pc' := 31) (L' := [.ref 67, .int v4, .int v5]) (S' := [.int (0 : Int32)]) (σ' := (97, I, J, R)) rfl ?_
                          refine az_E.ret (v := some (.int (0 : Int32))) (σ' := (97, I, J, R)) rfl ?_
                          show az_E az_F ex 2 128 95 [.retAddr 0, .retAddr 0, .int v2, .retAddr 0, .int v4, .int v5, .ref 63, .ref 67] [.int (0 : Int32)] (97, I, J, R) _
                          refine az_E.br (c := (0 : Int32) = 0) (tt := 98) (ff := 101) (L' := [.retAddr 0, .retAddr 0, .int v2, .retAddr 0, .int v4, .int v5, .ref 63, .ref 67]) (S' := []) (σ' := (97, I, J, R)) rfl (fun _ => ?_) (fun hn => absurd (by decide) hn)
                          refine az_E.sn 1 (pc' := 100) (L' := [.retAddr 0, .retAddr 0, .int v2, .retAddr 0, .int v4, .int v5, .ref 63, .ref 67]) (S' := [.int (-13 : Int32)]) (σ' := (97, I, J, R)) rfl ?_
                          have h := Option.some.inj h
                          subst h
                          exact az_E.ret (v := some (.int (-13 : Int32))) (σ' := (97, I, J, R)) rfl hQ
                        · rw [if_neg hc_505] at h
                          refine az_E.sn 1 (pc' := 5) (L' := [.ref 67, .int v4, .int v5]) (S' := [.int v5]) (σ' := (97, I, J, R)) rfl ?_
                          refine az_E.br (c := v5 < 0) (tt := 30) (ff := 8) (L' := [.ref 67, .int v4, .int v5]) (S' := []) (σ' := (97, I, J, R)) rfl (fun hc_506 => ?_) (fun hc_506 => ?_)
                          · rw [if_pos hc_506] at h
                            refine az_E.sn 1 (pc' := 31) (L' := [.ref 67, .int v4, .int v5]) (S' := [.int (0 : Int32)]) (σ' := (97, I, J, R)) rfl ?_
                            refine az_E.ret (v := some (.int (0 : Int32))) (σ' := (97, I, J, R)) rfl ?_
                            show az_E az_F ex 2 128 95 [.retAddr 0, .retAddr 0, .int v2, .retAddr 0, .int v4, .int v5, .ref 63, .ref 67] [.int (0 : Int32)] (97, I, J, R) _
                            refine az_E.br (c := (0 : Int32) = 0) (tt := 98) (ff := 101) (L' := [.retAddr 0, .retAddr 0, .int v2, .retAddr 0, .int v4, .int v5, .ref 63, .ref 67]) (S' := []) (σ' := (97, I, J, R)) rfl (fun _ => ?_) (fun hn => absurd (by decide) hn)
                            refine az_E.sn 1 (pc' := 100) (L' := [.retAddr 0, .retAddr 0, .int v2, .retAddr 0, .int v4, .int v5, .ref 63, .ref 67]) (S' := [.int (-13 : Int32)]) (σ' := (97, I, J, R)) rfl ?_
                            have h := Option.some.inj h
                            subst h
                            exact az_E.ret (v := some (.int (-13 : Int32))) (σ' := (97, I, J, R)) rfl hQ
                          · rw [if_neg hc_506] at h
                            refine az_E.sn 3 (pc' := 13) (L' := [.ref 67, .int v4, .int v5]) (S' := [.int (I 67 2), .int v4]) (σ' := (97, I, J, R)) rfl ?_
                            refine az_E.br (c := (I 67 2) < v4) (tt := 30) (ff := 16) (L' := [.ref 67, .int v4, .int v5]) (S' := []) (σ' := (97, I, J, R)) rfl (fun hc_507 => ?_) (fun hc_507 => ?_)
                            · rw [if_pos hc_507] at h
                              refine az_E.sn 1 (pc' := 31) (L' := [.ref 67, .int v4, .int v5]) (S' := [.int (0 : Int32)]) (σ' := (97, I, J, R)) rfl ?_
                              refine az_E.ret (v := some (.int (0 : Int32))) (σ' := (97, I, J, R)) rfl ?_
                              show az_E az_F ex 2 128 95 [.retAddr 0, .retAddr 0, .int v2, .retAddr 0, .int v4, .int v5, .ref 63, .ref 67] [.int (0 : Int32)] (97, I, J, R) _
                              refine az_E.br (c := (0 : Int32) = 0) (tt := 98) (ff := 101) (L' := [.retAddr 0, .retAddr 0, .int v2, .retAddr 0, .int v4, .int v5, .ref 63, .ref 67]) (S' := []) (σ' := (97, I, J, R)) rfl (fun _ => ?_) (fun hn => absurd (by decide) hn)
                              refine az_E.sn 1 (pc' := 100) (L' := [.retAddr 0, .retAddr 0, .int v2, .retAddr 0, .int v4, .int v5, .ref 63, .ref 67]) (S' := [.int (-13 : Int32)]) (σ' := (97, I, J, R)) rfl ?_
                              have h := Option.some.inj h
                              subst h
                              exact az_E.ret (v := some (.int (-13 : Int32))) (σ' := (97, I, J, R)) rfl hQ
                            · rw [if_neg hc_507] at h
                              refine az_E.sn 5 (pc' := 23) (L' := [.ref 67, .int v4, .int v5]) (S' := [.int ((I 67 2) - v4), .int v5]) (σ' := (97, I, J, R)) rfl ?_
                              refine az_E.br (c := ((I 67 2) - v4) < v5) (tt := 30) (ff := 26) (L' := [.ref 67, .int v4, .int v5]) (S' := []) (σ' := (97, I, J, R)) rfl (fun hc_508 => ?_) (fun hc_508 => ?_)
                              · rw [if_pos hc_508] at h
                                refine az_E.sn 1 (pc' := 31) (L' := [.ref 67, .int v4, .int v5]) (S' := [.int (0 : Int32)]) (σ' := (97, I, J, R)) rfl ?_
                                refine az_E.ret (v := some (.int (0 : Int32))) (σ' := (97, I, J, R)) rfl ?_
                                show az_E az_F ex 2 128 95 [.retAddr 0, .retAddr 0, .int v2, .retAddr 0, .int v4, .int v5, .ref 63, .ref 67] [.int (0 : Int32)] (97, I, J, R) _
                                refine az_E.br (c := (0 : Int32) = 0) (tt := 98) (ff := 101) (L' := [.retAddr 0, .retAddr 0, .int v2, .retAddr 0, .int v4, .int v5, .ref 63, .ref 67]) (S' := []) (σ' := (97, I, J, R)) rfl (fun _ => ?_) (fun hn => absurd (by decide) hn)
                                refine az_E.sn 1 (pc' := 100) (L' := [.retAddr 0, .retAddr 0, .int v2, .retAddr 0, .int v4, .int v5, .ref 63, .ref 67]) (S' := [.int (-13 : Int32)]) (σ' := (97, I, J, R)) rfl ?_
                                have h := Option.some.inj h
                                subst h
                                exact az_E.ret (v := some (.int (-13 : Int32))) (σ' := (97, I, J, R)) rfl hQ
                              · rw [if_neg hc_508] at h
                                refine az_E.sn 2 (pc' := 31) (L' := [.ref 67, .int v4, .int v5]) (S' := [.int (1 : Int32)]) (σ' := (97, I, J, R)) rfl ?_
                                refine az_E.ret (v := some (.int (1 : Int32))) (σ' := (97, I, J, R)) rfl ?_
                                show az_E az_F ex 2 128 95 [.retAddr 0, .retAddr 0, .int v2, .retAddr 0, .int v4, .int v5, .ref 63, .ref 67] [.int (1 : Int32)] (97, I, J, R) _
                                refine az_E.br (c := (1 : Int32) = 0) (tt := 98) (ff := 101) (L' := [.retAddr 0, .retAddr 0, .int v2, .retAddr 0, .int v4, .int v5, .ref 63, .ref 67]) (S' := []) (σ' := (97, I, J, R)) rfl (fun hn => absurd hn (by decide)) (fun _ => ?_)
                                refine az_E.sn 7 (pc' := 116) (L' := [.retAddr 0, .retAddr 0, .int v2, .retAddr 0, .int v4, .int v5, .ref 63, .ref 67]) (S' := [.int v5, .int v4, .ref (67 + 1), .int v2, .ref (63 + 1)]) (σ' := (97, I, J, R)) rfl ?_
                                by_cases hc_509 : v2 < 0 ∨ v4 < 0 ∨ v5 < 0 ∨ 60 < v2.toNatClampNeg + v5.toNatClampNeg ∨ 60 < v4.toNatClampNeg + v5.toNatClampNeg
                                · rw [if_pos hc_509] at h; cases h
                                · rw [if_neg hc_509] at h
                                  refine az_E.o (o := az_cp az_F (97, I, J, R) (63 + 1) v2 (67 + 1) v4 v5) (pc' := 119) (L' := [.retAddr 0, .retAddr 0, .int v2, .retAddr 0, .int v4, .int v5, .ref 63, .ref 67]) (S' := []) (x := (97, I, (az_ur J (67 + 1) (va_cpy (J (63 + 1)) (J (67 + 1)) v2.toNatClampNeg v4.toNatClampNeg v5.toNatClampNeg)), R)) rfl (if_neg hc_509) ?_
                                  refine az_E.sn 1 (pc' := 121) (L' := [.retAddr 0, .retAddr 0, .int v2, .retAddr 0, .int v4, .int v5, .ref 63, .ref 67]) (S' := [.int v5]) (σ' := (97, I, (az_ur J (67 + 1) (va_cpy (J (63 + 1)) (J (67 + 1)) v2.toNatClampNeg v4.toNatClampNeg v5.toNatClampNeg)), R)) rfl ?_
                                  have h := Option.some.inj h
                                  subst h
                                  exact az_E.ret (v := some (.int v5)) (σ' := (97, I, (az_ur J (67 + 1) (va_cpy (J (63 + 1)) (J (67 + 1)) v2.toNatClampNeg v4.toNatClampNeg v5.toNatClampNeg)), R)) rfl hQ
              · rw [if_neg hc_500] at h
                refine az_E.sn 1 (pc' := 20) (L' := [.ref 67, .int (I 63 1)]) (S' := [.int (0 : Int32)]) (σ' := (97, I, J, R)) rfl ?_
                refine az_E.ret (v := some (.int (0 : Int32))) (σ' := (97, I, J, R)) rfl ?_
                show az_E az_F ex 2 128 69 [.retAddr 0, .retAddr 0, .int v2, .retAddr 0, .int v4, .int v5, .ref 63, .ref 67] [.int (0 : Int32)] (97, I, J, R) _
                refine az_E.br (c := (0 : Int32) = 0) (tt := 72) (ff := 75) (L' := [.retAddr 0, .retAddr 0, .int v2, .retAddr 0, .int v4, .int v5, .ref 63, .ref 67]) (S' := []) (σ' := (97, I, J, R)) rfl (fun _ => ?_) (fun hn => absurd (by decide) hn)
                refine az_E.sn 1 (pc' := 74) (L' := [.retAddr 0, .retAddr 0, .int v2, .retAddr 0, .int v4, .int v5, .ref 63, .ref 67]) (S' := [.int (-12 : Int32)]) (σ' := (97, I, J, R)) rfl ?_
                have h := Option.some.inj h
                subst h
                exact az_E.ret (v := some (.int (-12 : Int32))) (σ' := (97, I, J, R)) rfl hQ
      · rw [if_neg hc_496] at h
        refine az_E.sn 1 (pc' := 21) (L' := [.ref 67]) (S' := [.int (0 : Int32)]) (σ' := (97, I, J, R)) rfl ?_
        refine az_E.ret (v := some (.int (0 : Int32))) (σ' := (97, I, J, R)) rfl ?_
        show az_E az_F ex 2 128 45 [.retAddr 0, .retAddr 0, .int v2, .retAddr 0, .int v4, .int v5, .ref 63, .ref 67] [.int (0 : Int32)] (97, I, J, R) _
        refine az_E.br (c := (0 : Int32) = 0) (tt := 51) (ff := 48) (L' := [.retAddr 0, .retAddr 0, .int v2, .retAddr 0, .int v4, .int v5, .ref 63, .ref 67]) (S' := []) (σ' := (97, I, J, R)) rfl (fun _ => ?_) (fun hn => absurd (by decide) hn)
        refine az_E.sn 1 (pc' := 53) (L' := [.retAddr 0, .retAddr 0, .int v2, .retAddr 0, .int v4, .int v5, .ref 63, .ref 67]) (S' := [.ref 63]) (σ' := (97, I, J, R)) rfl ?_
        refine az_E.call (d := 1) (k' := 55) (vs := [.ref 63]) (pc' := 56) (S' := []) rfl ?_ (fun _ _ hq => hq)
        show az_E az_F ex 1 55 0 [.ref 63] [] (97, I, J, R) _
        refine az_E.sn 3 (pc' := 5) (L' := [.ref 63]) (S' := [.int (-1 : Int32), .int (I 63 1)]) (σ' := (97, I, J, R)) rfl ?_
        refine az_E.br (c := (I 63 1) = (-1 : Int32)) (tt := 12) (ff := 8) (L' := [.ref 63]) (S' := []) (σ' := (97, I, J, R)) rfl (fun hc_510 => ?_) (fun hc_510 => ?_)
        · rw [if_pos hc_510] at h
          refine az_E.sn 1 (pc' := 13) (L' := [.ref 63]) (S' := [.int (0 : Int32)]) (σ' := (97, I, J, R)) rfl ?_
          refine az_E.ret (v := some (.int (0 : Int32))) (σ' := (97, I, J, R)) rfl ?_
          show az_E az_F ex 2 128 56 [.retAddr 0, .retAddr 0, .int v2, .retAddr 0, .int v4, .int v5, .ref 63, .ref 67] [.int (0 : Int32)] (97, I, J, R) _
          refine az_E.br (c := (0 : Int32) = 0) (tt := 72) (ff := 59) (L' := [.retAddr 0, .retAddr 0, .int v2, .retAddr 0, .int v4, .int v5, .ref 63, .ref 67]) (S' := []) (σ' := (97, I, J, R)) rfl (fun _ => ?_) (fun hn => absurd (by decide) hn)
          refine az_E.sn 1 (pc' := 74) (L' := [.retAddr 0, .retAddr 0, .int v2, .retAddr 0, .int v4, .int v5, .ref 63, .ref 67]) (S' := [.int (-12 : Int32)]) (σ' := (97, I, J, R)) rfl ?_
          have h := Option.some.inj h
          subst h
          exact az_E.ret (v := some (.int (-12 : Int32))) (σ' := (97, I, J, R)) rfl hQ
        · rw [if_neg hc_510] at h
          refine az_E.sn 2 (pc' := 13) (L' := [.ref 63]) (S' := [.int (1 : Int32)]) (σ' := (97, I, J, R)) rfl ?_
          refine az_E.ret (v := some (.int (1 : Int32))) (σ' := (97, I, J, R)) rfl ?_
          show az_E az_F ex 2 128 56 [.retAddr 0, .retAddr 0, .int v2, .retAddr 0, .int v4, .int v5, .ref 63, .ref 67] [.int (1 : Int32)] (97, I, J, R) _
          refine az_E.br (c := (1 : Int32) = 0) (tt := 72) (ff := 59) (L' := [.retAddr 0, .retAddr 0, .int v2, .retAddr 0, .int v4, .int v5, .ref 63, .ref 67]) (S' := []) (σ' := (97, I, J, R)) rfl (fun hn => absurd hn (by decide)) (fun _ => ?_)
          refine az_E.sn 3 (pc' := 66) (L' := [.retAddr 0, .retAddr 0, .int v2, .retAddr 0, .int v4, .int v5, .ref 63, .ref 67]) (S' := [.int (I 63 1), .ref 67]) (σ' := (97, I, J, R)) rfl ?_
          refine az_E.call (d := 1) (k' := 56) (vs := [.ref 67, .int (I 63 1)]) (pc' := 69) (S' := []) rfl ?_ (fun _ _ hq => hq)
          show az_E az_F ex 1 56 0 [.ref 67, .int (I 63 1)] [] (97, I, J, R) _
          refine az_E.sn 1 (pc' := 1) (L' := [.ref 67, .int (I 63 1)]) (S' := [.ref 67]) (σ' := (97, I, J, R)) rfl ?_
          refine az_E.call (d := 0) (k' := 55) (vs := [.ref 67]) (pc' := 4) (S' := []) rfl ?_ (fun _ _ hq => hq)
          show az_E az_F ex 0 55 0 [.ref 67] [] (97, I, J, R) _
          refine az_E.sn 3 (pc' := 5) (L' := [.ref 67]) (S' := [.int (-1 : Int32), .int (I 67 1)]) (σ' := (97, I, J, R)) rfl ?_
          refine az_E.br (c := (I 67 1) = (-1 : Int32)) (tt := 12) (ff := 8) (L' := [.ref 67]) (S' := []) (σ' := (97, I, J, R)) rfl (fun hc_511 => ?_) (fun hc_511 => ?_)
          · rw [if_pos hc_511] at h
            refine az_E.sn 1 (pc' := 13) (L' := [.ref 67]) (S' := [.int (0 : Int32)]) (σ' := (97, I, J, R)) rfl ?_
            refine az_E.ret (v := some (.int (0 : Int32))) (σ' := (97, I, J, R)) rfl ?_
            show az_E az_F ex 1 56 4 [.ref 67, .int (I 63 1)] [.int (0 : Int32)] (97, I, J, R) _
            refine az_E.br (c := (0 : Int32) = 0) (tt := 19) (ff := 7) (L' := [.ref 67, .int (I 63 1)]) (S' := []) (σ' := (97, I, J, R)) rfl (fun _ => ?_) (fun hn => absurd (by decide) hn)
            refine az_E.sn 1 (pc' := 20) (L' := [.ref 67, .int (I 63 1)]) (S' := [.int (0 : Int32)]) (σ' := (97, I, J, R)) rfl ?_
            refine az_E.ret (v := some (.int (0 : Int32))) (σ' := (97, I, J, R)) rfl ?_
            show az_E az_F ex 2 128 69 [.retAddr 0, .retAddr 0, .int v2, .retAddr 0, .int v4, .int v5, .ref 63, .ref 67] [.int (0 : Int32)] (97, I, J, R) _
            refine az_E.br (c := (0 : Int32) = 0) (tt := 72) (ff := 75) (L' := [.retAddr 0, .retAddr 0, .int v2, .retAddr 0, .int v4, .int v5, .ref 63, .ref 67]) (S' := []) (σ' := (97, I, J, R)) rfl (fun _ => ?_) (fun hn => absurd (by decide) hn)
            refine az_E.sn 1 (pc' := 74) (L' := [.retAddr 0, .retAddr 0, .int v2, .retAddr 0, .int v4, .int v5, .ref 63, .ref 67]) (S' := [.int (-12 : Int32)]) (σ' := (97, I, J, R)) rfl ?_
            have h := Option.some.inj h
            subst h
            exact az_E.ret (v := some (.int (-12 : Int32))) (σ' := (97, I, J, R)) rfl hQ
          · rw [if_neg hc_511] at h
            refine az_E.sn 2 (pc' := 13) (L' := [.ref 67]) (S' := [.int (1 : Int32)]) (σ' := (97, I, J, R)) rfl ?_
            refine az_E.ret (v := some (.int (1 : Int32))) (σ' := (97, I, J, R)) rfl ?_
            show az_E az_F ex 1 56 4 [.ref 67, .int (I 63 1)] [.int (1 : Int32)] (97, I, J, R) _
            refine az_E.br (c := (1 : Int32) = 0) (tt := 19) (ff := 7) (L' := [.ref 67, .int (I 63 1)]) (S' := []) (σ' := (97, I, J, R)) rfl (fun hn => absurd hn (by decide)) (fun _ => ?_)
            refine az_E.sn 3 (pc' := 12) (L' := [.ref 67, .int (I 63 1)]) (S' := [.int (I 63 1), .int (I 67 1)]) (σ' := (97, I, J, R)) rfl ?_
            refine az_E.br (c := (I 67 1) = (I 63 1)) (tt := 15) (ff := 19) (L' := [.ref 67, .int (I 63 1)]) (S' := []) (σ' := (97, I, J, R)) rfl (fun hc_512 => ?_) (fun hc_512 => ?_)
            · rw [if_pos hc_512] at h
              refine az_E.sn 2 (pc' := 20) (L' := [.ref 67, .int (I 63 1)]) (S' := [.int (1 : Int32)]) (σ' := (97, I, J, R)) rfl ?_
              refine az_E.ret (v := some (.int (1 : Int32))) (σ' := (97, I, J, R)) rfl ?_
              show az_E az_F ex 2 128 69 [.retAddr 0, .retAddr 0, .int v2, .retAddr 0, .int v4, .int v5, .ref 63, .ref 67] [.int (1 : Int32)] (97, I, J, R) _
              refine az_E.br (c := (1 : Int32) = 0) (tt := 72) (ff := 75) (L' := [.retAddr 0, .retAddr 0, .int v2, .retAddr 0, .int v4, .int v5, .ref 63, .ref 67]) (S' := []) (σ' := (97, I, J, R)) rfl (fun hn => absurd hn (by decide)) (fun _ => ?_)
              refine az_E.sn 3 (pc' := 80) (L' := [.retAddr 0, .retAddr 0, .int v2, .retAddr 0, .int v4, .int v5, .ref 63, .ref 67]) (S' := [.int v5, .int v2, .ref 63]) (σ' := (97, I, J, R)) rfl ?_
              refine az_E.call (d := 1) (k' := 60) (vs := [.ref 63, .int v2, .int v5]) (pc' := 83) (S' := []) rfl ?_ (fun _ _ hq => hq)
              show az_E az_F ex 1 60 0 [.ref 63, .int v2, .int v5] [] (97, I, J, R) _
              refine az_E.sn 1 (pc' := 1) (L' := [.ref 63, .int v2, .int v5]) (S' := [.int v2]) (σ' := (97, I, J, R)) rfl ?_
              refine az_E.br (c := v2 < 0) (tt := 30) (ff := 4) (L' := [.ref 63, .int v2, .int v5]) (S' := []) (σ' := (97, I, J, R)) rfl (fun hc_513 => ?_) (fun hc_513 => ?_)
              · rw [if_pos hc_513] at h
                refine az_E.sn 1 (pc' := 31) (L' := [.ref 63, .int v2, .int v5]) (S' := [.int (0 : Int32)]) (σ' := (97, I, J, R)) rfl ?_
                refine az_E.ret (v := some (.int (0 : Int32))) (σ' := (97, I, J, R)) rfl ?_
                show az_E az_F ex 2 128 83 [.retAddr 0, .retAddr 0, .int v2, .retAddr 0, .int v4, .int v5, .ref 63, .ref 67] [.int (0 : Int32)] (97, I, J, R) _
                refine az_E.br (c := (0 : Int32) = 0) (tt := 98) (ff := 86) (L' := [.retAddr 0, .retAddr 0, .int v2, .retAddr 0, .int v4, .int v5, .ref 63, .ref 67]) (S' := []) (σ' := (97, I, J, R)) rfl (fun _ => ?_) (fun hn => absurd (by decide) hn)
                refine az_E.sn 1 (pc' := 100) (L' := [.retAddr 0, .retAddr 0, .int v2, .retAddr 0, .int v4, .int v5, .ref 63, .ref 67]) (S' := [.int (-13 : Int32)]) (σ' := (97, I, J, R)) rfl ?_
                have h := Option.some.inj h
                subst h
                exact az_E.ret (v := some (.int (-13 : Int32))) (σ' := (97, I, J, R)) rfl hQ
              · rw [if_neg hc_513] at h
                refine az_E.sn 1 (pc' := 5) (L' := [.ref 63, .int v2, .int v5]) (S' := [.int v5]) (σ' := (97, I, J, R)) rfl ?_
                refine az_E.br (c := v5 < 0) (tt := 30) (ff := 8) (L' := [.ref 63, .int v2, .int v5]) (S' := []) (σ' := (97, I, J, R)) rfl (fun hc_514 => ?_) (fun hc_514 => ?_)
                · rw [if_pos hc_514] at h
                  refine az_E.sn 1 (pc' := 31) (L' := [.ref 63, .int v2, .int v5]) (S' := [.int (0 : Int32)]) (σ' := (97, I, J, R)) rfl ?_
                  refine az_E.ret (v := some (.int (0 : Int32))) (σ' := (97, I, J, R)) rfl ?_
                  show az_E az_F ex 2 128 83 [.retAddr 0, .retAddr 0, .int v2, .retAddr 0, .int v4, .int v5, .ref 63, .ref 67] [.int (0 : Int32)] (97, I, J, R) _
                  refine az_E.br (c := (0 : Int32) = 0) (tt := 98) (ff := 86) (L' := [.retAddr 0, .retAddr 0, .int v2, .retAddr 0, .int v4, .int v5, .ref 63, .ref 67]) (S' := []) (σ' := (97, I, J, R)) rfl (fun _ => ?_) (fun hn => absurd (by decide) hn)
                  refine az_E.sn 1 (pc' := 100) (L' := [.retAddr 0, .retAddr 0, .int v2, .retAddr 0, .int v4, .int v5, .ref 63, .ref 67]) (S' := [.int (-13 : Int32)]) (σ' := (97, I, J, R)) rfl ?_
                  have h := Option.some.inj h
                  subst h
                  exact az_E.ret (v := some (.int (-13 : Int32))) (σ' := (97, I, J, R)) rfl hQ
                · rw [if_neg hc_514] at h
                  refine az_E.sn 3 (pc' := 13) (L' := [.ref 63, .int v2, .int v5]) (S' := [.int (I 63 2), .int v2]) (σ' := (97, I, J, R)) rfl ?_
                  refine az_E.br (c := (I 63 2) < v2) (tt := 30) (ff := 16) (L' := [.ref 63, .int v2, .int v5]) (S' := []) (σ' := (97, I, J, R)) rfl (fun hc_515 => ?_) (fun hc_515 => ?_)
                  · rw [if_pos hc_515] at h
                    refine az_E.sn 1 (pc' := 31) (L' := [.ref 63, .int v2, .int v5]) (S' := [.int (0 : Int32)]) (σ' := (97, I, J, R)) rfl ?_
                    refine az_E.ret (v := some (.int (0 : Int32))) (σ' := (97, I, J, R)) rfl ?_
                    show az_E az_F ex 2 128 83 [.retAddr 0, .retAddr 0, .int v2, .retAddr 0, .int v4, .int v5, .ref 63, .ref 67] [.int (0 : Int32)] (97, I, J, R) _
                    refine az_E.br (c := (0 : Int32) = 0) (tt := 98) (ff := 86) (L' := [.retAddr 0, .retAddr 0, .int v2, .retAddr 0, .int v4, .int v5, .ref 63, .ref 67]) (S' := []) (σ' := (97, I, J, R)) rfl (fun _ => ?_) (fun hn => absurd (by decide) hn)
                    refine az_E.sn 1 (pc' := 100) (L' := [.retAddr 0, .retAddr 0, .int v2, .retAddr 0, .int v4, .int v5, .ref 63, .ref 67]) (S' := [.int (-13 : Int32)]) (σ' := (97, I, J, R)) rfl ?_
                    have h := Option.some.inj h
                    subst h
                    exact az_E.ret (v := some (.int (-13 : Int32))) (σ' := (97, I, J, R)) rfl hQ
                  · rw [if_neg hc_515] at h
                    refine az_E.sn 5 (pc' := 23) (L' := [.ref 63, .int v2, .int v5]) (S' := [.int ((I 63 2) - v2), .int v5]) (σ' := (97, I, J, R)) rfl ?_
                    refine az_E.br (c := ((I 63 2) - v2) < v5) (tt := 30) (ff := 26) (L' := [.ref 63, .int v2, .int v5]) (S' := []) (σ' := (97, I, J, R)) rfl (fun hc_516 => ?_) (fun hc_516 => ?_)
                    · rw [if_pos hc_516] at h
                      refine az_E.sn 1 (pc' := 31) (L' := [.ref 63, .int v2, .int v5]) (S' := [.int (0 : Int32)]) (σ' := (97, I, J, R)) rfl ?_
                      refine az_E.ret (v := some (.int (0 : Int32))) (σ' := (97, I, J, R)) rfl ?_
                      show az_E az_F ex 2 128 83 [.retAddr 0, .retAddr 0, .int v2, .retAddr 0, .int v4, .int v5, .ref 63, .ref 67] [.int (0 : Int32)] (97, I, J, R) _
                      refine az_E.br (c := (0 : Int32) = 0) (tt := 98) (ff := 86) (L' := [.retAddr 0, .retAddr 0, .int v2, .retAddr 0, .int v4, .int v5, .ref 63, .ref 67]) (S' := []) (σ' := (97, I, J, R)) rfl (fun _ => ?_) (fun hn => absurd (by decide) hn)
                      refine az_E.sn 1 (pc' := 100) (L' := [.retAddr 0, .retAddr 0, .int v2, .retAddr 0, .int v4, .int v5, .ref 63, .ref 67]) (S' := [.int (-13 : Int32)]) (σ' := (97, I, J, R)) rfl ?_
                      have h := Option.some.inj h
                      subst h
                      exact az_E.ret (v := some (.int (-13 : Int32))) (σ' := (97, I, J, R)) rfl hQ
                    · rw [if_neg hc_516] at h
                      refine az_E.sn 2 (pc' := 31) (L' := [.ref 63, .int v2, .int v5]) (S' := [.int (1 : Int32)]) (σ' := (97, I, J, R)) rfl ?_
                      refine az_E.ret (v := some (.int (1 : Int32))) (σ' := (97, I, J, R)) rfl ?_
                      show az_E az_F ex 2 128 83 [.retAddr 0, .retAddr 0, .int v2, .retAddr 0, .int v4, .int v5, .ref 63, .ref 67] [.int (1 : Int32)] (97, I, J, R) _
                      refine az_E.br (c := (1 : Int32) = 0) (tt := 98) (ff := 86) (L' := [.retAddr 0, .retAddr 0, .int v2, .retAddr 0, .int v4, .int v5, .ref 63, .ref 67]) (S' := []) (σ' := (97, I, J, R)) rfl (fun hn => absurd hn (by decide)) (fun _ => ?_)
                      refine az_E.sn 3 (pc' := 92) (L' := [.retAddr 0, .retAddr 0, .int v2, .retAddr 0, .int v4, .int v5, .ref 63, .ref 67]) (S' := [.int v5, .int v4, .ref 67]) (σ' := (97, I, J, R)) rfl ?_
                      refine az_E.call (d := 1) (k' := 60) (vs := [.ref 67, .int v4, .int v5]) (pc' := 95) (S' := []) rfl ?_ (fun _ _ hq => hq)
                      show az_E az_F ex 1 60 0 [.ref 67, .int v4, .int v5] [] (97, I, J, R) _
                      refine az_E.sn 1 (pc' := 1) (L' := [.ref 67, .int v4, .int v5]) (S' := [.int v4]) (σ' := (97, I, J, R)) rfl ?_
                      refine az_E.br (c := v4 < 0) (tt := 30) (ff := 4) (L' := [.ref 67, .int v4, .int v5]) (S' := []) (σ' := (97, I, J, R)) rfl (fun hc_517 => ?_) (fun hc_517 => ?_)
                      · rw [if_pos hc_517] at h
                        refine az_E.sn 1 (pc' := 31) (L' := [.ref 67, .int v4, .int v5]) (S' := [.int (0 : Int32)]) (σ' := (97, I, J, R)) rfl ?_
                        refine az_E.ret (v := some (.int (0 : Int32))) (σ' := (97, I, J, R)) rfl ?_
                        show az_E az_F ex 2 128 95 [.retAddr 0, .retAddr 0, .int v2, .retAddr 0, .int v4, .int v5, .ref 63, .ref 67] [.int (0 : Int32)] (97, I, J, R) _
                        refine az_E.br (c := (0 : Int32) = 0) (tt := 98) (ff := 101) (L' := [.retAddr 0, .retAddr 0, .int v2, .retAddr 0, .int v4, .int v5, .ref 63, .ref 67]) (S' := []) (σ' := (97, I, J, R)) rfl (fun _ => ?_) (fun hn => absurd (by decide) hn)
                        refine az_E.sn 1 (pc' := 100) (L' := [.retAddr 0, .retAddr 0, .int v2, .retAddr 0, .int v4, .int v5, .ref 63, .ref 67]) (S' := [.int (-13 : Int32)]) (σ' := (97, I, J, R)) rfl ?_
                        have h := Option.some.inj h
                        subst h
                        exact az_E.ret (v := some (.int (-13 : Int32))) (σ' := (97, I, J, R)) rfl hQ
                      · rw [if_neg hc_517] at h
                        refine az_E.sn 1 (pc' := 5) (L' := [.ref 67, .int v4, .int v5]) (S' := [.int v5]) (σ' := (97, I, J, R)) rfl ?_
                        refine az_E.br (c := v5 < 0) (tt := 30) (ff := 8) (L' := [.ref 67, .int v4, .int v5]) (S' := []) (σ' := (97, I, J, R)) rfl (fun hc_518 => ?_) (fun hc_518 => ?_)
                        · rw [if_pos hc_518] at h
                          refine az_E.sn 1 (pc' := 31) (L' := [.ref 67, .int v4, .int v5]) (S' := [.int (0 : Int32)]) (σ' := (97, I, J, R)) rfl ?_
                          refine az_E.ret (v := some (.int (0 : Int32))) (σ' := (97, I, J, R)) rfl ?_
                          show az_E az_F ex 2 128 95 [.retAddr 0, .retAddr 0, .int v2, .retAddr 0, .int v4, .int v5, .ref 63, .ref 67] [.int (0 : Int32)] (97, I, J, R) _
                          refine az_E.br (c := (0 : Int32) = 0) (tt := 98) (ff := 101) (L' := [.retAddr 0, .retAddr 0, .int v2, .retAddr 0, .int v4, .int v5, .ref 63, .ref 67]) (S' := []) (σ' := (97, I, J, R)) rfl (fun _ => ?_) (fun hn => absurd (by decide) hn)
                          refine az_E.sn 1 (pc' := 100) (L' := [.retAddr 0, .retAddr 0, .int v2, .retAddr 0, .int v4, .int v5, .ref 63, .ref 67]) (S' := [.int (-13 : Int32)]) (σ' := (97, I, J, R)) rfl ?_
                          have h := Option.some.inj h
                          subst h
                          exact az_E.ret (v := some (.int (-13 : Int32))) (σ' := (97, I, J, R)) rfl hQ
                        · rw [if_neg hc_518] at h
                          refine az_E.sn 3 (pc' := 13) (L' := [.ref 67, .int v4, .int v5]) (S' := [.int (I 67 2), .int v4]) (σ' := (97, I, J, R)) rfl ?_
                          refine az_E.br (c := (I 67 2) < v4) (tt := 30) (ff := 16) (L' := [.ref 67, .int v4, .int v5]) (S' := []) (σ' := (97, I, J, R)) rfl (fun hc_519 => ?_) (fun hc_519 => ?_)
                          · rw [if_pos hc_519] at h
                            refine az_E.sn 1 (pc' := 31) (L' := [.ref 67, .int v4, .int v5]) (S' := [.int (0 : Int32)]) (σ' := (97, I, J, R)) rfl ?_
                            refine az_E.ret (v := some (.int (0 : Int32))) (σ' := (97, I, J, R)) rfl ?_
                            show az_E az_F ex 2 128 95 [.retAddr 0, .retAddr 0, .int v2, .retAddr 0, .int v4, .int v5, .ref 63, .ref 67] [.int (0 : Int32)] (97, I, J, R) _
                            refine az_E.br (c := (0 : Int32) = 0) (tt := 98) (ff := 101) (L' := [.retAddr 0, .retAddr 0, .int v2, .retAddr 0, .int v4, .int v5, .ref 63, .ref 67]) (S' := []) (σ' := (97, I, J, R)) rfl (fun _ => ?_) (fun hn => absurd (by decide) hn)
                            refine az_E.sn 1 (pc' := 100) (L' := [.retAddr 0, .retAddr 0, .int v2, .retAddr 0, .int v4, .int v5, .ref 63, .ref 67]) (S' := [.int (-13 : Int32)]) (σ' := (97, I, J, R)) rfl ?_
                            have h := Option.some.inj h
                            subst h
                            exact az_E.ret (v := some (.int (-13 : Int32))) (σ' := (97, I, J, R)) rfl hQ
                          · rw [if_neg hc_519] at h
                            refine az_E.sn 5 (pc' := 23) (L' := [.ref 67, .int v4, .int v5]) (S' := [.int ((I 67 2) - v4), .int v5]) (σ' := (97, I, J, R)) rfl ?_
                            refine az_E.br (c := ((I 67 2) - v4) < v5) (tt := 30) (ff := 26) (L' := [.ref 67, .int v4, .int v5]) (S' := []) (σ' := (97, I, J, R)) rfl (fun hc_520 => ?_) (fun hc_520 => ?_)
                            · rw [if_pos hc_520] at h
                              refine az_E.sn 1 (pc' := 31) (L' := [.ref 67, .int v4, .int v5]) (S' := [.int (0 : Int32)]) (σ' := (97, I, J, R)) rfl ?_
                              refine az_E.ret (v := some (.int (0 : Int32))) (σ' := (97, I, J, R)) rfl ?_
                              show az_E az_F ex 2 128 95 [.retAddr 0, .retAddr 0, .int v2, .retAddr 0, .int v4, .int v5, .ref 63, .ref 67] [.int (0 : Int32)] (97, I, J, R) _
                              refine az_E.br (c := (0 : Int32) = 0) (tt := 98) (ff := 101) (L' := [.retAddr 0, .retAddr 0, .int v2, .retAddr 0, .int v4, .int v5, .ref 63, .ref 67]) (S' := []) (σ' := (97, I, J, R)) rfl (fun _ => ?_) (fun hn => absurd (by decide) hn)
                              refine az_E.sn 1 (pc' := 100) (L' := [.retAddr 0, .retAddr 0, .int v2, .retAddr 0, .int v4, .int v5, .ref 63, .ref 67]) (S' := [.int (-13 : Int32)]) (σ' := (97, I, J, R)) rfl ?_
                              have h := Option.some.inj h
                              subst h
                              exact az_E.ret (v := some (.int (-13 : Int32))) (σ' := (97, I, J, R)) rfl hQ
                            · rw [if_neg hc_520] at h
                              refine az_E.sn 2 (pc' := 31) (L' := [.ref 67, .int v4, .int v5]) (S' := [.int (1 : Int32)]) (σ' := (97, I, J, R)) rfl ?_
                              refine az_E.ret (v := some (.int (1 : Int32))) (σ' := (97, I, J, R)) rfl ?_
                              show az_E az_F ex 2 128 95 [.retAddr 0, .retAddr 0, .int v2, .retAddr 0, .int v4, .int v5, .ref 63, .ref 67] [.int (1 : Int32)] (97, I, J, R) _
                              refine az_E.br (c := (1 : Int32) = 0) (tt := 98) (ff := 101) (L' := [.retAddr 0, .retAddr 0, .int v2, .retAddr 0, .int v4, .int v5, .ref 63, .ref 67]) (S' := []) (σ' := (97, I, J, R)) rfl (fun hn => absurd hn (by decide)) (fun _ => ?_)
                              refine az_E.sn 7 (pc' := 116) (L' := [.retAddr 0, .retAddr 0, .int v2, .retAddr 0, .int v4, .int v5, .ref 63, .ref 67]) (S' := [.int v5, .int v4, .ref (67 + 1), .int v2, .ref (63 + 1)]) (σ' := (97, I, J, R)) rfl ?_
                              by_cases hc_521 : v2 < 0 ∨ v4 < 0 ∨ v5 < 0 ∨ 60 < v2.toNatClampNeg + v5.toNatClampNeg ∨ 60 < v4.toNatClampNeg + v5.toNatClampNeg
                              · rw [if_pos hc_521] at h; cases h
                              · rw [if_neg hc_521] at h
                                refine az_E.o (o := az_cp az_F (97, I, J, R) (63 + 1) v2 (67 + 1) v4 v5) (pc' := 119) (L' := [.retAddr 0, .retAddr 0, .int v2, .retAddr 0, .int v4, .int v5, .ref 63, .ref 67]) (S' := []) (x := (97, I, (az_ur J (67 + 1) (va_cpy (J (63 + 1)) (J (67 + 1)) v2.toNatClampNeg v4.toNatClampNeg v5.toNatClampNeg)), R)) rfl (if_neg hc_521) ?_
                                refine az_E.sn 1 (pc' := 121) (L' := [.retAddr 0, .retAddr 0, .int v2, .retAddr 0, .int v4, .int v5, .ref 63, .ref 67]) (S' := [.int v5]) (σ' := (97, I, (az_ur J (67 + 1) (va_cpy (J (63 + 1)) (J (67 + 1)) v2.toNatClampNeg v4.toNatClampNeg v5.toNatClampNeg)), R)) rfl ?_
                                have h := Option.some.inj h
                                subst h
                                exact az_E.ret (v := some (.int v5)) (σ' := (97, I, (az_ur J (67 + 1) (va_cpy (J (63 + 1)) (J (67 + 1)) v2.toNatClampNeg v4.toNatClampNeg v5.toNatClampNeg)), R)) rfl hQ
            · rw [if_neg hc_512] at h
              refine az_E.sn 1 (pc' := 20) (L' := [.ref 67, .int (I 63 1)]) (S' := [.int (0 : Int32)]) (σ' := (97, I, J, R)) rfl ?_
              refine az_E.ret (v := some (.int (0 : Int32))) (σ' := (97, I, J, R)) rfl ?_
              show az_E az_F ex 2 128 69 [.retAddr 0, .retAddr 0, .int v2, .retAddr 0, .int v4, .int v5, .ref 63, .ref 67] [.int (0 : Int32)] (97, I, J, R) _
              refine az_E.br (c := (0 : Int32) = 0) (tt := 72) (ff := 75) (L' := [.retAddr 0, .retAddr 0, .int v2, .retAddr 0, .int v4, .int v5, .ref 63, .ref 67]) (S' := []) (σ' := (97, I, J, R)) rfl (fun _ => ?_) (fun hn => absurd (by decide) hn)
              refine az_E.sn 1 (pc' := 74) (L' := [.retAddr 0, .retAddr 0, .int v2, .retAddr 0, .int v4, .int v5, .ref 63, .ref 67]) (S' := [.int (-12 : Int32)]) (σ' := (97, I, J, R)) rfl ?_
              have h := Option.some.inj h
              subst h
              exact az_E.ret (v := some (.int (-12 : Int32))) (σ' := (97, I, J, R)) rfl hQ
  · rw [if_neg hc_494] at h
    refine az_E.sn 1 (pc' := 21) (L' := [.ref 63]) (S' := [.int (0 : Int32)]) (σ' := (97, I, J, R)) rfl ?_
    refine az_E.ret (v := some (.int (0 : Int32))) (σ' := (97, I, J, R)) rfl ?_
    show az_E az_F ex 2 128 37 [.retAddr 0, .retAddr 0, .int v2, .retAddr 0, .int v4, .int v5, .ref 63, .ref 67] [.int (0 : Int32)] (97, I, J, R) _
    refine az_E.br (c := (0 : Int32) = 0) (tt := 40) (ff := 48) (L' := [.retAddr 0, .retAddr 0, .int v2, .retAddr 0, .int v4, .int v5, .ref 63, .ref 67]) (S' := []) (σ' := (97, I, J, R)) rfl (fun _ => ?_) (fun hn => absurd (by decide) hn)
    refine az_E.sn 1 (pc' := 42) (L' := [.retAddr 0, .retAddr 0, .int v2, .retAddr 0, .int v4, .int v5, .ref 63, .ref 67]) (S' := [.ref 67]) (σ' := (97, I, J, R)) rfl ?_
    refine az_E.call (d := 1) (k' := 54) (vs := [.ref 67]) (pc' := 45) (S' := []) rfl ?_ (fun _ _ hq => hq)
    show az_E az_F ex 1 54 0 [.ref 67] [] (97, I, J, R) _
    refine az_E.sn 3 (pc' := 5) (L' := [.ref 67]) (S' := [.int (-1 : Int32), .int (I 67 0)]) (σ' := (97, I, J, R)) rfl ?_
    refine az_E.br (c := (I 67 0) = (-1 : Int32)) (tt := 8) (ff := 20) (L' := [.ref 67]) (S' := []) (σ' := (97, I, J, R)) rfl (fun hc_522 => ?_) (fun hc_522 => ?_)
    · rw [if_pos hc_522] at h
      refine az_E.sn 3 (pc' := 13) (L' := [.ref 67]) (S' := [.int (-1 : Int32), .int (I 67 1)]) (σ' := (97, I, J, R)) rfl ?_
      refine az_E.br (c := (I 67 1) = (-1 : Int32)) (tt := 16) (ff := 20) (L' := [.ref 67]) (S' := []) (σ' := (97, I, J, R)) rfl (fun hc_523 => ?_) (fun hc_523 => ?_)
      · rw [if_pos hc_523] at h
        refine az_E.sn 2 (pc' := 21) (L' := [.ref 67]) (S' := [.int (1 : Int32)]) (σ' := (97, I, J, R)) rfl ?_
        refine az_E.ret (v := some (.int (1 : Int32))) (σ' := (97, I, J, R)) rfl ?_
        show az_E az_F ex 2 128 45 [.retAddr 0, .retAddr 0, .int v2, .retAddr 0, .int v4, .int v5, .ref 63, .ref 67] [.int (1 : Int32)] (97, I, J, R) _
        refine az_E.br (c := (1 : Int32) = 0) (tt := 51) (ff := 48) (L' := [.retAddr 0, .retAddr 0, .int v2, .retAddr 0, .int v4, .int v5, .ref 63, .ref 67]) (S' := []) (σ' := (97, I, J, R)) rfl (fun hn => absurd hn (by decide)) (fun _ => ?_)
        refine az_E.sn 1 (pc' := 50) (L' := [.retAddr 0, .retAddr 0, .int v2, .retAddr 0, .int v4, .int v5, .ref 63, .ref 67]) (S' := [.int (-11 : Int32)]) (σ' := (97, I, J, R)) rfl ?_
        have h := Option.some.inj h
        subst h
        exact az_E.ret (v := some (.int (-11 : Int32))) (σ' := (97, I, J, R)) rfl hQ
      · rw [if_neg hc_523] at h
        refine az_E.sn 1 (pc' := 21) (L' := [.ref 67]) (S' := [.int (0 : Int32)]) (σ' := (97, I, J, R)) rfl ?_
        refine az_E.ret (v := some (.int (0 : Int32))) (σ' := (97, I, J, R)) rfl ?_
        show az_E az_F ex 2 128 45 [.retAddr 0, .retAddr 0, .int v2, .retAddr 0, .int v4, .int v5, .ref 63, .ref 67] [.int (0 : Int32)] (97, I, J, R) _
        refine az_E.br (c := (0 : Int32) = 0) (tt := 51) (ff := 48) (L' := [.retAddr 0, .retAddr 0, .int v2, .retAddr 0, .int v4, .int v5, .ref 63, .ref 67]) (S' := []) (σ' := (97, I, J, R)) rfl (fun _ => ?_) (fun hn => absurd (by decide) hn)
        refine az_E.sn 1 (pc' := 53) (L' := [.retAddr 0, .retAddr 0, .int v2, .retAddr 0, .int v4, .int v5, .ref 63, .ref 67]) (S' := [.ref 63]) (σ' := (97, I, J, R)) rfl ?_
        refine az_E.call (d := 1) (k' := 55) (vs := [.ref 63]) (pc' := 56) (S' := []) rfl ?_ (fun _ _ hq => hq)
        show az_E az_F ex 1 55 0 [.ref 63] [] (97, I, J, R) _
        refine az_E.sn 3 (pc' := 5) (L' := [.ref 63]) (S' := [.int (-1 : Int32), .int (I 63 1)]) (σ' := (97, I, J, R)) rfl ?_
        refine az_E.br (c := (I 63 1) = (-1 : Int32)) (tt := 12) (ff := 8) (L' := [.ref 63]) (S' := []) (σ' := (97, I, J, R)) rfl (fun hc_524 => ?_) (fun hc_524 => ?_)
        · rw [if_pos hc_524] at h
          refine az_E.sn 1 (pc' := 13) (L' := [.ref 63]) (S' := [.int (0 : Int32)]) (σ' := (97, I, J, R)) rfl ?_
          refine az_E.ret (v := some (.int (0 : Int32))) (σ' := (97, I, J, R)) rfl ?_
          show az_E az_F ex 2 128 56 [.retAddr 0, .retAddr 0, .int v2, .retAddr 0, .int v4, .int v5, .ref 63, .ref 67] [.int (0 : Int32)] (97, I, J, R) _
          refine az_E.br (c := (0 : Int32) = 0) (tt := 72) (ff := 59) (L' := [.retAddr 0, .retAddr 0, .int v2, .retAddr 0, .int v4, .int v5, .ref 63, .ref 67]) (S' := []) (σ' := (97, I, J, R)) rfl (fun _ => ?_) (fun hn => absurd (by decide) hn)
          refine az_E.sn 1 (pc' := 74) (L' := [.retAddr 0, .retAddr 0, .int v2, .retAddr 0, .int v4, .int v5, .ref 63, .ref 67]) (S' := [.int (-12 : Int32)]) (σ' := (97, I, J, R)) rfl ?_
          have h := Option.some.inj h
          subst h
          exact az_E.ret (v := some (.int (-12 : Int32))) (σ' := (97, I, J, R)) rfl hQ
        · rw [if_neg hc_524] at h
          refine az_E.sn 2 (pc' := 13) (L' := [.ref 63]) (S' := [.int (1 : Int32)]) (σ' := (97, I, J, R)) rfl ?_
          refine az_E.ret (v := some (.int (1 : Int32))) (σ' := (97, I, J, R)) rfl ?_
          show az_E az_F ex 2 128 56 [.retAddr 0, .retAddr 0, .int v2, .retAddr 0, .int v4, .int v5, .ref 63, .ref 67] [.int (1 : Int32)] (97, I, J, R) _
          refine az_E.br (c := (1 : Int32) = 0) (tt := 72) (ff := 59) (L' := [.retAddr 0, .retAddr 0, .int v2, .retAddr 0, .int v4, .int v5, .ref 63, .ref 67]) (S' := []) (σ' := (97, I, J, R)) rfl (fun hn => absurd hn (by decide)) (fun _ => ?_)
          refine az_E.sn 3 (pc' := 66) (L' := [.retAddr 0, .retAddr 0, .int v2, .retAddr 0, .int v4, .int v5, .ref 63, .ref 67]) (S' := [.int (I 63 1), .ref 67]) (σ' := (97, I, J, R)) rfl ?_
          refine az_E.call (d := 1) (k' := 56) (vs := [.ref 67, .int (I 63 1)]) (pc' := 69) (S' := []) rfl ?_ (fun _ _ hq => hq)
          show az_E az_F ex 1 56 0 [.ref 67, .int (I 63 1)] [] (97, I, J, R) _
          refine az_E.sn 1 (pc' := 1) (L' := [.ref 67, .int (I 63 1)]) (S' := [.ref 67]) (σ' := (97, I, J, R)) rfl ?_
          refine az_E.call (d := 0) (k' := 55) (vs := [.ref 67]) (pc' := 4) (S' := []) rfl ?_ (fun _ _ hq => hq)
          show az_E az_F ex 0 55 0 [.ref 67] [] (97, I, J, R) _
          refine az_E.sn 3 (pc' := 5) (L' := [.ref 67]) (S' := [.int (-1 : Int32), .int (I 67 1)]) (σ' := (97, I, J, R)) rfl ?_
          refine az_E.br (c := (I 67 1) = (-1 : Int32)) (tt := 12) (ff := 8) (L' := [.ref 67]) (S' := []) (σ' := (97, I, J, R)) rfl (fun hc_525 => ?_) (fun hc_525 => ?_)
          · rw [if_pos hc_525] at h
            refine az_E.sn 1 (pc' := 13) (L' := [.ref 67]) (S' := [.int (0 : Int32)]) (σ' := (97, I, J, R)) rfl ?_
            refine az_E.ret (v := some (.int (0 : Int32))) (σ' := (97, I, J, R)) rfl ?_
            show az_E az_F ex 1 56 4 [.ref 67, .int (I 63 1)] [.int (0 : Int32)] (97, I, J, R) _
            refine az_E.br (c := (0 : Int32) = 0) (tt := 19) (ff := 7) (L' := [.ref 67, .int (I 63 1)]) (S' := []) (σ' := (97, I, J, R)) rfl (fun _ => ?_) (fun hn => absurd (by decide) hn)
            refine az_E.sn 1 (pc' := 20) (L' := [.ref 67, .int (I 63 1)]) (S' := [.int (0 : Int32)]) (σ' := (97, I, J, R)) rfl ?_
            refine az_E.ret (v := some (.int (0 : Int32))) (σ' := (97, I, J, R)) rfl ?_
            show az_E az_F ex 2 128 69 [.retAddr 0, .retAddr 0, .int v2, .retAddr 0, .int v4, .int v5, .ref 63, .ref 67] [.int (0 : Int32)] (97, I, J, R) _
            refine az_E.br (c := (0 : Int32) = 0) (tt := 72) (ff := 75) (L' := [.retAddr 0, .retAddr 0, .int v2, .retAddr 0, .int v4, .int v5, .ref 63, .ref 67]) (S' := []) (σ' := (97, I, J, R)) rfl (fun _ => ?_) (fun hn => absurd (by decide) hn)
            refine az_E.sn 1 (pc' := 74) (L' := [.retAddr 0, .retAddr 0, .int v2, .retAddr 0, .int v4, .int v5, .ref 63, .ref 67]) (S' := [.int (-12 : Int32)]) (σ' := (97, I, J, R)) rfl ?_
            have h := Option.some.inj h
            subst h
            exact az_E.ret (v := some (.int (-12 : Int32))) (σ' := (97, I, J, R)) rfl hQ
          · rw [if_neg hc_525] at h
            refine az_E.sn 2 (pc' := 13) (L' := [.ref 67]) (S' := [.int (1 : Int32)]) (σ' := (97, I, J, R)) rfl ?_
            refine az_E.ret (v := some (.int (1 : Int32))) (σ' := (97, I, J, R)) rfl ?_
            show az_E az_F ex 1 56 4 [.ref 67, .int (I 63 1)] [.int (1 : Int32)] (97, I, J, R) _
            refine az_E.br (c := (1 : Int32) = 0) (tt := 19) (ff := 7) (L' := [.ref 67, .int (I 63 1)]) (S' := []) (σ' := (97, I, J, R)) rfl (fun hn => absurd hn (by decide)) (fun _ => ?_)
            refine az_E.sn 3 (pc' := 12) (L' := [.ref 67, .int (I 63 1)]) (S' := [.int (I 63 1), .int (I 67 1)]) (σ' := (97, I, J, R)) rfl ?_
            refine az_E.br (c := (I 67 1) = (I 63 1)) (tt := 15) (ff := 19) (L' := [.ref 67, .int (I 63 1)]) (S' := []) (σ' := (97, I, J, R)) rfl (fun hc_526 => ?_) (fun hc_526 => ?_)
            · rw [if_pos hc_526] at h
              refine az_E.sn 2 (pc' := 20) (L' := [.ref 67, .int (I 63 1)]) (S' := [.int (1 : Int32)]) (σ' := (97, I, J, R)) rfl ?_
              refine az_E.ret (v := some (.int (1 : Int32))) (σ' := (97, I, J, R)) rfl ?_
              show az_E az_F ex 2 128 69 [.retAddr 0, .retAddr 0, .int v2, .retAddr 0, .int v4, .int v5, .ref 63, .ref 67] [.int (1 : Int32)] (97, I, J, R) _
              refine az_E.br (c := (1 : Int32) = 0) (tt := 72) (ff := 75) (L' := [.retAddr 0, .retAddr 0, .int v2, .retAddr 0, .int v4, .int v5, .ref 63, .ref 67]) (S' := []) (σ' := (97, I, J, R)) rfl (fun hn => absurd hn (by decide)) (fun _ => ?_)
              refine az_E.sn 3 (pc' := 80) (L' := [.retAddr 0, .retAddr 0, .int v2, .retAddr 0, .int v4, .int v5, .ref 63, .ref 67]) (S' := [.int v5, .int v2, .ref 63]) (σ' := (97, I, J, R)) rfl ?_
              refine az_E.call (d := 1) (k' := 60) (vs := [.ref 63, .int v2, .int v5]) (pc' := 83) (S' := []) rfl ?_ (fun _ _ hq => hq)
              show az_E az_F ex 1 60 0 [.ref 63, .int v2, .int v5] [] (97, I, J, R) _
              refine az_E.sn 1 (pc' := 1) (L' := [.ref 63, .int v2, .int v5]) (S' := [.int v2]) (σ' := (97, I, J, R)) rfl ?_
              refine az_E.br (c := v2 < 0) (tt := 30) (ff := 4) (L' := [.ref 63, .int v2, .int v5]) (S' := []) (σ' := (97, I, J, R)) rfl (fun hc_527 => ?_) (fun hc_527 => ?_)
              · rw [if_pos hc_527] at h
                refine az_E.sn 1 (pc' := 31) (L' := [.ref 63, .int v2, .int v5]) (S' := [.int (0 : Int32)]) (σ' := (97, I, J, R)) rfl ?_
                refine az_E.ret (v := some (.int (0 : Int32))) (σ' := (97, I, J, R)) rfl ?_
                show az_E az_F ex 2 128 83 [.retAddr 0, .retAddr 0, .int v2, .retAddr 0, .int v4, .int v5, .ref 63, .ref 67] [.int (0 : Int32)] (97, I, J, R) _
                refine az_E.br (c := (0 : Int32) = 0) (tt := 98) (ff := 86) (L' := [.retAddr 0, .retAddr 0, .int v2, .retAddr 0, .int v4, .int v5, .ref 63, .ref 67]) (S' := []) (σ' := (97, I, J, R)) rfl (fun _ => ?_) (fun hn => absurd (by decide) hn)
                refine az_E.sn 1 (pc' := 100) (L' := [.retAddr 0, .retAddr 0, .int v2, .retAddr 0, .int v4, .int v5, .ref 63, .ref 67]) (S' := [.int (-13 : Int32)]) (σ' := (97, I, J, R)) rfl ?_
                have h := Option.some.inj h
                subst h
                exact az_E.ret (v := some (.int (-13 : Int32))) (σ' := (97, I, J, R)) rfl hQ
              · rw [if_neg hc_527] at h
                refine az_E.sn 1 (pc' := 5) (L' := [.ref 63, .int v2, .int v5]) (S' := [.int v5]) (σ' := (97, I, J, R)) rfl ?_
                refine az_E.br (c := v5 < 0) (tt := 30) (ff := 8) (L' := [.ref 63, .int v2, .int v5]) (S' := []) (σ' := (97, I, J, R)) rfl (fun hc_528 => ?_) (fun hc_528 => ?_)
                · rw [if_pos hc_528] at h
                  refine az_E.sn 1 (pc' := 31) (L' := [.ref 63, .int v2, .int v5]) (S' := [.int (0 : Int32)]) (σ' := (97, I, J, R)) rfl ?_
                  refine az_E.ret (v := some (.int (0 : Int32))) (σ' := (97, I, J, R)) rfl ?_
                  show az_E az_F ex 2 128 83 [.retAddr 0, .retAddr 0, .int v2, .retAddr 0, .int v4, .int v5, .ref 63, .ref 67] [.int (0 : Int32)] (97, I, J, R) _
                  refine az_E.br (c := (0 : Int32) = 0) (tt := 98) (ff := 86) (L' := [.retAddr 0, .retAddr 0, .int v2, .retAddr 0, .int v4, .int v5, .ref 63, .ref 67]) (S' := []) (σ' := (97, I, J, R)) rfl (fun _ => ?_) (fun hn => absurd (by decide) hn)
                  refine az_E.sn 1 (pc' := 100) (L' := [.retAddr 0, .retAddr 0, .int v2, .retAddr 0, .int v4, .int v5, .ref 63, .ref 67]) (S' := [.int (-13 : Int32)]) (σ' := (97, I, J, R)) rfl ?_
                  have h := Option.some.inj h
                  subst h
                  exact az_E.ret (v := some (.int (-13 : Int32))) (σ' := (97, I, J, R)) rfl hQ
                · rw [if_neg hc_528] at h
                  refine az_E.sn 3 (pc' := 13) (L' := [.ref 63, .int v2, .int v5]) (S' := [.int (I 63 2), .int v2]) (σ' := (97, I, J, R)) rfl ?_
                  refine az_E.br (c := (I 63 2) < v2) (tt := 30) (ff := 16) (L' := [.ref 63, .int v2, .int v5]) (S' := []) (σ' := (97, I, J, R)) rfl (fun hc_529 => ?_) (fun hc_529 => ?_)
                  · rw [if_pos hc_529] at h
                    refine az_E.sn 1 (pc' := 31) (L' := [.ref 63, .int v2, .int v5]) (S' := [.int (0 : Int32)]) (σ' := (97, I, J, R)) rfl ?_
                    refine az_E.ret (v := some (.int (0 : Int32))) (σ' := (97, I, J, R)) rfl ?_
                    show az_E az_F ex 2 128 83 [.retAddr 0, .retAddr 0, .int v2, .retAddr 0, .int v4, .int v5, .ref 63, .ref 67] [.int (0 : Int32)] (97, I, J, R) _
                    refine az_E.br (c := (0 : Int32) = 0) (tt := 98) (ff := 86) (L' := [.retAddr 0, .retAddr 0, .int v2, .retAddr 0, .int v4, .int v5, .ref 63, .ref 67]) (S' := []) (σ' := (97, I, J, R)) rfl (fun _ => ?_) (fun hn => absurd (by decide) hn)
                    refine az_E.sn 1 (pc' := 100) (L' := [.retAddr 0, .retAddr 0, .int v2, .retAddr 0, .int v4, .int v5, .ref 63, .ref 67]) (S' := [.int (-13 : Int32)]) (σ' := (97, I, J, R)) rfl ?_
                    have h := Option.some.inj h
                    subst h
                    exact az_E.ret (v := some (.int (-13 : Int32))) (σ' := (97, I, J, R)) rfl hQ
                  · rw [if_neg hc_529] at h
                    refine az_E.sn 5 (pc' := 23) (L' := [.ref 63, .int v2, .int v5]) (S' := [.int ((I 63 2) - v2), .int v5]) (σ' := (97, I, J, R)) rfl ?_
                    refine az_E.br (c := ((I 63 2) - v2) < v5) (tt := 30) (ff := 26) (L' := [.ref 63, .int v2, .int v5]) (S' := []) (σ' := (97, I, J, R)) rfl (fun hc_530 => ?_) (fun hc_530 => ?_)
                    · rw [if_pos hc_530] at h
                      refine az_E.sn 1 (pc' := 31) (L' := [.ref 63, .int v2, .int v5]) (S' := [.int (0 : Int32)]) (σ' := (97, I, J, R)) rfl ?_
                      refine az_E.ret (v := some (.int (0 : Int32))) (σ' := (97, I, J, R)) rfl ?_
                      show az_E az_F ex 2 128 83 [.retAddr 0, .retAddr 0, .int v2, .retAddr 0, .int v4, .int v5, .ref 63, .ref 67] [.int (0 : Int32)] (97, I, J, R) _
                      refine az_E.br (c := (0 : Int32) = 0) (tt := 98) (ff := 86) (L' := [.retAddr 0, .retAddr 0, .int v2, .retAddr 0, .int v4, .int v5, .ref 63, .ref 67]) (S' := []) (σ' := (97, I, J, R)) rfl (fun _ => ?_) (fun hn => absurd (by decide) hn)
                      refine az_E.sn 1 (pc' := 100) (L' := [.retAddr 0, .retAddr 0, .int v2, .retAddr 0, .int v4, .int v5, .ref 63, .ref 67]) (S' := [.int (-13 : Int32)]) (σ' := (97, I, J, R)) rfl ?_
                      have h := Option.some.inj h
                      subst h
                      exact az_E.ret (v := some (.int (-13 : Int32))) (σ' := (97, I, J, R)) rfl hQ
                    · rw [if_neg hc_530] at h
                      refine az_E.sn 2 (pc' := 31) (L' := [.ref 63, .int v2, .int v5]) (S' := [.int (1 : Int32)]) (σ' := (97, I, J, R)) rfl ?_
                      refine az_E.ret (v := some (.int (1 : Int32))) (σ' := (97, I, J, R)) rfl ?_
                      show az_E az_F ex 2 128 83 [.retAddr 0, .retAddr 0, .int v2, .retAddr 0, .int v4, .int v5, .ref 63, .ref 67] [.int (1 : Int32)] (97, I, J, R) _
                      refine az_E.br (c := (1 : Int32) = 0) (tt := 98) (ff := 86) (L' := [.retAddr 0, .retAddr 0, .int v2, .retAddr 0, .int v4, .int v5, .ref 63, .ref 67]) (S' := []) (σ' := (97, I, J, R)) rfl (fun hn => absurd hn (by decide)) (fun _ => ?_)
                      refine az_E.sn 3 (pc' := 92) (L' := [.retAddr 0, .retAddr 0, .int v2, .retAddr 0, .int v4, .int v5, .ref 63, .ref 67]) (S' := [.int v5, .int v4, .ref 67]) (σ' := (97, I, J, R)) rfl ?_
                      refine az_E.call (d := 1) (k' := 60) (vs := [.ref 67, .int v4, .int v5]) (pc' := 95) (S' := []) rfl ?_ (fun _ _ hq => hq)
                      show az_E az_F ex 1 60 0 [.ref 67, .int v4, .int v5] [] (97, I, J, R) _
                      refine az_E.sn 1 (pc' := 1) (L' := [.ref 67, .int v4, .int v5]) (S' := [.int v4]) (σ' := (97, I, J, R)) rfl ?_
                      refine az_E.br (c := v4 < 0) (tt := 30) (ff := 4) (L' := [.ref 67, .int v4, .int v5]) (S' := []) (σ' := (97, I, J, R)) rfl (fun hc_531 => ?_) (fun hc_531 => ?_)
                      · rw [if_pos hc_531] at h
                        refine az_E.sn 1 (pc' := 31) (L' := [.ref 67, .int v4, .int v5]) (S' := [.int (0 : Int32)]) (σ' := (97, I, J, R)) rfl ?_
                        refine az_E.ret (v := some (.int (0 : Int32))) (σ' := (97, I, J, R)) rfl ?_
                        show az_E az_F ex 2 128 95 [.retAddr 0, .retAddr 0, .int v2, .retAddr 0, .int v4, .int v5, .ref 63, .ref 67] [.int (0 : Int32)] (97, I, J, R) _
                        refine az_E.br (c := (0 : Int32) = 0) (tt := 98) (ff := 101) (L' := [.retAddr 0, .retAddr 0, .int v2, .retAddr 0, .int v4, .int v5, .ref 63, .ref 67]) (S' := []) (σ' := (97, I, J, R)) rfl (fun _ => ?_) (fun hn => absurd (by decide) hn)
                        refine az_E.sn 1 (pc' := 100) (L' := [.retAddr 0, .retAddr 0, .int v2, .retAddr 0, .int v4, .int v5, .ref 63, .ref 67]) (S' := [.int (-13 : Int32)]) (σ' := (97, I, J, R)) rfl ?_
                        have h := Option.some.inj h
                        subst h
                        exact az_E.ret (v := some (.int (-13 : Int32))) (σ' := (97, I, J, R)) rfl hQ
                      · rw [if_neg hc_531] at h
                        refine az_E.sn 1 (pc' := 5) (L' := [.ref 67, .int v4, .int v5]) (S' := [.int v5]) (σ' := (97, I, J, R)) rfl ?_
                        refine az_E.br (c := v5 < 0) (tt := 30) (ff := 8) (L' := [.ref 67, .int v4, .int v5]) (S' := []) (σ' := (97, I, J, R)) rfl (fun hc_532 => ?_) (fun hc_532 => ?_)
                        · rw [if_pos hc_532] at h
                          refine az_E.sn 1 (pc' := 31) (L' := [.ref 67, .int v4, .int v5]) (S' := [.int (0 : Int32)]) (σ' := (97, I, J, R)) rfl ?_
                          refine az_E.ret (v := some (.int (0 : Int32))) (σ' := (97, I, J, R)) rfl ?_
                          show az_E az_F ex 2 128 95 [.retAddr 0, .retAddr 0, .int v2, .retAddr 0, .int v4, .int v5, .ref 63, .ref 67] [.int (0 : Int32)] (97, I, J, R) _
                          refine az_E.br (c := (0 : Int32) = 0) (tt := 98) (ff := 101) (L' := [.retAddr 0, .retAddr 0, .int v2, .retAddr 0, .int v4, .int v5, .ref 63, .ref 67]) (S' := []) (σ' := (97, I, J, R)) rfl (fun _ => ?_) (fun hn => absurd (by decide) hn)
                          refine az_E.sn 1 (pc' := 100) (L' := [.retAddr 0, .retAddr 0, .int v2, .retAddr 0, .int v4, .int v5, .ref 63, .ref 67]) (S' := [.int (-13 : Int32)]) (σ' := (97, I, J, R)) rfl ?_
                          have h := Option.some.inj h
                          subst h
                          exact az_E.ret (v := some (.int (-13 : Int32))) (σ' := (97, I, J, R)) rfl hQ
                        · rw [if_neg hc_532] at h
                          refine az_E.sn 3 (pc' := 13) (L' := [.ref 67, .int v4, .int v5]) (S' := [.int (I 67 2), .int v4]) (σ' := (97, I, J, R)) rfl ?_
                          refine az_E.br (c := (I 67 2) < v4) (tt := 30) (ff := 16) (L' := [.ref 67, .int v4, .int v5]) (S' := []) (σ' := (97, I, J, R)) rfl (fun hc_533 => ?_) (fun hc_533 => ?_)
                          · rw [if_pos hc_533] at h
                            refine az_E.sn 1 (pc' := 31) (L' := [.ref 67, .int v4, .int v5]) (S' := [.int (0 : Int32)]) (σ' := (97, I, J, R)) rfl ?_
                            refine az_E.ret (v := some (.int (0 : Int32))) (σ' := (97, I, J, R)) rfl ?_
                            show az_E az_F ex 2 128 95 [.retAddr 0, .retAddr 0, .int v2, .retAddr 0, .int v4, .int v5, .ref 63, .ref 67] [.int (0 : Int32)] (97, I, J, R) _
                            refine az_E.br (c := (0 : Int32) = 0) (tt := 98) (ff := 101) (L' := [.retAddr 0, .retAddr 0, .int v2, .retAddr 0, .int v4, .int v5, .ref 63, .ref 67]) (S' := []) (σ' := (97, I, J, R)) rfl (fun _ => ?_) (fun hn => absurd (by decide) hn)
                            refine az_E.sn 1 (pc' := 100) (L' := [.retAddr 0, .retAddr 0, .int v2, .retAddr 0, .int v4, .int v5, .ref 63, .ref 67]) (S' := [.int (-13 : Int32)]) (σ' := (97, I, J, R)) rfl ?_
                            have h := Option.some.inj h
                            subst h
                            exact az_E.ret (v := some (.int (-13 : Int32))) (σ' := (97, I, J, R)) rfl hQ
                          · rw [if_neg hc_533] at h
                            refine az_E.sn 5 (pc' := 23) (L' := [.ref 67, .int v4, .int v5]) (S' := [.int ((I 67 2) - v4), .int v5]) (σ' := (97, I, J, R)) rfl ?_
                            refine az_E.br (c := ((I 67 2) - v4) < v5) (tt := 30) (ff := 26) (L' := [.ref 67, .int v4, .int v5]) (S' := []) (σ' := (97, I, J, R)) rfl (fun hc_534 => ?_) (fun hc_534 => ?_)
                            · rw [if_pos hc_534] at h
                              refine az_E.sn 1 (pc' := 31) (L' := [.ref 67, .int v4, .int v5]) (S' := [.int (0 : Int32)]) (σ' := (97, I, J, R)) rfl ?_
                              refine az_E.ret (v := some (.int (0 : Int32))) (σ' := (97, I, J, R)) rfl ?_
                              show az_E az_F ex 2 128 95 [.retAddr 0, .retAddr 0, .int v2, .retAddr 0, .int v4, .int v5, .ref 63, .ref 67] [.int (0 : Int32)] (97, I, J, R) _
                              refine az_E.br (c := (0 : Int32) = 0) (tt := 98) (ff := 101) (L' := [.retAddr 0, .retAddr 0, .int v2, .retAddr 0, .int v4, .int v5, .ref 63, .ref 67]) (S' := []) (σ' := (97, I, J, R)) rfl (fun _ => ?_) (fun hn => absurd (by decide) hn)
                              refine az_E.sn 1 (pc' := 100) (L' := [.retAddr 0, .retAddr 0, .int v2, .retAddr 0, .int v4, .int v5, .ref 63, .ref 67]) (S' := [.int (-13 : Int32)]) (σ' := (97, I, J, R)) rfl ?_
                              have h := Option.some.inj h
                              subst h
                              exact az_E.ret (v := some (.int (-13 : Int32))) (σ' := (97, I, J, R)) rfl hQ
                            · rw [if_neg hc_534] at h
                              refine az_E.sn 2 (pc' := 31) (L' := [.ref 67, .int v4, .int v5]) (S' := [.int (1 : Int32)]) (σ' := (97, I, J, R)) rfl ?_
                              refine az_E.ret (v := some (.int (1 : Int32))) (σ' := (97, I, J, R)) rfl ?_
                              show az_E az_F ex 2 128 95 [.retAddr 0, .retAddr 0, .int v2, .retAddr 0, .int v4, .int v5, .ref 63, .ref 67] [.int (1 : Int32)] (97, I, J, R) _
                              refine az_E.br (c := (1 : Int32) = 0) (tt := 98) (ff := 101) (L' := [.retAddr 0, .retAddr 0, .int v2, .retAddr 0, .int v4, .int v5, .ref 63, .ref 67]) (S' := []) (σ' := (97, I, J, R)) rfl (fun hn => absurd hn (by decide)) (fun _ => ?_)
                              refine az_E.sn 7 (pc' := 116) (L' := [.retAddr 0, .retAddr 0, .int v2, .retAddr 0, .int v4, .int v5, .ref 63, .ref 67]) (S' := [.int v5, .int v4, .ref (67 + 1), .int v2, .ref (63 + 1)]) (σ' := (97, I, J, R)) rfl ?_
                              by_cases hc_535 : v2 < 0 ∨ v4 < 0 ∨ v5 < 0 ∨ 60 < v2.toNatClampNeg + v5.toNatClampNeg ∨ 60 < v4.toNatClampNeg + v5.toNatClampNeg
                              · rw [if_pos hc_535] at h; cases h
                              · rw [if_neg hc_535] at h
                                refine az_E.o (o := az_cp az_F (97, I, J, R) (63 + 1) v2 (67 + 1) v4 v5) (pc' := 119) (L' := [.retAddr 0, .retAddr 0, .int v2, .retAddr 0, .int v4, .int v5, .ref 63, .ref 67]) (S' := []) (x := (97, I, (az_ur J (67 + 1) (va_cpy (J (63 + 1)) (J (67 + 1)) v2.toNatClampNeg v4.toNatClampNeg v5.toNatClampNeg)), R)) rfl (if_neg hc_535) ?_
                                refine az_E.sn 1 (pc' := 121) (L' := [.retAddr 0, .retAddr 0, .int v2, .retAddr 0, .int v4, .int v5, .ref 63, .ref 67]) (S' := [.int v5]) (σ' := (97, I, (az_ur J (67 + 1) (va_cpy (J (63 + 1)) (J (67 + 1)) v2.toNatClampNeg v4.toNatClampNeg v5.toNatClampNeg)), R)) rfl ?_
                                have h := Option.some.inj h
                                subst h
                                exact az_E.ret (v := some (.int v5)) (σ' := (97, I, (az_ur J (67 + 1) (va_cpy (J (63 + 1)) (J (67 + 1)) v2.toNatClampNeg v4.toNatClampNeg v5.toNatClampNeg)), R)) rfl hQ
            · rw [if_neg hc_526] at h
              refine az_E.sn 1 (pc' := 20) (L' := [.ref 67, .int (I 63 1)]) (S' := [.int (0 : Int32)]) (σ' := (97, I, J, R)) rfl ?_
              refine az_E.ret (v := some (.int (0 : Int32))) (σ' := (97, I, J, R)) rfl ?_
              show az_E az_F ex 2 128 69 [.retAddr 0, .retAddr 0, .int v2, .retAddr 0, .int v4, .int v5, .ref 63, .ref 67] [.int (0 : Int32)] (97, I, J, R) _
              refine az_E.br (c := (0 : Int32) = 0) (tt := 72) (ff := 75) (L' := [.retAddr 0, .retAddr 0, .int v2, .retAddr 0, .int v4, .int v5, .ref 63, .ref 67]) (S' := []) (σ' := (97, I, J, R)) rfl (fun _ => ?_) (fun hn => absurd (by decide) hn)
              refine az_E.sn 1 (pc' := 74) (L' := [.retAddr 0, .retAddr 0, .int v2, .retAddr 0, .int v4, .int v5, .ref 63, .ref 67]) (S' := [.int (-12 : Int32)]) (σ' := (97, I, J, R)) rfl ?_
              have h := Option.some.inj h
              subst h
              exact az_E.ret (v := some (.int (-12 : Int32))) (σ' := (97, I, J, R)) rfl hQ
    · rw [if_neg hc_522] at h
      refine az_E.sn 1 (pc' := 21) (L' := [.ref 67]) (S' := [.int (0 : Int32)]) (σ' := (97, I, J, R)) rfl ?_
      refine az_E.ret (v := some (.int (0 : Int32))) (σ' := (97, I, J, R)) rfl ?_
      show az_E az_F ex 2 128 45 [.retAddr 0, .retAddr 0, .int v2, .retAddr 0, .int v4, .int v5, .ref 63, .ref 67] [.int (0 : Int32)] (97, I, J, R) _
      refine az_E.br (c := (0 : Int32) = 0) (tt := 51) (ff := 48) (L' := [.retAddr 0, .retAddr 0, .int v2, .retAddr 0, .int v4, .int v5, .ref 63, .ref 67]) (S' := []) (σ' := (97, I, J, R)) rfl (fun _ => ?_) (fun hn => absurd (by decide) hn)
      refine az_E.sn 1 (pc' := 53) (L' := [.retAddr 0, .retAddr 0, .int v2, .retAddr 0, .int v4, .int v5, .ref 63, .ref 67]) (S' := [.ref 63]) (σ' := (97, I, J, R)) rfl ?_
      refine az_E.call (d := 1) (k' := 55) (vs := [.ref 63]) (pc' := 56) (S' := []) rfl ?_ (fun _ _ hq => hq)
      show az_E az_F ex 1 55 0 [.ref 63] [] (97, I, J, R) _
      refine az_E.sn 3 (pc' := 5) (L' := [.ref 63]) (S' := [.int (-1 : Int32), .int (I 63 1)]) (σ' := (97, I, J, R)) rfl ?_
      refine az_E.br (c := (I 63 1) = (-1 : Int32)) (tt := 12) (ff := 8) (L' := [.ref 63]) (S' := []) (σ' := (97, I, J, R)) rfl (fun hc_536 => ?_) (fun hc_536 => ?_)
      · rw [if_pos hc_536] at h
        refine az_E.sn 1 (pc' := 13) (L' := [.ref 63]) (S' := [.int (0 : Int32)]) (σ' := (97, I, J, R)) rfl ?_
        refine az_E.ret (v := some (.int (0 : Int32))) (σ' := (97, I, J, R)) rfl ?_
        show az_E az_F ex 2 128 56 [.retAddr 0, .retAddr 0, .int v2, .retAddr 0, .int v4, .int v5, .ref 63, .ref 67] [.int (0 : Int32)] (97, I, J, R) _
        refine az_E.br (c := (0 : Int32) = 0) (tt := 72) (ff := 59) (L' := [.retAddr 0, .retAddr 0, .int v2, .retAddr 0, .int v4, .int v5, .ref 63, .ref 67]) (S' := []) (σ' := (97, I, J, R)) rfl (fun _ => ?_) (fun hn => absurd (by decide) hn)
        refine az_E.sn 1 (pc' := 74) (L' := [.retAddr 0, .retAddr 0, .int v2, .retAddr 0, .int v4, .int v5, .ref 63, .ref 67]) (S' := [.int (-12 : Int32)]) (σ' := (97, I, J, R)) rfl ?_
        have h := Option.some.inj h
        subst h
        exact az_E.ret (v := some (.int (-12 : Int32))) (σ' := (97, I, J, R)) rfl hQ
      · rw [if_neg hc_536] at h
        refine az_E.sn 2 (pc' := 13) (L' := [.ref 63]) (S' := [.int (1 : Int32)]) (σ' := (97, I, J, R)) rfl ?_
        refine az_E.ret (v := some (.int (1 : Int32))) (σ' := (97, I, J, R)) rfl ?_
        show az_E az_F ex 2 128 56 [.retAddr 0, .retAddr 0, .int v2, .retAddr 0, .int v4, .int v5, .ref 63, .ref 67] [.int (1 : Int32)] (97, I, J, R) _
        refine az_E.br (c := (1 : Int32) = 0) (tt := 72) (ff := 59) (L' := [.retAddr 0, .retAddr 0, .int v2, .retAddr 0, .int v4, .int v5, .ref 63, .ref 67]) (S' := []) (σ' := (97, I, J, R)) rfl (fun hn => absurd hn (by decide)) (fun _ => ?_)
        refine az_E.sn 3 (pc' := 66) (L' := [.retAddr 0, .retAddr 0, .int v2, .retAddr 0, .int v4, .int v5, .ref 63, .ref 67]) (S' := [.int (I 63 1), .ref 67]) (σ' := (97, I, J, R)) rfl ?_
        refine az_E.call (d := 1) (k' := 56) (vs := [.ref 67, .int (I 63 1)]) (pc' := 69) (S' := []) rfl ?_ (fun _ _ hq => hq)
        show az_E az_F ex 1 56 0 [.ref 67, .int (I 63 1)] [] (97, I, J, R) _
        refine az_E.sn 1 (pc' := 1) (L' := [.ref 67, .int (I 63 1)]) (S' := [.ref 67]) (σ' := (97, I, J, R)) rfl ?_
        refine az_E.call (d := 0) (k' := 55) (vs := [.ref 67]) (pc' := 4) (S' := []) rfl ?_ (fun _ _ hq => hq)
        show az_E az_F ex 0 55 0 [.ref 67] [] (97, I, J, R) _
        refine az_E.sn 3 (pc' := 5) (L' := [.ref 67]) (S' := [.int (-1 : Int32), .int (I 67 1)]) (σ' := (97, I, J, R)) rfl ?_
        refine az_E.br (c := (I 67 1) = (-1 : Int32)) (tt := 12) (ff := 8) (L' := [.ref 67]) (S' := []) (σ' := (97, I, J, R)) rfl (fun hc_537 => ?_) (fun hc_537 => ?_)
        · rw [if_pos hc_537] at h
          refine az_E.sn 1 (pc' := 13) (L' := [.ref 67]) (S' := [.int (0 : Int32)]) (σ' := (97, I, J, R)) rfl ?_
          refine az_E.ret (v := some (.int (0 : Int32))) (σ' := (97, I, J, R)) rfl ?_
          show az_E az_F ex 1 56 4 [.ref 67, .int (I 63 1)] [.int (0 : Int32)] (97, I, J, R) _
          refine az_E.br (c := (0 : Int32) = 0) (tt := 19) (ff := 7) (L' := [.ref 67, .int (I 63 1)]) (S' := []) (σ' := (97, I, J, R)) rfl (fun _ => ?_) (fun hn => absurd (by decide) hn)
          refine az_E.sn 1 (pc' := 20) (L' := [.ref 67, .int (I 63 1)]) (S' := [.int (0 : Int32)]) (σ' := (97, I, J, R)) rfl ?_
          refine az_E.ret (v := some (.int (0 : Int32))) (σ' := (97, I, J, R)) rfl ?_
          show az_E az_F ex 2 128 69 [.retAddr 0, .retAddr 0, .int v2, .retAddr 0, .int v4, .int v5, .ref 63, .ref 67] [.int (0 : Int32)] (97, I, J, R) _
          refine az_E.br (c := (0 : Int32) = 0) (tt := 72) (ff := 75) (L' := [.retAddr 0, .retAddr 0, .int v2, .retAddr 0, .int v4, .int v5, .ref 63, .ref 67]) (S' := []) (σ' := (97, I, J, R)) rfl (fun _ => ?_) (fun hn => absurd (by decide) hn)
          refine az_E.sn 1 (pc' := 74) (L' := [.retAddr 0, .retAddr 0, .int v2, .retAddr 0, .int v4, .int v5, .ref 63, .ref 67]) (S' := [.int (-12 : Int32)]) (σ' := (97, I, J, R)) rfl ?_
          have h := Option.some.inj h
          subst h
          exact az_E.ret (v := some (.int (-12 : Int32))) (σ' := (97, I, J, R)) rfl hQ
        · rw [if_neg hc_537] at h
          refine az_E.sn 2 (pc' := 13) (L' := [.ref 67]) (S' := [.int (1 : Int32)]) (σ' := (97, I, J, R)) rfl ?_
          refine az_E.ret (v := some (.int (1 : Int32))) (σ' := (97, I, J, R)) rfl ?_
          show az_E az_F ex 1 56 4 [.ref 67, .int (I 63 1)] [.int (1 : Int32)] (97, I, J, R) _
          refine az_E.br (c := (1 : Int32) = 0) (tt := 19) (ff := 7) (L' := [.ref 67, .int (I 63 1)]) (S' := []) (σ' := (97, I, J, R)) rfl (fun hn => absurd hn (by decide)) (fun _ => ?_)
          refine az_E.sn 3 (pc' := 12) (L' := [.ref 67, .int (I 63 1)]) (S' := [.int (I 63 1), .int (I 67 1)]) (σ' := (97, I, J, R)) rfl ?_
          refine az_E.br (c := (I 67 1) = (I 63 1)) (tt := 15) (ff := 19) (L' := [.ref 67, .int (I 63 1)]) (S' := []) (σ' := (97, I, J, R)) rfl (fun hc_538 => ?_) (fun hc_538 => ?_)
          · rw [if_pos hc_538] at h
            refine az_E.sn 2 (pc' := 20) (L' := [.ref 67, .int (I 63 1)]) (S' := [.int (1 : Int32)]) (σ' := (97, I, J, R)) rfl ?_
            refine az_E.ret (v := some (.int (1 : Int32))) (σ' := (97, I, J, R)) rfl ?_
            show az_E az_F ex 2 128 69 [.retAddr 0, .retAddr 0, .int v2, .retAddr 0, .int v4, .int v5, .ref 63, .ref 67] [.int (1 : Int32)] (97, I, J, R) _
            refine az_E.br (c := (1 : Int32) = 0) (tt := 72) (ff := 75) (L' := [.retAddr 0, .retAddr 0, .int v2, .retAddr 0, .int v4, .int v5, .ref 63, .ref 67]) (S' := []) (σ' := (97, I, J, R)) rfl (fun hn => absurd hn (by decide)) (fun _ => ?_)
            refine az_E.sn 3 (pc' := 80) (L' := [.retAddr 0, .retAddr 0, .int v2, .retAddr 0, .int v4, .int v5, .ref 63, .ref 67]) (S' := [.int v5, .int v2, .ref 63]) (σ' := (97, I, J, R)) rfl ?_
            refine az_E.call (d := 1) (k' := 60) (vs := [.ref 63, .int v2, .int v5]) (pc' := 83) (S' := []) rfl ?_ (fun _ _ hq => hq)
            show az_E az_F ex 1 60 0 [.ref 63, .int v2, .int v5] [] (97, I, J, R) _
            refine az_E.sn 1 (pc' := 1) (L' := [.ref 63, .int v2, .int v5]) (S' := [.int v2]) (σ' := (97, I, J, R)) rfl ?_
            refine az_E.br (c := v2 < 0) (tt := 30) (ff := 4) (L' := [.ref 63, .int v2, .int v5]) (S' := []) (σ' := (97, I, J, R)) rfl (fun hc_539 => ?_) (fun hc_539 => ?_)
            · rw [if_pos hc_539] at h
              refine az_E.sn 1 (pc' := 31) (L' := [.ref 63, .int v2, .int v5]) (S' := [.int (0 : Int32)]) (σ' := (97, I, J, R)) rfl ?_
              refine az_E.ret (v := some (.int (0 : Int32))) (σ' := (97, I, J, R)) rfl ?_
              show az_E az_F ex 2 128 83 [.retAddr 0, .retAddr 0, .int v2, .retAddr 0, .int v4, .int v5, .ref 63, .ref 67] [.int (0 : Int32)] (97, I, J, R) _
              refine az_E.br (c := (0 : Int32) = 0) (tt := 98) (ff := 86) (L' := [.retAddr 0, .retAddr 0, .int v2, .retAddr 0, .int v4, .int v5, .ref 63, .ref 67]) (S' := []) (σ' := (97, I, J, R)) rfl (fun _ => ?_) (fun hn => absurd (by decide) hn)
              refine az_E.sn 1 (pc' := 100) (L' := [.retAddr 0, .retAddr 0, .int v2, .retAddr 0, .int v4, .int v5, .ref 63, .ref 67]) (S' := [.int (-13 : Int32)]) (σ' := (97, I, J, R)) rfl ?_
              have h := Option.some.inj h
              subst h
              exact az_E.ret (v := some (.int (-13 : Int32))) (σ' := (97, I, J, R)) rfl hQ
            · rw [if_neg hc_539] at h
              refine az_E.sn 1 (pc' := 5) (L' := [.ref 63, .int v2, .int v5]) (S' := [.int v5]) (σ' := (97, I, J, R)) rfl ?_
              refine az_E.br (c := v5 < 0) (tt := 30) (ff := 8) (L' := [.ref 63, .int v2, .int v5]) (S' := []) (σ' := (97, I, J, R)) rfl (fun hc_540 => ?_) (fun hc_540 => ?_)
              · rw [if_pos hc_540] at h
                refine az_E.sn 1 (pc' := 31) (L' := [.ref 63, .int v2, .int v5]) (S' := [.int (0 : Int32)]) (σ' := (97, I, J, R)) rfl ?_
                refine az_E.ret (v := some (.int (0 : Int32))) (σ' := (97, I, J, R)) rfl ?_
                show az_E az_F ex 2 128 83 [.retAddr 0, .retAddr 0, .int v2, .retAddr 0, .int v4, .int v5, .ref 63, .ref 67] [.int (0 : Int32)] (97, I, J, R) _
                refine az_E.br (c := (0 : Int32) = 0) (tt := 98) (ff := 86) (L' := [.retAddr 0, .retAddr 0, .int v2, .retAddr 0, .int v4, .int v5, .ref 63, .ref 67]) (S' := []) (σ' := (97, I, J, R)) rfl (fun _ => ?_) (fun hn => absurd (by decide) hn)
                refine az_E.sn 1 (pc' := 100) (L' := [.retAddr 0, .retAddr 0, .int v2, .retAddr 0, .int v4, .int v5, .ref 63, .ref 67]) (S' := [.int (-13 : Int32)]) (σ' := (97, I, J, R)) rfl ?_
                have h := Option.some.inj h
                subst h
                exact az_E.ret (v := some (.int (-13 : Int32))) (σ' := (97, I, J, R)) rfl hQ
              · rw [if_neg hc_540] at h
                refine az_E.sn 3 (pc' := 13) (L' := [.ref 63, .int v2, .int v5]) (S' := [.int (I 63 2), .int v2]) (σ' := (97, I, J, R)) rfl ?_
                refine az_E.br (c := (I 63 2) < v2) (tt := 30) (ff := 16) (L' := [.ref 63, .int v2, .int v5]) (S' := []) (σ' := (97, I, J, R)) rfl (fun hc_541 => ?_) (fun hc_541 => ?_)
                · rw [if_pos hc_541] at h
                  refine az_E.sn 1 (pc' := 31) (L' := [.ref 63, .int v2, .int v5]) (S' := [.int (0 : Int32)]) (σ' := (97, I, J, R)) rfl ?_
                  refine az_E.ret (v := some (.int (0 : Int32))) (σ' := (97, I, J, R)) rfl ?_
                  show az_E az_F ex 2 128 83 [.retAddr 0, .retAddr 0, .int v2, .retAddr 0, .int v4, .int v5, .ref 63, .ref 67] [.int (0 : Int32)] (97, I, J, R) _
                  refine az_E.br (c := (0 : Int32) = 0) (tt := 98) (ff := 86) (L' := [.retAddr 0, .retAddr 0, .int v2, .retAddr 0, .int v4, .int v5, .ref 63, .ref 67]) (S' := []) (σ' := (97, I, J, R)) rfl (fun _ => ?_) (fun hn => absurd (by decide) hn)
                  refine az_E.sn 1 (pc' := 100) (L' := [.retAddr 0, .retAddr 0, .int v2, .retAddr 0, .int v4, .int v5, .ref 63, .ref 67]) (S' := [.int (-13 : Int32)]) (σ' := (97, I, J, R)) rfl ?_
                  have h := Option.some.inj h
                  subst h
                  exact az_E.ret (v := some (.int (-13 : Int32))) (σ' := (97, I, J, R)) rfl hQ
                · rw [if_neg hc_541] at h
                  refine az_E.sn 5 (pc' := 23) (L' := [.ref 63, .int v2, .int v5]) (S' := [.int ((I 63 2) - v2), .int v5]) (σ' := (97, I, J, R)) rfl ?_
                  refine az_E.br (c := ((I 63 2) - v2) < v5) (tt := 30) (ff := 26) (L' := [.ref 63, .int v2, .int v5]) (S' := []) (σ' := (97, I, J, R)) rfl (fun hc_542 => ?_) (fun hc_542 => ?_)
                  · rw [if_pos hc_542] at h
                    refine az_E.sn 1 (pc' := 31) (L' := [.ref 63, .int v2, .int v5]) (S' := [.int (0 : Int32)]) (σ' := (97, I, J, R)) rfl ?_
                    refine az_E.ret (v := some (.int (0 : Int32))) (σ' := (97, I, J, R)) rfl ?_
                    show az_E az_F ex 2 128 83 [.retAddr 0, .retAddr 0, .int v2, .retAddr 0, .int v4, .int v5, .ref 63, .ref 67] [.int (0 : Int32)] (97, I, J, R) _
                    refine az_E.br (c := (0 : Int32) = 0) (tt := 98) (ff := 86) (L' := [.retAddr 0, .retAddr 0, .int v2, .retAddr 0, .int v4, .int v5, .ref 63, .ref 67]) (S' := []) (σ' := (97, I, J, R)) rfl (fun _ => ?_) (fun hn => absurd (by decide) hn)
                    refine az_E.sn 1 (pc' := 100) (L' := [.retAddr 0, .retAddr 0, .int v2, .retAddr 0, .int v4, .int v5, .ref 63, .ref 67]) (S' := [.int (-13 : Int32)]) (σ' := (97, I, J, R)) rfl ?_
                    have h := Option.some.inj h
                    subst h
                    exact az_E.ret (v := some (.int (-13 : Int32))) (σ' := (97, I, J, R)) rfl hQ
                  · rw [if_neg hc_542] at h
                    refine az_E.sn 2 (pc' := 31) (L' := [.ref 63, .int v2, .int v5]) (S' := [.int (1 : Int32)]) (σ' := (97, I, J, R)) rfl ?_
                    refine az_E.ret (v := some (.int (1 : Int32))) (σ' := (97, I, J, R)) rfl ?_
                    show az_E az_F ex 2 128 83 [.retAddr 0, .retAddr 0, .int v2, .retAddr 0, .int v4, .int v5, .ref 63, .ref 67] [.int (1 : Int32)] (97, I, J, R) _
                    refine az_E.br (c := (1 : Int32) = 0) (tt := 98) (ff := 86) (L' := [.retAddr 0, .retAddr 0, .int v2, .retAddr 0, .int v4, .int v5, .ref 63, .ref 67]) (S' := []) (σ' := (97, I, J, R)) rfl (fun hn => absurd hn (by decide)) (fun _ => ?_)
                    refine az_E.sn 3 (pc' := 92) (L' := [.retAddr 0, .retAddr 0, .int v2, .retAddr 0, .int v4, .int v5, .ref 63, .ref 67]) (S' := [.int v5, .int v4, .ref 67]) (σ' := (97, I, J, R)) rfl ?_
                    refine az_E.call (d := 1) (k' := 60) (vs := [.ref 67, .int v4, .int v5]) (pc' := 95) (S' := []) rfl ?_ (fun _ _ hq => hq)
                    show az_E az_F ex 1 60 0 [.ref 67, .int v4, .int v5] [] (97, I, J, R) _
                    refine az_E.sn 1 (pc' := 1) (L' := [.ref 67, .int v4, .int v5]) (S' := [.int v4]) (σ' := (97, I, J, R)) rfl ?_
                    refine az_E.br (c := v4 < 0) (tt := 30) (ff := 4) (L' := [.ref 67, .int v4, .int v5]) (S' := []) (σ' := (97, I, J, R)) rfl (fun hc_543 => ?_) (fun hc_543 => ?_)
                    · rw [if_pos hc_543] at h
                      refine az_E.sn 1 (pc' := 31) (L' := [.ref 67, .int v4, .int v5]) (S' := [.int (0 : Int32)]) (σ' := (97, I, J, R)) rfl ?_
                      refine az_E.ret (v := some (.int (0 : Int32))) (σ' := (97, I, J, R)) rfl ?_
                      show az_E az_F ex 2 128 95 [.retAddr 0, .retAddr 0, .int v2, .retAddr 0, .int v4, .int v5, .ref 63, .ref 67] [.int (0 : Int32)] (97, I, J, R) _
                      refine az_E.br (c := (0 : Int32) = 0) (tt := 98) (ff := 101) (L' := [.retAddr 0, .retAddr 0, .int v2, .retAddr 0, .int v4, .int v5, .ref 63, .ref 67]) (S' := []) (σ' := (97, I, J, R)) rfl (fun _ => ?_) (fun hn => absurd (by decide) hn)
                      refine az_E.sn 1 (pc' := 100) (L' := [.retAddr 0, .retAddr 0, .int v2, .retAddr 0, .int v4, .int v5, .ref 63, .ref 67]) (S' := [.int (-13 : Int32)]) (σ' := (97, I, J, R)) rfl ?_
                      have h := Option.some.inj h
                      subst h
                      exact az_E.ret (v := some (.int (-13 : Int32))) (σ' := (97, I, J, R)) rfl hQ
                    · rw [if_neg hc_543] at h
                      refine az_E.sn 1 (pc' := 5) (L' := [.ref 67, .int v4, .int v5]) (S' := [.int v5]) (σ' := (97, I, J, R)) rfl ?_
                      refine az_E.br (c := v5 < 0) (tt := 30) (ff := 8) (L' := [.ref 67, .int v4, .int v5]) (S' := []) (σ' := (97, I, J, R)) rfl (fun hc_544 => ?_) (fun hc_544 => ?_)
                      · rw [if_pos hc_544] at h
                        refine az_E.sn 1 (pc' := 31) (L' := [.ref 67, .int v4, .int v5]) (S' := [.int (0 : Int32)]) (σ' := (97, I, J, R)) rfl ?_
                        refine az_E.ret (v := some (.int (0 : Int32))) (σ' := (97, I, J, R)) rfl ?_
                        show az_E az_F ex 2 128 95 [.retAddr 0, .retAddr 0, .int v2, .retAddr 0, .int v4, .int v5, .ref 63, .ref 67] [.int (0 : Int32)] (97, I, J, R) _
                        refine az_E.br (c := (0 : Int32) = 0) (tt := 98) (ff := 101) (L' := [.retAddr 0, .retAddr 0, .int v2, .retAddr 0, .int v4, .int v5, .ref 63, .ref 67]) (S' := []) (σ' := (97, I, J, R)) rfl (fun _ => ?_) (fun hn => absurd (by decide) hn)
                        refine az_E.sn 1 (pc' := 100) (L' := [.retAddr 0, .retAddr 0, .int v2, .retAddr 0, .int v4, .int v5, .ref 63, .ref 67]) (S' := [.int (-13 : Int32)]) (σ' := (97, I, J, R)) rfl ?_
                        have h := Option.some.inj h
                        subst h
                        exact az_E.ret (v := some (.int (-13 : Int32))) (σ' := (97, I, J, R)) rfl hQ
                      · rw [if_neg hc_544] at h
                        refine az_E.sn 3 (pc' := 13) (L' := [.ref 67, .int v4, .int v5]) (S' := [.int (I 67 2), .int v4]) (σ' := (97, I, J, R)) rfl ?_
                        refine az_E.br (c := (I 67 2) < v4) (tt := 30) (ff := 16) (L' := [.ref 67, .int v4, .int v5]) (S' := []) (σ' := (97, I, J, R)) rfl (fun hc_545 => ?_) (fun hc_545 => ?_)
                        · rw [if_pos hc_545] at h
                          refine az_E.sn 1 (pc' := 31) (L' := [.ref 67, .int v4, .int v5]) (S' := [.int (0 : Int32)]) (σ' := (97, I, J, R)) rfl ?_
                          refine az_E.ret (v := some (.int (0 : Int32))) (σ' := (97, I, J, R)) rfl ?_
                          show az_E az_F ex 2 128 95 [.retAddr 0, .retAddr 0, .int v2, .retAddr 0, .int v4, .int v5, .ref 63, .ref 67] [.int (0 : Int32)] (97, I, J, R) _
                          refine az_E.br (c := (0 : Int32) = 0) (tt := 98) (ff := 101) (L' := [.retAddr 0, .retAddr 0, .int v2, .retAddr 0, .int v4, .int v5, .ref 63, .ref 67]) (S' := []) (σ' := (97, I, J, R)) rfl (fun _ => ?_) (fun hn => absurd (by decide) hn)
                          refine az_E.sn 1 (pc' := 100) (L' := [.retAddr 0, .retAddr 0, .int v2, .retAddr 0, .int v4, .int v5, .ref 63, .ref 67]) (S' := [.int (-13 : Int32)]) (σ' := (97, I, J, R)) rfl ?_
                          have h := Option.some.inj h
                          subst h
                          exact az_E.ret (v := some (.int (-13 : Int32))) (σ' := (97, I, J, R)) rfl hQ
                        · rw [if_neg hc_545] at h
                          refine az_E.sn 5 (pc' := 23) (L' := [.ref 67, .int v4, .int v5]) (S' := [.int ((I 67 2) - v4), .int v5]) (σ' := (97, I, J, R)) rfl ?_
                          refine az_E.br (c := ((I 67 2) - v4) < v5) (tt := 30) (ff := 26) (L' := [.ref 67, .int v4, .int v5]) (S' := []) (σ' := (97, I, J, R)) rfl (fun hc_546 => ?_) (fun hc_546 => ?_)
                          · rw [if_pos hc_546] at h
                            refine az_E.sn 1 (pc' := 31) (L' := [.ref 67, .int v4, .int v5]) (S' := [.int (0 : Int32)]) (σ' := (97, I, J, R)) rfl ?_
                            refine az_E.ret (v := some (.int (0 : Int32))) (σ' := (97, I, J, R)) rfl ?_
                            show az_E az_F ex 2 128 95 [.retAddr 0, .retAddr 0, .int v2, .retAddr 0, .int v4, .int v5, .ref 63, .ref 67] [.int (0 : Int32)] (97, I, J, R) _
                            refine az_E.br (c := (0 : Int32) = 0) (tt := 98) (ff := 101) (L' := [.retAddr 0, .retAddr 0, .int v2, .retAddr 0, .int v4, .int v5, .ref 63, .ref 67]) (S' := []) (σ' := (97, I, J, R)) rfl (fun _ => ?_) (fun hn => absurd (by decide) hn)
                            refine az_E.sn 1 (pc' := 100) (L' := [.retAddr 0, .retAddr 0, .int v2, .retAddr 0, .int v4, .int v5, .ref 63, .ref 67]) (S' := [.int (-13 : Int32)]) (σ' := (97, I, J, R)) rfl ?_
                            have h := Option.some.inj h
                            subst h
                            exact az_E.ret (v := some (.int (-13 : Int32))) (σ' := (97, I, J, R)) rfl hQ
                          · rw [if_neg hc_546] at h
                            refine az_E.sn 2 (pc' := 31) (L' := [.ref 67, .int v4, .int v5]) (S' := [.int (1 : Int32)]) (σ' := (97, I, J, R)) rfl ?_
                            refine az_E.ret (v := some (.int (1 : Int32))) (σ' := (97, I, J, R)) rfl ?_
                            show az_E az_F ex 2 128 95 [.retAddr 0, .retAddr 0, .int v2, .retAddr 0, .int v4, .int v5, .ref 63, .ref 67] [.int (1 : Int32)] (97, I, J, R) _
                            refine az_E.br (c := (1 : Int32) = 0) (tt := 98) (ff := 101) (L' := [.retAddr 0, .retAddr 0, .int v2, .retAddr 0, .int v4, .int v5, .ref 63, .ref 67]) (S' := []) (σ' := (97, I, J, R)) rfl (fun hn => absurd hn (by decide)) (fun _ => ?_)
                            refine az_E.sn 7 (pc' := 116) (L' := [.retAddr 0, .retAddr 0, .int v2, .retAddr 0, .int v4, .int v5, .ref 63, .ref 67]) (S' := [.int v5, .int v4, .ref (67 + 1), .int v2, .ref (63 + 1)]) (σ' := (97, I, J, R)) rfl ?_
                            by_cases hc_547 : v2 < 0 ∨ v4 < 0 ∨ v5 < 0 ∨ 60 < v2.toNatClampNeg + v5.toNatClampNeg ∨ 60 < v4.toNatClampNeg + v5.toNatClampNeg
                            · rw [if_pos hc_547] at h; cases h
                            · rw [if_neg hc_547] at h
                              refine az_E.o (o := az_cp az_F (97, I, J, R) (63 + 1) v2 (67 + 1) v4 v5) (pc' := 119) (L' := [.retAddr 0, .retAddr 0, .int v2, .retAddr 0, .int v4, .int v5, .ref 63, .ref 67]) (S' := []) (x := (97, I, (az_ur J (67 + 1) (va_cpy (J (63 + 1)) (J (67 + 1)) v2.toNatClampNeg v4.toNatClampNeg v5.toNatClampNeg)), R)) rfl (if_neg hc_547) ?_
                              refine az_E.sn 1 (pc' := 121) (L' := [.retAddr 0, .retAddr 0, .int v2, .retAddr 0, .int v4, .int v5, .ref 63, .ref 67]) (S' := [.int v5]) (σ' := (97, I, (az_ur J (67 + 1) (va_cpy (J (63 + 1)) (J (67 + 1)) v2.toNatClampNeg v4.toNatClampNeg v5.toNatClampNeg)), R)) rfl ?_
                              have h := Option.some.inj h
                              subst h
                              exact az_E.ret (v := some (.int v5)) (σ' := (97, I, (az_ur J (67 + 1) (va_cpy (J (63 + 1)) (J (67 + 1)) v2.toNatClampNeg v4.toNatClampNeg v5.toNatClampNeg)), R)) rfl hQ
          · rw [if_neg hc_538] at h
            refine az_E.sn 1 (pc' := 20) (L' := [.ref 67, .int (I 63 1)]) (S' := [.int (0 : Int32)]) (σ' := (97, I, J, R)) rfl ?_
            refine az_E.ret (v := some (.int (0 : Int32))) (σ' := (97, I, J, R)) rfl ?_
            show az_E az_F ex 2 128 69 [.retAddr 0, .retAddr 0, .int v2, .retAddr 0, .int v4, .int v5, .ref 63, .ref 67] [.int (0 : Int32)] (97, I, J, R) _
            refine az_E.br (c := (0 : Int32) = 0) (tt := 72) (ff := 75) (L' := [.retAddr 0, .retAddr 0, .int v2, .retAddr 0, .int v4, .int v5, .ref 63, .ref 67]) (S' := []) (σ' := (97, I, J, R)) rfl (fun _ => ?_) (fun hn => absurd (by decide) hn)
            refine az_E.sn 1 (pc' := 74) (L' := [.retAddr 0, .retAddr 0, .int v2, .retAddr 0, .int v4, .int v5, .ref 63, .ref 67]) (S' := [.int (-12 : Int32)]) (σ' := (97, I, J, R)) rfl ?_
            have h := Option.some.inj h
            subst h
            exact az_E.ret (v := some (.int (-12 : Int32))) (σ' := (97, I, J, R)) rfl hQ
set_option maxRecDepth 100000 in
set_option maxHeartbeats 4000000 in
theorem re_X_shift_30_63_69 {ex : az_X} {I : Nat → Nat → Int32} {J : Nat → Nat → Int64} {R : Nat → Nat → Option Nat} {v2 : Int32} {v4 : Int32} {v5 : Int32} {x : Int32 × (Nat → Nat → Int64)} (h : rs_X_shift_30 63 69 I J v2 v4 v5 = some x) {Q : Option Value → az_S → Prop} (hQ : Q (some (.int x.1)) (97, I, x.2, R)) : az_E az_F ex 2 128 30 [.retAddr 0, .retAddr 0, .int v2, .retAddr 0, .int v4, .int v5, .ref 63, .retAddr 0] [.ref 69] (97, I, J, R) Q := by
  unfold rs_X_shift_30 at h
  refine az_E.sn 2 (pc' := 34) (L' := [.retAddr 0, .retAddr 0, .int v2, .retAddr 0, .int v4, .int v5, .ref 63, .ref 69]) (S' := [.ref 63]) (σ' := (97, I, J, R)) rfl ?_
  refine az_E.call (d := 1) (k' := 54) (vs := [.ref 63]) (pc' := 37) (S' := []) rfl ?_ (fun _ _ hq => hq)
  show az_E az_F ex 1 54 0 [.ref 63] [] (97, I, J, R) _
  refine az_E.sn 3 (pc' := 5) (L' := [.ref 63]) (S' := [.int (-1 : Int32), .int (I 63 0)]) (σ' := (97, I, J, R)) rfl ?_
  refine az_E.br (c := (I 63 0) = (-1 : Int32)) (tt := 8) (ff := 20) (L' := [.ref 63]) (S' := []) (σ' := (97, I, J, R)) rfl (fun hc_548 => ?_) (fun hc_548 => ?_)
  · rw [if_pos hc_548] at h
    refine az_E.sn 3 (pc' := 13) (L' := [.ref 63]) (S' := [.int (-1 : Int32), .int (I 63 1)]) (σ' := (97, I, J, R)) rfl ?_
    refine az_E.br (c := (I 63 1) = (-1 : Int32)) (tt := 16) (ff := 20) (L' := [.ref 63]) (S' := []) (σ' := (97, I, J, R)) rfl (fun hc_549 => ?_) (fun hc_549 => ?_)
    · rw [if_pos hc_549] at h
      refine az_E.sn 2 (pc' := 21) (L' := [.ref 63]) (S' := [.int (1 : Int32)]) (σ' := (97, I, J, R)) rfl ?_
      refine az_E.ret (v := some (.int (1 : Int32))) (σ' := (97, I, J, R)) rfl ?_
      show az_E az_F ex 2 128 37 [.retAddr 0, .retAddr 0, .int v2, .retAddr 0, .int v4, .int v5, .ref 63, .ref 69] [.int (1 : Int32)] (97, I, J, R) _
      refine az_E.br (c := (1 : Int32) = 0) (tt := 40) (ff := 48) (L' := [.retAddr 0, .retAddr 0, .int v2, .retAddr 0, .int v4, .int v5, .ref 63, .ref 69]) (S' := []) (σ' := (97, I, J, R)) rfl (fun hn => absurd hn (by decide)) (fun _ => ?_)
      refine az_E.sn 1 (pc' := 50) (L' := [.retAddr 0, .retAddr 0, .int v2, .retAddr 0, .int v4, .int v5, .ref 63, .ref 69]) (S' := [.int (-11 : Int32)]) (σ' := (97, I, J, R)) rfl ?_
      have h := Option.some.inj h
      subst h
      exact az_E.ret (v := some (.int (-11 : Int32))) (σ' := (97, I, J, R)) rfl hQ
    · rw [if_neg hc_549] at h
      refine az_E.sn 1 (pc' := 21) (L' := [.ref 63]) (S' := [.int (0 : Int32)]) (σ' := (97, I, J, R)) rfl ?_
      refine az_E.ret (v := some (.int (0 : Int32))) (σ' := (97, I, J, R)) rfl ?_
      show az_E az_F ex 2 128 37 [.retAddr 0, .retAddr 0, .int v2, .retAddr 0, .int v4, .int v5, .ref 63, .ref 69] [.int (0 : Int32)] (97, I, J, R) _
      refine az_E.br (c := (0 : Int32) = 0) (tt := 40) (ff := 48) (L' := [.retAddr 0, .retAddr 0, .int v2, .retAddr 0, .int v4, .int v5, .ref 63, .ref 69]) (S' := []) (σ' := (97, I, J, R)) rfl (fun _ => ?_) (fun hn => absurd (by decide) hn)
      refine az_E.sn 1 (pc' := 42) (L' := [.retAddr 0, .retAddr 0, .int v2, .retAddr 0, .int v4, .int v5, .ref 63, .ref 69]) (S' := [.ref 69]) (σ' := (97, I, J, R)) rfl ?_
      refine az_E.call (d := 1) (k' := 54) (vs := [.ref 69]) (pc' := 45) (S' := []) rfl ?_ (fun _ _ hq => hq)
      show az_E az_F ex 1 54 0 [.ref 69] [] (97, I, J, R) _
      refine az_E.sn 3 (pc' := 5) (L' := [.ref 69]) (S' := [.int (-1 : Int32), .int (I 69 0)]) (σ' := (97, I, J, R)) rfl ?_
      refine az_E.br (c := (I 69 0) = (-1 : Int32)) (tt := 8) (ff := 20) (L' := [.ref 69]) (S' := []) (σ' := (97, I, J, R)) rfl (fun hc_550 => ?_) (fun hc_550 => ?_)
      · rw [if_pos hc_550] at h
        refine az_E.sn 3 (pc' := 13) (L' := [.ref 69]) (S' := [.int (-1 : Int32), .int (I 69 1)]) (σ' := (97, I, J, R)) rfl ?_
        refine az_E.br (c := (I 69 1) = (-1 : Int32)) (tt := 16) (ff := 20) (L' := [.ref 69]) (S' := []) (σ' := (97, I, J, R)) rfl (fun hc_551 => ?_) (fun hc_551 => ?_)
        · rw [if_pos hc_551] at h
          refine az_E.sn 2 (pc' := 21) (L' := [.ref 69]) (S' := [.int (1 : Int32)]) (σ' := (97, I, J, R)) rfl ?_
          refine az_E.ret (v := some (.int (1 : Int32))) (σ' := (97, I, J, R)) rfl ?_
          show az_E az_F ex 2 128 45 [.retAddr 0, .retAddr 0, .int v2, .retAddr 0, .int v4, .int v5, .ref 63, .ref 69] [.int (1 : Int32)] (97, I, J, R) _
          refine az_E.br (c := (1 : Int32) = 0) (tt := 51) (ff := 48) (L' := [.retAddr 0, .retAddr 0, .int v2, .retAddr 0, .int v4, .int v5, .ref 63, .ref 69]) (S' := []) (σ' := (97, I, J, R)) rfl (fun hn => absurd hn (by decide)) (fun _ => ?_)
          refine az_E.sn 1 (pc' := 50) (L' := [.retAddr 0, .retAddr 0, .int v2, .retAddr 0, .int v4, .int v5, .ref 63, .ref 69]) (S' := [.int (-11 : Int32)]) (σ' := (97, I, J, R)) rfl ?_
          have h := Option.some.inj h
          subst h
          exact az_E.ret (v := some (.int (-11 : Int32))) (σ' := (97, I, J, R)) rfl hQ
        · rw [if_neg hc_551] at h
          refine az_E.sn 1 (pc' := 21) (L' := [.ref 69]) (S' := [.int (0 : Int32)]) (σ' := (97, I, J, R)) rfl ?_
          refine az_E.ret (v := some (.int (0 : Int32))) (σ' := (97, I, J, R)) rfl ?_
          show az_E az_F ex 2 128 45 [.retAddr 0, .retAddr 0, .int v2, .retAddr 0, .int v4, .int v5, .ref 63, .ref 69] [.int (0 : Int32)] (97, I, J, R) _
          refine az_E.br (c := (0 : Int32) = 0) (tt := 51) (ff := 48) (L' := [.retAddr 0, .retAddr 0, .int v2, .retAddr 0, .int v4, .int v5, .ref 63, .ref 69]) (S' := []) (σ' := (97, I, J, R)) rfl (fun _ => ?_) (fun hn => absurd (by decide) hn)
          refine az_E.sn 1 (pc' := 53) (L' := [.retAddr 0, .retAddr 0, .int v2, .retAddr 0, .int v4, .int v5, .ref 63, .ref 69]) (S' := [.ref 63]) (σ' := (97, I, J, R)) rfl ?_
          refine az_E.call (d := 1) (k' := 55) (vs := [.ref 63]) (pc' := 56) (S' := []) rfl ?_ (fun _ _ hq => hq)
          show az_E az_F ex 1 55 0 [.ref 63] [] (97, I, J, R) _
          refine az_E.sn 3 (pc' := 5) (L' := [.ref 63]) (S' := [.int (-1 : Int32), .int (I 63 1)]) (σ' := (97, I, J, R)) rfl ?_
          refine az_E.br (c := (I 63 1) = (-1 : Int32)) (tt := 12) (ff := 8) (L' := [.ref 63]) (S' := []) (σ' := (97, I, J, R)) rfl (fun hc_552 => ?_) (fun hc_552 => ?_)
          · rw [if_pos hc_552] at h
            refine az_E.sn 1 (pc' := 13) (L' := [.ref 63]) (S' := [.int (0 : Int32)]) (σ' := (97, I, J, R)) rfl ?_
            refine az_E.ret (v := some (.int (0 : Int32))) (σ' := (97, I, J, R)) rfl ?_
            show az_E az_F ex 2 128 56 [.retAddr 0, .retAddr 0, .int v2, .retAddr 0, .int v4, .int v5, .ref 63, .ref 69] [.int (0 : Int32)] (97, I, J, R) _
            refine az_E.br (c := (0 : Int32) = 0) (tt := 72) (ff := 59) (L' := [.retAddr 0, .retAddr 0, .int v2, .retAddr 0, .int v4, .int v5, .ref 63, .ref 69]) (S' := []) (σ' := (97, I, J, R)) rfl (fun _ => ?_) (fun hn => absurd (by decide) hn)
            refine az_E.sn 1 (pc' := 74) (L' := [.retAddr 0, .retAddr 0, .int v2, .retAddr 0, .int v4, .int v5, .ref 63, .ref 69]) (S' := [.int (-12 : Int32)]) (σ' := (97, I, J, R)) rfl ?_
            have h := Option.some.inj h
            subst h
            exact az_E.ret (v := some (.int (-12 : Int32))) (σ' := (97, I, J, R)) rfl hQ
          · rw [if_neg hc_552] at h
            refine az_E.sn 2 (pc' := 13) (L' := [.ref 63]) (S' := [.int (1 : Int32)]) (σ' := (97, I, J, R)) rfl ?_
            refine az_E.ret (v := some (.int (1 : Int32))) (σ' := (97, I, J, R)) rfl ?_
            show az_E az_F ex 2 128 56 [.retAddr 0, .retAddr 0, .int v2, .retAddr 0, .int v4, .int v5, .ref 63, .ref 69] [.int (1 : Int32)] (97, I, J, R) _
            refine az_E.br (c := (1 : Int32) = 0) (tt := 72) (ff := 59) (L' := [.retAddr 0, .retAddr 0, .int v2, .retAddr 0, .int v4, .int v5, .ref 63, .ref 69]) (S' := []) (σ' := (97, I, J, R)) rfl (fun hn => absurd hn (by decide)) (fun _ => ?_)
            refine az_E.sn 3 (pc' := 66) (L' := [.retAddr 0, .retAddr 0, .int v2, .retAddr 0, .int v4, .int v5, .ref 63, .ref 69]) (S' := [.int (I 63 1), .ref 69]) (σ' := (97, I, J, R)) rfl ?_
            refine az_E.call (d := 1) (k' := 56) (vs := [.ref 69, .int (I 63 1)]) (pc' := 69) (S' := []) rfl ?_ (fun _ _ hq => hq)
            show az_E az_F ex 1 56 0 [.ref 69, .int (I 63 1)] [] (97, I, J, R) _
            refine az_E.sn 1 (pc' := 1) (L' := [.ref 69, .int (I 63 1)]) (S' := [.ref 69]) (σ' := (97, I, J, R)) rfl ?_
            refine az_E.call (d := 0) (k' := 55) (vs := [.ref 69]) (pc' := 4) (S' := []) rfl ?_ (fun _ _ hq => hq)
            show az_E az_F ex 0 55 0 [.ref 69] [] (97, I, J, R) _
            refine az_E.sn 3 (pc' := 5) (L' := [.ref 69]) (S' := [.int (-1 : Int32), .int (I 69 1)]) (σ' := (97, I, J, R)) rfl ?_
            refine az_E.br (c := (I 69 1) = (-1 : Int32)) (tt := 12) (ff := 8) (L' := [.ref 69]) (S' := []) (σ' := (97, I, J, R)) rfl (fun hc_553 => ?_) (fun hc_553 => ?_)
            · rw [if_pos hc_553] at h
              refine az_E.sn 1 (pc' := 13) (L' := [.ref 69]) (S' := [.int (0 : Int32)]) (σ' := (97, I, J, R)) rfl ?_
              refine az_E.ret (v := some (.int (0 : Int32))) (σ' := (97, I, J, R)) rfl ?_
              show az_E az_F ex 1 56 4 [.ref 69, .int (I 63 1)] [.int (0 : Int32)] (97, I, J, R) _
              refine az_E.br (c := (0 : Int32) = 0) (tt := 19) (ff := 7) (L' := [.ref 69, .int (I 63 1)]) (S' := []) (σ' := (97, I, J, R)) rfl (fun _ => ?_) (fun hn => absurd (by decide) hn)
              refine az_E.sn 1 (pc' := 20) (L' := [.ref 69, .int (I 63 1)]) (S' := [.int (0 : Int32)]) (σ' := (97, I, J, R)) rfl ?_
              refine az_E.ret (v := some (.int (0 : Int32))) (σ' := (97, I, J, R)) rfl ?_
              show az_E az_F ex 2 128 69 [.retAddr 0, .retAddr 0, .int v2, .retAddr 0, .int v4, .int v5, .ref 63, .ref 69] [.int (0 : Int32)] (97, I, J, R) _
              refine az_E.br (c := (0 : Int32) = 0) (tt := 72) (ff := 75) (L' := [.retAddr 0, .retAddr 0, .int v2, .retAddr 0, .int v4, .int v5, .ref 63, .ref 69]) (S' := []) (σ' := (97, I, J, R)) rfl (fun _ => ?_) (fun hn => absurd (by decide) hn)
              refine az_E.sn 1 (pc' := 74) (L' := [.retAddr 0, .retAddr 0, .int v2, .retAddr 0, .int v4, .int v5, .ref 63, .ref 69]) (S' := [.int (-12 : Int32)]) (σ' := (97, I, J, R)) rfl ?_
              have h := Option.some.inj h
              subst h
              exact az_E.ret (v := some (.int (-12 : Int32))) (σ' := (97, I, J, R)) rfl hQ
            · rw [if_neg hc_553] at h
              refine az_E.sn 2 (pc' := 13) (L' := [.ref 69]) (S' := [.int (1 : Int32)]) (σ' := (97, I, J, R)) rfl ?_
              refine az_E.ret (v := some (.int (1 : Int32))) (σ' := (97, I, J, R)) rfl ?_
              show az_E az_F ex 1 56 4 [.ref 69, .int (I 63 1)] [.int (1 : Int32)] (97, I, J, R) _
              refine az_E.br (c := (1 : Int32) = 0) (tt := 19) (ff := 7) (L' := [.ref 69, .int (I 63 1)]) (S' := []) (σ' := (97, I, J, R)) rfl (fun hn => absurd hn (by decide)) (fun _ => ?_)
              refine az_E.sn 3 (pc' := 12) (L' := [.ref 69, .int (I 63 1)]) (S' := [.int (I 63 1), .int (I 69 1)]) (σ' := (97, I, J, R)) rfl ?_
              refine az_E.br (c := (I 69 1) = (I 63 1)) (tt := 15) (ff := 19) (L' := [.ref 69, .int (I 63 1)]) (S' := []) (σ' := (97, I, J, R)) rfl (fun hc_554 => ?_) (fun hc_554 => ?_)
              · rw [if_pos hc_554] at h
                refine az_E.sn 2 (pc' := 20) (L' := [.ref 69, .int (I 63 1)]) (S' := [.int (1 : Int32)]) (σ' := (97, I, J, R)) rfl ?_
                refine az_E.ret (v := some (.int (1 : Int32))) (σ' := (97, I, J, R)) rfl ?_
                show az_E az_F ex 2 128 69 [.retAddr 0, .retAddr 0, .int v2, .retAddr 0, .int v4, .int v5, .ref 63, .ref 69] [.int (1 : Int32)] (97, I, J, R) _
                refine az_E.br (c := (1 : Int32) = 0) (tt := 72) (ff := 75) (L' := [.retAddr 0, .retAddr 0, .int v2, .retAddr 0, .int v4, .int v5, .ref 63, .ref 69]) (S' := []) (σ' := (97, I, J, R)) rfl (fun hn => absurd hn (by decide)) (fun _ => ?_)
                refine az_E.sn 3 (pc' := 80) (L' := [.retAddr 0, .retAddr 0, .int v2, .retAddr 0, .int v4, .int v5, .ref 63, .ref 69]) (S' := [.int v5, .int v2, .ref 63]) (σ' := (97, I, J, R)) rfl ?_
                refine az_E.call (d := 1) (k' := 60) (vs := [.ref 63, .int v2, .int v5]) (pc' := 83) (S' := []) rfl ?_ (fun _ _ hq => hq)
                show az_E az_F ex 1 60 0 [.ref 63, .int v2, .int v5] [] (97, I, J, R) _
                refine az_E.sn 1 (pc' := 1) (L' := [.ref 63, .int v2, .int v5]) (S' := [.int v2]) (σ' := (97, I, J, R)) rfl ?_
                refine az_E.br (c := v2 < 0) (tt := 30) (ff := 4) (L' := [.ref 63, .int v2, .int v5]) (S' := []) (σ' := (97, I, J, R)) rfl (fun hc_555 => ?_) (fun hc_555 => ?_)
                · rw [if_pos hc_555] at h
                  refine az_E.sn 1 (pc' := 31) (L' := [.ref 63, .int v2, .int v5]) (S' := [.int (0 : Int32)]) (σ' := (97, I, J, R)) rfl ?_
                  refine az_E.ret (v := some (.int (0 : Int32))) (σ' := (97, I, J, R)) rfl ?_
                  show az_E az_F ex 2 128 83 [.retAddr 0, .retAddr 0, .int v2, .retAddr 0, .int v4, .int v5, .ref 63, .ref 69] [.int (0 : Int32)] (97, I, J, R) _
                  refine az_E.br (c := (0 : Int32) = 0) (tt := 98) (ff := 86) (L' := [.retAddr 0, .retAddr 0, .int v2, .retAddr 0, .int v4, .int v5, .ref 63, .ref 69]) (S' := []) (σ' := (97, I, J, R)) rfl (fun _ => ?_) (fun hn => absurd (by decide) hn)
                  refine az_E.sn 1 (pc' := 100) (L' := [.retAddr 0, .retAddr 0, .int v2, .retAddr 0, .int v4, .int v5, .ref 63, .ref 69]) (S' := [.int (-13 : Int32)]) (σ' := (97, I, J, R)) rfl ?_
                  have h := Option.some.inj h
                  subst h
                  exact az_E.ret (v := some (.int (-13 : Int32))) (σ' := (97, I, J, R)) rfl hQ
                · rw [if_neg hc_555] at h
                  refine az_E.sn 1 (pc' := 5) (L' := [.ref 63, .int v2, .int v5]) (S' := [.int v5]) (σ' := (97, I, J, R)) rfl ?_
                  refine az_E.br (c := v5 < 0) (tt := 30) (ff := 8) (L' := [.ref 63, .int v2, .int v5]) (S' := []) (σ' := (97, I, J, R)) rfl (fun hc_556 => ?_) (fun hc_556 => ?_)
                  · rw [if_pos hc_556] at h
                    refine az_E.sn 1 (pc' := 31) (L' := [.ref 63, .int v2, .int v5]) (S' := [.int (0 : Int32)]) (σ' := (97, I, J, R)) rfl ?_
                    refine az_E.ret (v := some (.int (0 : Int32))) (σ' := (97, I, J, R)) rfl ?_
                    show az_E az_F ex 2 128 83 [.retAddr 0, .retAddr 0, .int v2, .retAddr 0, .int v4, .int v5, .ref 63, .ref 69] [.int (0 : Int32)] (97, I, J, R) _
                    refine az_E.br (c := (0 : Int32) = 0) (tt := 98) (ff := 86) (L' := [.retAddr 0, .retAddr 0, .int v2, .retAddr 0, .int v4, .int v5, .ref 63, .ref 69]) (S' := []) (σ' := (97, I, J, R)) rfl (fun _ => ?_) (fun hn => absurd (by decide) hn)
                    refine az_E.sn 1 (pc' := 100) (L' := [.retAddr 0, .retAddr 0, .int v2, .retAddr 0, .int v4, .int v5, .ref 63, .ref 69]) (S' := [.int (-13 : Int32)]) (σ' := (97, I, J, R)) rfl ?_
                    have h := Option.some.inj h
                    subst h
                    exact az_E.ret (v := some (.int (-13 : Int32))) (σ' := (97, I, J, R)) rfl hQ
                  · rw [if_neg hc_556] at h
                    refine az_E.sn 3 (pc' := 13) (L' := [.ref 63, .int v2, .int v5]) (S' := [.int (I 63 2), .int v2]) (σ' := (97, I, J, R)) rfl ?_
                    refine az_E.br (c := (I 63 2) < v2) (tt := 30) (ff := 16) (L' := [.ref 63, .int v2, .int v5]) (S' := []) (σ' := (97, I, J, R)) rfl (fun hc_557 => ?_) (fun hc_557 => ?_)
                    · rw [if_pos hc_557] at h
                      refine az_E.sn 1 (pc' := 31) (L' := [.ref 63, .int v2, .int v5]) (S' := [.int (0 : Int32)]) (σ' := (97, I, J, R)) rfl ?_
                      refine az_E.ret (v := some (.int (0 : Int32))) (σ' := (97, I, J, R)) rfl ?_
                      show az_E az_F ex 2 128 83 [.retAddr 0, .retAddr 0, .int v2, .retAddr 0, .int v4, .int v5, .ref 63, .ref 69] [.int (0 : Int32)] (97, I, J, R) _
                      refine az_E.br (c := (0 : Int32) = 0) (tt := 98) (ff := 86) (L' := [.retAddr 0, .retAddr 0, .int v2, .retAddr 0, .int v4, .int v5, .ref 63, .ref 69]) (S' := []) (σ' := (97, I, J, R)) rfl (fun _ => ?_) (fun hn => absurd (by decide) hn)
                      refine az_E.sn 1 (pc' := 100) (L' := [.retAddr 0, .retAddr 0, .int v2, .retAddr 0, .int v4, .int v5, .ref 63, .ref 69]) (S' := [.int (-13 : Int32)]) (σ' := (97, I, J, R)) rfl ?_
                      have h := Option.some.inj h
                      subst h
                      exact az_E.ret (v := some (.int (-13 : Int32))) (σ' := (97, I, J, R)) rfl hQ
                    · rw [if_neg hc_557] at h
                      refine az_E.sn 5 (pc' := 23) (L' := [.ref 63, .int v2, .int v5]) (S' := [.int ((I 63 2) - v2), .int v5]) (σ' := (97, I, J, R)) rfl ?_
                      refine az_E.br (c := ((I 63 2) - v2) < v5) (tt := 30) (ff := 26) (L' := [.ref 63, .int v2, .int v5]) (S' := []) (σ' := (97, I, J, R)) rfl (fun hc_558 => ?_) (fun hc_558 => ?_)
                      · rw [if_pos hc_558] at h
                        refine az_E.sn 1 (pc' := 31) (L' := [.ref 63, .int v2, .int v5]) (S' := [.int (0 : Int32)]) (σ' := (97, I, J, R)) rfl ?_
                        refine az_E.ret (v := some (.int (0 : Int32))) (σ' := (97, I, J, R)) rfl ?_
                        show az_E az_F ex 2 128 83 [.retAddr 0, .retAddr 0, .int v2, .retAddr 0, .int v4, .int v5, .ref 63, .ref 69] [.int (0 : Int32)] (97, I, J, R) _
                        refine az_E.br (c := (0 : Int32) = 0) (tt := 98) (ff := 86) (L' := [.retAddr 0, .retAddr 0, .int v2, .retAddr 0, .int v4, .int v5, .ref 63, .ref 69]) (S' := []) (σ' := (97, I, J, R)) rfl (fun _ => ?_) (fun hn => absurd (by decide) hn)
                        refine az_E.sn 1 (pc' := 100) (L' := [.retAddr 0, .retAddr 0, .int v2, .retAddr 0, .int v4, .int v5, .ref 63, .ref 69]) (S' := [.int (-13 : Int32)]) (σ' := (97, I, J, R)) rfl ?_
                        have h := Option.some.inj h
                        subst h
                        exact az_E.ret (v := some (.int (-13 : Int32))) (σ' := (97, I, J, R)) rfl hQ
                      · rw [if_neg hc_558] at h
                        refine az_E.sn 2 (pc' := 31) (L' := [.ref 63, .int v2, .int v5]) (S' := [.int (1 : Int32)]) (σ' := (97, I, J, R)) rfl ?_
                        refine az_E.ret (v := some (.int (1 : Int32))) (σ' := (97, I, J, R)) rfl ?_
                        show az_E az_F ex 2 128 83 [.retAddr 0, .retAddr 0, .int v2, .retAddr 0, .int v4, .int v5, .ref 63, .ref 69] [.int (1 : Int32)] (97, I, J, R) _
                        refine az_E.br (c := (1 : Int32) = 0) (tt := 98) (ff := 86) (L' := [.retAddr 0, .retAddr 0, .int v2, .retAddr 0, .int v4, .int v5, .ref 63, .ref 69]) (S' := []) (σ' := (97, I, J, R)) rfl (fun hn => absurd hn (by decide)) (fun _ => ?_)
                        refine az_E.sn 3 (pc' := 92) (L' := [.retAddr 0, .retAddr 0, .int v2, .retAddr 0, .int v4, .int v5, .ref 63, .ref 69]) (S' := [.int v5, .int v4, .ref 69]) (σ' := (97, I, J, R)) rfl ?_
                        refine az_E.call (d := 1) (k' := 60) (vs := [.ref 69, .int v4, .int v5]) (pc' := 95) (S' := []) rfl ?_ (fun _ _ hq => hq)
                        show az_E az_F ex 1 60 0 [.ref 69, .int v4, .int v5] [] (97, I, J, R) _
                        refine az_E.sn 1 (pc' := 1) (L' := [.ref 69, .int v4, .int v5]) (S' := [.int v4]) (σ' := (97, I, J, R)) rfl ?_
                        refine az_E.br (c := v4 < 0) (tt := 30) (ff := 4) (L' := [.ref 69, .int v4, .int v5]) (S' := []) (σ' := (97, I, J, R)) rfl (fun hc_559 => ?_) (fun hc_559 => ?_)
                        · rw [if_pos hc_559] at h
                          refine az_E.sn 1 (pc' := 31) (L' := [.ref 69, .int v4, .int v5]) (S' := [.int (0 : Int32)]) (σ' := (97, I, J, R)) rfl ?_
                          refine az_E.ret (v := some (.int (0 : Int32))) (σ' := (97, I, J, R)) rfl ?_
                          show az_E az_F ex 2 128 95 [.retAddr 0, .retAddr 0, .int v2, .retAddr 0, .int v4, .int v5, .ref 63, .ref 69] [.int (0 : Int32)] (97, I, J, R) _
                          refine az_E.br (c := (0 : Int32) = 0) (tt := 98) (ff := 101) (L' := [.retAddr 0, .retAddr 0, .int v2, .retAddr 0, .int v4, .int v5, .ref 63, .ref 69]) (S' := []) (σ' := (97, I, J, R)) rfl (fun _ => ?_) (fun hn => absurd (by decide) hn)
                          refine az_E.sn 1 (pc' := 100) (L' := [.retAddr 0, .retAddr 0, .int v2, .retAddr 0, .int v4, .int v5, .ref 63, .ref 69]) (S' := [.int (-13 : Int32)]) (σ' := (97, I, J, R)) rfl ?_
                          have h := Option.some.inj h
                          subst h
                          exact az_E.ret (v := some (.int (-13 : Int32))) (σ' := (97, I, J, R)) rfl hQ
                        · rw [if_neg hc_559] at h
                          refine az_E.sn 1 (pc' := 5) (L' := [.ref 69, .int v4, .int v5]) (S' := [.int v5]) (σ' := (97, I, J, R)) rfl ?_
                          refine az_E.br (c := v5 < 0) (tt := 30) (ff := 8) (L' := [.ref 69, .int v4, .int v5]) (S' := []) (σ' := (97, I, J, R)) rfl (fun hc_560 => ?_) (fun hc_560 => ?_)
                          · rw [if_pos hc_560] at h
                            refine az_E.sn 1 (pc' := 31) (L' := [.ref 69, .int v4, .int v5]) (S' := [.int (0 : Int32)]) (σ' := (97, I, J, R)) rfl ?_
                            refine az_E.ret (v := some (.int (0 : Int32))) (σ' := (97, I, J, R)) rfl ?_
                            show az_E az_F ex 2 128 95 [.retAddr 0, .retAddr 0, .int v2, .retAddr 0, .int v4, .int v5, .ref 63, .ref 69] [.int (0 : Int32)] (97, I, J, R) _
                            refine az_E.br (c := (0 : Int32) = 0) (tt := 98) (ff := 101) (L' := [.retAddr 0, .retAddr 0, .int v2, .retAddr 0, .int v4, .int v5, .ref 63, .ref 69]) (S' := []) (σ' := (97, I, J, R)) rfl (fun _ => ?_) (fun hn => absurd (by decide) hn)
                            refine az_E.sn 1 (pc' := 100) (L' := [.retAddr 0, .retAddr 0, .int v2, .retAddr 0, .int v4, .int v5, .ref 63, .ref 69]) (S' := [.int (-13 : Int32)]) (σ' := (97, I, J, R)) rfl ?_
                            have h := Option.some.inj h
                            subst h
                            exact az_E.ret (v := some (.int (-13 : Int32))) (σ' := (97, I, J, R)) rfl hQ
                          · rw [if_neg hc_560] at h
                            refine az_E.sn 3 (pc' := 13) (L' := [.ref 69, .int v4, .int v5]) (S' := [.int (I 69 2), .int v4]) (σ' := (97, I, J, R)) rfl ?_
                            refine az_E.br (c := (I 69 2) < v4) (tt := 30) (ff := 16) (L' := [.ref 69, .int v4, .int v5]) (S' := []) (σ' := (97, I, J, R)) rfl (fun hc_561 => ?_) (fun hc_561 => ?_)
                            · rw [if_pos hc_561] at h
                              refine az_E.sn 1 (pc' := 31) (L' := [.ref 69, .int v4, .int v5]) (S' := [.int (0 : Int32)]) (σ' := (97, I, J, R)) rfl ?_
                              refine az_E.ret (v := some (.int (0 : Int32))) (σ' := (97, I, J, R)) rfl ?_
                              show az_E az_F ex 2 128 95 [.retAddr 0, .retAddr 0, .int v2, .retAddr 0, .int v4, .int v5, .ref 63, .ref 69] [.int (0 : Int32)] (97, I, J, R) _
                              refine az_E.br (c := (0 : Int32) = 0) (tt := 98) (ff := 101) (L' := [.retAddr 0, .retAddr 0, .int v2, .retAddr 0, .int v4, .int v5, .ref 63, .ref 69]) (S' := []) (σ' := (97, I, J, R)) rfl (fun _ => ?_) (fun hn => absurd (by decide) hn)
                              refine az_E.sn 1 (pc' := 100) (L' := [.retAddr 0, .retAddr 0, .int v2, .retAddr 0, .int v4, .int v5, .ref 63, .ref 69]) (S' := [.int (-13 : Int32)]) (σ' := (97, I, J, R)) rfl ?_
                              have h := Option.some.inj h
                              subst h
                              exact az_E.ret (v := some (.int (-13 : Int32))) (σ' := (97, I, J, R)) rfl hQ
                            · rw [if_neg hc_561] at h
                              refine az_E.sn 5 (pc' := 23) (L' := [.ref 69, .int v4, .int v5]) (S' := [.int ((I 69 2) - v4), .int v5]) (σ' := (97, I, J, R)) rfl ?_
                              refine az_E.br (c := ((I 69 2) - v4) < v5) (tt := 30) (ff := 26) (L' := [.ref 69, .int v4, .int v5]) (S' := []) (σ' := (97, I, J, R)) rfl (fun hc_562 => ?_) (fun hc_562 => ?_)
                              · rw [if_pos hc_562] at h
                                refine az_E.sn 1 (pc' := 31) (L' := [.ref 69, .int v4, .int v5]) (S' := [.int (0 : Int32)]) (σ' := (97, I, J, R)) rfl ?_
                                refine az_E.ret (v := some (.int (0 : Int32))) (σ' := (97, I, J, R)) rfl ?_
                                show az_E az_F ex 2 128 95 [.retAddr 0, .retAddr 0, .int v2, .retAddr 0, .int v4, .int v5, .ref 63, .ref 69] [.int (0 : Int32)] (97, I, J, R) _
                                refine az_E.br (c := (0 : Int32) = 0) (tt := 98) (ff := 101) (L' := [.retAddr 0, .retAddr 0, .int v2, .retAddr 0, .int v4, .int v5, .ref 63, .ref 69]) (S' := []) (σ' := (97, I, J, R)) rfl (fun _ => ?_) (fun hn => absurd (by decide) hn)
                                refine az_E.sn 1 (pc' := 100) (L' := [.retAddr 0, .retAddr 0, .int v2, .retAddr 0, .int v4, .int v5, .ref 63, .ref 69]) (S' := [.int (-13 : Int32)]) (σ' := (97, I, J, R)) rfl ?_
                                have h := Option.some.inj h
                                subst h
                                exact az_E.ret (v := some (.int (-13 : Int32))) (σ' := (97, I, J, R)) rfl hQ
                              · rw [if_neg hc_562] at h
                                refine az_E.sn 2 (pc' := 31) (L' := [.ref 69, .int v4, .int v5]) (S' := [.int (1 : Int32)]) (σ' := (97, I, J, R)) rfl ?_
                                refine az_E.ret (v := some (.int (1 : Int32))) (σ' := (97, I, J, R)) rfl ?_
                                show az_E az_F ex 2 128 95 [.retAddr 0, .retAddr 0, .int v2, .retAddr 0, .int v4, .int v5, .ref 63, .ref 69] [.int (1 : Int32)] (97, I, J, R) _
                                refine az_E.br (c := (1 : Int32) = 0) (tt := 98) (ff := 101) (L' := [.retAddr 0, .retAddr 0, .int v2, .retAddr 0, .int v4, .int v5, .ref 63, .ref 69]) (S' := []) (σ' := (97, I, J, R)) rfl (fun hn => absurd hn (by decide)) (fun _ => ?_)
                                refine az_E.sn 7 (pc' := 116) (L' := [.retAddr 0, .retAddr 0, .int v2, .retAddr 0, .int v4, .int v5, .ref 63, .ref 69]) (S' := [.int v5, .int v4, .ref (69 + 1), .int v2, .ref (63 + 1)]) (σ' := (97, I, J, R)) rfl ?_
                                by_cases hc_563 : v2 < 0 ∨ v4 < 0 ∨ v5 < 0 ∨ 60 < v2.toNatClampNeg + v5.toNatClampNeg ∨ 60 < v4.toNatClampNeg + v5.toNatClampNeg
                                · rw [if_pos hc_563] at h; cases h
                                · rw [if_neg hc_563] at h
                                  refine az_E.o (o := az_cp az_F (97, I, J, R) (63 + 1) v2 (69 + 1) v4 v5) (pc' := 119) (L' := [.retAddr 0, .retAddr 0, .int v2, .retAddr 0, .int v4, .int v5, .ref 63, .ref 69]) (S' := []) (x := (97, I, (az_ur J (69 + 1) (va_cpy (J (63 + 1)) (J (69 + 1)) v2.toNatClampNeg v4.toNatClampNeg v5.toNatClampNeg)), R)) rfl (if_neg hc_563) ?_
                                  refine az_E.sn 1 (pc' := 121) (L' := [.retAddr 0, .retAddr 0, .int v2, .retAddr 0, .int v4, .int v5, .ref 63, .ref 69]) (S' := [.int v5]) (σ' := (97, I, (az_ur J (69 + 1) (va_cpy (J (63 + 1)) (J (69 + 1)) v2.toNatClampNeg v4.toNatClampNeg v5.toNatClampNeg)), R)) rfl ?_
                                  have h := Option.some.inj h
                                  subst h
                                  exact az_E.ret (v := some (.int v5)) (σ' := (97, I, (az_ur J (69 + 1) (va_cpy (J (63 + 1)) (J (69 + 1)) v2.toNatClampNeg v4.toNatClampNeg v5.toNatClampNeg)), R)) rfl hQ
              · rw [if_neg hc_554] at h
                refine az_E.sn 1 (pc' := 20) (L' := [.ref 69, .int (I 63 1)]) (S' := [.int (0 : Int32)]) (σ' := (97, I, J, R)) rfl ?_
                refine az_E.ret (v := some (.int (0 : Int32))) (σ' := (97, I, J, R)) rfl ?_
                show az_E az_F ex 2 128 69 [.retAddr 0, .retAddr 0, .int v2, .retAddr 0, .int v4, .int v5, .ref 63, .ref 69] [.int (0 : Int32)] (97, I, J, R) _
                refine az_E.br (c := (0 : Int32) = 0) (tt := 72) (ff := 75) (L' := [.retAddr 0, .retAddr 0, .int v2, .retAddr 0, .int v4, .int v5, .ref 63, .ref 69]) (S' := []) (σ' := (97, I, J, R)) rfl (fun _ => ?_) (fun hn => absurd (by decide) hn)
                refine az_E.sn 1 (pc' := 74) (L' := [.retAddr 0, .retAddr 0, .int v2, .retAddr 0, .int v4, .int v5, .ref 63, .ref 69]) (S' := [.int (-12 : Int32)]) (σ' := (97, I, J, R)) rfl ?_
                have h := Option.some.inj h
                subst h
                exact az_E.ret (v := some (.int (-12 : Int32))) (σ' := (97, I, J, R)) rfl hQ
      · rw [if_neg hc_550] at h
        refine az_E.sn 1 (pc' := 21) (L' := [.ref 69]) (S' := [.int (0 : Int32)]) (σ' := (97, I, J, R)) rfl ?_
        refine az_E.ret (v := some (.int (0 : Int32))) (σ' := (97, I, J, R)) rfl ?_
        show az_E az_F ex 2 128 45 [.retAddr 0, .retAddr 0, .int v2, .retAddr 0, .int v4, .int v5, .ref 63, .ref 69] [.int (0 : Int32)] (97, I, J, R) _
        refine az_E.br (c := (0 : Int32) = 0) (tt := 51) (ff := 48) (L' := [.retAddr 0, .retAddr 0, .int v2, .retAddr 0, .int v4, .int v5, .ref 63, .ref 69]) (S' := []) (σ' := (97, I, J, R)) rfl (fun _ => ?_) (fun hn => absurd (by decide) hn)
        refine az_E.sn 1 (pc' := 53) (L' := [.retAddr 0, .retAddr 0, .int v2, .retAddr 0, .int v4, .int v5, .ref 63, .ref 69]) (S' := [.ref 63]) (σ' := (97, I, J, R)) rfl ?_
        refine az_E.call (d := 1) (k' := 55) (vs := [.ref 63]) (pc' := 56) (S' := []) rfl ?_ (fun _ _ hq => hq)
        show az_E az_F ex 1 55 0 [.ref 63] [] (97, I, J, R) _
        refine az_E.sn 3 (pc' := 5) (L' := [.ref 63]) (S' := [.int (-1 : Int32), .int (I 63 1)]) (σ' := (97, I, J, R)) rfl ?_
        refine az_E.br (c := (I 63 1) = (-1 : Int32)) (tt := 12) (ff := 8) (L' := [.ref 63]) (S' := []) (σ' := (97, I, J, R)) rfl (fun hc_564 => ?_) (fun hc_564 => ?_)
        · rw [if_pos hc_564] at h
          refine az_E.sn 1 (pc' := 13) (L' := [.ref 63]) (S' := [.int (0 : Int32)]) (σ' := (97, I, J, R)) rfl ?_
          refine az_E.ret (v := some (.int (0 : Int32))) (σ' := (97, I, J, R)) rfl ?_
          show az_E az_F ex 2 128 56 [.retAddr 0, .retAddr 0, .int v2, .retAddr 0, .int v4, .int v5, .ref 63, .ref 69] [.int (0 : Int32)] (97, I, J, R) _
          refine az_E.br (c := (0 : Int32) = 0) (tt := 72) (ff := 59) (L' := [.retAddr 0, .retAddr 0, .int v2, .retAddr 0, .int v4, .int v5, .ref 63, .ref 69]) (S' := []) (σ' := (97, I, J, R)) rfl (fun _ => ?_) (fun hn => absurd (by decide) hn)
          refine az_E.sn 1 (pc' := 74) (L' := [.retAddr 0, .retAddr 0, .int v2, .retAddr 0, .int v4, .int v5, .ref 63, .ref 69]) (S' := [.int (-12 : Int32)]) (σ' := (97, I, J, R)) rfl ?_
          have h := Option.some.inj h
          subst h
          exact az_E.ret (v := some (.int (-12 : Int32))) (σ' := (97, I, J, R)) rfl hQ
        · rw [if_neg hc_564] at h
          refine az_E.sn 2 (pc' := 13) (L' := [.ref 63]) (S' := [.int (1 : Int32)]) (σ' := (97, I, J, R)) rfl ?_
          refine az_E.ret (v := some (.int (1 : Int32))) (σ' := (97, I, J, R)) rfl ?_
          show az_E az_F ex 2 128 56 [.retAddr 0, .retAddr 0, .int v2, .retAddr 0, .int v4, .int v5, .ref 63, .ref 69] [.int (1 : Int32)] (97, I, J, R) _
          refine az_E.br (c := (1 : Int32) = 0) (tt := 72) (ff := 59) (L' := [.retAddr 0, .retAddr 0, .int v2, .retAddr 0, .int v4, .int v5, .ref 63, .ref 69]) (S' := []) (σ' := (97, I, J, R)) rfl (fun hn => absurd hn (by decide)) (fun _ => ?_)
          refine az_E.sn 3 (pc' := 66) (L' := [.retAddr 0, .retAddr 0, .int v2, .retAddr 0, .int v4, .int v5, .ref 63, .ref 69]) (S' := [.int (I 63 1), .ref 69]) (σ' := (97, I, J, R)) rfl ?_
          refine az_E.call (d := 1) (k' := 56) (vs := [.ref 69, .int (I 63 1)]) (pc' := 69) (S' := []) rfl ?_ (fun _ _ hq => hq)
          show az_E az_F ex 1 56 0 [.ref 69, .int (I 63 1)] [] (97, I, J, R) _
          refine az_E.sn 1 (pc' := 1) (L' := [.ref 69, .int (I 63 1)]) (S' := [.ref 69]) (σ' := (97, I, J, R)) rfl ?_
          refine az_E.call (d := 0) (k' := 55) (vs := [.ref 69]) (pc' := 4) (S' := []) rfl ?_ (fun _ _ hq => hq)
          show az_E az_F ex 0 55 0 [.ref 69] [] (97, I, J, R) _
          refine az_E.sn 3 (pc' := 5) (L' := [.ref 69]) (S' := [.int (-1 : Int32), .int (I 69 1)]) (σ' := (97, I, J, R)) rfl ?_
          refine az_E.br (c := (I 69 1) = (-1 : Int32)) (tt := 12) (ff := 8) (L' := [.ref 69]) (S' := []) (σ' := (97, I, J, R)) rfl (fun hc_565 => ?_) (fun hc_565 => ?_)
          · rw [if_pos hc_565] at h
            refine az_E.sn 1 (pc' := 13) (L' := [.ref 69]) (S' := [.int (0 : Int32)]) (σ' := (97, I, J, R)) rfl ?_
            refine az_E.ret (v := some (.int (0 : Int32))) (σ' := (97, I, J, R)) rfl ?_
            show az_E az_F ex 1 56 4 [.ref 69, .int (I 63 1)] [.int (0 : Int32)] (97, I, J, R) _
            refine az_E.br (c := (0 : Int32) = 0) (tt := 19) (ff := 7) (L' := [.ref 69, .int (I 63 1)]) (S' := []) (σ' := (97, I, J, R)) rfl (fun _ => ?_) (fun hn => absurd (by decide) hn)
            refine az_E.sn 1 (pc' := 20) (L' := [.ref 69, .int (I 63 1)]) (S' := [.int (0 : Int32)]) (σ' := (97, I, J, R)) rfl ?_
            refine az_E.ret (v := some (.int (0 : Int32))) (σ' := (97, I, J, R)) rfl ?_
            show az_E az_F ex 2 128 69 [.retAddr 0, .retAddr 0, .int v2, .retAddr 0, .int v4, .int v5, .ref 63, .ref 69] [.int (0 : Int32)] (97, I, J, R) _
            refine az_E.br (c := (0 : Int32) = 0) (tt := 72) (ff := 75) (L' := [.retAddr 0, .retAddr 0, .int v2, .retAddr 0, .int v4, .int v5, .ref 63, .ref 69]) (S' := []) (σ' := (97, I, J, R)) rfl (fun _ => ?_) (fun hn => absurd (by decide) hn)
            refine az_E.sn 1 (pc' := 74) (L' := [.retAddr 0, .retAddr 0, .int v2, .retAddr 0, .int v4, .int v5, .ref 63, .ref 69]) (S' := [.int (-12 : Int32)]) (σ' := (97, I, J, R)) rfl ?_
            have h := Option.some.inj h
            subst h
            exact az_E.ret (v := some (.int (-12 : Int32))) (σ' := (97, I, J, R)) rfl hQ
          · rw [if_neg hc_565] at h
            refine az_E.sn 2 (pc' := 13) (L' := [.ref 69]) (S' := [.int (1 : Int32)]) (σ' := (97, I, J, R)) rfl ?_
            refine az_E.ret (v := some (.int (1 : Int32))) (σ' := (97, I, J, R)) rfl ?_
            show az_E az_F ex 1 56 4 [.ref 69, .int (I 63 1)] [.int (1 : Int32)] (97, I, J, R) _
            refine az_E.br (c := (1 : Int32) = 0) (tt := 19) (ff := 7) (L' := [.ref 69, .int (I 63 1)]) (S' := []) (σ' := (97, I, J, R)) rfl (fun hn => absurd hn (by decide)) (fun _ => ?_)
            refine az_E.sn 3 (pc' := 12) (L' := [.ref 69, .int (I 63 1)]) (S' := [.int (I 63 1), .int (I 69 1)]) (σ' := (97, I, J, R)) rfl ?_
            refine az_E.br (c := (I 69 1) = (I 63 1)) (tt := 15) (ff := 19) (L' := [.ref 69, .int (I 63 1)]) (S' := []) (σ' := (97, I, J, R)) rfl (fun hc_566 => ?_) (fun hc_566 => ?_)
            · rw [if_pos hc_566] at h
              refine az_E.sn 2 (pc' := 20) (L' := [.ref 69, .int (I 63 1)]) (S' := [.int (1 : Int32)]) (σ' := (97, I, J, R)) rfl ?_
              refine az_E.ret (v := some (.int (1 : Int32))) (σ' := (97, I, J, R)) rfl ?_
              show az_E az_F ex 2 128 69 [.retAddr 0, .retAddr 0, .int v2, .retAddr 0, .int v4, .int v5, .ref 63, .ref 69] [.int (1 : Int32)] (97, I, J, R) _
              refine az_E.br (c := (1 : Int32) = 0) (tt := 72) (ff := 75) (L' := [.retAddr 0, .retAddr 0, .int v2, .retAddr 0, .int v4, .int v5, .ref 63, .ref 69]) (S' := []) (σ' := (97, I, J, R)) rfl (fun hn => absurd hn (by decide)) (fun _ => ?_)
              refine az_E.sn 3 (pc' := 80) (L' := [.retAddr 0, .retAddr 0, .int v2, .retAddr 0, .int v4, .int v5, .ref 63, .ref 69]) (S' := [.int v5, .int v2, .ref 63]) (σ' := (97, I, J, R)) rfl ?_
              refine az_E.call (d := 1) (k' := 60) (vs := [.ref 63, .int v2, .int v5]) (pc' := 83) (S' := []) rfl ?_ (fun _ _ hq => hq)
              show az_E az_F ex 1 60 0 [.ref 63, .int v2, .int v5] [] (97, I, J, R) _
              refine az_E.sn 1 (pc' := 1) (L' := [.ref 63, .int v2, .int v5]) (S' := [.int v2]) (σ' := (97, I, J, R)) rfl ?_
              refine az_E.br (c := v2 < 0) (tt := 30) (ff := 4) (L' := [.ref 63, .int v2, .int v5]) (S' := []) (σ' := (97, I, J, R)) rfl (fun hc_567 => ?_) (fun hc_567 => ?_)
              · rw [if_pos hc_567] at h
                refine az_E.sn 1 (pc' := 31) (L' := [.ref 63, .int v2, .int v5]) (S' := [.int (0 : Int32)]) (σ' := (97, I, J, R)) rfl ?_
                refine az_E.ret (v := some (.int (0 : Int32))) (σ' := (97, I, J, R)) rfl ?_
                show az_E az_F ex 2 128 83 [.retAddr 0, .retAddr 0, .int v2, .retAddr 0, .int v4, .int v5, .ref 63, .ref 69] [.int (0 : Int32)] (97, I, J, R) _
                refine az_E.br (c := (0 : Int32) = 0) (tt := 98) (ff := 86) (L' := [.retAddr 0, .retAddr 0, .int v2, .retAddr 0, .int v4, .int v5, .ref 63, .ref 69]) (S' := []) (σ' := (97, I, J, R)) rfl (fun _ => ?_) (fun hn => absurd (by decide) hn)
                refine az_E.sn 1 (pc' := 100) (L' := [.retAddr 0, .retAddr 0, .int v2, .retAddr 0, .int v4, .int v5, .ref 63, .ref 69]) (S' := [.int (-13 : Int32)]) (σ' := (97, I, J, R)) rfl ?_
                have h := Option.some.inj h
                subst h
                exact az_E.ret (v := some (.int (-13 : Int32))) (σ' := (97, I, J, R)) rfl hQ
              · rw [if_neg hc_567] at h
                refine az_E.sn 1 (pc' := 5) (L' := [.ref 63, .int v2, .int v5]) (S' := [.int v5]) (σ' := (97, I, J, R)) rfl ?_
                refine az_E.br (c := v5 < 0) (tt := 30) (ff := 8) (L' := [.ref 63, .int v2, .int v5]) (S' := []) (σ' := (97, I, J, R)) rfl (fun hc_568 => ?_) (fun hc_568 => ?_)
                · rw [if_pos hc_568] at h
                  refine az_E.sn 1 (pc' := 31) (L' := [.ref 63, .int v2, .int v5]) (S' := [.int (0 : Int32)]) (σ' := (97, I, J, R)) rfl ?_
                  refine az_E.ret (v := some (.int (0 : Int32))) (σ' := (97, I, J, R)) rfl ?_
                  show az_E az_F ex 2 128 83 [.retAddr 0, .retAddr 0, .int v2, .retAddr 0, .int v4, .int v5, .ref 63, .ref 69] [.int (0 : Int32)] (97, I, J, R) _
                  refine az_E.br (c := (0 : Int32) = 0) (tt := 98) (ff := 86) (L' := [.retAddr 0, .retAddr 0, .int v2, .retAddr 0, .int v4, .int v5, .ref 63, .ref 69]) (S' := []) (σ' := (97, I, J, R)) rfl (fun _ => ?_) (fun hn => absurd (by decide) hn)
                  refine az_E.sn 1 (pc' := 100) (L' := [.retAddr 0, .retAddr 0, .int v2, .retAddr 0, .int v4, .int v5, .ref 63, .ref 69]) (S' := [.int (-13 : Int32)]) (σ' := (97, I, J, R)) rfl ?_
                  have h := Option.some.inj h
                  subst h
                  exact az_E.ret (v := some (.int (-13 : Int32))) (σ' := (97, I, J, R)) rfl hQ
                · rw [if_neg hc_568] at h
                  refine az_E.sn 3 (pc' := 13) (L' := [.ref 63, .int v2, .int v5]) (S' := [.int (I 63 2), .int v2]) (σ' := (97, I, J, R)) rfl ?_
                  refine az_E.br (c := (I 63 2) < v2) (tt := 30) (ff := 16) (L' := [.ref 63, .int v2, .int v5]) (S' := []) (σ' := (97, I, J, R)) rfl (fun hc_569 => ?_) (fun hc_569 => ?_)
                  · rw [if_pos hc_569] at h
                    refine az_E.sn 1 (pc' := 31) (L' := [.ref 63, .int v2, .int v5]) (S' := [.int (0 : Int32)]) (σ' := (97, I, J, R)) rfl ?_
                    refine az_E.ret (v := some (.int (0 : Int32))) (σ' := (97, I, J, R)) rfl ?_
                    show az_E az_F ex 2 128 83 [.retAddr 0, .retAddr 0, .int v2, .retAddr 0, .int v4, .int v5, .ref 63, .ref 69] [.int (0 : Int32)] (97, I, J, R) _
                    refine az_E.br (c := (0 : Int32) = 0) (tt := 98) (ff := 86) (L' := [.retAddr 0, .retAddr 0, .int v2, .retAddr 0, .int v4, .int v5, .ref 63, .ref 69]) (S' := []) (σ' := (97, I, J, R)) rfl (fun _ => ?_) (fun hn => absurd (by decide) hn)
                    refine az_E.sn 1 (pc' := 100) (L' := [.retAddr 0, .retAddr 0, .int v2, .retAddr 0, .int v4, .int v5, .ref 63, .ref 69]) (S' := [.int (-13 : Int32)]) (σ' := (97, I, J, R)) rfl ?_
                    have h := Option.some.inj h
                    subst h
                    exact az_E.ret (v := some (.int (-13 : Int32))) (σ' := (97, I, J, R)) rfl hQ
                  · rw [if_neg hc_569] at h
                    refine az_E.sn 5 (pc' := 23) (L' := [.ref 63, .int v2, .int v5]) (S' := [.int ((I 63 2) - v2), .int v5]) (σ' := (97, I, J, R)) rfl ?_
                    refine az_E.br (c := ((I 63 2) - v2) < v5) (tt := 30) (ff := 26) (L' := [.ref 63, .int v2, .int v5]) (S' := []) (σ' := (97, I, J, R)) rfl (fun hc_570 => ?_) (fun hc_570 => ?_)
                    · rw [if_pos hc_570] at h
                      refine az_E.sn 1 (pc' := 31) (L' := [.ref 63, .int v2, .int v5]) (S' := [.int (0 : Int32)]) (σ' := (97, I, J, R)) rfl ?_
                      refine az_E.ret (v := some (.int (0 : Int32))) (σ' := (97, I, J, R)) rfl ?_
                      show az_E az_F ex 2 128 83 [.retAddr 0, .retAddr 0, .int v2, .retAddr 0, .int v4, .int v5, .ref 63, .ref 69] [.int (0 : Int32)] (97, I, J, R) _
                      refine az_E.br (c := (0 : Int32) = 0) (tt := 98) (ff := 86) (L' := [.retAddr 0, .retAddr 0, .int v2, .retAddr 0, .int v4, .int v5, .ref 63, .ref 69]) (S' := []) (σ' := (97, I, J, R)) rfl (fun _ => ?_) (fun hn => absurd (by decide) hn)
                      refine az_E.sn 1 (pc' := 100) (L' := [.retAddr 0, .retAddr 0, .int v2, .retAddr 0, .int v4, .int v5, .ref 63, .ref 69]) (S' := [.int (-13 : Int32)]) (σ' := (97, I, J, R)) rfl ?_
                      have h := Option.some.inj h
                      subst h
                      exact az_E.ret (v := some (.int (-13 : Int32))) (σ' := (97, I, J, R)) rfl hQ
                    · rw [if_neg hc_570] at h
                      refine az_E.sn 2 (pc' := 31) (L' := [.ref 63, .int v2, .int v5]) (S' := [.int (1 : Int32)]) (σ' := (97, I, J, R)) rfl ?_
                      refine az_E.ret (v := some (.int (1 : Int32))) (σ' := (97, I, J, R)) rfl ?_
                      show az_E az_F ex 2 128 83 [.retAddr 0, .retAddr 0, .int v2, .retAddr 0, .int v4, .int v5, .ref 63, .ref 69] [.int (1 : Int32)] (97, I, J, R) _
                      refine az_E.br (c := (1 : Int32) = 0) (tt := 98) (ff := 86) (L' := [.retAddr 0, .retAddr 0, .int v2, .retAddr 0, .int v4, .int v5, .ref 63, .ref 69]) (S' := []) (σ' := (97, I, J, R)) rfl (fun hn => absurd hn (by decide)) (fun _ => ?_)
                      refine az_E.sn 3 (pc' := 92) (L' := [.retAddr 0, .retAddr 0, .int v2, .retAddr 0, .int v4, .int v5, .ref 63, .ref 69]) (S' := [.int v5, .int v4, .ref 69]) (σ' := (97, I, J, R)) rfl ?_
                      refine az_E.call (d := 1) (k' := 60) (vs := [.ref 69, .int v4, .int v5]) (pc' := 95) (S' := []) rfl ?_ (fun _ _ hq => hq)
                      show az_E az_F ex 1 60 0 [.ref 69, .int v4, .int v5] [] (97, I, J, R) _
                      refine az_E.sn 1 (pc' := 1) (L' := [.ref 69, .int v4, .int v5]) (S' := [.int v4]) (σ' := (97, I, J, R)) rfl ?_
                      refine az_E.br (c := v4 < 0) (tt := 30) (ff := 4) (L' := [.ref 69, .int v4, .int v5]) (S' := []) (σ' := (97, I, J, R)) rfl (fun hc_571 => ?_) (fun hc_571 => ?_)
                      · rw [if_pos hc_571] at h
                        refine az_E.sn 1 (pc' := 31) (L' := [.ref 69, .int v4, .int v5]) (S' := [.int (0 : Int32)]) (σ' := (97, I, J, R)) rfl ?_
                        refine az_E.ret (v := some (.int (0 : Int32))) (σ' := (97, I, J, R)) rfl ?_
                        show az_E az_F ex 2 128 95 [.retAddr 0, .retAddr 0, .int v2, .retAddr 0, .int v4, .int v5, .ref 63, .ref 69] [.int (0 : Int32)] (97, I, J, R) _
                        refine az_E.br (c := (0 : Int32) = 0) (tt := 98) (ff := 101) (L' := [.retAddr 0, .retAddr 0, .int v2, .retAddr 0, .int v4, .int v5, .ref 63, .ref 69]) (S' := []) (σ' := (97, I, J, R)) rfl (fun _ => ?_) (fun hn => absurd (by decide) hn)
                        refine az_E.sn 1 (pc' := 100) (L' := [.retAddr 0, .retAddr 0, .int v2, .retAddr 0, .int v4, .int v5, .ref 63, .ref 69]) (S' := [.int (-13 : Int32)]) (σ' := (97, I, J, R)) rfl ?_
                        have h := Option.some.inj h
                        subst h
                        exact az_E.ret (v := some (.int (-13 : Int32))) (σ' := (97, I, J, R)) rfl hQ
                      · rw [if_neg hc_571] at h
                        refine az_E.sn 1 (pc' := 5) (L' := [.ref 69, .int v4, .int v5]) (S' := [.int v5]) (σ' := (97, I, J, R)) rfl ?_
                        refine az_E.br (c := v5 < 0) (tt := 30) (ff := 8) (L' := [.ref 69, .int v4, .int v5]) (S' := []) (σ' := (97, I, J, R)) rfl (fun hc_572 => ?_) (fun hc_572 => ?_)
                        · rw [if_pos hc_572] at h
                          refine az_E.sn 1 (pc' := 31) (L' := [.ref 69, .int v4, .int v5]) (S' := [.int (0 : Int32)]) (σ' := (97, I, J, R)) rfl ?_
                          refine az_E.ret (v := some (.int (0 : Int32))) (σ' := (97, I, J, R)) rfl ?_
                          show az_E az_F ex 2 128 95 [.retAddr 0, .retAddr 0, .int v2, .retAddr 0, .int v4, .int v5, .ref 63, .ref 69] [.int (0 : Int32)] (97, I, J, R) _
                          refine az_E.br (c := (0 : Int32) = 0) (tt := 98) (ff := 101) (L' := [.retAddr 0, .retAddr 0, .int v2, .retAddr 0, .int v4, .int v5, .ref 63, .ref 69]) (S' := []) (σ' := (97, I, J, R)) rfl (fun _ => ?_) (fun hn => absurd (by decide) hn)
                          refine az_E.sn 1 (pc' := 100) (L' := [.retAddr 0, .retAddr 0, .int v2, .retAddr 0, .int v4, .int v5, .ref 63, .ref 69]) (S' := [.int (-13 : Int32)]) (σ' := (97, I, J, R)) rfl ?_
                          have h := Option.some.inj h
                          subst h
                          exact az_E.ret (v := some (.int (-13 : Int32))) (σ' := (97, I, J, R)) rfl hQ
                        · rw [if_neg hc_572] at h
                          refine az_E.sn 3 (pc' := 13) (L' := [.ref 69, .int v4, .int v5]) (S' := [.int (I 69 2), .int v4]) (σ' := (97, I, J, R)) rfl ?_
                          refine az_E.br (c := (I 69 2) < v4) (tt := 30) (ff := 16) (L' := [.ref 69, .int v4, .int v5]) (S' := []) (σ' := (97, I, J, R)) rfl (fun hc_573 => ?_) (fun hc_573 => ?_)
                          · rw [if_pos hc_573] at h
                            refine az_E.sn 1 (pc' := 31) (L' := [.ref 69, .int v4, .int v5]) (S' := [.int (0 : Int32)]) (σ' := (97, I, J, R)) rfl ?_
                            refine az_E.ret (v := some (.int (0 : Int32))) (σ' := (97, I, J, R)) rfl ?_
                            show az_E az_F ex 2 128 95 [.retAddr 0, .retAddr 0, .int v2, .retAddr 0, .int v4, .int v5, .ref 63, .ref 69] [.int (0 : Int32)] (97, I, J, R) _
                            refine az_E.br (c := (0 : Int32) = 0) (tt := 98) (ff := 101) (L' := [.retAddr 0, .retAddr 0, .int v2, .retAddr 0, .int v4, .int v5, .ref 63, .ref 69]) (S' := []) (σ' := (97, I, J, R)) rfl (fun _ => ?_) (fun hn => absurd (by decide) hn)
                            refine az_E.sn 1 (pc' := 100) (L' := [.retAddr 0, .retAddr 0, .int v2, .retAddr 0, .int v4, .int v5, .ref 63, .ref 69]) (S' := [.int (-13 : Int32)]) (σ' := (97, I, J, R)) rfl ?_
                            have h := Option.some.inj h
                            subst h
                            exact az_E.ret (v := some (.int (-13 : Int32))) (σ' := (97, I, J, R)) rfl hQ
                          · rw [if_neg hc_573] at h
                            refine az_E.sn 5 (pc' := 23) (L' := [.ref 69, .int v4, .int v5]) (S' := [.int ((I 69 2) - v4), .int v5]) (σ' := (97, I, J, R)) rfl ?_
                            refine az_E.br (c := ((I 69 2) - v4) < v5) (tt := 30) (ff := 26) (L' := [.ref 69, .int v4, .int v5]) (S' := []) (σ' := (97, I, J, R)) rfl (fun hc_574 => ?_) (fun hc_574 => ?_)
                            · rw [if_pos hc_574] at h
                              refine az_E.sn 1 (pc' := 31) (L' := [.ref 69, .int v4, .int v5]) (S' := [.int (0 : Int32)]) (σ' := (97, I, J, R)) rfl ?_
                              refine az_E.ret (v := some (.int (0 : Int32))) (σ' := (97, I, J, R)) rfl ?_
                              show az_E az_F ex 2 128 95 [.retAddr 0, .retAddr 0, .int v2, .retAddr 0, .int v4, .int v5, .ref 63, .ref 69] [.int (0 : Int32)] (97, I, J, R) _
                              refine az_E.br (c := (0 : Int32) = 0) (tt := 98) (ff := 101) (L' := [.retAddr 0, .retAddr 0, .int v2, .retAddr 0, .int v4, .int v5, .ref 63, .ref 69]) (S' := []) (σ' := (97, I, J, R)) rfl (fun _ => ?_) (fun hn => absurd (by decide) hn)
                              refine az_E.sn 1 (pc' := 100) (L' := [.retAddr 0, .retAddr 0, .int v2, .retAddr 0, .int v4, .int v5, .ref 63, .ref 69]) (S' := [.int (-13 : Int32)]) (σ' := (97, I, J, R)) rfl ?_
                              have h := Option.some.inj h
                              subst h
                              exact az_E.ret (v := some (.int (-13 : Int32))) (σ' := (97, I, J, R)) rfl hQ
                            · rw [if_neg hc_574] at h
                              refine az_E.sn 2 (pc' := 31) (L' := [.ref 69, .int v4, .int v5]) (S' := [.int (1 : Int32)]) (σ' := (97, I, J, R)) rfl ?_
                              refine az_E.ret (v := some (.int (1 : Int32))) (σ' := (97, I, J, R)) rfl ?_
                              show az_E az_F ex 2 128 95 [.retAddr 0, .retAddr 0, .int v2, .retAddr 0, .int v4, .int v5, .ref 63, .ref 69] [.int (1 : Int32)] (97, I, J, R) _
                              refine az_E.br (c := (1 : Int32) = 0) (tt := 98) (ff := 101) (L' := [.retAddr 0, .retAddr 0, .int v2, .retAddr 0, .int v4, .int v5, .ref 63, .ref 69]) (S' := []) (σ' := (97, I, J, R)) rfl (fun hn => absurd hn (by decide)) (fun _ => ?_)
                              refine az_E.sn 7 (pc' := 116) (L' := [.retAddr 0, .retAddr 0, .int v2, .retAddr 0, .int v4, .int v5, .ref 63, .ref 69]) (S' := [.int v5, .int v4, .ref (69 + 1), .int v2, .ref (63 + 1)]) (σ' := (97, I, J, R)) rfl ?_
                              by_cases hc_575 : v2 < 0 ∨ v4 < 0 ∨ v5 < 0 ∨ 60 < v2.toNatClampNeg + v5.toNatClampNeg ∨ 60 < v4.toNatClampNeg + v5.toNatClampNeg
                              · rw [if_pos hc_575] at h; cases h
                              · rw [if_neg hc_575] at h
                                refine az_E.o (o := az_cp az_F (97, I, J, R) (63 + 1) v2 (69 + 1) v4 v5) (pc' := 119) (L' := [.retAddr 0, .retAddr 0, .int v2, .retAddr 0, .int v4, .int v5, .ref 63, .ref 69]) (S' := []) (x := (97, I, (az_ur J (69 + 1) (va_cpy (J (63 + 1)) (J (69 + 1)) v2.toNatClampNeg v4.toNatClampNeg v5.toNatClampNeg)), R)) rfl (if_neg hc_575) ?_
                                refine az_E.sn 1 (pc' := 121) (L' := [.retAddr 0, .retAddr 0, .int v2, .retAddr 0, .int v4, .int v5, .ref 63, .ref 69]) (S' := [.int v5]) (σ' := (97, I, (az_ur J (69 + 1) (va_cpy (J (63 + 1)) (J (69 + 1)) v2.toNatClampNeg v4.toNatClampNeg v5.toNatClampNeg)), R)) rfl ?_
                                have h := Option.some.inj h
                                subst h
                                exact az_E.ret (v := some (.int v5)) (σ' := (97, I, (az_ur J (69 + 1) (va_cpy (J (63 + 1)) (J (69 + 1)) v2.toNatClampNeg v4.toNatClampNeg v5.toNatClampNeg)), R)) rfl hQ
            · rw [if_neg hc_566] at h
              refine az_E.sn 1 (pc' := 20) (L' := [.ref 69, .int (I 63 1)]) (S' := [.int (0 : Int32)]) (σ' := (97, I, J, R)) rfl ?_
              refine az_E.ret (v := some (.int (0 : Int32))) (σ' := (97, I, J, R)) rfl ?_
              show az_E az_F ex 2 128 69 [.retAddr 0, .retAddr 0, .int v2, .retAddr 0, .int v4, .int v5, .ref 63, .ref 69] [.int (0 : Int32)] (97, I, J, R) _
              refine az_E.br (c := (0 : Int32) = 0) (tt := 72) (ff := 75) (L' := [.retAddr 0, .retAddr 0, .int v2, .retAddr 0, .int v4, .int v5, .ref 63, .ref 69]) (S' := []) (σ' := (97, I, J, R)) rfl (fun _ => ?_) (fun hn => absurd (by decide) hn)
              refine az_E.sn 1 (pc' := 74) (L' := [.retAddr 0, .retAddr 0, .int v2, .retAddr 0, .int v4, .int v5, .ref 63, .ref 69]) (S' := [.int (-12 : Int32)]) (σ' := (97, I, J, R)) rfl ?_
              have h := Option.some.inj h
              subst h
              exact az_E.ret (v := some (.int (-12 : Int32))) (σ' := (97, I, J, R)) rfl hQ
  · rw [if_neg hc_548] at h
    refine az_E.sn 1 (pc' := 21) (L' := [.ref 63]) (S' := [.int (0 : Int32)]) (σ' := (97, I, J, R)) rfl ?_
    refine az_E.ret (v := some (.int (0 : Int32))) (σ' := (97, I, J, R)) rfl ?_
    show az_E az_F ex 2 128 37 [.retAddr 0, .retAddr 0, .int v2, .retAddr 0, .int v4, .int v5, .ref 63, .ref 69] [.int (0 : Int32)] (97, I, J, R) _
    refine az_E.br (c := (0 : Int32) = 0) (tt := 40) (ff := 48) (L' := [.retAddr 0, .retAddr 0, .int v2, .retAddr 0, .int v4, .int v5, .ref 63, .ref 69]) (S' := []) (σ' := (97, I, J, R)) rfl (fun _ => ?_) (fun hn => absurd (by decide) hn)
    refine az_E.sn 1 (pc' := 42) (L' := [.retAddr 0, .retAddr 0, .int v2, .retAddr 0, .int v4, .int v5, .ref 63, .ref 69]) (S' := [.ref 69]) (σ' := (97, I, J, R)) rfl ?_
    refine az_E.call (d := 1) (k' := 54) (vs := [.ref 69]) (pc' := 45) (S' := []) rfl ?_ (fun _ _ hq => hq)
    show az_E az_F ex 1 54 0 [.ref 69] [] (97, I, J, R) _
    refine az_E.sn 3 (pc' := 5) (L' := [.ref 69]) (S' := [.int (-1 : Int32), .int (I 69 0)]) (σ' := (97, I, J, R)) rfl ?_
    refine az_E.br (c := (I 69 0) = (-1 : Int32)) (tt := 8) (ff := 20) (L' := [.ref 69]) (S' := []) (σ' := (97, I, J, R)) rfl (fun hc_576 => ?_) (fun hc_576 => ?_)
    · rw [if_pos hc_576] at h
      refine az_E.sn 3 (pc' := 13) (L' := [.ref 69]) (S' := [.int (-1 : Int32), .int (I 69 1)]) (σ' := (97, I, J, R)) rfl ?_
      refine az_E.br (c := (I 69 1) = (-1 : Int32)) (tt := 16) (ff := 20) (L' := [.ref 69]) (S' := []) (σ' := (97, I, J, R)) rfl (fun hc_577 => ?_) (fun hc_577 => ?_)
      · rw [if_pos hc_577] at h
        refine az_E.sn 2 (pc' := 21) (L' := [.ref 69]) (S' := [.int (1 : Int32)]) (σ' := (97, I, J, R)) rfl ?_
        refine az_E.ret (v := some (.int (1 : Int32))) (σ' := (97, I, J, R)) rfl ?_
        show az_E az_F ex 2 128 45 [.retAddr 0, .retAddr 0, .int v2, .retAddr 0, .int v4, .int v5, .ref 63, .ref 69] [.int (1 : Int32)] (97, I, J, R) _
        refine az_E.br (c := (1 : Int32) = 0) (tt := 51) (ff := 48) (L' := [.retAddr 0, .retAddr 0, .int v2, .retAddr 0, .int v4, .int v5, .ref 63, .ref 69]) (S' := []) (σ' := (97, I, J, R)) rfl (fun hn => absurd hn (by decide)) (fun _ => ?_)
        refine az_E.sn 1 (pc' := 50) (L' := [.retAddr 0, .retAddr 0, .int v2, .retAddr 0, .int v4, .int v5, .ref 63, .ref 69]) (S' := [.int (-11 : Int32)]) (σ' := (97, I, J, R)) rfl ?_
        have h := Option.some.inj h
        subst h
        exact az_E.ret (v := some (.int (-11 : Int32))) (σ' := (97, I, J, R)) rfl hQ
      · rw [if_neg hc_577] at h
        refine az_E.sn 1 (pc' := 21) (L' := [.ref 69]) (S' := [.int (0 : Int32)]) (σ' := (97, I, J, R)) rfl ?_
        refine az_E.ret (v := some (.int (0 : Int32))) (σ' := (97, I, J, R)) rfl ?_
        show az_E az_F ex 2 128 45 [.retAddr 0, .retAddr 0, .int v2, .retAddr 0, .int v4, .int v5, .ref 63, .ref 69] [.int (0 : Int32)] (97, I, J, R) _
        refine az_E.br (c := (0 : Int32) = 0) (tt := 51) (ff := 48) (L' := [.retAddr 0, .retAddr 0, .int v2, .retAddr 0, .int v4, .int v5, .ref 63, .ref 69]) (S' := []) (σ' := (97, I, J, R)) rfl (fun _ => ?_) (fun hn => absurd (by decide) hn)
        refine az_E.sn 1 (pc' := 53) (L' := [.retAddr 0, .retAddr 0, .int v2, .retAddr 0, .int v4, .int v5, .ref 63, .ref 69]) (S' := [.ref 63]) (σ' := (97, I, J, R)) rfl ?_
        refine az_E.call (d := 1) (k' := 55) (vs := [.ref 63]) (pc' := 56) (S' := []) rfl ?_ (fun _ _ hq => hq)
        show az_E az_F ex 1 55 0 [.ref 63] [] (97, I, J, R) _
        refine az_E.sn 3 (pc' := 5) (L' := [.ref 63]) (S' := [.int (-1 : Int32), .int (I 63 1)]) (σ' := (97, I, J, R)) rfl ?_
        refine az_E.br (c := (I 63 1) = (-1 : Int32)) (tt := 12) (ff := 8) (L' := [.ref 63]) (S' := []) (σ' := (97, I, J, R)) rfl (fun hc_578 => ?_) (fun hc_578 => ?_)
        · rw [if_pos hc_578] at h
          refine az_E.sn 1 (pc' := 13) (L' := [.ref 63]) (S' := [.int (0 : Int32)]) (σ' := (97, I, J, R)) rfl ?_
          refine az_E.ret (v := some (.int (0 : Int32))) (σ' := (97, I, J, R)) rfl ?_
          show az_E az_F ex 2 128 56 [.retAddr 0, .retAddr 0, .int v2, .retAddr 0, .int v4, .int v5, .ref 63, .ref 69] [.int (0 : Int32)] (97, I, J, R) _
          refine az_E.br (c := (0 : Int32) = 0) (tt := 72) (ff := 59) (L' := [.retAddr 0, .retAddr 0, .int v2, .retAddr 0, .int v4, .int v5, .ref 63, .ref 69]) (S' := []) (σ' := (97, I, J, R)) rfl (fun _ => ?_) (fun hn => absurd (by decide) hn)
          refine az_E.sn 1 (pc' := 74) (L' := [.retAddr 0, .retAddr 0, .int v2, .retAddr 0, .int v4, .int v5, .ref 63, .ref 69]) (S' := [.int (-12 : Int32)]) (σ' := (97, I, J, R)) rfl ?_
          have h := Option.some.inj h
          subst h
          exact az_E.ret (v := some (.int (-12 : Int32))) (σ' := (97, I, J, R)) rfl hQ
        · rw [if_neg hc_578] at h
          refine az_E.sn 2 (pc' := 13) (L' := [.ref 63]) (S' := [.int (1 : Int32)]) (σ' := (97, I, J, R)) rfl ?_
          refine az_E.ret (v := some (.int (1 : Int32))) (σ' := (97, I, J, R)) rfl ?_
          show az_E az_F ex 2 128 56 [.retAddr 0, .retAddr 0, .int v2, .retAddr 0, .int v4, .int v5, .ref 63, .ref 69] [.int (1 : Int32)] (97, I, J, R) _
          refine az_E.br (c := (1 : Int32) = 0) (tt := 72) (ff := 59) (L' := [.retAddr 0, .retAddr 0, .int v2, .retAddr 0, .int v4, .int v5, .ref 63, .ref 69]) (S' := []) (σ' := (97, I, J, R)) rfl (fun hn => absurd hn (by decide)) (fun _ => ?_)
          refine az_E.sn 3 (pc' := 66) (L' := [.retAddr 0, .retAddr 0, .int v2, .retAddr 0, .int v4, .int v5, .ref 63, .ref 69]) (S' := [.int (I 63 1), .ref 69]) (σ' := (97, I, J, R)) rfl ?_
          refine az_E.call (d := 1) (k' := 56) (vs := [.ref 69, .int (I 63 1)]) (pc' := 69) (S' := []) rfl ?_ (fun _ _ hq => hq)
          show az_E az_F ex 1 56 0 [.ref 69, .int (I 63 1)] [] (97, I, J, R) _
          refine az_E.sn 1 (pc' := 1) (L' := [.ref 69, .int (I 63 1)]) (S' := [.ref 69]) (σ' := (97, I, J, R)) rfl ?_
          refine az_E.call (d := 0) (k' := 55) (vs := [.ref 69]) (pc' := 4) (S' := []) rfl ?_ (fun _ _ hq => hq)
          show az_E az_F ex 0 55 0 [.ref 69] [] (97, I, J, R) _
          refine az_E.sn 3 (pc' := 5) (L' := [.ref 69]) (S' := [.int (-1 : Int32), .int (I 69 1)]) (σ' := (97, I, J, R)) rfl ?_
          refine az_E.br (c := (I 69 1) = (-1 : Int32)) (tt := 12) (ff := 8) (L' := [.ref 69]) (S' := []) (σ' := (97, I, J, R)) rfl (fun hc_579 => ?_) (fun hc_579 => ?_)
          · rw [if_pos hc_579] at h
            refine az_E.sn 1 (pc' := 13) (L' := [.ref 69]) (S' := [.int (0 : Int32)]) (σ' := (97, I, J, R)) rfl ?_
            refine az_E.ret (v := some (.int (0 : Int32))) (σ' := (97, I, J, R)) rfl ?_
            show az_E az_F ex 1 56 4 [.ref 69, .int (I 63 1)] [.int (0 : Int32)] (97, I, J, R) _
            refine az_E.br (c := (0 : Int32) = 0) (tt := 19) (ff := 7) (L' := [.ref 69, .int (I 63 1)]) (S' := []) (σ' := (97, I, J, R)) rfl (fun _ => ?_) (fun hn => absurd (by decide) hn)
            refine az_E.sn 1 (pc' := 20) (L' := [.ref 69, .int (I 63 1)]) (S' := [.int (0 : Int32)]) (σ' := (97, I, J, R)) rfl ?_
            refine az_E.ret (v := some (.int (0 : Int32))) (σ' := (97, I, J, R)) rfl ?_
            show az_E az_F ex 2 128 69 [.retAddr 0, .retAddr 0, .int v2, .retAddr 0, .int v4, .int v5, .ref 63, .ref 69] [.int (0 : Int32)] (97, I, J, R) _
            refine az_E.br (c := (0 : Int32) = 0) (tt := 72) (ff := 75) (L' := [.retAddr 0, .retAddr 0, .int v2, .retAddr 0, .int v4, .int v5, .ref 63, .ref 69]) (S' := []) (σ' := (97, I, J, R)) rfl (fun _ => ?_) (fun hn => absurd (by decide) hn)
            refine az_E.sn 1 (pc' := 74) (L' := [.retAddr 0, .retAddr 0, .int v2, .retAddr 0, .int v4, .int v5, .ref 63, .ref 69]) (S' := [.int (-12 : Int32)]) (σ' := (97, I, J, R)) rfl ?_
            have h := Option.some.inj h
            subst h
            exact az_E.ret (v := some (.int (-12 : Int32))) (σ' := (97, I, J, R)) rfl hQ
          · rw [if_neg hc_579] at h
            refine az_E.sn 2 (pc' := 13) (L' := [.ref 69]) (S' := [.int (1 : Int32)]) (σ' := (97, I, J, R)) rfl ?_
            refine az_E.ret (v := some (.int (1 : Int32))) (σ' := (97, I, J, R)) rfl ?_
            show az_E az_F ex 1 56 4 [.ref 69, .int (I 63 1)] [.int (1 : Int32)] (97, I, J, R) _
            refine az_E.br (c := (1 : Int32) = 0) (tt := 19) (ff := 7) (L' := [.ref 69, .int (I 63 1)]) (S' := []) (σ' := (97, I, J, R)) rfl (fun hn => absurd hn (by decide)) (fun _ => ?_)
            refine az_E.sn 3 (pc' := 12) (L' := [.ref 69, .int (I 63 1)]) (S' := [.int (I 63 1), .int (I 69 1)]) (σ' := (97, I, J, R)) rfl ?_
            refine az_E.br (c := (I 69 1) = (I 63 1)) (tt := 15) (ff := 19) (L' := [.ref 69, .int (I 63 1)]) (S' := []) (σ' := (97, I, J, R)) rfl (fun hc_580 => ?_) (fun hc_580 => ?_)
            · rw [if_pos hc_580] at h
              refine az_E.sn 2 (pc' := 20) (L' := [.ref 69, .int (I 63 1)]) (S' := [.int (1 : Int32)]) (σ' := (97, I, J, R)) rfl ?_
              refine az_E.ret (v := some (.int (1 : Int32))) (σ' := (97, I, J, R)) rfl ?_
              show az_E az_F ex 2 128 69 [.retAddr 0, .retAddr 0, .int v2, .retAddr 0, .int v4, .int v5, .ref 63, .ref 69] [.int (1 : Int32)] (97, I, J, R) _
              refine az_E.br (c := (1 : Int32) = 0) (tt := 72) (ff := 75) (L' := [.retAddr 0, .retAddr 0, .int v2, .retAddr 0, .int v4, .int v5, .ref 63, .ref 69]) (S' := []) (σ' := (97, I, J, R)) rfl (fun hn => absurd hn (by decide)) (fun _ => ?_)
              refine az_E.sn 3 (pc' := 80) (L' := [.retAddr 0, .retAddr 0, .int v2, .retAddr 0, .int v4, .int v5, .ref 63, .ref 69]) (S' := [.int v5, .int v2, .ref 63]) (σ' := (97, I, J, R)) rfl ?_
              refine az_E.call (d := 1) (k' := 60) (vs := [.ref 63, .int v2, .int v5]) (pc' := 83) (S' := []) rfl ?_ (fun _ _ hq => hq)
              show az_E az_F ex 1 60 0 [.ref 63, .int v2, .int v5] [] (97, I, J, R) _
              refine az_E.sn 1 (pc' := 1) (L' := [.ref 63, .int v2, .int v5]) (S' := [.int v2]) (σ' := (97, I, J, R)) rfl ?_
              refine az_E.br (c := v2 < 0) (tt := 30) (ff := 4) (L' := [.ref 63, .int v2, .int v5]) (S' := []) (σ' := (97, I, J, R)) rfl (fun hc_581 => ?_) (fun hc_581 => ?_)
              · rw [if_pos hc_581] at h
                refine az_E.sn 1 (pc' := 31) (L' := [.ref 63, .int v2, .int v5]) (S' := [.int (0 : Int32)]) (σ' := (97, I, J, R)) rfl ?_
                refine az_E.ret (v := some (.int (0 : Int32))) (σ' := (97, I, J, R)) rfl ?_
                show az_E az_F ex 2 128 83 [.retAddr 0, .retAddr 0, .int v2, .retAddr 0, .int v4, .int v5, .ref 63, .ref 69] [.int (0 : Int32)] (97, I, J, R) _
                refine az_E.br (c := (0 : Int32) = 0) (tt := 98) (ff := 86) (L' := [.retAddr 0, .retAddr 0, .int v2, .retAddr 0, .int v4, .int v5, .ref 63, .ref 69]) (S' := []) (σ' := (97, I, J, R)) rfl (fun _ => ?_) (fun hn => absurd (by decide) hn)
                refine az_E.sn 1 (pc' := 100) (L' := [.retAddr 0, .retAddr 0, .int v2, .retAddr 0, .int v4, .int v5, .ref 63, .ref 69]) (S' := [.int (-13 : Int32)]) (σ' := (97, I, J, R)) rfl ?_
                have h := Option.some.inj h
                subst h
                exact az_E.ret (v := some (.int (-13 : Int32))) (σ' := (97, I, J, R)) rfl hQ
              · rw [if_neg hc_581] at h
                refine az_E.sn 1 (pc' := 5) (L' := [.ref 63, .int v2, .int v5]) (S' := [.int v5]) (σ' := (97, I, J, R)) rfl ?_
                refine az_E.br (c := v5 < 0) (tt := 30) (ff := 8) (L' := [.ref 63, .int v2, .int v5]) (S' := []) (σ' := (97, I, J, R)) rfl (fun hc_582 => ?_) (fun hc_582 => ?_)
                · rw [if_pos hc_582] at h
                  refine az_E.sn 1 (pc' := 31) (L' := [.ref 63, .int v2, .int v5]) (S' := [.int (0 : Int32)]) (σ' := (97, I, J, R)) rfl ?_
                  refine az_E.ret (v := some (.int (0 : Int32))) (σ' := (97, I, J, R)) rfl ?_
                  show az_E az_F ex 2 128 83 [.retAddr 0, .retAddr 0, .int v2, .retAddr 0, .int v4, .int v5, .ref 63, .ref 69] [.int (0 : Int32)] (97, I, J, R) _
                  refine az_E.br (c := (0 : Int32) = 0) (tt := 98) (ff := 86) (L' := [.retAddr 0, .retAddr 0, .int v2, .retAddr 0, .int v4, .int v5, .ref 63, .ref 69]) (S' := []) (σ' := (97, I, J, R)) rfl (fun _ => ?_) (fun hn => absurd (by decide) hn)
                  refine az_E.sn 1 (pc' := 100) (L' := [.retAddr 0, .retAddr 0, .int v2, .retAddr 0, .int v4, .int v5, .ref 63, .ref 69]) (S' := [.int (-13 : Int32)]) (σ' := (97, I, J, R)) rfl ?_
                  have h := Option.some.inj h
                  subst h
                  exact az_E.ret (v := some (.int (-13 : Int32))) (σ' := (97, I, J, R)) rfl hQ
                · rw [if_neg hc_582] at h
                  refine az_E.sn 3 (pc' := 13) (L' := [.ref 63, .int v2, .int v5]) (S' := [.int (I 63 2), .int v2]) (σ' := (97, I, J, R)) rfl ?_
                  refine az_E.br (c := (I 63 2) < v2) (tt := 30) (ff := 16) (L' := [.ref 63, .int v2, .int v5]) (S' := []) (σ' := (97, I, J, R)) rfl (fun hc_583 => ?_) (fun hc_583 => ?_)
                  · rw [if_pos hc_583] at h
                    refine az_E.sn 1 (pc' := 31) (L' := [.ref 63, .int v2, .int v5]) (S' := [.int (0 : Int32)]) (σ' := (97, I, J, R)) rfl ?_
                    refine az_E.ret (v := some (.int (0 : Int32))) (σ' := (97, I, J, R)) rfl ?_
                    show az_E az_F ex 2 128 83 [.retAddr 0, .retAddr 0, .int v2, .retAddr 0, .int v4, .int v5, .ref 63, .ref 69] [.int (0 : Int32)] (97, I, J, R) _
                    refine az_E.br (c := (0 : Int32) = 0) (tt := 98) (ff := 86) (L' := [.retAddr 0, .retAddr 0, .int v2, .retAddr 0, .int v4, .int v5, .ref 63, .ref 69]) (S' := []) (σ' := (97, I, J, R)) rfl (fun _ => ?_) (fun hn => absurd (by decide) hn)
                    refine az_E.sn 1 (pc' := 100) (L' := [.retAddr 0, .retAddr 0, .int v2, .retAddr 0, .int v4, .int v5, .ref 63, .ref 69]) (S' := [.int (-13 : Int32)]) (σ' := (97, I, J, R)) rfl ?_
                    have h := Option.some.inj h
                    subst h
                    exact az_E.ret (v := some (.int (-13 : Int32))) (σ' := (97, I, J, R)) rfl hQ
                  · rw [if_neg hc_583] at h
                    refine az_E.sn 5 (pc' := 23) (L' := [.ref 63, .int v2, .int v5]) (S' := [.int ((I 63 2) - v2), .int v5]) (σ' := (97, I, J, R)) rfl ?_
                    refine az_E.br (c := ((I 63 2) - v2) < v5) (tt := 30) (ff := 26) (L' := [.ref 63, .int v2, .int v5]) (S' := []) (σ' := (97, I, J, R)) rfl (fun hc_584 => ?_) (fun hc_584 => ?_)
                    · rw [if_pos hc_584] at h
                      refine az_E.sn 1 (pc' := 31) (L' := [.ref 63, .int v2, .int v5]) (S' := [.int (0 : Int32)]) (σ' := (97, I, J, R)) rfl ?_
                      refine az_E.ret (v := some (.int (0 : Int32))) (σ' := (97, I, J, R)) rfl ?_
                      show az_E az_F ex 2 128 83 [.retAddr 0, .retAddr 0, .int v2, .retAddr 0, .int v4, .int v5, .ref 63, .ref 69] [.int (0 : Int32)] (97, I, J, R) _
                      refine az_E.br (c := (0 : Int32) = 0) (tt := 98) (ff := 86) (L' := [.retAddr 0, .retAddr 0, .int v2, .retAddr 0, .int v4, .int v5, .ref 63, .ref 69]) (S' := []) (σ' := (97, I, J, R)) rfl (fun _ => ?_) (fun hn => absurd (by decide) hn)
                      refine az_E.sn 1 (pc' := 100) (L' := [.retAddr 0, .retAddr 0, .int v2, .retAddr 0, .int v4, .int v5, .ref 63, .ref 69]) (S' := [.int (-13 : Int32)]) (σ' := (97, I, J, R)) rfl ?_
                      have h := Option.some.inj h
                      subst h
                      exact az_E.ret (v := some (.int (-13 : Int32))) (σ' := (97, I, J, R)) rfl hQ
                    · rw [if_neg hc_584] at h
                      refine az_E.sn 2 (pc' := 31) (L' := [.ref 63, .int v2, .int v5]) (S' := [.int (1 : Int32)]) (σ' := (97, I, J, R)) rfl ?_
                      refine az_E.ret (v := some (.int (1 : Int32))) (σ' := (97, I, J, R)) rfl ?_
                      show az_E az_F ex 2 128 83 [.retAddr 0, .retAddr 0, .int v2, .retAddr 0, .int v4, .int v5, .ref 63, .ref 69] [.int (1 : Int32)] (97, I, J, R) _
                      refine az_E.br (c := (1 : Int32) = 0) (tt := 98) (ff := 86) (L' := [.retAddr 0, .retAddr 0, .int v2, .retAddr 0, .int v4, .int v5, .ref 63, .ref 69]) (S' := []) (σ' := (97, I, J, R)) rfl (fun hn => absurd hn (by decide)) (fun _ => ?_)
                      refine az_E.sn 3 (pc' := 92) (L' := [.retAddr 0, .retAddr 0, .int v2, .retAddr 0, .int v4, .int v5, .ref 63, .ref 69]) (S' := [.int v5, .int v4, .ref 69]) (σ' := (97, I, J, R)) rfl ?_
                      refine az_E.call (d := 1) (k' := 60) (vs := [.ref 69, .int v4, .int v5]) (pc' := 95) (S' := []) rfl ?_ (fun _ _ hq => hq)
                      show az_E az_F ex 1 60 0 [.ref 69, .int v4, .int v5] [] (97, I, J, R) _
                      refine az_E.sn 1 (pc' := 1) (L' := [.ref 69, .int v4, .int v5]) (S' := [.int v4]) (σ' := (97, I, J, R)) rfl ?_
                      refine az_E.br (c := v4 < 0) (tt := 30) (ff := 4) (L' := [.ref 69, .int v4, .int v5]) (S' := []) (σ' := (97, I, J, R)) rfl (fun hc_585 => ?_) (fun hc_585 => ?_)
                      · rw [if_pos hc_585] at h
                        refine az_E.sn 1 (pc' := 31) (L' := [.ref 69, .int v4, .int v5]) (S' := [.int (0 : Int32)]) (σ' := (97, I, J, R)) rfl ?_
                        refine az_E.ret (v := some (.int (0 : Int32))) (σ' := (97, I, J, R)) rfl ?_
                        show az_E az_F ex 2 128 95 [.retAddr 0, .retAddr 0, .int v2, .retAddr 0, .int v4, .int v5, .ref 63, .ref 69] [.int (0 : Int32)] (97, I, J, R) _
                        refine az_E.br (c := (0 : Int32) = 0) (tt := 98) (ff := 101) (L' := [.retAddr 0, .retAddr 0, .int v2, .retAddr 0, .int v4, .int v5, .ref 63, .ref 69]) (S' := []) (σ' := (97, I, J, R)) rfl (fun _ => ?_) (fun hn => absurd (by decide) hn)
                        refine az_E.sn 1 (pc' := 100) (L' := [.retAddr 0, .retAddr 0, .int v2, .retAddr 0, .int v4, .int v5, .ref 63, .ref 69]) (S' := [.int (-13 : Int32)]) (σ' := (97, I, J, R)) rfl ?_
                        have h := Option.some.inj h
                        subst h
                        exact az_E.ret (v := some (.int (-13 : Int32))) (σ' := (97, I, J, R)) rfl hQ
                      · rw [if_neg hc_585] at h
                        refine az_E.sn 1 (pc' := 5) (L' := [.ref 69, .int v4, .int v5]) (S' := [.int v5]) (σ' := (97, I, J, R)) rfl ?_
                        refine az_E.br (c := v5 < 0) (tt := 30) (ff := 8) (L' := [.ref 69, .int v4, .int v5]) (S' := []) (σ' := (97, I, J, R)) rfl (fun hc_586 => ?_) (fun hc_586 => ?_)
                        · rw [if_pos hc_586] at h
                          refine az_E.sn 1 (pc' := 31) (L' := [.ref 69, .int v4, .int v5]) (S' := [.int (0 : Int32)]) (σ' := (97, I, J, R)) rfl ?_
                          refine az_E.ret (v := some (.int (0 : Int32))) (σ' := (97, I, J, R)) rfl ?_
                          show az_E az_F ex 2 128 95 [.retAddr 0, .retAddr 0, .int v2, .retAddr 0, .int v4, .int v5, .ref 63, .ref 69] [.int (0 : Int32)] (97, I, J, R) _
                          refine az_E.br (c := (0 : Int32) = 0) (tt := 98) (ff := 101) (L' := [.retAddr 0, .retAddr 0, .int v2, .retAddr 0, .int v4, .int v5, .ref 63, .ref 69]) (S' := []) (σ' := (97, I, J, R)) rfl (fun _ => ?_) (fun hn => absurd (by decide) hn)
                          refine az_E.sn 1 (pc' := 100) (L' := [.retAddr 0, .retAddr 0, .int v2, .retAddr 0, .int v4, .int v5, .ref 63, .ref 69]) (S' := [.int (-13 : Int32)]) (σ' := (97, I, J, R)) rfl ?_
                          have h := Option.some.inj h
                          subst h
                          exact az_E.ret (v := some (.int (-13 : Int32))) (σ' := (97, I, J, R)) rfl hQ
                        · rw [if_neg hc_586] at h
                          refine az_E.sn 3 (pc' := 13) (L' := [.ref 69, .int v4, .int v5]) (S' := [.int (I 69 2), .int v4]) (σ' := (97, I, J, R)) rfl ?_
                          refine az_E.br (c := (I 69 2) < v4) (tt := 30) (ff := 16) (L' := [.ref 69, .int v4, .int v5]) (S' := []) (σ' := (97, I, J, R)) rfl (fun hc_587 => ?_) (fun hc_587 => ?_)
                          · rw [if_pos hc_587] at h
                            refine az_E.sn 1 (pc' := 31) (L' := [.ref 69, .int v4, .int v5]) (S' := [.int (0 : Int32)]) (σ' := (97, I, J, R)) rfl ?_
                            refine az_E.ret (v := some (.int (0 : Int32))) (σ' := (97, I, J, R)) rfl ?_
                            show az_E az_F ex 2 128 95 [.retAddr 0, .retAddr 0, .int v2, .retAddr 0, .int v4, .int v5, .ref 63, .ref 69] [.int (0 : Int32)] (97, I, J, R) _
                            refine az_E.br (c := (0 : Int32) = 0) (tt := 98) (ff := 101) (L' := [.retAddr 0, .retAddr 0, .int v2, .retAddr 0, .int v4, .int v5, .ref 63, .ref 69]) (S' := []) (σ' := (97, I, J, R)) rfl (fun _ => ?_) (fun hn => absurd (by decide) hn)
                            refine az_E.sn 1 (pc' := 100) (L' := [.retAddr 0, .retAddr 0, .int v2, .retAddr 0, .int v4, .int v5, .ref 63, .ref 69]) (S' := [.int (-13 : Int32)]) (σ' := (97, I, J, R)) rfl ?_
                            have h := Option.some.inj h
                            subst h
                            exact az_E.ret (v := some (.int (-13 : Int32))) (σ' := (97, I, J, R)) rfl hQ
                          · rw [if_neg hc_587] at h
                            refine az_E.sn 5 (pc' := 23) (L' := [.ref 69, .int v4, .int v5]) (S' := [.int ((I 69 2) - v4), .int v5]) (σ' := (97, I, J, R)) rfl ?_
                            refine az_E.br (c := ((I 69 2) - v4) < v5) (tt := 30) (ff := 26) (L' := [.ref 69, .int v4, .int v5]) (S' := []) (σ' := (97, I, J, R)) rfl (fun hc_588 => ?_) (fun hc_588 => ?_)
                            · rw [if_pos hc_588] at h
                              refine az_E.sn 1 (pc' := 31) (L' := [.ref 69, .int v4, .int v5]) (S' := [.int (0 : Int32)]) (σ' := (97, I, J, R)) rfl ?_
                              refine az_E.ret (v := some (.int (0 : Int32))) (σ' := (97, I, J, R)) rfl ?_
                              show az_E az_F ex 2 128 95 [.retAddr 0, .retAddr 0, .int v2, .retAddr 0, .int v4, .int v5, .ref 63, .ref 69] [.int (0 : Int32)] (97, I, J, R) _
                              refine az_E.br (c := (0 : Int32) = 0) (tt := 98) (ff := 101) (L' := [.retAddr 0, .retAddr 0, .int v2, .retAddr 0, .int v4, .int v5, .ref 63, .ref 69]) (S' := []) (σ' := (97, I, J, R)) rfl (fun _ => ?_) (fun hn => absurd (by decide) hn)
                              refine az_E.sn 1 (pc' := 100) (L' := [.retAddr 0, .retAddr 0, .int v2, .retAddr 0, .int v4, .int v5, .ref 63, .ref 69]) (S' := [.int (-13 : Int32)]) (σ' := (97, I, J, R)) rfl ?_
                              have h := Option.some.inj h
                              subst h
                              exact az_E.ret (v := some (.int (-13 : Int32))) (σ' := (97, I, J, R)) rfl hQ
                            · rw [if_neg hc_588] at h
                              refine az_E.sn 2 (pc' := 31) (L' := [.ref 69, .int v4, .int v5]) (S' := [.int (1 : Int32)]) (σ' := (97, I, J, R)) rfl ?_
                              refine az_E.ret (v := some (.int (1 : Int32))) (σ' := (97, I, J, R)) rfl ?_
                              show az_E az_F ex 2 128 95 [.retAddr 0, .retAddr 0, .int v2, .retAddr 0, .int v4, .int v5, .ref 63, .ref 69] [.int (1 : Int32)] (97, I, J, R) _
                              refine az_E.br (c := (1 : Int32) = 0) (tt := 98) (ff := 101) (L' := [.retAddr 0, .retAddr 0, .int v2, .retAddr 0, .int v4, .int v5, .ref 63, .ref 69]) (S' := []) (σ' := (97, I, J, R)) rfl (fun hn => absurd hn (by decide)) (fun _ => ?_)
                              refine az_E.sn 7 (pc' := 116) (L' := [.retAddr 0, .retAddr 0, .int v2, .retAddr 0, .int v4, .int v5, .ref 63, .ref 69]) (S' := [.int v5, .int v4, .ref (69 + 1), .int v2, .ref (63 + 1)]) (σ' := (97, I, J, R)) rfl ?_
                              by_cases hc_589 : v2 < 0 ∨ v4 < 0 ∨ v5 < 0 ∨ 60 < v2.toNatClampNeg + v5.toNatClampNeg ∨ 60 < v4.toNatClampNeg + v5.toNatClampNeg
                              · rw [if_pos hc_589] at h; cases h
                              · rw [if_neg hc_589] at h
                                refine az_E.o (o := az_cp az_F (97, I, J, R) (63 + 1) v2 (69 + 1) v4 v5) (pc' := 119) (L' := [.retAddr 0, .retAddr 0, .int v2, .retAddr 0, .int v4, .int v5, .ref 63, .ref 69]) (S' := []) (x := (97, I, (az_ur J (69 + 1) (va_cpy (J (63 + 1)) (J (69 + 1)) v2.toNatClampNeg v4.toNatClampNeg v5.toNatClampNeg)), R)) rfl (if_neg hc_589) ?_
                                refine az_E.sn 1 (pc' := 121) (L' := [.retAddr 0, .retAddr 0, .int v2, .retAddr 0, .int v4, .int v5, .ref 63, .ref 69]) (S' := [.int v5]) (σ' := (97, I, (az_ur J (69 + 1) (va_cpy (J (63 + 1)) (J (69 + 1)) v2.toNatClampNeg v4.toNatClampNeg v5.toNatClampNeg)), R)) rfl ?_
                                have h := Option.some.inj h
                                subst h
                                exact az_E.ret (v := some (.int v5)) (σ' := (97, I, (az_ur J (69 + 1) (va_cpy (J (63 + 1)) (J (69 + 1)) v2.toNatClampNeg v4.toNatClampNeg v5.toNatClampNeg)), R)) rfl hQ
            · rw [if_neg hc_580] at h
              refine az_E.sn 1 (pc' := 20) (L' := [.ref 69, .int (I 63 1)]) (S' := [.int (0 : Int32)]) (σ' := (97, I, J, R)) rfl ?_
              refine az_E.ret (v := some (.int (0 : Int32))) (σ' := (97, I, J, R)) rfl ?_
              show az_E az_F ex 2 128 69 [.retAddr 0, .retAddr 0, .int v2, .retAddr 0, .int v4, .int v5, .ref 63, .ref 69] [.int (0 : Int32)] (97, I, J, R) _
              refine az_E.br (c := (0 : Int32) = 0) (tt := 72) (ff := 75) (L' := [.retAddr 0, .retAddr 0, .int v2, .retAddr 0, .int v4, .int v5, .ref 63, .ref 69]) (S' := []) (σ' := (97, I, J, R)) rfl (fun _ => ?_) (fun hn => absurd (by decide) hn)
              refine az_E.sn 1 (pc' := 74) (L' := [.retAddr 0, .retAddr 0, .int v2, .retAddr 0, .int v4, .int v5, .ref 63, .ref 69]) (S' := [.int (-12 : Int32)]) (σ' := (97, I, J, R)) rfl ?_
              have h := Option.some.inj h
              subst h
              exact az_E.ret (v := some (.int (-12 : Int32))) (σ' := (97, I, J, R)) rfl hQ
    · rw [if_neg hc_576] at h
      refine az_E.sn 1 (pc' := 21) (L' := [.ref 69]) (S' := [.int (0 : Int32)]) (σ' := (97, I, J, R)) rfl ?_
      refine az_E.ret (v := some (.int (0 : Int32))) (σ' := (97, I, J, R)) rfl ?_
      show az_E az_F ex 2 128 45 [.retAddr 0, .retAddr 0, .int v2, .retAddr 0, .int v4, .int v5, .ref 63, .ref 69] [.int (0 : Int32)] (97, I, J, R) _
      refine az_E.br (c := (0 : Int32) = 0) (tt := 51) (ff := 48) (L' := [.retAddr 0, .retAddr 0, .int v2, .retAddr 0, .int v4, .int v5, .ref 63, .ref 69]) (S' := []) (σ' := (97, I, J, R)) rfl (fun _ => ?_) (fun hn => absurd (by decide) hn)
      refine az_E.sn 1 (pc' := 53) (L' := [.retAddr 0, .retAddr 0, .int v2, .retAddr 0, .int v4, .int v5, .ref 63, .ref 69]) (S' := [.ref 63]) (σ' := (97, I, J, R)) rfl ?_
      refine az_E.call (d := 1) (k' := 55) (vs := [.ref 63]) (pc' := 56) (S' := []) rfl ?_ (fun _ _ hq => hq)
      show az_E az_F ex 1 55 0 [.ref 63] [] (97, I, J, R) _
      refine az_E.sn 3 (pc' := 5) (L' := [.ref 63]) (S' := [.int (-1 : Int32), .int (I 63 1)]) (σ' := (97, I, J, R)) rfl ?_
      refine az_E.br (c := (I 63 1) = (-1 : Int32)) (tt := 12) (ff := 8) (L' := [.ref 63]) (S' := []) (σ' := (97, I, J, R)) rfl (fun hc_590 => ?_) (fun hc_590 => ?_)
      · rw [if_pos hc_590] at h
        refine az_E.sn 1 (pc' := 13) (L' := [.ref 63]) (S' := [.int (0 : Int32)]) (σ' := (97, I, J, R)) rfl ?_
        refine az_E.ret (v := some (.int (0 : Int32))) (σ' := (97, I, J, R)) rfl ?_
        show az_E az_F ex 2 128 56 [.retAddr 0, .retAddr 0, .int v2, .retAddr 0, .int v4, .int v5, .ref 63, .ref 69] [.int (0 : Int32)] (97, I, J, R) _
        refine az_E.br (c := (0 : Int32) = 0) (tt := 72) (ff := 59) (L' := [.retAddr 0, .retAddr 0, .int v2, .retAddr 0, .int v4, .int v5, .ref 63, .ref 69]) (S' := []) (σ' := (97, I, J, R)) rfl (fun _ => ?_) (fun hn => absurd (by decide) hn)
        refine az_E.sn 1 (pc' := 74) (L' := [.retAddr 0, .retAddr 0, .int v2, .retAddr 0, .int v4, .int v5, .ref 63, .ref 69]) (S' := [.int (-12 : Int32)]) (σ' := (97, I, J, R)) rfl ?_
        have h := Option.some.inj h
        subst h
        exact az_E.ret (v := some (.int (-12 : Int32))) (σ' := (97, I, J, R)) rfl hQ
      · rw [if_neg hc_590] at h
        refine az_E.sn 2 (pc' := 13) (L' := [.ref 63]) (S' := [.int (1 : Int32)]) (σ' := (97, I, J, R)) rfl ?_
        refine az_E.ret (v := some (.int (1 : Int32))) (σ' := (97, I, J, R)) rfl ?_
        show az_E az_F ex 2 128 56 [.retAddr 0, .retAddr 0, .int v2, .retAddr 0, .int v4, .int v5, .ref 63, .ref 69] [.int (1 : Int32)] (97, I, J, R) _
        refine az_E.br (c := (1 : Int32) = 0) (tt := 72) (ff := 59) (L' := [.retAddr 0, .retAddr 0, .int v2, .retAddr 0, .int v4, .int v5, .ref 63, .ref 69]) (S' := []) (σ' := (97, I, J, R)) rfl (fun hn => absurd hn (by decide)) (fun _ => ?_)
        refine az_E.sn 3 (pc' := 66) (L' := [.retAddr 0, .retAddr 0, .int v2, .retAddr 0, .int v4, .int v5, .ref 63, .ref 69]) (S' := [.int (I 63 1), .ref 69]) (σ' := (97, I, J, R)) rfl ?_
        refine az_E.call (d := 1) (k' := 56) (vs := [.ref 69, .int (I 63 1)]) (pc' := 69) (S' := []) rfl ?_ (fun _ _ hq => hq)
        show az_E az_F ex 1 56 0 [.ref 69, .int (I 63 1)] [] (97, I, J, R) _
        refine az_E.sn 1 (pc' := 1) (L' := [.ref 69, .int (I 63 1)]) (S' := [.ref 69]) (σ' := (97, I, J, R)) rfl ?_
        refine az_E.call (d := 0) (k' := 55) (vs := [.ref 69]) (pc' := 4) (S' := []) rfl ?_ (fun _ _ hq => hq)
        show az_E az_F ex 0 55 0 [.ref 69] [] (97, I, J, R) _
        refine az_E.sn 3 (pc' := 5) (L' := [.ref 69]) (S' := [.int (-1 : Int32), .int (I 69 1)]) (σ' := (97, I, J, R)) rfl ?_
        refine az_E.br (c := (I 69 1) = (-1 : Int32)) (tt := 12) (ff := 8) (L' := [.ref 69]) (S' := []) (σ' := (97, I, J, R)) rfl (fun hc_591 => ?_) (fun hc_591 => ?_)
        · rw [if_pos hc_591] at h
          refine az_E.sn 1 (pc' := 13) (L' := [.ref 69]) (S' := [.int (0 : Int32)]) (σ' := (97, I, J, R)) rfl ?_
          refine az_E.ret (v := some (.int (0 : Int32))) (σ' := (97, I, J, R)) rfl ?_
          show az_E az_F ex 1 56 4 [.ref 69, .int (I 63 1)] [.int (0 : Int32)] (97, I, J, R) _
          refine az_E.br (c := (0 : Int32) = 0) (tt := 19) (ff := 7) (L' := [.ref 69, .int (I 63 1)]) (S' := []) (σ' := (97, I, J, R)) rfl (fun _ => ?_) (fun hn => absurd (by decide) hn)
          refine az_E.sn 1 (pc' := 20) (L' := [.ref 69, .int (I 63 1)]) (S' := [.int (0 : Int32)]) (σ' := (97, I, J, R)) rfl ?_
          refine az_E.ret (v := some (.int (0 : Int32))) (σ' := (97, I, J, R)) rfl ?_
          show az_E az_F ex 2 128 69 [.retAddr 0, .retAddr 0, .int v2, .retAddr 0, .int v4, .int v5, .ref 63, .ref 69] [.int (0 : Int32)] (97, I, J, R) _
          refine az_E.br (c := (0 : Int32) = 0) (tt := 72) (ff := 75) (L' := [.retAddr 0, .retAddr 0, .int v2, .retAddr 0, .int v4, .int v5, .ref 63, .ref 69]) (S' := []) (σ' := (97, I, J, R)) rfl (fun _ => ?_) (fun hn => absurd (by decide) hn)
          refine az_E.sn 1 (pc' := 74) (L' := [.retAddr 0, .retAddr 0, .int v2, .retAddr 0, .int v4, .int v5, .ref 63, .ref 69]) (S' := [.int (-12 : Int32)]) (σ' := (97, I, J, R)) rfl ?_
          have h := Option.some.inj h
          subst h
          exact az_E.ret (v := some (.int (-12 : Int32))) (σ' := (97, I, J, R)) rfl hQ
        · rw [if_neg hc_591] at h
          refine az_E.sn 2 (pc' := 13) (L' := [.ref 69]) (S' := [.int (1 : Int32)]) (σ' := (97, I, J, R)) rfl ?_
          refine az_E.ret (v := some (.int (1 : Int32))) (σ' := (97, I, J, R)) rfl ?_
          show az_E az_F ex 1 56 4 [.ref 69, .int (I 63 1)] [.int (1 : Int32)] (97, I, J, R) _
          refine az_E.br (c := (1 : Int32) = 0) (tt := 19) (ff := 7) (L' := [.ref 69, .int (I 63 1)]) (S' := []) (σ' := (97, I, J, R)) rfl (fun hn => absurd hn (by decide)) (fun _ => ?_)
          refine az_E.sn 3 (pc' := 12) (L' := [.ref 69, .int (I 63 1)]) (S' := [.int (I 63 1), .int (I 69 1)]) (σ' := (97, I, J, R)) rfl ?_
          refine az_E.br (c := (I 69 1) = (I 63 1)) (tt := 15) (ff := 19) (L' := [.ref 69, .int (I 63 1)]) (S' := []) (σ' := (97, I, J, R)) rfl (fun hc_592 => ?_) (fun hc_592 => ?_)
          · rw [if_pos hc_592] at h
            refine az_E.sn 2 (pc' := 20) (L' := [.ref 69, .int (I 63 1)]) (S' := [.int (1 : Int32)]) (σ' := (97, I, J, R)) rfl ?_
            refine az_E.ret (v := some (.int (1 : Int32))) (σ' := (97, I, J, R)) rfl ?_
            show az_E az_F ex 2 128 69 [.retAddr 0, .retAddr 0, .int v2, .retAddr 0, .int v4, .int v5, .ref 63, .ref 69] [.int (1 : Int32)] (97, I, J, R) _
            refine az_E.br (c := (1 : Int32) = 0) (tt := 72) (ff := 75) (L' := [.retAddr 0, .retAddr 0, .int v2, .retAddr 0, .int v4, .int v5, .ref 63, .ref 69]) (S' := []) (σ' := (97, I, J, R)) rfl (fun hn => absurd hn (by decide)) (fun _ => ?_)
            refine az_E.sn 3 (pc' := 80) (L' := [.retAddr 0, .retAddr 0, .int v2, .retAddr 0, .int v4, .int v5, .ref 63, .ref 69]) (S' := [.int v5, .int v2, .ref 63]) (σ' := (97, I, J, R)) rfl ?_
            refine az_E.call (d := 1) (k' := 60) (vs := [.ref 63, .int v2, .int v5]) (pc' := 83) (S' := []) rfl ?_ (fun _ _ hq => hq)
            show az_E az_F ex 1 60 0 [.ref 63, .int v2, .int v5] [] (97, I, J, R) _
            refine az_E.sn 1 (pc' := 1) (L' := [.ref 63, .int v2, .int v5]) (S' := [.int v2]) (σ' := (97, I, J, R)) rfl ?_
            refine az_E.br (c := v2 < 0) (tt := 30) (ff := 4) (L' := [.ref 63, .int v2, .int v5]) (S' := []) (σ' := (97, I, J, R)) rfl (fun hc_593 => ?_) (fun hc_593 => ?_)
            · rw [if_pos hc_593] at h
              refine az_E.sn 1 (pc' := 31) (L' := [.ref 63, .int v2, .int v5]) (S' := [.int (0 : Int32)]) (σ' := (97, I, J, R)) rfl ?_
              refine az_E.ret (v := some (.int (0 : Int32))) (σ' := (97, I, J, R)) rfl ?_
              show az_E az_F ex 2 128 83 [.retAddr 0, .retAddr 0, .int v2, .retAddr 0, .int v4, .int v5, .ref 63, .ref 69] [.int (0 : Int32)] (97, I, J, R) _
              refine az_E.br (c := (0 : Int32) = 0) (tt := 98) (ff := 86) (L' := [.retAddr 0, .retAddr 0, .int v2, .retAddr 0, .int v4, .int v5, .ref 63, .ref 69]) (S' := []) (σ' := (97, I, J, R)) rfl (fun _ => ?_) (fun hn => absurd (by decide) hn)
              refine az_E.sn 1 (pc' := 100) (L' := [.retAddr 0, .retAddr 0, .int v2, .retAddr 0, .int v4, .int v5, .ref 63, .ref 69]) (S' := [.int (-13 : Int32)]) (σ' := (97, I, J, R)) rfl ?_
              have h := Option.some.inj h
              subst h
              exact az_E.ret (v := some (.int (-13 : Int32))) (σ' := (97, I, J, R)) rfl hQ
            · rw [if_neg hc_593] at h
              refine az_E.sn 1 (pc' := 5) (L' := [.ref 63, .int v2, .int v5]) (S' := [.int v5]) (σ' := (97, I, J, R)) rfl ?_
              refine az_E.br (c := v5 < 0) (tt := 30) (ff := 8) (L' := [.ref 63, .int v2, .int v5]) (S' := []) (σ' := (97, I, J, R)) rfl (fun hc_594 => ?_) (fun hc_594 => ?_)
              · rw [if_pos hc_594] at h
                refine az_E.sn 1 (pc' := 31) (L' := [.ref 63, .int v2, .int v5]) (S' := [.int (0 : Int32)]) (σ' := (97, I, J, R)) rfl ?_
                refine az_E.ret (v := some (.int (0 : Int32))) (σ' := (97, I, J, R)) rfl ?_
                show az_E az_F ex 2 128 83 [.retAddr 0, .retAddr 0, .int v2, .retAddr 0, .int v4, .int v5, .ref 63, .ref 69] [.int (0 : Int32)] (97, I, J, R) _
                refine az_E.br (c := (0 : Int32) = 0) (tt := 98) (ff := 86) (L' := [.retAddr 0, .retAddr 0, .int v2, .retAddr 0, .int v4, .int v5, .ref 63, .ref 69]) (S' := []) (σ' := (97, I, J, R)) rfl (fun _ => ?_) (fun hn => absurd (by decide) hn)
                refine az_E.sn 1 (pc' := 100) (L' := [.retAddr 0, .retAddr 0, .int v2, .retAddr 0, .int v4, .int v5, .ref 63, .ref 69]) (S' := [.int (-13 : Int32)]) (σ' := (97, I, J, R)) rfl ?_
                have h := Option.some.inj h
                subst h
                exact az_E.ret (v := some (.int (-13 : Int32))) (σ' := (97, I, J, R)) rfl hQ
              · rw [if_neg hc_594] at h
                refine az_E.sn 3 (pc' := 13) (L' := [.ref 63, .int v2, .int v5]) (S' := [.int (I 63 2), .int v2]) (σ' := (97, I, J, R)) rfl ?_
                refine az_E.br (c := (I 63 2) < v2) (tt := 30) (ff := 16) (L' := [.ref 63, .int v2, .int v5]) (S' := []) (σ' := (97, I, J, R)) rfl (fun hc_595 => ?_) (fun hc_595 => ?_)
                · rw [if_pos hc_595] at h
                  refine az_E.sn 1 (pc' := 31) (L' := [.ref 63, .int v2, .int v5]) (S' := [.int (0 : Int32)]) (σ' := (97, I, J, R)) rfl ?_
                  refine az_E.ret (v := some (.int (0 : Int32))) (σ' := (97, I, J, R)) rfl ?_
                  show az_E az_F ex 2 128 83 [.retAddr 0, .retAddr 0, .int v2, .retAddr 0, .int v4, .int v5, .ref 63, .ref 69] [.int (0 : Int32)] (97, I, J, R) _
                  refine az_E.br (c := (0 : Int32) = 0) (tt := 98) (ff := 86) (L' := [.retAddr 0, .retAddr 0, .int v2, .retAddr 0, .int v4, .int v5, .ref 63, .ref 69]) (S' := []) (σ' := (97, I, J, R)) rfl (fun _ => ?_) (fun hn => absurd (by decide) hn)
                  refine az_E.sn 1 (pc' := 100) (L' := [.retAddr 0, .retAddr 0, .int v2, .retAddr 0, .int v4, .int v5, .ref 63, .ref 69]) (S' := [.int (-13 : Int32)]) (σ' := (97, I, J, R)) rfl ?_
                  have h := Option.some.inj h
                  subst h
                  exact az_E.ret (v := some (.int (-13 : Int32))) (σ' := (97, I, J, R)) rfl hQ
                · rw [if_neg hc_595] at h
                  refine az_E.sn 5 (pc' := 23) (L' := [.ref 63, .int v2, .int v5]) (S' := [.int ((I 63 2) - v2), .int v5]) (σ' := (97, I, J, R)) rfl ?_
                  refine az_E.br (c := ((I 63 2) - v2) < v5) (tt := 30) (ff := 26) (L' := [.ref 63, .int v2, .int v5]) (S' := []) (σ' := (97, I, J, R)) rfl (fun hc_596 => ?_) (fun hc_596 => ?_)
                  · rw [if_pos hc_596] at h
                    refine az_E.sn 1 (pc' := 31) (L' := [.ref 63, .int v2, .int v5]) (S' := [.int (0 : Int32)]) (σ' := (97, I, J, R)) rfl ?_
                    refine az_E.ret (v := some (.int (0 : Int32))) (σ' := (97, I, J, R)) rfl ?_
                    show az_E az_F ex 2 128 83 [.retAddr 0, .retAddr 0, .int v2, .retAddr 0, .int v4, .int v5, .ref 63, .ref 69] [.int (0 : Int32)] (97, I, J, R) _
                    refine az_E.br (c := (0 : Int32) = 0) (tt := 98) (ff := 86) (L' := [.retAddr 0, .retAddr 0, .int v2, .retAddr 0, .int v4, .int v5, .ref 63, .ref 69]) (S' := []) (σ' := (97, I, J, R)) rfl (fun _ => ?_) (fun hn => absurd (by decide) hn)
                    refine az_E.sn 1 (pc' := 100) (L' := [.retAddr 0, .retAddr 0, .int v2, .retAddr 0, .int v4, .int v5, .ref 63, .ref 69]) (S' := [.int (-13 : Int32)]) (σ' := (97, I, J, R)) rfl ?_
                    have h := Option.some.inj h
                    subst h
                    exact az_E.ret (v := some (.int (-13 : Int32))) (σ' := (97, I, J, R)) rfl hQ
                  · rw [if_neg hc_596] at h
                    refine az_E.sn 2 (pc' := 31) (L' := [.ref 63, .int v2, .int v5]) (S' := [.int (1 : Int32)]) (σ' := (97, I, J, R)) rfl ?_
                    refine az_E.ret (v := some (.int (1 : Int32))) (σ' := (97, I, J, R)) rfl ?_
                    show az_E az_F ex 2 128 83 [.retAddr 0, .retAddr 0, .int v2, .retAddr 0, .int v4, .int v5, .ref 63, .ref 69] [.int (1 : Int32)] (97, I, J, R) _
                    refine az_E.br (c := (1 : Int32) = 0) (tt := 98) (ff := 86) (L' := [.retAddr 0, .retAddr 0, .int v2, .retAddr 0, .int v4, .int v5, .ref 63, .ref 69]) (S' := []) (σ' := (97, I, J, R)) rfl (fun hn => absurd hn (by decide)) (fun _ => ?_)
                    refine az_E.sn 3 (pc' := 92) (L' := [.retAddr 0, .retAddr 0, .int v2, .retAddr 0, .int v4, .int v5, .ref 63, .ref 69]) (S' := [.int v5, .int v4, .ref 69]) (σ' := (97, I, J, R)) rfl ?_
                    refine az_E.call (d := 1) (k' := 60) (vs := [.ref 69, .int v4, .int v5]) (pc' := 95) (S' := []) rfl ?_ (fun _ _ hq => hq)
                    show az_E az_F ex 1 60 0 [.ref 69, .int v4, .int v5] [] (97, I, J, R) _
                    refine az_E.sn 1 (pc' := 1) (L' := [.ref 69, .int v4, .int v5]) (S' := [.int v4]) (σ' := (97, I, J, R)) rfl ?_
                    refine az_E.br (c := v4 < 0) (tt := 30) (ff := 4) (L' := [.ref 69, .int v4, .int v5]) (S' := []) (σ' := (97, I, J, R)) rfl (fun hc_597 => ?_) (fun hc_597 => ?_)
                    · rw [if_pos hc_597] at h
                      refine az_E.sn 1 (pc' := 31) (L' := [.ref 69, .int v4, .int v5]) (S' := [.int (0 : Int32)]) (σ' := (97, I, J, R)) rfl ?_
                      refine az_E.ret (v := some (.int (0 : Int32))) (σ' := (97, I, J, R)) rfl ?_
                      show az_E az_F ex 2 128 95 [.retAddr 0, .retAddr 0, .int v2, .retAddr 0, .int v4, .int v5, .ref 63, .ref 69] [.int (0 : Int32)] (97, I, J, R) _
                      refine az_E.br (c := (0 : Int32) = 0) (tt := 98) (ff := 101) (L' := [.retAddr 0, .retAddr 0, .int v2, .retAddr 0, .int v4, .int v5, .ref 63, .ref 69]) (S' := []) (σ' := (97, I, J, R)) rfl (fun _ => ?_) (fun hn => absurd (by decide) hn)
                      refine az_E.sn 1 (pc' := 100) (L' := [.retAddr 0, .retAddr 0, .int v2, .retAddr 0, .int v4, .int v5, .ref 63, .ref 69]) (S' := [.int (-13 : Int32)]) (σ' := (97, I, J, R)) rfl ?_
                      have h := Option.some.inj h
                      subst h
                      exact az_E.ret (v := some (.int (-13 : Int32))) (σ' := (97, I, J, R)) rfl hQ
                    · rw [if_neg hc_597] at h
                      refine az_E.sn 1 (pc' := 5) (L' := [.ref 69, .int v4, .int v5]) (S' := [.int v5]) (σ' := (97, I, J, R)) rfl ?_
                      refine az_E.br (c := v5 < 0) (tt := 30) (ff := 8) (L' := [.ref 69, .int v4, .int v5]) (S' := []) (σ' := (97, I, J, R)) rfl (fun hc_598 => ?_) (fun hc_598 => ?_)
                      · rw [if_pos hc_598] at h
                        refine az_E.sn 1 (pc' := 31) (L' := [.ref 69, .int v4, .int v5]) (S' := [.int (0 : Int32)]) (σ' := (97, I, J, R)) rfl ?_
                        refine az_E.ret (v := some (.int (0 : Int32))) (σ' := (97, I, J, R)) rfl ?_
                        show az_E az_F ex 2 128 95 [.retAddr 0, .retAddr 0, .int v2, .retAddr 0, .int v4, .int v5, .ref 63, .ref 69] [.int (0 : Int32)] (97, I, J, R) _
                        refine az_E.br (c := (0 : Int32) = 0) (tt := 98) (ff := 101) (L' := [.retAddr 0, .retAddr 0, .int v2, .retAddr 0, .int v4, .int v5, .ref 63, .ref 69]) (S' := []) (σ' := (97, I, J, R)) rfl (fun _ => ?_) (fun hn => absurd (by decide) hn)
                        refine az_E.sn 1 (pc' := 100) (L' := [.retAddr 0, .retAddr 0, .int v2, .retAddr 0, .int v4, .int v5, .ref 63, .ref 69]) (S' := [.int (-13 : Int32)]) (σ' := (97, I, J, R)) rfl ?_
                        have h := Option.some.inj h
                        subst h
                        exact az_E.ret (v := some (.int (-13 : Int32))) (σ' := (97, I, J, R)) rfl hQ
                      · rw [if_neg hc_598] at h
                        refine az_E.sn 3 (pc' := 13) (L' := [.ref 69, .int v4, .int v5]) (S' := [.int (I 69 2), .int v4]) (σ' := (97, I, J, R)) rfl ?_
                        refine az_E.br (c := (I 69 2) < v4) (tt := 30) (ff := 16) (L' := [.ref 69, .int v4, .int v5]) (S' := []) (σ' := (97, I, J, R)) rfl (fun hc_599 => ?_) (fun hc_599 => ?_)
                        · rw [if_pos hc_599] at h
                          refine az_E.sn 1 (pc' := 31) (L' := [.ref 69, .int v4, .int v5]) (S' := [.int (0 : Int32)]) (σ' := (97, I, J, R)) rfl ?_
                          refine az_E.ret (v := some (.int (0 : Int32))) (σ' := (97, I, J, R)) rfl ?_
                          show az_E az_F ex 2 128 95 [.retAddr 0, .retAddr 0, .int v2, .retAddr 0, .int v4, .int v5, .ref 63, .ref 69] [.int (0 : Int32)] (97, I, J, R) _
                          refine az_E.br (c := (0 : Int32) = 0) (tt := 98) (ff := 101) (L' := [.retAddr 0, .retAddr 0, .int v2, .retAddr 0, .int v4, .int v5, .ref 63, .ref 69]) (S' := []) (σ' := (97, I, J, R)) rfl (fun _ => ?_) (fun hn => absurd (by decide) hn)
                          refine az_E.sn 1 (pc' := 100) (L' := [.retAddr 0, .retAddr 0, .int v2, .retAddr 0, .int v4, .int v5, .ref 63, .ref 69]) (S' := [.int (-13 : Int32)]) (σ' := (97, I, J, R)) rfl ?_
                          have h := Option.some.inj h
                          subst h
                          exact az_E.ret (v := some (.int (-13 : Int32))) (σ' := (97, I, J, R)) rfl hQ
                        · rw [if_neg hc_599] at h
                          refine az_E.sn 5 (pc' := 23) (L' := [.ref 69, .int v4, .int v5]) (S' := [.int ((I 69 2) - v4), .int v5]) (σ' := (97, I, J, R)) rfl ?_
                          refine az_E.br (c := ((I 69 2) - v4) < v5) (tt := 30) (ff := 26) (L' := [.ref 69, .int v4, .int v5]) (S' := []) (σ' := (97, I, J, R)) rfl (fun hc_600 => ?_) (fun hc_600 => ?_)
                          · rw [if_pos hc_600] at h
                            refine az_E.sn 1 (pc' := 31) (L' := [.ref 69, .int v4, .int v5]) (S' := [.int (0 : Int32)]) (σ' := (97, I, J, R)) rfl ?_
                            refine az_E.ret (v := some (.int (0 : Int32))) (σ' := (97, I, J, R)) rfl ?_
                            show az_E az_F ex 2 128 95 [.retAddr 0, .retAddr 0, .int v2, .retAddr 0, .int v4, .int v5, .ref 63, .ref 69] [.int (0 : Int32)] (97, I, J, R) _
                            refine az_E.br (c := (0 : Int32) = 0) (tt := 98) (ff := 101) (L' := [.retAddr 0, .retAddr 0, .int v2, .retAddr 0, .int v4, .int v5, .ref 63, .ref 69]) (S' := []) (σ' := (97, I, J, R)) rfl (fun _ => ?_) (fun hn => absurd (by decide) hn)
                            refine az_E.sn 1 (pc' := 100) (L' := [.retAddr 0, .retAddr 0, .int v2, .retAddr 0, .int v4, .int v5, .ref 63, .ref 69]) (S' := [.int (-13 : Int32)]) (σ' := (97, I, J, R)) rfl ?_
                            have h := Option.some.inj h
                            subst h
                            exact az_E.ret (v := some (.int (-13 : Int32))) (σ' := (97, I, J, R)) rfl hQ
                          · rw [if_neg hc_600] at h
                            refine az_E.sn 2 (pc' := 31) (L' := [.ref 69, .int v4, .int v5]) (S' := [.int (1 : Int32)]) (σ' := (97, I, J, R)) rfl ?_
                            refine az_E.ret (v := some (.int (1 : Int32))) (σ' := (97, I, J, R)) rfl ?_
                            show az_E az_F ex 2 128 95 [.retAddr 0, .retAddr 0, .int v2, .retAddr 0, .int v4, .int v5, .ref 63, .ref 69] [.int (1 : Int32)] (97, I, J, R) _
                            refine az_E.br (c := (1 : Int32) = 0) (tt := 98) (ff := 101) (L' := [.retAddr 0, .retAddr 0, .int v2, .retAddr 0, .int v4, .int v5, .ref 63, .ref 69]) (S' := []) (σ' := (97, I, J, R)) rfl (fun hn => absurd hn (by decide)) (fun _ => ?_)
                            refine az_E.sn 7 (pc' := 116) (L' := [.retAddr 0, .retAddr 0, .int v2, .retAddr 0, .int v4, .int v5, .ref 63, .ref 69]) (S' := [.int v5, .int v4, .ref (69 + 1), .int v2, .ref (63 + 1)]) (σ' := (97, I, J, R)) rfl ?_
                            by_cases hc_601 : v2 < 0 ∨ v4 < 0 ∨ v5 < 0 ∨ 60 < v2.toNatClampNeg + v5.toNatClampNeg ∨ 60 < v4.toNatClampNeg + v5.toNatClampNeg
                            · rw [if_pos hc_601] at h; cases h
                            · rw [if_neg hc_601] at h
                              refine az_E.o (o := az_cp az_F (97, I, J, R) (63 + 1) v2 (69 + 1) v4 v5) (pc' := 119) (L' := [.retAddr 0, .retAddr 0, .int v2, .retAddr 0, .int v4, .int v5, .ref 63, .ref 69]) (S' := []) (x := (97, I, (az_ur J (69 + 1) (va_cpy (J (63 + 1)) (J (69 + 1)) v2.toNatClampNeg v4.toNatClampNeg v5.toNatClampNeg)), R)) rfl (if_neg hc_601) ?_
                              refine az_E.sn 1 (pc' := 121) (L' := [.retAddr 0, .retAddr 0, .int v2, .retAddr 0, .int v4, .int v5, .ref 63, .ref 69]) (S' := [.int v5]) (σ' := (97, I, (az_ur J (69 + 1) (va_cpy (J (63 + 1)) (J (69 + 1)) v2.toNatClampNeg v4.toNatClampNeg v5.toNatClampNeg)), R)) rfl ?_
                              have h := Option.some.inj h
                              subst h
                              exact az_E.ret (v := some (.int v5)) (σ' := (97, I, (az_ur J (69 + 1) (va_cpy (J (63 + 1)) (J (69 + 1)) v2.toNatClampNeg v4.toNatClampNeg v5.toNatClampNeg)), R)) rfl hQ
          · rw [if_neg hc_592] at h
            refine az_E.sn 1 (pc' := 20) (L' := [.ref 69, .int (I 63 1)]) (S' := [.int (0 : Int32)]) (σ' := (97, I, J, R)) rfl ?_
            refine az_E.ret (v := some (.int (0 : Int32))) (σ' := (97, I, J, R)) rfl ?_
            show az_E az_F ex 2 128 69 [.retAddr 0, .retAddr 0, .int v2, .retAddr 0, .int v4, .int v5, .ref 63, .ref 69] [.int (0 : Int32)] (97, I, J, R) _
            refine az_E.br (c := (0 : Int32) = 0) (tt := 72) (ff := 75) (L' := [.retAddr 0, .retAddr 0, .int v2, .retAddr 0, .int v4, .int v5, .ref 63, .ref 69]) (S' := []) (σ' := (97, I, J, R)) rfl (fun _ => ?_) (fun hn => absurd (by decide) hn)
            refine az_E.sn 1 (pc' := 74) (L' := [.retAddr 0, .retAddr 0, .int v2, .retAddr 0, .int v4, .int v5, .ref 63, .ref 69]) (S' := [.int (-12 : Int32)]) (σ' := (97, I, J, R)) rfl ?_
            have h := Option.some.inj h
            subst h
            exact az_E.ret (v := some (.int (-12 : Int32))) (σ' := (97, I, J, R)) rfl hQ
set_option maxRecDepth 100000 in
set_option maxHeartbeats 4000000 in
theorem re_X_shift_30_63_71 {ex : az_X} {I : Nat → Nat → Int32} {J : Nat → Nat → Int64} {R : Nat → Nat → Option Nat} {v2 : Int32} {v4 : Int32} {v5 : Int32} {x : Int32 × (Nat → Nat → Int64)} (h : rs_X_shift_30 63 71 I J v2 v4 v5 = some x) {Q : Option Value → az_S → Prop} (hQ : Q (some (.int x.1)) (97, I, x.2, R)) : az_E az_F ex 2 128 30 [.retAddr 0, .retAddr 0, .int v2, .retAddr 0, .int v4, .int v5, .ref 63, .retAddr 0] [.ref 71] (97, I, J, R) Q := by
  unfold rs_X_shift_30 at h
  refine az_E.sn 2 (pc' := 34) (L' := [.retAddr 0, .retAddr 0, .int v2, .retAddr 0, .int v4, .int v5, .ref 63, .ref 71]) (S' := [.ref 63]) (σ' := (97, I, J, R)) rfl ?_
  refine az_E.call (d := 1) (k' := 54) (vs := [.ref 63]) (pc' := 37) (S' := []) rfl ?_ (fun _ _ hq => hq)
  show az_E az_F ex 1 54 0 [.ref 63] [] (97, I, J, R) _
  refine az_E.sn 3 (pc' := 5) (L' := [.ref 63]) (S' := [.int (-1 : Int32), .int (I 63 0)]) (σ' := (97, I, J, R)) rfl ?_
  refine az_E.br (c := (I 63 0) = (-1 : Int32)) (tt := 8) (ff := 20) (L' := [.ref 63]) (S' := []) (σ' := (97, I, J, R)) rfl (fun hc_602 => ?_) (fun hc_602 => ?_)
  · rw [if_pos hc_602] at h
    refine az_E.sn 3 (pc' := 13) (L' := [.ref 63]) (S' := [.int (-1 : Int32), .int (I 63 1)]) (σ' := (97, I, J, R)) rfl ?_
    refine az_E.br (c := (I 63 1) = (-1 : Int32)) (tt := 16) (ff := 20) (L' := [.ref 63]) (S' := []) (σ' := (97, I, J, R)) rfl (fun hc_603 => ?_) (fun hc_603 => ?_)
    · rw [if_pos hc_603] at h
      refine az_E.sn 2 (pc' := 21) (L' := [.ref 63]) (S' := [.int (1 : Int32)]) (σ' := (97, I, J, R)) rfl ?_
      refine az_E.ret (v := some (.int (1 : Int32))) (σ' := (97, I, J, R)) rfl ?_
      show az_E az_F ex 2 128 37 [.retAddr 0, .retAddr 0, .int v2, .retAddr 0, .int v4, .int v5, .ref 63, .ref 71] [.int (1 : Int32)] (97, I, J, R) _
      refine az_E.br (c := (1 : Int32) = 0) (tt := 40) (ff := 48) (L' := [.retAddr 0, .retAddr 0, .int v2, .retAddr 0, .int v4, .int v5, .ref 63, .ref 71]) (S' := []) (σ' := (97, I, J, R)) rfl (fun hn => absurd hn (by decide)) (fun _ => ?_)
      refine az_E.sn 1 (pc' := 50) (L' := [.retAddr 0, .retAddr 0, .int v2, .retAddr 0, .int v4, .int v5, .ref 63, .ref 71]) (S' := [.int (-11 : Int32)]) (σ' := (97, I, J, R)) rfl ?_
      have h := Option.some.inj h
      subst h
      exact az_E.ret (v := some (.int (-11 : Int32))) (σ' := (97, I, J, R)) rfl hQ
    · rw [if_neg hc_603] at h
      refine az_E.sn 1 (pc' := 21) (L' := [.ref 63]) (S' := [.int (0 : Int32)]) (σ' := (97, I, J, R)) rfl ?_
      refine az_E.ret (v := some (.int (0 : Int32))) (σ' := (97, I, J, R)) rfl ?_
      show az_E az_F ex 2 128 37 [.retAddr 0, .retAddr 0, .int v2, .retAddr 0, .int v4, .int v5, .ref 63, .ref 71] [.int (0 : Int32)] (97, I, J, R) _
      refine az_E.br (c := (0 : Int32) = 0) (tt := 40) (ff := 48) (L' := [.retAddr 0, .retAddr 0, .int v2, .retAddr 0, .int v4, .int v5, .ref 63, .ref 71]) (S' := []) (σ' := (97, I, J, R)) rfl (fun _ => ?_) (fun hn => absurd (by decide) hn)
      refine az_E.sn 1 (pc' := 42) (L' := [.retAddr 0, .retAddr 0, .int v2, .retAddr 0, .int v4, .int v5, .ref 63, .ref 71]) (S' := [.ref 71]) (σ' := (97, I, J, R)) rfl ?_
      refine az_E.call (d := 1) (k' := 54) (vs := [.ref 71]) (pc' := 45) (S' := []) rfl ?_ (fun _ _ hq => hq)
      show az_E az_F ex 1 54 0 [.ref 71] [] (97, I, J, R) _
      refine az_E.sn 3 (pc' := 5) (L' := [.ref 71]) (S' := [.int (-1 : Int32), .int (I 71 0)]) (σ' := (97, I, J, R)) rfl ?_
      refine az_E.br (c := (I 71 0) = (-1 : Int32)) (tt := 8) (ff := 20) (L' := [.ref 71]) (S' := []) (σ' := (97, I, J, R)) rfl (fun hc_604 => ?_) (fun hc_604 => ?_)
      · rw [if_pos hc_604] at h
        refine az_E.sn 3 (pc' := 13) (L' := [.ref 71]) (S' := [.int (-1 : Int32), .int (I 71 1)]) (σ' := (97, I, J, R)) rfl ?_
        refine az_E.br (c := (I 71 1) = (-1 : Int32)) (tt := 16) (ff := 20) (L' := [.ref 71]) (S' := []) (σ' := (97, I, J, R)) rfl (fun hc_605 => ?_) (fun hc_605 => ?_)
        · rw [if_pos hc_605] at h
          refine az_E.sn 2 (pc' := 21) (L' := [.ref 71]) (S' := [.int (1 : Int32)]) (σ' := (97, I, J, R)) rfl ?_
          refine az_E.ret (v := some (.int (1 : Int32))) (σ' := (97, I, J, R)) rfl ?_
          show az_E az_F ex 2 128 45 [.retAddr 0, .retAddr 0, .int v2, .retAddr 0, .int v4, .int v5, .ref 63, .ref 71] [.int (1 : Int32)] (97, I, J, R) _
          refine az_E.br (c := (1 : Int32) = 0) (tt := 51) (ff := 48) (L' := [.retAddr 0, .retAddr 0, .int v2, .retAddr 0, .int v4, .int v5, .ref 63, .ref 71]) (S' := []) (σ' := (97, I, J, R)) rfl (fun hn => absurd hn (by decide)) (fun _ => ?_)
          refine az_E.sn 1 (pc' := 50) (L' := [.retAddr 0, .retAddr 0, .int v2, .retAddr 0, .int v4, .int v5, .ref 63, .ref 71]) (S' := [.int (-11 : Int32)]) (σ' := (97, I, J, R)) rfl ?_
          have h := Option.some.inj h
          subst h
          exact az_E.ret (v := some (.int (-11 : Int32))) (σ' := (97, I, J, R)) rfl hQ
        · rw [if_neg hc_605] at h
          refine az_E.sn 1 (pc' := 21) (L' := [.ref 71]) (S' := [.int (0 : Int32)]) (σ' := (97, I, J, R)) rfl ?_
          refine az_E.ret (v := some (.int (0 : Int32))) (σ' := (97, I, J, R)) rfl ?_
          show az_E az_F ex 2 128 45 [.retAddr 0, .retAddr 0, .int v2, .retAddr 0, .int v4, .int v5, .ref 63, .ref 71] [.int (0 : Int32)] (97, I, J, R) _
          refine az_E.br (c := (0 : Int32) = 0) (tt := 51) (ff := 48) (L' := [.retAddr 0, .retAddr 0, .int v2, .retAddr 0, .int v4, .int v5, .ref 63, .ref 71]) (S' := []) (σ' := (97, I, J, R)) rfl (fun _ => ?_) (fun hn => absurd (by decide) hn)
          refine az_E.sn 1 (pc' := 53) (L' := [.retAddr 0, .retAddr 0, .int v2, .retAddr 0, .int v4, .int v5, .ref 63, .ref 71]) (S' := [.ref 63]) (σ' := (97, I, J, R)) rfl ?_
          refine az_E.call (d := 1) (k' := 55) (vs := [.ref 63]) (pc' := 56) (S' := []) rfl ?_ (fun _ _ hq => hq)
          show az_E az_F ex 1 55 0 [.ref 63] [] (97, I, J, R) _
          refine az_E.sn 3 (pc' := 5) (L' := [.ref 63]) (S' := [.int (-1 : Int32), .int (I 63 1)]) (σ' := (97, I, J, R)) rfl ?_
          refine az_E.br (c := (I 63 1) = (-1 : Int32)) (tt := 12) (ff := 8) (L' := [.ref 63]) (S' := []) (σ' := (97, I, J, R)) rfl (fun hc_606 => ?_) (fun hc_606 => ?_)
          · rw [if_pos hc_606] at h
            refine az_E.sn 1 (pc' := 13) (L' := [.ref 63]) (S' := [.int (0 : Int32)]) (σ' := (97, I, J, R)) rfl ?_
            refine az_E.ret (v := some (.int (0 : Int32))) (σ' := (97, I, J, R)) rfl ?_
            show az_E az_F ex 2 128 56 [.retAddr 0, .retAddr 0, .int v2, .retAddr 0, .int v4, .int v5, .ref 63, .ref 71] [.int (0 : Int32)] (97, I, J, R) _
            refine az_E.br (c := (0 : Int32) = 0) (tt := 72) (ff := 59) (L' := [.retAddr 0, .retAddr 0, .int v2, .retAddr 0, .int v4, .int v5, .ref 63, .ref 71]) (S' := []) (σ' := (97, I, J, R)) rfl (fun _ => ?_) (fun hn => absurd (by decide) hn)
            refine az_E.sn 1 (pc' := 74) (L' := [.retAddr 0, .retAddr 0, .int v2, .retAddr 0, .int v4, .int v5, .ref 63, .ref 71]) (S' := [.int (-12 : Int32)]) (σ' := (97, I, J, R)) rfl ?_
            have h := Option.some.inj h
            subst h
            exact az_E.ret (v := some (.int (-12 : Int32))) (σ' := (97, I, J, R)) rfl hQ
          · rw [if_neg hc_606] at h
            refine az_E.sn 2 (pc' := 13) (L' := [.ref 63]) (S' := [.int (1 : Int32)]) (σ' := (97, I, J, R)) rfl ?_
            refine az_E.ret (v := some (.int (1 : Int32))) (σ' := (97, I, J, R)) rfl ?_
            show az_E az_F ex 2 128 56 [.retAddr 0, .retAddr 0, .int v2, .retAddr 0, .int v4, .int v5, .ref 63, .ref 71] [.int (1 : Int32)] (97, I, J, R) _
            refine az_E.br (c := (1 : Int32) = 0) (tt := 72) (ff := 59) (L' := [.retAddr 0, .retAddr 0, .int v2, .retAddr 0, .int v4, .int v5, .ref 63, .ref 71]) (S' := []) (σ' := (97, I, J, R)) rfl (fun hn => absurd hn (by decide)) (fun _ => ?_)
            refine az_E.sn 3 (pc' := 66) (L' := [.retAddr 0, .retAddr 0, .int v2, .retAddr 0, .int v4, .int v5, .ref 63, .ref 71]) (S' := [.int (I 63 1), .ref 71]) (σ' := (97, I, J, R)) rfl ?_
            refine az_E.call (d := 1) (k' := 56) (vs := [.ref 71, .int (I 63 1)]) (pc' := 69) (S' := []) rfl ?_ (fun _ _ hq => hq)
            show az_E az_F ex 1 56 0 [.ref 71, .int (I 63 1)] [] (97, I, J, R) _
            refine az_E.sn 1 (pc' := 1) (L' := [.ref 71, .int (I 63 1)]) (S' := [.ref 71]) (σ' := (97, I, J, R)) rfl ?_
            refine az_E.call (d := 0) (k' := 55) (vs := [.ref 71]) (pc' := 4) (S' := []) rfl ?_ (fun _ _ hq => hq)
            show az_E az_F ex 0 55 0 [.ref 71] [] (97, I, J, R) _
            refine az_E.sn 3 (pc' := 5) (L' := [.ref 71]) (S' := [.int (-1 : Int32), .int (I 71 1)]) (σ' := (97, I, J, R)) rfl ?_
            refine az_E.br (c := (I 71 1) = (-1 : Int32)) (tt := 12) (ff := 8) (L' := [.ref 71]) (S' := []) (σ' := (97, I, J, R)) rfl (fun hc_607 => ?_) (fun hc_607 => ?_)
            · rw [if_pos hc_607] at h
              refine az_E.sn 1 (pc' := 13) (L' := [.ref 71]) (S' := [.int (0 : Int32)]) (σ' := (97, I, J, R)) rfl ?_
              refine az_E.ret (v := some (.int (0 : Int32))) (σ' := (97, I, J, R)) rfl ?_
              show az_E az_F ex 1 56 4 [.ref 71, .int (I 63 1)] [.int (0 : Int32)] (97, I, J, R) _
              refine az_E.br (c := (0 : Int32) = 0) (tt := 19) (ff := 7) (L' := [.ref 71, .int (I 63 1)]) (S' := []) (σ' := (97, I, J, R)) rfl (fun _ => ?_) (fun hn => absurd (by decide) hn)
              refine az_E.sn 1 (pc' := 20) (L' := [.ref 71, .int (I 63 1)]) (S' := [.int (0 : Int32)]) (σ' := (97, I, J, R)) rfl ?_
              refine az_E.ret (v := some (.int (0 : Int32))) (σ' := (97, I, J, R)) rfl ?_
              show az_E az_F ex 2 128 69 [.retAddr 0, .retAddr 0, .int v2, .retAddr 0, .int v4, .int v5, .ref 63, .ref 71] [.int (0 : Int32)] (97, I, J, R) _
              refine az_E.br (c := (0 : Int32) = 0) (tt := 72) (ff := 75) (L' := [.retAddr 0, .retAddr 0, .int v2, .retAddr 0, .int v4, .int v5, .ref 63, .ref 71]) (S' := []) (σ' := (97, I, J, R)) rfl (fun _ => ?_) (fun hn => absurd (by decide) hn)
              refine az_E.sn 1 (pc' := 74) (L' := [.retAddr 0, .retAddr 0, .int v2, .retAddr 0, .int v4, .int v5, .ref 63, .ref 71]) (S' := [.int (-12 : Int32)]) (σ' := (97, I, J, R)) rfl ?_
              have h := Option.some.inj h
              subst h
              exact az_E.ret (v := some (.int (-12 : Int32))) (σ' := (97, I, J, R)) rfl hQ
            · rw [if_neg hc_607] at h
              refine az_E.sn 2 (pc' := 13) (L' := [.ref 71]) (S' := [.int (1 : Int32)]) (σ' := (97, I, J, R)) rfl ?_
              refine az_E.ret (v := some (.int (1 : Int32))) (σ' := (97, I, J, R)) rfl ?_
              show az_E az_F ex 1 56 4 [.ref 71, .int (I 63 1)] [.int (1 : Int32)] (97, I, J, R) _
              refine az_E.br (c := (1 : Int32) = 0) (tt := 19) (ff := 7) (L' := [.ref 71, .int (I 63 1)]) (S' := []) (σ' := (97, I, J, R)) rfl (fun hn => absurd hn (by decide)) (fun _ => ?_)
              refine az_E.sn 3 (pc' := 12) (L' := [.ref 71, .int (I 63 1)]) (S' := [.int (I 63 1), .int (I 71 1)]) (σ' := (97, I, J, R)) rfl ?_
              refine az_E.br (c := (I 71 1) = (I 63 1)) (tt := 15) (ff := 19) (L' := [.ref 71, .int (I 63 1)]) (S' := []) (σ' := (97, I, J, R)) rfl (fun hc_608 => ?_) (fun hc_608 => ?_)
              · rw [if_pos hc_608] at h
                refine az_E.sn 2 (pc' := 20) (L' := [.ref 71, .int (I 63 1)]) (S' := [.int (1 : Int32)]) (σ' := (97, I, J, R)) rfl ?_
                refine az_E.ret (v := some (.int (1 : Int32))) (σ' := (97, I, J, R)) rfl ?_
                show az_E az_F ex 2 128 69 [.retAddr 0, .retAddr 0, .int v2, .retAddr 0, .int v4, .int v5, .ref 63, .ref 71] [.int (1 : Int32)] (97, I, J, R) _
                refine az_E.br (c := (1 : Int32) = 0) (tt := 72) (ff := 75) (L' := [.retAddr 0, .retAddr 0, .int v2, .retAddr 0, .int v4, .int v5, .ref 63, .ref 71]) (S' := []) (σ' := (97, I, J, R)) rfl (fun hn => absurd hn (by decide)) (fun _ => ?_)
                refine az_E.sn 3 (pc' := 80) (L' := [.retAddr 0, .retAddr 0, .int v2, .retAddr 0, .int v4, .int v5, .ref 63, .ref 71]) (S' := [.int v5, .int v2, .ref 63]) (σ' := (97, I, J, R)) rfl ?_
                refine az_E.call (d := 1) (k' := 60) (vs := [.ref 63, .int v2, .int v5]) (pc' := 83) (S' := []) rfl ?_ (fun _ _ hq => hq)
                show az_E az_F ex 1 60 0 [.ref 63, .int v2, .int v5] [] (97, I, J, R) _
                refine az_E.sn 1 (pc' := 1) (L' := [.ref 63, .int v2, .int v5]) (S' := [.int v2]) (σ' := (97, I, J, R)) rfl ?_
                refine az_E.br (c := v2 < 0) (tt := 30) (ff := 4) (L' := [.ref 63, .int v2, .int v5]) (S' := []) (σ' := (97, I, J, R)) rfl (fun hc_609 => ?_) (fun hc_609 => ?_)
                · rw [if_pos hc_609] at h
                  refine az_E.sn 1 (pc' := 31) (L' := [.ref 63, .int v2, .int v5]) (S' := [.int (0 : Int32)]) (σ' := (97, I, J, R)) rfl ?_
                  refine az_E.ret (v := some (.int (0 : Int32))) (σ' := (97, I, J, R)) rfl ?_
                  show az_E az_F ex 2 128 83 [.retAddr 0, .retAddr 0, .int v2, .retAddr 0, .int v4, .int v5, .ref 63, .ref 71] [.int (0 : Int32)] (97, I, J, R) _
                  refine az_E.br (c := (0 : Int32) = 0) (tt := 98) (ff := 86) (L' := [.retAddr 0, .retAddr 0, .int v2, .retAddr 0, .int v4, .int v5, .ref 63, .ref 71]) (S' := []) (σ' := (97, I, J, R)) rfl (fun _ => ?_) (fun hn => absurd (by decide) hn)
                  refine az_E.sn 1 (pc' := 100) (L' := [.retAddr 0, .retAddr 0, .int v2, .retAddr 0, .int v4, .int v5, .ref 63, .ref 71]) (S' := [.int (-13 : Int32)]) (σ' := (97, I, J, R)) rfl ?_
                  have h := Option.some.inj h
                  subst h
                  exact az_E.ret (v := some (.int (-13 : Int32))) (σ' := (97, I, J, R)) rfl hQ
                · rw [if_neg hc_609] at h
                  refine az_E.sn 1 (pc' := 5) (L' := [.ref 63, .int v2, .int v5]) (S' := [.int v5]) (σ' := (97, I, J, R)) rfl ?_
                  refine az_E.br (c := v5 < 0) (tt := 30) (ff := 8) (L' := [.ref 63, .int v2, .int v5]) (S' := []) (σ' := (97, I, J, R)) rfl (fun hc_610 => ?_) (fun hc_610 => ?_)
                  · rw [if_pos hc_610] at h
                    refine az_E.sn 1 (pc' := 31) (L' := [.ref 63, .int v2, .int v5]) (S' := [.int (0 : Int32)]) (σ' := (97, I, J, R)) rfl ?_
                    refine az_E.ret (v := some (.int (0 : Int32))) (σ' := (97, I, J, R)) rfl ?_
                    show az_E az_F ex 2 128 83 [.retAddr 0, .retAddr 0, .int v2, .retAddr 0, .int v4, .int v5, .ref 63, .ref 71] [.int (0 : Int32)] (97, I, J, R) _
                    refine az_E.br (c := (0 : Int32) = 0) (tt := 98) (ff := 86) (L' := [.retAddr 0, .retAddr 0, .int v2, .retAddr 0, .int v4, .int v5, .ref 63, .ref 71]) (S' := []) (σ' := (97, I, J, R)) rfl (fun _ => ?_) (fun hn => absurd (by decide) hn)
                    refine az_E.sn 1 (pc' := 100) (L' := [.retAddr 0, .retAddr 0, .int v2, .retAddr 0, .int v4, .int v5, .ref 63, .ref 71]) (S' := [.int (-13 : Int32)]) (σ' := (97, I, J, R)) rfl ?_
                    have h := Option.some.inj h
                    subst h
                    exact az_E.ret (v := some (.int (-13 : Int32))) (σ' := (97, I, J, R)) rfl hQ
                  · rw [if_neg hc_610] at h
                    refine az_E.sn 3 (pc' := 13) (L' := [.ref 63, .int v2, .int v5]) (S' := [.int (I 63 2), .int v2]) (σ' := (97, I, J, R)) rfl ?_
                    refine az_E.br (c := (I 63 2) < v2) (tt := 30) (ff := 16) (L' := [.ref 63, .int v2, .int v5]) (S' := []) (σ' := (97, I, J, R)) rfl (fun hc_611 => ?_) (fun hc_611 => ?_)
                    · rw [if_pos hc_611] at h
                      refine az_E.sn 1 (pc' := 31) (L' := [.ref 63, .int v2, .int v5]) (S' := [.int (0 : Int32)]) (σ' := (97, I, J, R)) rfl ?_
                      refine az_E.ret (v := some (.int (0 : Int32))) (σ' := (97, I, J, R)) rfl ?_
                      show az_E az_F ex 2 128 83 [.retAddr 0, .retAddr 0, .int v2, .retAddr 0, .int v4, .int v5, .ref 63, .ref 71] [.int (0 : Int32)] (97, I, J, R) _
                      refine az_E.br (c := (0 : Int32) = 0) (tt := 98) (ff := 86) (L' := [.retAddr 0, .retAddr 0, .int v2, .retAddr 0, .int v4, .int v5, .ref 63, .ref 71]) (S' := []) (σ' := (97, I, J, R)) rfl (fun _ => ?_) (fun hn => absurd (by decide) hn)
                      refine az_E.sn 1 (pc' := 100) (L' := [.retAddr 0, .retAddr 0, .int v2, .retAddr 0, .int v4, .int v5, .ref 63, .ref 71]) (S' := [.int (-13 : Int32)]) (σ' := (97, I, J, R)) rfl ?_
                      have h := Option.some.inj h
                      subst h
                      exact az_E.ret (v := some (.int (-13 : Int32))) (σ' := (97, I, J, R)) rfl hQ
                    · rw [if_neg hc_611] at h
                      refine az_E.sn 5 (pc' := 23) (L' := [.ref 63, .int v2, .int v5]) (S' := [.int ((I 63 2) - v2), .int v5]) (σ' := (97, I, J, R)) rfl ?_
                      refine az_E.br (c := ((I 63 2) - v2) < v5) (tt := 30) (ff := 26) (L' := [.ref 63, .int v2, .int v5]) (S' := []) (σ' := (97, I, J, R)) rfl (fun hc_612 => ?_) (fun hc_612 => ?_)
                      · rw [if_pos hc_612] at h
                        refine az_E.sn 1 (pc' := 31) (L' := [.ref 63, .int v2, .int v5]) (S' := [.int (0 : Int32)]) (σ' := (97, I, J, R)) rfl ?_
                        refine az_E.ret (v := some (.int (0 : Int32))) (σ' := (97, I, J, R)) rfl ?_
                        show az_E az_F ex 2 128 83 [.retAddr 0, .retAddr 0, .int v2, .retAddr 0, .int v4, .int v5, .ref 63, .ref 71] [.int (0 : Int32)] (97, I, J, R) _
                        refine az_E.br (c := (0 : Int32) = 0) (tt := 98) (ff := 86) (L' := [.retAddr 0, .retAddr 0, .int v2, .retAddr 0, .int v4, .int v5, .ref 63, .ref 71]) (S' := []) (σ' := (97, I, J, R)) rfl (fun _ => ?_) (fun hn => absurd (by decide) hn)
                        refine az_E.sn 1 (pc' := 100) (L' := [.retAddr 0, .retAddr 0, .int v2, .retAddr 0, .int v4, .int v5, .ref 63, .ref 71]) (S' := [.int (-13 : Int32)]) (σ' := (97, I, J, R)) rfl ?_
                        have h := Option.some.inj h
                        subst h
                        exact az_E.ret (v := some (.int (-13 : Int32))) (σ' := (97, I, J, R)) rfl hQ
                      · rw [if_neg hc_612] at h
                        refine az_E.sn 2 (pc' := 31) (L' := [.ref 63, .int v2, .int v5]) (S' := [.int (1 : Int32)]) (σ' := (97, I, J, R)) rfl ?_
                        refine az_E.ret (v := some (.int (1 : Int32))) (σ' := (97, I, J, R)) rfl ?_
                        show az_E az_F ex 2 128 83 [.retAddr 0, .retAddr 0, .int v2, .retAddr 0, .int v4, .int v5, .ref 63, .ref 71] [.int (1 : Int32)] (97, I, J, R) _
                        refine az_E.br (c := (1 : Int32) = 0) (tt := 98) (ff := 86) (L' := [.retAddr 0, .retAddr 0, .int v2, .retAddr 0, .int v4, .int v5, .ref 63, .ref 71]) (S' := []) (σ' := (97, I, J, R)) rfl (fun hn => absurd hn (by decide)) (fun _ => ?_)
                        refine az_E.sn 3 (pc' := 92) (L' := [.retAddr 0, .retAddr 0, .int v2, .retAddr 0, .int v4, .int v5, .ref 63, .ref 71]) (S' := [.int v5, .int v4, .ref 71]) (σ' := (97, I, J, R)) rfl ?_
                        refine az_E.call (d := 1) (k' := 60) (vs := [.ref 71, .int v4, .int v5]) (pc' := 95) (S' := []) rfl ?_ (fun _ _ hq => hq)
                        show az_E az_F ex 1 60 0 [.ref 71, .int v4, .int v5] [] (97, I, J, R) _
                        refine az_E.sn 1 (pc' := 1) (L' := [.ref 71, .int v4, .int v5]) (S' := [.int v4]) (σ' := (97, I, J, R)) rfl ?_
                        refine az_E.br (c := v4 < 0) (tt := 30) (ff := 4) (L' := [.ref 71, .int v4, .int v5]) (S' := []) (σ' := (97, I, J, R)) rfl (fun hc_613 => ?_) (fun hc_613 => ?_)
                        · rw [if_pos hc_613] at h
                          refine az_E.sn 1 (pc' := 31) (L' := [.ref 71, .int v4, .int v5]) (S' := [.int (0 : Int32)]) (σ' := (97, I, J, R)) rfl ?_
                          refine az_E.ret (v := some (.int (0 : Int32))) (σ' := (97, I, J, R)) rfl ?_
                          show az_E az_F ex 2 128 95 [.retAddr 0, .retAddr 0, .int v2, .retAddr 0, .int v4, .int v5, .ref 63, .ref 71] [.int (0 : Int32)] (97, I, J, R) _
                          refine az_E.br (c := (0 : Int32) = 0) (tt := 98) (ff := 101) (L' := [.retAddr 0, .retAddr 0, .int v2, .retAddr 0, .int v4, .int v5, .ref 63, .ref 71]) (S' := []) (σ' := (97, I, J, R)) rfl (fun _ => ?_) (fun hn => absurd (by decide) hn)
                          refine az_E.sn 1 (pc' := 100) (L' := [.retAddr 0, .retAddr 0, .int v2, .retAddr 0, .int v4, .int v5, .ref 63, .ref 71]) (S' := [.int (-13 : Int32)]) (σ' := (97, I, J, R)) rfl ?_
                          have h := Option.some.inj h
                          subst h
                          exact az_E.ret (v := some (.int (-13 : Int32))) (σ' := (97, I, J, R)) rfl hQ
                        · rw [if_neg hc_613] at h
                          refine az_E.sn 1 (pc' := 5) (L' := [.ref 71, .int v4, .int v5]) (S' := [.int v5]) (σ' := (97, I, J, R)) rfl ?_
                          refine az_E.br (c := v5 < 0) (tt := 30) (ff := 8) (L' := [.ref 71, .int v4, .int v5]) (S' := []) (σ' := (97, I, J, R)) rfl (fun hc_614 => ?_) (fun hc_614 => ?_)
                          · rw [if_pos hc_614] at h
                            refine az_E.sn 1 (pc' := 31) (L' := [.ref 71, .int v4, .int v5]) (S' := [.int (0 : Int32)]) (σ' := (97, I, J, R)) rfl ?_
                            refine az_E.ret (v := some (.int (0 : Int32))) (σ' := (97, I, J, R)) rfl ?_
                            show az_E az_F ex 2 128 95 [.retAddr 0, .retAddr 0, .int v2, .retAddr 0, .int v4, .int v5, .ref 63, .ref 71] [.int (0 : Int32)] (97, I, J, R) _
                            refine az_E.br (c := (0 : Int32) = 0) (tt := 98) (ff := 101) (L' := [.retAddr 0, .retAddr 0, .int v2, .retAddr 0, .int v4, .int v5, .ref 63, .ref 71]) (S' := []) (σ' := (97, I, J, R)) rfl (fun _ => ?_) (fun hn => absurd (by decide) hn)
                            refine az_E.sn 1 (pc' := 100) (L' := [.retAddr 0, .retAddr 0, .int v2, .retAddr 0, .int v4, .int v5, .ref 63, .ref 71]) (S' := [.int (-13 : Int32)]) (σ' := (97, I, J, R)) rfl ?_
                            have h := Option.some.inj h
                            subst h
                            exact az_E.ret (v := some (.int (-13 : Int32))) (σ' := (97, I, J, R)) rfl hQ
                          · rw [if_neg hc_614] at h
                            refine az_E.sn 3 (pc' := 13) (L' := [.ref 71, .int v4, .int v5]) (S' := [.int (I 71 2), .int v4]) (σ' := (97, I, J, R)) rfl ?_
                            refine az_E.br (c := (I 71 2) < v4) (tt := 30) (ff := 16) (L' := [.ref 71, .int v4, .int v5]) (S' := []) (σ' := (97, I, J, R)) rfl (fun hc_615 => ?_) (fun hc_615 => ?_)
                            · rw [if_pos hc_615] at h
                              refine az_E.sn 1 (pc' := 31) (L' := [.ref 71, .int v4, .int v5]) (S' := [.int (0 : Int32)]) (σ' := (97, I, J, R)) rfl ?_
                              refine az_E.ret (v := some (.int (0 : Int32))) (σ' := (97, I, J, R)) rfl ?_
                              show az_E az_F ex 2 128 95 [.retAddr 0, .retAddr 0, .int v2, .retAddr 0, .int v4, .int v5, .ref 63, .ref 71] [.int (0 : Int32)] (97, I, J, R) _
                              refine az_E.br (c := (0 : Int32) = 0) (tt := 98) (ff := 101) (L' := [.retAddr 0, .retAddr 0, .int v2, .retAddr 0, .int v4, .int v5, .ref 63, .ref 71]) (S' := []) (σ' := (97, I, J, R)) rfl (fun _ => ?_) (fun hn => absurd (by decide) hn)
                              refine az_E.sn 1 (pc' := 100) (L' := [.retAddr 0, .retAddr 0, .int v2, .retAddr 0, .int v4, .int v5, .ref 63, .ref 71]) (S' := [.int (-13 : Int32)]) (σ' := (97, I, J, R)) rfl ?_
                              have h := Option.some.inj h
                              subst h
                              exact az_E.ret (v := some (.int (-13 : Int32))) (σ' := (97, I, J, R)) rfl hQ
                            · rw [if_neg hc_615] at h
                              refine az_E.sn 5 (pc' := 23) (L' := [.ref 71, .int v4, .int v5]) (S' := [.int ((I 71 2) - v4), .int v5]) (σ' := (97, I, J, R)) rfl ?_
                              refine az_E.br (c := ((I 71 2) - v4) < v5) (tt := 30) (ff := 26) (L' := [.ref 71, .int v4, .int v5]) (S' := []) (σ' := (97, I, J, R)) rfl (fun hc_616 => ?_) (fun hc_616 => ?_)
                              · rw [if_pos hc_616] at h
                                refine az_E.sn 1 (pc' := 31) (L' := [.ref 71, .int v4, .int v5]) (S' := [.int (0 : Int32)]) (σ' := (97, I, J, R)) rfl ?_
                                refine az_E.ret (v := some (.int (0 : Int32))) (σ' := (97, I, J, R)) rfl ?_
                                show az_E az_F ex 2 128 95 [.retAddr 0, .retAddr 0, .int v2, .retAddr 0, .int v4, .int v5, .ref 63, .ref 71] [.int (0 : Int32)] (97, I, J, R) _
                                refine az_E.br (c := (0 : Int32) = 0) (tt := 98) (ff := 101) (L' := [.retAddr 0, .retAddr 0, .int v2, .retAddr 0, .int v4, .int v5, .ref 63, .ref 71]) (S' := []) (σ' := (97, I, J, R)) rfl (fun _ => ?_) (fun hn => absurd (by decide) hn)
                                refine az_E.sn 1 (pc' := 100) (L' := [.retAddr 0, .retAddr 0, .int v2, .retAddr 0, .int v4, .int v5, .ref 63, .ref 71]) (S' := [.int (-13 : Int32)]) (σ' := (97, I, J, R)) rfl ?_
                                have h := Option.some.inj h
                                subst h
                                exact az_E.ret (v := some (.int (-13 : Int32))) (σ' := (97, I, J, R)) rfl hQ
                              · rw [if_neg hc_616] at h
                                refine az_E.sn 2 (pc' := 31) (L' := [.ref 71, .int v4, .int v5]) (S' := [.int (1 : Int32)]) (σ' := (97, I, J, R)) rfl ?_
                                refine az_E.ret (v := some (.int (1 : Int32))) (σ' := (97, I, J, R)) rfl ?_
                                show az_E az_F ex 2 128 95 [.retAddr 0, .retAddr 0, .int v2, .retAddr 0, .int v4, .int v5, .ref 63, .ref 71] [.int (1 : Int32)] (97, I, J, R) _
                                refine az_E.br (c := (1 : Int32) = 0) (tt := 98) (ff := 101) (L' := [.retAddr 0, .retAddr 0, .int v2, .retAddr 0, .int v4, .int v5, .ref 63, .ref 71]) (S' := []) (σ' := (97, I, J, R)) rfl (fun hn => absurd hn (by decide)) (fun _ => ?_)
                                refine az_E.sn 7 (pc' := 116) (L' := [.retAddr 0, .retAddr 0, .int v2, .retAddr 0, .int v4, .int v5, .ref 63, .ref 71]) (S' := [.int v5, .int v4, .ref (71 + 1), .int v2, .ref (63 + 1)]) (σ' := (97, I, J, R)) rfl ?_
                                by_cases hc_617 : v2 < 0 ∨ v4 < 0 ∨ v5 < 0 ∨ 60 < v2.toNatClampNeg + v5.toNatClampNeg ∨ 60 < v4.toNatClampNeg + v5.toNatClampNeg
                                · rw [if_pos hc_617] at h; cases h
                                · rw [if_neg hc_617] at h
                                  refine az_E.o (o := az_cp az_F (97, I, J, R) (63 + 1) v2 (71 + 1) v4 v5) (pc' := 119) (L' := [.retAddr 0, .retAddr 0, .int v2, .retAddr 0, .int v4, .int v5, .ref 63, .ref 71]) (S' := []) (x := (97, I, (az_ur J (71 + 1) (va_cpy (J (63 + 1)) (J (71 + 1)) v2.toNatClampNeg v4.toNatClampNeg v5.toNatClampNeg)), R)) rfl (if_neg hc_617) ?_
                                  refine az_E.sn 1 (pc' := 121) (L' := [.retAddr 0, .retAddr 0, .int v2, .retAddr 0, .int v4, .int v5, .ref 63, .ref 71]) (S' := [.int v5]) (σ' := (97, I, (az_ur J (71 + 1) (va_cpy (J (63 + 1)) (J (71 + 1)) v2.toNatClampNeg v4.toNatClampNeg v5.toNatClampNeg)), R)) rfl ?_
                                  have h := Option.some.inj h
                                  subst h
                                  exact az_E.ret (v := some (.int v5)) (σ' := (97, I, (az_ur J (71 + 1) (va_cpy (J (63 + 1)) (J (71 + 1)) v2.toNatClampNeg v4.toNatClampNeg v5.toNatClampNeg)), R)) rfl hQ
              · rw [if_neg hc_608] at h
                refine az_E.sn 1 (pc' := 20) (L' := [.ref 71, .int (I 63 1)]) (S' := [.int (0 : Int32)]) (σ' := (97, I, J, R)) rfl ?_
                refine az_E.ret (v := some (.int (0 : Int32))) (σ' := (97, I, J, R)) rfl ?_
                show az_E az_F ex 2 128 69 [.retAddr 0, .retAddr 0, .int v2, .retAddr 0, .int v4, .int v5, .ref 63, .ref 71] [.int (0 : Int32)] (97, I, J, R) _
                refine az_E.br (c := (0 : Int32) = 0) (tt := 72) (ff := 75) (L' := [.retAddr 0, .retAddr 0, .int v2, .retAddr 0, .int v4, .int v5, .ref 63, .ref 71]) (S' := []) (σ' := (97, I, J, R)) rfl (fun _ => ?_) (fun hn => absurd (by decide) hn)
                refine az_E.sn 1 (pc' := 74) (L' := [.retAddr 0, .retAddr 0, .int v2, .retAddr 0, .int v4, .int v5, .ref 63, .ref 71]) (S' := [.int (-12 : Int32)]) (σ' := (97, I, J, R)) rfl ?_
                have h := Option.some.inj h
                subst h
                exact az_E.ret (v := some (.int (-12 : Int32))) (σ' := (97, I, J, R)) rfl hQ
      · rw [if_neg hc_604] at h
        refine az_E.sn 1 (pc' := 21) (L' := [.ref 71]) (S' := [.int (0 : Int32)]) (σ' := (97, I, J, R)) rfl ?_
        refine az_E.ret (v := some (.int (0 : Int32))) (σ' := (97, I, J, R)) rfl ?_
        show az_E az_F ex 2 128 45 [.retAddr 0, .retAddr 0, .int v2, .retAddr 0, .int v4, .int v5, .ref 63, .ref 71] [.int (0 : Int32)] (97, I, J, R) _
        refine az_E.br (c := (0 : Int32) = 0) (tt := 51) (ff := 48) (L' := [.retAddr 0, .retAddr 0, .int v2, .retAddr 0, .int v4, .int v5, .ref 63, .ref 71]) (S' := []) (σ' := (97, I, J, R)) rfl (fun _ => ?_) (fun hn => absurd (by decide) hn)
        refine az_E.sn 1 (pc' := 53) (L' := [.retAddr 0, .retAddr 0, .int v2, .retAddr 0, .int v4, .int v5, .ref 63, .ref 71]) (S' := [.ref 63]) (σ' := (97, I, J, R)) rfl ?_
        refine az_E.call (d := 1) (k' := 55) (vs := [.ref 63]) (pc' := 56) (S' := []) rfl ?_ (fun _ _ hq => hq)
        show az_E az_F ex 1 55 0 [.ref 63] [] (97, I, J, R) _
        refine az_E.sn 3 (pc' := 5) (L' := [.ref 63]) (S' := [.int (-1 : Int32), .int (I 63 1)]) (σ' := (97, I, J, R)) rfl ?_
        refine az_E.br (c := (I 63 1) = (-1 : Int32)) (tt := 12) (ff := 8) (L' := [.ref 63]) (S' := []) (σ' := (97, I, J, R)) rfl (fun hc_618 => ?_) (fun hc_618 => ?_)
        · rw [if_pos hc_618] at h
          refine az_E.sn 1 (pc' := 13) (L' := [.ref 63]) (S' := [.int (0 : Int32)]) (σ' := (97, I, J, R)) rfl ?_
          refine az_E.ret (v := some (.int (0 : Int32))) (σ' := (97, I, J, R)) rfl ?_
          show az_E az_F ex 2 128 56 [.retAddr 0, .retAddr 0, .int v2, .retAddr 0, .int v4, .int v5, .ref 63, .ref 71] [.int (0 : Int32)] (97, I, J, R) _
          refine az_E.br (c := (0 : Int32) = 0) (tt := 72) (ff := 59) (L' := [.retAddr 0, .retAddr 0, .int v2, .retAddr 0, .int v4, .int v5, .ref 63, .ref 71]) (S' := []) (σ' := (97, I, J, R)) rfl (fun _ => ?_) (fun hn => absurd (by decide) hn)
          refine az_E.sn 1 (pc' := 74) (L' := [.retAddr 0, .retAddr 0, .int v2, .retAddr 0, .int v4, .int v5, .ref 63, .ref 71]) (S' := [.int (-12 : Int32)]) (σ' := (97, I, J, R)) rfl ?_
          have h := Option.some.inj h
          subst h
          exact az_E.ret (v := some (.int (-12 : Int32))) (σ' := (97, I, J, R)) rfl hQ
        · rw [if_neg hc_618] at h
          refine az_E.sn 2 (pc' := 13) (L' := [.ref 63]) (S' := [.int (1 : Int32)]) (σ' := (97, I, J, R)) rfl ?_
          refine az_E.ret (v := some (.int (1 : Int32))) (σ' := (97, I, J, R)) rfl ?_
          show az_E az_F ex 2 128 56 [.retAddr 0, .retAddr 0, .int v2, .retAddr 0, .int v4, .int v5, .ref 63, .ref 71] [.int (1 : Int32)] (97, I, J, R) _
          refine az_E.br (c := (1 : Int32) = 0) (tt := 72) (ff := 59) (L' := [.retAddr 0, .retAddr 0, .int v2, .retAddr 0, .int v4, .int v5, .ref 63, .ref 71]) (S' := []) (σ' := (97, I, J, R)) rfl (fun hn => absurd hn (by decide)) (fun _ => ?_)
          refine az_E.sn 3 (pc' := 66) (L' := [.retAddr 0, .retAddr 0, .int v2, .retAddr 0, .int v4, .int v5, .ref 63, .ref 71]) (S' := [.int (I 63 1), .ref 71]) (σ' := (97, I, J, R)) rfl ?_
          refine az_E.call (d := 1) (k' := 56) (vs := [.ref 71, .int (I 63 1)]) (pc' := 69) (S' := []) rfl ?_ (fun _ _ hq => hq)
          show az_E az_F ex 1 56 0 [.ref 71, .int (I 63 1)] [] (97, I, J, R) _
          refine az_E.sn 1 (pc' := 1) (L' := [.ref 71, .int (I 63 1)]) (S' := [.ref 71]) (σ' := (97, I, J, R)) rfl ?_
          refine az_E.call (d := 0) (k' := 55) (vs := [.ref 71]) (pc' := 4) (S' := []) rfl ?_ (fun _ _ hq => hq)
          show az_E az_F ex 0 55 0 [.ref 71] [] (97, I, J, R) _
          refine az_E.sn 3 (pc' := 5) (L' := [.ref 71]) (S' := [.int (-1 : Int32), .int (I 71 1)]) (σ' := (97, I, J, R)) rfl ?_
          refine az_E.br (c := (I 71 1) = (-1 : Int32)) (tt := 12) (ff := 8) (L' := [.ref 71]) (S' := []) (σ' := (97, I, J, R)) rfl (fun hc_619 => ?_) (fun hc_619 => ?_)
          · rw [if_pos hc_619] at h
            refine az_E.sn 1 (pc' := 13) (L' := [.ref 71]) (S' := [.int (0 : Int32)]) (σ' := (97, I, J, R)) rfl ?_
            refine az_E.ret (v := some (.int (0 : Int32))) (σ' := (97, I, J, R)) rfl ?_
            show az_E az_F ex 1 56 4 [.ref 71, .int (I 63 1)] [.int (0 : Int32)] (97, I, J, R) _
            refine az_E.br (c := (0 : Int32) = 0) (tt := 19) (ff := 7) (L' := [.ref 71, .int (I 63 1)]) (S' := []) (σ' := (97, I, J, R)) rfl (fun _ => ?_) (fun hn => absurd (by decide) hn)
            refine az_E.sn 1 (pc' := 20) (L' := [.ref 71, .int (I 63 1)]) (S' := [.int (0 : Int32)]) (σ' := (97, I, J, R)) rfl ?_
            refine az_E.ret (v := some (.int (0 : Int32))) (σ' := (97, I, J, R)) rfl ?_
            show az_E az_F ex 2 128 69 [.retAddr 0, .retAddr 0, .int v2, .retAddr 0, .int v4, .int v5, .ref 63, .ref 71] [.int (0 : Int32)] (97, I, J, R) _
            refine az_E.br (c := (0 : Int32) = 0) (tt := 72) (ff := 75) (L' := [.retAddr 0, .retAddr 0, .int v2, .retAddr 0, .int v4, .int v5, .ref 63, .ref 71]) (S' := []) (σ' := (97, I, J, R)) rfl (fun _ => ?_) (fun hn => absurd (by decide) hn)
            refine az_E.sn 1 (pc' := 74) (L' := [.retAddr 0, .retAddr 0, .int v2, .retAddr 0, .int v4, .int v5, .ref 63, .ref 71]) (S' := [.int (-12 : Int32)]) (σ' := (97, I, J, R)) rfl ?_
            have h := Option.some.inj h
            subst h
            exact az_E.ret (v := some (.int (-12 : Int32))) (σ' := (97, I, J, R)) rfl hQ
          · rw [if_neg hc_619] at h
            refine az_E.sn 2 (pc' := 13) (L' := [.ref 71]) (S' := [.int (1 : Int32)]) (σ' := (97, I, J, R)) rfl ?_
            refine az_E.ret (v := some (.int (1 : Int32))) (σ' := (97, I, J, R)) rfl ?_
            show az_E az_F ex 1 56 4 [.ref 71, .int (I 63 1)] [.int (1 : Int32)] (97, I, J, R) _
            refine az_E.br (c := (1 : Int32) = 0) (tt := 19) (ff := 7) (L' := [.ref 71, .int (I 63 1)]) (S' := []) (σ' := (97, I, J, R)) rfl (fun hn => absurd hn (by decide)) (fun _ => ?_)
            refine az_E.sn 3 (pc' := 12) (L' := [.ref 71, .int (I 63 1)]) (S' := [.int (I 63 1), .int (I 71 1)]) (σ' := (97, I, J, R)) rfl ?_
            refine az_E.br (c := (I 71 1) = (I 63 1)) (tt := 15) (ff := 19) (L' := [.ref 71, .int (I 63 1)]) (S' := []) (σ' := (97, I, J, R)) rfl (fun hc_620 => ?_) (fun hc_620 => ?_)
            · rw [if_pos hc_620] at h
              refine az_E.sn 2 (pc' := 20) (L' := [.ref 71, .int (I 63 1)]) (S' := [.int (1 : Int32)]) (σ' := (97, I, J, R)) rfl ?_
              refine az_E.ret (v := some (.int (1 : Int32))) (σ' := (97, I, J, R)) rfl ?_
              show az_E az_F ex 2 128 69 [.retAddr 0, .retAddr 0, .int v2, .retAddr 0, .int v4, .int v5, .ref 63, .ref 71] [.int (1 : Int32)] (97, I, J, R) _
              refine az_E.br (c := (1 : Int32) = 0) (tt := 72) (ff := 75) (L' := [.retAddr 0, .retAddr 0, .int v2, .retAddr 0, .int v4, .int v5, .ref 63, .ref 71]) (S' := []) (σ' := (97, I, J, R)) rfl (fun hn => absurd hn (by decide)) (fun _ => ?_)
              refine az_E.sn 3 (pc' := 80) (L' := [.retAddr 0, .retAddr 0, .int v2, .retAddr 0, .int v4, .int v5, .ref 63, .ref 71]) (S' := [.int v5, .int v2, .ref 63]) (σ' := (97, I, J, R)) rfl ?_
              refine az_E.call (d := 1) (k' := 60) (vs := [.ref 63, .int v2, .int v5]) (pc' := 83) (S' := []) rfl ?_ (fun _ _ hq => hq)
              show az_E az_F ex 1 60 0 [.ref 63, .int v2, .int v5] [] (97, I, J, R) _
              refine az_E.sn 1 (pc' := 1) (L' := [.ref 63, .int v2, .int v5]) (S' := [.int v2]) (σ' := (97, I, J, R)) rfl ?_
              refine az_E.br (c := v2 < 0) (tt := 30) (ff := 4) (L' := [.ref 63, .int v2, .int v5]) (S' := []) (σ' := (97, I, J, R)) rfl (fun hc_621 => ?_) (fun hc_621 => ?_)
              · rw [if_pos hc_621] at h
                refine az_E.sn 1 (pc' := 31) (L' := [.ref 63, .int v2, .int v5]) (S' := [.int (0 : Int32)]) (σ' := (97, I, J, R)) rfl ?_
                refine az_E.ret (v := some (.int (0 : Int32))) (σ' := (97, I, J, R)) rfl ?_
                show az_E az_F ex 2 128 83 [.retAddr 0, .retAddr 0, .int v2, .retAddr 0, .int v4, .int v5, .ref 63, .ref 71] [.int (0 : Int32)] (97, I, J, R) _
                refine az_E.br (c := (0 : Int32) = 0) (tt := 98) (ff := 86) (L' := [.retAddr 0, .retAddr 0, .int v2, .retAddr 0, .int v4, .int v5, .ref 63, .ref 71]) (S' := []) (σ' := (97, I, J, R)) rfl (fun _ => ?_) (fun hn => absurd (by decide) hn)
                refine az_E.sn 1 (pc' := 100) (L' := [.retAddr 0, .retAddr 0, .int v2, .retAddr 0, .int v4, .int v5, .ref 63, .ref 71]) (S' := [.int (-13 : Int32)]) (σ' := (97, I, J, R)) rfl ?_
                have h := Option.some.inj h
                subst h
                exact az_E.ret (v := some (.int (-13 : Int32))) (σ' := (97, I, J, R)) rfl hQ
              · rw [if_neg hc_621] at h
                refine az_E.sn 1 (pc' := 5) (L' := [.ref 63, .int v2, .int v5]) (S' := [.int v5]) (σ' := (97, I, J, R)) rfl ?_
                refine az_E.br (c := v5 < 0) (tt := 30) (ff := 8) (L' := [.ref 63, .int v2, .int v5]) (S' := []) (σ' := (97, I, J, R)) rfl (fun hc_622 => ?_) (fun hc_622 => ?_)
                · rw [if_pos hc_622] at h
                  refine az_E.sn 1 (pc' := 31) (L' := [.ref 63, .int v2, .int v5]) (S' := [.int (0 : Int32)]) (σ' := (97, I, J, R)) rfl ?_
                  refine az_E.ret (v := some (.int (0 : Int32))) (σ' := (97, I, J, R)) rfl ?_
                  show az_E az_F ex 2 128 83 [.retAddr 0, .retAddr 0, .int v2, .retAddr 0, .int v4, .int v5, .ref 63, .ref 71] [.int (0 : Int32)] (97, I, J, R) _
                  refine az_E.br (c := (0 : Int32) = 0) (tt := 98) (ff := 86) (L' := [.retAddr 0, .retAddr 0, .int v2, .retAddr 0, .int v4, .int v5, .ref 63, .ref 71]) (S' := []) (σ' := (97, I, J, R)) rfl (fun _ => ?_) (fun hn => absurd (by decide) hn)
                  refine az_E.sn 1 (pc' := 100) (L' := [.retAddr 0, .retAddr 0, .int v2, .retAddr 0, .int v4, .int v5, .ref 63, .ref 71]) (S' := [.int (-13 : Int32)]) (σ' := (97, I, J, R)) rfl ?_
                  have h := Option.some.inj h
                  subst h
                  exact az_E.ret (v := some (.int (-13 : Int32))) (σ' := (97, I, J, R)) rfl hQ
                · rw [if_neg hc_622] at h
                  refine az_E.sn 3 (pc' := 13) (L' := [.ref 63, .int v2, .int v5]) (S' := [.int (I 63 2), .int v2]) (σ' := (97, I, J, R)) rfl ?_
                  refine az_E.br (c := (I 63 2) < v2) (tt := 30) (ff := 16) (L' := [.ref 63, .int v2, .int v5]) (S' := []) (σ' := (97, I, J, R)) rfl (fun hc_623 => ?_) (fun hc_623 => ?_)
                  · rw [if_pos hc_623] at h
                    refine az_E.sn 1 (pc' := 31) (L' := [.ref 63, .int v2, .int v5]) (S' := [.int (0 : Int32)]) (σ' := (97, I, J, R)) rfl ?_
                    refine az_E.ret (v := some (.int (0 : Int32))) (σ' := (97, I, J, R)) rfl ?_
                    show az_E az_F ex 2 128 83 [.retAddr 0, .retAddr 0, .int v2, .retAddr 0, .int v4, .int v5, .ref 63, .ref 71] [.int (0 : Int32)] (97, I, J, R) _
                    refine az_E.br (c := (0 : Int32) = 0) (tt := 98) (ff := 86) (L' := [.retAddr 0, .retAddr 0, .int v2, .retAddr 0, .int v4, .int v5, .ref 63, .ref 71]) (S' := []) (σ' := (97, I, J, R)) rfl (fun _ => ?_) (fun hn => absurd (by decide) hn)
                    refine az_E.sn 1 (pc' := 100) (L' := [.retAddr 0, .retAddr 0, .int v2, .retAddr 0, .int v4, .int v5, .ref 63, .ref 71]) (S' := [.int (-13 : Int32)]) (σ' := (97, I, J, R)) rfl ?_
                    have h := Option.some.inj h
                    subst h
                    exact az_E.ret (v := some (.int (-13 : Int32))) (σ' := (97, I, J, R)) rfl hQ
                  · rw [if_neg hc_623] at h
                    refine az_E.sn 5 (pc' := 23) (L' := [.ref 63, .int v2, .int v5]) (S' := [.int ((I 63 2) - v2), .int v5]) (σ' := (97, I, J, R)) rfl ?_
                    refine az_E.br (c := ((I 63 2) - v2) < v5) (tt := 30) (ff := 26) (L' := [.ref 63, .int v2, .int v5]) (S' := []) (σ' := (97, I, J, R)) rfl (fun hc_624 => ?_) (fun hc_624 => ?_)
                    · rw [if_pos hc_624] at h
                      refine az_E.sn 1 (pc' := 31) (L' := [.ref 63, .int v2, .int v5]) (S' := [.int (0 : Int32)]) (σ' := (97, I, J, R)) rfl ?_
                      refine az_E.ret (v := some (.int (0 : Int32))) (σ' := (97, I, J, R)) rfl ?_
                      show az_E az_F ex 2 128 83 [.retAddr 0, .retAddr 0, .int v2, .retAddr 0, .int v4, .int v5, .ref 63, .ref 71] [.int (0 : Int32)] (97, I, J, R) _
                      refine az_E.br (c := (0 : Int32) = 0) (tt := 98) (ff := 86) (L' := [.retAddr 0, .retAddr 0, .int v2, .retAddr 0, .int v4, .int v5, .ref 63, .ref 71]) (S' := []) (σ' := (97, I, J, R)) rfl (fun _ => ?_) (fun hn => absurd (by decide) hn)
                      refine az_E.sn 1 (pc' := 100) (L' := [.retAddr 0, .retAddr 0, .int v2, .retAddr 0, .int v4, .int v5, .ref 63, .ref 71]) (S' := [.int (-13 : Int32)]) (σ' := (97, I, J, R)) rfl ?_
                      have h := Option.some.inj h
                      subst h
                      exact az_E.ret (v := some (.int (-13 : Int32))) (σ' := (97, I, J, R)) rfl hQ
                    · rw [if_neg hc_624] at h
                      refine az_E.sn 2 (pc' := 31) (L' := [.ref 63, .int v2, .int v5]) (S' := [.int (1 : Int32)]) (σ' := (97, I, J, R)) rfl ?_
                      refine az_E.ret (v := some (.int (1 : Int32))) (σ' := (97, I, J, R)) rfl ?_
                      show az_E az_F ex 2 128 83 [.retAddr 0, .retAddr 0, .int v2, .retAddr 0, .int v4, .int v5, .ref 63, .ref 71] [.int (1 : Int32)] (97, I, J, R) _
                      refine az_E.br (c := (1 : Int32) = 0) (tt := 98) (ff := 86) (L' := [.retAddr 0, .retAddr 0, .int v2, .retAddr 0, .int v4, .int v5, .ref 63, .ref 71]) (S' := []) (σ' := (97, I, J, R)) rfl (fun hn => absurd hn (by decide)) (fun _ => ?_)
                      refine az_E.sn 3 (pc' := 92) (L' := [.retAddr 0, .retAddr 0, .int v2, .retAddr 0, .int v4, .int v5, .ref 63, .ref 71]) (S' := [.int v5, .int v4, .ref 71]) (σ' := (97, I, J, R)) rfl ?_
                      refine az_E.call (d := 1) (k' := 60) (vs := [.ref 71, .int v4, .int v5]) (pc' := 95) (S' := []) rfl ?_ (fun _ _ hq => hq)
                      show az_E az_F ex 1 60 0 [.ref 71, .int v4, .int v5] [] (97, I, J, R) _
                      refine az_E.sn 1 (pc' := 1) (L' := [.ref 71, .int v4, .int v5]) (S' := [.int v4]) (σ' := (97, I, J, R)) rfl ?_
                      refine az_E.br (c := v4 < 0) (tt := 30) (ff := 4) (L' := [.ref 71, .int v4, .int v5]) (S' := []) (σ' := (97, I, J, R)) rfl (fun hc_625 => ?_) (fun hc_625 => ?_)
                      · rw [if_pos hc_625] at h
                        refine az_E.sn 1 (pc' := 31) (L' := [.ref 71, .int v4, .int v5]) (S' := [.int (0 : Int32)]) (σ' := (97, I, J, R)) rfl ?_
                        refine az_E.ret (v := some (.int (0 : Int32))) (σ' := (97, I, J, R)) rfl ?_
                        show az_E az_F ex 2 128 95 [.retAddr 0, .retAddr 0, .int v2, .retAddr 0, .int v4, .int v5, .ref 63, .ref 71] [.int (0 : Int32)] (97, I, J, R) _
                        refine az_E.br (c := (0 : Int32) = 0) (tt := 98) (ff := 101) (L' := [.retAddr 0, .retAddr 0, .int v2, .retAddr 0, .int v4, .int v5, .ref 63, .ref 71]) (S' := []) (σ' := (97, I, J, R)) rfl (fun _ => ?_) (fun hn => absurd (by decide) hn)
                        refine az_E.sn 1 (pc' := 100) (L' := [.retAddr 0, .retAddr 0, .int v2, .retAddr 0, .int v4, .int v5, .ref 63, .ref 71]) (S' := [.int (-13 : Int32)]) (σ' := (97, I, J, R)) rfl ?_
                        have h := Option.some.inj h
                        subst h
                        exact az_E.ret (v := some (.int (-13 : Int32))) (σ' := (97, I, J, R)) rfl hQ
                      · rw [if_neg hc_625] at h
                        refine az_E.sn 1 (pc' := 5) (L' := [.ref 71, .int v4, .int v5]) (S' := [.int v5]) (σ' := (97, I, J, R)) rfl ?_
                        refine az_E.br (c := v5 < 0) (tt := 30) (ff := 8) (L' := [.ref 71, .int v4, .int v5]) (S' := []) (σ' := (97, I, J, R)) rfl (fun hc_626 => ?_) (fun hc_626 => ?_)
                        · rw [if_pos hc_626] at h
                          refine az_E.sn 1 (pc' := 31) (L' := [.ref 71, .int v4, .int v5]) (S' := [.int (0 : Int32)]) (σ' := (97, I, J, R)) rfl ?_
                          refine az_E.ret (v := some (.int (0 : Int32))) (σ' := (97, I, J, R)) rfl ?_
                          show az_E az_F ex 2 128 95 [.retAddr 0, .retAddr 0, .int v2, .retAddr 0, .int v4, .int v5, .ref 63, .ref 71] [.int (0 : Int32)] (97, I, J, R) _
                          refine az_E.br (c := (0 : Int32) = 0) (tt := 98) (ff := 101) (L' := [.retAddr 0, .retAddr 0, .int v2, .retAddr 0, .int v4, .int v5, .ref 63, .ref 71]) (S' := []) (σ' := (97, I, J, R)) rfl (fun _ => ?_) (fun hn => absurd (by decide) hn)
                          refine az_E.sn 1 (pc' := 100) (L' := [.retAddr 0, .retAddr 0, .int v2, .retAddr 0, .int v4, .int v5, .ref 63, .ref 71]) (S' := [.int (-13 : Int32)]) (σ' := (97, I, J, R)) rfl ?_
                          have h := Option.some.inj h
                          subst h
                          exact az_E.ret (v := some (.int (-13 : Int32))) (σ' := (97, I, J, R)) rfl hQ
                        · rw [if_neg hc_626] at h
                          refine az_E.sn 3 (pc' := 13) (L' := [.ref 71, .int v4, .int v5]) (S' := [.int (I 71 2), .int v4]) (σ' := (97, I, J, R)) rfl ?_
                          refine az_E.br (c := (I 71 2) < v4) (tt := 30) (ff := 16) (L' := [.ref 71, .int v4, .int v5]) (S' := []) (σ' := (97, I, J, R)) rfl (fun hc_627 => ?_) (fun hc_627 => ?_)
                          · rw [if_pos hc_627] at h
                            refine az_E.sn 1 (pc' := 31) (L' := [.ref 71, .int v4, .int v5]) (S' := [.int (0 : Int32)]) (σ' := (97, I, J, R)) rfl ?_
                            refine az_E.ret (v := some (.int (0 : Int32))) (σ' := (97, I, J, R)) rfl ?_
                            show az_E az_F ex 2 128 95 [.retAddr 0, .retAddr 0, .int v2, .retAddr 0, .int v4, .int v5, .ref 63, .ref 71] [.int (0 : Int32)] (97, I, J, R) _
                            refine az_E.br (c := (0 : Int32) = 0) (tt := 98) (ff := 101) (L' := [.retAddr 0, .retAddr 0, .int v2, .retAddr 0, .int v4, .int v5, .ref 63, .ref 71]) (S' := []) (σ' := (97, I, J, R)) rfl (fun _ => ?_) (fun hn => absurd (by decide) hn)
                            refine az_E.sn 1 (pc' := 100) (L' := [.retAddr 0, .retAddr 0, .int v2, .retAddr 0, .int v4, .int v5, .ref 63, .ref 71]) (S' := [.int (-13 : Int32)]) (σ' := (97, I, J, R)) rfl ?_
                            have h := Option.some.inj h
                            subst h
                            exact az_E.ret (v := some (.int (-13 : Int32))) (σ' := (97, I, J, R)) rfl hQ
                          · rw [if_neg hc_627] at h
                            refine az_E.sn 5 (pc' := 23) (L' := [.ref 71, .int v4, .int v5]) (S' := [.int ((I 71 2) - v4), .int v5]) (σ' := (97, I, J, R)) rfl ?_
                            refine az_E.br (c := ((I 71 2) - v4) < v5) (tt := 30) (ff := 26) (L' := [.ref 71, .int v4, .int v5]) (S' := []) (σ' := (97, I, J, R)) rfl (fun hc_628 => ?_) (fun hc_628 => ?_)
                            · rw [if_pos hc_628] at h
                              refine az_E.sn 1 (pc' := 31) (L' := [.ref 71, .int v4, .int v5]) (S' := [.int (0 : Int32)]) (σ' := (97, I, J, R)) rfl ?_
                              refine az_E.ret (v := some (.int (0 : Int32))) (σ' := (97, I, J, R)) rfl ?_
                              show az_E az_F ex 2 128 95 [.retAddr 0, .retAddr 0, .int v2, .retAddr 0, .int v4, .int v5, .ref 63, .ref 71] [.int (0 : Int32)] (97, I, J, R) _
                              refine az_E.br (c := (0 : Int32) = 0) (tt := 98) (ff := 101) (L' := [.retAddr 0, .retAddr 0, .int v2, .retAddr 0, .int v4, .int v5, .ref 63, .ref 71]) (S' := []) (σ' := (97, I, J, R)) rfl (fun _ => ?_) (fun hn => absurd (by decide) hn)
                              refine az_E.sn 1 (pc' := 100) (L' := [.retAddr 0, .retAddr 0, .int v2, .retAddr 0, .int v4, .int v5, .ref 63, .ref 71]) (S' := [.int (-13 : Int32)]) (σ' := (97, I, J, R)) rfl ?_
                              have h := Option.some.inj h
                              subst h
                              exact az_E.ret (v := some (.int (-13 : Int32))) (σ' := (97, I, J, R)) rfl hQ
                            · rw [if_neg hc_628] at h
                              refine az_E.sn 2 (pc' := 31) (L' := [.ref 71, .int v4, .int v5]) (S' := [.int (1 : Int32)]) (σ' := (97, I, J, R)) rfl ?_
                              refine az_E.ret (v := some (.int (1 : Int32))) (σ' := (97, I, J, R)) rfl ?_
                              show az_E az_F ex 2 128 95 [.retAddr 0, .retAddr 0, .int v2, .retAddr 0, .int v4, .int v5, .ref 63, .ref 71] [.int (1 : Int32)] (97, I, J, R) _
                              refine az_E.br (c := (1 : Int32) = 0) (tt := 98) (ff := 101) (L' := [.retAddr 0, .retAddr 0, .int v2, .retAddr 0, .int v4, .int v5, .ref 63, .ref 71]) (S' := []) (σ' := (97, I, J, R)) rfl (fun hn => absurd hn (by decide)) (fun _ => ?_)
                              refine az_E.sn 7 (pc' := 116) (L' := [.retAddr 0, .retAddr 0, .int v2, .retAddr 0, .int v4, .int v5, .ref 63, .ref 71]) (S' := [.int v5, .int v4, .ref (71 + 1), .int v2, .ref (63 + 1)]) (σ' := (97, I, J, R)) rfl ?_
                              by_cases hc_629 : v2 < 0 ∨ v4 < 0 ∨ v5 < 0 ∨ 60 < v2.toNatClampNeg + v5.toNatClampNeg ∨ 60 < v4.toNatClampNeg + v5.toNatClampNeg
                              · rw [if_pos hc_629] at h; cases h
                              · rw [if_neg hc_629] at h
                                refine az_E.o (o := az_cp az_F (97, I, J, R) (63 + 1) v2 (71 + 1) v4 v5) (pc' := 119) (L' := [.retAddr 0, .retAddr 0, .int v2, .retAddr 0, .int v4, .int v5, .ref 63, .ref 71]) (S' := []) (x := (97, I, (az_ur J (71 + 1) (va_cpy (J (63 + 1)) (J (71 + 1)) v2.toNatClampNeg v4.toNatClampNeg v5.toNatClampNeg)), R)) rfl (if_neg hc_629) ?_
                                refine az_E.sn 1 (pc' := 121) (L' := [.retAddr 0, .retAddr 0, .int v2, .retAddr 0, .int v4, .int v5, .ref 63, .ref 71]) (S' := [.int v5]) (σ' := (97, I, (az_ur J (71 + 1) (va_cpy (J (63 + 1)) (J (71 + 1)) v2.toNatClampNeg v4.toNatClampNeg v5.toNatClampNeg)), R)) rfl ?_
                                have h := Option.some.inj h
                                subst h
                                exact az_E.ret (v := some (.int v5)) (σ' := (97, I, (az_ur J (71 + 1) (va_cpy (J (63 + 1)) (J (71 + 1)) v2.toNatClampNeg v4.toNatClampNeg v5.toNatClampNeg)), R)) rfl hQ
            · rw [if_neg hc_620] at h
              refine az_E.sn 1 (pc' := 20) (L' := [.ref 71, .int (I 63 1)]) (S' := [.int (0 : Int32)]) (σ' := (97, I, J, R)) rfl ?_
              refine az_E.ret (v := some (.int (0 : Int32))) (σ' := (97, I, J, R)) rfl ?_
              show az_E az_F ex 2 128 69 [.retAddr 0, .retAddr 0, .int v2, .retAddr 0, .int v4, .int v5, .ref 63, .ref 71] [.int (0 : Int32)] (97, I, J, R) _
              refine az_E.br (c := (0 : Int32) = 0) (tt := 72) (ff := 75) (L' := [.retAddr 0, .retAddr 0, .int v2, .retAddr 0, .int v4, .int v5, .ref 63, .ref 71]) (S' := []) (σ' := (97, I, J, R)) rfl (fun _ => ?_) (fun hn => absurd (by decide) hn)
              refine az_E.sn 1 (pc' := 74) (L' := [.retAddr 0, .retAddr 0, .int v2, .retAddr 0, .int v4, .int v5, .ref 63, .ref 71]) (S' := [.int (-12 : Int32)]) (σ' := (97, I, J, R)) rfl ?_
              have h := Option.some.inj h
              subst h
              exact az_E.ret (v := some (.int (-12 : Int32))) (σ' := (97, I, J, R)) rfl hQ
  · rw [if_neg hc_602] at h
    refine az_E.sn 1 (pc' := 21) (L' := [.ref 63]) (S' := [.int (0 : Int32)]) (σ' := (97, I, J, R)) rfl ?_
    refine az_E.ret (v := some (.int (0 : Int32))) (σ' := (97, I, J, R)) rfl ?_
    show az_E az_F ex 2 128 37 [.retAddr 0, .retAddr 0, .int v2, .retAddr 0, .int v4, .int v5, .ref 63, .ref 71] [.int (0 : Int32)] (97, I, J, R) _
    refine az_E.br (c := (0 : Int32) = 0) (tt := 40) (ff := 48) (L' := [.retAddr 0, .retAddr 0, .int v2, .retAddr 0, .int v4, .int v5, .ref 63, .ref 71]) (S' := []) (σ' := (97, I, J, R)) rfl (fun _ => ?_) (fun hn => absurd (by decide) hn)
    refine az_E.sn 1 (pc' := 42) (L' := [.retAddr 0, .retAddr 0, .int v2, .retAddr 0, .int v4, .int v5, .ref 63, .ref 71]) (S' := [.ref 71]) (σ' := (97, I, J, R)) rfl ?_
    refine az_E.call (d := 1) (k' := 54) (vs := [.ref 71]) (pc' := 45) (S' := []) rfl ?_ (fun _ _ hq => hq)
    show az_E az_F ex 1 54 0 [.ref 71] [] (97, I, J, R) _
    refine az_E.sn 3 (pc' := 5) (L' := [.ref 71]) (S' := [.int (-1 : Int32), .int (I 71 0)]) (σ' := (97, I, J, R)) rfl ?_
    refine az_E.br (c := (I 71 0) = (-1 : Int32)) (tt := 8) (ff := 20) (L' := [.ref 71]) (S' := []) (σ' := (97, I, J, R)) rfl (fun hc_630 => ?_) (fun hc_630 => ?_)
    · rw [if_pos hc_630] at h
      refine az_E.sn 3 (pc' := 13) (L' := [.ref 71]) (S' := [.int (-1 : Int32), .int (I 71 1)]) (σ' := (97, I, J, R)) rfl ?_
      refine az_E.br (c := (I 71 1) = (-1 : Int32)) (tt := 16) (ff := 20) (L' := [.ref 71]) (S' := []) (σ' := (97, I, J, R)) rfl (fun hc_631 => ?_) (fun hc_631 => ?_)
      · rw [if_pos hc_631] at h
        refine az_E.sn 2 (pc' := 21) (L' := [.ref 71]) (S' := [.int (1 : Int32)]) (σ' := (97, I, J, R)) rfl ?_
        refine az_E.ret (v := some (.int (1 : Int32))) (σ' := (97, I, J, R)) rfl ?_
        show az_E az_F ex 2 128 45 [.retAddr 0, .retAddr 0, .int v2, .retAddr 0, .int v4, .int v5, .ref 63, .ref 71] [.int (1 : Int32)] (97, I, J, R) _
        refine az_E.br (c := (1 : Int32) = 0) (tt := 51) (ff := 48) (L' := [.retAddr 0, .retAddr 0, .int v2, .retAddr 0, .int v4, .int v5, .ref 63, .ref 71]) (S' := []) (σ' := (97, I, J, R)) rfl (fun hn => absurd hn (by decide)) (fun _ => ?_)
        refine az_E.sn 1 (pc' := 50) (L' := [.retAddr 0, .retAddr 0, .int v2, .retAddr 0, .int v4, .int v5, .ref 63, .ref 71]) (S' := [.int (-11 : Int32)]) (σ' := (97, I, J, R)) rfl ?_
        have h := Option.some.inj h
        subst h
        exact az_E.ret (v := some (.int (-11 : Int32))) (σ' := (97, I, J, R)) rfl hQ
      · rw [if_neg hc_631] at h
        refine az_E.sn 1 (pc' := 21) (L' := [.ref 71]) (S' := [.int (0 : Int32)]) (σ' := (97, I, J, R)) rfl ?_
        refine az_E.ret (v := some (.int (0 : Int32))) (σ' := (97, I, J, R)) rfl ?_
        show az_E az_F ex 2 128 45 [.retAddr 0, .retAddr 0, .int v2, .retAddr 0, .int v4, .int v5, .ref 63, .ref 71] [.int (0 : Int32)] (97, I, J, R) _
        refine az_E.br (c := (0 : Int32) = 0) (tt := 51) (ff := 48) (L' := [.retAddr 0, .retAddr 0, .int v2, .retAddr 0, .int v4, .int v5, .ref 63, .ref 71]) (S' := []) (σ' := (97, I, J, R)) rfl (fun _ => ?_) (fun hn => absurd (by decide) hn)
        refine az_E.sn 1 (pc' := 53) (L' := [.retAddr 0, .retAddr 0, .int v2, .retAddr 0, .int v4, .int v5, .ref 63, .ref 71]) (S' := [.ref 63]) (σ' := (97, I, J, R)) rfl ?_
        refine az_E.call (d := 1) (k' := 55) (vs := [.ref 63]) (pc' := 56) (S' := []) rfl ?_ (fun _ _ hq => hq)
        show az_E az_F ex 1 55 0 [.ref 63] [] (97, I, J, R) _
        refine az_E.sn 3 (pc' := 5) (L' := [.ref 63]) (S' := [.int (-1 : Int32), .int (I 63 1)]) (σ' := (97, I, J, R)) rfl ?_
        refine az_E.br (c := (I 63 1) = (-1 : Int32)) (tt := 12) (ff := 8) (L' := [.ref 63]) (S' := []) (σ' := (97, I, J, R)) rfl (fun hc_632 => ?_) (fun hc_632 => ?_)
        · rw [if_pos hc_632] at h
          refine az_E.sn 1 (pc' := 13) (L' := [.ref 63]) (S' := [.int (0 : Int32)]) (σ' := (97, I, J, R)) rfl ?_
          refine az_E.ret (v := some (.int (0 : Int32))) (σ' := (97, I, J, R)) rfl ?_
          show az_E az_F ex 2 128 56 [.retAddr 0, .retAddr 0, .int v2, .retAddr 0, .int v4, .int v5, .ref 63, .ref 71] [.int (0 : Int32)] (97, I, J, R) _
          refine az_E.br (c := (0 : Int32) = 0) (tt := 72) (ff := 59) (L' := [.retAddr 0, .retAddr 0, .int v2, .retAddr 0, .int v4, .int v5, .ref 63, .ref 71]) (S' := []) (σ' := (97, I, J, R)) rfl (fun _ => ?_) (fun hn => absurd (by decide) hn)
          refine az_E.sn 1 (pc' := 74) (L' := [.retAddr 0, .retAddr 0, .int v2, .retAddr 0, .int v4, .int v5, .ref 63, .ref 71]) (S' := [.int (-12 : Int32)]) (σ' := (97, I, J, R)) rfl ?_
          have h := Option.some.inj h
          subst h
          exact az_E.ret (v := some (.int (-12 : Int32))) (σ' := (97, I, J, R)) rfl hQ
        · rw [if_neg hc_632] at h
          refine az_E.sn 2 (pc' := 13) (L' := [.ref 63]) (S' := [.int (1 : Int32)]) (σ' := (97, I, J, R)) rfl ?_
          refine az_E.ret (v := some (.int (1 : Int32))) (σ' := (97, I, J, R)) rfl ?_
          show az_E az_F ex 2 128 56 [.retAddr 0, .retAddr 0, .int v2, .retAddr 0, .int v4, .int v5, .ref 63, .ref 71] [.int (1 : Int32)] (97, I, J, R) _
          refine az_E.br (c := (1 : Int32) = 0) (tt := 72) (ff := 59) (L' := [.retAddr 0, .retAddr 0, .int v2, .retAddr 0, .int v4, .int v5, .ref 63, .ref 71]) (S' := []) (σ' := (97, I, J, R)) rfl (fun hn => absurd hn (by decide)) (fun _ => ?_)
          refine az_E.sn 3 (pc' := 66) (L' := [.retAddr 0, .retAddr 0, .int v2, .retAddr 0, .int v4, .int v5, .ref 63, .ref 71]) (S' := [.int (I 63 1), .ref 71]) (σ' := (97, I, J, R)) rfl ?_
          refine az_E.call (d := 1) (k' := 56) (vs := [.ref 71, .int (I 63 1)]) (pc' := 69) (S' := []) rfl ?_ (fun _ _ hq => hq)
          show az_E az_F ex 1 56 0 [.ref 71, .int (I 63 1)] [] (97, I, J, R) _
          refine az_E.sn 1 (pc' := 1) (L' := [.ref 71, .int (I 63 1)]) (S' := [.ref 71]) (σ' := (97, I, J, R)) rfl ?_
          refine az_E.call (d := 0) (k' := 55) (vs := [.ref 71]) (pc' := 4) (S' := []) rfl ?_ (fun _ _ hq => hq)
          show az_E az_F ex 0 55 0 [.ref 71] [] (97, I, J, R) _
          refine az_E.sn 3 (pc' := 5) (L' := [.ref 71]) (S' := [.int (-1 : Int32), .int (I 71 1)]) (σ' := (97, I, J, R)) rfl ?_
          refine az_E.br (c := (I 71 1) = (-1 : Int32)) (tt := 12) (ff := 8) (L' := [.ref 71]) (S' := []) (σ' := (97, I, J, R)) rfl (fun hc_633 => ?_) (fun hc_633 => ?_)
          · rw [if_pos hc_633] at h
            refine az_E.sn 1 (pc' := 13) (L' := [.ref 71]) (S' := [.int (0 : Int32)]) (σ' := (97, I, J, R)) rfl ?_
            refine az_E.ret (v := some (.int (0 : Int32))) (σ' := (97, I, J, R)) rfl ?_
            show az_E az_F ex 1 56 4 [.ref 71, .int (I 63 1)] [.int (0 : Int32)] (97, I, J, R) _
            refine az_E.br (c := (0 : Int32) = 0) (tt := 19) (ff := 7) (L' := [.ref 71, .int (I 63 1)]) (S' := []) (σ' := (97, I, J, R)) rfl (fun _ => ?_) (fun hn => absurd (by decide) hn)
            refine az_E.sn 1 (pc' := 20) (L' := [.ref 71, .int (I 63 1)]) (S' := [.int (0 : Int32)]) (σ' := (97, I, J, R)) rfl ?_
            refine az_E.ret (v := some (.int (0 : Int32))) (σ' := (97, I, J, R)) rfl ?_
            show az_E az_F ex 2 128 69 [.retAddr 0, .retAddr 0, .int v2, .retAddr 0, .int v4, .int v5, .ref 63, .ref 71] [.int (0 : Int32)] (97, I, J, R) _
            refine az_E.br (c := (0 : Int32) = 0) (tt := 72) (ff := 75) (L' := [.retAddr 0, .retAddr 0, .int v2, .retAddr 0, .int v4, .int v5, .ref 63, .ref 71]) (S' := []) (σ' := (97, I, J, R)) rfl (fun _ => ?_) (fun hn => absurd (by decide) hn)
            refine az_E.sn 1 (pc' := 74) (L' := [.retAddr 0, .retAddr 0, .int v2, .retAddr 0, .int v4, .int v5, .ref 63, .ref 71]) (S' := [.int (-12 : Int32)]) (σ' := (97, I, J, R)) rfl ?_
            have h := Option.some.inj h
            subst h
            exact az_E.ret (v := some (.int (-12 : Int32))) (σ' := (97, I, J, R)) rfl hQ
          · rw [if_neg hc_633] at h
            refine az_E.sn 2 (pc' := 13) (L' := [.ref 71]) (S' := [.int (1 : Int32)]) (σ' := (97, I, J, R)) rfl ?_
            refine az_E.ret (v := some (.int (1 : Int32))) (σ' := (97, I, J, R)) rfl ?_
            show az_E az_F ex 1 56 4 [.ref 71, .int (I 63 1)] [.int (1 : Int32)] (97, I, J, R) _
            refine az_E.br (c := (1 : Int32) = 0) (tt := 19) (ff := 7) (L' := [.ref 71, .int (I 63 1)]) (S' := []) (σ' := (97, I, J, R)) rfl (fun hn => absurd hn (by decide)) (fun _ => ?_)
            refine az_E.sn 3 (pc' := 12) (L' := [.ref 71, .int (I 63 1)]) (S' := [.int (I 63 1), .int (I 71 1)]) (σ' := (97, I, J, R)) rfl ?_
            refine az_E.br (c := (I 71 1) = (I 63 1)) (tt := 15) (ff := 19) (L' := [.ref 71, .int (I 63 1)]) (S' := []) (σ' := (97, I, J, R)) rfl (fun hc_634 => ?_) (fun hc_634 => ?_)
            · rw [if_pos hc_634] at h
              refine az_E.sn 2 (pc' := 20) (L' := [.ref 71, .int (I 63 1)]) (S' := [.int (1 : Int32)]) (σ' := (97, I, J, R)) rfl ?_
              refine az_E.ret (v := some (.int (1 : Int32))) (σ' := (97, I, J, R)) rfl ?_
              show az_E az_F ex 2 128 69 [.retAddr 0, .retAddr 0, .int v2, .retAddr 0, .int v4, .int v5, .ref 63, .ref 71] [.int (1 : Int32)] (97, I, J, R) _
              refine az_E.br (c := (1 : Int32) = 0) (tt := 72) (ff := 75) (L' := [.retAddr 0, .retAddr 0, .int v2, .retAddr 0, .int v4, .int v5, .ref 63, .ref 71]) (S' := []) (σ' := (97, I, J, R)) rfl (fun hn => absurd hn (by decide)) (fun _ => ?_)
              refine az_E.sn 3 (pc' := 80) (L' := [.retAddr 0, .retAddr 0, .int v2, .retAddr 0, .int v4, .int v5, .ref 63, .ref 71]) (S' := [.int v5, .int v2, .ref 63]) (σ' := (97, I, J, R)) rfl ?_
              refine az_E.call (d := 1) (k' := 60) (vs := [.ref 63, .int v2, .int v5]) (pc' := 83) (S' := []) rfl ?_ (fun _ _ hq => hq)
              show az_E az_F ex 1 60 0 [.ref 63, .int v2, .int v5] [] (97, I, J, R) _
              refine az_E.sn 1 (pc' := 1) (L' := [.ref 63, .int v2, .int v5]) (S' := [.int v2]) (σ' := (97, I, J, R)) rfl ?_
              refine az_E.br (c := v2 < 0) (tt := 30) (ff := 4) (L' := [.ref 63, .int v2, .int v5]) (S' := []) (σ' := (97, I, J, R)) rfl (fun hc_635 => ?_) (fun hc_635 => ?_)
              · rw [if_pos hc_635] at h
                refine az_E.sn 1 (pc' := 31) (L' := [.ref 63, .int v2, .int v5]) (S' := [.int (0 : Int32)]) (σ' := (97, I, J, R)) rfl ?_
                refine az_E.ret (v := some (.int (0 : Int32))) (σ' := (97, I, J, R)) rfl ?_
                show az_E az_F ex 2 128 83 [.retAddr 0, .retAddr 0, .int v2, .retAddr 0, .int v4, .int v5, .ref 63, .ref 71] [.int (0 : Int32)] (97, I, J, R) _
                refine az_E.br (c := (0 : Int32) = 0) (tt := 98) (ff := 86) (L' := [.retAddr 0, .retAddr 0, .int v2, .retAddr 0, .int v4, .int v5, .ref 63, .ref 71]) (S' := []) (σ' := (97, I, J, R)) rfl (fun _ => ?_) (fun hn => absurd (by decide) hn)
                refine az_E.sn 1 (pc' := 100) (L' := [.retAddr 0, .retAddr 0, .int v2, .retAddr 0, .int v4, .int v5, .ref 63, .ref 71]) (S' := [.int (-13 : Int32)]) (σ' := (97, I, J, R)) rfl ?_
                have h := Option.some.inj h
                subst h
                exact az_E.ret (v := some (.int (-13 : Int32))) (σ' := (97, I, J, R)) rfl hQ
              · rw [if_neg hc_635] at h
                refine az_E.sn 1 (pc' := 5) (L' := [.ref 63, .int v2, .int v5]) (S' := [.int v5]) (σ' := (97, I, J, R)) rfl ?_
                refine az_E.br (c := v5 < 0) (tt := 30) (ff := 8) (L' := [.ref 63, .int v2, .int v5]) (S' := []) (σ' := (97, I, J, R)) rfl (fun hc_636 => ?_) (fun hc_636 => ?_)
                · rw [if_pos hc_636] at h
                  refine az_E.sn 1 (pc' := 31) (L' := [.ref 63, .int v2, .int v5]) (S' := [.int (0 : Int32)]) (σ' := (97, I, J, R)) rfl ?_
                  refine az_E.ret (v := some (.int (0 : Int32))) (σ' := (97, I, J, R)) rfl ?_
                  show az_E az_F ex 2 128 83 [.retAddr 0, .retAddr 0, .int v2, .retAddr 0, .int v4, .int v5, .ref 63, .ref 71] [.int (0 : Int32)] (97, I, J, R) _
                  refine az_E.br (c := (0 : Int32) = 0) (tt := 98) (ff := 86) (L' := [.retAddr 0, .retAddr 0, .int v2, .retAddr 0, .int v4, .int v5, .ref 63, .ref 71]) (S' := []) (σ' := (97, I, J, R)) rfl (fun _ => ?_) (fun hn => absurd (by decide) hn)
                  refine az_E.sn 1 (pc' := 100) (L' := [.retAddr 0, .retAddr 0, .int v2, .retAddr 0, .int v4, .int v5, .ref 63, .ref 71]) (S' := [.int (-13 : Int32)]) (σ' := (97, I, J, R)) rfl ?_
                  have h := Option.some.inj h
                  subst h
                  exact az_E.ret (v := some (.int (-13 : Int32))) (σ' := (97, I, J, R)) rfl hQ
                · rw [if_neg hc_636] at h
                  refine az_E.sn 3 (pc' := 13) (L' := [.ref 63, .int v2, .int v5]) (S' := [.int (I 63 2), .int v2]) (σ' := (97, I, J, R)) rfl ?_
                  refine az_E.br (c := (I 63 2) < v2) (tt := 30) (ff := 16) (L' := [.ref 63, .int v2, .int v5]) (S' := []) (σ' := (97, I, J, R)) rfl (fun hc_637 => ?_) (fun hc_637 => ?_)
                  · rw [if_pos hc_637] at h
                    refine az_E.sn 1 (pc' := 31) (L' := [.ref 63, .int v2, .int v5]) (S' := [.int (0 : Int32)]) (σ' := (97, I, J, R)) rfl ?_
                    refine az_E.ret (v := some (.int (0 : Int32))) (σ' := (97, I, J, R)) rfl ?_
                    show az_E az_F ex 2 128 83 [.retAddr 0, .retAddr 0, .int v2, .retAddr 0, .int v4, .int v5, .ref 63, .ref 71] [.int (0 : Int32)] (97, I, J, R) _
                    refine az_E.br (c := (0 : Int32) = 0) (tt := 98) (ff := 86) (L' := [.retAddr 0, .retAddr 0, .int v2, .retAddr 0, .int v4, .int v5, .ref 63, .ref 71]) (S' := []) (σ' := (97, I, J, R)) rfl (fun _ => ?_) (fun hn => absurd (by decide) hn)
                    refine az_E.sn 1 (pc' := 100) (L' := [.retAddr 0, .retAddr 0, .int v2, .retAddr 0, .int v4, .int v5, .ref 63, .ref 71]) (S' := [.int (-13 : Int32)]) (σ' := (97, I, J, R)) rfl ?_
                    have h := Option.some.inj h
                    subst h
                    exact az_E.ret (v := some (.int (-13 : Int32))) (σ' := (97, I, J, R)) rfl hQ
                  · rw [if_neg hc_637] at h
                    refine az_E.sn 5 (pc' := 23) (L' := [.ref 63, .int v2, .int v5]) (S' := [.int ((I 63 2) - v2), .int v5]) (σ' := (97, I, J, R)) rfl ?_
                    refine az_E.br (c := ((I 63 2) - v2) < v5) (tt := 30) (ff := 26) (L' := [.ref 63, .int v2, .int v5]) (S' := []) (σ' := (97, I, J, R)) rfl (fun hc_638 => ?_) (fun hc_638 => ?_)
                    · rw [if_pos hc_638] at h
                      refine az_E.sn 1 (pc' := 31) (L' := [.ref 63, .int v2, .int v5]) (S' := [.int (0 : Int32)]) (σ' := (97, I, J, R)) rfl ?_
                      refine az_E.ret (v := some (.int (0 : Int32))) (σ' := (97, I, J, R)) rfl ?_
                      show az_E az_F ex 2 128 83 [.retAddr 0, .retAddr 0, .int v2, .retAddr 0, .int v4, .int v5, .ref 63, .ref 71] [.int (0 : Int32)] (97, I, J, R) _
                      refine az_E.br (c := (0 : Int32) = 0) (tt := 98) (ff := 86) (L' := [.retAddr 0, .retAddr 0, .int v2, .retAddr 0, .int v4, .int v5, .ref 63, .ref 71]) (S' := []) (σ' := (97, I, J, R)) rfl (fun _ => ?_) (fun hn => absurd (by decide) hn)
                      refine az_E.sn 1 (pc' := 100) (L' := [.retAddr 0, .retAddr 0, .int v2, .retAddr 0, .int v4, .int v5, .ref 63, .ref 71]) (S' := [.int (-13 : Int32)]) (σ' := (97, I, J, R)) rfl ?_
                      have h := Option.some.inj h
                      subst h
                      exact az_E.ret (v := some (.int (-13 : Int32))) (σ' := (97, I, J, R)) rfl hQ
                    · rw [if_neg hc_638] at h
                      refine az_E.sn 2 (pc' := 31) (L' := [.ref 63, .int v2, .int v5]) (S' := [.int (1 : Int32)]) (σ' := (97, I, J, R)) rfl ?_
                      refine az_E.ret (v := some (.int (1 : Int32))) (σ' := (97, I, J, R)) rfl ?_
                      show az_E az_F ex 2 128 83 [.retAddr 0, .retAddr 0, .int v2, .retAddr 0, .int v4, .int v5, .ref 63, .ref 71] [.int (1 : Int32)] (97, I, J, R) _
                      refine az_E.br (c := (1 : Int32) = 0) (tt := 98) (ff := 86) (L' := [.retAddr 0, .retAddr 0, .int v2, .retAddr 0, .int v4, .int v5, .ref 63, .ref 71]) (S' := []) (σ' := (97, I, J, R)) rfl (fun hn => absurd hn (by decide)) (fun _ => ?_)
                      refine az_E.sn 3 (pc' := 92) (L' := [.retAddr 0, .retAddr 0, .int v2, .retAddr 0, .int v4, .int v5, .ref 63, .ref 71]) (S' := [.int v5, .int v4, .ref 71]) (σ' := (97, I, J, R)) rfl ?_
                      refine az_E.call (d := 1) (k' := 60) (vs := [.ref 71, .int v4, .int v5]) (pc' := 95) (S' := []) rfl ?_ (fun _ _ hq => hq)
                      show az_E az_F ex 1 60 0 [.ref 71, .int v4, .int v5] [] (97, I, J, R) _
                      refine az_E.sn 1 (pc' := 1) (L' := [.ref 71, .int v4, .int v5]) (S' := [.int v4]) (σ' := (97, I, J, R)) rfl ?_
                      refine az_E.br (c := v4 < 0) (tt := 30) (ff := 4) (L' := [.ref 71, .int v4, .int v5]) (S' := []) (σ' := (97, I, J, R)) rfl (fun hc_639 => ?_) (fun hc_639 => ?_)
                      · rw [if_pos hc_639] at h
                        refine az_E.sn 1 (pc' := 31) (L' := [.ref 71, .int v4, .int v5]) (S' := [.int (0 : Int32)]) (σ' := (97, I, J, R)) rfl ?_
                        refine az_E.ret (v := some (.int (0 : Int32))) (σ' := (97, I, J, R)) rfl ?_
                        show az_E az_F ex 2 128 95 [.retAddr 0, .retAddr 0, .int v2, .retAddr 0, .int v4, .int v5, .ref 63, .ref 71] [.int (0 : Int32)] (97, I, J, R) _
                        refine az_E.br (c := (0 : Int32) = 0) (tt := 98) (ff := 101) (L' := [.retAddr 0, .retAddr 0, .int v2, .retAddr 0, .int v4, .int v5, .ref 63, .ref 71]) (S' := []) (σ' := (97, I, J, R)) rfl (fun _ => ?_) (fun hn => absurd (by decide) hn)
                        refine az_E.sn 1 (pc' := 100) (L' := [.retAddr 0, .retAddr 0, .int v2, .retAddr 0, .int v4, .int v5, .ref 63, .ref 71]) (S' := [.int (-13 : Int32)]) (σ' := (97, I, J, R)) rfl ?_
                        have h := Option.some.inj h
                        subst h
                        exact az_E.ret (v := some (.int (-13 : Int32))) (σ' := (97, I, J, R)) rfl hQ
                      · rw [if_neg hc_639] at h
                        refine az_E.sn 1 (pc' := 5) (L' := [.ref 71, .int v4, .int v5]) (S' := [.int v5]) (σ' := (97, I, J, R)) rfl ?_
                        refine az_E.br (c := v5 < 0) (tt := 30) (ff := 8) (L' := [.ref 71, .int v4, .int v5]) (S' := []) (σ' := (97, I, J, R)) rfl (fun hc_640 => ?_) (fun hc_640 => ?_)
                        · rw [if_pos hc_640] at h
                          refine az_E.sn 1 (pc' := 31) (L' := [.ref 71, .int v4, .int v5]) (S' := [.int (0 : Int32)]) (σ' := (97, I, J, R)) rfl ?_
                          refine az_E.ret (v := some (.int (0 : Int32))) (σ' := (97, I, J, R)) rfl ?_
                          show az_E az_F ex 2 128 95 [.retAddr 0, .retAddr 0, .int v2, .retAddr 0, .int v4, .int v5, .ref 63, .ref 71] [.int (0 : Int32)] (97, I, J, R) _
                          refine az_E.br (c := (0 : Int32) = 0) (tt := 98) (ff := 101) (L' := [.retAddr 0, .retAddr 0, .int v2, .retAddr 0, .int v4, .int v5, .ref 63, .ref 71]) (S' := []) (σ' := (97, I, J, R)) rfl (fun _ => ?_) (fun hn => absurd (by decide) hn)
                          refine az_E.sn 1 (pc' := 100) (L' := [.retAddr 0, .retAddr 0, .int v2, .retAddr 0, .int v4, .int v5, .ref 63, .ref 71]) (S' := [.int (-13 : Int32)]) (σ' := (97, I, J, R)) rfl ?_
                          have h := Option.some.inj h
                          subst h
                          exact az_E.ret (v := some (.int (-13 : Int32))) (σ' := (97, I, J, R)) rfl hQ
                        · rw [if_neg hc_640] at h
                          refine az_E.sn 3 (pc' := 13) (L' := [.ref 71, .int v4, .int v5]) (S' := [.int (I 71 2), .int v4]) (σ' := (97, I, J, R)) rfl ?_
                          refine az_E.br (c := (I 71 2) < v4) (tt := 30) (ff := 16) (L' := [.ref 71, .int v4, .int v5]) (S' := []) (σ' := (97, I, J, R)) rfl (fun hc_641 => ?_) (fun hc_641 => ?_)
                          · rw [if_pos hc_641] at h
                            refine az_E.sn 1 (pc' := 31) (L' := [.ref 71, .int v4, .int v5]) (S' := [.int (0 : Int32)]) (σ' := (97, I, J, R)) rfl ?_
                            refine az_E.ret (v := some (.int (0 : Int32))) (σ' := (97, I, J, R)) rfl ?_
                            show az_E az_F ex 2 128 95 [.retAddr 0, .retAddr 0, .int v2, .retAddr 0, .int v4, .int v5, .ref 63, .ref 71] [.int (0 : Int32)] (97, I, J, R) _
                            refine az_E.br (c := (0 : Int32) = 0) (tt := 98) (ff := 101) (L' := [.retAddr 0, .retAddr 0, .int v2, .retAddr 0, .int v4, .int v5, .ref 63, .ref 71]) (S' := []) (σ' := (97, I, J, R)) rfl (fun _ => ?_) (fun hn => absurd (by decide) hn)
                            refine az_E.sn 1 (pc' := 100) (L' := [.retAddr 0, .retAddr 0, .int v2, .retAddr 0, .int v4, .int v5, .ref 63, .ref 71]) (S' := [.int (-13 : Int32)]) (σ' := (97, I, J, R)) rfl ?_
                            have h := Option.some.inj h
                            subst h
                            exact az_E.ret (v := some (.int (-13 : Int32))) (σ' := (97, I, J, R)) rfl hQ
                          · rw [if_neg hc_641] at h
                            refine az_E.sn 5 (pc' := 23) (L' := [.ref 71, .int v4, .int v5]) (S' := [.int ((I 71 2) - v4), .int v5]) (σ' := (97, I, J, R)) rfl ?_
                            refine az_E.br (c := ((I 71 2) - v4) < v5) (tt := 30) (ff := 26) (L' := [.ref 71, .int v4, .int v5]) (S' := []) (σ' := (97, I, J, R)) rfl (fun hc_642 => ?_) (fun hc_642 => ?_)
                            · rw [if_pos hc_642] at h
                              refine az_E.sn 1 (pc' := 31) (L' := [.ref 71, .int v4, .int v5]) (S' := [.int (0 : Int32)]) (σ' := (97, I, J, R)) rfl ?_
                              refine az_E.ret (v := some (.int (0 : Int32))) (σ' := (97, I, J, R)) rfl ?_
                              show az_E az_F ex 2 128 95 [.retAddr 0, .retAddr 0, .int v2, .retAddr 0, .int v4, .int v5, .ref 63, .ref 71] [.int (0 : Int32)] (97, I, J, R) _
                              refine az_E.br (c := (0 : Int32) = 0) (tt := 98) (ff := 101) (L' := [.retAddr 0, .retAddr 0, .int v2, .retAddr 0, .int v4, .int v5, .ref 63, .ref 71]) (S' := []) (σ' := (97, I, J, R)) rfl (fun _ => ?_) (fun hn => absurd (by decide) hn)
                              refine az_E.sn 1 (pc' := 100) (L' := [.retAddr 0, .retAddr 0, .int v2, .retAddr 0, .int v4, .int v5, .ref 63, .ref 71]) (S' := [.int (-13 : Int32)]) (σ' := (97, I, J, R)) rfl ?_
                              have h := Option.some.inj h
                              subst h
                              exact az_E.ret (v := some (.int (-13 : Int32))) (σ' := (97, I, J, R)) rfl hQ
                            · rw [if_neg hc_642] at h
                              refine az_E.sn 2 (pc' := 31) (L' := [.ref 71, .int v4, .int v5]) (S' := [.int (1 : Int32)]) (σ' := (97, I, J, R)) rfl ?_
                              refine az_E.ret (v := some (.int (1 : Int32))) (σ' := (97, I, J, R)) rfl ?_
                              show az_E az_F ex 2 128 95 [.retAddr 0, .retAddr 0, .int v2, .retAddr 0, .int v4, .int v5, .ref 63, .ref 71] [.int (1 : Int32)] (97, I, J, R) _
                              refine az_E.br (c := (1 : Int32) = 0) (tt := 98) (ff := 101) (L' := [.retAddr 0, .retAddr 0, .int v2, .retAddr 0, .int v4, .int v5, .ref 63, .ref 71]) (S' := []) (σ' := (97, I, J, R)) rfl (fun hn => absurd hn (by decide)) (fun _ => ?_)
                              refine az_E.sn 7 (pc' := 116) (L' := [.retAddr 0, .retAddr 0, .int v2, .retAddr 0, .int v4, .int v5, .ref 63, .ref 71]) (S' := [.int v5, .int v4, .ref (71 + 1), .int v2, .ref (63 + 1)]) (σ' := (97, I, J, R)) rfl ?_
                              by_cases hc_643 : v2 < 0 ∨ v4 < 0 ∨ v5 < 0 ∨ 60 < v2.toNatClampNeg + v5.toNatClampNeg ∨ 60 < v4.toNatClampNeg + v5.toNatClampNeg
                              · rw [if_pos hc_643] at h; cases h
                              · rw [if_neg hc_643] at h
                                refine az_E.o (o := az_cp az_F (97, I, J, R) (63 + 1) v2 (71 + 1) v4 v5) (pc' := 119) (L' := [.retAddr 0, .retAddr 0, .int v2, .retAddr 0, .int v4, .int v5, .ref 63, .ref 71]) (S' := []) (x := (97, I, (az_ur J (71 + 1) (va_cpy (J (63 + 1)) (J (71 + 1)) v2.toNatClampNeg v4.toNatClampNeg v5.toNatClampNeg)), R)) rfl (if_neg hc_643) ?_
                                refine az_E.sn 1 (pc' := 121) (L' := [.retAddr 0, .retAddr 0, .int v2, .retAddr 0, .int v4, .int v5, .ref 63, .ref 71]) (S' := [.int v5]) (σ' := (97, I, (az_ur J (71 + 1) (va_cpy (J (63 + 1)) (J (71 + 1)) v2.toNatClampNeg v4.toNatClampNeg v5.toNatClampNeg)), R)) rfl ?_
                                have h := Option.some.inj h
                                subst h
                                exact az_E.ret (v := some (.int v5)) (σ' := (97, I, (az_ur J (71 + 1) (va_cpy (J (63 + 1)) (J (71 + 1)) v2.toNatClampNeg v4.toNatClampNeg v5.toNatClampNeg)), R)) rfl hQ
            · rw [if_neg hc_634] at h
              refine az_E.sn 1 (pc' := 20) (L' := [.ref 71, .int (I 63 1)]) (S' := [.int (0 : Int32)]) (σ' := (97, I, J, R)) rfl ?_
              refine az_E.ret (v := some (.int (0 : Int32))) (σ' := (97, I, J, R)) rfl ?_
              show az_E az_F ex 2 128 69 [.retAddr 0, .retAddr 0, .int v2, .retAddr 0, .int v4, .int v5, .ref 63, .ref 71] [.int (0 : Int32)] (97, I, J, R) _
              refine az_E.br (c := (0 : Int32) = 0) (tt := 72) (ff := 75) (L' := [.retAddr 0, .retAddr 0, .int v2, .retAddr 0, .int v4, .int v5, .ref 63, .ref 71]) (S' := []) (σ' := (97, I, J, R)) rfl (fun _ => ?_) (fun hn => absurd (by decide) hn)
              refine az_E.sn 1 (pc' := 74) (L' := [.retAddr 0, .retAddr 0, .int v2, .retAddr 0, .int v4, .int v5, .ref 63, .ref 71]) (S' := [.int (-12 : Int32)]) (σ' := (97, I, J, R)) rfl ?_
              have h := Option.some.inj h
              subst h
              exact az_E.ret (v := some (.int (-12 : Int32))) (σ' := (97, I, J, R)) rfl hQ
    · rw [if_neg hc_630] at h
      refine az_E.sn 1 (pc' := 21) (L' := [.ref 71]) (S' := [.int (0 : Int32)]) (σ' := (97, I, J, R)) rfl ?_
      refine az_E.ret (v := some (.int (0 : Int32))) (σ' := (97, I, J, R)) rfl ?_
      show az_E az_F ex 2 128 45 [.retAddr 0, .retAddr 0, .int v2, .retAddr 0, .int v4, .int v5, .ref 63, .ref 71] [.int (0 : Int32)] (97, I, J, R) _
      refine az_E.br (c := (0 : Int32) = 0) (tt := 51) (ff := 48) (L' := [.retAddr 0, .retAddr 0, .int v2, .retAddr 0, .int v4, .int v5, .ref 63, .ref 71]) (S' := []) (σ' := (97, I, J, R)) rfl (fun _ => ?_) (fun hn => absurd (by decide) hn)
      refine az_E.sn 1 (pc' := 53) (L' := [.retAddr 0, .retAddr 0, .int v2, .retAddr 0, .int v4, .int v5, .ref 63, .ref 71]) (S' := [.ref 63]) (σ' := (97, I, J, R)) rfl ?_
      refine az_E.call (d := 1) (k' := 55) (vs := [.ref 63]) (pc' := 56) (S' := []) rfl ?_ (fun _ _ hq => hq)
      show az_E az_F ex 1 55 0 [.ref 63] [] (97, I, J, R) _
      refine az_E.sn 3 (pc' := 5) (L' := [.ref 63]) (S' := [.int (-1 : Int32), .int (I 63 1)]) (σ' := (97, I, J, R)) rfl ?_
      refine az_E.br (c := (I 63 1) = (-1 : Int32)) (tt := 12) (ff := 8) (L' := [.ref 63]) (S' := []) (σ' := (97, I, J, R)) rfl (fun hc_644 => ?_) (fun hc_644 => ?_)
      · rw [if_pos hc_644] at h
        refine az_E.sn 1 (pc' := 13) (L' := [.ref 63]) (S' := [.int (0 : Int32)]) (σ' := (97, I, J, R)) rfl ?_
        refine az_E.ret (v := some (.int (0 : Int32))) (σ' := (97, I, J, R)) rfl ?_
        show az_E az_F ex 2 128 56 [.retAddr 0, .retAddr 0, .int v2, .retAddr 0, .int v4, .int v5, .ref 63, .ref 71] [.int (0 : Int32)] (97, I, J, R) _
        refine az_E.br (c := (0 : Int32) = 0) (tt := 72) (ff := 59) (L' := [.retAddr 0, .retAddr 0, .int v2, .retAddr 0, .int v4, .int v5, .ref 63, .ref 71]) (S' := []) (σ' := (97, I, J, R)) rfl (fun _ => ?_) (fun hn => absurd (by decide) hn)
        refine az_E.sn 1 (pc' := 74) (L' := [.retAddr 0, .retAddr 0, .int v2, .retAddr 0, .int v4, .int v5, .ref 63, .ref 71]) (S' := [.int (-12 : Int32)]) (σ' := (97, I, J, R)) rfl ?_
        have h := Option.some.inj h
        subst h
        exact az_E.ret (v := some (.int (-12 : Int32))) (σ' := (97, I, J, R)) rfl hQ
      · rw [if_neg hc_644] at h
        refine az_E.sn 2 (pc' := 13) (L' := [.ref 63]) (S' := [.int (1 : Int32)]) (σ' := (97, I, J, R)) rfl ?_
        refine az_E.ret (v := some (.int (1 : Int32))) (σ' := (97, I, J, R)) rfl ?_
        show az_E az_F ex 2 128 56 [.retAddr 0, .retAddr 0, .int v2, .retAddr 0, .int v4, .int v5, .ref 63, .ref 71] [.int (1 : Int32)] (97, I, J, R) _
        refine az_E.br (c := (1 : Int32) = 0) (tt := 72) (ff := 59) (L' := [.retAddr 0, .retAddr 0, .int v2, .retAddr 0, .int v4, .int v5, .ref 63, .ref 71]) (S' := []) (σ' := (97, I, J, R)) rfl (fun hn => absurd hn (by decide)) (fun _ => ?_)
        refine az_E.sn 3 (pc' := 66) (L' := [.retAddr 0, .retAddr 0, .int v2, .retAddr 0, .int v4, .int v5, .ref 63, .ref 71]) (S' := [.int (I 63 1), .ref 71]) (σ' := (97, I, J, R)) rfl ?_
        refine az_E.call (d := 1) (k' := 56) (vs := [.ref 71, .int (I 63 1)]) (pc' := 69) (S' := []) rfl ?_ (fun _ _ hq => hq)
        show az_E az_F ex 1 56 0 [.ref 71, .int (I 63 1)] [] (97, I, J, R) _
        refine az_E.sn 1 (pc' := 1) (L' := [.ref 71, .int (I 63 1)]) (S' := [.ref 71]) (σ' := (97, I, J, R)) rfl ?_
        refine az_E.call (d := 0) (k' := 55) (vs := [.ref 71]) (pc' := 4) (S' := []) rfl ?_ (fun _ _ hq => hq)
        show az_E az_F ex 0 55 0 [.ref 71] [] (97, I, J, R) _
        refine az_E.sn 3 (pc' := 5) (L' := [.ref 71]) (S' := [.int (-1 : Int32), .int (I 71 1)]) (σ' := (97, I, J, R)) rfl ?_
        refine az_E.br (c := (I 71 1) = (-1 : Int32)) (tt := 12) (ff := 8) (L' := [.ref 71]) (S' := []) (σ' := (97, I, J, R)) rfl (fun hc_645 => ?_) (fun hc_645 => ?_)
        · rw [if_pos hc_645] at h
          refine az_E.sn 1 (pc' := 13) (L' := [.ref 71]) (S' := [.int (0 : Int32)]) (σ' := (97, I, J, R)) rfl ?_
          refine az_E.ret (v := some (.int (0 : Int32))) (σ' := (97, I, J, R)) rfl ?_
          show az_E az_F ex 1 56 4 [.ref 71, .int (I 63 1)] [.int (0 : Int32)] (97, I, J, R) _
          refine az_E.br (c := (0 : Int32) = 0) (tt := 19) (ff := 7) (L' := [.ref 71, .int (I 63 1)]) (S' := []) (σ' := (97, I, J, R)) rfl (fun _ => ?_) (fun hn => absurd (by decide) hn)
          refine az_E.sn 1 (pc' := 20) (L' := [.ref 71, .int (I 63 1)]) (S' := [.int (0 : Int32)]) (σ' := (97, I, J, R)) rfl ?_
          refine az_E.ret (v := some (.int (0 : Int32))) (σ' := (97, I, J, R)) rfl ?_
          show az_E az_F ex 2 128 69 [.retAddr 0, .retAddr 0, .int v2, .retAddr 0, .int v4, .int v5, .ref 63, .ref 71] [.int (0 : Int32)] (97, I, J, R) _
          refine az_E.br (c := (0 : Int32) = 0) (tt := 72) (ff := 75) (L' := [.retAddr 0, .retAddr 0, .int v2, .retAddr 0, .int v4, .int v5, .ref 63, .ref 71]) (S' := []) (σ' := (97, I, J, R)) rfl (fun _ => ?_) (fun hn => absurd (by decide) hn)
          refine az_E.sn 1 (pc' := 74) (L' := [.retAddr 0, .retAddr 0, .int v2, .retAddr 0, .int v4, .int v5, .ref 63, .ref 71]) (S' := [.int (-12 : Int32)]) (σ' := (97, I, J, R)) rfl ?_
          have h := Option.some.inj h
          subst h
          exact az_E.ret (v := some (.int (-12 : Int32))) (σ' := (97, I, J, R)) rfl hQ
        · rw [if_neg hc_645] at h
          refine az_E.sn 2 (pc' := 13) (L' := [.ref 71]) (S' := [.int (1 : Int32)]) (σ' := (97, I, J, R)) rfl ?_
          refine az_E.ret (v := some (.int (1 : Int32))) (σ' := (97, I, J, R)) rfl ?_
          show az_E az_F ex 1 56 4 [.ref 71, .int (I 63 1)] [.int (1 : Int32)] (97, I, J, R) _
          refine az_E.br (c := (1 : Int32) = 0) (tt := 19) (ff := 7) (L' := [.ref 71, .int (I 63 1)]) (S' := []) (σ' := (97, I, J, R)) rfl (fun hn => absurd hn (by decide)) (fun _ => ?_)
          refine az_E.sn 3 (pc' := 12) (L' := [.ref 71, .int (I 63 1)]) (S' := [.int (I 63 1), .int (I 71 1)]) (σ' := (97, I, J, R)) rfl ?_
          refine az_E.br (c := (I 71 1) = (I 63 1)) (tt := 15) (ff := 19) (L' := [.ref 71, .int (I 63 1)]) (S' := []) (σ' := (97, I, J, R)) rfl (fun hc_646 => ?_) (fun hc_646 => ?_)
          · rw [if_pos hc_646] at h
            refine az_E.sn 2 (pc' := 20) (L' := [.ref 71, .int (I 63 1)]) (S' := [.int (1 : Int32)]) (σ' := (97, I, J, R)) rfl ?_
            refine az_E.ret (v := some (.int (1 : Int32))) (σ' := (97, I, J, R)) rfl ?_
            show az_E az_F ex 2 128 69 [.retAddr 0, .retAddr 0, .int v2, .retAddr 0, .int v4, .int v5, .ref 63, .ref 71] [.int (1 : Int32)] (97, I, J, R) _
            refine az_E.br (c := (1 : Int32) = 0) (tt := 72) (ff := 75) (L' := [.retAddr 0, .retAddr 0, .int v2, .retAddr 0, .int v4, .int v5, .ref 63, .ref 71]) (S' := []) (σ' := (97, I, J, R)) rfl (fun hn => absurd hn (by decide)) (fun _ => ?_)
            refine az_E.sn 3 (pc' := 80) (L' := [.retAddr 0, .retAddr 0, .int v2, .retAddr 0, .int v4, .int v5, .ref 63, .ref 71]) (S' := [.int v5, .int v2, .ref 63]) (σ' := (97, I, J, R)) rfl ?_
            refine az_E.call (d := 1) (k' := 60) (vs := [.ref 63, .int v2, .int v5]) (pc' := 83) (S' := []) rfl ?_ (fun _ _ hq => hq)
            show az_E az_F ex 1 60 0 [.ref 63, .int v2, .int v5] [] (97, I, J, R) _
            refine az_E.sn 1 (pc' := 1) (L' := [.ref 63, .int v2, .int v5]) (S' := [.int v2]) (σ' := (97, I, J, R)) rfl ?_
            refine az_E.br (c := v2 < 0) (tt := 30) (ff := 4) (L' := [.ref 63, .int v2, .int v5]) (S' := []) (σ' := (97, I, J, R)) rfl (fun hc_647 => ?_) (fun hc_647 => ?_)
            · rw [if_pos hc_647] at h
              refine az_E.sn 1 (pc' := 31) (L' := [.ref 63, .int v2, .int v5]) (S' := [.int (0 : Int32)]) (σ' := (97, I, J, R)) rfl ?_
              refine az_E.ret (v := some (.int (0 : Int32))) (σ' := (97, I, J, R)) rfl ?_
              show az_E az_F ex 2 128 83 [.retAddr 0, .retAddr 0, .int v2, .retAddr 0, .int v4, .int v5, .ref 63, .ref 71] [.int (0 : Int32)] (97, I, J, R) _
              refine az_E.br (c := (0 : Int32) = 0) (tt := 98) (ff := 86) (L' := [.retAddr 0, .retAddr 0, .int v2, .retAddr 0, .int v4, .int v5, .ref 63, .ref 71]) (S' := []) (σ' := (97, I, J, R)) rfl (fun _ => ?_) (fun hn => absurd (by decide) hn)
              refine az_E.sn 1 (pc' := 100) (L' := [.retAddr 0, .retAddr 0, .int v2, .retAddr 0, .int v4, .int v5, .ref 63, .ref 71]) (S' := [.int (-13 : Int32)]) (σ' := (97, I, J, R)) rfl ?_
              have h := Option.some.inj h
              subst h
              exact az_E.ret (v := some (.int (-13 : Int32))) (σ' := (97, I, J, R)) rfl hQ
            · rw [if_neg hc_647] at h
              refine az_E.sn 1 (pc' := 5) (L' := [.ref 63, .int v2, .int v5]) (S' := [.int v5]) (σ' := (97, I, J, R)) rfl ?_
              refine az_E.br (c := v5 < 0) (tt := 30) (ff := 8) (L' := [.ref 63, .int v2, .int v5]) (S' := []) (σ' := (97, I, J, R)) rfl (fun hc_648 => ?_) (fun hc_648 => ?_)
              · rw [if_pos hc_648] at h
                refine az_E.sn 1 (pc' := 31) (L' := [.ref 63, .int v2, .int v5]) (S' := [.int (0 : Int32)]) (σ' := (97, I, J, R)) rfl ?_
                refine az_E.ret (v := some (.int (0 : Int32))) (σ' := (97, I, J, R)) rfl ?_
                show az_E az_F ex 2 128 83 [.retAddr 0, .retAddr 0, .int v2, .retAddr 0, .int v4, .int v5, .ref 63, .ref 71] [.int (0 : Int32)] (97, I, J, R) _
                refine az_E.br (c := (0 : Int32) = 0) (tt := 98) (ff := 86) (L' := [.retAddr 0, .retAddr 0, .int v2, .retAddr 0, .int v4, .int v5, .ref 63, .ref 71]) (S' := []) (σ' := (97, I, J, R)) rfl (fun _ => ?_) (fun hn => absurd (by decide) hn)
                refine az_E.sn 1 (pc' := 100) (L' := [.retAddr 0, .retAddr 0, .int v2, .retAddr 0, .int v4, .int v5, .ref 63, .ref 71]) (S' := [.int (-13 : Int32)]) (σ' := (97, I, J, R)) rfl ?_
                have h := Option.some.inj h
                subst h
                exact az_E.ret (v := some (.int (-13 : Int32))) (σ' := (97, I, J, R)) rfl hQ
              · rw [if_neg hc_648] at h
                refine az_E.sn 3 (pc' := 13) (L' := [.ref 63, .int v2, .int v5]) (S' := [.int (I 63 2), .int v2]) (σ' := (97, I, J, R)) rfl ?_
                refine az_E.br (c := (I 63 2) < v2) (tt := 30) (ff := 16) (L' := [.ref 63, .int v2, .int v5]) (S' := []) (σ' := (97, I, J, R)) rfl (fun hc_649 => ?_) (fun hc_649 => ?_)
                · rw [if_pos hc_649] at h
                  refine az_E.sn 1 (pc' := 31) (L' := [.ref 63, .int v2, .int v5]) (S' := [.int (0 : Int32)]) (σ' := (97, I, J, R)) rfl ?_
                  refine az_E.ret (v := some (.int (0 : Int32))) (σ' := (97, I, J, R)) rfl ?_
                  show az_E az_F ex 2 128 83 [.retAddr 0, .retAddr 0, .int v2, .retAddr 0, .int v4, .int v5, .ref 63, .ref 71] [.int (0 : Int32)] (97, I, J, R) _
                  refine az_E.br (c := (0 : Int32) = 0) (tt := 98) (ff := 86) (L' := [.retAddr 0, .retAddr 0, .int v2, .retAddr 0, .int v4, .int v5, .ref 63, .ref 71]) (S' := []) (σ' := (97, I, J, R)) rfl (fun _ => ?_) (fun hn => absurd (by decide) hn)
                  refine az_E.sn 1 (pc' := 100) (L' := [.retAddr 0, .retAddr 0, .int v2, .retAddr 0, .int v4, .int v5, .ref 63, .ref 71]) (S' := [.int (-13 : Int32)]) (σ' := (97, I, J, R)) rfl ?_
                  have h := Option.some.inj h
                  subst h
                  exact az_E.ret (v := some (.int (-13 : Int32))) (σ' := (97, I, J, R)) rfl hQ
                · rw [if_neg hc_649] at h
                  refine az_E.sn 5 (pc' := 23) (L' := [.ref 63, .int v2, .int v5]) (S' := [.int ((I 63 2) - v2), .int v5]) (σ' := (97, I, J, R)) rfl ?_
                  refine az_E.br (c := ((I 63 2) - v2) < v5) (tt := 30) (ff := 26) (L' := [.ref 63, .int v2, .int v5]) (S' := []) (σ' := (97, I, J, R)) rfl (fun hc_650 => ?_) (fun hc_650 => ?_)
                  · rw [if_pos hc_650] at h
                    refine az_E.sn 1 (pc' := 31) (L' := [.ref 63, .int v2, .int v5]) (S' := [.int (0 : Int32)]) (σ' := (97, I, J, R)) rfl ?_
                    refine az_E.ret (v := some (.int (0 : Int32))) (σ' := (97, I, J, R)) rfl ?_
                    show az_E az_F ex 2 128 83 [.retAddr 0, .retAddr 0, .int v2, .retAddr 0, .int v4, .int v5, .ref 63, .ref 71] [.int (0 : Int32)] (97, I, J, R) _
                    refine az_E.br (c := (0 : Int32) = 0) (tt := 98) (ff := 86) (L' := [.retAddr 0, .retAddr 0, .int v2, .retAddr 0, .int v4, .int v5, .ref 63, .ref 71]) (S' := []) (σ' := (97, I, J, R)) rfl (fun _ => ?_) (fun hn => absurd (by decide) hn)
                    refine az_E.sn 1 (pc' := 100) (L' := [.retAddr 0, .retAddr 0, .int v2, .retAddr 0, .int v4, .int v5, .ref 63, .ref 71]) (S' := [.int (-13 : Int32)]) (σ' := (97, I, J, R)) rfl ?_
                    have h := Option.some.inj h
                    subst h
                    exact az_E.ret (v := some (.int (-13 : Int32))) (σ' := (97, I, J, R)) rfl hQ
                  · rw [if_neg hc_650] at h
                    refine az_E.sn 2 (pc' := 31) (L' := [.ref 63, .int v2, .int v5]) (S' := [.int (1 : Int32)]) (σ' := (97, I, J, R)) rfl ?_
                    refine az_E.ret (v := some (.int (1 : Int32))) (σ' := (97, I, J, R)) rfl ?_
                    show az_E az_F ex 2 128 83 [.retAddr 0, .retAddr 0, .int v2, .retAddr 0, .int v4, .int v5, .ref 63, .ref 71] [.int (1 : Int32)] (97, I, J, R) _
                    refine az_E.br (c := (1 : Int32) = 0) (tt := 98) (ff := 86) (L' := [.retAddr 0, .retAddr 0, .int v2, .retAddr 0, .int v4, .int v5, .ref 63, .ref 71]) (S' := []) (σ' := (97, I, J, R)) rfl (fun hn => absurd hn (by decide)) (fun _ => ?_)
                    refine az_E.sn 3 (pc' := 92) (L' := [.retAddr 0, .retAddr 0, .int v2, .retAddr 0, .int v4, .int v5, .ref 63, .ref 71]) (S' := [.int v5, .int v4, .ref 71]) (σ' := (97, I, J, R)) rfl ?_
                    refine az_E.call (d := 1) (k' := 60) (vs := [.ref 71, .int v4, .int v5]) (pc' := 95) (S' := []) rfl ?_ (fun _ _ hq => hq)
                    show az_E az_F ex 1 60 0 [.ref 71, .int v4, .int v5] [] (97, I, J, R) _
                    refine az_E.sn 1 (pc' := 1) (L' := [.ref 71, .int v4, .int v5]) (S' := [.int v4]) (σ' := (97, I, J, R)) rfl ?_
                    refine az_E.br (c := v4 < 0) (tt := 30) (ff := 4) (L' := [.ref 71, .int v4, .int v5]) (S' := []) (σ' := (97, I, J, R)) rfl (fun hc_651 => ?_) (fun hc_651 => ?_)
                    · rw [if_pos hc_651] at h
                      refine az_E.sn 1 (pc' := 31) (L' := [.ref 71, .int v4, .int v5]) (S' := [.int (0 : Int32)]) (σ' := (97, I, J, R)) rfl ?_
                      refine az_E.ret (v := some (.int (0 : Int32))) (σ' := (97, I, J, R)) rfl ?_
                      show az_E az_F ex 2 128 95 [.retAddr 0, .retAddr 0, .int v2, .retAddr 0, .int v4, .int v5, .ref 63, .ref 71] [.int (0 : Int32)] (97, I, J, R) _
                      refine az_E.br (c := (0 : Int32) = 0) (tt := 98) (ff := 101) (L' := [.retAddr 0, .retAddr 0, .int v2, .retAddr 0, .int v4, .int v5, .ref 63, .ref 71]) (S' := []) (σ' := (97, I, J, R)) rfl (fun _ => ?_) (fun hn => absurd (by decide) hn)
                      refine az_E.sn 1 (pc' := 100) (L' := [.retAddr 0, .retAddr 0, .int v2, .retAddr 0, .int v4, .int v5, .ref 63, .ref 71]) (S' := [.int (-13 : Int32)]) (σ' := (97, I, J, R)) rfl ?_
                      have h := Option.some.inj h
                      subst h
                      exact az_E.ret (v := some (.int (-13 : Int32))) (σ' := (97, I, J, R)) rfl hQ
                    · rw [if_neg hc_651] at h
                      refine az_E.sn 1 (pc' := 5) (L' := [.ref 71, .int v4, .int v5]) (S' := [.int v5]) (σ' := (97, I, J, R)) rfl ?_
                      refine az_E.br (c := v5 < 0) (tt := 30) (ff := 8) (L' := [.ref 71, .int v4, .int v5]) (S' := []) (σ' := (97, I, J, R)) rfl (fun hc_652 => ?_) (fun hc_652 => ?_)
                      · rw [if_pos hc_652] at h
                        refine az_E.sn 1 (pc' := 31) (L' := [.ref 71, .int v4, .int v5]) (S' := [.int (0 : Int32)]) (σ' := (97, I, J, R)) rfl ?_
                        refine az_E.ret (v := some (.int (0 : Int32))) (σ' := (97, I, J, R)) rfl ?_
                        show az_E az_F ex 2 128 95 [.retAddr 0, .retAddr 0, .int v2, .retAddr 0, .int v4, .int v5, .ref 63, .ref 71] [.int (0 : Int32)] (97, I, J, R) _
                        refine az_E.br (c := (0 : Int32) = 0) (tt := 98) (ff := 101) (L' := [.retAddr 0, .retAddr 0, .int v2, .retAddr 0, .int v4, .int v5, .ref 63, .ref 71]) (S' := []) (σ' := (97, I, J, R)) rfl (fun _ => ?_) (fun hn => absurd (by decide) hn)
                        refine az_E.sn 1 (pc' := 100) (L' := [.retAddr 0, .retAddr 0, .int v2, .retAddr 0, .int v4, .int v5, .ref 63, .ref 71]) (S' := [.int (-13 : Int32)]) (σ' := (97, I, J, R)) rfl ?_
                        have h := Option.some.inj h
                        subst h
                        exact az_E.ret (v := some (.int (-13 : Int32))) (σ' := (97, I, J, R)) rfl hQ
                      · rw [if_neg hc_652] at h
                        refine az_E.sn 3 (pc' := 13) (L' := [.ref 71, .int v4, .int v5]) (S' := [.int (I 71 2), .int v4]) (σ' := (97, I, J, R)) rfl ?_
                        refine az_E.br (c := (I 71 2) < v4) (tt := 30) (ff := 16) (L' := [.ref 71, .int v4, .int v5]) (S' := []) (σ' := (97, I, J, R)) rfl (fun hc_653 => ?_) (fun hc_653 => ?_)
                        · rw [if_pos hc_653] at h
                          refine az_E.sn 1 (pc' := 31) (L' := [.ref 71, .int v4, .int v5]) (S' := [.int (0 : Int32)]) (σ' := (97, I, J, R)) rfl ?_
                          refine az_E.ret (v := some (.int (0 : Int32))) (σ' := (97, I, J, R)) rfl ?_
                          show az_E az_F ex 2 128 95 [.retAddr 0, .retAddr 0, .int v2, .retAddr 0, .int v4, .int v5, .ref 63, .ref 71] [.int (0 : Int32)] (97, I, J, R) _
                          refine az_E.br (c := (0 : Int32) = 0) (tt := 98) (ff := 101) (L' := [.retAddr 0, .retAddr 0, .int v2, .retAddr 0, .int v4, .int v5, .ref 63, .ref 71]) (S' := []) (σ' := (97, I, J, R)) rfl (fun _ => ?_) (fun hn => absurd (by decide) hn)
                          refine az_E.sn 1 (pc' := 100) (L' := [.retAddr 0, .retAddr 0, .int v2, .retAddr 0, .int v4, .int v5, .ref 63, .ref 71]) (S' := [.int (-13 : Int32)]) (σ' := (97, I, J, R)) rfl ?_
                          have h := Option.some.inj h
                          subst h
                          exact az_E.ret (v := some (.int (-13 : Int32))) (σ' := (97, I, J, R)) rfl hQ
                        · rw [if_neg hc_653] at h
                          refine az_E.sn 5 (pc' := 23) (L' := [.ref 71, .int v4, .int v5]) (S' := [.int ((I 71 2) - v4), .int v5]) (σ' := (97, I, J, R)) rfl ?_
                          refine az_E.br (c := ((I 71 2) - v4) < v5) (tt := 30) (ff := 26) (L' := [.ref 71, .int v4, .int v5]) (S' := []) (σ' := (97, I, J, R)) rfl (fun hc_654 => ?_) (fun hc_654 => ?_)
                          · rw [if_pos hc_654] at h
                            refine az_E.sn 1 (pc' := 31) (L' := [.ref 71, .int v4, .int v5]) (S' := [.int (0 : Int32)]) (σ' := (97, I, J, R)) rfl ?_
                            refine az_E.ret (v := some (.int (0 : Int32))) (σ' := (97, I, J, R)) rfl ?_
                            show az_E az_F ex 2 128 95 [.retAddr 0, .retAddr 0, .int v2, .retAddr 0, .int v4, .int v5, .ref 63, .ref 71] [.int (0 : Int32)] (97, I, J, R) _
                            refine az_E.br (c := (0 : Int32) = 0) (tt := 98) (ff := 101) (L' := [.retAddr 0, .retAddr 0, .int v2, .retAddr 0, .int v4, .int v5, .ref 63, .ref 71]) (S' := []) (σ' := (97, I, J, R)) rfl (fun _ => ?_) (fun hn => absurd (by decide) hn)
                            refine az_E.sn 1 (pc' := 100) (L' := [.retAddr 0, .retAddr 0, .int v2, .retAddr 0, .int v4, .int v5, .ref 63, .ref 71]) (S' := [.int (-13 : Int32)]) (σ' := (97, I, J, R)) rfl ?_
                            have h := Option.some.inj h
                            subst h
                            exact az_E.ret (v := some (.int (-13 : Int32))) (σ' := (97, I, J, R)) rfl hQ
                          · rw [if_neg hc_654] at h
                            refine az_E.sn 2 (pc' := 31) (L' := [.ref 71, .int v4, .int v5]) (S' := [.int (1 : Int32)]) (σ' := (97, I, J, R)) rfl ?_
                            refine az_E.ret (v := some (.int (1 : Int32))) (σ' := (97, I, J, R)) rfl ?_
                            show az_E az_F ex 2 128 95 [.retAddr 0, .retAddr 0, .int v2, .retAddr 0, .int v4, .int v5, .ref 63, .ref 71] [.int (1 : Int32)] (97, I, J, R) _
                            refine az_E.br (c := (1 : Int32) = 0) (tt := 98) (ff := 101) (L' := [.retAddr 0, .retAddr 0, .int v2, .retAddr 0, .int v4, .int v5, .ref 63, .ref 71]) (S' := []) (σ' := (97, I, J, R)) rfl (fun hn => absurd hn (by decide)) (fun _ => ?_)
                            refine az_E.sn 7 (pc' := 116) (L' := [.retAddr 0, .retAddr 0, .int v2, .retAddr 0, .int v4, .int v5, .ref 63, .ref 71]) (S' := [.int v5, .int v4, .ref (71 + 1), .int v2, .ref (63 + 1)]) (σ' := (97, I, J, R)) rfl ?_
                            by_cases hc_655 : v2 < 0 ∨ v4 < 0 ∨ v5 < 0 ∨ 60 < v2.toNatClampNeg + v5.toNatClampNeg ∨ 60 < v4.toNatClampNeg + v5.toNatClampNeg
                            · rw [if_pos hc_655] at h; cases h
                            · rw [if_neg hc_655] at h
                              refine az_E.o (o := az_cp az_F (97, I, J, R) (63 + 1) v2 (71 + 1) v4 v5) (pc' := 119) (L' := [.retAddr 0, .retAddr 0, .int v2, .retAddr 0, .int v4, .int v5, .ref 63, .ref 71]) (S' := []) (x := (97, I, (az_ur J (71 + 1) (va_cpy (J (63 + 1)) (J (71 + 1)) v2.toNatClampNeg v4.toNatClampNeg v5.toNatClampNeg)), R)) rfl (if_neg hc_655) ?_
                              refine az_E.sn 1 (pc' := 121) (L' := [.retAddr 0, .retAddr 0, .int v2, .retAddr 0, .int v4, .int v5, .ref 63, .ref 71]) (S' := [.int v5]) (σ' := (97, I, (az_ur J (71 + 1) (va_cpy (J (63 + 1)) (J (71 + 1)) v2.toNatClampNeg v4.toNatClampNeg v5.toNatClampNeg)), R)) rfl ?_
                              have h := Option.some.inj h
                              subst h
                              exact az_E.ret (v := some (.int v5)) (σ' := (97, I, (az_ur J (71 + 1) (va_cpy (J (63 + 1)) (J (71 + 1)) v2.toNatClampNeg v4.toNatClampNeg v5.toNatClampNeg)), R)) rfl hQ
          · rw [if_neg hc_646] at h
            refine az_E.sn 1 (pc' := 20) (L' := [.ref 71, .int (I 63 1)]) (S' := [.int (0 : Int32)]) (σ' := (97, I, J, R)) rfl ?_
            refine az_E.ret (v := some (.int (0 : Int32))) (σ' := (97, I, J, R)) rfl ?_
            show az_E az_F ex 2 128 69 [.retAddr 0, .retAddr 0, .int v2, .retAddr 0, .int v4, .int v5, .ref 63, .ref 71] [.int (0 : Int32)] (97, I, J, R) _
            refine az_E.br (c := (0 : Int32) = 0) (tt := 72) (ff := 75) (L' := [.retAddr 0, .retAddr 0, .int v2, .retAddr 0, .int v4, .int v5, .ref 63, .ref 71]) (S' := []) (σ' := (97, I, J, R)) rfl (fun _ => ?_) (fun hn => absurd (by decide) hn)
            refine az_E.sn 1 (pc' := 74) (L' := [.retAddr 0, .retAddr 0, .int v2, .retAddr 0, .int v4, .int v5, .ref 63, .ref 71]) (S' := [.int (-12 : Int32)]) (σ' := (97, I, J, R)) rfl ?_
            have h := Option.some.inj h
            subst h
            exact az_E.ret (v := some (.int (-12 : Int32))) (σ' := (97, I, J, R)) rfl hQ
set_option maxRecDepth 100000 in
set_option maxHeartbeats 4000000 in
theorem re_X_shift_22_63 {ex : az_X} {I : Nat → Nat → Int32} {J : Nat → Nat → Int64} {R : Nat → Nat → Option Nat} {v2 : Int32} {v3 : Int32} {v4 : Int32} {v5 : Int32} {x : Int32 × (Nat → Nat → Int64)} (h : rs_X_shift_22 63 I J v2 v3 v4 v5 = some x) {Q : Option Value → az_S → Prop} (hQ : Q (some (.int x.1)) (97, I, x.2, R)) : az_E az_F ex 2 128 22 [.ref 3, .retAddr 0, .int v2, .int v3, .int v4, .int v5, .retAddr 0, .retAddr 0] [.ref 63] (97, I, J, R) Q := by
  unfold rs_X_shift_22 at h
  refine az_E.sn 4 (pc' := 29) (L' := [.ref 3, .retAddr 0, .int v2, .int v3, .int v4, .int v5, .ref 63, .retAddr 0]) (S' := [.int v3, .ref 58]) (σ' := (97, I, J, R)) rfl ?_
  by_cases hc_331 : v3 < 0 ∨ 6 ≤ v3.toNatClampNeg
  · rw [if_pos hc_331] at h; cases h
  · rw [if_neg hc_331] at h
    rcases az_six hc_331 with ehc_331 | ehc_331 | ehc_331 | ehc_331 | ehc_331 | ehc_331
    · rw [ehc_331] at h ⊢; (try rw [ehc_331] at hQ)
      refine az_E.ov (pc' := 30) (L' := [.ref 3, .retAddr 0, .int v2, .int (0 : Int32), .int v4, .int v5, .ref 63, .retAddr 0]) (S' := []) (σ' := (97, I, J, R)) (x := .ref 61) (o := az_aa az_F (97, I, J, R) 58 (0 : Int32)) rfl rfl ?_
      exact az_E.forget (L := [.retAddr 0, .retAddr 0, .int v2, .retAddr 0, .int v4, .int v5, .ref 63, .retAddr 0]) ⟨trivial, trivial, rfl, trivial, rfl, rfl, rfl, trivial, trivial⟩ (re_X_shift_30_63_61 (I := I) (J := J) (R := R)  h hQ)
    · rw [ehc_331] at h ⊢; (try rw [ehc_331] at hQ)
      refine az_E.ov (pc' := 30) (L' := [.ref 3, .retAddr 0, .int v2, .int (1 : Int32), .int v4, .int v5, .ref 63, .retAddr 0]) (S' := []) (σ' := (97, I, J, R)) (x := .ref 63) (o := az_aa az_F (97, I, J, R) 58 (1 : Int32)) rfl rfl ?_
      exact az_E.forget (L := [.retAddr 0, .retAddr 0, .int v2, .retAddr 0, .int v4, .int v5, .ref 63, .retAddr 0]) ⟨trivial, trivial, rfl, trivial, rfl, rfl, rfl, trivial, trivial⟩ (re_X_shift_30_63_63 (I := I) (J := J) (R := R)  h hQ)
    · rw [ehc_331] at h ⊢; (try rw [ehc_331] at hQ)
      refine az_E.ov (pc' := 30) (L' := [.ref 3, .retAddr 0, .int v2, .int (2 : Int32), .int v4, .int v5, .ref 63, .retAddr 0]) (S' := []) (σ' := (97, I, J, R)) (x := .ref 65) (o := az_aa az_F (97, I, J, R) 58 (2 : Int32)) rfl rfl ?_
      exact az_E.forget (L := [.retAddr 0, .retAddr 0, .int v2, .retAddr 0, .int v4, .int v5, .ref 63, .retAddr 0]) ⟨trivial, trivial, rfl, trivial, rfl, rfl, rfl, trivial, trivial⟩ (re_X_shift_30_63_65 (I := I) (J := J) (R := R)  h hQ)
    · rw [ehc_331] at h ⊢; (try rw [ehc_331] at hQ)
      refine az_E.ov (pc' := 30) (L' := [.ref 3, .retAddr 0, .int v2, .int (3 : Int32), .int v4, .int v5, .ref 63, .retAddr 0]) (S' := []) (σ' := (97, I, J, R)) (x := .ref 67) (o := az_aa az_F (97, I, J, R) 58 (3 : Int32)) rfl rfl ?_
      exact az_E.forget (L := [.retAddr 0, .retAddr 0, .int v2, .retAddr 0, .int v4, .int v5, .ref 63, .retAddr 0]) ⟨trivial, trivial, rfl, trivial, rfl, rfl, rfl, trivial, trivial⟩ (re_X_shift_30_63_67 (I := I) (J := J) (R := R)  h hQ)
    · rw [ehc_331] at h ⊢; (try rw [ehc_331] at hQ)
      refine az_E.ov (pc' := 30) (L' := [.ref 3, .retAddr 0, .int v2, .int (4 : Int32), .int v4, .int v5, .ref 63, .retAddr 0]) (S' := []) (σ' := (97, I, J, R)) (x := .ref 69) (o := az_aa az_F (97, I, J, R) 58 (4 : Int32)) rfl rfl ?_
      exact az_E.forget (L := [.retAddr 0, .retAddr 0, .int v2, .retAddr 0, .int v4, .int v5, .ref 63, .retAddr 0]) ⟨trivial, trivial, rfl, trivial, rfl, rfl, rfl, trivial, trivial⟩ (re_X_shift_30_63_69 (I := I) (J := J) (R := R)  h hQ)
    · rw [ehc_331] at h ⊢; (try rw [ehc_331] at hQ)
      refine az_E.ov (pc' := 30) (L' := [.ref 3, .retAddr 0, .int v2, .int (5 : Int32), .int v4, .int v5, .ref 63, .retAddr 0]) (S' := []) (σ' := (97, I, J, R)) (x := .ref 71) (o := az_aa az_F (97, I, J, R) 58 (5 : Int32)) rfl rfl ?_
      exact az_E.forget (L := [.retAddr 0, .retAddr 0, .int v2, .retAddr 0, .int v4, .int v5, .ref 63, .retAddr 0]) ⟨trivial, trivial, rfl, trivial, rfl, rfl, rfl, trivial, trivial⟩ (re_X_shift_30_63_71 (I := I) (J := J) (R := R)  h hQ)
set_option maxRecDepth 100000 in
set_option maxHeartbeats 4000000 in
theorem re_X_shift_30_65_61 {ex : az_X} {I : Nat → Nat → Int32} {J : Nat → Nat → Int64} {R : Nat → Nat → Option Nat} {v2 : Int32} {v4 : Int32} {v5 : Int32} {x : Int32 × (Nat → Nat → Int64)} (h : rs_X_shift_30 65 61 I J v2 v4 v5 = some x) {Q : Option Value → az_S → Prop} (hQ : Q (some (.int x.1)) (97, I, x.2, R)) : az_E az_F ex 2 128 30 [.retAddr 0, .retAddr 0, .int v2, .retAddr 0, .int v4, .int v5, .ref 65, .retAddr 0] [.ref 61] (97, I, J, R) Q := by
  unfold rs_X_shift_30 at h
  refine az_E.sn 2 (pc' := 34) (L' := [.retAddr 0, .retAddr 0, .int v2, .retAddr 0, .int v4, .int v5, .ref 65, .ref 61]) (S' := [.ref 65]) (σ' := (97, I, J, R)) rfl ?_
  refine az_E.call (d := 1) (k' := 54) (vs := [.ref 65]) (pc' := 37) (S' := []) rfl ?_ (fun _ _ hq => hq)
  show az_E az_F ex 1 54 0 [.ref 65] [] (97, I, J, R) _
  refine az_E.sn 3 (pc' := 5) (L' := [.ref 65]) (S' := [.int (-1 : Int32), .int (I 65 0)]) (σ' := (97, I, J, R)) rfl ?_
  refine az_E.br (c := (I 65 0) = (-1 : Int32)) (tt := 8) (ff := 20) (L' := [.ref 65]) (S' := []) (σ' := (97, I, J, R)) rfl (fun hc_657 => ?_) (fun hc_657 => ?_)
  · rw [if_pos hc_657] at h
    refine az_E.sn 3 (pc' := 13) (L' := [.ref 65]) (S' := [.int (-1 : Int32), .int (I 65 1)]) (σ' := (97, I, J, R)) rfl ?_
    refine az_E.br (c := (I 65 1) = (-1 : Int32)) (tt := 16) (ff := 20) (L' := [.ref 65]) (S' := []) (σ' := (97, I, J, R)) rfl (fun hc_658 => ?_) (fun hc_658 => ?_)
    · rw [if_pos hc_658] at h
      refine az_E.sn 2 (pc' := 21) (L' := [.ref 65]) (S' := [.int (1 : Int32)]) (σ' := (97, I, J, R)) rfl ?_
      refine az_E.ret (v := some (.int (1 : Int32))) (σ' := (97, I, J, R)) rfl ?_
      show az_E az_F ex 2 128 37 [.retAddr 0, .retAddr 0, .int v2, .retAddr 0, .int v4, .int v5, .ref 65, .ref 61] [.int (1 : Int32)] (97, I, J, R) _
      refine az_E.br (c := (1 : Int32) = 0) (tt := 40) (ff := 48) (L' := [.retAddr 0, .retAddr 0, .int v2, .retAddr 0, .int v4, .int v5, .ref 65, .ref 61]) (S' := []) (σ' := (97, I, J, R)) rfl (fun hn => absurd hn (by decide)) (fun _ => ?_)
      refine az_E.sn 1 (pc' := 50) (L' := [.retAddr 0, .retAddr 0, .int v2, .retAddr 0, .int v4, .int v5, .ref 65, .ref 61]) (S' := [.int (-11 : Int32)]) (σ' := (97, I, J, R)) rfl ?_
      have h := Option.some.inj h
      subst h
      exact az_E.ret (v := some (.int (-11 : Int32))) (σ' := (97, I, J, R)) rfl hQ
    · rw [if_neg hc_658] at h
      refine az_E.sn 1 (pc' := 21) (L' := [.ref 65]) (S' := [.int (0 : Int32)]) (σ' := (97, I, J, R)) rfl ?_
      refine az_E.ret (v := some (.int (0 : Int32))) (σ' := (97, I, J, R)) rfl ?_
      show az_E az_F ex 2 128 37 [.retAddr 0, .retAddr 0, .int v2, .retAddr 0, .int v4, .int v5, .ref 65, .ref 61] [.int (0 : Int32)] (97, I, J, R) _
      refine az_E.br (c := (0 : Int32) = 0) (tt := 40) (ff := 48) (L' := [.retAddr 0, .retAddr 0, .int v2, .retAddr 0, .int v4, .int v5, .ref 65, .ref 61]) (S' := []) (σ' := (97, I, J, R)) rfl (fun _ => ?_) (fun hn => absurd (by decide) hn)
      refine az_E.sn 1 (pc' := 42) (L' := [.retAddr 0, .retAddr 0, .int v2, .retAddr 0, .int v4, .int v5, .ref 65, .ref 61]) (S' := [.ref 61]) (σ' := (97, I, J, R)) rfl ?_
      refine az_E.call (d := 1) (k' := 54) (vs := [.ref 61]) (pc' := 45) (S' := []) rfl ?_ (fun _ _ hq => hq)
      show az_E az_F ex 1 54 0 [.ref 61] [] (97, I, J, R) _
      refine az_E.sn 3 (pc' := 5) (L' := [.ref 61]) (S' := [.int (-1 : Int32), .int (I 61 0)]) (σ' := (97, I, J, R)) rfl ?_
      refine az_E.br (c := (I 61 0) = (-1 : Int32)) (tt := 8) (ff := 20) (L' := [.ref 61]) (S' := []) (σ' := (97, I, J, R)) rfl (fun hc_659 => ?_) (fun hc_659 => ?_)
      · rw [if_pos hc_659] at h
        refine az_E.sn 3 (pc' := 13) (L' := [.ref 61]) (S' := [.int (-1 : Int32), .int (I 61 1)]) (σ' := (97, I, J, R)) rfl ?_
        refine az_E.br (c := (I 61 1) = (-1 : Int32)) (tt := 16) (ff := 20) (L' := [.ref 61]) (S' := []) (σ' := (97, I, J, R)) rfl (fun hc_660 => ?_) (fun hc_660 => ?_)
        · rw [if_pos hc_660] at h
          refine az_E.sn 2 (pc' := 21) (L' := [.ref 61]) (S' := [.int (1 : Int32)]) (σ' := (97, I, J, R)) rfl ?_
          refine az_E.ret (v := some (.int (1 : Int32))) (σ' := (97, I, J, R)) rfl ?_
          show az_E az_F ex 2 128 45 [.retAddr 0, .retAddr 0, .int v2, .retAddr 0, .int v4, .int v5, .ref 65, .ref 61] [.int (1 : Int32)] (97, I, J, R) _
          refine az_E.br (c := (1 : Int32) = 0) (tt := 51) (ff := 48) (L' := [.retAddr 0, .retAddr 0, .int v2, .retAddr 0, .int v4, .int v5, .ref 65, .ref 61]) (S' := []) (σ' := (97, I, J, R)) rfl (fun hn => absurd hn (by decide)) (fun _ => ?_)
          refine az_E.sn 1 (pc' := 50) (L' := [.retAddr 0, .retAddr 0, .int v2, .retAddr 0, .int v4, .int v5, .ref 65, .ref 61]) (S' := [.int (-11 : Int32)]) (σ' := (97, I, J, R)) rfl ?_
          have h := Option.some.inj h
          subst h
          exact az_E.ret (v := some (.int (-11 : Int32))) (σ' := (97, I, J, R)) rfl hQ
        · rw [if_neg hc_660] at h
          refine az_E.sn 1 (pc' := 21) (L' := [.ref 61]) (S' := [.int (0 : Int32)]) (σ' := (97, I, J, R)) rfl ?_
          refine az_E.ret (v := some (.int (0 : Int32))) (σ' := (97, I, J, R)) rfl ?_
          show az_E az_F ex 2 128 45 [.retAddr 0, .retAddr 0, .int v2, .retAddr 0, .int v4, .int v5, .ref 65, .ref 61] [.int (0 : Int32)] (97, I, J, R) _
          refine az_E.br (c := (0 : Int32) = 0) (tt := 51) (ff := 48) (L' := [.retAddr 0, .retAddr 0, .int v2, .retAddr 0, .int v4, .int v5, .ref 65, .ref 61]) (S' := []) (σ' := (97, I, J, R)) rfl (fun _ => ?_) (fun hn => absurd (by decide) hn)
          refine az_E.sn 1 (pc' := 53) (L' := [.retAddr 0, .retAddr 0, .int v2, .retAddr 0, .int v4, .int v5, .ref 65, .ref 61]) (S' := [.ref 65]) (σ' := (97, I, J, R)) rfl ?_
          refine az_E.call (d := 1) (k' := 55) (vs := [.ref 65]) (pc' := 56) (S' := []) rfl ?_ (fun _ _ hq => hq)
          show az_E az_F ex 1 55 0 [.ref 65] [] (97, I, J, R) _
          refine az_E.sn 3 (pc' := 5) (L' := [.ref 65]) (S' := [.int (-1 : Int32), .int (I 65 1)]) (σ' := (97, I, J, R)) rfl ?_
          refine az_E.br (c := (I 65 1) = (-1 : Int32)) (tt := 12) (ff := 8) (L' := [.ref 65]) (S' := []) (σ' := (97, I, J, R)) rfl (fun hc_661 => ?_) (fun hc_661 => ?_)
          · rw [if_pos hc_661] at h
            refine az_E.sn 1 (pc' := 13) (L' := [.ref 65]) (S' := [.int (0 : Int32)]) (σ' := (97, I, J, R)) rfl ?_
            refine az_E.ret (v := some (.int (0 : Int32))) (σ' := (97, I, J, R)) rfl ?_
            show az_E az_F ex 2 128 56 [.retAddr 0, .retAddr 0, .int v2, .retAddr 0, .int v4, .int v5, .ref 65, .ref 61] [.int (0 : Int32)] (97, I, J, R) _
            refine az_E.br (c := (0 : Int32) = 0) (tt := 72) (ff := 59) (L' := [.retAddr 0, .retAddr 0, .int v2, .retAddr 0, .int v4, .int v5, .ref 65, .ref 61]) (S' := []) (σ' := (97, I, J, R)) rfl (fun _ => ?_) (fun hn => absurd (by decide) hn)
            refine az_E.sn 1 (pc' := 74) (L' := [.retAddr 0, .retAddr 0, .int v2, .retAddr 0, .int v4, .int v5, .ref 65, .ref 61]) (S' := [.int (-12 : Int32)]) (σ' := (97, I, J, R)) rfl ?_
            have h := Option.some.inj h
            subst h
            exact az_E.ret (v := some (.int (-12 : Int32))) (σ' := (97, I, J, R)) rfl hQ
          · rw [if_neg hc_661] at h
            refine az_E.sn 2 (pc' := 13) (L' := [.ref 65]) (S' := [.int (1 : Int32)]) (σ' := (97, I, J, R)) rfl ?_
            refine az_E.ret (v := some (.int (1 : Int32))) (σ' := (97, I, J, R)) rfl ?_
            show az_E az_F ex 2 128 56 [.retAddr 0, .retAddr 0, .int v2, .retAddr 0, .int v4, .int v5, .ref 65, .ref 61] [.int (1 : Int32)] (97, I, J, R) _
            refine az_E.br (c := (1 : Int32) = 0) (tt := 72) (ff := 59) (L' := [.retAddr 0, .retAddr 0, .int v2, .retAddr 0, .int v4, .int v5, .ref 65, .ref 61]) (S' := []) (σ' := (97, I, J, R)) rfl (fun hn => absurd hn (by decide)) (fun _ => ?_)
            refine az_E.sn 3 (pc' := 66) (L' := [.retAddr 0, .retAddr 0, .int v2, .retAddr 0, .int v4, .int v5, .ref 65, .ref 61]) (S' := [.int (I 65 1), .ref 61]) (σ' := (97, I, J, R)) rfl ?_
            refine az_E.call (d := 1) (k' := 56) (vs := [.ref 61, .int (I 65 1)]) (pc' := 69) (S' := []) rfl ?_ (fun _ _ hq => hq)
            show az_E az_F ex 1 56 0 [.ref 61, .int (I 65 1)] [] (97, I, J, R) _
            refine az_E.sn 1 (pc' := 1) (L' := [.ref 61, .int (I 65 1)]) (S' := [.ref 61]) (σ' := (97, I, J, R)) rfl ?_
            refine az_E.call (d := 0) (k' := 55) (vs := [.ref 61]) (pc' := 4) (S' := []) rfl ?_ (fun _ _ hq => hq)
            show az_E az_F ex 0 55 0 [.ref 61] [] (97, I, J, R) _
            refine az_E.sn 3 (pc' := 5) (L' := [.ref 61]) (S' := [.int (-1 : Int32), .int (I 61 1)]) (σ' := (97, I, J, R)) rfl ?_
            refine az_E.br (c := (I 61 1) = (-1 : Int32)) (tt := 12) (ff := 8) (L' := [.ref 61]) (S' := []) (σ' := (97, I, J, R)) rfl (fun hc_662 => ?_) (fun hc_662 => ?_)
            · rw [if_pos hc_662] at h
              refine az_E.sn 1 (pc' := 13) (L' := [.ref 61]) (S' := [.int (0 : Int32)]) (σ' := (97, I, J, R)) rfl ?_
              refine az_E.ret (v := some (.int (0 : Int32))) (σ' := (97, I, J, R)) rfl ?_
              show az_E az_F ex 1 56 4 [.ref 61, .int (I 65 1)] [.int (0 : Int32)] (97, I, J, R) _
              refine az_E.br (c := (0 : Int32) = 0) (tt := 19) (ff := 7) (L' := [.ref 61, .int (I 65 1)]) (S' := []) (σ' := (97, I, J, R)) rfl (fun _ => ?_) (fun hn => absurd (by decide) hn)
              refine az_E.sn 1 (pc' := 20) (L' := [.ref 61, .int (I 65 1)]) (S' := [.int (0 : Int32)]) (σ' := (97, I, J, R)) rfl ?_
              refine az_E.ret (v := some (.int (0 : Int32))) (σ' := (97, I, J, R)) rfl ?_
              show az_E az_F ex 2 128 69 [.retAddr 0, .retAddr 0, .int v2, .retAddr 0, .int v4, .int v5, .ref 65, .ref 61] [.int (0 : Int32)] (97, I, J, R) _
              refine az_E.br (c := (0 : Int32) = 0) (tt := 72) (ff := 75) (L' := [.retAddr 0, .retAddr 0, .int v2, .retAddr 0, .int v4, .int v5, .ref 65, .ref 61]) (S' := []) (σ' := (97, I, J, R)) rfl (fun _ => ?_) (fun hn => absurd (by decide) hn)
              refine az_E.sn 1 (pc' := 74) (L' := [.retAddr 0, .retAddr 0, .int v2, .retAddr 0, .int v4, .int v5, .ref 65, .ref 61]) (S' := [.int (-12 : Int32)]) (σ' := (97, I, J, R)) rfl ?_
              have h := Option.some.inj h
              subst h
              exact az_E.ret (v := some (.int (-12 : Int32))) (σ' := (97, I, J, R)) rfl hQ
            · rw [if_neg hc_662] at h
              refine az_E.sn 2 (pc' := 13) (L' := [.ref 61]) (S' := [.int (1 : Int32)]) (σ' := (97, I, J, R)) rfl ?_
              refine az_E.ret (v := some (.int (1 : Int32))) (σ' := (97, I, J, R)) rfl ?_
              show az_E az_F ex 1 56 4 [.ref 61, .int (I 65 1)] [.int (1 : Int32)] (97, I, J, R) _
              refine az_E.br (c := (1 : Int32) = 0) (tt := 19) (ff := 7) (L' := [.ref 61, .int (I 65 1)]) (S' := []) (σ' := (97, I, J, R)) rfl (fun hn => absurd hn (by decide)) (fun _ => ?_)
              refine az_E.sn 3 (pc' := 12) (L' := [.ref 61, .int (I 65 1)]) (S' := [.int (I 65 1), .int (I 61 1)]) (σ' := (97, I, J, R)) rfl ?_
              refine az_E.br (c := (I 61 1) = (I 65 1)) (tt := 15) (ff := 19) (L' := [.ref 61, .int (I 65 1)]) (S' := []) (σ' := (97, I, J, R)) rfl (fun hc_663 => ?_) (fun hc_663 => ?_)
              · rw [if_pos hc_663] at h
                refine az_E.sn 2 (pc' := 20) (L' := [.ref 61, .int (I 65 1)]) (S' := [.int (1 : Int32)]) (σ' := (97, I, J, R)) rfl ?_
                refine az_E.ret (v := some (.int (1 : Int32))) (σ' := (97, I, J, R)) rfl ?_
                show az_E az_F ex 2 128 69 [.retAddr 0, .retAddr 0, .int v2, .retAddr 0, .int v4, .int v5, .ref 65, .ref 61] [.int (1 : Int32)] (97, I, J, R) _
                refine az_E.br (c := (1 : Int32) = 0) (tt := 72) (ff := 75) (L' := [.retAddr 0, .retAddr 0, .int v2, .retAddr 0, .int v4, .int v5, .ref 65, .ref 61]) (S' := []) (σ' := (97, I, J, R)) rfl (fun hn => absurd hn (by decide)) (fun _ => ?_)
                refine az_E.sn 3 (pc' := 80) (L' := [.retAddr 0, .retAddr 0, .int v2, .retAddr 0, .int v4, .int v5, .ref 65, .ref 61]) (S' := [.int v5, .int v2, .ref 65]) (σ' := (97, I, J, R)) rfl ?_
                refine az_E.call (d := 1) (k' := 60) (vs := [.ref 65, .int v2, .int v5]) (pc' := 83) (S' := []) rfl ?_ (fun _ _ hq => hq)
                show az_E az_F ex 1 60 0 [.ref 65, .int v2, .int v5] [] (97, I, J, R) _
                refine az_E.sn 1 (pc' := 1) (L' := [.ref 65, .int v2, .int v5]) (S' := [.int v2]) (σ' := (97, I, J, R)) rfl ?_
                refine az_E.br (c := v2 < 0) (tt := 30) (ff := 4) (L' := [.ref 65, .int v2, .int v5]) (S' := []) (σ' := (97, I, J, R)) rfl (fun hc_664 => ?_) (fun hc_664 => ?_)
                · rw [if_pos hc_664] at h
                  refine az_E.sn 1 (pc' := 31) (L' := [.ref 65, .int v2, .int v5]) (S' := [.int (0 : Int32)]) (σ' := (97, I, J, R)) rfl ?_
                  refine az_E.ret (v := some (.int (0 : Int32))) (σ' := (97, I, J, R)) rfl ?_
                  show az_E az_F ex 2 128 83 [.retAddr 0, .retAddr 0, .int v2, .retAddr 0, .int v4, .int v5, .ref 65, .ref 61] [.int (0 : Int32)] (97, I, J, R) _
                  refine az_E.br (c := (0 : Int32) = 0) (tt := 98) (ff := 86) (L' := [.retAddr 0, .retAddr 0, .int v2, .retAddr 0, .int v4, .int v5, .ref 65, .ref 61]) (S' := []) (σ' := (97, I, J, R)) rfl (fun _ => ?_) (fun hn => absurd (by decide) hn)
                  refine az_E.sn 1 (pc' := 100) (L' := [.retAddr 0, .retAddr 0, .int v2, .retAddr 0, .int v4, .int v5, .ref 65, .ref 61]) (S' := [.int (-13 : Int32)]) (σ' := (97, I, J, R)) rfl ?_
                  have h := Option.some.inj h
                  subst h
                  exact az_E.ret (v := some (.int (-13 : Int32))) (σ' := (97, I, J, R)) rfl hQ
                · rw [if_neg hc_664] at h
                  refine az_E.sn 1 (pc' := 5) (L' := [.ref 65, .int v2, .int v5]) (S' := [.int v5]) (σ' := (97, I, J, R)) rfl ?_
                  refine az_E.br (c := v5 < 0) (tt := 30) (ff := 8) (L' := [.ref 65, .int v2, .int v5]) (S' := []) (σ' := (97, I, J, R)) rfl (fun hc_665 => ?_) (fun hc_665 => ?_)
                  · rw [if_pos hc_665] at h
                    refine az_E.sn 1 (pc' := 31) (L' := [.ref 65, .int v2, .int v5]) (S' := [.int (0 : Int32)]) (σ' := (97, I, J, R)) rfl ?_
                    refine az_E.ret (v := some (.int (0 : Int32))) (σ' := (97, I, J, R)) rfl ?_
                    show az_E az_F ex 2 128 83 [.retAddr 0, .retAddr 0, .int v2, .retAddr 0, .int v4, .int v5, .ref 65, .ref 61] [.int (0 : Int32)] (97, I, J, R) _
                    refine az_E.br (c := (0 : Int32) = 0) (tt := 98) (ff := 86) (L' := [.retAddr 0, .retAddr 0, .int v2, .retAddr 0, .int v4, .int v5, .ref 65, .ref 61]) (S' := []) (σ' := (97, I, J, R)) rfl (fun _ => ?_) (fun hn => absurd (by decide) hn)
                    refine az_E.sn 1 (pc' := 100) (L' := [.retAddr 0, .retAddr 0, .int v2, .retAddr 0, .int v4, .int v5, .ref 65, .ref 61]) (S' := [.int (-13 : Int32)]) (σ' := (97, I, J, R)) rfl ?_
                    have h := Option.some.inj h
                    subst h
                    exact az_E.ret (v := some (.int (-13 : Int32))) (σ' := (97, I, J, R)) rfl hQ
                  · rw [if_neg hc_665] at h
                    refine az_E.sn 3 (pc' := 13) (L' := [.ref 65, .int v2, .int v5]) (S' := [.int (I 65 2), .int v2]) (σ' := (97, I, J, R)) rfl ?_
                    refine az_E.br (c := (I 65 2) < v2) (tt := 30) (ff := 16) (L' := [.ref 65, .int v2, .int v5]) (S' := []) (σ' := (97, I, J, R)) rfl (fun hc_666 => ?_) (fun hc_666 => ?_)
                    · rw [if_pos hc_666] at h
                      refine az_E.sn 1 (pc' := 31) (L' := [.ref 65, .int v2, .int v5]) (S' := [.int (0 : Int32)]) (σ' := (97, I, J, R)) rfl ?_
                      refine az_E.ret (v := some (.int (0 : Int32))) (σ' := (97, I, J, R)) rfl ?_
                      show az_E az_F ex 2 128 83 [.retAddr 0, .retAddr 0, .int v2, .retAddr 0, .int v4, .int v5, .ref 65, .ref 61] [.int (0 : Int32)] (97, I, J, R) _
                      refine az_E.br (c := (0 : Int32) = 0) (tt := 98) (ff := 86) (L' := [.retAddr 0, .retAddr 0, .int v2, .retAddr 0, .int v4, .int v5, .ref 65, .ref 61]) (S' := []) (σ' := (97, I, J, R)) rfl (fun _ => ?_) (fun hn => absurd (by decide) hn)
                      refine az_E.sn 1 (pc' := 100) (L' := [.retAddr 0, .retAddr 0, .int v2, .retAddr 0, .int v4, .int v5, .ref 65, .ref 61]) (S' := [.int (-13 : Int32)]) (σ' := (97, I, J, R)) rfl ?_
                      have h := Option.some.inj h
                      subst h
                      exact az_E.ret (v := some (.int (-13 : Int32))) (σ' := (97, I, J, R)) rfl hQ
                    · rw [if_neg hc_666] at h
                      refine az_E.sn 5 (pc' := 23) (L' := [.ref 65, .int v2, .int v5]) (S' := [.int ((I 65 2) - v2), .int v5]) (σ' := (97, I, J, R)) rfl ?_
                      refine az_E.br (c := ((I 65 2) - v2) < v5) (tt := 30) (ff := 26) (L' := [.ref 65, .int v2, .int v5]) (S' := []) (σ' := (97, I, J, R)) rfl (fun hc_667 => ?_) (fun hc_667 => ?_)
                      · rw [if_pos hc_667] at h
                        refine az_E.sn 1 (pc' := 31) (L' := [.ref 65, .int v2, .int v5]) (S' := [.int (0 : Int32)]) (σ' := (97, I, J, R)) rfl ?_
                        refine az_E.ret (v := some (.int (0 : Int32))) (σ' := (97, I, J, R)) rfl ?_
                        show az_E az_F ex 2 128 83 [.retAddr 0, .retAddr 0, .int v2, .retAddr 0, .int v4, .int v5, .ref 65, .ref 61] [.int (0 : Int32)] (97, I, J, R) _
                        refine az_E.br (c := (0 : Int32) = 0) (tt := 98) (ff := 86) (L' := [.retAddr 0, .retAddr 0, .int v2, .retAddr 0, .int v4, .int v5, .ref 65, .ref 61]) (S' := []) (σ' := (97, I, J, R)) rfl (fun _ => ?_) (fun hn => absurd (by decide) hn)
                        refine az_E.sn 1 (pc' := 100) (L' := [.retAddr 0, .retAddr 0, .int v2, .retAddr 0, .int v4, .int v5, .ref 65, .ref 61]) (S' := [.int (-13 : Int32)]) (σ' := (97, I, J, R)) rfl ?_
                        have h := Option.some.inj h
                        subst h
                        exact az_E.ret (v := some (.int (-13 : Int32))) (σ' := (97, I, J, R)) rfl hQ
                      · rw [if_neg hc_667] at h
                        refine az_E.sn 2 (pc' := 31) (L' := [.ref 65, .int v2, .int v5]) (S' := [.int (1 : Int32)]) (σ' := (97, I, J, R)) rfl ?_
                        refine az_E.ret (v := some (.int (1 : Int32))) (σ' := (97, I, J, R)) rfl ?_
                        show az_E az_F ex 2 128 83 [.retAddr 0, .retAddr 0, .int v2, .retAddr 0, .int v4, .int v5, .ref 65, .ref 61] [.int (1 : Int32)] (97, I, J, R) _
                        refine az_E.br (c := (1 : Int32) = 0) (tt := 98) (ff := 86) (L' := [.retAddr 0, .retAddr 0, .int v2, .retAddr 0, .int v4, .int v5, .ref 65, .ref 61]) (S' := []) (σ' := (97, I, J, R)) rfl (fun hn => absurd hn (by decide)) (fun _ => ?_)
                        refine az_E.sn 3 (pc' := 92) (L' := [.retAddr 0, .retAddr 0, .int v2, .retAddr 0, .int v4, .int v5, .ref 65, .ref 61]) (S' := [.int v5, .int v4, .ref 61]) (σ' := (97, I, J, R)) rfl ?_
                        refine az_E.call (d := 1) (k' := 60) (vs := [.ref 61, .int v4, .int v5]) (pc' := 95) (S' := []) rfl ?_ (fun _ _ hq => hq)
                        show az_E az_F ex 1 60 0 [.ref 61, .int v4, .int v5] [] (97, I, J, R) _
                        refine az_E.sn 1 (pc' := 1) (L' := [.ref 61, .int v4, .int v5]) (S' := [.int v4]) (σ' := (97, I, J, R)) rfl ?_
                        refine az_E.br (c := v4 < 0) (tt := 30) (ff := 4) (L' := [.ref 61, .int v4, .int v5]) (S' := []) (σ' := (97, I, J, R)) rfl (fun hc_668 => ?_) (fun hc_668 => ?_)
                        · rw [if_pos hc_668] at h
                          refine az_E.sn 1 (pc' := 31) (L' := [.ref 61, .int v4, .int v5]) (S' := [.int (0 : Int32)]) (σ' := (97, I, J, R)) rfl ?_
                          refine az_E.ret (v := some (.int (0 : Int32))) (σ' := (97, I, J, R)) rfl ?_
                          show az_E az_F ex 2 128 95 [.retAddr 0, .retAddr 0, .int v2, .retAddr 0, .int v4, .int v5, .ref 65, .ref 61] [.int (0 : Int32)] (97, I, J, R) _
                          refine az_E.br (c := (0 : Int32) = 0) (tt := 98) (ff := 101) (L' := [.retAddr 0, .retAddr 0, .int v2, .retAddr 0, .int v4, .int v5, .ref 65, .ref 61]) (S' := []) (σ' := (97, I, J, R)) rfl (fun _ => ?_) (fun hn => absurd (by decide) hn)
                          refine az_E.sn 1 (pc' := 100) (L' := [.retAddr 0, .retAddr 0, .int v2, .retAddr 0, .int v4, .int v5, .ref 65, .ref 61]) (S' := [.int (-13 : Int32)]) (σ' := (97, I, J, R)) rfl ?_
                          have h := Option.some.inj h
                          subst h
                          exact az_E.ret (v := some (.int (-13 : Int32))) (σ' := (97, I, J, R)) rfl hQ
                        · rw [if_neg hc_668] at h
                          refine az_E.sn 1 (pc' := 5) (L' := [.ref 61, .int v4, .int v5]) (S' := [.int v5]) (σ' := (97, I, J, R)) rfl ?_
                          refine az_E.br (c := v5 < 0) (tt := 30) (ff := 8) (L' := [.ref 61, .int v4, .int v5]) (S' := []) (σ' := (97, I, J, R)) rfl (fun hc_669 => ?_) (fun hc_669 => ?_)
                          · rw [if_pos hc_669] at h
                            refine az_E.sn 1 (pc' := 31) (L' := [.ref 61, .int v4, .int v5]) (S' := [.int (0 : Int32)]) (σ' := (97, I, J, R)) rfl ?_
                            refine az_E.ret (v := some (.int (0 : Int32))) (σ' := (97, I, J, R)) rfl ?_
                            show az_E az_F ex 2 128 95 [.retAddr 0, .retAddr 0, .int v2, .retAddr 0, .int v4, .int v5, .ref 65, .ref 61] [.int (0 : Int32)] (97, I, J, R) _
                            refine az_E.br (c := (0 : Int32) = 0) (tt := 98) (ff := 101) (L' := [.retAddr 0, .retAddr 0, .int v2, .retAddr 0, .int v4, .int v5, .ref 65, .ref 61]) (S' := []) (σ' := (97, I, J, R)) rfl (fun _ => ?_) (fun hn => absurd (by decide) hn)
                            refine az_E.sn 1 (pc' := 100) (L' := [.retAddr 0, .retAddr 0, .int v2, .retAddr 0, .int v4, .int v5, .ref 65, .ref 61]) (S' := [.int (-13 : Int32)]) (σ' := (97, I, J, R)) rfl ?_
                            have h := Option.some.inj h
                            subst h
                            exact az_E.ret (v := some (.int (-13 : Int32))) (σ' := (97, I, J, R)) rfl hQ
                          · rw [if_neg hc_669] at h
                            refine az_E.sn 3 (pc' := 13) (L' := [.ref 61, .int v4, .int v5]) (S' := [.int (I 61 2), .int v4]) (σ' := (97, I, J, R)) rfl ?_
                            refine az_E.br (c := (I 61 2) < v4) (tt := 30) (ff := 16) (L' := [.ref 61, .int v4, .int v5]) (S' := []) (σ' := (97, I, J, R)) rfl (fun hc_670 => ?_) (fun hc_670 => ?_)
                            · rw [if_pos hc_670] at h
                              refine az_E.sn 1 (pc' := 31) (L' := [.ref 61, .int v4, .int v5]) (S' := [.int (0 : Int32)]) (σ' := (97, I, J, R)) rfl ?_
                              refine az_E.ret (v := some (.int (0 : Int32))) (σ' := (97, I, J, R)) rfl ?_
                              show az_E az_F ex 2 128 95 [.retAddr 0, .retAddr 0, .int v2, .retAddr 0, .int v4, .int v5, .ref 65, .ref 61] [.int (0 : Int32)] (97, I, J, R) _
                              refine az_E.br (c := (0 : Int32) = 0) (tt := 98) (ff := 101) (L' := [.retAddr 0, .retAddr 0, .int v2, .retAddr 0, .int v4, .int v5, .ref 65, .ref 61]) (S' := []) (σ' := (97, I, J, R)) rfl (fun _ => ?_) (fun hn => absurd (by decide) hn)
                              refine az_E.sn 1 (pc' := 100) (L' := [.retAddr 0, .retAddr 0, .int v2, .retAddr 0, .int v4, .int v5, .ref 65, .ref 61]) (S' := [.int (-13 : Int32)]) (σ' := (97, I, J, R)) rfl ?_
                              have h := Option.some.inj h
                              subst h
                              exact az_E.ret (v := some (.int (-13 : Int32))) (σ' := (97, I, J, R)) rfl hQ
                            · rw [if_neg hc_670] at h
                              refine az_E.sn 5 (pc' := 23) (L' := [.ref 61, .int v4, .int v5]) (S' := [.int ((I 61 2) - v4), .int v5]) (σ' := (97, I, J, R)) rfl ?_
                              refine az_E.br (c := ((I 61 2) - v4) < v5) (tt := 30) (ff := 26) (L' := [.ref 61, .int v4, .int v5]) (S' := []) (σ' := (97, I, J, R)) rfl (fun hc_671 => ?_) (fun hc_671 => ?_)
                              · rw [if_pos hc_671] at h
                                refine az_E.sn 1 (pc' := 31) (L' := [.ref 61, .int v4, .int v5]) (S' := [.int (0 : Int32)]) (σ' := (97, I, J, R)) rfl ?_
                                refine az_E.ret (v := some (.int (0 : Int32))) (σ' := (97, I, J, R)) rfl ?_
                                show az_E az_F ex 2 128 95 [.retAddr 0, .retAddr 0, .int v2, .retAddr 0, .int v4, .int v5, .ref 65, .ref 61] [.int (0 : Int32)] (97, I, J, R) _
                                refine az_E.br (c := (0 : Int32) = 0) (tt := 98) (ff := 101) (L' := [.retAddr 0, .retAddr 0, .int v2, .retAddr 0, .int v4, .int v5, .ref 65, .ref 61]) (S' := []) (σ' := (97, I, J, R)) rfl (fun _ => ?_) (fun hn => absurd (by decide) hn)
                                refine az_E.sn 1 (pc' := 100) (L' := [.retAddr 0, .retAddr 0, .int v2, .retAddr 0, .int v4, .int v5, .ref 65, .ref 61]) (S' := [.int (-13 : Int32)]) (σ' := (97, I, J, R)) rfl ?_
                                have h := Option.some.inj h
                                subst h
                                exact az_E.ret (v := some (.int (-13 : Int32))) (σ' := (97, I, J, R)) rfl hQ
                              · rw [if_neg hc_671] at h
                                refine az_E.sn 2 (pc' := 31) (L' := [.ref 61, .int v4, .int v5]) (S' := [.int (1 : Int32)]) (σ' := (97, I, J, R)) rfl ?_
                                refine az_E.ret (v := some (.int (1 : Int32))) (σ' := (97, I, J, R)) rfl ?_
                                show az_E az_F ex 2 128 95 [.retAddr 0, .retAddr 0, .int v2, .retAddr 0, .int v4, .int v5, .ref 65, .ref 61] [.int (1 : Int32)] (97, I, J, R) _
                                refine az_E.br (c := (1 : Int32) = 0) (tt := 98) (ff := 101) (L' := [.retAddr 0, .retAddr 0, .int v2, .retAddr 0, .int v4, .int v5, .ref 65, .ref 61]) (S' := []) (σ' := (97, I, J, R)) rfl (fun hn => absurd hn (by decide)) (fun _ => ?_)
                                refine az_E.sn 7 (pc' := 116) (L' := [.retAddr 0, .retAddr 0, .int v2, .retAddr 0, .int v4, .int v5, .ref 65, .ref 61]) (S' := [.int v5, .int v4, .ref (61 + 1), .int v2, .ref (65 + 1)]) (σ' := (97, I, J, R)) rfl ?_
                                by_cases hc_672 : v2 < 0 ∨ v4 < 0 ∨ v5 < 0 ∨ 60 < v2.toNatClampNeg + v5.toNatClampNeg ∨ 60 < v4.toNatClampNeg + v5.toNatClampNeg
                                · rw [if_pos hc_672] at h; cases h
                                · rw [if_neg hc_672] at h
                                  refine az_E.o (o := az_cp az_F (97, I, J, R) (65 + 1) v2 (61 + 1) v4 v5) (pc' := 119) (L' := [.retAddr 0, .retAddr 0, .int v2, .retAddr 0, .int v4, .int v5, .ref 65, .ref 61]) (S' := []) (x := (97, I, (az_ur J (61 + 1) (va_cpy (J (65 + 1)) (J (61 + 1)) v2.toNatClampNeg v4.toNatClampNeg v5.toNatClampNeg)), R)) rfl (if_neg hc_672) ?_
                                  refine az_E.sn 1 (pc' := 121) (L' := [.retAddr 0, .retAddr 0, .int v2, .retAddr 0, .int v4, .int v5, .ref 65, .ref 61]) (S' := [.int v5]) (σ' := (97, I, (az_ur J (61 + 1) (va_cpy (J (65 + 1)) (J (61 + 1)) v2.toNatClampNeg v4.toNatClampNeg v5.toNatClampNeg)), R)) rfl ?_
                                  have h := Option.some.inj h
                                  subst h
                                  exact az_E.ret (v := some (.int v5)) (σ' := (97, I, (az_ur J (61 + 1) (va_cpy (J (65 + 1)) (J (61 + 1)) v2.toNatClampNeg v4.toNatClampNeg v5.toNatClampNeg)), R)) rfl hQ
              · rw [if_neg hc_663] at h
                refine az_E.sn 1 (pc' := 20) (L' := [.ref 61, .int (I 65 1)]) (S' := [.int (0 : Int32)]) (σ' := (97, I, J, R)) rfl ?_
                refine az_E.ret (v := some (.int (0 : Int32))) (σ' := (97, I, J, R)) rfl ?_
                show az_E az_F ex 2 128 69 [.retAddr 0, .retAddr 0, .int v2, .retAddr 0, .int v4, .int v5, .ref 65, .ref 61] [.int (0 : Int32)] (97, I, J, R) _
                refine az_E.br (c := (0 : Int32) = 0) (tt := 72) (ff := 75) (L' := [.retAddr 0, .retAddr 0, .int v2, .retAddr 0, .int v4, .int v5, .ref 65, .ref 61]) (S' := []) (σ' := (97, I, J, R)) rfl (fun _ => ?_) (fun hn => absurd (by decide) hn)
                refine az_E.sn 1 (pc' := 74) (L' := [.retAddr 0, .retAddr 0, .int v2, .retAddr 0, .int v4, .int v5, .ref 65, .ref 61]) (S' := [.int (-12 : Int32)]) (σ' := (97, I, J, R)) rfl ?_
                have h := Option.some.inj h
                subst h
                exact az_E.ret (v := some (.int (-12 : Int32))) (σ' := (97, I, J, R)) rfl hQ
      · rw [if_neg hc_659] at h
        refine az_E.sn 1 (pc' := 21) (L' := [.ref 61]) (S' := [.int (0 : Int32)]) (σ' := (97, I, J, R)) rfl ?_
        refine az_E.ret (v := some (.int (0 : Int32))) (σ' := (97, I, J, R)) rfl ?_
        show az_E az_F ex 2 128 45 [.retAddr 0, .retAddr 0, .int v2, .retAddr 0, .int v4, .int v5, .ref 65, .ref 61] [.int (0 : Int32)] (97, I, J, R) _
        refine az_E.br (c := (0 : Int32) = 0) (tt := 51) (ff := 48) (L' := [.retAddr 0, .retAddr 0, .int v2, .retAddr 0, .int v4, .int v5, .ref 65, .ref 61]) (S' := []) (σ' := (97, I, J, R)) rfl (fun _ => ?_) (fun hn => absurd (by decide) hn)
        refine az_E.sn 1 (pc' := 53) (L' := [.retAddr 0, .retAddr 0, .int v2, .retAddr 0, .int v4, .int v5, .ref 65, .ref 61]) (S' := [.ref 65]) (σ' := (97, I, J, R)) rfl ?_
        refine az_E.call (d := 1) (k' := 55) (vs := [.ref 65]) (pc' := 56) (S' := []) rfl ?_ (fun _ _ hq => hq)
        show az_E az_F ex 1 55 0 [.ref 65] [] (97, I, J, R) _
        refine az_E.sn 3 (pc' := 5) (L' := [.ref 65]) (S' := [.int (-1 : Int32), .int (I 65 1)]) (σ' := (97, I, J, R)) rfl ?_
        refine az_E.br (c := (I 65 1) = (-1 : Int32)) (tt := 12) (ff := 8) (L' := [.ref 65]) (S' := []) (σ' := (97, I, J, R)) rfl (fun hc_673 => ?_) (fun hc_673 => ?_)
        · rw [if_pos hc_673] at h
          refine az_E.sn 1 (pc' := 13) (L' := [.ref 65]) (S' := [.int (0 : Int32)]) (σ' := (97, I, J, R)) rfl ?_
          refine az_E.ret (v := some (.int (0 : Int32))) (σ' := (97, I, J, R)) rfl ?_
          show az_E az_F ex 2 128 56 [.retAddr 0, .retAddr 0, .int v2, .retAddr 0, .int v4, .int v5, .ref 65, .ref 61] [.int (0 : Int32)] (97, I, J, R) _
          refine az_E.br (c := (0 : Int32) = 0) (tt := 72) (ff := 59) (L' := [.retAddr 0, .retAddr 0, .int v2, .retAddr 0, .int v4, .int v5, .ref 65, .ref 61]) (S' := []) (σ' := (97, I, J, R)) rfl (fun _ => ?_) (fun hn => absurd (by decide) hn)
          refine az_E.sn 1 (pc' := 74) (L' := [.retAddr 0, .retAddr 0, .int v2, .retAddr 0, .int v4, .int v5, .ref 65, .ref 61]) (S' := [.int (-12 : Int32)]) (σ' := (97, I, J, R)) rfl ?_
          have h := Option.some.inj h
          subst h
          exact az_E.ret (v := some (.int (-12 : Int32))) (σ' := (97, I, J, R)) rfl hQ
        · rw [if_neg hc_673] at h
          refine az_E.sn 2 (pc' := 13) (L' := [.ref 65]) (S' := [.int (1 : Int32)]) (σ' := (97, I, J, R)) rfl ?_
          refine az_E.ret (v := some (.int (1 : Int32))) (σ' := (97, I, J, R)) rfl ?_
          show az_E az_F ex 2 128 56 [.retAddr 0, .retAddr 0, .int v2, .retAddr 0, .int v4, .int v5, .ref 65, .ref 61] [.int (1 : Int32)] (97, I, J, R) _
          refine az_E.br (c := (1 : Int32) = 0) (tt := 72) (ff := 59) (L' := [.retAddr 0, .retAddr 0, .int v2, .retAddr 0, .int v4, .int v5, .ref 65, .ref 61]) (S' := []) (σ' := (97, I, J, R)) rfl (fun hn => absurd hn (by decide)) (fun _ => ?_)
          refine az_E.sn 3 (pc' := 66) (L' := [.retAddr 0, .retAddr 0, .int v2, .retAddr 0, .int v4, .int v5, .ref 65, .ref 61]) (S' := [.int (I 65 1), .ref 61]) (σ' := (97, I, J, R)) rfl ?_
          refine az_E.call (d := 1) (k' := 56) (vs := [.ref 61, .int (I 65 1)]) (pc' := 69) (S' := []) rfl ?_ (fun _ _ hq => hq)
          show az_E az_F ex 1 56 0 [.ref 61, .int (I 65 1)] [] (97, I, J, R) _
          refine az_E.sn 1 (pc' := 1) (L' := [.ref 61, .int (I 65 1)]) (S' := [.ref 61]) (σ' := (97, I, J, R)) rfl ?_
          refine az_E.call (d := 0) (k' := 55) (vs := [.ref 61]) (pc' := 4) (S' := []) rfl ?_ (fun _ _ hq => hq)
          show az_E az_F ex 0 55 0 [.ref 61] [] (97, I, J, R) _
          refine az_E.sn 3 (pc' := 5) (L' := [.ref 61]) (S' := [.int (-1 : Int32), .int (I 61 1)]) (σ' := (97, I, J, R)) rfl ?_
          refine az_E.br (c := (I 61 1) = (-1 : Int32)) (tt := 12) (ff := 8) (L' := [.ref 61]) (S' := []) (σ' := (97, I, J, R)) rfl (fun hc_674 => ?_) (fun hc_674 => ?_)
          · rw [if_pos hc_674] at h
            refine az_E.sn 1 (pc' := 13) (L' := [.ref 61]) (S' := [.int (0 : Int32)]) (σ' := (97, I, J, R)) rfl ?_
            refine az_E.ret (v := some (.int (0 : Int32))) (σ' := (97, I, J, R)) rfl ?_
            show az_E az_F ex 1 56 4 [.ref 61, .int (I 65 1)] [.int (0 : Int32)] (97, I, J, R) _
            refine az_E.br (c := (0 : Int32) = 0) (tt := 19) (ff := 7) (L' := [.ref 61, .int (I 65 1)]) (S' := []) (σ' := (97, I, J, R)) rfl (fun _ => ?_) (fun hn => absurd (by decide) hn)
            refine az_E.sn 1 (pc' := 20) (L' := [.ref 61, .int (I 65 1)]) (S' := [.int (0 : Int32)]) (σ' := (97, I, J, R)) rfl ?_
            refine az_E.ret (v := some (.int (0 : Int32))) (σ' := (97, I, J, R)) rfl ?_
            show az_E az_F ex 2 128 69 [.retAddr 0, .retAddr 0, .int v2, .retAddr 0, .int v4, .int v5, .ref 65, .ref 61] [.int (0 : Int32)] (97, I, J, R) _
            refine az_E.br (c := (0 : Int32) = 0) (tt := 72) (ff := 75) (L' := [.retAddr 0, .retAddr 0, .int v2, .retAddr 0, .int v4, .int v5, .ref 65, .ref 61]) (S' := []) (σ' := (97, I, J, R)) rfl (fun _ => ?_) (fun hn => absurd (by decide) hn)
            refine az_E.sn 1 (pc' := 74) (L' := [.retAddr 0, .retAddr 0, .int v2, .retAddr 0, .int v4, .int v5, .ref 65, .ref 61]) (S' := [.int (-12 : Int32)]) (σ' := (97, I, J, R)) rfl ?_
            have h := Option.some.inj h
            subst h
            exact az_E.ret (v := some (.int (-12 : Int32))) (σ' := (97, I, J, R)) rfl hQ
          · rw [if_neg hc_674] at h
            refine az_E.sn 2 (pc' := 13) (L' := [.ref 61]) (S' := [.int (1 : Int32)]) (σ' := (97, I, J, R)) rfl ?_
            refine az_E.ret (v := some (.int (1 : Int32))) (σ' := (97, I, J, R)) rfl ?_
            show az_E az_F ex 1 56 4 [.ref 61, .int (I 65 1)] [.int (1 : Int32)] (97, I, J, R) _
            refine az_E.br (c := (1 : Int32) = 0) (tt := 19) (ff := 7) (L' := [.ref 61, .int (I 65 1)]) (S' := []) (σ' := (97, I, J, R)) rfl (fun hn => absurd hn (by decide)) (fun _ => ?_)
            refine az_E.sn 3 (pc' := 12) (L' := [.ref 61, .int (I 65 1)]) (S' := [.int (I 65 1), .int (I 61 1)]) (σ' := (97, I, J, R)) rfl ?_
            refine az_E.br (c := (I 61 1) = (I 65 1)) (tt := 15) (ff := 19) (L' := [.ref 61, .int (I 65 1)]) (S' := []) (σ' := (97, I, J, R)) rfl (fun hc_675 => ?_) (fun hc_675 => ?_)
            · rw [if_pos hc_675] at h
              refine az_E.sn 2 (pc' := 20) (L' := [.ref 61, .int (I 65 1)]) (S' := [.int (1 : Int32)]) (σ' := (97, I, J, R)) rfl ?_
              refine az_E.ret (v := some (.int (1 : Int32))) (σ' := (97, I, J, R)) rfl ?_
              show az_E az_F ex 2 128 69 [.retAddr 0, .retAddr 0, .int v2, .retAddr 0, .int v4, .int v5, .ref 65, .ref 61] [.int (1 : Int32)] (97, I, J, R) _
              refine az_E.br (c := (1 : Int32) = 0) (tt := 72) (ff := 75) (L' := [.retAddr 0, .retAddr 0, .int v2, .retAddr 0, .int v4, .int v5, .ref 65, .ref 61]) (S' := []) (σ' := (97, I, J, R)) rfl (fun hn => absurd hn (by decide)) (fun _ => ?_)
              refine az_E.sn 3 (pc' := 80) (L' := [.retAddr 0, .retAddr 0, .int v2, .retAddr 0, .int v4, .int v5, .ref 65, .ref 61]) (S' := [.int v5, .int v2, .ref 65]) (σ' := (97, I, J, R)) rfl ?_
              refine az_E.call (d := 1) (k' := 60) (vs := [.ref 65, .int v2, .int v5]) (pc' := 83) (S' := []) rfl ?_ (fun _ _ hq => hq)
              show az_E az_F ex 1 60 0 [.ref 65, .int v2, .int v5] [] (97, I, J, R) _
              refine az_E.sn 1 (pc' := 1) (L' := [.ref 65, .int v2, .int v5]) (S' := [.int v2]) (σ' := (97, I, J, R)) rfl ?_
              refine az_E.br (c := v2 < 0) (tt := 30) (ff := 4) (L' := [.ref 65, .int v2, .int v5]) (S' := []) (σ' := (97, I, J, R)) rfl (fun hc_676 => ?_) (fun hc_676 => ?_)
              · rw [if_pos hc_676] at h
                refine az_E.sn 1 (pc' := 31) (L' := [.ref 65, .int v2, .int v5]) (S' := [.int (0 : Int32)]) (σ' := (97, I, J, R)) rfl ?_
                refine az_E.ret (v := some (.int (0 : Int32))) (σ' := (97, I, J, R)) rfl ?_
                show az_E az_F ex 2 128 83 [.retAddr 0, .retAddr 0, .int v2, .retAddr 0, .int v4, .int v5, .ref 65, .ref 61] [.int (0 : Int32)] (97, I, J, R) _
                refine az_E.br (c := (0 : Int32) = 0) (tt := 98) (ff := 86) (L' := [.retAddr 0, .retAddr 0, .int v2, .retAddr 0, .int v4, .int v5, .ref 65, .ref 61]) (S' := []) (σ' := (97, I, J, R)) rfl (fun _ => ?_) (fun hn => absurd (by decide) hn)
                refine az_E.sn 1 (pc' := 100) (L' := [.retAddr 0, .retAddr 0, .int v2, .retAddr 0, .int v4, .int v5, .ref 65, .ref 61]) (S' := [.int (-13 : Int32)]) (σ' := (97, I, J, R)) rfl ?_
                have h := Option.some.inj h
                subst h
                exact az_E.ret (v := some (.int (-13 : Int32))) (σ' := (97, I, J, R)) rfl hQ
              · rw [if_neg hc_676] at h
                refine az_E.sn 1 (pc' := 5) (L' := [.ref 65, .int v2, .int v5]) (S' := [.int v5]) (σ' := (97, I, J, R)) rfl ?_
                refine az_E.br (c := v5 < 0) (tt := 30) (ff := 8) (L' := [.ref 65, .int v2, .int v5]) (S' := []) (σ' := (97, I, J, R)) rfl (fun hc_677 => ?_) (fun hc_677 => ?_)
                · rw [if_pos hc_677] at h
                  refine az_E.sn 1 (pc' := 31) (L' := [.ref 65, .int v2, .int v5]) (S' := [.int (0 : Int32)]) (σ' := (97, I, J, R)) rfl ?_
                  refine az_E.ret (v := some (.int (0 : Int32))) (σ' := (97, I, J, R)) rfl ?_
                  show az_E az_F ex 2 128 83 [.retAddr 0, .retAddr 0, .int v2, .retAddr 0, .int v4, .int v5, .ref 65, .ref 61] [.int (0 : Int32)] (97, I, J, R) _
                  refine az_E.br (c := (0 : Int32) = 0) (tt := 98) (ff := 86) (L' := [.retAddr 0, .retAddr 0, .int v2, .retAddr 0, .int v4, .int v5, .ref 65, .ref 61]) (S' := []) (σ' := (97, I, J, R)) rfl (fun _ => ?_) (fun hn => absurd (by decide) hn)
                  refine az_E.sn 1 (pc' := 100) (L' := [.retAddr 0, .retAddr 0, .int v2, .retAddr 0, .int v4, .int v5, .ref 65, .ref 61]) (S' := [.int (-13 : Int32)]) (σ' := (97, I, J, R)) rfl ?_
                  have h := Option.some.inj h
                  subst h
                  exact az_E.ret (v := some (.int (-13 : Int32))) (σ' := (97, I, J, R)) rfl hQ
                · rw [if_neg hc_677] at h
                  refine az_E.sn 3 (pc' := 13) (L' := [.ref 65, .int v2, .int v5]) (S' := [.int (I 65 2), .int v2]) (σ' := (97, I, J, R)) rfl ?_
                  refine az_E.br (c := (I 65 2) < v2) (tt := 30) (ff := 16) (L' := [.ref 65, .int v2, .int v5]) (S' := []) (σ' := (97, I, J, R)) rfl (fun hc_678 => ?_) (fun hc_678 => ?_)
                  · rw [if_pos hc_678] at h
                    refine az_E.sn 1 (pc' := 31) (L' := [.ref 65, .int v2, .int v5]) (S' := [.int (0 : Int32)]) (σ' := (97, I, J, R)) rfl ?_
                    refine az_E.ret (v := some (.int (0 : Int32))) (σ' := (97, I, J, R)) rfl ?_
                    show az_E az_F ex 2 128 83 [.retAddr 0, .retAddr 0, .int v2, .retAddr 0, .int v4, .int v5, .ref 65, .ref 61] [.int (0 : Int32)] (97, I, J, R) _
                    refine az_E.br (c := (0 : Int32) = 0) (tt := 98) (ff := 86) (L' := [.retAddr 0, .retAddr 0, .int v2, .retAddr 0, .int v4, .int v5, .ref 65, .ref 61]) (S' := []) (σ' := (97, I, J, R)) rfl (fun _ => ?_) (fun hn => absurd (by decide) hn)
                    refine az_E.sn 1 (pc' := 100) (L' := [.retAddr 0, .retAddr 0, .int v2, .retAddr 0, .int v4, .int v5, .ref 65, .ref 61]) (S' := [.int (-13 : Int32)]) (σ' := (97, I, J, R)) rfl ?_
                    have h := Option.some.inj h
                    subst h
                    exact az_E.ret (v := some (.int (-13 : Int32))) (σ' := (97, I, J, R)) rfl hQ
                  · rw [if_neg hc_678] at h
                    refine az_E.sn 5 (pc' := 23) (L' := [.ref 65, .int v2, .int v5]) (S' := [.int ((I 65 2) - v2), .int v5]) (σ' := (97, I, J, R)) rfl ?_
                    refine az_E.br (c := ((I 65 2) - v2) < v5) (tt := 30) (ff := 26) (L' := [.ref 65, .int v2, .int v5]) (S' := []) (σ' := (97, I, J, R)) rfl (fun hc_679 => ?_) (fun hc_679 => ?_)
                    · rw [if_pos hc_679] at h
                      refine az_E.sn 1 (pc' := 31) (L' := [.ref 65, .int v2, .int v5]) (S' := [.int (0 : Int32)]) (σ' := (97, I, J, R)) rfl ?_
                      refine az_E.ret (v := some (.int (0 : Int32))) (σ' := (97, I, J, R)) rfl ?_
                      show az_E az_F ex 2 128 83 [.retAddr 0, .retAddr 0, .int v2, .retAddr 0, .int v4, .int v5, .ref 65, .ref 61] [.int (0 : Int32)] (97, I, J, R) _
                      refine az_E.br (c := (0 : Int32) = 0) (tt := 98) (ff := 86) (L' := [.retAddr 0, .retAddr 0, .int v2, .retAddr 0, .int v4, .int v5, .ref 65, .ref 61]) (S' := []) (σ' := (97, I, J, R)) rfl (fun _ => ?_) (fun hn => absurd (by decide) hn)
                      refine az_E.sn 1 (pc' := 100) (L' := [.retAddr 0, .retAddr 0, .int v2, .retAddr 0, .int v4, .int v5, .ref 65, .ref 61]) (S' := [.int (-13 : Int32)]) (σ' := (97, I, J, R)) rfl ?_
                      have h := Option.some.inj h
                      subst h
                      exact az_E.ret (v := some (.int (-13 : Int32))) (σ' := (97, I, J, R)) rfl hQ
                    · rw [if_neg hc_679] at h
                      refine az_E.sn 2 (pc' := 31) (L' := [.ref 65, .int v2, .int v5]) (S' := [.int (1 : Int32)]) (σ' := (97, I, J, R)) rfl ?_
                      refine az_E.ret (v := some (.int (1 : Int32))) (σ' := (97, I, J, R)) rfl ?_
                      show az_E az_F ex 2 128 83 [.retAddr 0, .retAddr 0, .int v2, .retAddr 0, .int v4, .int v5, .ref 65, .ref 61] [.int (1 : Int32)] (97, I, J, R) _
                      refine az_E.br (c := (1 : Int32) = 0) (tt := 98) (ff := 86) (L' := [.retAddr 0, .retAddr 0, .int v2, .retAddr 0, .int v4, .int v5, .ref 65, .ref 61]) (S' := []) (σ' := (97, I, J, R)) rfl (fun hn => absurd hn (by decide)) (fun _ => ?_)
                      refine az_E.sn 3 (pc' := 92) (L' := [.retAddr 0, .retAddr 0, .int v2, .retAddr 0, .int v4, .int v5, .ref 65, .ref 61]) (S' := [.int v5, .int v4, .ref 61]) (σ' := (97, I, J, R)) rfl ?_
                      refine az_E.call (d := 1) (k' := 60) (vs := [.ref 61, .int v4, .int v5]) (pc' := 95) (S' := []) rfl ?_ (fun _ _ hq => hq)
                      show az_E az_F ex 1 60 0 [.ref 61, .int v4, .int v5] [] (97, I, J, R) _
                      refine az_E.sn 1 (pc' := 1) (L' := [.ref 61, .int v4, .int v5]) (S' := [.int v4]) (σ' := (97, I, J, R)) rfl ?_
                      refine az_E.br (c := v4 < 0) (tt := 30) (ff := 4) (L' := [.ref 61, .int v4, .int v5]) (S' := []) (σ' := (97, I, J, R)) rfl (fun hc_680 => ?_) (fun hc_680 => ?_)
                      · rw [if_pos hc_680] at h
                        refine az_E.sn 1 (pc' := 31) (L' := [.ref 61, .int v4, .int v5]) (S' := [.int (0 : Int32)]) (σ' := (97, I, J, R)) rfl ?_
                        refine az_E.ret (v := some (.int (0 : Int32))) (σ' := (97, I, J, R)) rfl ?_
                        show az_E az_F ex 2 128 95 [.retAddr 0, .retAddr 0, .int v2, .retAddr 0, .int v4, .int v5, .ref 65, .ref 61] [.int (0 : Int32)] (97, I, J, R) _
                        refine az_E.br (c := (0 : Int32) = 0) (tt := 98) (ff := 101) (L' := [.retAddr 0, .retAddr 0, .int v2, .retAddr 0, .int v4, .int v5, .ref 65, .ref 61]) (S' := []) (σ' := (97, I, J, R)) rfl (fun _ => ?_) (fun hn => absurd (by decide) hn)
                        refine az_E.sn 1 (pc' := 100) (L' := [.retAddr 0, .retAddr 0, .int v2, .retAddr 0, .int v4, .int v5, .ref 65, .ref 61]) (S' := [.int (-13 : Int32)]) (σ' := (97, I, J, R)) rfl ?_
                        have h := Option.some.inj h
                        subst h
                        exact az_E.ret (v := some (.int (-13 : Int32))) (σ' := (97, I, J, R)) rfl hQ
                      · rw [if_neg hc_680] at h
                        refine az_E.sn 1 (pc' := 5) (L' := [.ref 61, .int v4, .int v5]) (S' := [.int v5]) (σ' := (97, I, J, R)) rfl ?_
                        refine az_E.br (c := v5 < 0) (tt := 30) (ff := 8) (L' := [.ref 61, .int v4, .int v5]) (S' := []) (σ' := (97, I, J, R)) rfl (fun hc_681 => ?_) (fun hc_681 => ?_)
                        · rw [if_pos hc_681] at h
                          refine az_E.sn 1 (pc' := 31) (L' := [.ref 61, .int v4, .int v5]) (S' := [.int (0 : Int32)]) (σ' := (97, I, J, R)) rfl ?_
                          refine az_E.ret (v := some (.int (0 : Int32))) (σ' := (97, I, J, R)) rfl ?_
                          show az_E az_F ex 2 128 95 [.retAddr 0, .retAddr 0, .int v2, .retAddr 0, .int v4, .int v5, .ref 65, .ref 61] [.int (0 : Int32)] (97, I, J, R) _
                          refine az_E.br (c := (0 : Int32) = 0) (tt := 98) (ff := 101) (L' := [.retAddr 0, .retAddr 0, .int v2, .retAddr 0, .int v4, .int v5, .ref 65, .ref 61]) (S' := []) (σ' := (97, I, J, R)) rfl (fun _ => ?_) (fun hn => absurd (by decide) hn)
                          refine az_E.sn 1 (pc' := 100) (L' := [.retAddr 0, .retAddr 0, .int v2, .retAddr 0, .int v4, .int v5, .ref 65, .ref 61]) (S' := [.int (-13 : Int32)]) (σ' := (97, I, J, R)) rfl ?_
                          have h := Option.some.inj h
                          subst h
                          exact az_E.ret (v := some (.int (-13 : Int32))) (σ' := (97, I, J, R)) rfl hQ
                        · rw [if_neg hc_681] at h
                          refine az_E.sn 3 (pc' := 13) (L' := [.ref 61, .int v4, .int v5]) (S' := [.int (I 61 2), .int v4]) (σ' := (97, I, J, R)) rfl ?_
                          refine az_E.br (c := (I 61 2) < v4) (tt := 30) (ff := 16) (L' := [.ref 61, .int v4, .int v5]) (S' := []) (σ' := (97, I, J, R)) rfl (fun hc_682 => ?_) (fun hc_682 => ?_)
                          · rw [if_pos hc_682] at h
                            refine az_E.sn 1 (pc' := 31) (L' := [.ref 61, .int v4, .int v5]) (S' := [.int (0 : Int32)]) (σ' := (97, I, J, R)) rfl ?_
                            refine az_E.ret (v := some (.int (0 : Int32))) (σ' := (97, I, J, R)) rfl ?_
                            show az_E az_F ex 2 128 95 [.retAddr 0, .retAddr 0, .int v2, .retAddr 0, .int v4, .int v5, .ref 65, .ref 61] [.int (0 : Int32)] (97, I, J, R) _
                            refine az_E.br (c := (0 : Int32) = 0) (tt := 98) (ff := 101) (L' := [.retAddr 0, .retAddr 0, .int v2, .retAddr 0, .int v4, .int v5, .ref 65, .ref 61]) (S' := []) (σ' := (97, I, J, R)) rfl (fun _ => ?_) (fun hn => absurd (by decide) hn)
                            refine az_E.sn 1 (pc' := 100) (L' := [.retAddr 0, .retAddr 0, .int v2, .retAddr 0, .int v4, .int v5, .ref 65, .ref 61]) (S' := [.int (-13 : Int32)]) (σ' := (97, I, J, R)) rfl ?_
                            have h := Option.some.inj h
                            subst h
                            exact az_E.ret (v := some (.int (-13 : Int32))) (σ' := (97, I, J, R)) rfl hQ
                          · rw [if_neg hc_682] at h
                            refine az_E.sn 5 (pc' := 23) (L' := [.ref 61, .int v4, .int v5]) (S' := [.int ((I 61 2) - v4), .int v5]) (σ' := (97, I, J, R)) rfl ?_
                            refine az_E.br (c := ((I 61 2) - v4) < v5) (tt := 30) (ff := 26) (L' := [.ref 61, .int v4, .int v5]) (S' := []) (σ' := (97, I, J, R)) rfl (fun hc_683 => ?_) (fun hc_683 => ?_)
                            · rw [if_pos hc_683] at h
                              refine az_E.sn 1 (pc' := 31) (L' := [.ref 61, .int v4, .int v5]) (S' := [.int (0 : Int32)]) (σ' := (97, I, J, R)) rfl ?_
                              refine az_E.ret (v := some (.int (0 : Int32))) (σ' := (97, I, J, R)) rfl ?_
                              show az_E az_F ex 2 128 95 [.retAddr 0, .retAddr 0, .int v2, .retAddr 0, .int v4, .int v5, .ref 65, .ref 61] [.int (0 : Int32)] (97, I, J, R) _
                              refine az_E.br (c := (0 : Int32) = 0) (tt := 98) (ff := 101) (L' := [.retAddr 0, .retAddr 0, .int v2, .retAddr 0, .int v4, .int v5, .ref 65, .ref 61]) (S' := []) (σ' := (97, I, J, R)) rfl (fun _ => ?_) (fun hn => absurd (by decide) hn)
                              refine az_E.sn 1 (pc' := 100) (L' := [.retAddr 0, .retAddr 0, .int v2, .retAddr 0, .int v4, .int v5, .ref 65, .ref 61]) (S' := [.int (-13 : Int32)]) (σ' := (97, I, J, R)) rfl ?_
                              have h := Option.some.inj h
                              subst h
                              exact az_E.ret (v := some (.int (-13 : Int32))) (σ' := (97, I, J, R)) rfl hQ
                            · rw [if_neg hc_683] at h
                              refine az_E.sn 2 (pc' := 31) (L' := [.ref 61, .int v4, .int v5]) (S' := [.int (1 : Int32)]) (σ' := (97, I, J, R)) rfl ?_
                              refine az_E.ret (v := some (.int (1 : Int32))) (σ' := (97, I, J, R)) rfl ?_
                              show az_E az_F ex 2 128 95 [.retAddr 0, .retAddr 0, .int v2, .retAddr 0, .int v4, .int v5, .ref 65, .ref 61] [.int (1 : Int32)] (97, I, J, R) _
                              refine az_E.br (c := (1 : Int32) = 0) (tt := 98) (ff := 101) (L' := [.retAddr 0, .retAddr 0, .int v2, .retAddr 0, .int v4, .int v5, .ref 65, .ref 61]) (S' := []) (σ' := (97, I, J, R)) rfl (fun hn => absurd hn (by decide)) (fun _ => ?_)
                              refine az_E.sn 7 (pc' := 116) (L' := [.retAddr 0, .retAddr 0, .int v2, .retAddr 0, .int v4, .int v5, .ref 65, .ref 61]) (S' := [.int v5, .int v4, .ref (61 + 1), .int v2, .ref (65 + 1)]) (σ' := (97, I, J, R)) rfl ?_
                              by_cases hc_684 : v2 < 0 ∨ v4 < 0 ∨ v5 < 0 ∨ 60 < v2.toNatClampNeg + v5.toNatClampNeg ∨ 60 < v4.toNatClampNeg + v5.toNatClampNeg
                              · rw [if_pos hc_684] at h; cases h
                              · rw [if_neg hc_684] at h
                                refine az_E.o (o := az_cp az_F (97, I, J, R) (65 + 1) v2 (61 + 1) v4 v5) (pc' := 119) (L' := [.retAddr 0, .retAddr 0, .int v2, .retAddr 0, .int v4, .int v5, .ref 65, .ref 61]) (S' := []) (x := (97, I, (az_ur J (61 + 1) (va_cpy (J (65 + 1)) (J (61 + 1)) v2.toNatClampNeg v4.toNatClampNeg v5.toNatClampNeg)), R)) rfl (if_neg hc_684) ?_
                                refine az_E.sn 1 (pc' := 121) (L' := [.retAddr 0, .retAddr 0, .int v2, .retAddr 0, .int v4, .int v5, .ref 65, .ref 61]) (S' := [.int v5]) (σ' := (97, I, (az_ur J (61 + 1) (va_cpy (J (65 + 1)) (J (61 + 1)) v2.toNatClampNeg v4.toNatClampNeg v5.toNatClampNeg)), R)) rfl ?_
                                have h := Option.some.inj h
                                subst h
                                exact az_E.ret (v := some (.int v5)) (σ' := (97, I, (az_ur J (61 + 1) (va_cpy (J (65 + 1)) (J (61 + 1)) v2.toNatClampNeg v4.toNatClampNeg v5.toNatClampNeg)), R)) rfl hQ
            · rw [if_neg hc_675] at h
              refine az_E.sn 1 (pc' := 20) (L' := [.ref 61, .int (I 65 1)]) (S' := [.int (0 : Int32)]) (σ' := (97, I, J, R)) rfl ?_
              refine az_E.ret (v := some (.int (0 : Int32))) (σ' := (97, I, J, R)) rfl ?_
              show az_E az_F ex 2 128 69 [.retAddr 0, .retAddr 0, .int v2, .retAddr 0, .int v4, .int v5, .ref 65, .ref 61] [.int (0 : Int32)] (97, I, J, R) _
              refine az_E.br (c := (0 : Int32) = 0) (tt := 72) (ff := 75) (L' := [.retAddr 0, .retAddr 0, .int v2, .retAddr 0, .int v4, .int v5, .ref 65, .ref 61]) (S' := []) (σ' := (97, I, J, R)) rfl (fun _ => ?_) (fun hn => absurd (by decide) hn)
              refine az_E.sn 1 (pc' := 74) (L' := [.retAddr 0, .retAddr 0, .int v2, .retAddr 0, .int v4, .int v5, .ref 65, .ref 61]) (S' := [.int (-12 : Int32)]) (σ' := (97, I, J, R)) rfl ?_
              have h := Option.some.inj h
              subst h
              exact az_E.ret (v := some (.int (-12 : Int32))) (σ' := (97, I, J, R)) rfl hQ
  · rw [if_neg hc_657] at h
    refine az_E.sn 1 (pc' := 21) (L' := [.ref 65]) (S' := [.int (0 : Int32)]) (σ' := (97, I, J, R)) rfl ?_
    refine az_E.ret (v := some (.int (0 : Int32))) (σ' := (97, I, J, R)) rfl ?_
    show az_E az_F ex 2 128 37 [.retAddr 0, .retAddr 0, .int v2, .retAddr 0, .int v4, .int v5, .ref 65, .ref 61] [.int (0 : Int32)] (97, I, J, R) _
    refine az_E.br (c := (0 : Int32) = 0) (tt := 40) (ff := 48) (L' := [.retAddr 0, .retAddr 0, .int v2, .retAddr 0, .int v4, .int v5, .ref 65, .ref 61]) (S' := []) (σ' := (97, I, J, R)) rfl (fun _ => ?_) (fun hn => absurd (by decide) hn)
    refine az_E.sn 1 (pc' := 42) (L' := [.retAddr 0, .retAddr 0, .int v2, .retAddr 0, .int v4, .int v5, .ref 65, .ref 61]) (S' := [.ref 61]) (σ' := (97, I, J, R)) rfl ?_
    refine az_E.call (d := 1) (k' := 54) (vs := [.ref 61]) (pc' := 45) (S' := []) rfl ?_ (fun _ _ hq => hq)
    show az_E az_F ex 1 54 0 [.ref 61] [] (97, I, J, R) _
    refine az_E.sn 3 (pc' := 5) (L' := [.ref 61]) (S' := [.int (-1 : Int32), .int (I 61 0)]) (σ' := (97, I, J, R)) rfl ?_
    refine az_E.br (c := (I 61 0) = (-1 : Int32)) (tt := 8) (ff := 20) (L' := [.ref 61]) (S' := []) (σ' := (97, I, J, R)) rfl (fun hc_685 => ?_) (fun hc_685 => ?_)
    · rw [if_pos hc_685] at h
      refine az_E.sn 3 (pc' := 13) (L' := [.ref 61]) (S' := [.int (-1 : Int32), .int (I 61 1)]) (σ' := (97, I, J, R)) rfl ?_
      refine az_E.br (c := (I 61 1) = (-1 : Int32)) (tt := 16) (ff := 20) (L' := [.ref 61]) (S' := []) (σ' := (97, I, J, R)) rfl (fun hc_686 => ?_) (fun hc_686 => ?_)
      · rw [if_pos hc_686] at h
        refine az_E.sn 2 (pc' := 21) (L' := [.ref 61]) (S' := [.int (1 : Int32)]) (σ' := (97, I, J, R)) rfl ?_
        refine az_E.ret (v := some (.int (1 : Int32))) (σ' := (97, I, J, R)) rfl ?_
        show az_E az_F ex 2 128 45 [.retAddr 0, .retAddr 0, .int v2, .retAddr 0, .int v4, .int v5, .ref 65, .ref 61] [.int (1 : Int32)] (97, I, J, R) _
        refine az_E.br (c := (1 : Int32) = 0) (tt := 51) (ff := 48) (L' := [.retAddr 0, .retAddr 0, .int v2, .retAddr 0, .int v4, .int v5, .ref 65, .ref 61]) (S' := []) (σ' := (97, I, J, R)) rfl (fun hn => absurd hn (by decide)) (fun _ => ?_)
        refine az_E.sn 1 (pc' := 50) (L' := [.retAddr 0, .retAddr 0, .int v2, .retAddr 0, .int v4, .int v5, .ref 65, .ref 61]) (S' := [.int (-11 : Int32)]) (σ' := (97, I, J, R)) rfl ?_
        have h := Option.some.inj h
        subst h
        exact az_E.ret (v := some (.int (-11 : Int32))) (σ' := (97, I, J, R)) rfl hQ
      · rw [if_neg hc_686] at h
        refine az_E.sn 1 (pc' := 21) (L' := [.ref 61]) (S' := [.int (0 : Int32)]) (σ' := (97, I, J, R)) rfl ?_
        refine az_E.ret (v := some (.int (0 : Int32))) (σ' := (97, I, J, R)) rfl ?_
        show az_E az_F ex 2 128 45 [.retAddr 0, .retAddr 0, .int v2, .retAddr 0, .int v4, .int v5, .ref 65, .ref 61] [.int (0 : Int32)] (97, I, J, R) _
        refine az_E.br (c := (0 : Int32) = 0) (tt := 51) (ff := 48) (L' := [.retAddr 0, .retAddr 0, .int v2, .retAddr 0, .int v4, .int v5, .ref 65, .ref 61]) (S' := []) (σ' := (97, I, J, R)) rfl (fun _ => ?_) (fun hn => absurd (by decide) hn)
        refine az_E.sn 1 (pc' := 53) (L' := [.retAddr 0, .retAddr 0, .int v2, .retAddr 0, .int v4, .int v5, .ref 65, .ref 61]) (S' := [.ref 65]) (σ' := (97, I, J, R)) rfl ?_
        refine az_E.call (d := 1) (k' := 55) (vs := [.ref 65]) (pc' := 56) (S' := []) rfl ?_ (fun _ _ hq => hq)
        show az_E az_F ex 1 55 0 [.ref 65] [] (97, I, J, R) _
        refine az_E.sn 3 (pc' := 5) (L' := [.ref 65]) (S' := [.int (-1 : Int32), .int (I 65 1)]) (σ' := (97, I, J, R)) rfl ?_
        refine az_E.br (c := (I 65 1) = (-1 : Int32)) (tt := 12) (ff := 8) (L' := [.ref 65]) (S' := []) (σ' := (97, I, J, R)) rfl (fun hc_687 => ?_) (fun hc_687 => ?_)
        · rw [if_pos hc_687] at h
          refine az_E.sn 1 (pc' := 13) (L' := [.ref 65]) (S' := [.int (0 : Int32)]) (σ' := (97, I, J, R)) rfl ?_
          refine az_E.ret (v := some (.int (0 : Int32))) (σ' := (97, I, J, R)) rfl ?_
          show az_E az_F ex 2 128 56 [.retAddr 0, .retAddr 0, .int v2, .retAddr 0, .int v4, .int v5, .ref 65, .ref 61] [.int (0 : Int32)] (97, I, J, R) _
          refine az_E.br (c := (0 : Int32) = 0) (tt := 72) (ff := 59) (L' := [.retAddr 0, .retAddr 0, .int v2, .retAddr 0, .int v4, .int v5, .ref 65, .ref 61]) (S' := []) (σ' := (97, I, J, R)) rfl (fun _ => ?_) (fun hn => absurd (by decide) hn)
          refine az_E.sn 1 (pc' := 74) (L' := [.retAddr 0, .retAddr 0, .int v2, .retAddr 0, .int v4, .int v5, .ref 65, .ref 61]) (S' := [.int (-12 : Int32)]) (σ' := (97, I, J, R)) rfl ?_
          have h := Option.some.inj h
          subst h
          exact az_E.ret (v := some (.int (-12 : Int32))) (σ' := (97, I, J, R)) rfl hQ
        · rw [if_neg hc_687] at h
          refine az_E.sn 2 (pc' := 13) (L' := [.ref 65]) (S' := [.int (1 : Int32)]) (σ' := (97, I, J, R)) rfl ?_
          refine az_E.ret (v := some (.int (1 : Int32))) (σ' := (97, I, J, R)) rfl ?_
          show az_E az_F ex 2 128 56 [.retAddr 0, .retAddr 0, .int v2, .retAddr 0, .int v4, .int v5, .ref 65, .ref 61] [.int (1 : Int32)] (97, I, J, R) _
          refine az_E.br (c := (1 : Int32) = 0) (tt := 72) (ff := 59) (L' := [.retAddr 0, .retAddr 0, .int v2, .retAddr 0, .int v4, .int v5, .ref 65, .ref 61]) (S' := []) (σ' := (97, I, J, R)) rfl (fun hn => absurd hn (by decide)) (fun _ => ?_)
          refine az_E.sn 3 (pc' := 66) (L' := [.retAddr 0, .retAddr 0, .int v2, .retAddr 0, .int v4, .int v5, .ref 65, .ref 61]) (S' := [.int (I 65 1), .ref 61]) (σ' := (97, I, J, R)) rfl ?_
          refine az_E.call (d := 1) (k' := 56) (vs := [.ref 61, .int (I 65 1)]) (pc' := 69) (S' := []) rfl ?_ (fun _ _ hq => hq)
          show az_E az_F ex 1 56 0 [.ref 61, .int (I 65 1)] [] (97, I, J, R) _
          refine az_E.sn 1 (pc' := 1) (L' := [.ref 61, .int (I 65 1)]) (S' := [.ref 61]) (σ' := (97, I, J, R)) rfl ?_
          refine az_E.call (d := 0) (k' := 55) (vs := [.ref 61]) (pc' := 4) (S' := []) rfl ?_ (fun _ _ hq => hq)
          show az_E az_F ex 0 55 0 [.ref 61] [] (97, I, J, R) _
          refine az_E.sn 3 (pc' := 5) (L' := [.ref 61]) (S' := [.int (-1 : Int32), .int (I 61 1)]) (σ' := (97, I, J, R)) rfl ?_
          refine az_E.br (c := (I 61 1) = (-1 : Int32)) (tt := 12) (ff := 8) (L' := [.ref 61]) (S' := []) (σ' := (97, I, J, R)) rfl (fun hc_688 => ?_) (fun hc_688 => ?_)
          · rw [if_pos hc_688] at h
            refine az_E.sn 1 (pc' := 13) (L' := [.ref 61]) (S' := [.int (0 : Int32)]) (σ' := (97, I, J, R)) rfl ?_
            refine az_E.ret (v := some (.int (0 : Int32))) (σ' := (97, I, J, R)) rfl ?_
            show az_E az_F ex 1 56 4 [.ref 61, .int (I 65 1)] [.int (0 : Int32)] (97, I, J, R) _
            refine az_E.br (c := (0 : Int32) = 0) (tt := 19) (ff := 7) (L' := [.ref 61, .int (I 65 1)]) (S' := []) (σ' := (97, I, J, R)) rfl (fun _ => ?_) (fun hn => absurd (by decide) hn)
            refine az_E.sn 1 (pc' := 20) (L' := [.ref 61, .int (I 65 1)]) (S' := [.int (0 : Int32)]) (σ' := (97, I, J, R)) rfl ?_
            refine az_E.ret (v := some (.int (0 : Int32))) (σ' := (97, I, J, R)) rfl ?_
            show az_E az_F ex 2 128 69 [.retAddr 0, .retAddr 0, .int v2, .retAddr 0, .int v4, .int v5, .ref 65, .ref 61] [.int (0 : Int32)] (97, I, J, R) _
            refine az_E.br (c := (0 : Int32) = 0) (tt := 72) (ff := 75) (L' := [.retAddr 0, .retAddr 0, .int v2, .retAddr 0, .int v4, .int v5, .ref 65, .ref 61]) (S' := []) (σ' := (97, I, J, R)) rfl (fun _ => ?_) (fun hn => absurd (by decide) hn)
            refine az_E.sn 1 (pc' := 74) (L' := [.retAddr 0, .retAddr 0, .int v2, .retAddr 0, .int v4, .int v5, .ref 65, .ref 61]) (S' := [.int (-12 : Int32)]) (σ' := (97, I, J, R)) rfl ?_
            have h := Option.some.inj h
            subst h
            exact az_E.ret (v := some (.int (-12 : Int32))) (σ' := (97, I, J, R)) rfl hQ
          · rw [if_neg hc_688] at h
            refine az_E.sn 2 (pc' := 13) (L' := [.ref 61]) (S' := [.int (1 : Int32)]) (σ' := (97, I, J, R)) rfl ?_
            refine az_E.ret (v := some (.int (1 : Int32))) (σ' := (97, I, J, R)) rfl ?_
            show az_E az_F ex 1 56 4 [.ref 61, .int (I 65 1)] [.int (1 : Int32)] (97, I, J, R) _
            refine az_E.br (c := (1 : Int32) = 0) (tt := 19) (ff := 7) (L' := [.ref 61, .int (I 65 1)]) (S' := []) (σ' := (97, I, J, R)) rfl (fun hn => absurd hn (by decide)) (fun _ => ?_)
            refine az_E.sn 3 (pc' := 12) (L' := [.ref 61, .int (I 65 1)]) (S' := [.int (I 65 1), .int (I 61 1)]) (σ' := (97, I, J, R)) rfl ?_
            refine az_E.br (c := (I 61 1) = (I 65 1)) (tt := 15) (ff := 19) (L' := [.ref 61, .int (I 65 1)]) (S' := []) (σ' := (97, I, J, R)) rfl (fun hc_689 => ?_) (fun hc_689 => ?_)
            · rw [if_pos hc_689] at h
              refine az_E.sn 2 (pc' := 20) (L' := [.ref 61, .int (I 65 1)]) (S' := [.int (1 : Int32)]) (σ' := (97, I, J, R)) rfl ?_
              refine az_E.ret (v := some (.int (1 : Int32))) (σ' := (97, I, J, R)) rfl ?_
              show az_E az_F ex 2 128 69 [.retAddr 0, .retAddr 0, .int v2, .retAddr 0, .int v4, .int v5, .ref 65, .ref 61] [.int (1 : Int32)] (97, I, J, R) _
              refine az_E.br (c := (1 : Int32) = 0) (tt := 72) (ff := 75) (L' := [.retAddr 0, .retAddr 0, .int v2, .retAddr 0, .int v4, .int v5, .ref 65, .ref 61]) (S' := []) (σ' := (97, I, J, R)) rfl (fun hn => absurd hn (by decide)) (fun _ => ?_)
              refine az_E.sn 3 (pc' := 80) (L' := [.retAddr 0, .retAddr 0, .int v2, .retAddr 0, .int v4, .int v5, .ref 65, .ref 61]) (S' := [.int v5, .int v2, .ref 65]) (σ' := (97, I, J, R)) rfl ?_
              refine az_E.call (d := 1) (k' := 60) (vs := [.ref 65, .int v2, .int v5]) (pc' := 83) (S' := []) rfl ?_ (fun _ _ hq => hq)
              show az_E az_F ex 1 60 0 [.ref 65, .int v2, .int v5] [] (97, I, J, R) _
              refine az_E.sn 1 (pc' := 1) (L' := [.ref 65, .int v2, .int v5]) (S' := [.int v2]) (σ' := (97, I, J, R)) rfl ?_
              refine az_E.br (c := v2 < 0) (tt := 30) (ff := 4) (L' := [.ref 65, .int v2, .int v5]) (S' := []) (σ' := (97, I, J, R)) rfl (fun hc_690 => ?_) (fun hc_690 => ?_)
              · rw [if_pos hc_690] at h
                refine az_E.sn 1 (pc' := 31) (L' := [.ref 65, .int v2, .int v5]) (S' := [.int (0 : Int32)]) (σ' := (97, I, J, R)) rfl ?_
                refine az_E.ret (v := some (.int (0 : Int32))) (σ' := (97, I, J, R)) rfl ?_
                show az_E az_F ex 2 128 83 [.retAddr 0, .retAddr 0, .int v2, .retAddr 0, .int v4, .int v5, .ref 65, .ref 61] [.int (0 : Int32)] (97, I, J, R) _
                refine az_E.br (c := (0 : Int32) = 0) (tt := 98) (ff := 86) (L' := [.retAddr 0, .retAddr 0, .int v2, .retAddr 0, .int v4, .int v5, .ref 65, .ref 61]) (S' := []) (σ' := (97, I, J, R)) rfl (fun _ => ?_) (fun hn => absurd (by decide) hn)
                refine az_E.sn 1 (pc' := 100) (L' := [.retAddr 0, .retAddr 0, .int v2, .retAddr 0, .int v4, .int v5, .ref 65, .ref 61]) (S' := [.int (-13 : Int32)]) (σ' := (97, I, J, R)) rfl ?_
                have h := Option.some.inj h
                subst h
                exact az_E.ret (v := some (.int (-13 : Int32))) (σ' := (97, I, J, R)) rfl hQ
              · rw [if_neg hc_690] at h
                refine az_E.sn 1 (pc' := 5) (L' := [.ref 65, .int v2, .int v5]) (S' := [.int v5]) (σ' := (97, I, J, R)) rfl ?_
                refine az_E.br (c := v5 < 0) (tt := 30) (ff := 8) (L' := [.ref 65, .int v2, .int v5]) (S' := []) (σ' := (97, I, J, R)) rfl (fun hc_691 => ?_) (fun hc_691 => ?_)
                · rw [if_pos hc_691] at h
                  refine az_E.sn 1 (pc' := 31) (L' := [.ref 65, .int v2, .int v5]) (S' := [.int (0 : Int32)]) (σ' := (97, I, J, R)) rfl ?_
                  refine az_E.ret (v := some (.int (0 : Int32))) (σ' := (97, I, J, R)) rfl ?_
                  show az_E az_F ex 2 128 83 [.retAddr 0, .retAddr 0, .int v2, .retAddr 0, .int v4, .int v5, .ref 65, .ref 61] [.int (0 : Int32)] (97, I, J, R) _
                  refine az_E.br (c := (0 : Int32) = 0) (tt := 98) (ff := 86) (L' := [.retAddr 0, .retAddr 0, .int v2, .retAddr 0, .int v4, .int v5, .ref 65, .ref 61]) (S' := []) (σ' := (97, I, J, R)) rfl (fun _ => ?_) (fun hn => absurd (by decide) hn)
                  refine az_E.sn 1 (pc' := 100) (L' := [.retAddr 0, .retAddr 0, .int v2, .retAddr 0, .int v4, .int v5, .ref 65, .ref 61]) (S' := [.int (-13 : Int32)]) (σ' := (97, I, J, R)) rfl ?_
                  have h := Option.some.inj h
                  subst h
                  exact az_E.ret (v := some (.int (-13 : Int32))) (σ' := (97, I, J, R)) rfl hQ
                · rw [if_neg hc_691] at h
                  refine az_E.sn 3 (pc' := 13) (L' := [.ref 65, .int v2, .int v5]) (S' := [.int (I 65 2), .int v2]) (σ' := (97, I, J, R)) rfl ?_
                  refine az_E.br (c := (I 65 2) < v2) (tt := 30) (ff := 16) (L' := [.ref 65, .int v2, .int v5]) (S' := []) (σ' := (97, I, J, R)) rfl (fun hc_692 => ?_) (fun hc_692 => ?_)
                  · rw [if_pos hc_692] at h
                    refine az_E.sn 1 (pc' := 31) (L' := [.ref 65, .int v2, .int v5]) (S' := [.int (0 : Int32)]) (σ' := (97, I, J, R)) rfl ?_
                    refine az_E.ret (v := some (.int (0 : Int32))) (σ' := (97, I, J, R)) rfl ?_
                    show az_E az_F ex 2 128 83 [.retAddr 0, .retAddr 0, .int v2, .retAddr 0, .int v4, .int v5, .ref 65, .ref 61] [.int (0 : Int32)] (97, I, J, R) _
                    refine az_E.br (c := (0 : Int32) = 0) (tt := 98) (ff := 86) (L' := [.retAddr 0, .retAddr 0, .int v2, .retAddr 0, .int v4, .int v5, .ref 65, .ref 61]) (S' := []) (σ' := (97, I, J, R)) rfl (fun _ => ?_) (fun hn => absurd (by decide) hn)
                    refine az_E.sn 1 (pc' := 100) (L' := [.retAddr 0, .retAddr 0, .int v2, .retAddr 0, .int v4, .int v5, .ref 65, .ref 61]) (S' := [.int (-13 : Int32)]) (σ' := (97, I, J, R)) rfl ?_
                    have h := Option.some.inj h
                    subst h
                    exact az_E.ret (v := some (.int (-13 : Int32))) (σ' := (97, I, J, R)) rfl hQ
                  · rw [if_neg hc_692] at h
                    refine az_E.sn 5 (pc' := 23) (L' := [.ref 65, .int v2, .int v5]) (S' := [.int ((I 65 2) - v2), .int v5]) (σ' := (97, I, J, R)) rfl ?_
                    refine az_E.br (c := ((I 65 2) - v2) < v5) (tt := 30) (ff := 26) (L' := [.ref 65, .int v2, .int v5]) (S' := []) (σ' := (97, I, J, R)) rfl (fun hc_693 => ?_) (fun hc_693 => ?_)
                    · rw [if_pos hc_693] at h
                      refine az_E.sn 1 (pc' := 31) (L' := [.ref 65, .int v2, .int v5]) (S' := [.int (0 : Int32)]) (σ' := (97, I, J, R)) rfl ?_
                      refine az_E.ret (v := some (.int (0 : Int32))) (σ' := (97, I, J, R)) rfl ?_
                      show az_E az_F ex 2 128 83 [.retAddr 0, .retAddr 0, .int v2, .retAddr 0, .int v4, .int v5, .ref 65, .ref 61] [.int (0 : Int32)] (97, I, J, R) _
                      refine az_E.br (c := (0 : Int32) = 0) (tt := 98) (ff := 86) (L' := [.retAddr 0, .retAddr 0, .int v2, .retAddr 0, .int v4, .int v5, .ref 65, .ref 61]) (S' := []) (σ' := (97, I, J, R)) rfl (fun _ => ?_) (fun hn => absurd (by decide) hn)
                      refine az_E.sn 1 (pc' := 100) (L' := [.retAddr 0, .retAddr 0, .int v2, .retAddr 0, .int v4, .int v5, .ref 65, .ref 61]) (S' := [.int (-13 : Int32)]) (σ' := (97, I, J, R)) rfl ?_
                      have h := Option.some.inj h
                      subst h
                      exact az_E.ret (v := some (.int (-13 : Int32))) (σ' := (97, I, J, R)) rfl hQ
                    · rw [if_neg hc_693] at h
                      refine az_E.sn 2 (pc' := 31) (L' := [.ref 65, .int v2, .int v5]) (S' := [.int (1 : Int32)]) (σ' := (97, I, J, R)) rfl ?_
                      refine az_E.ret (v := some (.int (1 : Int32))) (σ' := (97, I, J, R)) rfl ?_
                      show az_E az_F ex 2 128 83 [.retAddr 0, .retAddr 0, .int v2, .retAddr 0, .int v4, .int v5, .ref 65, .ref 61] [.int (1 : Int32)] (97, I, J, R) _
                      refine az_E.br (c := (1 : Int32) = 0) (tt := 98) (ff := 86) (L' := [.retAddr 0, .retAddr 0, .int v2, .retAddr 0, .int v4, .int v5, .ref 65, .ref 61]) (S' := []) (σ' := (97, I, J, R)) rfl (fun hn => absurd hn (by decide)) (fun _ => ?_)
                      refine az_E.sn 3 (pc' := 92) (L' := [.retAddr 0, .retAddr 0, .int v2, .retAddr 0, .int v4, .int v5, .ref 65, .ref 61]) (S' := [.int v5, .int v4, .ref 61]) (σ' := (97, I, J, R)) rfl ?_
                      refine az_E.call (d := 1) (k' := 60) (vs := [.ref 61, .int v4, .int v5]) (pc' := 95) (S' := []) rfl ?_ (fun _ _ hq => hq)
                      show az_E az_F ex 1 60 0 [.ref 61, .int v4, .int v5] [] (97, I, J, R) _
                      refine az_E.sn 1 (pc' := 1) (L' := [.ref 61, .int v4, .int v5]) (S' := [.int v4]) (σ' := (97, I, J, R)) rfl ?_
                      refine az_E.br (c := v4 < 0) (tt := 30) (ff := 4) (L' := [.ref 61, .int v4, .int v5]) (S' := []) (σ' := (97, I, J, R)) rfl (fun hc_694 => ?_) (fun hc_694 => ?_)
                      · rw [if_pos hc_694] at h
                        refine az_E.sn 1 (pc' := 31) (L' := [.ref 61, .int v4, .int v5]) (S' := [.int (0 : Int32)]) (σ' := (97, I, J, R)) rfl ?_
                        refine az_E.ret (v := some (.int (0 : Int32))) (σ' := (97, I, J, R)) rfl ?_
                        show az_E az_F ex 2 128 95 [.retAddr 0, .retAddr 0, .int v2, .retAddr 0, .int v4, .int v5, .ref 65, .ref 61] [.int (0 : Int32)] (97, I, J, R) _
                        refine az_E.br (c := (0 : Int32) = 0) (tt := 98) (ff := 101) (L' := [.retAddr 0, .retAddr 0, .int v2, .retAddr 0, .int v4, .int v5, .ref 65, .ref 61]) (S' := []) (σ' := (97, I, J, R)) rfl (fun _ => ?_) (fun hn => absurd (by decide) hn)
                        refine az_E.sn 1 (pc' := 100) (L' := [.retAddr 0, .retAddr 0, .int v2, .retAddr 0, .int v4, .int v5, .ref 65, .ref 61]) (S' := [.int (-13 : Int32)]) (σ' := (97, I, J, R)) rfl ?_
                        have h := Option.some.inj h
                        subst h
                        exact az_E.ret (v := some (.int (-13 : Int32))) (σ' := (97, I, J, R)) rfl hQ
                      · rw [if_neg hc_694] at h
                        refine az_E.sn 1 (pc' := 5) (L' := [.ref 61, .int v4, .int v5]) (S' := [.int v5]) (σ' := (97, I, J, R)) rfl ?_
                        refine az_E.br (c := v5 < 0) (tt := 30) (ff := 8) (L' := [.ref 61, .int v4, .int v5]) (S' := []) (σ' := (97, I, J, R)) rfl (fun hc_695 => ?_) (fun hc_695 => ?_)
                        · rw [if_pos hc_695] at h
                          refine az_E.sn 1 (pc' := 31) (L' := [.ref 61, .int v4, .int v5]) (S' := [.int (0 : Int32)]) (σ' := (97, I, J, R)) rfl ?_
                          refine az_E.ret (v := some (.int (0 : Int32))) (σ' := (97, I, J, R)) rfl ?_
                          show az_E az_F ex 2 128 95 [.retAddr 0, .retAddr 0, .int v2, .retAddr 0, .int v4, .int v5, .ref 65, .ref 61] [.int (0 : Int32)] (97, I, J, R) _
                          refine az_E.br (c := (0 : Int32) = 0) (tt := 98) (ff := 101) (L' := [.retAddr 0, .retAddr 0, .int v2, .retAddr 0, .int v4, .int v5, .ref 65, .ref 61]) (S' := []) (σ' := (97, I, J, R)) rfl (fun _ => ?_) (fun hn => absurd (by decide) hn)
                          refine az_E.sn 1 (pc' := 100) (L' := [.retAddr 0, .retAddr 0, .int v2, .retAddr 0, .int v4, .int v5, .ref 65, .ref 61]) (S' := [.int (-13 : Int32)]) (σ' := (97, I, J, R)) rfl ?_
                          have h := Option.some.inj h
                          subst h
                          exact az_E.ret (v := some (.int (-13 : Int32))) (σ' := (97, I, J, R)) rfl hQ
                        · rw [if_neg hc_695] at h
                          refine az_E.sn 3 (pc' := 13) (L' := [.ref 61, .int v4, .int v5]) (S' := [.int (I 61 2), .int v4]) (σ' := (97, I, J, R)) rfl ?_
                          refine az_E.br (c := (I 61 2) < v4) (tt := 30) (ff := 16) (L' := [.ref 61, .int v4, .int v5]) (S' := []) (σ' := (97, I, J, R)) rfl (fun hc_696 => ?_) (fun hc_696 => ?_)
                          · rw [if_pos hc_696] at h
                            refine az_E.sn 1 (pc' := 31) (L' := [.ref 61, .int v4, .int v5]) (S' := [.int (0 : Int32)]) (σ' := (97, I, J, R)) rfl ?_
                            refine az_E.ret (v := some (.int (0 : Int32))) (σ' := (97, I, J, R)) rfl ?_
                            show az_E az_F ex 2 128 95 [.retAddr 0, .retAddr 0, .int v2, .retAddr 0, .int v4, .int v5, .ref 65, .ref 61] [.int (0 : Int32)] (97, I, J, R) _
                            refine az_E.br (c := (0 : Int32) = 0) (tt := 98) (ff := 101) (L' := [.retAddr 0, .retAddr 0, .int v2, .retAddr 0, .int v4, .int v5, .ref 65, .ref 61]) (S' := []) (σ' := (97, I, J, R)) rfl (fun _ => ?_) (fun hn => absurd (by decide) hn)
                            refine az_E.sn 1 (pc' := 100) (L' := [.retAddr 0, .retAddr 0, .int v2, .retAddr 0, .int v4, .int v5, .ref 65, .ref 61]) (S' := [.int (-13 : Int32)]) (σ' := (97, I, J, R)) rfl ?_
                            have h := Option.some.inj h
                            subst h
                            exact az_E.ret (v := some (.int (-13 : Int32))) (σ' := (97, I, J, R)) rfl hQ
                          · rw [if_neg hc_696] at h
                            refine az_E.sn 5 (pc' := 23) (L' := [.ref 61, .int v4, .int v5]) (S' := [.int ((I 61 2) - v4), .int v5]) (σ' := (97, I, J, R)) rfl ?_
                            refine az_E.br (c := ((I 61 2) - v4) < v5) (tt := 30) (ff := 26) (L' := [.ref 61, .int v4, .int v5]) (S' := []) (σ' := (97, I, J, R)) rfl (fun hc_697 => ?_) (fun hc_697 => ?_)
                            · rw [if_pos hc_697] at h
                              refine az_E.sn 1 (pc' := 31) (L' := [.ref 61, .int v4, .int v5]) (S' := [.int (0 : Int32)]) (σ' := (97, I, J, R)) rfl ?_
                              refine az_E.ret (v := some (.int (0 : Int32))) (σ' := (97, I, J, R)) rfl ?_
                              show az_E az_F ex 2 128 95 [.retAddr 0, .retAddr 0, .int v2, .retAddr 0, .int v4, .int v5, .ref 65, .ref 61] [.int (0 : Int32)] (97, I, J, R) _
                              refine az_E.br (c := (0 : Int32) = 0) (tt := 98) (ff := 101) (L' := [.retAddr 0, .retAddr 0, .int v2, .retAddr 0, .int v4, .int v5, .ref 65, .ref 61]) (S' := []) (σ' := (97, I, J, R)) rfl (fun _ => ?_) (fun hn => absurd (by decide) hn)
                              refine az_E.sn 1 (pc' := 100) (L' := [.retAddr 0, .retAddr 0, .int v2, .retAddr 0, .int v4, .int v5, .ref 65, .ref 61]) (S' := [.int (-13 : Int32)]) (σ' := (97, I, J, R)) rfl ?_
                              have h := Option.some.inj h
                              subst h
                              exact az_E.ret (v := some (.int (-13 : Int32))) (σ' := (97, I, J, R)) rfl hQ
                            · rw [if_neg hc_697] at h
                              refine az_E.sn 2 (pc' := 31) (L' := [.ref 61, .int v4, .int v5]) (S' := [.int (1 : Int32)]) (σ' := (97, I, J, R)) rfl ?_
                              refine az_E.ret (v := some (.int (1 : Int32))) (σ' := (97, I, J, R)) rfl ?_
                              show az_E az_F ex 2 128 95 [.retAddr 0, .retAddr 0, .int v2, .retAddr 0, .int v4, .int v5, .ref 65, .ref 61] [.int (1 : Int32)] (97, I, J, R) _
                              refine az_E.br (c := (1 : Int32) = 0) (tt := 98) (ff := 101) (L' := [.retAddr 0, .retAddr 0, .int v2, .retAddr 0, .int v4, .int v5, .ref 65, .ref 61]) (S' := []) (σ' := (97, I, J, R)) rfl (fun hn => absurd hn (by decide)) (fun _ => ?_)
                              refine az_E.sn 7 (pc' := 116) (L' := [.retAddr 0, .retAddr 0, .int v2, .retAddr 0, .int v4, .int v5, .ref 65, .ref 61]) (S' := [.int v5, .int v4, .ref (61 + 1), .int v2, .ref (65 + 1)]) (σ' := (97, I, J, R)) rfl ?_
                              by_cases hc_698 : v2 < 0 ∨ v4 < 0 ∨ v5 < 0 ∨ 60 < v2.toNatClampNeg + v5.toNatClampNeg ∨ 60 < v4.toNatClampNeg + v5.toNatClampNeg
                              · rw [if_pos hc_698] at h; cases h
                              · rw [if_neg hc_698] at h
                                refine az_E.o (o := az_cp az_F (97, I, J, R) (65 + 1) v2 (61 + 1) v4 v5) (pc' := 119) (L' := [.retAddr 0, .retAddr 0, .int v2, .retAddr 0, .int v4, .int v5, .ref 65, .ref 61]) (S' := []) (x := (97, I, (az_ur J (61 + 1) (va_cpy (J (65 + 1)) (J (61 + 1)) v2.toNatClampNeg v4.toNatClampNeg v5.toNatClampNeg)), R)) rfl (if_neg hc_698) ?_
                                refine az_E.sn 1 (pc' := 121) (L' := [.retAddr 0, .retAddr 0, .int v2, .retAddr 0, .int v4, .int v5, .ref 65, .ref 61]) (S' := [.int v5]) (σ' := (97, I, (az_ur J (61 + 1) (va_cpy (J (65 + 1)) (J (61 + 1)) v2.toNatClampNeg v4.toNatClampNeg v5.toNatClampNeg)), R)) rfl ?_
                                have h := Option.some.inj h
                                subst h
                                exact az_E.ret (v := some (.int v5)) (σ' := (97, I, (az_ur J (61 + 1) (va_cpy (J (65 + 1)) (J (61 + 1)) v2.toNatClampNeg v4.toNatClampNeg v5.toNatClampNeg)), R)) rfl hQ
            · rw [if_neg hc_689] at h
              refine az_E.sn 1 (pc' := 20) (L' := [.ref 61, .int (I 65 1)]) (S' := [.int (0 : Int32)]) (σ' := (97, I, J, R)) rfl ?_
              refine az_E.ret (v := some (.int (0 : Int32))) (σ' := (97, I, J, R)) rfl ?_
              show az_E az_F ex 2 128 69 [.retAddr 0, .retAddr 0, .int v2, .retAddr 0, .int v4, .int v5, .ref 65, .ref 61] [.int (0 : Int32)] (97, I, J, R) _
              refine az_E.br (c := (0 : Int32) = 0) (tt := 72) (ff := 75) (L' := [.retAddr 0, .retAddr 0, .int v2, .retAddr 0, .int v4, .int v5, .ref 65, .ref 61]) (S' := []) (σ' := (97, I, J, R)) rfl (fun _ => ?_) (fun hn => absurd (by decide) hn)
              refine az_E.sn 1 (pc' := 74) (L' := [.retAddr 0, .retAddr 0, .int v2, .retAddr 0, .int v4, .int v5, .ref 65, .ref 61]) (S' := [.int (-12 : Int32)]) (σ' := (97, I, J, R)) rfl ?_
              have h := Option.some.inj h
              subst h
              exact az_E.ret (v := some (.int (-12 : Int32))) (σ' := (97, I, J, R)) rfl hQ
    · rw [if_neg hc_685] at h
      refine az_E.sn 1 (pc' := 21) (L' := [.ref 61]) (S' := [.int (0 : Int32)]) (σ' := (97, I, J, R)) rfl ?_
      refine az_E.ret (v := some (.int (0 : Int32))) (σ' := (97, I, J, R)) rfl ?_
      show az_E az_F ex 2 128 45 [.retAddr 0, .retAddr 0, .int v2, .retAddr 0, .int v4, .int v5, .ref 65, .ref 61] [.int (0 : Int32)] (97, I, J, R) _
      refine az_E.br (c := (0 : Int32) = 0) (tt := 51) (ff := 48) (L' := [.retAddr 0, .retAddr 0, .int v2, .retAddr 0, .int v4, .int v5, .ref 65, .ref 61]) (S' := []) (σ' := (97, I, J, R)) rfl (fun _ => ?_) (fun hn => absurd (by decide) hn)
      refine az_E.sn 1 (pc' := 53) (L' := [.retAddr 0, .retAddr 0, .int v2, .retAddr 0, .int v4, .int v5, .ref 65, .ref 61]) (S' := [.ref 65]) (σ' := (97, I, J, R)) rfl ?_
      refine az_E.call (d := 1) (k' := 55) (vs := [.ref 65]) (pc' := 56) (S' := []) rfl ?_ (fun _ _ hq => hq)
      show az_E az_F ex 1 55 0 [.ref 65] [] (97, I, J, R) _
      refine az_E.sn 3 (pc' := 5) (L' := [.ref 65]) (S' := [.int (-1 : Int32), .int (I 65 1)]) (σ' := (97, I, J, R)) rfl ?_
      refine az_E.br (c := (I 65 1) = (-1 : Int32)) (tt := 12) (ff := 8) (L' := [.ref 65]) (S' := []) (σ' := (97, I, J, R)) rfl (fun hc_699 => ?_) (fun hc_699 => ?_)
      · rw [if_pos hc_699] at h
        refine az_E.sn 1 (pc' := 13) (L' := [.ref 65]) (S' := [.int (0 : Int32)]) (σ' := (97, I, J, R)) rfl ?_
        refine az_E.ret (v := some (.int (0 : Int32))) (σ' := (97, I, J, R)) rfl ?_
        show az_E az_F ex 2 128 56 [.retAddr 0, .retAddr 0, .int v2, .retAddr 0, .int v4, .int v5, .ref 65, .ref 61] [.int (0 : Int32)] (97, I, J, R) _
        refine az_E.br (c := (0 : Int32) = 0) (tt := 72) (ff := 59) (L' := [.retAddr 0, .retAddr 0, .int v2, .retAddr 0, .int v4, .int v5, .ref 65, .ref 61]) (S' := []) (σ' := (97, I, J, R)) rfl (fun _ => ?_) (fun hn => absurd (by decide) hn)
        refine az_E.sn 1 (pc' := 74) (L' := [.retAddr 0, .retAddr 0, .int v2, .retAddr 0, .int v4, .int v5, .ref 65, .ref 61]) (S' := [.int (-12 : Int32)]) (σ' := (97, I, J, R)) rfl ?_
        have h := Option.some.inj h
        subst h
        exact az_E.ret (v := some (.int (-12 : Int32))) (σ' := (97, I, J, R)) rfl hQ
      · rw [if_neg hc_699] at h
        refine az_E.sn 2 (pc' := 13) (L' := [.ref 65]) (S' := [.int (1 : Int32)]) (σ' := (97, I, J, R)) rfl ?_
        refine az_E.ret (v := some (.int (1 : Int32))) (σ' := (97, I, J, R)) rfl ?_
        show az_E az_F ex 2 128 56 [.retAddr 0, .retAddr 0, .int v2, .retAddr 0, .int v4, .int v5, .ref 65, .ref 61] [.int (1 : Int32)] (97, I, J, R) _
        refine az_E.br (c := (1 : Int32) = 0) (tt := 72) (ff := 59) (L' := [.retAddr 0, .retAddr 0, .int v2, .retAddr 0, .int v4, .int v5, .ref 65, .ref 61]) (S' := []) (σ' := (97, I, J, R)) rfl (fun hn => absurd hn (by decide)) (fun _ => ?_)
        refine az_E.sn 3 (pc' := 66) (L' := [.retAddr 0, .retAddr 0, .int v2, .retAddr 0, .int v4, .int v5, .ref 65, .ref 61]) (S' := [.int (I 65 1), .ref 61]) (σ' := (97, I, J, R)) rfl ?_
        refine az_E.call (d := 1) (k' := 56) (vs := [.ref 61, .int (I 65 1)]) (pc' := 69) (S' := []) rfl ?_ (fun _ _ hq => hq)
        show az_E az_F ex 1 56 0 [.ref 61, .int (I 65 1)] [] (97, I, J, R) _
        refine az_E.sn 1 (pc' := 1) (L' := [.ref 61, .int (I 65 1)]) (S' := [.ref 61]) (σ' := (97, I, J, R)) rfl ?_
        refine az_E.call (d := 0) (k' := 55) (vs := [.ref 61]) (pc' := 4) (S' := []) rfl ?_ (fun _ _ hq => hq)
        show az_E az_F ex 0 55 0 [.ref 61] [] (97, I, J, R) _
        refine az_E.sn 3 (pc' := 5) (L' := [.ref 61]) (S' := [.int (-1 : Int32), .int (I 61 1)]) (σ' := (97, I, J, R)) rfl ?_
        refine az_E.br (c := (I 61 1) = (-1 : Int32)) (tt := 12) (ff := 8) (L' := [.ref 61]) (S' := []) (σ' := (97, I, J, R)) rfl (fun hc_700 => ?_) (fun hc_700 => ?_)
        · rw [if_pos hc_700] at h
          refine az_E.sn 1 (pc' := 13) (L' := [.ref 61]) (S' := [.int (0 : Int32)]) (σ' := (97, I, J, R)) rfl ?_
          refine az_E.ret (v := some (.int (0 : Int32))) (σ' := (97, I, J, R)) rfl ?_
          show az_E az_F ex 1 56 4 [.ref 61, .int (I 65 1)] [.int (0 : Int32)] (97, I, J, R) _
          refine az_E.br (c := (0 : Int32) = 0) (tt := 19) (ff := 7) (L' := [.ref 61, .int (I 65 1)]) (S' := []) (σ' := (97, I, J, R)) rfl (fun _ => ?_) (fun hn => absurd (by decide) hn)
          refine az_E.sn 1 (pc' := 20) (L' := [.ref 61, .int (I 65 1)]) (S' := [.int (0 : Int32)]) (σ' := (97, I, J, R)) rfl ?_
          refine az_E.ret (v := some (.int (0 : Int32))) (σ' := (97, I, J, R)) rfl ?_
          show az_E az_F ex 2 128 69 [.retAddr 0, .retAddr 0, .int v2, .retAddr 0, .int v4, .int v5, .ref 65, .ref 61] [.int (0 : Int32)] (97, I, J, R) _
          refine az_E.br (c := (0 : Int32) = 0) (tt := 72) (ff := 75) (L' := [.retAddr 0, .retAddr 0, .int v2, .retAddr 0, .int v4, .int v5, .ref 65, .ref 61]) (S' := []) (σ' := (97, I, J, R)) rfl (fun _ => ?_) (fun hn => absurd (by decide) hn)
          refine az_E.sn 1 (pc' := 74) (L' := [.retAddr 0, .retAddr 0, .int v2, .retAddr 0, .int v4, .int v5, .ref 65, .ref 61]) (S' := [.int (-12 : Int32)]) (σ' := (97, I, J, R)) rfl ?_
          have h := Option.some.inj h
          subst h
          exact az_E.ret (v := some (.int (-12 : Int32))) (σ' := (97, I, J, R)) rfl hQ
        · rw [if_neg hc_700] at h
          refine az_E.sn 2 (pc' := 13) (L' := [.ref 61]) (S' := [.int (1 : Int32)]) (σ' := (97, I, J, R)) rfl ?_
          refine az_E.ret (v := some (.int (1 : Int32))) (σ' := (97, I, J, R)) rfl ?_
          show az_E az_F ex 1 56 4 [.ref 61, .int (I 65 1)] [.int (1 : Int32)] (97, I, J, R) _
          refine az_E.br (c := (1 : Int32) = 0) (tt := 19) (ff := 7) (L' := [.ref 61, .int (I 65 1)]) (S' := []) (σ' := (97, I, J, R)) rfl (fun hn => absurd hn (by decide)) (fun _ => ?_)
          refine az_E.sn 3 (pc' := 12) (L' := [.ref 61, .int (I 65 1)]) (S' := [.int (I 65 1), .int (I 61 1)]) (σ' := (97, I, J, R)) rfl ?_
          refine az_E.br (c := (I 61 1) = (I 65 1)) (tt := 15) (ff := 19) (L' := [.ref 61, .int (I 65 1)]) (S' := []) (σ' := (97, I, J, R)) rfl (fun hc_701 => ?_) (fun hc_701 => ?_)
          · rw [if_pos hc_701] at h
            refine az_E.sn 2 (pc' := 20) (L' := [.ref 61, .int (I 65 1)]) (S' := [.int (1 : Int32)]) (σ' := (97, I, J, R)) rfl ?_
            refine az_E.ret (v := some (.int (1 : Int32))) (σ' := (97, I, J, R)) rfl ?_
            show az_E az_F ex 2 128 69 [.retAddr 0, .retAddr 0, .int v2, .retAddr 0, .int v4, .int v5, .ref 65, .ref 61] [.int (1 : Int32)] (97, I, J, R) _
            refine az_E.br (c := (1 : Int32) = 0) (tt := 72) (ff := 75) (L' := [.retAddr 0, .retAddr 0, .int v2, .retAddr 0, .int v4, .int v5, .ref 65, .ref 61]) (S' := []) (σ' := (97, I, J, R)) rfl (fun hn => absurd hn (by decide)) (fun _ => ?_)
            refine az_E.sn 3 (pc' := 80) (L' := [.retAddr 0, .retAddr 0, .int v2, .retAddr 0, .int v4, .int v5, .ref 65, .ref 61]) (S' := [.int v5, .int v2, .ref 65]) (σ' := (97, I, J, R)) rfl ?_
            refine az_E.call (d := 1) (k' := 60) (vs := [.ref 65, .int v2, .int v5]) (pc' := 83) (S' := []) rfl ?_ (fun _ _ hq => hq)
            show az_E az_F ex 1 60 0 [.ref 65, .int v2, .int v5] [] (97, I, J, R) _
            refine az_E.sn 1 (pc' := 1) (L' := [.ref 65, .int v2, .int v5]) (S' := [.int v2]) (σ' := (97, I, J, R)) rfl ?_
            refine az_E.br (c := v2 < 0) (tt := 30) (ff := 4) (L' := [.ref 65, .int v2, .int v5]) (S' := []) (σ' := (97, I, J, R)) rfl (fun hc_702 => ?_) (fun hc_702 => ?_)
            · rw [if_pos hc_702] at h
              refine az_E.sn 1 (pc' := 31) (L' := [.ref 65, .int v2, .int v5]) (S' := [.int (0 : Int32)]) (σ' := (97, I, J, R)) rfl ?_
              refine az_E.ret (v := some (.int (0 : Int32))) (σ' := (97, I, J, R)) rfl ?_
              show az_E az_F ex 2 128 83 [.retAddr 0, .retAddr 0, .int v2, .retAddr 0, .int v4, .int v5, .ref 65, .ref 61] [.int (0 : Int32)] (97, I, J, R) _
              refine az_E.br (c := (0 : Int32) = 0) (tt := 98) (ff := 86) (L' := [.retAddr 0, .retAddr 0, .int v2, .retAddr 0, .int v4, .int v5, .ref 65, .ref 61]) (S' := []) (σ' := (97, I, J, R)) rfl (fun _ => ?_) (fun hn => absurd (by decide) hn)
              refine az_E.sn 1 (pc' := 100) (L' := [.retAddr 0, .retAddr 0, .int v2, .retAddr 0, .int v4, .int v5, .ref 65, .ref 61]) (S' := [.int (-13 : Int32)]) (σ' := (97, I, J, R)) rfl ?_
              have h := Option.some.inj h
              subst h
              exact az_E.ret (v := some (.int (-13 : Int32))) (σ' := (97, I, J, R)) rfl hQ
            · rw [if_neg hc_702] at h
              refine az_E.sn 1 (pc' := 5) (L' := [.ref 65, .int v2, .int v5]) (S' := [.int v5]) (σ' := (97, I, J, R)) rfl ?_
              refine az_E.br (c := v5 < 0) (tt := 30) (ff := 8) (L' := [.ref 65, .int v2, .int v5]) (S' := []) (σ' := (97, I, J, R)) rfl (fun hc_703 => ?_) (fun hc_703 => ?_)
              · rw [if_pos hc_703] at h
                refine az_E.sn 1 (pc' := 31) (L' := [.ref 65, .int v2, .int v5]) (S' := [.int (0 : Int32)]) (σ' := (97, I, J, R)) rfl ?_
                refine az_E.ret (v := some (.int (0 : Int32))) (σ' := (97, I, J, R)) rfl ?_
                show az_E az_F ex 2 128 83 [.retAddr 0, .retAddr 0, .int v2, .retAddr 0, .int v4, .int v5, .ref 65, .ref 61] [.int (0 : Int32)] (97, I, J, R) _
                refine az_E.br (c := (0 : Int32) = 0) (tt := 98) (ff := 86) (L' := [.retAddr 0, .retAddr 0, .int v2, .retAddr 0, .int v4, .int v5, .ref 65, .ref 61]) (S' := []) (σ' := (97, I, J, R)) rfl (fun _ => ?_) (fun hn => absurd (by decide) hn)
                refine az_E.sn 1 (pc' := 100) (L' := [.retAddr 0, .retAddr 0, .int v2, .retAddr 0, .int v4, .int v5, .ref 65, .ref 61]) (S' := [.int (-13 : Int32)]) (σ' := (97, I, J, R)) rfl ?_
                have h := Option.some.inj h
                subst h
                exact az_E.ret (v := some (.int (-13 : Int32))) (σ' := (97, I, J, R)) rfl hQ
              · rw [if_neg hc_703] at h
                refine az_E.sn 3 (pc' := 13) (L' := [.ref 65, .int v2, .int v5]) (S' := [.int (I 65 2), .int v2]) (σ' := (97, I, J, R)) rfl ?_
                refine az_E.br (c := (I 65 2) < v2) (tt := 30) (ff := 16) (L' := [.ref 65, .int v2, .int v5]) (S' := []) (σ' := (97, I, J, R)) rfl (fun hc_704 => ?_) (fun hc_704 => ?_)
                · rw [if_pos hc_704] at h
                  refine az_E.sn 1 (pc' := 31) (L' := [.ref 65, .int v2, .int v5]) (S' := [.int (0 : Int32)]) (σ' := (97, I, J, R)) rfl ?_
                  refine az_E.ret (v := some (.int (0 : Int32))) (σ' := (97, I, J, R)) rfl ?_
                  show az_E az_F ex 2 128 83 [.retAddr 0, .retAddr 0, .int v2, .retAddr 0, .int v4, .int v5, .ref 65, .ref 61] [.int (0 : Int32)] (97, I, J, R) _
                  refine az_E.br (c := (0 : Int32) = 0) (tt := 98) (ff := 86) (L' := [.retAddr 0, .retAddr 0, .int v2, .retAddr 0, .int v4, .int v5, .ref 65, .ref 61]) (S' := []) (σ' := (97, I, J, R)) rfl (fun _ => ?_) (fun hn => absurd (by decide) hn)
                  refine az_E.sn 1 (pc' := 100) (L' := [.retAddr 0, .retAddr 0, .int v2, .retAddr 0, .int v4, .int v5, .ref 65, .ref 61]) (S' := [.int (-13 : Int32)]) (σ' := (97, I, J, R)) rfl ?_
                  have h := Option.some.inj h
                  subst h
                  exact az_E.ret (v := some (.int (-13 : Int32))) (σ' := (97, I, J, R)) rfl hQ
                · rw [if_neg hc_704] at h
                  refine az_E.sn 5 (pc' := 23) (L' := [.ref 65, .int v2, .int v5]) (S' := [.int ((I 65 2) - v2), .int v5]) (σ' := (97, I, J, R)) rfl ?_
                  refine az_E.br (c := ((I 65 2) - v2) < v5) (tt := 30) (ff := 26) (L' := [.ref 65, .int v2, .int v5]) (S' := []) (σ' := (97, I, J, R)) rfl (fun hc_705 => ?_) (fun hc_705 => ?_)
                  · rw [if_pos hc_705] at h
                    refine az_E.sn 1 (pc' := 31) (L' := [.ref 65, .int v2, .int v5]) (S' := [.int (0 : Int32)]) (σ' := (97, I, J, R)) rfl ?_
                    refine az_E.ret (v := some (.int (0 : Int32))) (σ' := (97, I, J, R)) rfl ?_
                    show az_E az_F ex 2 128 83 [.retAddr 0, .retAddr 0, .int v2, .retAddr 0, .int v4, .int v5, .ref 65, .ref 61] [.int (0 : Int32)] (97, I, J, R) _
                    refine az_E.br (c := (0 : Int32) = 0) (tt := 98) (ff := 86) (L' := [.retAddr 0, .retAddr 0, .int v2, .retAddr 0, .int v4, .int v5, .ref 65, .ref 61]) (S' := []) (σ' := (97, I, J, R)) rfl (fun _ => ?_) (fun hn => absurd (by decide) hn)
                    refine az_E.sn 1 (pc' := 100) (L' := [.retAddr 0, .retAddr 0, .int v2, .retAddr 0, .int v4, .int v5, .ref 65, .ref 61]) (S' := [.int (-13 : Int32)]) (σ' := (97, I, J, R)) rfl ?_
                    have h := Option.some.inj h
                    subst h
                    exact az_E.ret (v := some (.int (-13 : Int32))) (σ' := (97, I, J, R)) rfl hQ
                  · rw [if_neg hc_705] at h
                    refine az_E.sn 2 (pc' := 31) (L' := [.ref 65, .int v2, .int v5]) (S' := [.int (1 : Int32)]) (σ' := (97, I, J, R)) rfl ?_
                    refine az_E.ret (v := some (.int (1 : Int32))) (σ' := (97, I, J, R)) rfl ?_
                    show az_E az_F ex 2 128 83 [.retAddr 0, .retAddr 0, .int v2, .retAddr 0, .int v4, .int v5, .ref 65, .ref 61] [.int (1 : Int32)] (97, I, J, R) _
                    refine az_E.br (c := (1 : Int32) = 0) (tt := 98) (ff := 86) (L' := [.retAddr 0, .retAddr 0, .int v2, .retAddr 0, .int v4, .int v5, .ref 65, .ref 61]) (S' := []) (σ' := (97, I, J, R)) rfl (fun hn => absurd hn (by decide)) (fun _ => ?_)
                    refine az_E.sn 3 (pc' := 92) (L' := [.retAddr 0, .retAddr 0, .int v2, .retAddr 0, .int v4, .int v5, .ref 65, .ref 61]) (S' := [.int v5, .int v4, .ref 61]) (σ' := (97, I, J, R)) rfl ?_
                    refine az_E.call (d := 1) (k' := 60) (vs := [.ref 61, .int v4, .int v5]) (pc' := 95) (S' := []) rfl ?_ (fun _ _ hq => hq)
                    show az_E az_F ex 1 60 0 [.ref 61, .int v4, .int v5] [] (97, I, J, R) _
                    refine az_E.sn 1 (pc' := 1) (L' := [.ref 61, .int v4, .int v5]) (S' := [.int v4]) (σ' := (97, I, J, R)) rfl ?_
                    refine az_E.br (c := v4 < 0) (tt := 30) (ff := 4) (L' := [.ref 61, .int v4, .int v5]) (S' := []) (σ' := (97, I, J, R)) rfl (fun hc_706 => ?_) (fun hc_706 => ?_)
                    · rw [if_pos hc_706] at h
                      refine az_E.sn 1 (pc' := 31) (L' := [.ref 61, .int v4, .int v5]) (S' := [.int (0 : Int32)]) (σ' := (97, I, J, R)) rfl ?_
                      refine az_E.ret (v := some (.int (0 : Int32))) (σ' := (97, I, J, R)) rfl ?_
                      show az_E az_F ex 2 128 95 [.retAddr 0, .retAddr 0, .int v2, .retAddr 0, .int v4, .int v5, .ref 65, .ref 61] [.int (0 : Int32)] (97, I, J, R) _
                      refine az_E.br (c := (0 : Int32) = 0) (tt := 98) (ff := 101) (L' := [.retAddr 0, .retAddr 0, .int v2, .retAddr 0, .int v4, .int v5, .ref 65, .ref 61]) (S' := []) (σ' := (97, I, J, R)) rfl (fun _ => ?_) (fun hn => absurd (by decide) hn)
                      refine az_E.sn 1 (pc' := 100) (L' := [.retAddr 0, .retAddr 0, .int v2, .retAddr 0, .int v4, .int v5, .ref 65, .ref 61]) (S' := [.int (-13 : Int32)]) (σ' := (97, I, J, R)) rfl ?_
                      have h := Option.some.inj h
                      subst h
                      exact az_E.ret (v := some (.int (-13 : Int32))) (σ' := (97, I, J, R)) rfl hQ
                    · rw [if_neg hc_706] at h
                      refine az_E.sn 1 (pc' := 5) (L' := [.ref 61, .int v4, .int v5]) (S' := [.int v5]) (σ' := (97, I, J, R)) rfl ?_
                      refine az_E.br (c := v5 < 0) (tt := 30) (ff := 8) (L' := [.ref 61, .int v4, .int v5]) (S' := []) (σ' := (97, I, J, R)) rfl (fun hc_707 => ?_) (fun hc_707 => ?_)
                      · rw [if_pos hc_707] at h
                        refine az_E.sn 1 (pc' := 31) (L' := [.ref 61, .int v4, .int v5]) (S' := [.int (0 : Int32)]) (σ' := (97, I, J, R)) rfl ?_
                        refine az_E.ret (v := some (.int (0 : Int32))) (σ' := (97, I, J, R)) rfl ?_
                        show az_E az_F ex 2 128 95 [.retAddr 0, .retAddr 0, .int v2, .retAddr 0, .int v4, .int v5, .ref 65, .ref 61] [.int (0 : Int32)] (97, I, J, R) _
                        refine az_E.br (c := (0 : Int32) = 0) (tt := 98) (ff := 101) (L' := [.retAddr 0, .retAddr 0, .int v2, .retAddr 0, .int v4, .int v5, .ref 65, .ref 61]) (S' := []) (σ' := (97, I, J, R)) rfl (fun _ => ?_) (fun hn => absurd (by decide) hn)
                        refine az_E.sn 1 (pc' := 100) (L' := [.retAddr 0, .retAddr 0, .int v2, .retAddr 0, .int v4, .int v5, .ref 65, .ref 61]) (S' := [.int (-13 : Int32)]) (σ' := (97, I, J, R)) rfl ?_
                        have h := Option.some.inj h
                        subst h
                        exact az_E.ret (v := some (.int (-13 : Int32))) (σ' := (97, I, J, R)) rfl hQ
                      · rw [if_neg hc_707] at h
                        refine az_E.sn 3 (pc' := 13) (L' := [.ref 61, .int v4, .int v5]) (S' := [.int (I 61 2), .int v4]) (σ' := (97, I, J, R)) rfl ?_
                        refine az_E.br (c := (I 61 2) < v4) (tt := 30) (ff := 16) (L' := [.ref 61, .int v4, .int v5]) (S' := []) (σ' := (97, I, J, R)) rfl (fun hc_708 => ?_) (fun hc_708 => ?_)
                        · rw [if_pos hc_708] at h
                          refine az_E.sn 1 (pc' := 31) (L' := [.ref 61, .int v4, .int v5]) (S' := [.int (0 : Int32)]) (σ' := (97, I, J, R)) rfl ?_
                          refine az_E.ret (v := some (.int (0 : Int32))) (σ' := (97, I, J, R)) rfl ?_
                          show az_E az_F ex 2 128 95 [.retAddr 0, .retAddr 0, .int v2, .retAddr 0, .int v4, .int v5, .ref 65, .ref 61] [.int (0 : Int32)] (97, I, J, R) _
                          refine az_E.br (c := (0 : Int32) = 0) (tt := 98) (ff := 101) (L' := [.retAddr 0, .retAddr 0, .int v2, .retAddr 0, .int v4, .int v5, .ref 65, .ref 61]) (S' := []) (σ' := (97, I, J, R)) rfl (fun _ => ?_) (fun hn => absurd (by decide) hn)
                          refine az_E.sn 1 (pc' := 100) (L' := [.retAddr 0, .retAddr 0, .int v2, .retAddr 0, .int v4, .int v5, .ref 65, .ref 61]) (S' := [.int (-13 : Int32)]) (σ' := (97, I, J, R)) rfl ?_
                          have h := Option.some.inj h
                          subst h
                          exact az_E.ret (v := some (.int (-13 : Int32))) (σ' := (97, I, J, R)) rfl hQ
                        · rw [if_neg hc_708] at h
                          refine az_E.sn 5 (pc' := 23) (L' := [.ref 61, .int v4, .int v5]) (S' := [.int ((I 61 2) - v4), .int v5]) (σ' := (97, I, J, R)) rfl ?_
                          refine az_E.br (c := ((I 61 2) - v4) < v5) (tt := 30) (ff := 26) (L' := [.ref 61, .int v4, .int v5]) (S' := []) (σ' := (97, I, J, R)) rfl (fun hc_709 => ?_) (fun hc_709 => ?_)
                          · rw [if_pos hc_709] at h
                            refine az_E.sn 1 (pc' := 31) (L' := [.ref 61, .int v4, .int v5]) (S' := [.int (0 : Int32)]) (σ' := (97, I, J, R)) rfl ?_
                            refine az_E.ret (v := some (.int (0 : Int32))) (σ' := (97, I, J, R)) rfl ?_
                            show az_E az_F ex 2 128 95 [.retAddr 0, .retAddr 0, .int v2, .retAddr 0, .int v4, .int v5, .ref 65, .ref 61] [.int (0 : Int32)] (97, I, J, R) _
                            refine az_E.br (c := (0 : Int32) = 0) (tt := 98) (ff := 101) (L' := [.retAddr 0, .retAddr 0, .int v2, .retAddr 0, .int v4, .int v5, .ref 65, .ref 61]) (S' := []) (σ' := (97, I, J, R)) rfl (fun _ => ?_) (fun hn => absurd (by decide) hn)
                            refine az_E.sn 1 (pc' := 100) (L' := [.retAddr 0, .retAddr 0, .int v2, .retAddr 0, .int v4, .int v5, .ref 65, .ref 61]) (S' := [.int (-13 : Int32)]) (σ' := (97, I, J, R)) rfl ?_
                            have h := Option.some.inj h
                            subst h
                            exact az_E.ret (v := some (.int (-13 : Int32))) (σ' := (97, I, J, R)) rfl hQ
                          · rw [if_neg hc_709] at h
                            refine az_E.sn 2 (pc' := 31) (L' := [.ref 61, .int v4, .int v5]) (S' := [.int (1 : Int32)]) (σ' := (97, I, J, R)) rfl ?_
                            refine az_E.ret (v := some (.int (1 : Int32))) (σ' := (97, I, J, R)) rfl ?_
                            show az_E az_F ex 2 128 95 [.retAddr 0, .retAddr 0, .int v2, .retAddr 0, .int v4, .int v5, .ref 65, .ref 61] [.int (1 : Int32)] (97, I, J, R) _
                            refine az_E.br (c := (1 : Int32) = 0) (tt := 98) (ff := 101) (L' := [.retAddr 0, .retAddr 0, .int v2, .retAddr 0, .int v4, .int v5, .ref 65, .ref 61]) (S' := []) (σ' := (97, I, J, R)) rfl (fun hn => absurd hn (by decide)) (fun _ => ?_)
                            refine az_E.sn 7 (pc' := 116) (L' := [.retAddr 0, .retAddr 0, .int v2, .retAddr 0, .int v4, .int v5, .ref 65, .ref 61]) (S' := [.int v5, .int v4, .ref (61 + 1), .int v2, .ref (65 + 1)]) (σ' := (97, I, J, R)) rfl ?_
                            by_cases hc_710 : v2 < 0 ∨ v4 < 0 ∨ v5 < 0 ∨ 60 < v2.toNatClampNeg + v5.toNatClampNeg ∨ 60 < v4.toNatClampNeg + v5.toNatClampNeg
                            · rw [if_pos hc_710] at h; cases h
                            · rw [if_neg hc_710] at h
                              refine az_E.o (o := az_cp az_F (97, I, J, R) (65 + 1) v2 (61 + 1) v4 v5) (pc' := 119) (L' := [.retAddr 0, .retAddr 0, .int v2, .retAddr 0, .int v4, .int v5, .ref 65, .ref 61]) (S' := []) (x := (97, I, (az_ur J (61 + 1) (va_cpy (J (65 + 1)) (J (61 + 1)) v2.toNatClampNeg v4.toNatClampNeg v5.toNatClampNeg)), R)) rfl (if_neg hc_710) ?_
                              refine az_E.sn 1 (pc' := 121) (L' := [.retAddr 0, .retAddr 0, .int v2, .retAddr 0, .int v4, .int v5, .ref 65, .ref 61]) (S' := [.int v5]) (σ' := (97, I, (az_ur J (61 + 1) (va_cpy (J (65 + 1)) (J (61 + 1)) v2.toNatClampNeg v4.toNatClampNeg v5.toNatClampNeg)), R)) rfl ?_
                              have h := Option.some.inj h
                              subst h
                              exact az_E.ret (v := some (.int v5)) (σ' := (97, I, (az_ur J (61 + 1) (va_cpy (J (65 + 1)) (J (61 + 1)) v2.toNatClampNeg v4.toNatClampNeg v5.toNatClampNeg)), R)) rfl hQ
          · rw [if_neg hc_701] at h
            refine az_E.sn 1 (pc' := 20) (L' := [.ref 61, .int (I 65 1)]) (S' := [.int (0 : Int32)]) (σ' := (97, I, J, R)) rfl ?_
            refine az_E.ret (v := some (.int (0 : Int32))) (σ' := (97, I, J, R)) rfl ?_
            show az_E az_F ex 2 128 69 [.retAddr 0, .retAddr 0, .int v2, .retAddr 0, .int v4, .int v5, .ref 65, .ref 61] [.int (0 : Int32)] (97, I, J, R) _
            refine az_E.br (c := (0 : Int32) = 0) (tt := 72) (ff := 75) (L' := [.retAddr 0, .retAddr 0, .int v2, .retAddr 0, .int v4, .int v5, .ref 65, .ref 61]) (S' := []) (σ' := (97, I, J, R)) rfl (fun _ => ?_) (fun hn => absurd (by decide) hn)
            refine az_E.sn 1 (pc' := 74) (L' := [.retAddr 0, .retAddr 0, .int v2, .retAddr 0, .int v4, .int v5, .ref 65, .ref 61]) (S' := [.int (-12 : Int32)]) (σ' := (97, I, J, R)) rfl ?_
            have h := Option.some.inj h
            subst h
            exact az_E.ret (v := some (.int (-12 : Int32))) (σ' := (97, I, J, R)) rfl hQ
set_option maxRecDepth 100000 in
set_option maxHeartbeats 4000000 in
theorem re_X_shift_30_65_63 {ex : az_X} {I : Nat → Nat → Int32} {J : Nat → Nat → Int64} {R : Nat → Nat → Option Nat} {v2 : Int32} {v4 : Int32} {v5 : Int32} {x : Int32 × (Nat → Nat → Int64)} (h : rs_X_shift_30 65 63 I J v2 v4 v5 = some x) {Q : Option Value → az_S → Prop} (hQ : Q (some (.int x.1)) (97, I, x.2, R)) : az_E az_F ex 2 128 30 [.retAddr 0, .retAddr 0, .int v2, .retAddr 0, .int v4, .int v5, .ref 65, .retAddr 0] [.ref 63] (97, I, J, R) Q := by
  unfold rs_X_shift_30 at h
  refine az_E.sn 2 (pc' := 34) (L' := [.retAddr 0, .retAddr 0, .int v2, .retAddr 0, .int v4, .int v5, .ref 65, .ref 63]) (S' := [.ref 65]) (σ' := (97, I, J, R)) rfl ?_
  refine az_E.call (d := 1) (k' := 54) (vs := [.ref 65]) (pc' := 37) (S' := []) rfl ?_ (fun _ _ hq => hq)
  show az_E az_F ex 1 54 0 [.ref 65] [] (97, I, J, R) _
  refine az_E.sn 3 (pc' := 5) (L' := [.ref 65]) (S' := [.int (-1 : Int32), .int (I 65 0)]) (σ' := (97, I, J, R)) rfl ?_
  refine az_E.br (c := (I 65 0) = (-1 : Int32)) (tt := 8) (ff := 20) (L' := [.ref 65]) (S' := []) (σ' := (97, I, J, R)) rfl (fun hc_711 => ?_) (fun hc_711 => ?_)
  · rw [if_pos hc_711] at h
    refine az_E.sn 3 (pc' := 13) (L' := [.ref 65]) (S' := [.int (-1 : Int32), .int (I 65 1)]) (σ' := (97, I, J, R)) rfl ?_
    refine az_E.br (c := (I 65 1) = (-1 : Int32)) (tt := 16) (ff := 20) (L' := [.ref 65]) (S' := []) (σ' := (97, I, J, R)) rfl (fun hc_712 => ?_) (fun hc_712 => ?_)
    · rw [if_pos hc_712] at h
      refine az_E.sn 2 (pc' := 21) (L' := [.ref 65]) (S' := [.int (1 : Int32)]) (σ' := (97, I, J, R)) rfl ?_
      refine az_E.ret (v := some (.int (1 : Int32))) (σ' := (97, I, J, R)) rfl ?_
      show az_E az_F ex 2 128 37 [.retAddr 0, .retAddr 0, .int v2, .retAddr 0, .int v4, .int v5, .ref 65, .ref 63] [.int (1 : Int32)] (97, I, J, R) _
      refine az_E.br (c := (1 : Int32) = 0) (tt := 40) (ff := 48) (L' := [.retAddr 0, .retAddr 0, .int v2, .retAddr 0, .int v4, .int v5, .ref 65, .ref 63]) (S' := []) (σ' := (97, I, J, R)) rfl (fun hn => absurd hn (by decide)) (fun _ => ?_)
      refine az_E.sn 1 (pc' := 50) (L' := [.retAddr 0, .retAddr 0, .int v2, .retAddr 0, .int v4, .int v5, .ref 65, .ref 63]) (S' := [.int (-11 : Int32)]) (σ' := (97, I, J, R)) rfl ?_
      have h := Option.some.inj h
      subst h
      exact az_E.ret (v := some (.int (-11 : Int32))) (σ' := (97, I, J, R)) rfl hQ
    · rw [if_neg hc_712] at h
      refine az_E.sn 1 (pc' := 21) (L' := [.ref 65]) (S' := [.int (0 : Int32)]) (σ' := (97, I, J, R)) rfl ?_
      refine az_E.ret (v := some (.int (0 : Int32))) (σ' := (97, I, J, R)) rfl ?_
      show az_E az_F ex 2 128 37 [.retAddr 0, .retAddr 0, .int v2, .retAddr 0, .int v4, .int v5, .ref 65, .ref 63] [.int (0 : Int32)] (97, I, J, R) _
      refine az_E.br (c := (0 : Int32) = 0) (tt := 40) (ff := 48) (L' := [.retAddr 0, .retAddr 0, .int v2, .retAddr 0, .int v4, .int v5, .ref 65, .ref 63]) (S' := []) (σ' := (97, I, J, R)) rfl (fun _ => ?_) (fun hn => absurd (by decide) hn)
      refine az_E.sn 1 (pc' := 42) (L' := [.retAddr 0, .retAddr 0, .int v2, .retAddr 0, .int v4, .int v5, .ref 65, .ref 63]) (S' := [.ref 63]) (σ' := (97, I, J, R)) rfl ?_
      refine az_E.call (d := 1) (k' := 54) (vs := [.ref 63]) (pc' := 45) (S' := []) rfl ?_ (fun _ _ hq => hq)
      show az_E az_F ex 1 54 0 [.ref 63] [] (97, I, J, R) _
      refine az_E.sn 3 (pc' := 5) (L' := [.ref 63]) (S' := [.int (-1 : Int32), .int (I 63 0)]) (σ' := (97, I, J, R)) rfl ?_
      refine az_E.br (c := (I 63 0) = (-1 : Int32)) (tt := 8) (ff := 20) (L' := [.ref 63]) (S' := []) (σ' := (97, I, J, R)) rfl (fun hc_713 => ?_) (fun hc_713 => ?_)
      · rw [if_pos hc_713] at h
        refine az_E.sn 3 (pc' := 13) (L' := [.ref 63]) (S' := [.int (-1 : Int32), .int (I 63 1)]) (σ' := (97, I, J, R)) rfl ?_
        refine az_E.br (c := (I 63 1) = (-1 : Int32)) (tt := 16) (ff := 20) (L' := [.ref 63]) (S' := []) (σ' := (97, I, J, R)) rfl (fun hc_714 => ?_) (fun hc_714 => ?_)
        · rw [if_pos hc_714] at h
          refine az_E.sn 2 (pc' := 21) (L' := [.ref 63]) (S' := [.int (1 : Int32)]) (σ' := (97, I, J, R)) rfl ?_
          refine az_E.ret (v := some (.int (1 : Int32))) (σ' := (97, I, J, R)) rfl ?_
          show az_E az_F ex 2 128 45 [.retAddr 0, .retAddr 0, .int v2, .retAddr 0, .int v4, .int v5, .ref 65, .ref 63] [.int (1 : Int32)] (97, I, J, R) _
          refine az_E.br (c := (1 : Int32) = 0) (tt := 51) (ff := 48) (L' := [.retAddr 0, .retAddr 0, .int v2, .retAddr 0, .int v4, .int v5, .ref 65, .ref 63]) (S' := []) (σ' := (97, I, J, R)) rfl (fun hn => absurd hn (by decide)) (fun _ => ?_)
          refine az_E.sn 1 (pc' := 50) (L' := [.retAddr 0, .retAddr 0, .int v2, .retAddr 0, .int v4, .int v5, .ref 65, .ref 63]) (S' := [.int (-11 : Int32)]) (σ' := (97, I, J, R)) rfl ?_
          have h := Option.some.inj h
          subst h
          exact az_E.ret (v := some (.int (-11 : Int32))) (σ' := (97, I, J, R)) rfl hQ
        · rw [if_neg hc_714] at h
          refine az_E.sn 1 (pc' := 21) (L' := [.ref 63]) (S' := [.int (0 : Int32)]) (σ' := (97, I, J, R)) rfl ?_
          refine az_E.ret (v := some (.int (0 : Int32))) (σ' := (97, I, J, R)) rfl ?_
          show az_E az_F ex 2 128 45 [.retAddr 0, .retAddr 0, .int v2, .retAddr 0, .int v4, .int v5, .ref 65, .ref 63] [.int (0 : Int32)] (97, I, J, R) _
          refine az_E.br (c := (0 : Int32) = 0) (tt := 51) (ff := 48) (L' := [.retAddr 0, .retAddr 0, .int v2, .retAddr 0, .int v4, .int v5, .ref 65, .ref 63]) (S' := []) (σ' := (97, I, J, R)) rfl (fun _ => ?_) (fun hn => absurd (by decide) hn)
          refine az_E.sn 1 (pc' := 53) (L' := [.retAddr 0, .retAddr 0, .int v2, .retAddr 0, .int v4, .int v5, .ref 65, .ref 63]) (S' := [.ref 65]) (σ' := (97, I, J, R)) rfl ?_
          refine az_E.call (d := 1) (k' := 55) (vs := [.ref 65]) (pc' := 56) (S' := []) rfl ?_ (fun _ _ hq => hq)
          show az_E az_F ex 1 55 0 [.ref 65] [] (97, I, J, R) _
          refine az_E.sn 3 (pc' := 5) (L' := [.ref 65]) (S' := [.int (-1 : Int32), .int (I 65 1)]) (σ' := (97, I, J, R)) rfl ?_
          refine az_E.br (c := (I 65 1) = (-1 : Int32)) (tt := 12) (ff := 8) (L' := [.ref 65]) (S' := []) (σ' := (97, I, J, R)) rfl (fun hc_715 => ?_) (fun hc_715 => ?_)
          · rw [if_pos hc_715] at h
            refine az_E.sn 1 (pc' := 13) (L' := [.ref 65]) (S' := [.int (0 : Int32)]) (σ' := (97, I, J, R)) rfl ?_
            refine az_E.ret (v := some (.int (0 : Int32))) (σ' := (97, I, J, R)) rfl ?_
            show az_E az_F ex 2 128 56 [.retAddr 0, .retAddr 0, .int v2, .retAddr 0, .int v4, .int v5, .ref 65, .ref 63] [.int (0 : Int32)] (97, I, J, R) _
            refine az_E.br (c := (0 : Int32) = 0) (tt := 72) (ff := 59) (L' := [.retAddr 0, .retAddr 0, .int v2, .retAddr 0, .int v4, .int v5, .ref 65, .ref 63]) (S' := []) (σ' := (97, I, J, R)) rfl (fun _ => ?_) (fun hn => absurd (by decide) hn)
            refine az_E.sn 1 (pc' := 74) (L' := [.retAddr 0, .retAddr 0, .int v2, .retAddr 0, .int v4, .int v5, .ref 65, .ref 63]) (S' := [.int (-12 : Int32)]) (σ' := (97, I, J, R)) rfl ?_
            have h := Option.some.inj h
            subst h
            exact az_E.ret (v := some (.int (-12 : Int32))) (σ' := (97, I, J, R)) rfl hQ
          · rw [if_neg hc_715] at h
            refine az_E.sn 2 (pc' := 13) (L' := [.ref 65]) (S' := [.int (1 : Int32)]) (σ' := (97, I, J, R)) rfl ?_
            refine az_E.ret (v := some (.int (1 : Int32))) (σ' := (97, I, J, R)) rfl ?_
            show az_E az_F ex 2 128 56 [.retAddr 0, .retAddr 0, .int v2, .retAddr 0, .int v4, .int v5, .ref 65, .ref 63] [.int (1 : Int32)] (97, I, J, R) _
            refine az_E.br (c := (1 : Int32) = 0) (tt := 72) (ff := 59) (L' := [.retAddr 0, .retAddr 0, .int v2, .retAddr 0, .int v4, .int v5, .ref 65, .ref 63]) (S' := []) (σ' := (97, I, J, R)) rfl (fun hn => absurd hn (by decide)) (fun _ => ?_)
            refine az_E.sn 3 (pc' := 66) (L' := [.retAddr 0, .retAddr 0, .int v2, .retAddr 0, .int v4, .int v5, .ref 65, .ref 63]) (S' := [.int (I 65 1), .ref 63]) (σ' := (97, I, J, R)) rfl ?_
            refine az_E.call (d := 1) (k' := 56) (vs := [.ref 63, .int (I 65 1)]) (pc' := 69) (S' := []) rfl ?_ (fun _ _ hq => hq)
            show az_E az_F ex 1 56 0 [.ref 63, .int (I 65 1)] [] (97, I, J, R) _
            refine az_E.sn 1 (pc' := 1) (L' := [.ref 63, .int (I 65 1)]) (S' := [.ref 63]) (σ' := (97, I, J, R)) rfl ?_
            refine az_E.call (d := 0) (k' := 55) (vs := [.ref 63]) (pc' := 4) (S' := []) rfl ?_ (fun _ _ hq => hq)
            show az_E az_F ex 0 55 0 [.ref 63] [] (97, I, J, R) _
            refine az_E.sn 3 (pc' := 5) (L' := [.ref 63]) (S' := [.int (-1 : Int32), .int (I 63 1)]) (σ' := (97, I, J, R)) rfl ?_
            refine az_E.br (c := (I 63 1) = (-1 : Int32)) (tt := 12) (ff := 8) (L' := [.ref 63]) (S' := []) (σ' := (97, I, J, R)) rfl (fun hc_716 => ?_) (fun hc_716 => ?_)
            · rw [if_pos hc_716] at h
              refine az_E.sn 1 (pc' := 13) (L' := [.ref 63]) (S' := [.int (0 : Int32)]) (σ' := (97, I, J, R)) rfl ?_
              refine az_E.ret (v := some (.int (0 : Int32))) (σ' := (97, I, J, R)) rfl ?_
              show az_E az_F ex 1 56 4 [.ref 63, .int (I 65 1)] [.int (0 : Int32)] (97, I, J, R) _
              refine az_E.br (c := (0 : Int32) = 0) (tt := 19) (ff := 7) (L' := [.ref 63, .int (I 65 1)]) (S' := []) (σ' := (97, I, J, R)) rfl (fun _ => ?_) (fun hn => absurd (by decide) hn)
              refine az_E.sn 1 (pc' := 20) (L' := [.ref 63, .int (I 65 1)]) (S' := [.int (0 : Int32)]) (σ' := (97, I, J, R)) rfl ?_
              refine az_E.ret (v := some (.int (0 : Int32))) (σ' := (97, I, J, R)) rfl ?_
              show az_E az_F ex 2 128 69 [.retAddr 0, .retAddr 0, .int v2, .retAddr 0, .int v4, .int v5, .ref 65, .ref 63] [.int (0 : Int32)] (97, I, J, R) _
              refine az_E.br (c := (0 : Int32) = 0) (tt := 72) (ff := 75) (L' := [.retAddr 0, .retAddr 0, .int v2, .retAddr 0, .int v4, .int v5, .ref 65, .ref 63]) (S' := []) (σ' := (97, I, J, R)) rfl (fun _ => ?_) (fun hn => absurd (by decide) hn)
              refine az_E.sn 1 (pc' := 74) (L' := [.retAddr 0, .retAddr 0, .int v2, .retAddr 0, .int v4, .int v5, .ref 65, .ref 63]) (S' := [.int (-12 : Int32)]) (σ' := (97, I, J, R)) rfl ?_
              have h := Option.some.inj h
              subst h
              exact az_E.ret (v := some (.int (-12 : Int32))) (σ' := (97, I, J, R)) rfl hQ
            · rw [if_neg hc_716] at h
              refine az_E.sn 2 (pc' := 13) (L' := [.ref 63]) (S' := [.int (1 : Int32)]) (σ' := (97, I, J, R)) rfl ?_
              refine az_E.ret (v := some (.int (1 : Int32))) (σ' := (97, I, J, R)) rfl ?_
              show az_E az_F ex 1 56 4 [.ref 63, .int (I 65 1)] [.int (1 : Int32)] (97, I, J, R) _
              refine az_E.br (c := (1 : Int32) = 0) (tt := 19) (ff := 7) (L' := [.ref 63, .int (I 65 1)]) (S' := []) (σ' := (97, I, J, R)) rfl (fun hn => absurd hn (by decide)) (fun _ => ?_)
              refine az_E.sn 3 (pc' := 12) (L' := [.ref 63, .int (I 65 1)]) (S' := [.int (I 65 1), .int (I 63 1)]) (σ' := (97, I, J, R)) rfl ?_
              refine az_E.br (c := (I 63 1) = (I 65 1)) (tt := 15) (ff := 19) (L' := [.ref 63, .int (I 65 1)]) (S' := []) (σ' := (97, I, J, R)) rfl (fun hc_717 => ?_) (fun hc_717 => ?_)
              · rw [if_pos hc_717] at h
                refine az_E.sn 2 (pc' := 20) (L' := [.ref 63, .int (I 65 1)]) (S' := [.int (1 : Int32)]) (σ' := (97, I, J, R)) rfl ?_
                refine az_E.ret (v := some (.int (1 : Int32))) (σ' := (97, I, J, R)) rfl ?_
                show az_E az_F ex 2 128 69 [.retAddr 0, .retAddr 0, .int v2, .retAddr 0, .int v4, .int v5, .ref 65, .ref 63] [.int (1 : Int32)] (97, I, J, R) _
                refine az_E.br (c := (1 : Int32) = 0) (tt := 72) (ff := 75) (L' := [.retAddr 0, .retAddr 0, .int v2, .retAddr 0, .int v4, .int v5, .ref 65, .ref 63]) (S' := []) (σ' := (97, I, J, R)) rfl (fun hn => absurd hn (by decide)) (fun _ => ?_)
                refine az_E.sn 3 (pc' := 80) (L' := [.retAddr 0, .retAddr 0, .int v2, .retAddr 0, .int v4, .int v5, .ref 65, .ref 63]) (S' := [.int v5, .int v2, .ref 65]) (σ' := (97, I, J, R)) rfl ?_
                refine az_E.call (d := 1) (k' := 60) (vs := [.ref 65, .int v2, .int v5]) (pc' := 83) (S' := []) rfl ?_ (fun _ _ hq => hq)
                show az_E az_F ex 1 60 0 [.ref 65, .int v2, .int v5] [] (97, I, J, R) _
                refine az_E.sn 1 (pc' := 1) (L' := [.ref 65, .int v2, .int v5]) (S' := [.int v2]) (σ' := (97, I, J, R)) rfl ?_
                refine az_E.br (c := v2 < 0) (tt := 30) (ff := 4) (L' := [.ref 65, .int v2, .int v5]) (S' := []) (σ' := (97, I, J, R)) rfl (fun hc_718 => ?_) (fun hc_718 => ?_)
                · rw [if_pos hc_718] at h
                  refine az_E.sn 1 (pc' := 31) (L' := [.ref 65, .int v2, .int v5]) (S' := [.int (0 : Int32)]) (σ' := (97, I, J, R)) rfl ?_
                  refine az_E.ret (v := some (.int (0 : Int32))) (σ' := (97, I, J, R)) rfl ?_
                  show az_E az_F ex 2 128 83 [.retAddr 0, .retAddr 0, .int v2, .retAddr 0, .int v4, .int v5, .ref 65, .ref 63] [.int (0 : Int32)] (97, I, J, R) _
                  refine az_E.br (c := (0 : Int32) = 0) (tt := 98) (ff := 86) (L' := [.retAddr 0, .retAddr 0, .int v2, .retAddr 0, .int v4, .int v5, .ref 65, .ref 63]) (S' := []) (σ' := (97, I, J, R)) rfl (fun _ => ?_) (fun hn => absurd (by decide) hn)
                  refine az_E.sn 1 (pc' := 100) (L' := [.retAddr 0, .retAddr 0, .int v2, .retAddr 0, .int v4, .int v5, .ref 65, .ref 63]) (S' := [.int (-13 : Int32)]) (σ' := (97, I, J, R)) rfl ?_
                  have h := Option.some.inj h
                  subst h
                  exact az_E.ret (v := some (.int (-13 : Int32))) (σ' := (97, I, J, R)) rfl hQ
                · rw [if_neg hc_718] at h
                  refine az_E.sn 1 (pc' := 5) (L' := [.ref 65, .int v2, .int v5]) (S' := [.int v5]) (σ' := (97, I, J, R)) rfl ?_
                  refine az_E.br (c := v5 < 0) (tt := 30) (ff := 8) (L' := [.ref 65, .int v2, .int v5]) (S' := []) (σ' := (97, I, J, R)) rfl (fun hc_719 => ?_) (fun hc_719 => ?_)
                  · rw [if_pos hc_719] at h
                    refine az_E.sn 1 (pc' := 31) (L' := [.ref 65, .int v2, .int v5]) (S' := [.int (0 : Int32)]) (σ' := (97, I, J, R)) rfl ?_
                    refine az_E.ret (v := some (.int (0 : Int32))) (σ' := (97, I, J, R)) rfl ?_
                    show az_E az_F ex 2 128 83 [.retAddr 0, .retAddr 0, .int v2, .retAddr 0, .int v4, .int v5, .ref 65, .ref 63] [.int (0 : Int32)] (97, I, J, R) _
                    refine az_E.br (c := (0 : Int32) = 0) (tt := 98) (ff := 86) (L' := [.retAddr 0, .retAddr 0, .int v2, .retAddr 0, .int v4, .int v5, .ref 65, .ref 63]) (S' := []) (σ' := (97, I, J, R)) rfl (fun _ => ?_) (fun hn => absurd (by decide) hn)
                    refine az_E.sn 1 (pc' := 100) (L' := [.retAddr 0, .retAddr 0, .int v2, .retAddr 0, .int v4, .int v5, .ref 65, .ref 63]) (S' := [.int (-13 : Int32)]) (σ' := (97, I, J, R)) rfl ?_
                    have h := Option.some.inj h
                    subst h
                    exact az_E.ret (v := some (.int (-13 : Int32))) (σ' := (97, I, J, R)) rfl hQ
                  · rw [if_neg hc_719] at h
                    refine az_E.sn 3 (pc' := 13) (L' := [.ref 65, .int v2, .int v5]) (S' := [.int (I 65 2), .int v2]) (σ' := (97, I, J, R)) rfl ?_
                    refine az_E.br (c := (I 65 2) < v2) (tt := 30) (ff := 16) (L' := [.ref 65, .int v2, .int v5]) (S' := []) (σ' := (97, I, J, R)) rfl (fun hc_720 => ?_) (fun hc_720 => ?_)
                    · rw [if_pos hc_720] at h
                      refine az_E.sn 1 (pc' := 31) (L' := [.ref 65, .int v2, .int v5]) (S' := [.int (0 : Int32)]) (σ' := (97, I, J, R)) rfl ?_
                      refine az_E.ret (v := some (.int (0 : Int32))) (σ' := (97, I, J, R)) rfl ?_
                      show az_E az_F ex 2 128 83 [.retAddr 0, .retAddr 0, .int v2, .retAddr 0, .int v4, .int v5, .ref 65, .ref 63] [.int (0 : Int32)] (97, I, J, R) _
                      refine az_E.br (c := (0 : Int32) = 0) (tt := 98) (ff := 86) (L' := [.retAddr 0, .retAddr 0, .int v2, .retAddr 0, .int v4, .int v5, .ref 65, .ref 63]) (S' := []) (σ' := (97, I, J, R)) rfl (fun _ => ?_) (fun hn => absurd (by decide) hn)
                      refine az_E.sn 1 (pc' := 100) (L' := [.retAddr 0, .retAddr 0, .int v2, .retAddr 0, .int v4, .int v5, .ref 65, .ref 63]) (S' := [.int (-13 : Int32)]) (σ' := (97, I, J, R)) rfl ?_
                      have h := Option.some.inj h
                      subst h
                      exact az_E.ret (v := some (.int (-13 : Int32))) (σ' := (97, I, J, R)) rfl hQ
                    · rw [if_neg hc_720] at h
                      refine az_E.sn 5 (pc' := 23) (L' := [.ref 65, .int v2, .int v5]) (S' := [.int ((I 65 2) - v2), .int v5]) (σ' := (97, I, J, R)) rfl ?_
                      refine az_E.br (c := ((I 65 2) - v2) < v5) (tt := 30) (ff := 26) (L' := [.ref 65, .int v2, .int v5]) (S' := []) (σ' := (97, I, J, R)) rfl (fun hc_721 => ?_) (fun hc_721 => ?_)
                      · rw [if_pos hc_721] at h
                        refine az_E.sn 1 (pc' := 31) (L' := [.ref 65, .int v2, .int v5]) (S' := [.int (0 : Int32)]) (σ' := (97, I, J, R)) rfl ?_
                        refine az_E.ret (v := some (.int (0 : Int32))) (σ' := (97, I, J, R)) rfl ?_
                        show az_E az_F ex 2 128 83 [.retAddr 0, .retAddr 0, .int v2, .retAddr 0, .int v4, .int v5, .ref 65, .ref 63] [.int (0 : Int32)] (97, I, J, R) _
                        refine az_E.br (c := (0 : Int32) = 0) (tt := 98) (ff := 86) (L' := [.retAddr 0, .retAddr 0, .int v2, .retAddr 0, .int v4, .int v5, .ref 65, .ref 63]) (S' := []) (σ' := (97, I, J, R)) rfl (fun _ => ?_) (fun hn => absurd (by decide) hn)
                        refine az_E.sn 1 (pc' := 100) (L' := [.retAddr 0, .retAddr 0, .int v2, .retAddr 0, .int v4, .int v5, .ref 65, .ref 63]) (S' := [.int (-13 : Int32)]) (σ' := (97, I, J, R)) rfl ?_
                        have h := Option.some.inj h
                        subst h
                        exact az_E.ret (v := some (.int (-13 : Int32))) (σ' := (97, I, J, R)) rfl hQ
                      · rw [if_neg hc_721] at h
                        refine az_E.sn 2 (pc' := 31) (L' := [.ref 65, .int v2, .int v5]) (S' := [.int (1 : Int32)]) (σ' := (97, I, J, R)) rfl ?_
                        refine az_E.ret (v := some (.int (1 : Int32))) (σ' := (97, I, J, R)) rfl ?_
                        show az_E az_F ex 2 128 83 [.retAddr 0, .retAddr 0, .int v2, .retAddr 0, .int v4, .int v5, .ref 65, .ref 63] [.int (1 : Int32)] (97, I, J, R) _
                        refine az_E.br (c := (1 : Int32) = 0) (tt := 98) (ff := 86) (L' := [.retAddr 0, .retAddr 0, .int v2, .retAddr 0, .int v4, .int v5, .ref 65, .ref 63]) (S' := []) (σ' := (97, I, J, R)) rfl (fun hn => absurd hn (by decide)) (fun _ => ?_)
                        refine az_E.sn 3 (pc' := 92) (L' := [.retAddr 0, .retAddr 0, .int v2, .retAddr 0, .int v4, .int v5, .ref 65, .ref 63]) (S' := [.int v5, .int v4, .ref 63]) (σ' := (97, I, J, R)) rfl ?_
                        refine az_E.call (d := 1) (k' := 60) (vs := [.ref 63, .int v4, .int v5]) (pc' := 95) (S' := []) rfl ?_ (fun _ _ hq => hq)
                        show az_E az_F ex 1 60 0 [.ref 63, .int v4, .int v5] [] (97, I, J, R) _
                        refine az_E.sn 1 (pc' := 1) (L' := [.ref 63, .int v4, .int v5]) (S' := [.int v4]) (σ' := (97, I, J, R)) rfl ?_
                        refine az_E.br (c := v4 < 0) (tt := 30) (ff := 4) (L' := [.ref 63, .int v4, .int v5]) (S' := []) (σ' := (97, I, J, R)) rfl (fun hc_722 => ?_) (fun hc_722 => ?_)
                        · rw [if_pos hc_722] at h
                          refine az_E.sn 1 (pc' := 31) (L' := [.ref 63, .int v4, .int v5]) (S' := [.int (0 : Int32)]) (σ' := (97, I, J, R)) rfl ?_
                          refine az_E.ret (v := some (.int (0 : Int32))) (σ' := (97, I, J, R)) rfl ?_
                          show az_E az_F ex 2 128 95 [.retAddr 0, .retAddr 0, .int v2, .retAddr 0, .int v4, .int v5, .ref 65, .ref 63] [.int (0 : Int32)] (97, I, J, R) _
                          refine az_E.br (c := (0 : Int32) = 0) (tt := 98) (ff := 101) (L' := [.retAddr 0, .retAddr 0, .int v2, .retAddr 0, .int v4, .int v5, .ref 65, .ref 63]) (S' := []) (σ' := (97, I, J, R)) rfl (fun _ => ?_) (fun hn => absurd (by decide) hn)
                          refine az_E.sn 1 (pc' := 100) (L' := [.retAddr 0, .retAddr 0, .int v2, .retAddr 0, .int v4, .int v5, .ref 65, .ref 63]) (S' := [.int (-13 : Int32)]) (σ' := (97, I, J, R)) rfl ?_
                          have h := Option.some.inj h
                          subst h
                          exact az_E.ret (v := some (.int (-13 : Int32))) (σ' := (97, I, J, R)) rfl hQ
                        · rw [if_neg hc_722] at h
                          refine az_E.sn 1 (pc' := 5) (L' := [.ref 63, .int v4, .int v5]) (S' := [.int v5]) (σ' := (97, I, J, R)) rfl ?_
                          refine az_E.br (c := v5 < 0) (tt := 30) (ff := 8) (L' := [.ref 63, .int v4, .int v5]) (S' := []) (σ' := (97, I, J, R)) rfl (fun hc_723 => ?_) (fun hc_723 => ?_)
                          · rw [if_pos hc_723] at h
                            refine az_E.sn 1 (pc' := 31) (L' := [.ref 63, .int v4, .int v5]) (S' := [.int (0 : Int32)]) (σ' := (97, I, J, R)) rfl ?_
                            refine az_E.ret (v := some (.int (0 : Int32))) (σ' := (97, I, J, R)) rfl ?_
                            show az_E az_F ex 2 128 95 [.retAddr 0, .retAddr 0, .int v2, .retAddr 0, .int v4, .int v5, .ref 65, .ref 63] [.int (0 : Int32)] (97, I, J, R) _
                            refine az_E.br (c := (0 : Int32) = 0) (tt := 98) (ff := 101) (L' := [.retAddr 0, .retAddr 0, .int v2, .retAddr 0, .int v4, .int v5, .ref 65, .ref 63]) (S' := []) (σ' := (97, I, J, R)) rfl (fun _ => ?_) (fun hn => absurd (by decide) hn)
                            refine az_E.sn 1 (pc' := 100) (L' := [.retAddr 0, .retAddr 0, .int v2, .retAddr 0, .int v4, .int v5, .ref 65, .ref 63]) (S' := [.int (-13 : Int32)]) (σ' := (97, I, J, R)) rfl ?_
                            have h := Option.some.inj h
                            subst h
                            exact az_E.ret (v := some (.int (-13 : Int32))) (σ' := (97, I, J, R)) rfl hQ
                          · rw [if_neg hc_723] at h
                            refine az_E.sn 3 (pc' := 13) (L' := [.ref 63, .int v4, .int v5]) (S' := [.int (I 63 2), .int v4]) (σ' := (97, I, J, R)) rfl ?_
                            refine az_E.br (c := (I 63 2) < v4) (tt := 30) (ff := 16) (L' := [.ref 63, .int v4, .int v5]) (S' := []) (σ' := (97, I, J, R)) rfl (fun hc_724 => ?_) (fun hc_724 => ?_)
                            · rw [if_pos hc_724] at h
                              refine az_E.sn 1 (pc' := 31) (L' := [.ref 63, .int v4, .int v5]) (S' := [.int (0 : Int32)]) (σ' := (97, I, J, R)) rfl ?_
                              refine az_E.ret (v := some (.int (0 : Int32))) (σ' := (97, I, J, R)) rfl ?_
                              show az_E az_F ex 2 128 95 [.retAddr 0, .retAddr 0, .int v2, .retAddr 0, .int v4, .int v5, .ref 65, .ref 63] [.int (0 : Int32)] (97, I, J, R) _
                              refine az_E.br (c := (0 : Int32) = 0) (tt := 98) (ff := 101) (L' := [.retAddr 0, .retAddr 0, .int v2, .retAddr 0, .int v4, .int v5, .ref 65, .ref 63]) (S' := []) (σ' := (97, I, J, R)) rfl (fun _ => ?_) (fun hn => absurd (by decide) hn)
                              refine az_E.sn 1 (pc' := 100) (L' := [.retAddr 0, .retAddr 0, .int v2, .retAddr 0, .int v4, .int v5, .ref 65, .ref 63]) (S' := [.int (-13 : Int32)]) (σ' := (97, I, J, R)) rfl ?_
                              have h := Option.some.inj h
                              subst h
                              exact az_E.ret (v := some (.int (-13 : Int32))) (σ' := (97, I, J, R)) rfl hQ
                            · rw [if_neg hc_724] at h
                              refine az_E.sn 5 (pc' := 23) (L' := [.ref 63, .int v4, .int v5]) (S' := [.int ((I 63 2) - v4), .int v5]) (σ' := (97, I, J, R)) rfl ?_
                              refine az_E.br (c := ((I 63 2) - v4) < v5) (tt := 30) (ff := 26) (L' := [.ref 63, .int v4, .int v5]) (S' := []) (σ' := (97, I, J, R)) rfl (fun hc_725 => ?_) (fun hc_725 => ?_)
                              · rw [if_pos hc_725] at h
                                refine az_E.sn 1 (pc' := 31) (L' := [.ref 63, .int v4, .int v5]) (S' := [.int (0 : Int32)]) (σ' := (97, I, J, R)) rfl ?_
                                refine az_E.ret (v := some (.int (0 : Int32))) (σ' := (97, I, J, R)) rfl ?_
                                show az_E az_F ex 2 128 95 [.retAddr 0, .retAddr 0, .int v2, .retAddr 0, .int v4, .int v5, .ref 65, .ref 63] [.int (0 : Int32)] (97, I, J, R) _
                                refine az_E.br (c := (0 : Int32) = 0) (tt := 98) (ff := 101) (L' := [.retAddr 0, .retAddr 0, .int v2, .retAddr 0, .int v4, .int v5, .ref 65, .ref 63]) (S' := []) (σ' := (97, I, J, R)) rfl (fun _ => ?_) (fun hn => absurd (by decide) hn)
                                refine az_E.sn 1 (pc' := 100) (L' := [.retAddr 0, .retAddr 0, .int v2, .retAddr 0, .int v4, .int v5, .ref 65, .ref 63]) (S' := [.int (-13 : Int32)]) (σ' := (97, I, J, R)) rfl ?_
                                have h := Option.some.inj h
                                subst h
                                exact az_E.ret (v := some (.int (-13 : Int32))) (σ' := (97, I, J, R)) rfl hQ
                              · rw [if_neg hc_725] at h
                                refine az_E.sn 2 (pc' := 31) (L' := [.ref 63, .int v4, .int v5]) (S' := [.int (1 : Int32)]) (σ' := (97, I, J, R)) rfl ?_
                                refine az_E.ret (v := some (.int (1 : Int32))) (σ' := (97, I, J, R)) rfl ?_
                                show az_E az_F ex 2 128 95 [.retAddr 0, .retAddr 0, .int v2, .retAddr 0, .int v4, .int v5, .ref 65, .ref 63] [.int (1 : Int32)] (97, I, J, R) _
                                refine az_E.br (c := (1 : Int32) = 0) (tt := 98) (ff := 101) (L' := [.retAddr 0, .retAddr 0, .int v2, .retAddr 0, .int v4, .int v5, .ref 65, .ref 63]) (S' := []) (σ' := (97, I, J, R)) rfl (fun hn => absurd hn (by decide)) (fun _ => ?_)
                                refine az_E.sn 7 (pc' := 116) (L' := [.retAddr 0, .retAddr 0, .int v2, .retAddr 0, .int v4, .int v5, .ref 65, .ref 63]) (S' := [.int v5, .int v4, .ref (63 + 1), .int v2, .ref (65 + 1)]) (σ' := (97, I, J, R)) rfl ?_
                                by_cases hc_726 : v2 < 0 ∨ v4 < 0 ∨ v5 < 0 ∨ 60 < v2.toNatClampNeg + v5.toNatClampNeg ∨ 60 < v4.toNatClampNeg + v5.toNatClampNeg
                                · rw [if_pos hc_726] at h; cases h
                                · rw [if_neg hc_726] at h
                                  refine az_E.o (o := az_cp az_F (97, I, J, R) (65 + 1) v2 (63 + 1) v4 v5) (pc' := 119) (L' := [.retAddr 0, .retAddr 0, .int v2, .retAddr 0, .int v4, .int v5, .ref 65, .ref 63]) (S' := []) (x := (97, I, (az_ur J (63 + 1) (va_cpy (J (65 + 1)) (J (63 + 1)) v2.toNatClampNeg v4.toNatClampNeg v5.toNatClampNeg)), R)) rfl (if_neg hc_726) ?_
                                  refine az_E.sn 1 (pc' := 121) (L' := [.retAddr 0, .retAddr 0, .int v2, .retAddr 0, .int v4, .int v5, .ref 65, .ref 63]) (S' := [.int v5]) (σ' := (97, I, (az_ur J (63 + 1) (va_cpy (J (65 + 1)) (J (63 + 1)) v2.toNatClampNeg v4.toNatClampNeg v5.toNatClampNeg)), R)) rfl ?_
                                  have h := Option.some.inj h
                                  subst h
                                  exact az_E.ret (v := some (.int v5)) (σ' := (97, I, (az_ur J (63 + 1) (va_cpy (J (65 + 1)) (J (63 + 1)) v2.toNatClampNeg v4.toNatClampNeg v5.toNatClampNeg)), R)) rfl hQ
              · rw [if_neg hc_717] at h
                refine az_E.sn 1 (pc' := 20) (L' := [.ref 63, .int (I 65 1)]) (S' := [.int (0 : Int32)]) (σ' := (97, I, J, R)) rfl ?_
                refine az_E.ret (v := some (.int (0 : Int32))) (σ' := (97, I, J, R)) rfl ?_
                show az_E az_F ex 2 128 69 [.retAddr 0, .retAddr 0, .int v2, .retAddr 0, .int v4, .int v5, .ref 65, .ref 63] [.int (0 : Int32)] (97, I, J, R) _
                refine az_E.br (c := (0 : Int32) = 0) (tt := 72) (ff := 75) (L' := [.retAddr 0, .retAddr 0, .int v2, .retAddr 0, .int v4, .int v5, .ref 65, .ref 63]) (S' := []) (σ' := (97, I, J, R)) rfl (fun _ => ?_) (fun hn => absurd (by decide) hn)
                refine az_E.sn 1 (pc' := 74) (L' := [.retAddr 0, .retAddr 0, .int v2, .retAddr 0, .int v4, .int v5, .ref 65, .ref 63]) (S' := [.int (-12 : Int32)]) (σ' := (97, I, J, R)) rfl ?_
                have h := Option.some.inj h
                subst h
                exact az_E.ret (v := some (.int (-12 : Int32))) (σ' := (97, I, J, R)) rfl hQ
      · rw [if_neg hc_713] at h
        refine az_E.sn 1 (pc' := 21) (L' := [.ref 63]) (S' := [.int (0 : Int32)]) (σ' := (97, I, J, R)) rfl ?_
        refine az_E.ret (v := some (.int (0 : Int32))) (σ' := (97, I, J, R)) rfl ?_
        show az_E az_F ex 2 128 45 [.retAddr 0, .retAddr 0, .int v2, .retAddr 0, .int v4, .int v5, .ref 65, .ref 63] [.int (0 : Int32)] (97, I, J, R) _
        refine az_E.br (c := (0 : Int32) = 0) (tt := 51) (ff := 48) (L' := [.retAddr 0, .retAddr 0, .int v2, .retAddr 0, .int v4, .int v5, .ref 65, .ref 63]) (S' := []) (σ' := (97, I, J, R)) rfl (fun _ => ?_) (fun hn => absurd (by decide) hn)
        refine az_E.sn 1 (pc' := 53) (L' := [.retAddr 0, .retAddr 0, .int v2, .retAddr 0, .int v4, .int v5, .ref 65, .ref 63]) (S' := [.ref 65]) (σ' := (97, I, J, R)) rfl ?_
        refine az_E.call (d := 1) (k' := 55) (vs := [.ref 65]) (pc' := 56) (S' := []) rfl ?_ (fun _ _ hq => hq)
        show az_E az_F ex 1 55 0 [.ref 65] [] (97, I, J, R) _
        refine az_E.sn 3 (pc' := 5) (L' := [.ref 65]) (S' := [.int (-1 : Int32), .int (I 65 1)]) (σ' := (97, I, J, R)) rfl ?_
        refine az_E.br (c := (I 65 1) = (-1 : Int32)) (tt := 12) (ff := 8) (L' := [.ref 65]) (S' := []) (σ' := (97, I, J, R)) rfl (fun hc_727 => ?_) (fun hc_727 => ?_)
        · rw [if_pos hc_727] at h
          refine az_E.sn 1 (pc' := 13) (L' := [.ref 65]) (S' := [.int (0 : Int32)]) (σ' := (97, I, J, R)) rfl ?_
          refine az_E.ret (v := some (.int (0 : Int32))) (σ' := (97, I, J, R)) rfl ?_
          show az_E az_F ex 2 128 56 [.retAddr 0, .retAddr 0, .int v2, .retAddr 0, .int v4, .int v5, .ref 65, .ref 63] [.int (0 : Int32)] (97, I, J, R) _
          refine az_E.br (c := (0 : Int32) = 0) (tt := 72) (ff := 59) (L' := [.retAddr 0, .retAddr 0, .int v2, .retAddr 0, .int v4, .int v5, .ref 65, .ref 63]) (S' := []) (σ' := (97, I, J, R)) rfl (fun _ => ?_) (fun hn => absurd (by decide) hn)
          refine az_E.sn 1 (pc' := 74) (L' := [.retAddr 0, .retAddr 0, .int v2, .retAddr 0, .int v4, .int v5, .ref 65, .ref 63]) (S' := [.int (-12 : Int32)]) (σ' := (97, I, J, R)) rfl ?_
          have h := Option.some.inj h
          subst h
          exact az_E.ret (v := some (.int (-12 : Int32))) (σ' := (97, I, J, R)) rfl hQ
        · rw [if_neg hc_727] at h
          refine az_E.sn 2 (pc' := 13) (L' := [.ref 65]) (S' := [.int (1 : Int32)]) (σ' := (97, I, J, R)) rfl ?_
          refine az_E.ret (v := some (.int (1 : Int32))) (σ' := (97, I, J, R)) rfl ?_
          show az_E az_F ex 2 128 56 [.retAddr 0, .retAddr 0, .int v2, .retAddr 0, .int v4, .int v5, .ref 65, .ref 63] [.int (1 : Int32)] (97, I, J, R) _
          refine az_E.br (c := (1 : Int32) = 0) (tt := 72) (ff := 59) (L' := [.retAddr 0, .retAddr 0, .int v2, .retAddr 0, .int v4, .int v5, .ref 65, .ref 63]) (S' := []) (σ' := (97, I, J, R)) rfl (fun hn => absurd hn (by decide)) (fun _ => ?_)
          refine az_E.sn 3 (pc' := 66) (L' := [.retAddr 0, .retAddr 0, .int v2, .retAddr 0, .int v4, .int v5, .ref 65, .ref 63]) (S' := [.int (I 65 1), .ref 63]) (σ' := (97, I, J, R)) rfl ?_
          refine az_E.call (d := 1) (k' := 56) (vs := [.ref 63, .int (I 65 1)]) (pc' := 69) (S' := []) rfl ?_ (fun _ _ hq => hq)
          show az_E az_F ex 1 56 0 [.ref 63, .int (I 65 1)] [] (97, I, J, R) _
          refine az_E.sn 1 (pc' := 1) (L' := [.ref 63, .int (I 65 1)]) (S' := [.ref 63]) (σ' := (97, I, J, R)) rfl ?_
          refine az_E.call (d := 0) (k' := 55) (vs := [.ref 63]) (pc' := 4) (S' := []) rfl ?_ (fun _ _ hq => hq)
          show az_E az_F ex 0 55 0 [.ref 63] [] (97, I, J, R) _
          refine az_E.sn 3 (pc' := 5) (L' := [.ref 63]) (S' := [.int (-1 : Int32), .int (I 63 1)]) (σ' := (97, I, J, R)) rfl ?_
          refine az_E.br (c := (I 63 1) = (-1 : Int32)) (tt := 12) (ff := 8) (L' := [.ref 63]) (S' := []) (σ' := (97, I, J, R)) rfl (fun hc_728 => ?_) (fun hc_728 => ?_)
          · rw [if_pos hc_728] at h
            refine az_E.sn 1 (pc' := 13) (L' := [.ref 63]) (S' := [.int (0 : Int32)]) (σ' := (97, I, J, R)) rfl ?_
            refine az_E.ret (v := some (.int (0 : Int32))) (σ' := (97, I, J, R)) rfl ?_
            show az_E az_F ex 1 56 4 [.ref 63, .int (I 65 1)] [.int (0 : Int32)] (97, I, J, R) _
            refine az_E.br (c := (0 : Int32) = 0) (tt := 19) (ff := 7) (L' := [.ref 63, .int (I 65 1)]) (S' := []) (σ' := (97, I, J, R)) rfl (fun _ => ?_) (fun hn => absurd (by decide) hn)
            refine az_E.sn 1 (pc' := 20) (L' := [.ref 63, .int (I 65 1)]) (S' := [.int (0 : Int32)]) (σ' := (97, I, J, R)) rfl ?_
            refine az_E.ret (v := some (.int (0 : Int32))) (σ' := (97, I, J, R)) rfl ?_
            show az_E az_F ex 2 128 69 [.retAddr 0, .retAddr 0, .int v2, .retAddr 0, .int v4, .int v5, .ref 65, .ref 63] [.int (0 : Int32)] (97, I, J, R) _
            refine az_E.br (c := (0 : Int32) = 0) (tt := 72) (ff := 75) (L' := [.retAddr 0, .retAddr 0, .int v2, .retAddr 0, .int v4, .int v5, .ref 65, .ref 63]) (S' := []) (σ' := (97, I, J, R)) rfl (fun _ => ?_) (fun hn => absurd (by decide) hn)
            refine az_E.sn 1 (pc' := 74) (L' := [.retAddr 0, .retAddr 0, .int v2, .retAddr 0, .int v4, .int v5, .ref 65, .ref 63]) (S' := [.int (-12 : Int32)]) (σ' := (97, I, J, R)) rfl ?_
            have h := Option.some.inj h
            subst h
            exact az_E.ret (v := some (.int (-12 : Int32))) (σ' := (97, I, J, R)) rfl hQ
          · rw [if_neg hc_728] at h
            refine az_E.sn 2 (pc' := 13) (L' := [.ref 63]) (S' := [.int (1 : Int32)]) (σ' := (97, I, J, R)) rfl ?_
            refine az_E.ret (v := some (.int (1 : Int32))) (σ' := (97, I, J, R)) rfl ?_
            show az_E az_F ex 1 56 4 [.ref 63, .int (I 65 1)] [.int (1 : Int32)] (97, I, J, R) _
            refine az_E.br (c := (1 : Int32) = 0) (tt := 19) (ff := 7) (L' := [.ref 63, .int (I 65 1)]) (S' := []) (σ' := (97, I, J, R)) rfl (fun hn => absurd hn (by decide)) (fun _ => ?_)
            refine az_E.sn 3 (pc' := 12) (L' := [.ref 63, .int (I 65 1)]) (S' := [.int (I 65 1), .int (I 63 1)]) (σ' := (97, I, J, R)) rfl ?_
            refine az_E.br (c := (I 63 1) = (I 65 1)) (tt := 15) (ff := 19) (L' := [.ref 63, .int (I 65 1)]) (S' := []) (σ' := (97, I, J, R)) rfl (fun hc_729 => ?_) (fun hc_729 => ?_)
            · rw [if_pos hc_729] at h
              refine az_E.sn 2 (pc' := 20) (L' := [.ref 63, .int (I 65 1)]) (S' := [.int (1 : Int32)]) (σ' := (97, I, J, R)) rfl ?_
              refine az_E.ret (v := some (.int (1 : Int32))) (σ' := (97, I, J, R)) rfl ?_
              show az_E az_F ex 2 128 69 [.retAddr 0, .retAddr 0, .int v2, .retAddr 0, .int v4, .int v5, .ref 65, .ref 63] [.int (1 : Int32)] (97, I, J, R) _
              refine az_E.br (c := (1 : Int32) = 0) (tt := 72) (ff := 75) (L' := [.retAddr 0, .retAddr 0, .int v2, .retAddr 0, .int v4, .int v5, .ref 65, .ref 63]) (S' := []) (σ' := (97, I, J, R)) rfl (fun hn => absurd hn (by decide)) (fun _ => ?_)
              refine az_E.sn 3 (pc' := 80) (L' := [.retAddr 0, .retAddr 0, .int v2, .retAddr 0, .int v4, .int v5, .ref 65, .ref 63]) (S' := [.int v5, .int v2, .ref 65]) (σ' := (97, I, J, R)) rfl ?_
              refine az_E.call (d := 1) (k' := 60) (vs := [.ref 65, .int v2, .int v5]) (pc' := 83) (S' := []) rfl ?_ (fun _ _ hq => hq)
              show az_E az_F ex 1 60 0 [.ref 65, .int v2, .int v5] [] (97, I, J, R) _
              refine az_E.sn 1 (pc' := 1) (L' := [.ref 65, .int v2, .int v5]) (S' := [.int v2]) (σ' := (97, I, J, R)) rfl ?_
              refine az_E.br (c := v2 < 0) (tt := 30) (ff := 4) (L' := [.ref 65, .int v2, .int v5]) (S' := []) (σ' := (97, I, J, R)) rfl (fun hc_730 => ?_) (fun hc_730 => ?_)
              · rw [if_pos hc_730] at h
                refine az_E.sn 1 (pc' := 31) (L' := [.ref 65, .int v2, .int v5]) (S' := [.int (0 : Int32)]) (σ' := (97, I, J, R)) rfl ?_
                refine az_E.ret (v := some (.int (0 : Int32))) (σ' := (97, I, J, R)) rfl ?_
                show az_E az_F ex 2 128 83 [.retAddr 0, .retAddr 0, .int v2, .retAddr 0, .int v4, .int v5, .ref 65, .ref 63] [.int (0 : Int32)] (97, I, J, R) _
                refine az_E.br (c := (0 : Int32) = 0) (tt := 98) (ff := 86) (L' := [.retAddr 0, .retAddr 0, .int v2, .retAddr 0, .int v4, .int v5, .ref 65, .ref 63]) (S' := []) (σ' := (97, I, J, R)) rfl (fun _ => ?_) (fun hn => absurd (by decide) hn)
                refine az_E.sn 1 (pc' := 100) (L' := [.retAddr 0, .retAddr 0, .int v2, .retAddr 0, .int v4, .int v5, .ref 65, .ref 63]) (S' := [.int (-13 : Int32)]) (σ' := (97, I, J, R)) rfl ?_
                have h := Option.some.inj h
                subst h
                exact az_E.ret (v := some (.int (-13 : Int32))) (σ' := (97, I, J, R)) rfl hQ
              · rw [if_neg hc_730] at h
                refine az_E.sn 1 (pc' := 5) (L' := [.ref 65, .int v2, .int v5]) (S' := [.int v5]) (σ' := (97, I, J, R)) rfl ?_
                refine az_E.br (c := v5 < 0) (tt := 30) (ff := 8) (L' := [.ref 65, .int v2, .int v5]) (S' := []) (σ' := (97, I, J, R)) rfl (fun hc_731 => ?_) (fun hc_731 => ?_)
                · rw [if_pos hc_731] at h
                  refine az_E.sn 1 (pc' := 31) (L' := [.ref 65, .int v2, .int v5]) (S' := [.int (0 : Int32)]) (σ' := (97, I, J, R)) rfl ?_
                  refine az_E.ret (v := some (.int (0 : Int32))) (σ' := (97, I, J, R)) rfl ?_
                  show az_E az_F ex 2 128 83 [.retAddr 0, .retAddr 0, .int v2, .retAddr 0, .int v4, .int v5, .ref 65, .ref 63] [.int (0 : Int32)] (97, I, J, R) _
                  refine az_E.br (c := (0 : Int32) = 0) (tt := 98) (ff := 86) (L' := [.retAddr 0, .retAddr 0, .int v2, .retAddr 0, .int v4, .int v5, .ref 65, .ref 63]) (S' := []) (σ' := (97, I, J, R)) rfl (fun _ => ?_) (fun hn => absurd (by decide) hn)
                  refine az_E.sn 1 (pc' := 100) (L' := [.retAddr 0, .retAddr 0, .int v2, .retAddr 0, .int v4, .int v5, .ref 65, .ref 63]) (S' := [.int (-13 : Int32)]) (σ' := (97, I, J, R)) rfl ?_
                  have h := Option.some.inj h
                  subst h
                  exact az_E.ret (v := some (.int (-13 : Int32))) (σ' := (97, I, J, R)) rfl hQ
                · rw [if_neg hc_731] at h
                  refine az_E.sn 3 (pc' := 13) (L' := [.ref 65, .int v2, .int v5]) (S' := [.int (I 65 2), .int v2]) (σ' := (97, I, J, R)) rfl ?_
                  refine az_E.br (c := (I 65 2) < v2) (tt := 30) (ff := 16) (L' := [.ref 65, .int v2, .int v5]) (S' := []) (σ' := (97, I, J, R)) rfl (fun hc_732 => ?_) (fun hc_732 => ?_)
                  · rw [if_pos hc_732] at h
                    refine az_E.sn 1 (pc' := 31) (L' := [.ref 65, .int v2, .int v5]) (S' := [.int (0 : Int32)]) (σ' := (97, I, J, R)) rfl ?_
                    refine az_E.ret (v := some (.int (0 : Int32))) (σ' := (97, I, J, R)) rfl ?_
                    show az_E az_F ex 2 128 83 [.retAddr 0, .retAddr 0, .int v2, .retAddr 0, .int v4, .int v5, .ref 65, .ref 63] [.int (0 : Int32)] (97, I, J, R) _
                    refine az_E.br (c := (0 : Int32) = 0) (tt := 98) (ff := 86) (L' := [.retAddr 0, .retAddr 0, .int v2, .retAddr 0, .int v4, .int v5, .ref 65, .ref 63]) (S' := []) (σ' := (97, I, J, R)) rfl (fun _ => ?_) (fun hn => absurd (by decide) hn)
                    refine az_E.sn 1 (pc' := 100) (L' := [.retAddr 0, .retAddr 0, .int v2, .retAddr 0, .int v4, .int v5, .ref 65, .ref 63]) (S' := [.int (-13 : Int32)]) (σ' := (97, I, J, R)) rfl ?_
                    have h := Option.some.inj h
                    subst h
                    exact az_E.ret (v := some (.int (-13 : Int32))) (σ' := (97, I, J, R)) rfl hQ
                  · rw [if_neg hc_732] at h
                    refine az_E.sn 5 (pc' := 23) (L' := [.ref 65, .int v2, .int v5]) (S' := [.int ((I 65 2) - v2), .int v5]) (σ' := (97, I, J, R)) rfl ?_
                    refine az_E.br (c := ((I 65 2) - v2) < v5) (tt := 30) (ff := 26) (L' := [.ref 65, .int v2, .int v5]) (S' := []) (σ' := (97, I, J, R)) rfl (fun hc_733 => ?_) (fun hc_733 => ?_)
                    · rw [if_pos hc_733] at h
                      refine az_E.sn 1 (pc' := 31) (L' := [.ref 65, .int v2, .int v5]) (S' := [.int (0 : Int32)]) (σ' := (97, I, J, R)) rfl ?_
                      refine az_E.ret (v := some (.int (0 : Int32))) (σ' := (97, I, J, R)) rfl ?_
                      show az_E az_F ex 2 128 83 [.retAddr 0, .retAddr 0, .int v2, .retAddr 0, .int v4, .int v5, .ref 65, .ref 63] [.int (0 : Int32)] (97, I, J, R) _
                      refine az_E.br (c := (0 : Int32) = 0) (tt := 98) (ff := 86) (L' := [.retAddr 0, .retAddr 0, .int v2, .retAddr 0, .int v4, .int v5, .ref 65, .ref 63]) (S' := []) (σ' := (97, I, J, R)) rfl (fun _ => ?_) (fun hn => absurd (by decide) hn)
                      refine az_E.sn 1 (pc' := 100) (L' := [.retAddr 0, .retAddr 0, .int v2, .retAddr 0, .int v4, .int v5, .ref 65, .ref 63]) (S' := [.int (-13 : Int32)]) (σ' := (97, I, J, R)) rfl ?_
                      have h := Option.some.inj h
                      subst h
                      exact az_E.ret (v := some (.int (-13 : Int32))) (σ' := (97, I, J, R)) rfl hQ
                    · rw [if_neg hc_733] at h
                      refine az_E.sn 2 (pc' := 31) (L' := [.ref 65, .int v2, .int v5]) (S' := [.int (1 : Int32)]) (σ' := (97, I, J, R)) rfl ?_
                      refine az_E.ret (v := some (.int (1 : Int32))) (σ' := (97, I, J, R)) rfl ?_
                      show az_E az_F ex 2 128 83 [.retAddr 0, .retAddr 0, .int v2, .retAddr 0, .int v4, .int v5, .ref 65, .ref 63] [.int (1 : Int32)] (97, I, J, R) _
                      refine az_E.br (c := (1 : Int32) = 0) (tt := 98) (ff := 86) (L' := [.retAddr 0, .retAddr 0, .int v2, .retAddr 0, .int v4, .int v5, .ref 65, .ref 63]) (S' := []) (σ' := (97, I, J, R)) rfl (fun hn => absurd hn (by decide)) (fun _ => ?_)
                      refine az_E.sn 3 (pc' := 92) (L' := [.retAddr 0, .retAddr 0, .int v2, .retAddr 0, .int v4, .int v5, .ref 65, .ref 63]) (S' := [.int v5, .int v4, .ref 63]) (σ' := (97, I, J, R)) rfl ?_
                      refine az_E.call (d := 1) (k' := 60) (vs := [.ref 63, .int v4, .int v5]) (pc' := 95) (S' := []) rfl ?_ (fun _ _ hq => hq)
                      show az_E az_F ex 1 60 0 [.ref 63, .int v4, .int v5] [] (97, I, J, R) _
                      refine az_E.sn 1 (pc' := 1) (L' := [.ref 63, .int v4, .int v5]) (S' := [.int v4]) (σ' := (97, I, J, R)) rfl ?_
                      refine az_E.br (c := v4 < 0) (tt := 30) (ff := 4) (L' := [.ref 63, .int v4, .int v5]) (S' := []) (σ' := (97, I, J, R)) rfl (fun hc_734 => ?_) (fun hc_734 => ?_)
                      · rw [if_pos hc_734] at h
                        refine az_E.sn 1 (pc' := 31) (L' := [.ref 63, .int v4, .int v5]) (S' := [.int (0 : Int32)]) (σ' := (97, I, J, R)) rfl ?_
                        refine az_E.ret (v := some (.int (0 : Int32))) (σ' := (97, I, J, R)) rfl ?_
                        show az_E az_F ex 2 128 95 [.retAddr 0, .retAddr 0, .int v2, .retAddr 0, .int v4, .int v5, .ref 65, .ref 63] [.int (0 : Int32)] (97, I, J, R) _
                        refine az_E.br (c := (0 : Int32) = 0) (tt := 98) (ff := 101) (L' := [.retAddr 0, .retAddr 0, .int v2, .retAddr 0, .int v4, .int v5, .ref 65, .ref 63]) (S' := []) (σ' := (97, I, J, R)) rfl (fun _ => ?_) (fun hn => absurd (by decide) hn)
                        refine az_E.sn 1 (pc' := 100) (L' := [.retAddr 0, .retAddr 0, .int v2, .retAddr 0, .int v4, .int v5, .ref 65, .ref 63]) (S' := [.int (-13 : Int32)]) (σ' := (97, I, J, R)) rfl ?_
                        have h := Option.some.inj h
                        subst h
                        exact az_E.ret (v := some (.int (-13 : Int32))) (σ' := (97, I, J, R)) rfl hQ
                      · rw [if_neg hc_734] at h
                        refine az_E.sn 1 (pc' := 5) (L' := [.ref 63, .int v4, .int v5]) (S' := [.int v5]) (σ' := (97, I, J, R)) rfl ?_
                        refine az_E.br (c := v5 < 0) (tt := 30) (ff := 8) (L' := [.ref 63, .int v4, .int v5]) (S' := []) (σ' := (97, I, J, R)) rfl (fun hc_735 => ?_) (fun hc_735 => ?_)
                        · rw [if_pos hc_735] at h
                          refine az_E.sn 1 (pc' := 31) (L' := [.ref 63, .int v4, .int v5]) (S' := [.int (0 : Int32)]) (σ' := (97, I, J, R)) rfl ?_
                          refine az_E.ret (v := some (.int (0 : Int32))) (σ' := (97, I, J, R)) rfl ?_
                          show az_E az_F ex 2 128 95 [.retAddr 0, .retAddr 0, .int v2, .retAddr 0, .int v4, .int v5, .ref 65, .ref 63] [.int (0 : Int32)] (97, I, J, R) _
                          refine az_E.br (c := (0 : Int32) = 0) (tt := 98) (ff := 101) (L' := [.retAddr 0, .retAddr 0, .int v2, .retAddr 0, .int v4, .int v5, .ref 65, .ref 63]) (S' := []) (σ' := (97, I, J, R)) rfl (fun _ => ?_) (fun hn => absurd (by decide) hn)
                          refine az_E.sn 1 (pc' := 100) (L' := [.retAddr 0, .retAddr 0, .int v2, .retAddr 0, .int v4, .int v5, .ref 65, .ref 63]) (S' := [.int (-13 : Int32)]) (σ' := (97, I, J, R)) rfl ?_
                          have h := Option.some.inj h
                          subst h
                          exact az_E.ret (v := some (.int (-13 : Int32))) (σ' := (97, I, J, R)) rfl hQ
                        · rw [if_neg hc_735] at h
                          refine az_E.sn 3 (pc' := 13) (L' := [.ref 63, .int v4, .int v5]) (S' := [.int (I 63 2), .int v4]) (σ' := (97, I, J, R)) rfl ?_
                          refine az_E.br (c := (I 63 2) < v4) (tt := 30) (ff := 16) (L' := [.ref 63, .int v4, .int v5]) (S' := []) (σ' := (97, I, J, R)) rfl (fun hc_736 => ?_) (fun hc_736 => ?_)
                          · rw [if_pos hc_736] at h
                            refine az_E.sn 1 (pc' := 31) (L' := [.ref 63, .int v4, .int v5]) (S' := [.int (0 : Int32)]) (σ' := (97, I, J, R)) rfl ?_
                            refine az_E.ret (v := some (.int (0 : Int32))) (σ' := (97, I, J, R)) rfl ?_
                            show az_E az_F ex 2 128 95 [.retAddr 0, .retAddr 0, .int v2, .retAddr 0, .int v4, .int v5, .ref 65, .ref 63] [.int (0 : Int32)] (97, I, J, R) _
                            refine az_E.br (c := (0 : Int32) = 0) (tt := 98) (ff := 101) (L' := [.retAddr 0, .retAddr 0, .int v2, .retAddr 0, .int v4, .int v5, .ref 65, .ref 63]) (S' := []) (σ' := (97, I, J, R)) rfl (fun _ => ?_) (fun hn => absurd (by decide) hn)
                            refine az_E.sn 1 (pc' := 100) (L' := [.retAddr 0, .retAddr 0, .int v2, .retAddr 0, .int v4, .int v5, .ref 65, .ref 63]) (S' := [.int (-13 : Int32)]) (σ' := (97, I, J, R)) rfl ?_
                            have h := Option.some.inj h
                            subst h
                            exact az_E.ret (v := some (.int (-13 : Int32))) (σ' := (97, I, J, R)) rfl hQ
                          · rw [if_neg hc_736] at h
                            refine az_E.sn 5 (pc' := 23) (L' := [.ref 63, .int v4, .int v5]) (S' := [.int ((I 63 2) - v4), .int v5]) (σ' := (97, I, J, R)) rfl ?_
                            refine az_E.br (c := ((I 63 2) - v4) < v5) (tt := 30) (ff := 26) (L' := [.ref 63, .int v4, .int v5]) (S' := []) (σ' := (97, I, J, R)) rfl (fun hc_737 => ?_) (fun hc_737 => ?_)
                            · rw [if_pos hc_737] at h
                              refine az_E.sn 1 (pc' := 31) (L' := [.ref 63, .int v4, .int v5]) (S' := [.int (0 : Int32)]) (σ' := (97, I, J, R)) rfl ?_
                              refine az_E.ret (v := some (.int (0 : Int32))) (σ' := (97, I, J, R)) rfl ?_
                              show az_E az_F ex 2 128 95 [.retAddr 0, .retAddr 0, .int v2, .retAddr 0, .int v4, .int v5, .ref 65, .ref 63] [.int (0 : Int32)] (97, I, J, R) _
                              refine az_E.br (c := (0 : Int32) = 0) (tt := 98) (ff := 101) (L' := [.retAddr 0, .retAddr 0, .int v2, .retAddr 0, .int v4, .int v5, .ref 65, .ref 63]) (S' := []) (σ' := (97, I, J, R)) rfl (fun _ => ?_) (fun hn => absurd (by decide) hn)
                              refine az_E.sn 1 (pc' := 100) (L' := [.retAddr 0, .retAddr 0, .int v2, .retAddr 0, .int v4, .int v5, .ref 65, .ref 63]) (S' := [.int (-13 : Int32)]) (σ' := (97, I, J, R)) rfl ?_
                              have h := Option.some.inj h
                              subst h
                              exact az_E.ret (v := some (.int (-13 : Int32))) (σ' := (97, I, J, R)) rfl hQ
                            · rw [if_neg hc_737] at h
                              refine az_E.sn 2 (pc' := 31) (L' := [.ref 63, .int v4, .int v5]) (S' := [.int (1 : Int32)]) (σ' := (97, I, J, R)) rfl ?_
                              refine az_E.ret (v := some (.int (1 : Int32))) (σ' := (97, I, J, R)) rfl ?_
                              show az_E az_F ex 2 128 95 [.retAddr 0, .retAddr 0, .int v2, .retAddr 0, .int v4, .int v5, .ref 65, .ref 63] [.int (1 : Int32)] (97, I, J, R) _
                              refine az_E.br (c := (1 : Int32) = 0) (tt := 98) (ff := 101) (L' := [.retAddr 0, .retAddr 0, .int v2, .retAddr 0, .int v4, .int v5, .ref 65, .ref 63]) (S' := []) (σ' := (97, I, J, R)) rfl (fun hn => absurd hn (by decide)) (fun _ => ?_)
                              refine az_E.sn 7 (pc' := 116) (L' := [.retAddr 0, .retAddr 0, .int v2, .retAddr 0, .int v4, .int v5, .ref 65, .ref 63]) (S' := [.int v5, .int v4, .ref (63 + 1), .int v2, .ref (65 + 1)]) (σ' := (97, I, J, R)) rfl ?_
                              by_cases hc_738 : v2 < 0 ∨ v4 < 0 ∨ v5 < 0 ∨ 60 < v2.toNatClampNeg + v5.toNatClampNeg ∨ 60 < v4.toNatClampNeg + v5.toNatClampNeg
                              · rw [if_pos hc_738] at h; cases h
                              · rw [if_neg hc_738] at h
                                refine az_E.o (o := az_cp az_F (97, I, J, R) (65 + 1) v2 (63 + 1) v4 v5) (pc' := 119) (L' := [.retAddr 0, .retAddr 0, .int v2, .retAddr 0, .int v4, .int v5, .ref 65, .ref 63]) (S' := []) (x := (97, I, (az_ur J (63 + 1) (va_cpy (J (65 + 1)) (J (63 + 1)) v2.toNatClampNeg v4.toNatClampNeg v5.toNatClampNeg)), R)) rfl (if_neg hc_738) ?_
                                refine az_E.sn 1 (pc' := 121) (L' := [.retAddr 0, .retAddr 0, .int v2, .retAddr 0, .int v4, .int v5, .ref 65, .ref 63]) (S' := [.int v5]) (σ' := (97, I, (az_ur J (63 + 1) (va_cpy (J (65 + 1)) (J (63 + 1)) v2.toNatClampNeg v4.toNatClampNeg v5.toNatClampNeg)), R)) rfl ?_
                                have h := Option.some.inj h
                                subst h
                                exact az_E.ret (v := some (.int v5)) (σ' := (97, I, (az_ur J (63 + 1) (va_cpy (J (65 + 1)) (J (63 + 1)) v2.toNatClampNeg v4.toNatClampNeg v5.toNatClampNeg)), R)) rfl hQ
            · rw [if_neg hc_729] at h
              refine az_E.sn 1 (pc' := 20) (L' := [.ref 63, .int (I 65 1)]) (S' := [.int (0 : Int32)]) (σ' := (97, I, J, R)) rfl ?_
              refine az_E.ret (v := some (.int (0 : Int32))) (σ' := (97, I, J, R)) rfl ?_
              show az_E az_F ex 2 128 69 [.retAddr 0, .retAddr 0, .int v2, .retAddr 0, .int v4, .int v5, .ref 65, .ref 63] [.int (0 : Int32)] (97, I, J, R) _
              refine az_E.br (c := (0 : Int32) = 0) (tt := 72) (ff := 75) (L' := [.retAddr 0, .retAddr 0, .int v2, .retAddr 0, .int v4, .int v5, .ref 65, .ref 63]) (S' := []) (σ' := (97, I, J, R)) rfl (fun _ => ?_) (fun hn => absurd (by decide) hn)
              refine az_E.sn 1 (pc' := 74) (L' := [.retAddr 0, .retAddr 0, .int v2, .retAddr 0, .int v4, .int v5, .ref 65, .ref 63]) (S' := [.int (-12 : Int32)]) (σ' := (97, I, J, R)) rfl ?_
              have h := Option.some.inj h
              subst h
              exact az_E.ret (v := some (.int (-12 : Int32))) (σ' := (97, I, J, R)) rfl hQ
  · rw [if_neg hc_711] at h
    refine az_E.sn 1 (pc' := 21) (L' := [.ref 65]) (S' := [.int (0 : Int32)]) (σ' := (97, I, J, R)) rfl ?_
    refine az_E.ret (v := some (.int (0 : Int32))) (σ' := (97, I, J, R)) rfl ?_
    show az_E az_F ex 2 128 37 [.retAddr 0, .retAddr 0, .int v2, .retAddr 0, .int v4, .int v5, .ref 65, .ref 63] [.int (0 : Int32)] (97, I, J, R) _
    refine az_E.br (c := (0 : Int32) = 0) (tt := 40) (ff := 48) (L' := [.retAddr 0, .retAddr 0, .int v2, .retAddr 0, .int v4, .int v5, .ref 65, .ref 63]) (S' := []) (σ' := (97, I, J, R)) rfl (fun _ => ?_) (fun hn => absurd (by decide) hn)
    refine az_E.sn 1 (pc' := 42) (L' := [.retAddr 0, .retAddr 0, .int v2, .retAddr 0, .int v4, .int v5, .ref 65, .ref 63]) (S' := [.ref 63]) (σ' := (97, I, J, R)) rfl ?_
    refine az_E.call (d := 1) (k' := 54) (vs := [.ref 63]) (pc' := 45) (S' := []) rfl ?_ (fun _ _ hq => hq)
    show az_E az_F ex 1 54 0 [.ref 63] [] (97, I, J, R) _
    refine az_E.sn 3 (pc' := 5) (L' := [.ref 63]) (S' := [.int (-1 : Int32), .int (I 63 0)]) (σ' := (97, I, J, R)) rfl ?_
    refine az_E.br (c := (I 63 0) = (-1 : Int32)) (tt := 8) (ff := 20) (L' := [.ref 63]) (S' := []) (σ' := (97, I, J, R)) rfl (fun hc_739 => ?_) (fun hc_739 => ?_)
    · rw [if_pos hc_739] at h
      refine az_E.sn 3 (pc' := 13) (L' := [.ref 63]) (S' := [.int (-1 : Int32), .int (I 63 1)]) (σ' := (97, I, J, R)) rfl ?_
      refine az_E.br (c := (I 63 1) = (-1 : Int32)) (tt := 16) (ff := 20) (L' := [.ref 63]) (S' := []) (σ' := (97, I, J, R)) rfl (fun hc_740 => ?_) (fun hc_740 => ?_)
      · rw [if_pos hc_740] at h
        refine az_E.sn 2 (pc' := 21) (L' := [.ref 63]) (S' := [.int (1 : Int32)]) (σ' := (97, I, J, R)) rfl ?_
        refine az_E.ret (v := some (.int (1 : Int32))) (σ' := (97, I, J, R)) rfl ?_
        show az_E az_F ex 2 128 45 [.retAddr 0, .retAddr 0, .int v2, .retAddr 0, .int v4, .int v5, .ref 65, .ref 63] [.int (1 : Int32)] (97, I, J, R) _
        refine az_E.br (c := (1 : Int32) = 0) (tt := 51) (ff := 48) (L' := [.retAddr 0, .retAddr 0, .int v2, .retAddr 0, .int v4, .int v5, .ref 65, .ref 63]) (S' := []) (σ' := (97, I, J, R)) rfl (fun hn => absurd hn (by decide)) (fun _ => ?_)
        refine az_E.sn 1 (pc' := 50) (L' := [.retAddr 0, .retAddr 0, .int v2, .retAddr 0, .int v4, .int v5, .ref 65, .ref 63]) (S' := [.int (-11 : Int32)]) (σ' := (97, I, J, R)) rfl ?_
        have h := Option.some.inj h
        subst h
        exact az_E.ret (v := some (.int (-11 : Int32))) (σ' := (97, I, J, R)) rfl hQ
      · rw [if_neg hc_740] at h
        refine az_E.sn 1 (pc' := 21) (L' := [.ref 63]) (S' := [.int (0 : Int32)]) (σ' := (97, I, J, R)) rfl ?_
        refine az_E.ret (v := some (.int (0 : Int32))) (σ' := (97, I, J, R)) rfl ?_
        show az_E az_F ex 2 128 45 [.retAddr 0, .retAddr 0, .int v2, .retAddr 0, .int v4, .int v5, .ref 65, .ref 63] [.int (0 : Int32)] (97, I, J, R) _
        refine az_E.br (c := (0 : Int32) = 0) (tt := 51) (ff := 48) (L' := [.retAddr 0, .retAddr 0, .int v2, .retAddr 0, .int v4, .int v5, .ref 65, .ref 63]) (S' := []) (σ' := (97, I, J, R)) rfl (fun _ => ?_) (fun hn => absurd (by decide) hn)
        refine az_E.sn 1 (pc' := 53) (L' := [.retAddr 0, .retAddr 0, .int v2, .retAddr 0, .int v4, .int v5, .ref 65, .ref 63]) (S' := [.ref 65]) (σ' := (97, I, J, R)) rfl ?_
        refine az_E.call (d := 1) (k' := 55) (vs := [.ref 65]) (pc' := 56) (S' := []) rfl ?_ (fun _ _ hq => hq)
        show az_E az_F ex 1 55 0 [.ref 65] [] (97, I, J, R) _
        refine az_E.sn 3 (pc' := 5) (L' := [.ref 65]) (S' := [.int (-1 : Int32), .int (I 65 1)]) (σ' := (97, I, J, R)) rfl ?_
        refine az_E.br (c := (I 65 1) = (-1 : Int32)) (tt := 12) (ff := 8) (L' := [.ref 65]) (S' := []) (σ' := (97, I, J, R)) rfl (fun hc_741 => ?_) (fun hc_741 => ?_)
        · rw [if_pos hc_741] at h
          refine az_E.sn 1 (pc' := 13) (L' := [.ref 65]) (S' := [.int (0 : Int32)]) (σ' := (97, I, J, R)) rfl ?_
          refine az_E.ret (v := some (.int (0 : Int32))) (σ' := (97, I, J, R)) rfl ?_
          show az_E az_F ex 2 128 56 [.retAddr 0, .retAddr 0, .int v2, .retAddr 0, .int v4, .int v5, .ref 65, .ref 63] [.int (0 : Int32)] (97, I, J, R) _
          refine az_E.br (c := (0 : Int32) = 0) (tt := 72) (ff := 59) (L' := [.retAddr 0, .retAddr 0, .int v2, .retAddr 0, .int v4, .int v5, .ref 65, .ref 63]) (S' := []) (σ' := (97, I, J, R)) rfl (fun _ => ?_) (fun hn => absurd (by decide) hn)
          refine az_E.sn 1 (pc' := 74) (L' := [.retAddr 0, .retAddr 0, .int v2, .retAddr 0, .int v4, .int v5, .ref 65, .ref 63]) (S' := [.int (-12 : Int32)]) (σ' := (97, I, J, R)) rfl ?_
          have h := Option.some.inj h
          subst h
          exact az_E.ret (v := some (.int (-12 : Int32))) (σ' := (97, I, J, R)) rfl hQ
        · rw [if_neg hc_741] at h
          refine az_E.sn 2 (pc' := 13) (L' := [.ref 65]) (S' := [.int (1 : Int32)]) (σ' := (97, I, J, R)) rfl ?_
          refine az_E.ret (v := some (.int (1 : Int32))) (σ' := (97, I, J, R)) rfl ?_
          show az_E az_F ex 2 128 56 [.retAddr 0, .retAddr 0, .int v2, .retAddr 0, .int v4, .int v5, .ref 65, .ref 63] [.int (1 : Int32)] (97, I, J, R) _
          refine az_E.br (c := (1 : Int32) = 0) (tt := 72) (ff := 59) (L' := [.retAddr 0, .retAddr 0, .int v2, .retAddr 0, .int v4, .int v5, .ref 65, .ref 63]) (S' := []) (σ' := (97, I, J, R)) rfl (fun hn => absurd hn (by decide)) (fun _ => ?_)
          refine az_E.sn 3 (pc' := 66) (L' := [.retAddr 0, .retAddr 0, .int v2, .retAddr 0, .int v4, .int v5, .ref 65, .ref 63]) (S' := [.int (I 65 1), .ref 63]) (σ' := (97, I, J, R)) rfl ?_
          refine az_E.call (d := 1) (k' := 56) (vs := [.ref 63, .int (I 65 1)]) (pc' := 69) (S' := []) rfl ?_ (fun _ _ hq => hq)
          show az_E az_F ex 1 56 0 [.ref 63, .int (I 65 1)] [] (97, I, J, R) _
          refine az_E.sn 1 (pc' := 1) (L' := [.ref 63, .int (I 65 1)]) (S' := [.ref 63]) (σ' := (97, I, J, R)) rfl ?_
          refine az_E.call (d := 0) (k' := 55) (vs := [.ref 63]) (pc' := 4) (S' := []) rfl ?_ (fun _ _ hq => hq)
          show az_E az_F ex 0 55 0 [.ref 63] [] (97, I, J, R) _
          refine az_E.sn 3 (pc' := 5) (L' := [.ref 63]) (S' := [.int (-1 : Int32), .int (I 63 1)]) (σ' := (97, I, J, R)) rfl ?_
          refine az_E.br (c := (I 63 1) = (-1 : Int32)) (tt := 12) (ff := 8) (L' := [.ref 63]) (S' := []) (σ' := (97, I, J, R)) rfl (fun hc_742 => ?_) (fun hc_742 => ?_)
          · rw [if_pos hc_742] at h
            refine az_E.sn 1 (pc' := 13) (L' := [.ref 63]) (S' := [.int (0 : Int32)]) (σ' := (97, I, J, R)) rfl ?_
            refine az_E.ret (v := some (.int (0 : Int32))) (σ' := (97, I, J, R)) rfl ?_
            show az_E az_F ex 1 56 4 [.ref 63, .int (I 65 1)] [.int (0 : Int32)] (97, I, J, R) _
            refine az_E.br (c := (0 : Int32) = 0) (tt := 19) (ff := 7) (L' := [.ref 63, .int (I 65 1)]) (S' := []) (σ' := (97, I, J, R)) rfl (fun _ => ?_) (fun hn => absurd (by decide) hn)
            refine az_E.sn 1 (pc' := 20) (L' := [.ref 63, .int (I 65 1)]) (S' := [.int (0 : Int32)]) (σ' := (97, I, J, R)) rfl ?_
            refine az_E.ret (v := some (.int (0 : Int32))) (σ' := (97, I, J, R)) rfl ?_
            show az_E az_F ex 2 128 69 [.retAddr 0, .retAddr 0, .int v2, .retAddr 0, .int v4, .int v5, .ref 65, .ref 63] [.int (0 : Int32)] (97, I, J, R) _
            refine az_E.br (c := (0 : Int32) = 0) (tt := 72) (ff := 75) (L' := [.retAddr 0, .retAddr 0, .int v2, .retAddr 0, .int v4, .int v5, .ref 65, .ref 63]) (S' := []) (σ' := (97, I, J, R)) rfl (fun _ => ?_) (fun hn => absurd (by decide) hn)
            refine az_E.sn 1 (pc' := 74) (L' := [.retAddr 0, .retAddr 0, .int v2, .retAddr 0, .int v4, .int v5, .ref 65, .ref 63]) (S' := [.int (-12 : Int32)]) (σ' := (97, I, J, R)) rfl ?_
            have h := Option.some.inj h
            subst h
            exact az_E.ret (v := some (.int (-12 : Int32))) (σ' := (97, I, J, R)) rfl hQ
          · rw [if_neg hc_742] at h
            refine az_E.sn 2 (pc' := 13) (L' := [.ref 63]) (S' := [.int (1 : Int32)]) (σ' := (97, I, J, R)) rfl ?_
            refine az_E.ret (v := some (.int (1 : Int32))) (σ' := (97, I, J, R)) rfl ?_
            show az_E az_F ex 1 56 4 [.ref 63, .int (I 65 1)] [.int (1 : Int32)] (97, I, J, R) _
            refine az_E.br (c := (1 : Int32) = 0) (tt := 19) (ff := 7) (L' := [.ref 63, .int (I 65 1)]) (S' := []) (σ' := (97, I, J, R)) rfl (fun hn => absurd hn (by decide)) (fun _ => ?_)
            refine az_E.sn 3 (pc' := 12) (L' := [.ref 63, .int (I 65 1)]) (S' := [.int (I 65 1), .int (I 63 1)]) (σ' := (97, I, J, R)) rfl ?_
            refine az_E.br (c := (I 63 1) = (I 65 1)) (tt := 15) (ff := 19) (L' := [.ref 63, .int (I 65 1)]) (S' := []) (σ' := (97, I, J, R)) rfl (fun hc_743 => ?_) (fun hc_743 => ?_)
            · rw [if_pos hc_743] at h
              refine az_E.sn 2 (pc' := 20) (L' := [.ref 63, .int (I 65 1)]) (S' := [.int (1 : Int32)]) (σ' := (97, I, J, R)) rfl ?_
              refine az_E.ret (v := some (.int (1 : Int32))) (σ' := (97, I, J, R)) rfl ?_
              show az_E az_F ex 2 128 69 [.retAddr 0, .retAddr 0, .int v2, .retAddr 0, .int v4, .int v5, .ref 65, .ref 63] [.int (1 : Int32)] (97, I, J, R) _
              refine az_E.br (c := (1 : Int32) = 0) (tt := 72) (ff := 75) (L' := [.retAddr 0, .retAddr 0, .int v2, .retAddr 0, .int v4, .int v5, .ref 65, .ref 63]) (S' := []) (σ' := (97, I, J, R)) rfl (fun hn => absurd hn (by decide)) (fun _ => ?_)
              refine az_E.sn 3 (pc' := 80) (L' := [.retAddr 0, .retAddr 0, .int v2, .retAddr 0, .int v4, .int v5, .ref 65, .ref 63]) (S' := [.int v5, .int v2, .ref 65]) (σ' := (97, I, J, R)) rfl ?_
              refine az_E.call (d := 1) (k' := 60) (vs := [.ref 65, .int v2, .int v5]) (pc' := 83) (S' := []) rfl ?_ (fun _ _ hq => hq)
              show az_E az_F ex 1 60 0 [.ref 65, .int v2, .int v5] [] (97, I, J, R) _
              refine az_E.sn 1 (pc' := 1) (L' := [.ref 65, .int v2, .int v5]) (S' := [.int v2]) (σ' := (97, I, J, R)) rfl ?_
              refine az_E.br (c := v2 < 0) (tt := 30) (ff := 4) (L' := [.ref 65, .int v2, .int v5]) (S' := []) (σ' := (97, I, J, R)) rfl (fun hc_744 => ?_) (fun hc_744 => ?_)
              · rw [if_pos hc_744] at h
                refine az_E.sn 1 (pc' := 31) (L' := [.ref 65, .int v2, .int v5]) (S' := [.int (0 : Int32)]) (σ' := (97, I, J, R)) rfl ?_
                refine az_E.ret (v := some (.int (0 : Int32))) (σ' := (97, I, J, R)) rfl ?_
                show az_E az_F ex 2 128 83 [.retAddr 0, .retAddr 0, .int v2, .retAddr 0, .int v4, .int v5, .ref 65, .ref 63] [.int (0 : Int32)] (97, I, J, R) _
                refine az_E.br (c := (0 : Int32) = 0) (tt := 98) (ff := 86) (L' := [.retAddr 0, .retAddr 0, .int v2, .retAddr 0, .int v4, .int v5, .ref 65, .ref 63]) (S' := []) (σ' := (97, I, J, R)) rfl (fun _ => ?_) (fun hn => absurd (by decide) hn)
                refine az_E.sn 1 (pc' := 100) (L' := [.retAddr 0, .retAddr 0, .int v2, .retAddr 0, .int v4, .int v5, .ref 65, .ref 63]) (S' := [.int (-13 : Int32)]) (σ' := (97, I, J, R)) rfl ?_
                have h := Option.some.inj h
                subst h
                exact az_E.ret (v := some (.int (-13 : Int32))) (σ' := (97, I, J, R)) rfl hQ
              · rw [if_neg hc_744] at h
                refine az_E.sn 1 (pc' := 5) (L' := [.ref 65, .int v2, .int v5]) (S' := [.int v5]) (σ' := (97, I, J, R)) rfl ?_
                refine az_E.br (c := v5 < 0) (tt := 30) (ff := 8) (L' := [.ref 65, .int v2, .int v5]) (S' := []) (σ' := (97, I, J, R)) rfl (fun hc_745 => ?_) (fun hc_745 => ?_)
                · rw [if_pos hc_745] at h
                  refine az_E.sn 1 (pc' := 31) (L' := [.ref 65, .int v2, .int v5]) (S' := [.int (0 : Int32)]) (σ' := (97, I, J, R)) rfl ?_
                  refine az_E.ret (v := some (.int (0 : Int32))) (σ' := (97, I, J, R)) rfl ?_
                  show az_E az_F ex 2 128 83 [.retAddr 0, .retAddr 0, .int v2, .retAddr 0, .int v4, .int v5, .ref 65, .ref 63] [.int (0 : Int32)] (97, I, J, R) _
                  refine az_E.br (c := (0 : Int32) = 0) (tt := 98) (ff := 86) (L' := [.retAddr 0, .retAddr 0, .int v2, .retAddr 0, .int v4, .int v5, .ref 65, .ref 63]) (S' := []) (σ' := (97, I, J, R)) rfl (fun _ => ?_) (fun hn => absurd (by decide) hn)
                  refine az_E.sn 1 (pc' := 100) (L' := [.retAddr 0, .retAddr 0, .int v2, .retAddr 0, .int v4, .int v5, .ref 65, .ref 63]) (S' := [.int (-13 : Int32)]) (σ' := (97, I, J, R)) rfl ?_
                  have h := Option.some.inj h
                  subst h
                  exact az_E.ret (v := some (.int (-13 : Int32))) (σ' := (97, I, J, R)) rfl hQ
                · rw [if_neg hc_745] at h
                  refine az_E.sn 3 (pc' := 13) (L' := [.ref 65, .int v2, .int v5]) (S' := [.int (I 65 2), .int v2]) (σ' := (97, I, J, R)) rfl ?_
                  refine az_E.br (c := (I 65 2) < v2) (tt := 30) (ff := 16) (L' := [.ref 65, .int v2, .int v5]) (S' := []) (σ' := (97, I, J, R)) rfl (fun hc_746 => ?_) (fun hc_746 => ?_)
                  · rw [if_pos hc_746] at h
                    refine az_E.sn 1 (pc' := 31) (L' := [.ref 65, .int v2, .int v5]) (S' := [.int (0 : Int32)]) (σ' := (97, I, J, R)) rfl ?_
                    refine az_E.ret (v := some (.int (0 : Int32))) (σ' := (97, I, J, R)) rfl ?_
                    show az_E az_F ex 2 128 83 [.retAddr 0, .retAddr 0, .int v2, .retAddr 0, .int v4, .int v5, .ref 65, .ref 63] [.int (0 : Int32)] (97, I, J, R) _
                    refine az_E.br (c := (0 : Int32) = 0) (tt := 98) (ff := 86) (L' := [.retAddr 0, .retAddr 0, .int v2, .retAddr 0, .int v4, .int v5, .ref 65, .ref 63]) (S' := []) (σ' := (97, I, J, R)) rfl (fun _ => ?_) (fun hn => absurd (by decide) hn)
                    refine az_E.sn 1 (pc' := 100) (L' := [.retAddr 0, .retAddr 0, .int v2, .retAddr 0, .int v4, .int v5, .ref 65, .ref 63]) (S' := [.int (-13 : Int32)]) (σ' := (97, I, J, R)) rfl ?_
                    have h := Option.some.inj h
                    subst h
                    exact az_E.ret (v := some (.int (-13 : Int32))) (σ' := (97, I, J, R)) rfl hQ
                  · rw [if_neg hc_746] at h
                    refine az_E.sn 5 (pc' := 23) (L' := [.ref 65, .int v2, .int v5]) (S' := [.int ((I 65 2) - v2), .int v5]) (σ' := (97, I, J, R)) rfl ?_
                    refine az_E.br (c := ((I 65 2) - v2) < v5) (tt := 30) (ff := 26) (L' := [.ref 65, .int v2, .int v5]) (S' := []) (σ' := (97, I, J, R)) rfl (fun hc_747 => ?_) (fun hc_747 => ?_)
                    · rw [if_pos hc_747] at h
                      refine az_E.sn 1 (pc' := 31) (L' := [.ref 65, .int v2, .int v5]) (S' := [.int (0 : Int32)]) (σ' := (97, I, J, R)) rfl ?_
                      refine az_E.ret (v := some (.int (0 : Int32))) (σ' := (97, I, J, R)) rfl ?_
                      show az_E az_F ex 2 128 83 [.retAddr 0, .retAddr 0, .int v2, .retAddr 0, .int v4, .int v5, .ref 65, .ref 63] [.int (0 : Int32)] (97, I, J, R) _
                      refine az_E.br (c := (0 : Int32) = 0) (tt := 98) (ff := 86) (L' := [.retAddr 0, .retAddr 0, .int v2, .retAddr 0, .int v4, .int v5, .ref 65, .ref 63]) (S' := []) (σ' := (97, I, J, R)) rfl (fun _ => ?_) (fun hn => absurd (by decide) hn)
                      refine az_E.sn 1 (pc' := 100) (L' := [.retAddr 0, .retAddr 0, .int v2, .retAddr 0, .int v4, .int v5, .ref 65, .ref 63]) (S' := [.int (-13 : Int32)]) (σ' := (97, I, J, R)) rfl ?_
                      have h := Option.some.inj h
                      subst h
                      exact az_E.ret (v := some (.int (-13 : Int32))) (σ' := (97, I, J, R)) rfl hQ
                    · rw [if_neg hc_747] at h
                      refine az_E.sn 2 (pc' := 31) (L' := [.ref 65, .int v2, .int v5]) (S' := [.int (1 : Int32)]) (σ' := (97, I, J, R)) rfl ?_
                      refine az_E.ret (v := some (.int (1 : Int32))) (σ' := (97, I, J, R)) rfl ?_
                      show az_E az_F ex 2 128 83 [.retAddr 0, .retAddr 0, .int v2, .retAddr 0, .int v4, .int v5, .ref 65, .ref 63] [.int (1 : Int32)] (97, I, J, R) _
                      refine az_E.br (c := (1 : Int32) = 0) (tt := 98) (ff := 86) (L' := [.retAddr 0, .retAddr 0, .int v2, .retAddr 0, .int v4, .int v5, .ref 65, .ref 63]) (S' := []) (σ' := (97, I, J, R)) rfl (fun hn => absurd hn (by decide)) (fun _ => ?_)
                      refine az_E.sn 3 (pc' := 92) (L' := [.retAddr 0, .retAddr 0, .int v2, .retAddr 0, .int v4, .int v5, .ref 65, .ref 63]) (S' := [.int v5, .int v4, .ref 63]) (σ' := (97, I, J, R)) rfl ?_
                      refine az_E.call (d := 1) (k' := 60) (vs := [.ref 63, .int v4, .int v5]) (pc' := 95) (S' := []) rfl ?_ (fun _ _ hq => hq)
                      show az_E az_F ex 1 60 0 [.ref 63, .int v4, .int v5] [] (97, I, J, R) _
                      refine az_E.sn 1 (pc' := 1) (L' := [.ref 63, .int v4, .int v5]) (S' := [.int v4]) (σ' := (97, I, J, R)) rfl ?_
                      refine az_E.br (c := v4 < 0) (tt := 30) (ff := 4) (L' := [.ref 63, .int v4, .int v5]) (S' := []) (σ' := (97, I, J, R)) rfl (fun hc_748 => ?_) (fun hc_748 => ?_)
                      · rw [if_pos hc_748] at h
                        refine az_E.sn 1 (pc' := 31) (L' := [.ref 63, .int v4, .int v5]) (S' := [.int (0 : Int32)]) (σ' := (97, I, J, R)) rfl ?_
                        refine az_E.ret (v := some (.int (0 : Int32))) (σ' := (97, I, J, R)) rfl ?_
                        show az_E az_F ex 2 128 95 [.retAddr 0, .retAddr 0, .int v2, .retAddr 0, .int v4, .int v5, .ref 65, .ref 63] [.int (0 : Int32)] (97, I, J, R) _
                        refine az_E.br (c := (0 : Int32) = 0) (tt := 98) (ff := 101) (L' := [.retAddr 0, .retAddr 0, .int v2, .retAddr 0, .int v4, .int v5, .ref 65, .ref 63]) (S' := []) (σ' := (97, I, J, R)) rfl (fun _ => ?_) (fun hn => absurd (by decide) hn)
                        refine az_E.sn 1 (pc' := 100) (L' := [.retAddr 0, .retAddr 0, .int v2, .retAddr 0, .int v4, .int v5, .ref 65, .ref 63]) (S' := [.int (-13 : Int32)]) (σ' := (97, I, J, R)) rfl ?_
                        have h := Option.some.inj h
                        subst h
                        exact az_E.ret (v := some (.int (-13 : Int32))) (σ' := (97, I, J, R)) rfl hQ
                      · rw [if_neg hc_748] at h
                        refine az_E.sn 1 (pc' := 5) (L' := [.ref 63, .int v4, .int v5]) (S' := [.int v5]) (σ' := (97, I, J, R)) rfl ?_
                        refine az_E.br (c := v5 < 0) (tt := 30) (ff := 8) (L' := [.ref 63, .int v4, .int v5]) (S' := []) (σ' := (97, I, J, R)) rfl (fun hc_749 => ?_) (fun hc_749 => ?_)
                        · rw [if_pos hc_749] at h
                          refine az_E.sn 1 (pc' := 31) (L' := [.ref 63, .int v4, .int v5]) (S' := [.int (0 : Int32)]) (σ' := (97, I, J, R)) rfl ?_
                          refine az_E.ret (v := some (.int (0 : Int32))) (σ' := (97, I, J, R)) rfl ?_
                          show az_E az_F ex 2 128 95 [.retAddr 0, .retAddr 0, .int v2, .retAddr 0, .int v4, .int v5, .ref 65, .ref 63] [.int (0 : Int32)] (97, I, J, R) _
                          refine az_E.br (c := (0 : Int32) = 0) (tt := 98) (ff := 101) (L' := [.retAddr 0, .retAddr 0, .int v2, .retAddr 0, .int v4, .int v5, .ref 65, .ref 63]) (S' := []) (σ' := (97, I, J, R)) rfl (fun _ => ?_) (fun hn => absurd (by decide) hn)
                          refine az_E.sn 1 (pc' := 100) (L' := [.retAddr 0, .retAddr 0, .int v2, .retAddr 0, .int v4, .int v5, .ref 65, .ref 63]) (S' := [.int (-13 : Int32)]) (σ' := (97, I, J, R)) rfl ?_
                          have h := Option.some.inj h
                          subst h
                          exact az_E.ret (v := some (.int (-13 : Int32))) (σ' := (97, I, J, R)) rfl hQ
                        · rw [if_neg hc_749] at h
                          refine az_E.sn 3 (pc' := 13) (L' := [.ref 63, .int v4, .int v5]) (S' := [.int (I 63 2), .int v4]) (σ' := (97, I, J, R)) rfl ?_
                          refine az_E.br (c := (I 63 2) < v4) (tt := 30) (ff := 16) (L' := [.ref 63, .int v4, .int v5]) (S' := []) (σ' := (97, I, J, R)) rfl (fun hc_750 => ?_) (fun hc_750 => ?_)
                          · rw [if_pos hc_750] at h
                            refine az_E.sn 1 (pc' := 31) (L' := [.ref 63, .int v4, .int v5]) (S' := [.int (0 : Int32)]) (σ' := (97, I, J, R)) rfl ?_
                            refine az_E.ret (v := some (.int (0 : Int32))) (σ' := (97, I, J, R)) rfl ?_
                            show az_E az_F ex 2 128 95 [.retAddr 0, .retAddr 0, .int v2, .retAddr 0, .int v4, .int v5, .ref 65, .ref 63] [.int (0 : Int32)] (97, I, J, R) _
                            refine az_E.br (c := (0 : Int32) = 0) (tt := 98) (ff := 101) (L' := [.retAddr 0, .retAddr 0, .int v2, .retAddr 0, .int v4, .int v5, .ref 65, .ref 63]) (S' := []) (σ' := (97, I, J, R)) rfl (fun _ => ?_) (fun hn => absurd (by decide) hn)
                            refine az_E.sn 1 (pc' := 100) (L' := [.retAddr 0, .retAddr 0, .int v2, .retAddr 0, .int v4, .int v5, .ref 65, .ref 63]) (S' := [.int (-13 : Int32)]) (σ' := (97, I, J, R)) rfl ?_
                            have h := Option.some.inj h
                            subst h
                            exact az_E.ret (v := some (.int (-13 : Int32))) (σ' := (97, I, J, R)) rfl hQ
                          · rw [if_neg hc_750] at h
                            refine az_E.sn 5 (pc' := 23) (L' := [.ref 63, .int v4, .int v5]) (S' := [.int ((I 63 2) - v4), .int v5]) (σ' := (97, I, J, R)) rfl ?_
                            refine az_E.br (c := ((I 63 2) - v4) < v5) (tt := 30) (ff := 26) (L' := [.ref 63, .int v4, .int v5]) (S' := []) (σ' := (97, I, J, R)) rfl (fun hc_751 => ?_) (fun hc_751 => ?_)
                            · rw [if_pos hc_751] at h
                              refine az_E.sn 1 (pc' := 31) (L' := [.ref 63, .int v4, .int v5]) (S' := [.int (0 : Int32)]) (σ' := (97, I, J, R)) rfl ?_
                              refine az_E.ret (v := some (.int (0 : Int32))) (σ' := (97, I, J, R)) rfl ?_
                              show az_E az_F ex 2 128 95 [.retAddr 0, .retAddr 0, .int v2, .retAddr 0, .int v4, .int v5, .ref 65, .ref 63] [.int (0 : Int32)] (97, I, J, R) _
                              refine az_E.br (c := (0 : Int32) = 0) (tt := 98) (ff := 101) (L' := [.retAddr 0, .retAddr 0, .int v2, .retAddr 0, .int v4, .int v5, .ref 65, .ref 63]) (S' := []) (σ' := (97, I, J, R)) rfl (fun _ => ?_) (fun hn => absurd (by decide) hn)
                              refine az_E.sn 1 (pc' := 100) (L' := [.retAddr 0, .retAddr 0, .int v2, .retAddr 0, .int v4, .int v5, .ref 65, .ref 63]) (S' := [.int (-13 : Int32)]) (σ' := (97, I, J, R)) rfl ?_
                              have h := Option.some.inj h
                              subst h
                              exact az_E.ret (v := some (.int (-13 : Int32))) (σ' := (97, I, J, R)) rfl hQ
                            · rw [if_neg hc_751] at h
                              refine az_E.sn 2 (pc' := 31) (L' := [.ref 63, .int v4, .int v5]) (S' := [.int (1 : Int32)]) (σ' := (97, I, J, R)) rfl ?_
                              refine az_E.ret (v := some (.int (1 : Int32))) (σ' := (97, I, J, R)) rfl ?_
                              show az_E az_F ex 2 128 95 [.retAddr 0, .retAddr 0, .int v2, .retAddr 0, .int v4, .int v5, .ref 65, .ref 63] [.int (1 : Int32)] (97, I, J, R) _
                              refine az_E.br (c := (1 : Int32) = 0) (tt := 98) (ff := 101) (L' := [.retAddr 0, .retAddr 0, .int v2, .retAddr 0, .int v4, .int v5, .ref 65, .ref 63]) (S' := []) (σ' := (97, I, J, R)) rfl (fun hn => absurd hn (by decide)) (fun _ => ?_)
                              refine az_E.sn 7 (pc' := 116) (L' := [.retAddr 0, .retAddr 0, .int v2, .retAddr 0, .int v4, .int v5, .ref 65, .ref 63]) (S' := [.int v5, .int v4, .ref (63 + 1), .int v2, .ref (65 + 1)]) (σ' := (97, I, J, R)) rfl ?_
                              by_cases hc_752 : v2 < 0 ∨ v4 < 0 ∨ v5 < 0 ∨ 60 < v2.toNatClampNeg + v5.toNatClampNeg ∨ 60 < v4.toNatClampNeg + v5.toNatClampNeg
                              · rw [if_pos hc_752] at h; cases h
                              · rw [if_neg hc_752] at h
                                refine az_E.o (o := az_cp az_F (97, I, J, R) (65 + 1) v2 (63 + 1) v4 v5) (pc' := 119) (L' := [.retAddr 0, .retAddr 0, .int v2, .retAddr 0, .int v4, .int v5, .ref 65, .ref 63]) (S' := []) (x := (97, I, (az_ur J (63 + 1) (va_cpy (J (65 + 1)) (J (63 + 1)) v2.toNatClampNeg v4.toNatClampNeg v5.toNatClampNeg)), R)) rfl (if_neg hc_752) ?_
                                refine az_E.sn 1 (pc' := 121) (L' := [.retAddr 0, .retAddr 0, .int v2, .retAddr 0, .int v4, .int v5, .ref 65, .ref 63]) (S' := [.int v5]) (σ' := (97, I, (az_ur J (63 + 1) (va_cpy (J (65 + 1)) (J (63 + 1)) v2.toNatClampNeg v4.toNatClampNeg v5.toNatClampNeg)), R)) rfl ?_
                                have h := Option.some.inj h
                                subst h
                                exact az_E.ret (v := some (.int v5)) (σ' := (97, I, (az_ur J (63 + 1) (va_cpy (J (65 + 1)) (J (63 + 1)) v2.toNatClampNeg v4.toNatClampNeg v5.toNatClampNeg)), R)) rfl hQ
            · rw [if_neg hc_743] at h
              refine az_E.sn 1 (pc' := 20) (L' := [.ref 63, .int (I 65 1)]) (S' := [.int (0 : Int32)]) (σ' := (97, I, J, R)) rfl ?_
              refine az_E.ret (v := some (.int (0 : Int32))) (σ' := (97, I, J, R)) rfl ?_
              show az_E az_F ex 2 128 69 [.retAddr 0, .retAddr 0, .int v2, .retAddr 0, .int v4, .int v5, .ref 65, .ref 63] [.int (0 : Int32)] (97, I, J, R) _
              refine az_E.br (c := (0 : Int32) = 0) (tt := 72) (ff := 75) (L' := [.retAddr 0, .retAddr 0, .int v2, .retAddr 0, .int v4, .int v5, .ref 65, .ref 63]) (S' := []) (σ' := (97, I, J, R)) rfl (fun _ => ?_) (fun hn => absurd (by decide) hn)
              refine az_E.sn 1 (pc' := 74) (L' := [.retAddr 0, .retAddr 0, .int v2, .retAddr 0, .int v4, .int v5, .ref 65, .ref 63]) (S' := [.int (-12 : Int32)]) (σ' := (97, I, J, R)) rfl ?_
              have h := Option.some.inj h
              subst h
              exact az_E.ret (v := some (.int (-12 : Int32))) (σ' := (97, I, J, R)) rfl hQ
    · rw [if_neg hc_739] at h
      refine az_E.sn 1 (pc' := 21) (L' := [.ref 63]) (S' := [.int (0 : Int32)]) (σ' := (97, I, J, R)) rfl ?_
      refine az_E.ret (v := some (.int (0 : Int32))) (σ' := (97, I, J, R)) rfl ?_
      show az_E az_F ex 2 128 45 [.retAddr 0, .retAddr 0, .int v2, .retAddr 0, .int v4, .int v5, .ref 65, .ref 63] [.int (0 : Int32)] (97, I, J, R) _
      refine az_E.br (c := (0 : Int32) = 0) (tt := 51) (ff := 48) (L' := [.retAddr 0, .retAddr 0, .int v2, .retAddr 0, .int v4, .int v5, .ref 65, .ref 63]) (S' := []) (σ' := (97, I, J, R)) rfl (fun _ => ?_) (fun hn => absurd (by decide) hn)
      refine az_E.sn 1 (pc' := 53) (L' := [.retAddr 0, .retAddr 0, .int v2, .retAddr 0, .int v4, .int v5, .ref 65, .ref 63]) (S' := [.ref 65]) (σ' := (97, I, J, R)) rfl ?_
      refine az_E.call (d := 1) (k' := 55) (vs := [.ref 65]) (pc' := 56) (S' := []) rfl ?_ (fun _ _ hq => hq)
      show az_E az_F ex 1 55 0 [.ref 65] [] (97, I, J, R) _
      refine az_E.sn 3 (pc' := 5) (L' := [.ref 65]) (S' := [.int (-1 : Int32), .int (I 65 1)]) (σ' := (97, I, J, R)) rfl ?_
      refine az_E.br (c := (I 65 1) = (-1 : Int32)) (tt := 12) (ff := 8) (L' := [.ref 65]) (S' := []) (σ' := (97, I, J, R)) rfl (fun hc_753 => ?_) (fun hc_753 => ?_)
      · rw [if_pos hc_753] at h
        refine az_E.sn 1 (pc' := 13) (L' := [.ref 65]) (S' := [.int (0 : Int32)]) (σ' := (97, I, J, R)) rfl ?_
        refine az_E.ret (v := some (.int (0 : Int32))) (σ' := (97, I, J, R)) rfl ?_
        show az_E az_F ex 2 128 56 [.retAddr 0, .retAddr 0, .int v2, .retAddr 0, .int v4, .int v5, .ref 65, .ref 63] [.int (0 : Int32)] (97, I, J, R) _
        refine az_E.br (c := (0 : Int32) = 0) (tt := 72) (ff := 59) (L' := [.retAddr 0, .retAddr 0, .int v2, .retAddr 0, .int v4, .int v5, .ref 65, .ref 63]) (S' := []) (σ' := (97, I, J, R)) rfl (fun _ => ?_) (fun hn => absurd (by decide) hn)
        refine az_E.sn 1 (pc' := 74) (L' := [.retAddr 0, .retAddr 0, .int v2, .retAddr 0, .int v4, .int v5, .ref 65, .ref 63]) (S' := [.int (-12 : Int32)]) (σ' := (97, I, J, R)) rfl ?_
        have h := Option.some.inj h
        subst h
        exact az_E.ret (v := some (.int (-12 : Int32))) (σ' := (97, I, J, R)) rfl hQ
      · rw [if_neg hc_753] at h
        refine az_E.sn 2 (pc' := 13) (L' := [.ref 65]) (S' := [.int (1 : Int32)]) (σ' := (97, I, J, R)) rfl ?_
        refine az_E.ret (v := some (.int (1 : Int32))) (σ' := (97, I, J, R)) rfl ?_
        show az_E az_F ex 2 128 56 [.retAddr 0, .retAddr 0, .int v2, .retAddr 0, .int v4, .int v5, .ref 65, .ref 63] [.int (1 : Int32)] (97, I, J, R) _
        refine az_E.br (c := (1 : Int32) = 0) (tt := 72) (ff := 59) (L' := [.retAddr 0, .retAddr 0, .int v2, .retAddr 0, .int v4, .int v5, .ref 65, .ref 63]) (S' := []) (σ' := (97, I, J, R)) rfl (fun hn => absurd hn (by decide)) (fun _ => ?_)
        refine az_E.sn 3 (pc' := 66) (L' := [.retAddr 0, .retAddr 0, .int v2, .retAddr 0, .int v4, .int v5, .ref 65, .ref 63]) (S' := [.int (I 65 1), .ref 63]) (σ' := (97, I, J, R)) rfl ?_
        refine az_E.call (d := 1) (k' := 56) (vs := [.ref 63, .int (I 65 1)]) (pc' := 69) (S' := []) rfl ?_ (fun _ _ hq => hq)
        show az_E az_F ex 1 56 0 [.ref 63, .int (I 65 1)] [] (97, I, J, R) _
        refine az_E.sn 1 (pc' := 1) (L' := [.ref 63, .int (I 65 1)]) (S' := [.ref 63]) (σ' := (97, I, J, R)) rfl ?_
        refine az_E.call (d := 0) (k' := 55) (vs := [.ref 63]) (pc' := 4) (S' := []) rfl ?_ (fun _ _ hq => hq)
        show az_E az_F ex 0 55 0 [.ref 63] [] (97, I, J, R) _
        refine az_E.sn 3 (pc' := 5) (L' := [.ref 63]) (S' := [.int (-1 : Int32), .int (I 63 1)]) (σ' := (97, I, J, R)) rfl ?_
        refine az_E.br (c := (I 63 1) = (-1 : Int32)) (tt := 12) (ff := 8) (L' := [.ref 63]) (S' := []) (σ' := (97, I, J, R)) rfl (fun hc_754 => ?_) (fun hc_754 => ?_)
        · rw [if_pos hc_754] at h
          refine az_E.sn 1 (pc' := 13) (L' := [.ref 63]) (S' := [.int (0 : Int32)]) (σ' := (97, I, J, R)) rfl ?_
          refine az_E.ret (v := some (.int (0 : Int32))) (σ' := (97, I, J, R)) rfl ?_
          show az_E az_F ex 1 56 4 [.ref 63, .int (I 65 1)] [.int (0 : Int32)] (97, I, J, R) _
          refine az_E.br (c := (0 : Int32) = 0) (tt := 19) (ff := 7) (L' := [.ref 63, .int (I 65 1)]) (S' := []) (σ' := (97, I, J, R)) rfl (fun _ => ?_) (fun hn => absurd (by decide) hn)
          refine az_E.sn 1 (pc' := 20) (L' := [.ref 63, .int (I 65 1)]) (S' := [.int (0 : Int32)]) (σ' := (97, I, J, R)) rfl ?_
          refine az_E.ret (v := some (.int (0 : Int32))) (σ' := (97, I, J, R)) rfl ?_
          show az_E az_F ex 2 128 69 [.retAddr 0, .retAddr 0, .int v2, .retAddr 0, .int v4, .int v5, .ref 65, .ref 63] [.int (0 : Int32)] (97, I, J, R) _
          refine az_E.br (c := (0 : Int32) = 0) (tt := 72) (ff := 75) (L' := [.retAddr 0, .retAddr 0, .int v2, .retAddr 0, .int v4, .int v5, .ref 65, .ref 63]) (S' := []) (σ' := (97, I, J, R)) rfl (fun _ => ?_) (fun hn => absurd (by decide) hn)
          refine az_E.sn 1 (pc' := 74) (L' := [.retAddr 0, .retAddr 0, .int v2, .retAddr 0, .int v4, .int v5, .ref 65, .ref 63]) (S' := [.int (-12 : Int32)]) (σ' := (97, I, J, R)) rfl ?_
          have h := Option.some.inj h
          subst h
          exact az_E.ret (v := some (.int (-12 : Int32))) (σ' := (97, I, J, R)) rfl hQ
        · rw [if_neg hc_754] at h
          refine az_E.sn 2 (pc' := 13) (L' := [.ref 63]) (S' := [.int (1 : Int32)]) (σ' := (97, I, J, R)) rfl ?_
          refine az_E.ret (v := some (.int (1 : Int32))) (σ' := (97, I, J, R)) rfl ?_
          show az_E az_F ex 1 56 4 [.ref 63, .int (I 65 1)] [.int (1 : Int32)] (97, I, J, R) _
          refine az_E.br (c := (1 : Int32) = 0) (tt := 19) (ff := 7) (L' := [.ref 63, .int (I 65 1)]) (S' := []) (σ' := (97, I, J, R)) rfl (fun hn => absurd hn (by decide)) (fun _ => ?_)
          refine az_E.sn 3 (pc' := 12) (L' := [.ref 63, .int (I 65 1)]) (S' := [.int (I 65 1), .int (I 63 1)]) (σ' := (97, I, J, R)) rfl ?_
          refine az_E.br (c := (I 63 1) = (I 65 1)) (tt := 15) (ff := 19) (L' := [.ref 63, .int (I 65 1)]) (S' := []) (σ' := (97, I, J, R)) rfl (fun hc_755 => ?_) (fun hc_755 => ?_)
          · rw [if_pos hc_755] at h
            refine az_E.sn 2 (pc' := 20) (L' := [.ref 63, .int (I 65 1)]) (S' := [.int (1 : Int32)]) (σ' := (97, I, J, R)) rfl ?_
            refine az_E.ret (v := some (.int (1 : Int32))) (σ' := (97, I, J, R)) rfl ?_
            show az_E az_F ex 2 128 69 [.retAddr 0, .retAddr 0, .int v2, .retAddr 0, .int v4, .int v5, .ref 65, .ref 63] [.int (1 : Int32)] (97, I, J, R) _
            refine az_E.br (c := (1 : Int32) = 0) (tt := 72) (ff := 75) (L' := [.retAddr 0, .retAddr 0, .int v2, .retAddr 0, .int v4, .int v5, .ref 65, .ref 63]) (S' := []) (σ' := (97, I, J, R)) rfl (fun hn => absurd hn (by decide)) (fun _ => ?_)
            refine az_E.sn 3 (pc' := 80) (L' := [.retAddr 0, .retAddr 0, .int v2, .retAddr 0, .int v4, .int v5, .ref 65, .ref 63]) (S' := [.int v5, .int v2, .ref 65]) (σ' := (97, I, J, R)) rfl ?_
            refine az_E.call (d := 1) (k' := 60) (vs := [.ref 65, .int v2, .int v5]) (pc' := 83) (S' := []) rfl ?_ (fun _ _ hq => hq)
            show az_E az_F ex 1 60 0 [.ref 65, .int v2, .int v5] [] (97, I, J, R) _
            refine az_E.sn 1 (pc' := 1) (L' := [.ref 65, .int v2, .int v5]) (S' := [.int v2]) (σ' := (97, I, J, R)) rfl ?_
            refine az_E.br (c := v2 < 0) (tt := 30) (ff := 4) (L' := [.ref 65, .int v2, .int v5]) (S' := []) (σ' := (97, I, J, R)) rfl (fun hc_756 => ?_) (fun hc_756 => ?_)
            · rw [if_pos hc_756] at h
              refine az_E.sn 1 (pc' := 31) (L' := [.ref 65, .int v2, .int v5]) (S' := [.int (0 : Int32)]) (σ' := (97, I, J, R)) rfl ?_
              refine az_E.ret (v := some (.int (0 : Int32))) (σ' := (97, I, J, R)) rfl ?_
              show az_E az_F ex 2 128 83 [.retAddr 0, .retAddr 0, .int v2, .retAddr 0, .int v4, .int v5, .ref 65, .ref 63] [.int (0 : Int32)] (97, I, J, R) _
              refine az_E.br (c := (0 : Int32) = 0) (tt := 98) (ff := 86) (L' := [.retAddr 0, .retAddr 0, .int v2, .retAddr 0, .int v4, .int v5, .ref 65, .ref 63]) (S' := []) (σ' := (97, I, J, R)) rfl (fun _ => ?_) (fun hn => absurd (by decide) hn)
              refine az_E.sn 1 (pc' := 100) (L' := [.retAddr 0, .retAddr 0, .int v2, .retAddr 0, .int v4, .int v5, .ref 65, .ref 63]) (S' := [.int (-13 : Int32)]) (σ' := (97, I, J, R)) rfl ?_
              have h := Option.some.inj h
              subst h
              exact az_E.ret (v := some (.int (-13 : Int32))) (σ' := (97, I, J, R)) rfl hQ
            · rw [if_neg hc_756] at h
              refine az_E.sn 1 (pc' := 5) (L' := [.ref 65, .int v2, .int v5]) (S' := [.int v5]) (σ' := (97, I, J, R)) rfl ?_
              refine az_E.br (c := v5 < 0) (tt := 30) (ff := 8) (L' := [.ref 65, .int v2, .int v5]) (S' := []) (σ' := (97, I, J, R)) rfl (fun hc_757 => ?_) (fun hc_757 => ?_)
              · rw [if_pos hc_757] at h
                refine az_E.sn 1 (pc' := 31) (L' := [.ref 65, .int v2, .int v5]) (S' := [.int (0 : Int32)]) (σ' := (97, I, J, R)) rfl ?_
                refine az_E.ret (v := some (.int (0 : Int32))) (σ' := (97, I, J, R)) rfl ?_
                show az_E az_F ex 2 128 83 [.retAddr 0, .retAddr 0, .int v2, .retAddr 0, .int v4, .int v5, .ref 65, .ref 63] [.int (0 : Int32)] (97, I, J, R) _
                refine az_E.br (c := (0 : Int32) = 0) (tt := 98) (ff := 86) (L' := [.retAddr 0, .retAddr 0, .int v2, .retAddr 0, .int v4, .int v5, .ref 65, .ref 63]) (S' := []) (σ' := (97, I, J, R)) rfl (fun _ => ?_) (fun hn => absurd (by decide) hn)
                refine az_E.sn 1 (pc' := 100) (L' := [.retAddr 0, .retAddr 0, .int v2, .retAddr 0, .int v4, .int v5, .ref 65, .ref 63]) (S' := [.int (-13 : Int32)]) (σ' := (97, I, J, R)) rfl ?_
                have h := Option.some.inj h
                subst h
                exact az_E.ret (v := some (.int (-13 : Int32))) (σ' := (97, I, J, R)) rfl hQ
              · rw [if_neg hc_757] at h
                refine az_E.sn 3 (pc' := 13) (L' := [.ref 65, .int v2, .int v5]) (S' := [.int (I 65 2), .int v2]) (σ' := (97, I, J, R)) rfl ?_
                refine az_E.br (c := (I 65 2) < v2) (tt := 30) (ff := 16) (L' := [.ref 65, .int v2, .int v5]) (S' := []) (σ' := (97, I, J, R)) rfl (fun hc_758 => ?_) (fun hc_758 => ?_)
                · rw [if_pos hc_758] at h
                  refine az_E.sn 1 (pc' := 31) (L' := [.ref 65, .int v2, .int v5]) (S' := [.int (0 : Int32)]) (σ' := (97, I, J, R)) rfl ?_
                  refine az_E.ret (v := some (.int (0 : Int32))) (σ' := (97, I, J, R)) rfl ?_
                  show az_E az_F ex 2 128 83 [.retAddr 0, .retAddr 0, .int v2, .retAddr 0, .int v4, .int v5, .ref 65, .ref 63] [.int (0 : Int32)] (97, I, J, R) _
                  refine az_E.br (c := (0 : Int32) = 0) (tt := 98) (ff := 86) (L' := [.retAddr 0, .retAddr 0, .int v2, .retAddr 0, .int v4, .int v5, .ref 65, .ref 63]) (S' := []) (σ' := (97, I, J, R)) rfl (fun _ => ?_) (fun hn => absurd (by decide) hn)
                  refine az_E.sn 1 (pc' := 100) (L' := [.retAddr 0, .retAddr 0, .int v2, .retAddr 0, .int v4, .int v5, .ref 65, .ref 63]) (S' := [.int (-13 : Int32)]) (σ' := (97, I, J, R)) rfl ?_
                  have h := Option.some.inj h
                  subst h
                  exact az_E.ret (v := some (.int (-13 : Int32))) (σ' := (97, I, J, R)) rfl hQ
                · rw [if_neg hc_758] at h
                  refine az_E.sn 5 (pc' := 23) (L' := [.ref 65, .int v2, .int v5]) (S' := [.int ((I 65 2) - v2), .int v5]) (σ' := (97, I, J, R)) rfl ?_
                  refine az_E.br (c := ((I 65 2) - v2) < v5) (tt := 30) (ff := 26) (L' := [.ref 65, .int v2, .int v5]) (S' := []) (σ' := (97, I, J, R)) rfl (fun hc_759 => ?_) (fun hc_759 => ?_)
                  · rw [if_pos hc_759] at h
                    refine az_E.sn 1 (pc' := 31) (L' := [.ref 65, .int v2, .int v5]) (S' := [.int (0 : Int32)]) (σ' := (97, I, J, R)) rfl ?_
                    refine az_E.ret (v := some (.int (0 : Int32))) (σ' := (97, I, J, R)) rfl ?_
                    show az_E az_F ex 2 128 83 [.retAddr 0, .retAddr 0, .int v2, .retAddr 0, .int v4, .int v5, .ref 65, .ref 63] [.int (0 : Int32)] (97, I, J, R) _
                    refine az_E.br (c := (0 : Int32) = 0) (tt := 98) (ff := 86) (L' := [.retAddr 0, .retAddr 0, .int v2, .retAddr 0, .int v4, .int v5, .ref 65, .ref 63]) (S' := []) (σ' := (97, I, J, R)) rfl (fun _ => ?_) (fun hn => absurd (by decide) hn)
                    refine az_E.sn 1 (pc' := 100) (L' := [.retAddr 0, .retAddr 0, .int v2, .retAddr 0, .int v4, .int v5, .ref 65, .ref 63]) (S' := [.int (-13 : Int32)]) (σ' := (97, I, J, R)) rfl ?_
                    have h := Option.some.inj h
                    subst h
                    exact az_E.ret (v := some (.int (-13 : Int32))) (σ' := (97, I, J, R)) rfl hQ
                  · rw [if_neg hc_759] at h
                    refine az_E.sn 2 (pc' := 31) (L' := [.ref 65, .int v2, .int v5]) (S' := [.int (1 : Int32)]) (σ' := (97, I, J, R)) rfl ?_
                    refine az_E.ret (v := some (.int (1 : Int32))) (σ' := (97, I, J, R)) rfl ?_
                    show az_E az_F ex 2 128 83 [.retAddr 0, .retAddr 0, .int v2, .retAddr 0, .int v4, .int v5, .ref 65, .ref 63] [.int (1 : Int32)] (97, I, J, R) _
                    refine az_E.br (c := (1 : Int32) = 0) (tt := 98) (ff := 86) (L' := [.retAddr 0, .retAddr 0, .int v2, .retAddr 0, .int v4, .int v5, .ref 65, .ref 63]) (S' := []) (σ' := (97, I, J, R)) rfl (fun hn => absurd hn (by decide)) (fun _ => ?_)
                    refine az_E.sn 3 (pc' := 92) (L' := [.retAddr 0, .retAddr 0, .int v2, .retAddr 0, .int v4, .int v5, .ref 65, .ref 63]) (S' := [.int v5, .int v4, .ref 63]) (σ' := (97, I, J, R)) rfl ?_
                    refine az_E.call (d := 1) (k' := 60) (vs := [.ref 63, .int v4, .int v5]) (pc' := 95) (S' := []) rfl ?_ (fun _ _ hq => hq)
                    show az_E az_F ex 1 60 0 [.ref 63, .int v4, .int v5] [] (97, I, J, R) _
                    refine az_E.sn 1 (pc' := 1) (L' := [.ref 63, .int v4, .int v5]) (S' := [.int v4]) (σ' := (97, I, J, R)) rfl ?_
                    refine az_E.br (c := v4 < 0) (tt := 30) (ff := 4) (L' := [.ref 63, .int v4, .int v5]) (S' := []) (σ' := (97, I, J, R)) rfl (fun hc_760 => ?_) (fun hc_760 => ?_)
                    · rw [if_pos hc_760] at h
                      refine az_E.sn 1 (pc' := 31) (L' := [.ref 63, .int v4, .int v5]) (S' := [.int (0 : Int32)]) (σ' := (97, I, J, R)) rfl ?_
                      refine az_E.ret (v := some (.int (0 : Int32))) (σ' := (97, I, J, R)) rfl ?_
                      show az_E az_F ex 2 128 95 [.retAddr 0, .retAddr 0, .int v2, .retAddr 0, .int v4, .int v5, .ref 65, .ref 63] [.int (0 : Int32)] (97, I, J, R) _
                      refine az_E.br (c := (0 : Int32) = 0) (tt := 98) (ff := 101) (L' := [.retAddr 0, .retAddr 0, .int v2, .retAddr 0, .int v4, .int v5, .ref 65, .ref 63]) (S' := []) (σ' := (97, I, J, R)) rfl (fun _ => ?_) (fun hn => absurd (by decide) hn)
                      refine az_E.sn 1 (pc' := 100) (L' := [.retAddr 0, .retAddr 0, .int v2, .retAddr 0, .int v4, .int v5, .ref 65, .ref 63]) (S' := [.int (-13 : Int32)]) (σ' := (97, I, J, R)) rfl ?_
                      have h := Option.some.inj h
                      subst h
                      exact az_E.ret (v := some (.int (-13 : Int32))) (σ' := (97, I, J, R)) rfl hQ
                    · rw [if_neg hc_760] at h
                      refine az_E.sn 1 (pc' := 5) (L' := [.ref 63, .int v4, .int v5]) (S' := [.int v5]) (σ' := (97, I, J, R)) rfl ?_
                      refine az_E.br (c := v5 < 0) (tt := 30) (ff := 8) (L' := [.ref 63, .int v4, .int v5]) (S' := []) (σ' := (97, I, J, R)) rfl (fun hc_761 => ?_) (fun hc_761 => ?_)
                      · rw [if_pos hc_761] at h
                        refine az_E.sn 1 (pc' := 31) (L' := [.ref 63, .int v4, .int v5]) (S' := [.int (0 : Int32)]) (σ' := (97, I, J, R)) rfl ?_
                        refine az_E.ret (v := some (.int (0 : Int32))) (σ' := (97, I, J, R)) rfl ?_
                        show az_E az_F ex 2 128 95 [.retAddr 0, .retAddr 0, .int v2, .retAddr 0, .int v4, .int v5, .ref 65, .ref 63] [.int (0 : Int32)] (97, I, J, R) _
                        refine az_E.br (c := (0 : Int32) = 0) (tt := 98) (ff := 101) (L' := [.retAddr 0, .retAddr 0, .int v2, .retAddr 0, .int v4, .int v5, .ref 65, .ref 63]) (S' := []) (σ' := (97, I, J, R)) rfl (fun _ => ?_) (fun hn => absurd (by decide) hn)
                        refine az_E.sn 1 (pc' := 100) (L' := [.retAddr 0, .retAddr 0, .int v2, .retAddr 0, .int v4, .int v5, .ref 65, .ref 63]) (S' := [.int (-13 : Int32)]) (σ' := (97, I, J, R)) rfl ?_
                        have h := Option.some.inj h
                        subst h
                        exact az_E.ret (v := some (.int (-13 : Int32))) (σ' := (97, I, J, R)) rfl hQ
                      · rw [if_neg hc_761] at h
                        refine az_E.sn 3 (pc' := 13) (L' := [.ref 63, .int v4, .int v5]) (S' := [.int (I 63 2), .int v4]) (σ' := (97, I, J, R)) rfl ?_
                        refine az_E.br (c := (I 63 2) < v4) (tt := 30) (ff := 16) (L' := [.ref 63, .int v4, .int v5]) (S' := []) (σ' := (97, I, J, R)) rfl (fun hc_762 => ?_) (fun hc_762 => ?_)
                        · rw [if_pos hc_762] at h
                          refine az_E.sn 1 (pc' := 31) (L' := [.ref 63, .int v4, .int v5]) (S' := [.int (0 : Int32)]) (σ' := (97, I, J, R)) rfl ?_
                          refine az_E.ret (v := some (.int (0 : Int32))) (σ' := (97, I, J, R)) rfl ?_
                          show az_E az_F ex 2 128 95 [.retAddr 0, .retAddr 0, .int v2, .retAddr 0, .int v4, .int v5, .ref 65, .ref 63] [.int (0 : Int32)] (97, I, J, R) _
                          refine az_E.br (c := (0 : Int32) = 0) (tt := 98) (ff := 101) (L' := [.retAddr 0, .retAddr 0, .int v2, .retAddr 0, .int v4, .int v5, .ref 65, .ref 63]) (S' := []) (σ' := (97, I, J, R)) rfl (fun _ => ?_) (fun hn => absurd (by decide) hn)
                          refine az_E.sn 1 (pc' := 100) (L' := [.retAddr 0, .retAddr 0, .int v2, .retAddr 0, .int v4, .int v5, .ref 65, .ref 63]) (S' := [.int (-13 : Int32)]) (σ' := (97, I, J, R)) rfl ?_
                          have h := Option.some.inj h
                          subst h
                          exact az_E.ret (v := some (.int (-13 : Int32))) (σ' := (97, I, J, R)) rfl hQ
                        · rw [if_neg hc_762] at h
                          refine az_E.sn 5 (pc' := 23) (L' := [.ref 63, .int v4, .int v5]) (S' := [.int ((I 63 2) - v4), .int v5]) (σ' := (97, I, J, R)) rfl ?_
                          refine az_E.br (c := ((I 63 2) - v4) < v5) (tt := 30) (ff := 26) (L' := [.ref 63, .int v4, .int v5]) (S' := []) (σ' := (97, I, J, R)) rfl (fun hc_763 => ?_) (fun hc_763 => ?_)
                          · rw [if_pos hc_763] at h
                            refine az_E.sn 1 (pc' := 31) (L' := [.ref 63, .int v4, .int v5]) (S' := [.int (0 : Int32)]) (σ' := (97, I, J, R)) rfl ?_
                            refine az_E.ret (v := some (.int (0 : Int32))) (σ' := (97, I, J, R)) rfl ?_
                            show az_E az_F ex 2 128 95 [.retAddr 0, .retAddr 0, .int v2, .retAddr 0, .int v4, .int v5, .ref 65, .ref 63] [.int (0 : Int32)] (97, I, J, R) _
                            refine az_E.br (c := (0 : Int32) = 0) (tt := 98) (ff := 101) (L' := [.retAddr 0, .retAddr 0, .int v2, .retAddr 0, .int v4, .int v5, .ref 65, .ref 63]) (S' := []) (σ' := (97, I, J, R)) rfl (fun _ => ?_) (fun hn => absurd (by decide) hn)
                            refine az_E.sn 1 (pc' := 100) (L' := [.retAddr 0, .retAddr 0, .int v2, .retAddr 0, .int v4, .int v5, .ref 65, .ref 63]) (S' := [.int (-13 : Int32)]) (σ' := (97, I, J, R)) rfl ?_
                            have h := Option.some.inj h
                            subst h
                            exact az_E.ret (v := some (.int (-13 : Int32))) (σ' := (97, I, J, R)) rfl hQ
                          · rw [if_neg hc_763] at h
                            refine az_E.sn 2 (pc' := 31) (L' := [.ref 63, .int v4, .int v5]) (S' := [.int (1 : Int32)]) (σ' := (97, I, J, R)) rfl ?_
                            refine az_E.ret (v := some (.int (1 : Int32))) (σ' := (97, I, J, R)) rfl ?_
                            show az_E az_F ex 2 128 95 [.retAddr 0, .retAddr 0, .int v2, .retAddr 0, .int v4, .int v5, .ref 65, .ref 63] [.int (1 : Int32)] (97, I, J, R) _
                            refine az_E.br (c := (1 : Int32) = 0) (tt := 98) (ff := 101) (L' := [.retAddr 0, .retAddr 0, .int v2, .retAddr 0, .int v4, .int v5, .ref 65, .ref 63]) (S' := []) (σ' := (97, I, J, R)) rfl (fun hn => absurd hn (by decide)) (fun _ => ?_)
                            refine az_E.sn 7 (pc' := 116) (L' := [.retAddr 0, .retAddr 0, .int v2, .retAddr 0, .int v4, .int v5, .ref 65, .ref 63]) (S' := [.int v5, .int v4, .ref (63 + 1), .int v2, .ref (65 + 1)]) (σ' := (97, I, J, R)) rfl ?_
                            by_cases hc_764 : v2 < 0 ∨ v4 < 0 ∨ v5 < 0 ∨ 60 < v2.toNatClampNeg + v5.toNatClampNeg ∨ 60 < v4.toNatClampNeg + v5.toNatClampNeg
                            · rw [if_pos hc_764] at h; cases h
                            · rw [if_neg hc_764] at h
                              refine az_E.o (o := az_cp az_F (97, I, J, R) (65 + 1) v2 (63 + 1) v4 v5) (pc' := 119) (L' := [.retAddr 0, .retAddr 0, .int v2, .retAddr 0, .int v4, .int v5, .ref 65, .ref 63]) (S' := []) (x := (97, I, (az_ur J (63 + 1) (va_cpy (J (65 + 1)) (J (63 + 1)) v2.toNatClampNeg v4.toNatClampNeg v5.toNatClampNeg)), R)) rfl (if_neg hc_764) ?_
                              refine az_E.sn 1 (pc' := 121) (L' := [.retAddr 0, .retAddr 0, .int v2, .retAddr 0, .int v4, .int v5, .ref 65, .ref 63]) (S' := [.int v5]) (σ' := (97, I, (az_ur J (63 + 1) (va_cpy (J (65 + 1)) (J (63 + 1)) v2.toNatClampNeg v4.toNatClampNeg v5.toNatClampNeg)), R)) rfl ?_
                              have h := Option.some.inj h
                              subst h
                              exact az_E.ret (v := some (.int v5)) (σ' := (97, I, (az_ur J (63 + 1) (va_cpy (J (65 + 1)) (J (63 + 1)) v2.toNatClampNeg v4.toNatClampNeg v5.toNatClampNeg)), R)) rfl hQ
          · rw [if_neg hc_755] at h
            refine az_E.sn 1 (pc' := 20) (L' := [.ref 63, .int (I 65 1)]) (S' := [.int (0 : Int32)]) (σ' := (97, I, J, R)) rfl ?_
            refine az_E.ret (v := some (.int (0 : Int32))) (σ' := (97, I, J, R)) rfl ?_
            show az_E az_F ex 2 128 69 [.retAddr 0, .retAddr 0, .int v2, .retAddr 0, .int v4, .int v5, .ref 65, .ref 63] [.int (0 : Int32)] (97, I, J, R) _
            refine az_E.br (c := (0 : Int32) = 0) (tt := 72) (ff := 75) (L' := [.retAddr 0, .retAddr 0, .int v2, .retAddr 0, .int v4, .int v5, .ref 65, .ref 63]) (S' := []) (σ' := (97, I, J, R)) rfl (fun _ => ?_) (fun hn => absurd (by decide) hn)
            refine az_E.sn 1 (pc' := 74) (L' := [.retAddr 0, .retAddr 0, .int v2, .retAddr 0, .int v4, .int v5, .ref 65, .ref 63]) (S' := [.int (-12 : Int32)]) (σ' := (97, I, J, R)) rfl ?_
            have h := Option.some.inj h
            subst h
            exact az_E.ret (v := some (.int (-12 : Int32))) (σ' := (97, I, J, R)) rfl hQ
set_option maxRecDepth 100000 in
set_option maxHeartbeats 4000000 in
theorem re_X_shift_30_65_65 {ex : az_X} {I : Nat → Nat → Int32} {J : Nat → Nat → Int64} {R : Nat → Nat → Option Nat} {v2 : Int32} {v4 : Int32} {v5 : Int32} {x : Int32 × (Nat → Nat → Int64)} (h : rs_X_shift_30 65 65 I J v2 v4 v5 = some x) {Q : Option Value → az_S → Prop} (hQ : Q (some (.int x.1)) (97, I, x.2, R)) : az_E az_F ex 2 128 30 [.retAddr 0, .retAddr 0, .int v2, .retAddr 0, .int v4, .int v5, .ref 65, .retAddr 0] [.ref 65] (97, I, J, R) Q := by
  unfold rs_X_shift_30 at h
  refine az_E.sn 2 (pc' := 34) (L' := [.retAddr 0, .retAddr 0, .int v2, .retAddr 0, .int v4, .int v5, .ref 65, .ref 65]) (S' := [.ref 65]) (σ' := (97, I, J, R)) rfl ?_
  refine az_E.call (d := 1) (k' := 54) (vs := [.ref 65]) (pc' := 37) (S' := []) rfl ?_ (fun _ _ hq => hq)
  show az_E az_F ex 1 54 0 [.ref 65] [] (97, I, J, R) _
  refine az_E.sn 3 (pc' := 5) (L' := [.ref 65]) (S' := [.int (-1 : Int32), .int (I 65 0)]) (σ' := (97, I, J, R)) rfl ?_
  refine az_E.br (c := (I 65 0) = (-1 : Int32)) (tt := 8) (ff := 20) (L' := [.ref 65]) (S' := []) (σ' := (97, I, J, R)) rfl (fun hc_765 => ?_) (fun hc_765 => ?_)
  · rw [if_pos hc_765] at h
    refine az_E.sn 3 (pc' := 13) (L' := [.ref 65]) (S' := [.int (-1 : Int32), .int (I 65 1)]) (σ' := (97, I, J, R)) rfl ?_
    refine az_E.br (c := (I 65 1) = (-1 : Int32)) (tt := 16) (ff := 20) (L' := [.ref 65]) (S' := []) (σ' := (97, I, J, R)) rfl (fun hc_766 => ?_) (fun hc_766 => ?_)
    · rw [if_pos hc_766] at h
      refine az_E.sn 2 (pc' := 21) (L' := [.ref 65]) (S' := [.int (1 : Int32)]) (σ' := (97, I, J, R)) rfl ?_
      refine az_E.ret (v := some (.int (1 : Int32))) (σ' := (97, I, J, R)) rfl ?_
      show az_E az_F ex 2 128 37 [.retAddr 0, .retAddr 0, .int v2, .retAddr 0, .int v4, .int v5, .ref 65, .ref 65] [.int (1 : Int32)] (97, I, J, R) _
      refine az_E.br (c := (1 : Int32) = 0) (tt := 40) (ff := 48) (L' := [.retAddr 0, .retAddr 0, .int v2, .retAddr 0, .int v4, .int v5, .ref 65, .ref 65]) (S' := []) (σ' := (97, I, J, R)) rfl (fun hn => absurd hn (by decide)) (fun _ => ?_)
      refine az_E.sn 1 (pc' := 50) (L' := [.retAddr 0, .retAddr 0, .int v2, .retAddr 0, .int v4, .int v5, .ref 65, .ref 65]) (S' := [.int (-11 : Int32)]) (σ' := (97, I, J, R)) rfl ?_
      have h := Option.some.inj h
      subst h
      exact az_E.ret (v := some (.int (-11 : Int32))) (σ' := (97, I, J, R)) rfl hQ
    · rw [if_neg hc_766] at h
      refine az_E.sn 1 (pc' := 21) (L' := [.ref 65]) (S' := [.int (0 : Int32)]) (σ' := (97, I, J, R)) rfl ?_
      refine az_E.ret (v := some (.int (0 : Int32))) (σ' := (97, I, J, R)) rfl ?_
      show az_E az_F ex 2 128 37 [.retAddr 0, .retAddr 0, .int v2, .retAddr 0, .int v4, .int v5, .ref 65, .ref 65] [.int (0 : Int32)] (97, I, J, R) _
      refine az_E.br (c := (0 : Int32) = 0) (tt := 40) (ff := 48) (L' := [.retAddr 0, .retAddr 0, .int v2, .retAddr 0, .int v4, .int v5, .ref 65, .ref 65]) (S' := []) (σ' := (97, I, J, R)) rfl (fun _ => ?_) (fun hn => absurd (by decide) hn)
      refine az_E.sn 1 (pc' := 42) (L' := [.retAddr 0, .retAddr 0, .int v2, .retAddr 0, .int v4, .int v5, .ref 65, .ref 65]) (S' := [.ref 65]) (σ' := (97, I, J, R)) rfl ?_
      refine az_E.call (d := 1) (k' := 54) (vs := [.ref 65]) (pc' := 45) (S' := []) rfl ?_ (fun _ _ hq => hq)
      show az_E az_F ex 1 54 0 [.ref 65] [] (97, I, J, R) _
      refine az_E.sn 3 (pc' := 5) (L' := [.ref 65]) (S' := [.int (-1 : Int32), .int (I 65 0)]) (σ' := (97, I, J, R)) rfl ?_
      refine az_E.br (c := (I 65 0) = (-1 : Int32)) (tt := 8) (ff := 20) (L' := [.ref 65]) (S' := []) (σ' := (97, I, J, R)) rfl (fun hc_767 => ?_) (fun hc_767 => ?_)
      · rw [if_pos hc_767] at h
        refine az_E.sn 3 (pc' := 13) (L' := [.ref 65]) (S' := [.int (-1 : Int32), .int (I 65 1)]) (σ' := (97, I, J, R)) rfl ?_
        refine az_E.br (c := (I 65 1) = (-1 : Int32)) (tt := 16) (ff := 20) (L' := [.ref 65]) (S' := []) (σ' := (97, I, J, R)) rfl (fun hc_768 => ?_) (fun hc_768 => ?_)
        · rw [if_pos hc_768] at h
          refine az_E.sn 2 (pc' := 21) (L' := [.ref 65]) (S' := [.int (1 : Int32)]) (σ' := (97, I, J, R)) rfl ?_
          refine az_E.ret (v := some (.int (1 : Int32))) (σ' := (97, I, J, R)) rfl ?_
          show az_E az_F ex 2 128 45 [.retAddr 0, .retAddr 0, .int v2, .retAddr 0, .int v4, .int v5, .ref 65, .ref 65] [.int (1 : Int32)] (97, I, J, R) _
          refine az_E.br (c := (1 : Int32) = 0) (tt := 51) (ff := 48) (L' := [.retAddr 0, .retAddr 0, .int v2, .retAddr 0, .int v4, .int v5, .ref 65, .ref 65]) (S' := []) (σ' := (97, I, J, R)) rfl (fun hn => absurd hn (by decide)) (fun _ => ?_)
          refine az_E.sn 1 (pc' := 50) (L' := [.retAddr 0, .retAddr 0, .int v2, .retAddr 0, .int v4, .int v5, .ref 65, .ref 65]) (S' := [.int (-11 : Int32)]) (σ' := (97, I, J, R)) rfl ?_
          have h := Option.some.inj h
          subst h
          exact az_E.ret (v := some (.int (-11 : Int32))) (σ' := (97, I, J, R)) rfl hQ
        · rw [if_neg hc_768] at h
          refine az_E.sn 1 (pc' := 21) (L' := [.ref 65]) (S' := [.int (0 : Int32)]) (σ' := (97, I, J, R)) rfl ?_
          refine az_E.ret (v := some (.int (0 : Int32))) (σ' := (97, I, J, R)) rfl ?_
          show az_E az_F ex 2 128 45 [.retAddr 0, .retAddr 0, .int v2, .retAddr 0, .int v4, .int v5, .ref 65, .ref 65] [.int (0 : Int32)] (97, I, J, R) _
          refine az_E.br (c := (0 : Int32) = 0) (tt := 51) (ff := 48) (L' := [.retAddr 0, .retAddr 0, .int v2, .retAddr 0, .int v4, .int v5, .ref 65, .ref 65]) (S' := []) (σ' := (97, I, J, R)) rfl (fun _ => ?_) (fun hn => absurd (by decide) hn)
          refine az_E.sn 1 (pc' := 53) (L' := [.retAddr 0, .retAddr 0, .int v2, .retAddr 0, .int v4, .int v5, .ref 65, .ref 65]) (S' := [.ref 65]) (σ' := (97, I, J, R)) rfl ?_
          refine az_E.call (d := 1) (k' := 55) (vs := [.ref 65]) (pc' := 56) (S' := []) rfl ?_ (fun _ _ hq => hq)
          show az_E az_F ex 1 55 0 [.ref 65] [] (97, I, J, R) _
          refine az_E.sn 3 (pc' := 5) (L' := [.ref 65]) (S' := [.int (-1 : Int32), .int (I 65 1)]) (σ' := (97, I, J, R)) rfl ?_
          refine az_E.br (c := (I 65 1) = (-1 : Int32)) (tt := 12) (ff := 8) (L' := [.ref 65]) (S' := []) (σ' := (97, I, J, R)) rfl (fun hc_769 => ?_) (fun hc_769 => ?_)
          · rw [if_pos hc_769] at h
            refine az_E.sn 1 (pc' := 13) (L' := [.ref 65]) (S' := [.int (0 : Int32)]) (σ' := (97, I, J, R)) rfl ?_
            refine az_E.ret (v := some (.int (0 : Int32))) (σ' := (97, I, J, R)) rfl ?_
            show az_E az_F ex 2 128 56 [.retAddr 0, .retAddr 0, .int v2, .retAddr 0, .int v4, .int v5, .ref 65, .ref 65] [.int (0 : Int32)] (97, I, J, R) _
            refine az_E.br (c := (0 : Int32) = 0) (tt := 72) (ff := 59) (L' := [.retAddr 0, .retAddr 0, .int v2, .retAddr 0, .int v4, .int v5, .ref 65, .ref 65]) (S' := []) (σ' := (97, I, J, R)) rfl (fun _ => ?_) (fun hn => absurd (by decide) hn)
            refine az_E.sn 1 (pc' := 74) (L' := [.retAddr 0, .retAddr 0, .int v2, .retAddr 0, .int v4, .int v5, .ref 65, .ref 65]) (S' := [.int (-12 : Int32)]) (σ' := (97, I, J, R)) rfl ?_
            have h := Option.some.inj h
            subst h
            exact az_E.ret (v := some (.int (-12 : Int32))) (σ' := (97, I, J, R)) rfl hQ
          · rw [if_neg hc_769] at h
            refine az_E.sn 2 (pc' := 13) (L' := [.ref 65]) (S' := [.int (1 : Int32)]) (σ' := (97, I, J, R)) rfl ?_
            refine az_E.ret (v := some (.int (1 : Int32))) (σ' := (97, I, J, R)) rfl ?_
            show az_E az_F ex 2 128 56 [.retAddr 0, .retAddr 0, .int v2, .retAddr 0, .int v4, .int v5, .ref 65, .ref 65] [.int (1 : Int32)] (97, I, J, R) _
            refine az_E.br (c := (1 : Int32) = 0) (tt := 72) (ff := 59) (L' := [.retAddr 0, .retAddr 0, .int v2, .retAddr 0, .int v4, .int v5, .ref 65, .ref 65]) (S' := []) (σ' := (97, I, J, R)) rfl (fun hn => absurd hn (by decide)) (fun _ => ?_)
            refine az_E.sn 3 (pc' := 66) (L' := [.retAddr 0, .retAddr 0, .int v2, .retAddr 0, .int v4, .int v5, .ref 65, .ref 65]) (S' := [.int (I 65 1), .ref 65]) (σ' := (97, I, J, R)) rfl ?_
            refine az_E.call (d := 1) (k' := 56) (vs := [.ref 65, .int (I 65 1)]) (pc' := 69) (S' := []) rfl ?_ (fun _ _ hq => hq)
            show az_E az_F ex 1 56 0 [.ref 65, .int (I 65 1)] [] (97, I, J, R) _
            refine az_E.sn 1 (pc' := 1) (L' := [.ref 65, .int (I 65 1)]) (S' := [.ref 65]) (σ' := (97, I, J, R)) rfl ?_
            refine az_E.call (d := 0) (k' := 55) (vs := [.ref 65]) (pc' := 4) (S' := []) rfl ?_ (fun _ _ hq => hq)
            show az_E az_F ex 0 55 0 [.ref 65] [] (97, I, J, R) _
            refine az_E.sn 3 (pc' := 5) (L' := [.ref 65]) (S' := [.int (-1 : Int32), .int (I 65 1)]) (σ' := (97, I, J, R)) rfl ?_
            refine az_E.br (c := (I 65 1) = (-1 : Int32)) (tt := 12) (ff := 8) (L' := [.ref 65]) (S' := []) (σ' := (97, I, J, R)) rfl (fun hc_770 => ?_) (fun hc_770 => ?_)
            · rw [if_pos hc_770] at h
              refine az_E.sn 1 (pc' := 13) (L' := [.ref 65]) (S' := [.int (0 : Int32)]) (σ' := (97, I, J, R)) rfl ?_
              refine az_E.ret (v := some (.int (0 : Int32))) (σ' := (97, I, J, R)) rfl ?_
              show az_E az_F ex 1 56 4 [.ref 65, .int (I 65 1)] [.int (0 : Int32)] (97, I, J, R) _
              refine az_E.br (c := (0 : Int32) = 0) (tt := 19) (ff := 7) (L' := [.ref 65, .int (I 65 1)]) (S' := []) (σ' := (97, I, J, R)) rfl (fun _ => ?_) (fun hn => absurd (by decide) hn)
              refine az_E.sn 1 (pc' := 20) (L' := [.ref 65, .int (I 65 1)]) (S' := [.int (0 : Int32)]) (σ' := (97, I, J, R)) rfl ?_
              refine az_E.ret (v := some (.int (0 : Int32))) (σ' := (97, I, J, R)) rfl ?_
              show az_E az_F ex 2 128 69 [.retAddr 0, .retAddr 0, .int v2, .retAddr 0, .int v4, .int v5, .ref 65, .ref 65] [.int (0 : Int32)] (97, I, J, R) _
              refine az_E.br (c := (0 : Int32) = 0) (tt := 72) (ff := 75) (L' := [.retAddr 0, .retAddr 0, .int v2, .retAddr 0, .int v4, .int v5, .ref 65, .ref 65]) (S' := []) (σ' := (97, I, J, R)) rfl (fun _ => ?_) (fun hn => absurd (by decide) hn)
              refine az_E.sn 1 (pc' := 74) (L' := [.retAddr 0, .retAddr 0, .int v2, .retAddr 0, .int v4, .int v5, .ref 65, .ref 65]) (S' := [.int (-12 : Int32)]) (σ' := (97, I, J, R)) rfl ?_
              have h := Option.some.inj h
              subst h
              exact az_E.ret (v := some (.int (-12 : Int32))) (σ' := (97, I, J, R)) rfl hQ
            · rw [if_neg hc_770] at h
              refine az_E.sn 2 (pc' := 13) (L' := [.ref 65]) (S' := [.int (1 : Int32)]) (σ' := (97, I, J, R)) rfl ?_
              refine az_E.ret (v := some (.int (1 : Int32))) (σ' := (97, I, J, R)) rfl ?_
              show az_E az_F ex 1 56 4 [.ref 65, .int (I 65 1)] [.int (1 : Int32)] (97, I, J, R) _
              refine az_E.br (c := (1 : Int32) = 0) (tt := 19) (ff := 7) (L' := [.ref 65, .int (I 65 1)]) (S' := []) (σ' := (97, I, J, R)) rfl (fun hn => absurd hn (by decide)) (fun _ => ?_)
              refine az_E.sn 3 (pc' := 12) (L' := [.ref 65, .int (I 65 1)]) (S' := [.int (I 65 1), .int (I 65 1)]) (σ' := (97, I, J, R)) rfl ?_
              refine az_E.br (c := (I 65 1) = (I 65 1)) (tt := 15) (ff := 19) (L' := [.ref 65, .int (I 65 1)]) (S' := []) (σ' := (97, I, J, R)) rfl (fun hc_771 => ?_) (fun hc_771 => ?_)
              · rw [if_pos hc_771] at h
                refine az_E.sn 2 (pc' := 20) (L' := [.ref 65, .int (I 65 1)]) (S' := [.int (1 : Int32)]) (σ' := (97, I, J, R)) rfl ?_
                refine az_E.ret (v := some (.int (1 : Int32))) (σ' := (97, I, J, R)) rfl ?_
                show az_E az_F ex 2 128 69 [.retAddr 0, .retAddr 0, .int v2, .retAddr 0, .int v4, .int v5, .ref 65, .ref 65] [.int (1 : Int32)] (97, I, J, R) _
                refine az_E.br (c := (1 : Int32) = 0) (tt := 72) (ff := 75) (L' := [.retAddr 0, .retAddr 0, .int v2, .retAddr 0, .int v4, .int v5, .ref 65, .ref 65]) (S' := []) (σ' := (97, I, J, R)) rfl (fun hn => absurd hn (by decide)) (fun _ => ?_)
                refine az_E.sn 3 (pc' := 80) (L' := [.retAddr 0, .retAddr 0, .int v2, .retAddr 0, .int v4, .int v5, .ref 65, .ref 65]) (S' := [.int v5, .int v2, .ref 65]) (σ' := (97, I, J, R)) rfl ?_
                refine az_E.call (d := 1) (k' := 60) (vs := [.ref 65, .int v2, .int v5]) (pc' := 83) (S' := []) rfl ?_ (fun _ _ hq => hq)
                show az_E az_F ex 1 60 0 [.ref 65, .int v2, .int v5] [] (97, I, J, R) _
                refine az_E.sn 1 (pc' := 1) (L' := [.ref 65, .int v2, .int v5]) (S' := [.int v2]) (σ' := (97, I, J, R)) rfl ?_
                refine az_E.br (c := v2 < 0) (tt := 30) (ff := 4) (L' := [.ref 65, .int v2, .int v5]) (S' := []) (σ' := (97, I, J, R)) rfl (fun hc_772 => ?_) (fun hc_772 => ?_)
                · rw [if_pos hc_772] at h
                  refine az_E.sn 1 (pc' := 31) (L' := [.ref 65, .int v2, .int v5]) (S' := [.int (0 : Int32)]) (σ' := (97, I, J, R)) rfl ?_
                  refine az_E.ret (v := some (.int (0 : Int32))) (σ' := (97, I, J, R)) rfl ?_
                  show az_E az_F ex 2 128 83 [.retAddr 0, .retAddr 0, .int v2, .retAddr 0, .int v4, .int v5, .ref 65, .ref 65] [.int (0 : Int32)] (97, I, J, R) _
                  refine az_E.br (c := (0 : Int32) = 0) (tt := 98) (ff := 86) (L' := [.retAddr 0, .retAddr 0, .int v2, .retAddr 0, .int v4, .int v5, .ref 65, .ref 65]) (S' := []) (σ' := (97, I, J, R)) rfl (fun _ => ?_) (fun hn => absurd (by decide) hn)
                  refine az_E.sn 1 (pc' := 100) (L' := [.retAddr 0, .retAddr 0, .int v2, .retAddr 0, .int v4, .int v5, .ref 65, .ref 65]) (S' := [.int (-13 : Int32)]) (σ' := (97, I, J, R)) rfl ?_
                  have h := Option.some.inj h
                  subst h
                  exact az_E.ret (v := some (.int (-13 : Int32))) (σ' := (97, I, J, R)) rfl hQ
                · rw [if_neg hc_772] at h
                  refine az_E.sn 1 (pc' := 5) (L' := [.ref 65, .int v2, .int v5]) (S' := [.int v5]) (σ' := (97, I, J, R)) rfl ?_
                  refine az_E.br (c := v5 < 0) (tt := 30) (ff := 8) (L' := [.ref 65, .int v2, .int v5]) (S' := []) (σ' := (97, I, J, R)) rfl (fun hc_773 => ?_) (fun hc_773 => ?_)
                  · rw [if_pos hc_773] at h
                    refine az_E.sn 1 (pc' := 31) (L' := [.ref 65, .int v2, .int v5]) (S' := [.int (0 : Int32)]) (σ' := (97, I, J, R)) rfl ?_
                    refine az_E.ret (v := some (.int (0 : Int32))) (σ' := (97, I, J, R)) rfl ?_
                    show az_E az_F ex 2 128 83 [.retAddr 0, .retAddr 0, .int v2, .retAddr 0, .int v4, .int v5, .ref 65, .ref 65] [.int (0 : Int32)] (97, I, J, R) _
                    refine az_E.br (c := (0 : Int32) = 0) (tt := 98) (ff := 86) (L' := [.retAddr 0, .retAddr 0, .int v2, .retAddr 0, .int v4, .int v5, .ref 65, .ref 65]) (S' := []) (σ' := (97, I, J, R)) rfl (fun _ => ?_) (fun hn => absurd (by decide) hn)
                    refine az_E.sn 1 (pc' := 100) (L' := [.retAddr 0, .retAddr 0, .int v2, .retAddr 0, .int v4, .int v5, .ref 65, .ref 65]) (S' := [.int (-13 : Int32)]) (σ' := (97, I, J, R)) rfl ?_
                    have h := Option.some.inj h
                    subst h
                    exact az_E.ret (v := some (.int (-13 : Int32))) (σ' := (97, I, J, R)) rfl hQ
                  · rw [if_neg hc_773] at h
                    refine az_E.sn 3 (pc' := 13) (L' := [.ref 65, .int v2, .int v5]) (S' := [.int (I 65 2), .int v2]) (σ' := (97, I, J, R)) rfl ?_
                    refine az_E.br (c := (I 65 2) < v2) (tt := 30) (ff := 16) (L' := [.ref 65, .int v2, .int v5]) (S' := []) (σ' := (97, I, J, R)) rfl (fun hc_774 => ?_) (fun hc_774 => ?_)
                    · rw [if_pos hc_774] at h
                      refine az_E.sn 1 (pc' := 31) (L' := [.ref 65, .int v2, .int v5]) (S' := [.int (0 : Int32)]) (σ' := (97, I, J, R)) rfl ?_
                      refine az_E.ret (v := some (.int (0 : Int32))) (σ' := (97, I, J, R)) rfl ?_
                      show az_E az_F ex 2 128 83 [.retAddr 0, .retAddr 0, .int v2, .retAddr 0, .int v4, .int v5, .ref 65, .ref 65] [.int (0 : Int32)] (97, I, J, R) _
                      refine az_E.br (c := (0 : Int32) = 0) (tt := 98) (ff := 86) (L' := [.retAddr 0, .retAddr 0, .int v2, .retAddr 0, .int v4, .int v5, .ref 65, .ref 65]) (S' := []) (σ' := (97, I, J, R)) rfl (fun _ => ?_) (fun hn => absurd (by decide) hn)
                      refine az_E.sn 1 (pc' := 100) (L' := [.retAddr 0, .retAddr 0, .int v2, .retAddr 0, .int v4, .int v5, .ref 65, .ref 65]) (S' := [.int (-13 : Int32)]) (σ' := (97, I, J, R)) rfl ?_
                      have h := Option.some.inj h
                      subst h
                      exact az_E.ret (v := some (.int (-13 : Int32))) (σ' := (97, I, J, R)) rfl hQ
                    · rw [if_neg hc_774] at h
                      refine az_E.sn 5 (pc' := 23) (L' := [.ref 65, .int v2, .int v5]) (S' := [.int ((I 65 2) - v2), .int v5]) (σ' := (97, I, J, R)) rfl ?_
                      refine az_E.br (c := ((I 65 2) - v2) < v5) (tt := 30) (ff := 26) (L' := [.ref 65, .int v2, .int v5]) (S' := []) (σ' := (97, I, J, R)) rfl (fun hc_775 => ?_) (fun hc_775 => ?_)
                      · rw [if_pos hc_775] at h
                        refine az_E.sn 1 (pc' := 31) (L' := [.ref 65, .int v2, .int v5]) (S' := [.int (0 : Int32)]) (σ' := (97, I, J, R)) rfl ?_
                        refine az_E.ret (v := some (.int (0 : Int32))) (σ' := (97, I, J, R)) rfl ?_
                        show az_E az_F ex 2 128 83 [.retAddr 0, .retAddr 0, .int v2, .retAddr 0, .int v4, .int v5, .ref 65, .ref 65] [.int (0 : Int32)] (97, I, J, R) _
                        refine az_E.br (c := (0 : Int32) = 0) (tt := 98) (ff := 86) (L' := [.retAddr 0, .retAddr 0, .int v2, .retAddr 0, .int v4, .int v5, .ref 65, .ref 65]) (S' := []) (σ' := (97, I, J, R)) rfl (fun _ => ?_) (fun hn => absurd (by decide) hn)
                        refine az_E.sn 1 (pc' := 100) (L' := [.retAddr 0, .retAddr 0, .int v2, .retAddr 0, .int v4, .int v5, .ref 65, .ref 65]) (S' := [.int (-13 : Int32)]) (σ' := (97, I, J, R)) rfl ?_
                        have h := Option.some.inj h
                        subst h
                        exact az_E.ret (v := some (.int (-13 : Int32))) (σ' := (97, I, J, R)) rfl hQ
                      · rw [if_neg hc_775] at h
                        refine az_E.sn 2 (pc' := 31) (L' := [.ref 65, .int v2, .int v5]) (S' := [.int (1 : Int32)]) (σ' := (97, I, J, R)) rfl ?_
                        refine az_E.ret (v := some (.int (1 : Int32))) (σ' := (97, I, J, R)) rfl ?_
                        show az_E az_F ex 2 128 83 [.retAddr 0, .retAddr 0, .int v2, .retAddr 0, .int v4, .int v5, .ref 65, .ref 65] [.int (1 : Int32)] (97, I, J, R) _
                        refine az_E.br (c := (1 : Int32) = 0) (tt := 98) (ff := 86) (L' := [.retAddr 0, .retAddr 0, .int v2, .retAddr 0, .int v4, .int v5, .ref 65, .ref 65]) (S' := []) (σ' := (97, I, J, R)) rfl (fun hn => absurd hn (by decide)) (fun _ => ?_)
                        refine az_E.sn 3 (pc' := 92) (L' := [.retAddr 0, .retAddr 0, .int v2, .retAddr 0, .int v4, .int v5, .ref 65, .ref 65]) (S' := [.int v5, .int v4, .ref 65]) (σ' := (97, I, J, R)) rfl ?_
                        refine az_E.call (d := 1) (k' := 60) (vs := [.ref 65, .int v4, .int v5]) (pc' := 95) (S' := []) rfl ?_ (fun _ _ hq => hq)
                        show az_E az_F ex 1 60 0 [.ref 65, .int v4, .int v5] [] (97, I, J, R) _
                        refine az_E.sn 1 (pc' := 1) (L' := [.ref 65, .int v4, .int v5]) (S' := [.int v4]) (σ' := (97, I, J, R)) rfl ?_
                        refine az_E.br (c := v4 < 0) (tt := 30) (ff := 4) (L' := [.ref 65, .int v4, .int v5]) (S' := []) (σ' := (97, I, J, R)) rfl (fun hc_776 => ?_) (fun hc_776 => ?_)
                        · rw [if_pos hc_776] at h
                          refine az_E.sn 1 (pc' := 31) (L' := [.ref 65, .int v4, .int v5]) (S' := [.int (0 : Int32)]) (σ' := (97, I, J, R)) rfl ?_
                          refine az_E.ret (v := some (.int (0 : Int32))) (σ' := (97, I, J, R)) rfl ?_
                          show az_E az_F ex 2 128 95 [.retAddr 0, .retAddr 0, .int v2, .retAddr 0, .int v4, .int v5, .ref 65, .ref 65] [.int (0 : Int32)] (97, I, J, R) _
                          refine az_E.br (c := (0 : Int32) = 0) (tt := 98) (ff := 101) (L' := [.retAddr 0, .retAddr 0, .int v2, .retAddr 0, .int v4, .int v5, .ref 65, .ref 65]) (S' := []) (σ' := (97, I, J, R)) rfl (fun _ => ?_) (fun hn => absurd (by decide) hn)
                          refine az_E.sn 1 (pc' := 100) (L' := [.retAddr 0, .retAddr 0, .int v2, .retAddr 0, .int v4, .int v5, .ref 65, .ref 65]) (S' := [.int (-13 : Int32)]) (σ' := (97, I, J, R)) rfl ?_
                          have h := Option.some.inj h
                          subst h
                          exact az_E.ret (v := some (.int (-13 : Int32))) (σ' := (97, I, J, R)) rfl hQ
                        · rw [if_neg hc_776] at h
                          refine az_E.sn 1 (pc' := 5) (L' := [.ref 65, .int v4, .int v5]) (S' := [.int v5]) (σ' := (97, I, J, R)) rfl ?_
                          refine az_E.br (c := v5 < 0) (tt := 30) (ff := 8) (L' := [.ref 65, .int v4, .int v5]) (S' := []) (σ' := (97, I, J, R)) rfl (fun hc_777 => ?_) (fun hc_777 => ?_)
                          · rw [if_pos hc_777] at h
                            refine az_E.sn 1 (pc' := 31) (L' := [.ref 65, .int v4, .int v5]) (S' := [.int (0 : Int32)]) (σ' := (97, I, J, R)) rfl ?_
                            refine az_E.ret (v := some (.int (0 : Int32))) (σ' := (97, I, J, R)) rfl ?_
                            show az_E az_F ex 2 128 95 [.retAddr 0, .retAddr 0, .int v2, .retAddr 0, .int v4, .int v5, .ref 65, .ref 65] [.int (0 : Int32)] (97, I, J, R) _
                            refine az_E.br (c := (0 : Int32) = 0) (tt := 98) (ff := 101) (L' := [.retAddr 0, .retAddr 0, .int v2, .retAddr 0, .int v4, .int v5, .ref 65, .ref 65]) (S' := []) (σ' := (97, I, J, R)) rfl (fun _ => ?_) (fun hn => absurd (by decide) hn)
                            refine az_E.sn 1 (pc' := 100) (L' := [.retAddr 0, .retAddr 0, .int v2, .retAddr 0, .int v4, .int v5, .ref 65, .ref 65]) (S' := [.int (-13 : Int32)]) (σ' := (97, I, J, R)) rfl ?_
                            have h := Option.some.inj h
                            subst h
                            exact az_E.ret (v := some (.int (-13 : Int32))) (σ' := (97, I, J, R)) rfl hQ
                          · rw [if_neg hc_777] at h
                            refine az_E.sn 3 (pc' := 13) (L' := [.ref 65, .int v4, .int v5]) (S' := [.int (I 65 2), .int v4]) (σ' := (97, I, J, R)) rfl ?_
                            refine az_E.br (c := (I 65 2) < v4) (tt := 30) (ff := 16) (L' := [.ref 65, .int v4, .int v5]) (S' := []) (σ' := (97, I, J, R)) rfl (fun hc_778 => ?_) (fun hc_778 => ?_)
                            · rw [if_pos hc_778] at h
                              refine az_E.sn 1 (pc' := 31) (L' := [.ref 65, .int v4, .int v5]) (S' := [.int (0 : Int32)]) (σ' := (97, I, J, R)) rfl ?_
                              refine az_E.ret (v := some (.int (0 : Int32))) (σ' := (97, I, J, R)) rfl ?_
                              show az_E az_F ex 2 128 95 [.retAddr 0, .retAddr 0, .int v2, .retAddr 0, .int v4, .int v5, .ref 65, .ref 65] [.int (0 : Int32)] (97, I, J, R) _
                              refine az_E.br (c := (0 : Int32) = 0) (tt := 98) (ff := 101) (L' := [.retAddr 0, .retAddr 0, .int v2, .retAddr 0, .int v4, .int v5, .ref 65, .ref 65]) (S' := []) (σ' := (97, I, J, R)) rfl (fun _ => ?_) (fun hn => absurd (by decide) hn)
                              refine az_E.sn 1 (pc' := 100) (L' := [.retAddr 0, .retAddr 0, .int v2, .retAddr 0, .int v4, .int v5, .ref 65, .ref 65]) (S' := [.int (-13 : Int32)]) (σ' := (97, I, J, R)) rfl ?_
                              have h := Option.some.inj h
                              subst h
                              exact az_E.ret (v := some (.int (-13 : Int32))) (σ' := (97, I, J, R)) rfl hQ
                            · rw [if_neg hc_778] at h
                              refine az_E.sn 5 (pc' := 23) (L' := [.ref 65, .int v4, .int v5]) (S' := [.int ((I 65 2) - v4), .int v5]) (σ' := (97, I, J, R)) rfl ?_
                              refine az_E.br (c := ((I 65 2) - v4) < v5) (tt := 30) (ff := 26) (L' := [.ref 65, .int v4, .int v5]) (S' := []) (σ' := (97, I, J, R)) rfl (fun hc_779 => ?_) (fun hc_779 => ?_)
                              · rw [if_pos hc_779] at h
                                refine az_E.sn 1 (pc' := 31) (L' := [.ref 65, .int v4, .int v5]) (S' := [.int (0 : Int32)]) (σ' := (97, I, J, R)) rfl ?_
                                refine az_E.ret (v := some (.int (0 : Int32))) (σ' := (97, I, J, R)) rfl ?_
                                show az_E az_F ex 2 128 95 [.retAddr 0, .retAddr 0, .int v2, .retAddr 0, .int v4, .int v5, .ref 65, .ref 65] [.int (0 : Int32)] (97, I, J, R) _
                                refine az_E.br (c := (0 : Int32) = 0) (tt := 98) (ff := 101) (L' := [.retAddr 0, .retAddr 0, .int v2, .retAddr 0, .int v4, .int v5, .ref 65, .ref 65]) (S' := []) (σ' := (97, I, J, R)) rfl (fun _ => ?_) (fun hn => absurd (by decide) hn)
                                refine az_E.sn 1 (pc' := 100) (L' := [.retAddr 0, .retAddr 0, .int v2, .retAddr 0, .int v4, .int v5, .ref 65, .ref 65]) (S' := [.int (-13 : Int32)]) (σ' := (97, I, J, R)) rfl ?_
                                have h := Option.some.inj h
                                subst h
                                exact az_E.ret (v := some (.int (-13 : Int32))) (σ' := (97, I, J, R)) rfl hQ
                              · rw [if_neg hc_779] at h
                                refine az_E.sn 2 (pc' := 31) (L' := [.ref 65, .int v4, .int v5]) (S' := [.int (1 : Int32)]) (σ' := (97, I, J, R)) rfl ?_
                                refine az_E.ret (v := some (.int (1 : Int32))) (σ' := (97, I, J, R)) rfl ?_
                                show az_E az_F ex 2 128 95 [.retAddr 0, .retAddr 0, .int v2, .retAddr 0, .int v4, .int v5, .ref 65, .ref 65] [.int (1 : Int32)] (97, I, J, R) _
                                refine az_E.br (c := (1 : Int32) = 0) (tt := 98) (ff := 101) (L' := [.retAddr 0, .retAddr 0, .int v2, .retAddr 0, .int v4, .int v5, .ref 65, .ref 65]) (S' := []) (σ' := (97, I, J, R)) rfl (fun hn => absurd hn (by decide)) (fun _ => ?_)
                                refine az_E.sn 7 (pc' := 116) (L' := [.retAddr 0, .retAddr 0, .int v2, .retAddr 0, .int v4, .int v5, .ref 65, .ref 65]) (S' := [.int v5, .int v4, .ref (65 + 1), .int v2, .ref (65 + 1)]) (σ' := (97, I, J, R)) rfl ?_
                                by_cases hc_780 : v2 < 0 ∨ v4 < 0 ∨ v5 < 0 ∨ 60 < v2.toNatClampNeg + v5.toNatClampNeg ∨ 60 < v4.toNatClampNeg + v5.toNatClampNeg
                                · rw [if_pos hc_780] at h; cases h
                                · rw [if_neg hc_780] at h
                                  refine az_E.o (o := az_cp az_F (97, I, J, R) (65 + 1) v2 (65 + 1) v4 v5) (pc' := 119) (L' := [.retAddr 0, .retAddr 0, .int v2, .retAddr 0, .int v4, .int v5, .ref 65, .ref 65]) (S' := []) (x := (97, I, (az_ur J (65 + 1) (va_cpy (J (65 + 1)) (J (65 + 1)) v2.toNatClampNeg v4.toNatClampNeg v5.toNatClampNeg)), R)) rfl (if_neg hc_780) ?_
                                  refine az_E.sn 1 (pc' := 121) (L' := [.retAddr 0, .retAddr 0, .int v2, .retAddr 0, .int v4, .int v5, .ref 65, .ref 65]) (S' := [.int v5]) (σ' := (97, I, (az_ur J (65 + 1) (va_cpy (J (65 + 1)) (J (65 + 1)) v2.toNatClampNeg v4.toNatClampNeg v5.toNatClampNeg)), R)) rfl ?_
                                  have h := Option.some.inj h
                                  subst h
                                  exact az_E.ret (v := some (.int v5)) (σ' := (97, I, (az_ur J (65 + 1) (va_cpy (J (65 + 1)) (J (65 + 1)) v2.toNatClampNeg v4.toNatClampNeg v5.toNatClampNeg)), R)) rfl hQ
              · rw [if_neg hc_771] at h
                refine az_E.sn 1 (pc' := 20) (L' := [.ref 65, .int (I 65 1)]) (S' := [.int (0 : Int32)]) (σ' := (97, I, J, R)) rfl ?_
                refine az_E.ret (v := some (.int (0 : Int32))) (σ' := (97, I, J, R)) rfl ?_
                show az_E az_F ex 2 128 69 [.retAddr 0, .retAddr 0, .int v2, .retAddr 0, .int v4, .int v5, .ref 65, .ref 65] [.int (0 : Int32)] (97, I, J, R) _
                refine az_E.br (c := (0 : Int32) = 0) (tt := 72) (ff := 75) (L' := [.retAddr 0, .retAddr 0, .int v2, .retAddr 0, .int v4, .int v5, .ref 65, .ref 65]) (S' := []) (σ' := (97, I, J, R)) rfl (fun _ => ?_) (fun hn => absurd (by decide) hn)
                refine az_E.sn 1 (pc' := 74) (L' := [.retAddr 0, .retAddr 0, .int v2, .retAddr 0, .int v4, .int v5, .ref 65, .ref 65]) (S' := [.int (-12 : Int32)]) (σ' := (97, I, J, R)) rfl ?_
                have h := Option.some.inj h
                subst h
                exact az_E.ret (v := some (.int (-12 : Int32))) (σ' := (97, I, J, R)) rfl hQ
      · rw [if_neg hc_767] at h
        refine az_E.sn 1 (pc' := 21) (L' := [.ref 65]) (S' := [.int (0 : Int32)]) (σ' := (97, I, J, R)) rfl ?_
        refine az_E.ret (v := some (.int (0 : Int32))) (σ' := (97, I, J, R)) rfl ?_
        show az_E az_F ex 2 128 45 [.retAddr 0, .retAddr 0, .int v2, .retAddr 0, .int v4, .int v5, .ref 65, .ref 65] [.int (0 : Int32)] (97, I, J, R) _
        refine az_E.br (c := (0 : Int32) = 0) (tt := 51) (ff := 48) (L' := [.retAddr 0, .retAddr 0, .int v2, .retAddr 0, .int v4, .int v5, .ref 65, .ref 65]) (S' := []) (σ' := (97, I, J, R)) rfl (fun _ => ?_) (fun hn => absurd (by decide) hn)
        refine az_E.sn 1 (pc' := 53) (L' := [.retAddr 0, .retAddr 0, .int v2, .retAddr 0, .int v4, .int v5, .ref 65, .ref 65]) (S' := [.ref 65]) (σ' := (97, I, J, R)) rfl ?_
        refine az_E.call (d := 1) (k' := 55) (vs := [.ref 65]) (pc' := 56) (S' := []) rfl ?_ (fun _ _ hq => hq)
        show az_E az_F ex 1 55 0 [.ref 65] [] (97, I, J, R) _
        refine az_E.sn 3 (pc' := 5) (L' := [.ref 65]) (S' := [.int (-1 : Int32), .int (I 65 1)]) (σ' := (97, I, J, R)) rfl ?_
        refine az_E.br (c := (I 65 1) = (-1 : Int32)) (tt := 12) (ff := 8) (L' := [.ref 65]) (S' := []) (σ' := (97, I, J, R)) rfl (fun hc_781 => ?_) (fun hc_781 => ?_)
        · rw [if_pos hc_781] at h
          refine az_E.sn 1 (pc' := 13) (L' := [.ref 65]) (S' := [.int (0 : Int32)]) (σ' := (97, I, J, R)) rfl ?_
          refine az_E.ret (v := some (.int (0 : Int32))) (σ' := (97, I, J, R)) rfl ?_
          show az_E az_F ex 2 128 56 [.retAddr 0, .retAddr 0, .int v2, .retAddr 0, .int v4, .int v5, .ref 65, .ref 65] [.int (0 : Int32)] (97, I, J, R) _
          refine az_E.br (c := (0 : Int32) = 0) (tt := 72) (ff := 59) (L' := [.retAddr 0, .retAddr 0, .int v2, .retAddr 0, .int v4, .int v5, .ref 65, .ref 65]) (S' := []) (σ' := (97, I, J, R)) rfl (fun _ => ?_) (fun hn => absurd (by decide) hn)
          refine az_E.sn 1 (pc' := 74) (L' := [.retAddr 0, .retAddr 0, .int v2, .retAddr 0, .int v4, .int v5, .ref 65, .ref 65]) (S' := [.int (-12 : Int32)]) (σ' := (97, I, J, R)) rfl ?_
          have h := Option.some.inj h
          subst h
          exact az_E.ret (v := some (.int (-12 : Int32))) (σ' := (97, I, J, R)) rfl hQ
        · rw [if_neg hc_781] at h
          refine az_E.sn 2 (pc' := 13) (L' := [.ref 65]) (S' := [.int (1 : Int32)]) (σ' := (97, I, J, R)) rfl ?_
          refine az_E.ret (v := some (.int (1 : Int32))) (σ' := (97, I, J, R)) rfl ?_
          show az_E az_F ex 2 128 56 [.retAddr 0, .retAddr 0, .int v2, .retAddr 0, .int v4, .int v5, .ref 65, .ref 65] [.int (1 : Int32)] (97, I, J, R) _
          refine az_E.br (c := (1 : Int32) = 0) (tt := 72) (ff := 59) (L' := [.retAddr 0, .retAddr 0, .int v2, .retAddr 0, .int v4, .int v5, .ref 65, .ref 65]) (S' := []) (σ' := (97, I, J, R)) rfl (fun hn => absurd hn (by decide)) (fun _ => ?_)
          refine az_E.sn 3 (pc' := 66) (L' := [.retAddr 0, .retAddr 0, .int v2, .retAddr 0, .int v4, .int v5, .ref 65, .ref 65]) (S' := [.int (I 65 1), .ref 65]) (σ' := (97, I, J, R)) rfl ?_
          refine az_E.call (d := 1) (k' := 56) (vs := [.ref 65, .int (I 65 1)]) (pc' := 69) (S' := []) rfl ?_ (fun _ _ hq => hq)
          show az_E az_F ex 1 56 0 [.ref 65, .int (I 65 1)] [] (97, I, J, R) _
          refine az_E.sn 1 (pc' := 1) (L' := [.ref 65, .int (I 65 1)]) (S' := [.ref 65]) (σ' := (97, I, J, R)) rfl ?_
          refine az_E.call (d := 0) (k' := 55) (vs := [.ref 65]) (pc' := 4) (S' := []) rfl ?_ (fun _ _ hq => hq)
          show az_E az_F ex 0 55 0 [.ref 65] [] (97, I, J, R) _
          refine az_E.sn 3 (pc' := 5) (L' := [.ref 65]) (S' := [.int (-1 : Int32), .int (I 65 1)]) (σ' := (97, I, J, R)) rfl ?_
          refine az_E.br (c := (I 65 1) = (-1 : Int32)) (tt := 12) (ff := 8) (L' := [.ref 65]) (S' := []) (σ' := (97, I, J, R)) rfl (fun hc_782 => ?_) (fun hc_782 => ?_)
          · rw [if_pos hc_782] at h
            refine az_E.sn 1 (pc' := 13) (L' := [.ref 65]) (S' := [.int (0 : Int32)]) (σ' := (97, I, J, R)) rfl ?_
            refine az_E.ret (v := some (.int (0 : Int32))) (σ' := (97, I, J, R)) rfl ?_
            show az_E az_F ex 1 56 4 [.ref 65, .int (I 65 1)] [.int (0 : Int32)] (97, I, J, R) _
            refine az_E.br (c := (0 : Int32) = 0) (tt := 19) (ff := 7) (L' := [.ref 65, .int (I 65 1)]) (S' := []) (σ' := (97, I, J, R)) rfl (fun _ => ?_) (fun hn => absurd (by decide) hn)
            refine az_E.sn 1 (pc' := 20) (L' := [.ref 65, .int (I 65 1)]) (S' := [.int (0 : Int32)]) (σ' := (97, I, J, R)) rfl ?_
            refine az_E.ret (v := some (.int (0 : Int32))) (σ' := (97, I, J, R)) rfl ?_
            show az_E az_F ex 2 128 69 [.retAddr 0, .retAddr 0, .int v2, .retAddr 0, .int v4, .int v5, .ref 65, .ref 65] [.int (0 : Int32)] (97, I, J, R) _
            refine az_E.br (c := (0 : Int32) = 0) (tt := 72) (ff := 75) (L' := [.retAddr 0, .retAddr 0, .int v2, .retAddr 0, .int v4, .int v5, .ref 65, .ref 65]) (S' := []) (σ' := (97, I, J, R)) rfl (fun _ => ?_) (fun hn => absurd (by decide) hn)
            refine az_E.sn 1 (pc' := 74) (L' := [.retAddr 0, .retAddr 0, .int v2, .retAddr 0, .int v4, .int v5, .ref 65, .ref 65]) (S' := [.int (-12 : Int32)]) (σ' := (97, I, J, R)) rfl ?_
            have h := Option.some.inj h
            subst h
            exact az_E.ret (v := some (.int (-12 : Int32))) (σ' := (97, I, J, R)) rfl hQ
          · rw [if_neg hc_782] at h
            refine az_E.sn 2 (pc' := 13) (L' := [.ref 65]) (S' := [.int (1 : Int32)]) (σ' := (97, I, J, R)) rfl ?_
            refine az_E.ret (v := some (.int (1 : Int32))) (σ' := (97, I, J, R)) rfl ?_
            show az_E az_F ex 1 56 4 [.ref 65, .int (I 65 1)] [.int (1 : Int32)] (97, I, J, R) _
            refine az_E.br (c := (1 : Int32) = 0) (tt := 19) (ff := 7) (L' := [.ref 65, .int (I 65 1)]) (S' := []) (σ' := (97, I, J, R)) rfl (fun hn => absurd hn (by decide)) (fun _ => ?_)
            refine az_E.sn 3 (pc' := 12) (L' := [.ref 65, .int (I 65 1)]) (S' := [.int (I 65 1), .int (I 65 1)]) (σ' := (97, I, J, R)) rfl ?_
            refine az_E.br (c := (I 65 1) = (I 65 1)) (tt := 15) (ff := 19) (L' := [.ref 65, .int (I 65 1)]) (S' := []) (σ' := (97, I, J, R)) rfl (fun hc_783 => ?_) (fun hc_783 => ?_)
            · rw [if_pos hc_783] at h
              refine az_E.sn 2 (pc' := 20) (L' := [.ref 65, .int (I 65 1)]) (S' := [.int (1 : Int32)]) (σ' := (97, I, J, R)) rfl ?_
              refine az_E.ret (v := some (.int (1 : Int32))) (σ' := (97, I, J, R)) rfl ?_
              show az_E az_F ex 2 128 69 [.retAddr 0, .retAddr 0, .int v2, .retAddr 0, .int v4, .int v5, .ref 65, .ref 65] [.int (1 : Int32)] (97, I, J, R) _
              refine az_E.br (c := (1 : Int32) = 0) (tt := 72) (ff := 75) (L' := [.retAddr 0, .retAddr 0, .int v2, .retAddr 0, .int v4, .int v5, .ref 65, .ref 65]) (S' := []) (σ' := (97, I, J, R)) rfl (fun hn => absurd hn (by decide)) (fun _ => ?_)
              refine az_E.sn 3 (pc' := 80) (L' := [.retAddr 0, .retAddr 0, .int v2, .retAddr 0, .int v4, .int v5, .ref 65, .ref 65]) (S' := [.int v5, .int v2, .ref 65]) (σ' := (97, I, J, R)) rfl ?_
              refine az_E.call (d := 1) (k' := 60) (vs := [.ref 65, .int v2, .int v5]) (pc' := 83) (S' := []) rfl ?_ (fun _ _ hq => hq)
              show az_E az_F ex 1 60 0 [.ref 65, .int v2, .int v5] [] (97, I, J, R) _
              refine az_E.sn 1 (pc' := 1) (L' := [.ref 65, .int v2, .int v5]) (S' := [.int v2]) (σ' := (97, I, J, R)) rfl ?_
              refine az_E.br (c := v2 < 0) (tt := 30) (ff := 4) (L' := [.ref 65, .int v2, .int v5]) (S' := []) (σ' := (97, I, J, R)) rfl (fun hc_784 => ?_) (fun hc_784 => ?_)
              · rw [if_pos hc_784] at h
                refine az_E.sn 1 (pc' := 31) (L' := [.ref 65, .int v2, .int v5]) (S' := [.int (0 : Int32)]) (σ' := (97, I, J, R)) rfl ?_
                refine az_E.ret (v := some (.int (0 : Int32))) (σ' := (97, I, J, R)) rfl ?_
                show az_E az_F ex 2 128 83 [.retAddr 0, .retAddr 0, .int v2, .retAddr 0, .int v4, .int v5, .ref 65, .ref 65] [.int (0 : Int32)] (97, I, J, R) _
                refine az_E.br (c := (0 : Int32) = 0) (tt := 98) (ff := 86) (L' := [.retAddr 0, .retAddr 0, .int v2, .retAddr 0, .int v4, .int v5, .ref 65, .ref 65]) (S' := []) (σ' := (97, I, J, R)) rfl (fun _ => ?_) (fun hn => absurd (by decide) hn)
                refine az_E.sn 1 (pc' := 100) (L' := [.retAddr 0, .retAddr 0, .int v2, .retAddr 0, .int v4, .int v5, .ref 65, .ref 65]) (S' := [.int (-13 : Int32)]) (σ' := (97, I, J, R)) rfl ?_
                have h := Option.some.inj h
                subst h
                exact az_E.ret (v := some (.int (-13 : Int32))) (σ' := (97, I, J, R)) rfl hQ
              · rw [if_neg hc_784] at h
                refine az_E.sn 1 (pc' := 5) (L' := [.ref 65, .int v2, .int v5]) (S' := [.int v5]) (σ' := (97, I, J, R)) rfl ?_
                refine az_E.br (c := v5 < 0) (tt := 30) (ff := 8) (L' := [.ref 65, .int v2, .int v5]) (S' := []) (σ' := (97, I, J, R)) rfl (fun hc_785 => ?_) (fun hc_785 => ?_)
                · rw [if_pos hc_785] at h
                  refine az_E.sn 1 (pc' := 31) (L' := [.ref 65, .int v2, .int v5]) (S' := [.int (0 : Int32)]) (σ' := (97, I, J, R)) rfl ?_
                  refine az_E.ret (v := some (.int (0 : Int32))) (σ' := (97, I, J, R)) rfl ?_
                  show az_E az_F ex 2 128 83 [.retAddr 0, .retAddr 0, .int v2, .retAddr 0, .int v4, .int v5, .ref 65, .ref 65] [.int (0 : Int32)] (97, I, J, R) _
                  refine az_E.br (c := (0 : Int32) = 0) (tt := 98) (ff := 86) (L' := [.retAddr 0, .retAddr 0, .int v2, .retAddr 0, .int v4, .int v5, .ref 65, .ref 65]) (S' := []) (σ' := (97, I, J, R)) rfl (fun _ => ?_) (fun hn => absurd (by decide) hn)
                  refine az_E.sn 1 (pc' := 100) (L' := [.retAddr 0, .retAddr 0, .int v2, .retAddr 0, .int v4, .int v5, .ref 65, .ref 65]) (S' := [.int (-13 : Int32)]) (σ' := (97, I, J, R)) rfl ?_
                  have h := Option.some.inj h
                  subst h
                  exact az_E.ret (v := some (.int (-13 : Int32))) (σ' := (97, I, J, R)) rfl hQ
                · rw [if_neg hc_785] at h
                  refine az_E.sn 3 (pc' := 13) (L' := [.ref 65, .int v2, .int v5]) (S' := [.int (I 65 2), .int v2]) (σ' := (97, I, J, R)) rfl ?_
                  refine az_E.br (c := (I 65 2) < v2) (tt := 30) (ff := 16) (L' := [.ref 65, .int v2, .int v5]) (S' := []) (σ' := (97, I, J, R)) rfl (fun hc_786 => ?_) (fun hc_786 => ?_)
                  · rw [if_pos hc_786] at h
                    refine az_E.sn 1 (pc' := 31) (L' := [.ref 65, .int v2, .int v5]) (S' := [.int (0 : Int32)]) (σ' := (97, I, J, R)) rfl ?_
                    refine az_E.ret (v := some (.int (0 : Int32))) (σ' := (97, I, J, R)) rfl ?_
                    show az_E az_F ex 2 128 83 [.retAddr 0, .retAddr 0, .int v2, .retAddr 0, .int v4, .int v5, .ref 65, .ref 65] [.int (0 : Int32)] (97, I, J, R) _
                    refine az_E.br (c := (0 : Int32) = 0) (tt := 98) (ff := 86) (L' := [.retAddr 0, .retAddr 0, .int v2, .retAddr 0, .int v4, .int v5, .ref 65, .ref 65]) (S' := []) (σ' := (97, I, J, R)) rfl (fun _ => ?_) (fun hn => absurd (by decide) hn)
                    refine az_E.sn 1 (pc' := 100) (L' := [.retAddr 0, .retAddr 0, .int v2, .retAddr 0, .int v4, .int v5, .ref 65, .ref 65]) (S' := [.int (-13 : Int32)]) (σ' := (97, I, J, R)) rfl ?_
                    have h := Option.some.inj h
                    subst h
                    exact az_E.ret (v := some (.int (-13 : Int32))) (σ' := (97, I, J, R)) rfl hQ
                  · rw [if_neg hc_786] at h
                    refine az_E.sn 5 (pc' := 23) (L' := [.ref 65, .int v2, .int v5]) (S' := [.int ((I 65 2) - v2), .int v5]) (σ' := (97, I, J, R)) rfl ?_
                    refine az_E.br (c := ((I 65 2) - v2) < v5) (tt := 30) (ff := 26) (L' := [.ref 65, .int v2, .int v5]) (S' := []) (σ' := (97, I, J, R)) rfl (fun hc_787 => ?_) (fun hc_787 => ?_)
                    · rw [if_pos hc_787] at h
                      refine az_E.sn 1 (pc' := 31) (L' := [.ref 65, .int v2, .int v5]) (S' := [.int (0 : Int32)]) (σ' := (97, I, J, R)) rfl ?_
                      refine az_E.ret (v := some (.int (0 : Int32))) (σ' := (97, I, J, R)) rfl ?_
                      show az_E az_F ex 2 128 83 [.retAddr 0, .retAddr 0, .int v2, .retAddr 0, .int v4, .int v5, .ref 65, .ref 65] [.int (0 : Int32)] (97, I, J, R) _
                      refine az_E.br (c := (0 : Int32) = 0) (tt := 98) (ff := 86) (L' := [.retAddr 0, .retAddr 0, .int v2, .retAddr 0, .int v4, .int v5, .ref 65, .ref 65]) (S' := []) (σ' := (97, I, J, R)) rfl (fun _ => ?_) (fun hn => absurd (by decide) hn)
                      refine az_E.sn 1 (pc' := 100) (L' := [.retAddr 0, .retAddr 0, .int v2, .retAddr 0, .int v4, .int v5, .ref 65, .ref 65]) (S' := [.int (-13 : Int32)]) (σ' := (97, I, J, R)) rfl ?_
                      have h := Option.some.inj h
                      subst h
                      exact az_E.ret (v := some (.int (-13 : Int32))) (σ' := (97, I, J, R)) rfl hQ
                    · rw [if_neg hc_787] at h
                      refine az_E.sn 2 (pc' := 31) (L' := [.ref 65, .int v2, .int v5]) (S' := [.int (1 : Int32)]) (σ' := (97, I, J, R)) rfl ?_
                      refine az_E.ret (v := some (.int (1 : Int32))) (σ' := (97, I, J, R)) rfl ?_
                      show az_E az_F ex 2 128 83 [.retAddr 0, .retAddr 0, .int v2, .retAddr 0, .int v4, .int v5, .ref 65, .ref 65] [.int (1 : Int32)] (97, I, J, R) _
                      refine az_E.br (c := (1 : Int32) = 0) (tt := 98) (ff := 86) (L' := [.retAddr 0, .retAddr 0, .int v2, .retAddr 0, .int v4, .int v5, .ref 65, .ref 65]) (S' := []) (σ' := (97, I, J, R)) rfl (fun hn => absurd hn (by decide)) (fun _ => ?_)
                      refine az_E.sn 3 (pc' := 92) (L' := [.retAddr 0, .retAddr 0, .int v2, .retAddr 0, .int v4, .int v5, .ref 65, .ref 65]) (S' := [.int v5, .int v4, .ref 65]) (σ' := (97, I, J, R)) rfl ?_
                      refine az_E.call (d := 1) (k' := 60) (vs := [.ref 65, .int v4, .int v5]) (pc' := 95) (S' := []) rfl ?_ (fun _ _ hq => hq)
                      show az_E az_F ex 1 60 0 [.ref 65, .int v4, .int v5] [] (97, I, J, R) _
                      refine az_E.sn 1 (pc' := 1) (L' := [.ref 65, .int v4, .int v5]) (S' := [.int v4]) (σ' := (97, I, J, R)) rfl ?_
                      refine az_E.br (c := v4 < 0) (tt := 30) (ff := 4) (L' := [.ref 65, .int v4, .int v5]) (S' := []) (σ' := (97, I, J, R)) rfl (fun hc_788 => ?_) (fun hc_788 => ?_)
                      · rw [if_pos hc_788] at h
                        refine az_E.sn 1 (pc' := 31) (L' := [.ref 65, .int v4, .int v5]) (S' := [.int (0 : Int32)]) (σ' := (97, I, J, R)) rfl ?_
                        refine az_E.ret (v := some (.int (0 : Int32))) (σ' := (97, I, J, R)) rfl ?_
                        show az_E az_F ex 2 128 95 [.retAddr 0, .retAddr 0, .int v2, .retAddr 0, .int v4, .int v5, .ref 65, .ref 65] [.int (0 : Int32)] (97, I, J, R) _
                        refine az_E.br (c := (0 : Int32) = 0) (tt := 98) (ff := 101) (L' := [.retAddr 0, .retAddr 0, .int v2, .retAddr 0, .int v4, .int v5, .ref 65, .ref 65]) (S' := []) (σ' := (97, I, J, R)) rfl (fun _ => ?_) (fun hn => absurd (by decide) hn)
                        refine az_E.sn 1 (pc' := 100) (L' := [.retAddr 0, .retAddr 0, .int v2, .retAddr 0, .int v4, .int v5, .ref 65, .ref 65]) (S' := [.int (-13 : Int32)]) (σ' := (97, I, J, R)) rfl ?_
                        have h := Option.some.inj h
                        subst h
                        exact az_E.ret (v := some (.int (-13 : Int32))) (σ' := (97, I, J, R)) rfl hQ
                      · rw [if_neg hc_788] at h
                        refine az_E.sn 1 (pc' := 5) (L' := [.ref 65, .int v4, .int v5]) (S' := [.int v5]) (σ' := (97, I, J, R)) rfl ?_
                        refine az_E.br (c := v5 < 0) (tt := 30) (ff := 8) (L' := [.ref 65, .int v4, .int v5]) (S' := []) (σ' := (97, I, J, R)) rfl (fun hc_789 => ?_) (fun hc_789 => ?_)
                        · rw [if_pos hc_789] at h
                          refine az_E.sn 1 (pc' := 31) (L' := [.ref 65, .int v4, .int v5]) (S' := [.int (0 : Int32)]) (σ' := (97, I, J, R)) rfl ?_
                          refine az_E.ret (v := some (.int (0 : Int32))) (σ' := (97, I, J, R)) rfl ?_
                          show az_E az_F ex 2 128 95 [.retAddr 0, .retAddr 0, .int v2, .retAddr 0, .int v4, .int v5, .ref 65, .ref 65] [.int (0 : Int32)] (97, I, J, R) _
                          refine az_E.br (c := (0 : Int32) = 0) (tt := 98) (ff := 101) (L' := [.retAddr 0, .retAddr 0, .int v2, .retAddr 0, .int v4, .int v5, .ref 65, .ref 65]) (S' := []) (σ' := (97, I, J, R)) rfl (fun _ => ?_) (fun hn => absurd (by decide) hn)
                          refine az_E.sn 1 (pc' := 100) (L' := [.retAddr 0, .retAddr 0, .int v2, .retAddr 0, .int v4, .int v5, .ref 65, .ref 65]) (S' := [.int (-13 : Int32)]) (σ' := (97, I, J, R)) rfl ?_
                          have h := Option.some.inj h
                          subst h
                          exact az_E.ret (v := some (.int (-13 : Int32))) (σ' := (97, I, J, R)) rfl hQ
                        · rw [if_neg hc_789] at h
                          refine az_E.sn 3 (pc' := 13) (L' := [.ref 65, .int v4, .int v5]) (S' := [.int (I 65 2), .int v4]) (σ' := (97, I, J, R)) rfl ?_
                          refine az_E.br (c := (I 65 2) < v4) (tt := 30) (ff := 16) (L' := [.ref 65, .int v4, .int v5]) (S' := []) (σ' := (97, I, J, R)) rfl (fun hc_790 => ?_) (fun hc_790 => ?_)
                          · rw [if_pos hc_790] at h
                            refine az_E.sn 1 (pc' := 31) (L' := [.ref 65, .int v4, .int v5]) (S' := [.int (0 : Int32)]) (σ' := (97, I, J, R)) rfl ?_
                            refine az_E.ret (v := some (.int (0 : Int32))) (σ' := (97, I, J, R)) rfl ?_
                            show az_E az_F ex 2 128 95 [.retAddr 0, .retAddr 0, .int v2, .retAddr 0, .int v4, .int v5, .ref 65, .ref 65] [.int (0 : Int32)] (97, I, J, R) _
                            refine az_E.br (c := (0 : Int32) = 0) (tt := 98) (ff := 101) (L' := [.retAddr 0, .retAddr 0, .int v2, .retAddr 0, .int v4, .int v5, .ref 65, .ref 65]) (S' := []) (σ' := (97, I, J, R)) rfl (fun _ => ?_) (fun hn => absurd (by decide) hn)
                            refine az_E.sn 1 (pc' := 100) (L' := [.retAddr 0, .retAddr 0, .int v2, .retAddr 0, .int v4, .int v5, .ref 65, .ref 65]) (S' := [.int (-13 : Int32)]) (σ' := (97, I, J, R)) rfl ?_
                            have h := Option.some.inj h
                            subst h
                            exact az_E.ret (v := some (.int (-13 : Int32))) (σ' := (97, I, J, R)) rfl hQ
                          · rw [if_neg hc_790] at h
                            refine az_E.sn 5 (pc' := 23) (L' := [.ref 65, .int v4, .int v5]) (S' := [.int ((I 65 2) - v4), .int v5]) (σ' := (97, I, J, R)) rfl ?_
                            refine az_E.br (c := ((I 65 2) - v4) < v5) (tt := 30) (ff := 26) (L' := [.ref 65, .int v4, .int v5]) (S' := []) (σ' := (97, I, J, R)) rfl (fun hc_791 => ?_) (fun hc_791 => ?_)
                            · rw [if_pos hc_791] at h
                              refine az_E.sn 1 (pc' := 31) (L' := [.ref 65, .int v4, .int v5]) (S' := [.int (0 : Int32)]) (σ' := (97, I, J, R)) rfl ?_
                              refine az_E.ret (v := some (.int (0 : Int32))) (σ' := (97, I, J, R)) rfl ?_
                              show az_E az_F ex 2 128 95 [.retAddr 0, .retAddr 0, .int v2, .retAddr 0, .int v4, .int v5, .ref 65, .ref 65] [.int (0 : Int32)] (97, I, J, R) _
                              refine az_E.br (c := (0 : Int32) = 0) (tt := 98) (ff := 101) (L' := [.retAddr 0, .retAddr 0, .int v2, .retAddr 0, .int v4, .int v5, .ref 65, .ref 65]) (S' := []) (σ' := (97, I, J, R)) rfl (fun _ => ?_) (fun hn => absurd (by decide) hn)
                              refine az_E.sn 1 (pc' := 100) (L' := [.retAddr 0, .retAddr 0, .int v2, .retAddr 0, .int v4, .int v5, .ref 65, .ref 65]) (S' := [.int (-13 : Int32)]) (σ' := (97, I, J, R)) rfl ?_
                              have h := Option.some.inj h
                              subst h
                              exact az_E.ret (v := some (.int (-13 : Int32))) (σ' := (97, I, J, R)) rfl hQ
                            · rw [if_neg hc_791] at h
                              refine az_E.sn 2 (pc' := 31) (L' := [.ref 65, .int v4, .int v5]) (S' := [.int (1 : Int32)]) (σ' := (97, I, J, R)) rfl ?_
                              refine az_E.ret (v := some (.int (1 : Int32))) (σ' := (97, I, J, R)) rfl ?_
                              show az_E az_F ex 2 128 95 [.retAddr 0, .retAddr 0, .int v2, .retAddr 0, .int v4, .int v5, .ref 65, .ref 65] [.int (1 : Int32)] (97, I, J, R) _
                              refine az_E.br (c := (1 : Int32) = 0) (tt := 98) (ff := 101) (L' := [.retAddr 0, .retAddr 0, .int v2, .retAddr 0, .int v4, .int v5, .ref 65, .ref 65]) (S' := []) (σ' := (97, I, J, R)) rfl (fun hn => absurd hn (by decide)) (fun _ => ?_)
                              refine az_E.sn 7 (pc' := 116) (L' := [.retAddr 0, .retAddr 0, .int v2, .retAddr 0, .int v4, .int v5, .ref 65, .ref 65]) (S' := [.int v5, .int v4, .ref (65 + 1), .int v2, .ref (65 + 1)]) (σ' := (97, I, J, R)) rfl ?_
                              by_cases hc_792 : v2 < 0 ∨ v4 < 0 ∨ v5 < 0 ∨ 60 < v2.toNatClampNeg + v5.toNatClampNeg ∨ 60 < v4.toNatClampNeg + v5.toNatClampNeg
                              · rw [if_pos hc_792] at h; cases h
                              · rw [if_neg hc_792] at h
                                refine az_E.o (o := az_cp az_F (97, I, J, R) (65 + 1) v2 (65 + 1) v4 v5) (pc' := 119) (L' := [.retAddr 0, .retAddr 0, .int v2, .retAddr 0, .int v4, .int v5, .ref 65, .ref 65]) (S' := []) (x := (97, I, (az_ur J (65 + 1) (va_cpy (J (65 + 1)) (J (65 + 1)) v2.toNatClampNeg v4.toNatClampNeg v5.toNatClampNeg)), R)) rfl (if_neg hc_792) ?_
                                refine az_E.sn 1 (pc' := 121) (L' := [.retAddr 0, .retAddr 0, .int v2, .retAddr 0, .int v4, .int v5, .ref 65, .ref 65]) (S' := [.int v5]) (σ' := (97, I, (az_ur J (65 + 1) (va_cpy (J (65 + 1)) (J (65 + 1)) v2.toNatClampNeg v4.toNatClampNeg v5.toNatClampNeg)), R)) rfl ?_
                                have h := Option.some.inj h
                                subst h
                                exact az_E.ret (v := some (.int v5)) (σ' := (97, I, (az_ur J (65 + 1) (va_cpy (J (65 + 1)) (J (65 + 1)) v2.toNatClampNeg v4.toNatClampNeg v5.toNatClampNeg)), R)) rfl hQ
            · rw [if_neg hc_783] at h
              refine az_E.sn 1 (pc' := 20) (L' := [.ref 65, .int (I 65 1)]) (S' := [.int (0 : Int32)]) (σ' := (97, I, J, R)) rfl ?_
              refine az_E.ret (v := some (.int (0 : Int32))) (σ' := (97, I, J, R)) rfl ?_
              show az_E az_F ex 2 128 69 [.retAddr 0, .retAddr 0, .int v2, .retAddr 0, .int v4, .int v5, .ref 65, .ref 65] [.int (0 : Int32)] (97, I, J, R) _
              refine az_E.br (c := (0 : Int32) = 0) (tt := 72) (ff := 75) (L' := [.retAddr 0, .retAddr 0, .int v2, .retAddr 0, .int v4, .int v5, .ref 65, .ref 65]) (S' := []) (σ' := (97, I, J, R)) rfl (fun _ => ?_) (fun hn => absurd (by decide) hn)
              refine az_E.sn 1 (pc' := 74) (L' := [.retAddr 0, .retAddr 0, .int v2, .retAddr 0, .int v4, .int v5, .ref 65, .ref 65]) (S' := [.int (-12 : Int32)]) (σ' := (97, I, J, R)) rfl ?_
              have h := Option.some.inj h
              subst h
              exact az_E.ret (v := some (.int (-12 : Int32))) (σ' := (97, I, J, R)) rfl hQ
  · rw [if_neg hc_765] at h
    refine az_E.sn 1 (pc' := 21) (L' := [.ref 65]) (S' := [.int (0 : Int32)]) (σ' := (97, I, J, R)) rfl ?_
    refine az_E.ret (v := some (.int (0 : Int32))) (σ' := (97, I, J, R)) rfl ?_
    show az_E az_F ex 2 128 37 [.retAddr 0, .retAddr 0, .int v2, .retAddr 0, .int v4, .int v5, .ref 65, .ref 65] [.int (0 : Int32)] (97, I, J, R) _
    refine az_E.br (c := (0 : Int32) = 0) (tt := 40) (ff := 48) (L' := [.retAddr 0, .retAddr 0, .int v2, .retAddr 0, .int v4, .int v5, .ref 65, .ref 65]) (S' := []) (σ' := (97, I, J, R)) rfl (fun _ => ?_) (fun hn => absurd (by decide) hn)
    refine az_E.sn 1 (pc' := 42) (L' := [.retAddr 0, .retAddr 0, .int v2, .retAddr 0, .int v4, .int v5, .ref 65, .ref 65]) (S' := [.ref 65]) (σ' := (97, I, J, R)) rfl ?_
    refine az_E.call (d := 1) (k' := 54) (vs := [.ref 65]) (pc' := 45) (S' := []) rfl ?_ (fun _ _ hq => hq)
    show az_E az_F ex 1 54 0 [.ref 65] [] (97, I, J, R) _
    refine az_E.sn 3 (pc' := 5) (L' := [.ref 65]) (S' := [.int (-1 : Int32), .int (I 65 0)]) (σ' := (97, I, J, R)) rfl ?_
    refine az_E.br (c := (I 65 0) = (-1 : Int32)) (tt := 8) (ff := 20) (L' := [.ref 65]) (S' := []) (σ' := (97, I, J, R)) rfl (fun hc_793 => ?_) (fun hc_793 => ?_)
    · rw [if_pos hc_793] at h
      refine az_E.sn 3 (pc' := 13) (L' := [.ref 65]) (S' := [.int (-1 : Int32), .int (I 65 1)]) (σ' := (97, I, J, R)) rfl ?_
      refine az_E.br (c := (I 65 1) = (-1 : Int32)) (tt := 16) (ff := 20) (L' := [.ref 65]) (S' := []) (σ' := (97, I, J, R)) rfl (fun hc_794 => ?_) (fun hc_794 => ?_)
      · rw [if_pos hc_794] at h
        refine az_E.sn 2 (pc' := 21) (L' := [.ref 65]) (S' := [.int (1 : Int32)]) (σ' := (97, I, J, R)) rfl ?_
        refine az_E.ret (v := some (.int (1 : Int32))) (σ' := (97, I, J, R)) rfl ?_
        show az_E az_F ex 2 128 45 [.retAddr 0, .retAddr 0, .int v2, .retAddr 0, .int v4, .int v5, .ref 65, .ref 65] [.int (1 : Int32)] (97, I, J, R) _
        refine az_E.br (c := (1 : Int32) = 0) (tt := 51) (ff := 48) (L' := [.retAddr 0, .retAddr 0, .int v2, .retAddr 0, .int v4, .int v5, .ref 65, .ref 65]) (S' := []) (σ' := (97, I, J, R)) rfl (fun hn => absurd hn (by decide)) (fun _ => ?_)
        refine az_E.sn 1 (pc' := 50) (L' := [.retAddr 0, .retAddr 0, .int v2, .retAddr 0, .int v4, .int v5, .ref 65, .ref 65]) (S' := [.int (-11 : Int32)]) (σ' := (97, I, J, R)) rfl ?_
        have h := Option.some.inj h
        subst h
        exact az_E.ret (v := some (.int (-11 : Int32))) (σ' := (97, I, J, R)) rfl hQ
      · rw [if_neg hc_794] at h
        refine az_E.sn 1 (pc' := 21) (L' := [.ref 65]) (S' := [.int (0 : Int32)]) (σ' := (97, I, J, R)) rfl ?_
        refine az_E.ret (v := some (.int (0 : Int32))) (σ' := (97, I, J, R)) rfl ?_
        show az_E az_F ex 2 128 45 [.retAddr 0, .retAddr 0, .int v2, .retAddr 0, .int v4, .int v5, .ref 65, .ref 65] [.int (0 : Int32)] (97, I, J, R) _
        refine az_E.br (c := (0 : Int32) = 0) (tt := 51) (ff := 48) (L' := [.retAddr 0, .retAddr 0, .int v2, .retAddr 0, .int v4, .int v5, .ref 65, .ref 65]) (S' := []) (σ' := (97, I, J, R)) rfl (fun _ => ?_) (fun hn => absurd (by decide) hn)
        refine az_E.sn 1 (pc' := 53) (L' := [.retAddr 0, .retAddr 0, .int v2, .retAddr 0, .int v4, .int v5, .ref 65, .ref 65]) (S' := [.ref 65]) (σ' := (97, I, J, R)) rfl ?_
        refine az_E.call (d := 1) (k' := 55) (vs := [.ref 65]) (pc' := 56) (S' := []) rfl ?_ (fun _ _ hq => hq)
        show az_E az_F ex 1 55 0 [.ref 65] [] (97, I, J, R) _
        refine az_E.sn 3 (pc' := 5) (L' := [.ref 65]) (S' := [.int (-1 : Int32), .int (I 65 1)]) (σ' := (97, I, J, R)) rfl ?_
        refine az_E.br (c := (I 65 1) = (-1 : Int32)) (tt := 12) (ff := 8) (L' := [.ref 65]) (S' := []) (σ' := (97, I, J, R)) rfl (fun hc_795 => ?_) (fun hc_795 => ?_)
        · rw [if_pos hc_795] at h
          refine az_E.sn 1 (pc' := 13) (L' := [.ref 65]) (S' := [.int (0 : Int32)]) (σ' := (97, I, J, R)) rfl ?_
          refine az_E.ret (v := some (.int (0 : Int32))) (σ' := (97, I, J, R)) rfl ?_
          show az_E az_F ex 2 128 56 [.retAddr 0, .retAddr 0, .int v2, .retAddr 0, .int v4, .int v5, .ref 65, .ref 65] [.int (0 : Int32)] (97, I, J, R) _
          refine az_E.br (c := (0 : Int32) = 0) (tt := 72) (ff := 59) (L' := [.retAddr 0, .retAddr 0, .int v2, .retAddr 0, .int v4, .int v5, .ref 65, .ref 65]) (S' := []) (σ' := (97, I, J, R)) rfl (fun _ => ?_) (fun hn => absurd (by decide) hn)
          refine az_E.sn 1 (pc' := 74) (L' := [.retAddr 0, .retAddr 0, .int v2, .retAddr 0, .int v4, .int v5, .ref 65, .ref 65]) (S' := [.int (-12 : Int32)]) (σ' := (97, I, J, R)) rfl ?_
          have h := Option.some.inj h
          subst h
          exact az_E.ret (v := some (.int (-12 : Int32))) (σ' := (97, I, J, R)) rfl hQ
        · rw [if_neg hc_795] at h
          refine az_E.sn 2 (pc' := 13) (L' := [.ref 65]) (S' := [.int (1 : Int32)]) (σ' := (97, I, J, R)) rfl ?_
          refine az_E.ret (v := some (.int (1 : Int32))) (σ' := (97, I, J, R)) rfl ?_
          show az_E az_F ex 2 128 56 [.retAddr 0, .retAddr 0, .int v2, .retAddr 0, .int v4, .int v5, .ref 65, .ref 65] [.int (1 : Int32)] (97, I, J, R) _
          refine az_E.br (c := (1 : Int32) = 0) (tt := 72) (ff := 59) (L' := [.retAddr 0, .retAddr 0, .int v2, .retAddr 0, .int v4, .int v5, .ref 65, .ref 65]) (S' := []) (σ' := (97, I, J, R)) rfl (fun hn => absurd hn (by decide)) (fun _ => ?_)
          refine az_E.sn 3 (pc' := 66) (L' := [.retAddr 0, .retAddr 0, .int v2, .retAddr 0, .int v4, .int v5, .ref 65, .ref 65]) (S' := [.int (I 65 1), .ref 65]) (σ' := (97, I, J, R)) rfl ?_
          refine az_E.call (d := 1) (k' := 56) (vs := [.ref 65, .int (I 65 1)]) (pc' := 69) (S' := []) rfl ?_ (fun _ _ hq => hq)
          show az_E az_F ex 1 56 0 [.ref 65, .int (I 65 1)] [] (97, I, J, R) _
          refine az_E.sn 1 (pc' := 1) (L' := [.ref 65, .int (I 65 1)]) (S' := [.ref 65]) (σ' := (97, I, J, R)) rfl ?_
          refine az_E.call (d := 0) (k' := 55) (vs := [.ref 65]) (pc' := 4) (S' := []) rfl ?_ (fun _ _ hq => hq)
          show az_E az_F ex 0 55 0 [.ref 65] [] (97, I, J, R) _
          refine az_E.sn 3 (pc' := 5) (L' := [.ref 65]) (S' := [.int (-1 : Int32), .int (I 65 1)]) (σ' := (97, I, J, R)) rfl ?_
          refine az_E.br (c := (I 65 1) = (-1 : Int32)) (tt := 12) (ff := 8) (L' := [.ref 65]) (S' := []) (σ' := (97, I, J, R)) rfl (fun hc_796 => ?_) (fun hc_796 => ?_)
          · rw [if_pos hc_796] at h
            refine az_E.sn 1 (pc' := 13) (L' := [.ref 65]) (S' := [.int (0 : Int32)]) (σ' := (97, I, J, R)) rfl ?_
            refine az_E.ret (v := some (.int (0 : Int32))) (σ' := (97, I, J, R)) rfl ?_
            show az_E az_F ex 1 56 4 [.ref 65, .int (I 65 1)] [.int (0 : Int32)] (97, I, J, R) _
            refine az_E.br (c := (0 : Int32) = 0) (tt := 19) (ff := 7) (L' := [.ref 65, .int (I 65 1)]) (S' := []) (σ' := (97, I, J, R)) rfl (fun _ => ?_) (fun hn => absurd (by decide) hn)
            refine az_E.sn 1 (pc' := 20) (L' := [.ref 65, .int (I 65 1)]) (S' := [.int (0 : Int32)]) (σ' := (97, I, J, R)) rfl ?_
            refine az_E.ret (v := some (.int (0 : Int32))) (σ' := (97, I, J, R)) rfl ?_
            show az_E az_F ex 2 128 69 [.retAddr 0, .retAddr 0, .int v2, .retAddr 0, .int v4, .int v5, .ref 65, .ref 65] [.int (0 : Int32)] (97, I, J, R) _
            refine az_E.br (c := (0 : Int32) = 0) (tt := 72) (ff := 75) (L' := [.retAddr 0, .retAddr 0, .int v2, .retAddr 0, .int v4, .int v5, .ref 65, .ref 65]) (S' := []) (σ' := (97, I, J, R)) rfl (fun _ => ?_) (fun hn => absurd (by decide) hn)
            refine az_E.sn 1 (pc' := 74) (L' := [.retAddr 0, .retAddr 0, .int v2, .retAddr 0, .int v4, .int v5, .ref 65, .ref 65]) (S' := [.int (-12 : Int32)]) (σ' := (97, I, J, R)) rfl ?_
            have h := Option.some.inj h
            subst h
            exact az_E.ret (v := some (.int (-12 : Int32))) (σ' := (97, I, J, R)) rfl hQ
          · rw [if_neg hc_796] at h
            refine az_E.sn 2 (pc' := 13) (L' := [.ref 65]) (S' := [.int (1 : Int32)]) (σ' := (97, I, J, R)) rfl ?_
            refine az_E.ret (v := some (.int (1 : Int32))) (σ' := (97, I, J, R)) rfl ?_
            show az_E az_F ex 1 56 4 [.ref 65, .int (I 65 1)] [.int (1 : Int32)] (97, I, J, R) _
            refine az_E.br (c := (1 : Int32) = 0) (tt := 19) (ff := 7) (L' := [.ref 65, .int (I 65 1)]) (S' := []) (σ' := (97, I, J, R)) rfl (fun hn => absurd hn (by decide)) (fun _ => ?_)
            refine az_E.sn 3 (pc' := 12) (L' := [.ref 65, .int (I 65 1)]) (S' := [.int (I 65 1), .int (I 65 1)]) (σ' := (97, I, J, R)) rfl ?_
            refine az_E.br (c := (I 65 1) = (I 65 1)) (tt := 15) (ff := 19) (L' := [.ref 65, .int (I 65 1)]) (S' := []) (σ' := (97, I, J, R)) rfl (fun hc_797 => ?_) (fun hc_797 => ?_)
            · rw [if_pos hc_797] at h
              refine az_E.sn 2 (pc' := 20) (L' := [.ref 65, .int (I 65 1)]) (S' := [.int (1 : Int32)]) (σ' := (97, I, J, R)) rfl ?_
              refine az_E.ret (v := some (.int (1 : Int32))) (σ' := (97, I, J, R)) rfl ?_
              show az_E az_F ex 2 128 69 [.retAddr 0, .retAddr 0, .int v2, .retAddr 0, .int v4, .int v5, .ref 65, .ref 65] [.int (1 : Int32)] (97, I, J, R) _
              refine az_E.br (c := (1 : Int32) = 0) (tt := 72) (ff := 75) (L' := [.retAddr 0, .retAddr 0, .int v2, .retAddr 0, .int v4, .int v5, .ref 65, .ref 65]) (S' := []) (σ' := (97, I, J, R)) rfl (fun hn => absurd hn (by decide)) (fun _ => ?_)
              refine az_E.sn 3 (pc' := 80) (L' := [.retAddr 0, .retAddr 0, .int v2, .retAddr 0, .int v4, .int v5, .ref 65, .ref 65]) (S' := [.int v5, .int v2, .ref 65]) (σ' := (97, I, J, R)) rfl ?_
              refine az_E.call (d := 1) (k' := 60) (vs := [.ref 65, .int v2, .int v5]) (pc' := 83) (S' := []) rfl ?_ (fun _ _ hq => hq)
              show az_E az_F ex 1 60 0 [.ref 65, .int v2, .int v5] [] (97, I, J, R) _
              refine az_E.sn 1 (pc' := 1) (L' := [.ref 65, .int v2, .int v5]) (S' := [.int v2]) (σ' := (97, I, J, R)) rfl ?_
              refine az_E.br (c := v2 < 0) (tt := 30) (ff := 4) (L' := [.ref 65, .int v2, .int v5]) (S' := []) (σ' := (97, I, J, R)) rfl (fun hc_798 => ?_) (fun hc_798 => ?_)
              · rw [if_pos hc_798] at h
                refine az_E.sn 1 (pc' := 31) (L' := [.ref 65, .int v2, .int v5]) (S' := [.int (0 : Int32)]) (σ' := (97, I, J, R)) rfl ?_
                refine az_E.ret (v := some (.int (0 : Int32))) (σ' := (97, I, J, R)) rfl ?_
                show az_E az_F ex 2 128 83 [.retAddr 0, .retAddr 0, .int v2, .retAddr 0, .int v4, .int v5, .ref 65, .ref 65] [.int (0 : Int32)] (97, I, J, R) _
                refine az_E.br (c := (0 : Int32) = 0) (tt := 98) (ff := 86) (L' := [.retAddr 0, .retAddr 0, .int v2, .retAddr 0, .int v4, .int v5, .ref 65, .ref 65]) (S' := []) (σ' := (97, I, J, R)) rfl (fun _ => ?_) (fun hn => absurd (by decide) hn)
                refine az_E.sn 1 (pc' := 100) (L' := [.retAddr 0, .retAddr 0, .int v2, .retAddr 0, .int v4, .int v5, .ref 65, .ref 65]) (S' := [.int (-13 : Int32)]) (σ' := (97, I, J, R)) rfl ?_
                have h := Option.some.inj h
                subst h
                exact az_E.ret (v := some (.int (-13 : Int32))) (σ' := (97, I, J, R)) rfl hQ
              · rw [if_neg hc_798] at h
                refine az_E.sn 1 (pc' := 5) (L' := [.ref 65, .int v2, .int v5]) (S' := [.int v5]) (σ' := (97, I, J, R)) rfl ?_
                refine az_E.br (c := v5 < 0) (tt := 30) (ff := 8) (L' := [.ref 65, .int v2, .int v5]) (S' := []) (σ' := (97, I, J, R)) rfl (fun hc_799 => ?_) (fun hc_799 => ?_)
                · rw [if_pos hc_799] at h
                  refine az_E.sn 1 (pc' := 31) (L' := [.ref 65, .int v2, .int v5]) (S' := [.int (0 : Int32)]) (σ' := (97, I, J, R)) rfl ?_
                  refine az_E.ret (v := some (.int (0 : Int32))) (σ' := (97, I, J, R)) rfl ?_
                  show az_E az_F ex 2 128 83 [.retAddr 0, .retAddr 0, .int v2, .retAddr 0, .int v4, .int v5, .ref 65, .ref 65] [.int (0 : Int32)] (97, I, J, R) _
                  refine az_E.br (c := (0 : Int32) = 0) (tt := 98) (ff := 86) (L' := [.retAddr 0, .retAddr 0, .int v2, .retAddr 0, .int v4, .int v5, .ref 65, .ref 65]) (S' := []) (σ' := (97, I, J, R)) rfl (fun _ => ?_) (fun hn => absurd (by decide) hn)
                  refine az_E.sn 1 (pc' := 100) (L' := [.retAddr 0, .retAddr 0, .int v2, .retAddr 0, .int v4, .int v5, .ref 65, .ref 65]) (S' := [.int (-13 : Int32)]) (σ' := (97, I, J, R)) rfl ?_
                  have h := Option.some.inj h
                  subst h
                  exact az_E.ret (v := some (.int (-13 : Int32))) (σ' := (97, I, J, R)) rfl hQ
                · rw [if_neg hc_799] at h
                  refine az_E.sn 3 (pc' := 13) (L' := [.ref 65, .int v2, .int v5]) (S' := [.int (I 65 2), .int v2]) (σ' := (97, I, J, R)) rfl ?_
                  refine az_E.br (c := (I 65 2) < v2) (tt := 30) (ff := 16) (L' := [.ref 65, .int v2, .int v5]) (S' := []) (σ' := (97, I, J, R)) rfl (fun hc_800 => ?_) (fun hc_800 => ?_)
                  · rw [if_pos hc_800] at h
                    refine az_E.sn 1 (pc' := 31) (L' := [.ref 65, .int v2, .int v5]) (S' := [.int (0 : Int32)]) (σ' := (97, I, J, R)) rfl ?_
                    refine az_E.ret (v := some (.int (0 : Int32))) (σ' := (97, I, J, R)) rfl ?_
                    show az_E az_F ex 2 128 83 [.retAddr 0, .retAddr 0, .int v2, .retAddr 0, .int v4, .int v5, .ref 65, .ref 65] [.int (0 : Int32)] (97, I, J, R) _
                    refine az_E.br (c := (0 : Int32) = 0) (tt := 98) (ff := 86) (L' := [.retAddr 0, .retAddr 0, .int v2, .retAddr 0, .int v4, .int v5, .ref 65, .ref 65]) (S' := []) (σ' := (97, I, J, R)) rfl (fun _ => ?_) (fun hn => absurd (by decide) hn)
                    refine az_E.sn 1 (pc' := 100) (L' := [.retAddr 0, .retAddr 0, .int v2, .retAddr 0, .int v4, .int v5, .ref 65, .ref 65]) (S' := [.int (-13 : Int32)]) (σ' := (97, I, J, R)) rfl ?_
                    have h := Option.some.inj h
                    subst h
                    exact az_E.ret (v := some (.int (-13 : Int32))) (σ' := (97, I, J, R)) rfl hQ
                  · rw [if_neg hc_800] at h
                    refine az_E.sn 5 (pc' := 23) (L' := [.ref 65, .int v2, .int v5]) (S' := [.int ((I 65 2) - v2), .int v5]) (σ' := (97, I, J, R)) rfl ?_
                    refine az_E.br (c := ((I 65 2) - v2) < v5) (tt := 30) (ff := 26) (L' := [.ref 65, .int v2, .int v5]) (S' := []) (σ' := (97, I, J, R)) rfl (fun hc_801 => ?_) (fun hc_801 => ?_)
                    · rw [if_pos hc_801] at h
                      refine az_E.sn 1 (pc' := 31) (L' := [.ref 65, .int v2, .int v5]) (S' := [.int (0 : Int32)]) (σ' := (97, I, J, R)) rfl ?_
                      refine az_E.ret (v := some (.int (0 : Int32))) (σ' := (97, I, J, R)) rfl ?_
                      show az_E az_F ex 2 128 83 [.retAddr 0, .retAddr 0, .int v2, .retAddr 0, .int v4, .int v5, .ref 65, .ref 65] [.int (0 : Int32)] (97, I, J, R) _
                      refine az_E.br (c := (0 : Int32) = 0) (tt := 98) (ff := 86) (L' := [.retAddr 0, .retAddr 0, .int v2, .retAddr 0, .int v4, .int v5, .ref 65, .ref 65]) (S' := []) (σ' := (97, I, J, R)) rfl (fun _ => ?_) (fun hn => absurd (by decide) hn)
                      refine az_E.sn 1 (pc' := 100) (L' := [.retAddr 0, .retAddr 0, .int v2, .retAddr 0, .int v4, .int v5, .ref 65, .ref 65]) (S' := [.int (-13 : Int32)]) (σ' := (97, I, J, R)) rfl ?_
                      have h := Option.some.inj h
                      subst h
                      exact az_E.ret (v := some (.int (-13 : Int32))) (σ' := (97, I, J, R)) rfl hQ
                    · rw [if_neg hc_801] at h
                      refine az_E.sn 2 (pc' := 31) (L' := [.ref 65, .int v2, .int v5]) (S' := [.int (1 : Int32)]) (σ' := (97, I, J, R)) rfl ?_
                      refine az_E.ret (v := some (.int (1 : Int32))) (σ' := (97, I, J, R)) rfl ?_
                      show az_E az_F ex 2 128 83 [.retAddr 0, .retAddr 0, .int v2, .retAddr 0, .int v4, .int v5, .ref 65, .ref 65] [.int (1 : Int32)] (97, I, J, R) _
                      refine az_E.br (c := (1 : Int32) = 0) (tt := 98) (ff := 86) (L' := [.retAddr 0, .retAddr 0, .int v2, .retAddr 0, .int v4, .int v5, .ref 65, .ref 65]) (S' := []) (σ' := (97, I, J, R)) rfl (fun hn => absurd hn (by decide)) (fun _ => ?_)
                      refine az_E.sn 3 (pc' := 92) (L' := [.retAddr 0, .retAddr 0, .int v2, .retAddr 0, .int v4, .int v5, .ref 65, .ref 65]) (S' := [.int v5, .int v4, .ref 65]) (σ' := (97, I, J, R)) rfl ?_
                      refine az_E.call (d := 1) (k' := 60) (vs := [.ref 65, .int v4, .int v5]) (pc' := 95) (S' := []) rfl ?_ (fun _ _ hq => hq)
                      show az_E az_F ex 1 60 0 [.ref 65, .int v4, .int v5] [] (97, I, J, R) _
                      refine az_E.sn 1 (pc' := 1) (L' := [.ref 65, .int v4, .int v5]) (S' := [.int v4]) (σ' := (97, I, J, R)) rfl ?_
                      refine az_E.br (c := v4 < 0) (tt := 30) (ff := 4) (L' := [.ref 65, .int v4, .int v5]) (S' := []) (σ' := (97, I, J, R)) rfl (fun hc_802 => ?_) (fun hc_802 => ?_)
                      · rw [if_pos hc_802] at h
                        refine az_E.sn 1 (pc' := 31) (L' := [.ref 65, .int v4, .int v5]) (S' := [.int (0 : Int32)]) (σ' := (97, I, J, R)) rfl ?_
                        refine az_E.ret (v := some (.int (0 : Int32))) (σ' := (97, I, J, R)) rfl ?_
                        show az_E az_F ex 2 128 95 [.retAddr 0, .retAddr 0, .int v2, .retAddr 0, .int v4, .int v5, .ref 65, .ref 65] [.int (0 : Int32)] (97, I, J, R) _
                        refine az_E.br (c := (0 : Int32) = 0) (tt := 98) (ff := 101) (L' := [.retAddr 0, .retAddr 0, .int v2, .retAddr 0, .int v4, .int v5, .ref 65, .ref 65]) (S' := []) (σ' := (97, I, J, R)) rfl (fun _ => ?_) (fun hn => absurd (by decide) hn)
                        refine az_E.sn 1 (pc' := 100) (L' := [.retAddr 0, .retAddr 0, .int v2, .retAddr 0, .int v4, .int v5, .ref 65, .ref 65]) (S' := [.int (-13 : Int32)]) (σ' := (97, I, J, R)) rfl ?_
                        have h := Option.some.inj h
                        subst h
                        exact az_E.ret (v := some (.int (-13 : Int32))) (σ' := (97, I, J, R)) rfl hQ
                      · rw [if_neg hc_802] at h
                        refine az_E.sn 1 (pc' := 5) (L' := [.ref 65, .int v4, .int v5]) (S' := [.int v5]) (σ' := (97, I, J, R)) rfl ?_
                        refine az_E.br (c := v5 < 0) (tt := 30) (ff := 8) (L' := [.ref 65, .int v4, .int v5]) (S' := []) (σ' := (97, I, J, R)) rfl (fun hc_803 => ?_) (fun hc_803 => ?_)
                        · rw [if_pos hc_803] at h
                          refine az_E.sn 1 (pc' := 31) (L' := [.ref 65, .int v4, .int v5]) (S' := [.int (0 : Int32)]) (σ' := (97, I, J, R)) rfl ?_
                          refine az_E.ret (v := some (.int (0 : Int32))) (σ' := (97, I, J, R)) rfl ?_
                          show az_E az_F ex 2 128 95 [.retAddr 0, .retAddr 0, .int v2, .retAddr 0, .int v4, .int v5, .ref 65, .ref 65] [.int (0 : Int32)] (97, I, J, R) _
                          refine az_E.br (c := (0 : Int32) = 0) (tt := 98) (ff := 101) (L' := [.retAddr 0, .retAddr 0, .int v2, .retAddr 0, .int v4, .int v5, .ref 65, .ref 65]) (S' := []) (σ' := (97, I, J, R)) rfl (fun _ => ?_) (fun hn => absurd (by decide) hn)
                          refine az_E.sn 1 (pc' := 100) (L' := [.retAddr 0, .retAddr 0, .int v2, .retAddr 0, .int v4, .int v5, .ref 65, .ref 65]) (S' := [.int (-13 : Int32)]) (σ' := (97, I, J, R)) rfl ?_
                          have h := Option.some.inj h
                          subst h
                          exact az_E.ret (v := some (.int (-13 : Int32))) (σ' := (97, I, J, R)) rfl hQ
                        · rw [if_neg hc_803] at h
                          refine az_E.sn 3 (pc' := 13) (L' := [.ref 65, .int v4, .int v5]) (S' := [.int (I 65 2), .int v4]) (σ' := (97, I, J, R)) rfl ?_
                          refine az_E.br (c := (I 65 2) < v4) (tt := 30) (ff := 16) (L' := [.ref 65, .int v4, .int v5]) (S' := []) (σ' := (97, I, J, R)) rfl (fun hc_804 => ?_) (fun hc_804 => ?_)
                          · rw [if_pos hc_804] at h
                            refine az_E.sn 1 (pc' := 31) (L' := [.ref 65, .int v4, .int v5]) (S' := [.int (0 : Int32)]) (σ' := (97, I, J, R)) rfl ?_
                            refine az_E.ret (v := some (.int (0 : Int32))) (σ' := (97, I, J, R)) rfl ?_
                            show az_E az_F ex 2 128 95 [.retAddr 0, .retAddr 0, .int v2, .retAddr 0, .int v4, .int v5, .ref 65, .ref 65] [.int (0 : Int32)] (97, I, J, R) _
                            refine az_E.br (c := (0 : Int32) = 0) (tt := 98) (ff := 101) (L' := [.retAddr 0, .retAddr 0, .int v2, .retAddr 0, .int v4, .int v5, .ref 65, .ref 65]) (S' := []) (σ' := (97, I, J, R)) rfl (fun _ => ?_) (fun hn => absurd (by decide) hn)
                            refine az_E.sn 1 (pc' := 100) (L' := [.retAddr 0, .retAddr 0, .int v2, .retAddr 0, .int v4, .int v5, .ref 65, .ref 65]) (S' := [.int (-13 : Int32)]) (σ' := (97, I, J, R)) rfl ?_
                            have h := Option.some.inj h
                            subst h
                            exact az_E.ret (v := some (.int (-13 : Int32))) (σ' := (97, I, J, R)) rfl hQ
                          · rw [if_neg hc_804] at h
                            refine az_E.sn 5 (pc' := 23) (L' := [.ref 65, .int v4, .int v5]) (S' := [.int ((I 65 2) - v4), .int v5]) (σ' := (97, I, J, R)) rfl ?_
                            refine az_E.br (c := ((I 65 2) - v4) < v5) (tt := 30) (ff := 26) (L' := [.ref 65, .int v4, .int v5]) (S' := []) (σ' := (97, I, J, R)) rfl (fun hc_805 => ?_) (fun hc_805 => ?_)
                            · rw [if_pos hc_805] at h
                              refine az_E.sn 1 (pc' := 31) (L' := [.ref 65, .int v4, .int v5]) (S' := [.int (0 : Int32)]) (σ' := (97, I, J, R)) rfl ?_
                              refine az_E.ret (v := some (.int (0 : Int32))) (σ' := (97, I, J, R)) rfl ?_
                              show az_E az_F ex 2 128 95 [.retAddr 0, .retAddr 0, .int v2, .retAddr 0, .int v4, .int v5, .ref 65, .ref 65] [.int (0 : Int32)] (97, I, J, R) _
                              refine az_E.br (c := (0 : Int32) = 0) (tt := 98) (ff := 101) (L' := [.retAddr 0, .retAddr 0, .int v2, .retAddr 0, .int v4, .int v5, .ref 65, .ref 65]) (S' := []) (σ' := (97, I, J, R)) rfl (fun _ => ?_) (fun hn => absurd (by decide) hn)
                              refine az_E.sn 1 (pc' := 100) (L' := [.retAddr 0, .retAddr 0, .int v2, .retAddr 0, .int v4, .int v5, .ref 65, .ref 65]) (S' := [.int (-13 : Int32)]) (σ' := (97, I, J, R)) rfl ?_
                              have h := Option.some.inj h
                              subst h
                              exact az_E.ret (v := some (.int (-13 : Int32))) (σ' := (97, I, J, R)) rfl hQ
                            · rw [if_neg hc_805] at h
                              refine az_E.sn 2 (pc' := 31) (L' := [.ref 65, .int v4, .int v5]) (S' := [.int (1 : Int32)]) (σ' := (97, I, J, R)) rfl ?_
                              refine az_E.ret (v := some (.int (1 : Int32))) (σ' := (97, I, J, R)) rfl ?_
                              show az_E az_F ex 2 128 95 [.retAddr 0, .retAddr 0, .int v2, .retAddr 0, .int v4, .int v5, .ref 65, .ref 65] [.int (1 : Int32)] (97, I, J, R) _
                              refine az_E.br (c := (1 : Int32) = 0) (tt := 98) (ff := 101) (L' := [.retAddr 0, .retAddr 0, .int v2, .retAddr 0, .int v4, .int v5, .ref 65, .ref 65]) (S' := []) (σ' := (97, I, J, R)) rfl (fun hn => absurd hn (by decide)) (fun _ => ?_)
                              refine az_E.sn 7 (pc' := 116) (L' := [.retAddr 0, .retAddr 0, .int v2, .retAddr 0, .int v4, .int v5, .ref 65, .ref 65]) (S' := [.int v5, .int v4, .ref (65 + 1), .int v2, .ref (65 + 1)]) (σ' := (97, I, J, R)) rfl ?_
                              by_cases hc_806 : v2 < 0 ∨ v4 < 0 ∨ v5 < 0 ∨ 60 < v2.toNatClampNeg + v5.toNatClampNeg ∨ 60 < v4.toNatClampNeg + v5.toNatClampNeg
                              · rw [if_pos hc_806] at h; cases h
                              · rw [if_neg hc_806] at h
                                refine az_E.o (o := az_cp az_F (97, I, J, R) (65 + 1) v2 (65 + 1) v4 v5) (pc' := 119) (L' := [.retAddr 0, .retAddr 0, .int v2, .retAddr 0, .int v4, .int v5, .ref 65, .ref 65]) (S' := []) (x := (97, I, (az_ur J (65 + 1) (va_cpy (J (65 + 1)) (J (65 + 1)) v2.toNatClampNeg v4.toNatClampNeg v5.toNatClampNeg)), R)) rfl (if_neg hc_806) ?_
                                refine az_E.sn 1 (pc' := 121) (L' := [.retAddr 0, .retAddr 0, .int v2, .retAddr 0, .int v4, .int v5, .ref 65, .ref 65]) (S' := [.int v5]) (σ' := (97, I, (az_ur J (65 + 1) (va_cpy (J (65 + 1)) (J (65 + 1)) v2.toNatClampNeg v4.toNatClampNeg v5.toNatClampNeg)), R)) rfl ?_
                                have h := Option.some.inj h
                                subst h
                                exact az_E.ret (v := some (.int v5)) (σ' := (97, I, (az_ur J (65 + 1) (va_cpy (J (65 + 1)) (J (65 + 1)) v2.toNatClampNeg v4.toNatClampNeg v5.toNatClampNeg)), R)) rfl hQ
            · rw [if_neg hc_797] at h
              refine az_E.sn 1 (pc' := 20) (L' := [.ref 65, .int (I 65 1)]) (S' := [.int (0 : Int32)]) (σ' := (97, I, J, R)) rfl ?_
              refine az_E.ret (v := some (.int (0 : Int32))) (σ' := (97, I, J, R)) rfl ?_
              show az_E az_F ex 2 128 69 [.retAddr 0, .retAddr 0, .int v2, .retAddr 0, .int v4, .int v5, .ref 65, .ref 65] [.int (0 : Int32)] (97, I, J, R) _
              refine az_E.br (c := (0 : Int32) = 0) (tt := 72) (ff := 75) (L' := [.retAddr 0, .retAddr 0, .int v2, .retAddr 0, .int v4, .int v5, .ref 65, .ref 65]) (S' := []) (σ' := (97, I, J, R)) rfl (fun _ => ?_) (fun hn => absurd (by decide) hn)
              refine az_E.sn 1 (pc' := 74) (L' := [.retAddr 0, .retAddr 0, .int v2, .retAddr 0, .int v4, .int v5, .ref 65, .ref 65]) (S' := [.int (-12 : Int32)]) (σ' := (97, I, J, R)) rfl ?_
              have h := Option.some.inj h
              subst h
              exact az_E.ret (v := some (.int (-12 : Int32))) (σ' := (97, I, J, R)) rfl hQ
    · rw [if_neg hc_793] at h
      refine az_E.sn 1 (pc' := 21) (L' := [.ref 65]) (S' := [.int (0 : Int32)]) (σ' := (97, I, J, R)) rfl ?_
      refine az_E.ret (v := some (.int (0 : Int32))) (σ' := (97, I, J, R)) rfl ?_
      show az_E az_F ex 2 128 45 [.retAddr 0, .retAddr 0, .int v2, .retAddr 0, .int v4, .int v5, .ref 65, .ref 65] [.int (0 : Int32)] (97, I, J, R) _
      refine az_E.br (c := (0 : Int32) = 0) (tt := 51) (ff := 48) (L' := [.retAddr 0, .retAddr 0, .int v2, .retAddr 0, .int v4, .int v5, .ref 65, .ref 65]) (S' := []) (σ' := (97, I, J, R)) rfl (fun _ => ?_) (fun hn => absurd (by decide) hn)
      refine az_E.sn 1 (pc' := 53) (L' := [.retAddr 0, .retAddr 0, .int v2, .retAddr 0, .int v4, .int v5, .ref 65, .ref 65]) (S' := [.ref 65]) (σ' := (97, I, J, R)) rfl ?_
      refine az_E.call (d := 1) (k' := 55) (vs := [.ref 65]) (pc' := 56) (S' := []) rfl ?_ (fun _ _ hq => hq)
      show az_E az_F ex 1 55 0 [.ref 65] [] (97, I, J, R) _
      refine az_E.sn 3 (pc' := 5) (L' := [.ref 65]) (S' := [.int (-1 : Int32), .int (I 65 1)]) (σ' := (97, I, J, R)) rfl ?_
      refine az_E.br (c := (I 65 1) = (-1 : Int32)) (tt := 12) (ff := 8) (L' := [.ref 65]) (S' := []) (σ' := (97, I, J, R)) rfl (fun hc_807 => ?_) (fun hc_807 => ?_)
      · rw [if_pos hc_807] at h
        refine az_E.sn 1 (pc' := 13) (L' := [.ref 65]) (S' := [.int (0 : Int32)]) (σ' := (97, I, J, R)) rfl ?_
        refine az_E.ret (v := some (.int (0 : Int32))) (σ' := (97, I, J, R)) rfl ?_
        show az_E az_F ex 2 128 56 [.retAddr 0, .retAddr 0, .int v2, .retAddr 0, .int v4, .int v5, .ref 65, .ref 65] [.int (0 : Int32)] (97, I, J, R) _
        refine az_E.br (c := (0 : Int32) = 0) (tt := 72) (ff := 59) (L' := [.retAddr 0, .retAddr 0, .int v2, .retAddr 0, .int v4, .int v5, .ref 65, .ref 65]) (S' := []) (σ' := (97, I, J, R)) rfl (fun _ => ?_) (fun hn => absurd (by decide) hn)
        refine az_E.sn 1 (pc' := 74) (L' := [.retAddr 0, .retAddr 0, .int v2, .retAddr 0, .int v4, .int v5, .ref 65, .ref 65]) (S' := [.int (-12 : Int32)]) (σ' := (97, I, J, R)) rfl ?_
        have h := Option.some.inj h
        subst h
        exact az_E.ret (v := some (.int (-12 : Int32))) (σ' := (97, I, J, R)) rfl hQ
      · rw [if_neg hc_807] at h
        refine az_E.sn 2 (pc' := 13) (L' := [.ref 65]) (S' := [.int (1 : Int32)]) (σ' := (97, I, J, R)) rfl ?_
        refine az_E.ret (v := some (.int (1 : Int32))) (σ' := (97, I, J, R)) rfl ?_
        show az_E az_F ex 2 128 56 [.retAddr 0, .retAddr 0, .int v2, .retAddr 0, .int v4, .int v5, .ref 65, .ref 65] [.int (1 : Int32)] (97, I, J, R) _
        refine az_E.br (c := (1 : Int32) = 0) (tt := 72) (ff := 59) (L' := [.retAddr 0, .retAddr 0, .int v2, .retAddr 0, .int v4, .int v5, .ref 65, .ref 65]) (S' := []) (σ' := (97, I, J, R)) rfl (fun hn => absurd hn (by decide)) (fun _ => ?_)
        refine az_E.sn 3 (pc' := 66) (L' := [.retAddr 0, .retAddr 0, .int v2, .retAddr 0, .int v4, .int v5, .ref 65, .ref 65]) (S' := [.int (I 65 1), .ref 65]) (σ' := (97, I, J, R)) rfl ?_
        refine az_E.call (d := 1) (k' := 56) (vs := [.ref 65, .int (I 65 1)]) (pc' := 69) (S' := []) rfl ?_ (fun _ _ hq => hq)
        show az_E az_F ex 1 56 0 [.ref 65, .int (I 65 1)] [] (97, I, J, R) _
        refine az_E.sn 1 (pc' := 1) (L' := [.ref 65, .int (I 65 1)]) (S' := [.ref 65]) (σ' := (97, I, J, R)) rfl ?_
        refine az_E.call (d := 0) (k' := 55) (vs := [.ref 65]) (pc' := 4) (S' := []) rfl ?_ (fun _ _ hq => hq)
        show az_E az_F ex 0 55 0 [.ref 65] [] (97, I, J, R) _
        refine az_E.sn 3 (pc' := 5) (L' := [.ref 65]) (S' := [.int (-1 : Int32), .int (I 65 1)]) (σ' := (97, I, J, R)) rfl ?_
        refine az_E.br (c := (I 65 1) = (-1 : Int32)) (tt := 12) (ff := 8) (L' := [.ref 65]) (S' := []) (σ' := (97, I, J, R)) rfl (fun hc_808 => ?_) (fun hc_808 => ?_)
        · rw [if_pos hc_808] at h
          refine az_E.sn 1 (pc' := 13) (L' := [.ref 65]) (S' := [.int (0 : Int32)]) (σ' := (97, I, J, R)) rfl ?_
          refine az_E.ret (v := some (.int (0 : Int32))) (σ' := (97, I, J, R)) rfl ?_
          show az_E az_F ex 1 56 4 [.ref 65, .int (I 65 1)] [.int (0 : Int32)] (97, I, J, R) _
          refine az_E.br (c := (0 : Int32) = 0) (tt := 19) (ff := 7) (L' := [.ref 65, .int (I 65 1)]) (S' := []) (σ' := (97, I, J, R)) rfl (fun _ => ?_) (fun hn => absurd (by decide) hn)
          refine az_E.sn 1 (pc' := 20) (L' := [.ref 65, .int (I 65 1)]) (S' := [.int (0 : Int32)]) (σ' := (97, I, J, R)) rfl ?_
          refine az_E.ret (v := some (.int (0 : Int32))) (σ' := (97, I, J, R)) rfl ?_
          show az_E az_F ex 2 128 69 [.retAddr 0, .retAddr 0, .int v2, .retAddr 0, .int v4, .int v5, .ref 65, .ref 65] [.int (0 : Int32)] (97, I, J, R) _
          refine az_E.br (c := (0 : Int32) = 0) (tt := 72) (ff := 75) (L' := [.retAddr 0, .retAddr 0, .int v2, .retAddr 0, .int v4, .int v5, .ref 65, .ref 65]) (S' := []) (σ' := (97, I, J, R)) rfl (fun _ => ?_) (fun hn => absurd (by decide) hn)
          refine az_E.sn 1 (pc' := 74) (L' := [.retAddr 0, .retAddr 0, .int v2, .retAddr 0, .int v4, .int v5, .ref 65, .ref 65]) (S' := [.int (-12 : Int32)]) (σ' := (97, I, J, R)) rfl ?_
          have h := Option.some.inj h
          subst h
          exact az_E.ret (v := some (.int (-12 : Int32))) (σ' := (97, I, J, R)) rfl hQ
        · rw [if_neg hc_808] at h
          refine az_E.sn 2 (pc' := 13) (L' := [.ref 65]) (S' := [.int (1 : Int32)]) (σ' := (97, I, J, R)) rfl ?_
          refine az_E.ret (v := some (.int (1 : Int32))) (σ' := (97, I, J, R)) rfl ?_
          show az_E az_F ex 1 56 4 [.ref 65, .int (I 65 1)] [.int (1 : Int32)] (97, I, J, R) _
          refine az_E.br (c := (1 : Int32) = 0) (tt := 19) (ff := 7) (L' := [.ref 65, .int (I 65 1)]) (S' := []) (σ' := (97, I, J, R)) rfl (fun hn => absurd hn (by decide)) (fun _ => ?_)
          refine az_E.sn 3 (pc' := 12) (L' := [.ref 65, .int (I 65 1)]) (S' := [.int (I 65 1), .int (I 65 1)]) (σ' := (97, I, J, R)) rfl ?_
          refine az_E.br (c := (I 65 1) = (I 65 1)) (tt := 15) (ff := 19) (L' := [.ref 65, .int (I 65 1)]) (S' := []) (σ' := (97, I, J, R)) rfl (fun hc_809 => ?_) (fun hc_809 => ?_)
          · rw [if_pos hc_809] at h
            refine az_E.sn 2 (pc' := 20) (L' := [.ref 65, .int (I 65 1)]) (S' := [.int (1 : Int32)]) (σ' := (97, I, J, R)) rfl ?_
            refine az_E.ret (v := some (.int (1 : Int32))) (σ' := (97, I, J, R)) rfl ?_
            show az_E az_F ex 2 128 69 [.retAddr 0, .retAddr 0, .int v2, .retAddr 0, .int v4, .int v5, .ref 65, .ref 65] [.int (1 : Int32)] (97, I, J, R) _
            refine az_E.br (c := (1 : Int32) = 0) (tt := 72) (ff := 75) (L' := [.retAddr 0, .retAddr 0, .int v2, .retAddr 0, .int v4, .int v5, .ref 65, .ref 65]) (S' := []) (σ' := (97, I, J, R)) rfl (fun hn => absurd hn (by decide)) (fun _ => ?_)
            refine az_E.sn 3 (pc' := 80) (L' := [.retAddr 0, .retAddr 0, .int v2, .retAddr 0, .int v4, .int v5, .ref 65, .ref 65]) (S' := [.int v5, .int v2, .ref 65]) (σ' := (97, I, J, R)) rfl ?_
            refine az_E.call (d := 1) (k' := 60) (vs := [.ref 65, .int v2, .int v5]) (pc' := 83) (S' := []) rfl ?_ (fun _ _ hq => hq)
            show az_E az_F ex 1 60 0 [.ref 65, .int v2, .int v5] [] (97, I, J, R) _
            refine az_E.sn 1 (pc' := 1) (L' := [.ref 65, .int v2, .int v5]) (S' := [.int v2]) (σ' := (97, I, J, R)) rfl ?_
            refine az_E.br (c := v2 < 0) (tt := 30) (ff := 4) (L' := [.ref 65, .int v2, .int v5]) (S' := []) (σ' := (97, I, J, R)) rfl (fun hc_810 => ?_) (fun hc_810 => ?_)
            · rw [if_pos hc_810] at h
              refine az_E.sn 1 (pc' := 31) (L' := [.ref 65, .int v2, .int v5]) (S' := [.int (0 : Int32)]) (σ' := (97, I, J, R)) rfl ?_
              refine az_E.ret (v := some (.int (0 : Int32))) (σ' := (97, I, J, R)) rfl ?_
              show az_E az_F ex 2 128 83 [.retAddr 0, .retAddr 0, .int v2, .retAddr 0, .int v4, .int v5, .ref 65, .ref 65] [.int (0 : Int32)] (97, I, J, R) _
              refine az_E.br (c := (0 : Int32) = 0) (tt := 98) (ff := 86) (L' := [.retAddr 0, .retAddr 0, .int v2, .retAddr 0, .int v4, .int v5, .ref 65, .ref 65]) (S' := []) (σ' := (97, I, J, R)) rfl (fun _ => ?_) (fun hn => absurd (by decide) hn)
              refine az_E.sn 1 (pc' := 100) (L' := [.retAddr 0, .retAddr 0, .int v2, .retAddr 0, .int v4, .int v5, .ref 65, .ref 65]) (S' := [.int (-13 : Int32)]) (σ' := (97, I, J, R)) rfl ?_
              have h := Option.some.inj h
              subst h
              exact az_E.ret (v := some (.int (-13 : Int32))) (σ' := (97, I, J, R)) rfl hQ
            · rw [if_neg hc_810] at h
              refine az_E.sn 1 (pc' := 5) (L' := [.ref 65, .int v2, .int v5]) (S' := [.int v5]) (σ' := (97, I, J, R)) rfl ?_
              refine az_E.br (c := v5 < 0) (tt := 30) (ff := 8) (L' := [.ref 65, .int v2, .int v5]) (S' := []) (σ' := (97, I, J, R)) rfl (fun hc_811 => ?_) (fun hc_811 => ?_)
              · rw [if_pos hc_811] at h
                refine az_E.sn 1 (pc' := 31) (L' := [.ref 65, .int v2, .int v5]) (S' := [.int (0 : Int32)]) (σ' := (97, I, J, R)) rfl ?_
                refine az_E.ret (v := some (.int (0 : Int32))) (σ' := (97, I, J, R)) rfl ?_
                show az_E az_F ex 2 128 83 [.retAddr 0, .retAddr 0, .int v2, .retAddr 0, .int v4, .int v5, .ref 65, .ref 65] [.int (0 : Int32)] (97, I, J, R) _
                refine az_E.br (c := (0 : Int32) = 0) (tt := 98) (ff := 86) (L' := [.retAddr 0, .retAddr 0, .int v2, .retAddr 0, .int v4, .int v5, .ref 65, .ref 65]) (S' := []) (σ' := (97, I, J, R)) rfl (fun _ => ?_) (fun hn => absurd (by decide) hn)
                refine az_E.sn 1 (pc' := 100) (L' := [.retAddr 0, .retAddr 0, .int v2, .retAddr 0, .int v4, .int v5, .ref 65, .ref 65]) (S' := [.int (-13 : Int32)]) (σ' := (97, I, J, R)) rfl ?_
                have h := Option.some.inj h
                subst h
                exact az_E.ret (v := some (.int (-13 : Int32))) (σ' := (97, I, J, R)) rfl hQ
              · rw [if_neg hc_811] at h
                refine az_E.sn 3 (pc' := 13) (L' := [.ref 65, .int v2, .int v5]) (S' := [.int (I 65 2), .int v2]) (σ' := (97, I, J, R)) rfl ?_
                refine az_E.br (c := (I 65 2) < v2) (tt := 30) (ff := 16) (L' := [.ref 65, .int v2, .int v5]) (S' := []) (σ' := (97, I, J, R)) rfl (fun hc_812 => ?_) (fun hc_812 => ?_)
                · rw [if_pos hc_812] at h
                  refine az_E.sn 1 (pc' := 31) (L' := [.ref 65, .int v2, .int v5]) (S' := [.int (0 : Int32)]) (σ' := (97, I, J, R)) rfl ?_
                  refine az_E.ret (v := some (.int (0 : Int32))) (σ' := (97, I, J, R)) rfl ?_
                  show az_E az_F ex 2 128 83 [.retAddr 0, .retAddr 0, .int v2, .retAddr 0, .int v4, .int v5, .ref 65, .ref 65] [.int (0 : Int32)] (97, I, J, R) _
                  refine az_E.br (c := (0 : Int32) = 0) (tt := 98) (ff := 86) (L' := [.retAddr 0, .retAddr 0, .int v2, .retAddr 0, .int v4, .int v5, .ref 65, .ref 65]) (S' := []) (σ' := (97, I, J, R)) rfl (fun _ => ?_) (fun hn => absurd (by decide) hn)
                  refine az_E.sn 1 (pc' := 100) (L' := [.retAddr 0, .retAddr 0, .int v2, .retAddr 0, .int v4, .int v5, .ref 65, .ref 65]) (S' := [.int (-13 : Int32)]) (σ' := (97, I, J, R)) rfl ?_
                  have h := Option.some.inj h
                  subst h
                  exact az_E.ret (v := some (.int (-13 : Int32))) (σ' := (97, I, J, R)) rfl hQ
                · rw [if_neg hc_812] at h
                  refine az_E.sn 5 (pc' := 23) (L' := [.ref 65, .int v2, .int v5]) (S' := [.int ((I 65 2) - v2), .int v5]) (σ' := (97, I, J, R)) rfl ?_
                  refine az_E.br (c := ((I 65 2) - v2) < v5) (tt := 30) (ff := 26) (L' := [.ref 65, .int v2, .int v5]) (S' := []) (σ' := (97, I, J, R)) rfl (fun hc_813 => ?_) (fun hc_813 => ?_)
                  · rw [if_pos hc_813] at h
                    refine az_E.sn 1 (pc' := 31) (L' := [.ref 65, .int v2, .int v5]) (S' := [.int (0 : Int32)]) (σ' := (97, I, J, R)) rfl ?_
                    refine az_E.ret (v := some (.int (0 : Int32))) (σ' := (97, I, J, R)) rfl ?_
                    show az_E az_F ex 2 128 83 [.retAddr 0, .retAddr 0, .int v2, .retAddr 0, .int v4, .int v5, .ref 65, .ref 65] [.int (0 : Int32)] (97, I, J, R) _
                    refine az_E.br (c := (0 : Int32) = 0) (tt := 98) (ff := 86) (L' := [.retAddr 0, .retAddr 0, .int v2, .retAddr 0, .int v4, .int v5, .ref 65, .ref 65]) (S' := []) (σ' := (97, I, J, R)) rfl (fun _ => ?_) (fun hn => absurd (by decide) hn)
                    refine az_E.sn 1 (pc' := 100) (L' := [.retAddr 0, .retAddr 0, .int v2, .retAddr 0, .int v4, .int v5, .ref 65, .ref 65]) (S' := [.int (-13 : Int32)]) (σ' := (97, I, J, R)) rfl ?_
                    have h := Option.some.inj h
                    subst h
                    exact az_E.ret (v := some (.int (-13 : Int32))) (σ' := (97, I, J, R)) rfl hQ
                  · rw [if_neg hc_813] at h
                    refine az_E.sn 2 (pc' := 31) (L' := [.ref 65, .int v2, .int v5]) (S' := [.int (1 : Int32)]) (σ' := (97, I, J, R)) rfl ?_
                    refine az_E.ret (v := some (.int (1 : Int32))) (σ' := (97, I, J, R)) rfl ?_
                    show az_E az_F ex 2 128 83 [.retAddr 0, .retAddr 0, .int v2, .retAddr 0, .int v4, .int v5, .ref 65, .ref 65] [.int (1 : Int32)] (97, I, J, R) _
                    refine az_E.br (c := (1 : Int32) = 0) (tt := 98) (ff := 86) (L' := [.retAddr 0, .retAddr 0, .int v2, .retAddr 0, .int v4, .int v5, .ref 65, .ref 65]) (S' := []) (σ' := (97, I, J, R)) rfl (fun hn => absurd hn (by decide)) (fun _ => ?_)
                    refine az_E.sn 3 (pc' := 92) (L' := [.retAddr 0, .retAddr 0, .int v2, .retAddr 0, .int v4, .int v5, .ref 65, .ref 65]) (S' := [.int v5, .int v4, .ref 65]) (σ' := (97, I, J, R)) rfl ?_
                    refine az_E.call (d := 1) (k' := 60) (vs := [.ref 65, .int v4, .int v5]) (pc' := 95) (S' := []) rfl ?_ (fun _ _ hq => hq)
                    show az_E az_F ex 1 60 0 [.ref 65, .int v4, .int v5] [] (97, I, J, R) _
                    refine az_E.sn 1 (pc' := 1) (L' := [.ref 65, .int v4, .int v5]) (S' := [.int v4]) (σ' := (97, I, J, R)) rfl ?_
                    refine az_E.br (c := v4 < 0) (tt := 30) (ff := 4) (L' := [.ref 65, .int v4, .int v5]) (S' := []) (σ' := (97, I, J, R)) rfl (fun hc_814 => ?_) (fun hc_814 => ?_)
                    · rw [if_pos hc_814] at h
                      refine az_E.sn 1 (pc' := 31) (L' := [.ref 65, .int v4, .int v5]) (S' := [.int (0 : Int32)]) (σ' := (97, I, J, R)) rfl ?_
                      refine az_E.ret (v := some (.int (0 : Int32))) (σ' := (97, I, J, R)) rfl ?_
                      show az_E az_F ex 2 128 95 [.retAddr 0, .retAddr 0, .int v2, .retAddr 0, .int v4, .int v5, .ref 65, .ref 65] [.int (0 : Int32)] (97, I, J, R) _
                      refine az_E.br (c := (0 : Int32) = 0) (tt := 98) (ff := 101) (L' := [.retAddr 0, .retAddr 0, .int v2, .retAddr 0, .int v4, .int v5, .ref 65, .ref 65]) (S' := []) (σ' := (97, I, J, R)) rfl (fun _ => ?_) (fun hn => absurd (by decide) hn)
                      refine az_E.sn 1 (pc' := 100) (L' := [.retAddr 0, .retAddr 0, .int v2, .retAddr 0, .int v4, .int v5, .ref 65, .ref 65]) (S' := [.int (-13 : Int32)]) (σ' := (97, I, J, R)) rfl ?_
                      have h := Option.some.inj h
                      subst h
                      exact az_E.ret (v := some (.int (-13 : Int32))) (σ' := (97, I, J, R)) rfl hQ
                    · rw [if_neg hc_814] at h
                      refine az_E.sn 1 (pc' := 5) (L' := [.ref 65, .int v4, .int v5]) (S' := [.int v5]) (σ' := (97, I, J, R)) rfl ?_
                      refine az_E.br (c := v5 < 0) (tt := 30) (ff := 8) (L' := [.ref 65, .int v4, .int v5]) (S' := []) (σ' := (97, I, J, R)) rfl (fun hc_815 => ?_) (fun hc_815 => ?_)
                      · rw [if_pos hc_815] at h
                        refine az_E.sn 1 (pc' := 31) (L' := [.ref 65, .int v4, .int v5]) (S' := [.int (0 : Int32)]) (σ' := (97, I, J, R)) rfl ?_
                        refine az_E.ret (v := some (.int (0 : Int32))) (σ' := (97, I, J, R)) rfl ?_
                        show az_E az_F ex 2 128 95 [.retAddr 0, .retAddr 0, .int v2, .retAddr 0, .int v4, .int v5, .ref 65, .ref 65] [.int (0 : Int32)] (97, I, J, R) _
                        refine az_E.br (c := (0 : Int32) = 0) (tt := 98) (ff := 101) (L' := [.retAddr 0, .retAddr 0, .int v2, .retAddr 0, .int v4, .int v5, .ref 65, .ref 65]) (S' := []) (σ' := (97, I, J, R)) rfl (fun _ => ?_) (fun hn => absurd (by decide) hn)
                        refine az_E.sn 1 (pc' := 100) (L' := [.retAddr 0, .retAddr 0, .int v2, .retAddr 0, .int v4, .int v5, .ref 65, .ref 65]) (S' := [.int (-13 : Int32)]) (σ' := (97, I, J, R)) rfl ?_
                        have h := Option.some.inj h
                        subst h
                        exact az_E.ret (v := some (.int (-13 : Int32))) (σ' := (97, I, J, R)) rfl hQ
                      · rw [if_neg hc_815] at h
                        refine az_E.sn 3 (pc' := 13) (L' := [.ref 65, .int v4, .int v5]) (S' := [.int (I 65 2), .int v4]) (σ' := (97, I, J, R)) rfl ?_
                        refine az_E.br (c := (I 65 2) < v4) (tt := 30) (ff := 16) (L' := [.ref 65, .int v4, .int v5]) (S' := []) (σ' := (97, I, J, R)) rfl (fun hc_816 => ?_) (fun hc_816 => ?_)
                        · rw [if_pos hc_816] at h
                          refine az_E.sn 1 (pc' := 31) (L' := [.ref 65, .int v4, .int v5]) (S' := [.int (0 : Int32)]) (σ' := (97, I, J, R)) rfl ?_
                          refine az_E.ret (v := some (.int (0 : Int32))) (σ' := (97, I, J, R)) rfl ?_
                          show az_E az_F ex 2 128 95 [.retAddr 0, .retAddr 0, .int v2, .retAddr 0, .int v4, .int v5, .ref 65, .ref 65] [.int (0 : Int32)] (97, I, J, R) _
                          refine az_E.br (c := (0 : Int32) = 0) (tt := 98) (ff := 101) (L' := [.retAddr 0, .retAddr 0, .int v2, .retAddr 0, .int v4, .int v5, .ref 65, .ref 65]) (S' := []) (σ' := (97, I, J, R)) rfl (fun _ => ?_) (fun hn => absurd (by decide) hn)
                          refine az_E.sn 1 (pc' := 100) (L' := [.retAddr 0, .retAddr 0, .int v2, .retAddr 0, .int v4, .int v5, .ref 65, .ref 65]) (S' := [.int (-13 : Int32)]) (σ' := (97, I, J, R)) rfl ?_
                          have h := Option.some.inj h
                          subst h
                          exact az_E.ret (v := some (.int (-13 : Int32))) (σ' := (97, I, J, R)) rfl hQ
                        · rw [if_neg hc_816] at h
                          refine az_E.sn 5 (pc' := 23) (L' := [.ref 65, .int v4, .int v5]) (S' := [.int ((I 65 2) - v4), .int v5]) (σ' := (97, I, J, R)) rfl ?_
                          refine az_E.br (c := ((I 65 2) - v4) < v5) (tt := 30) (ff := 26) (L' := [.ref 65, .int v4, .int v5]) (S' := []) (σ' := (97, I, J, R)) rfl (fun hc_817 => ?_) (fun hc_817 => ?_)
                          · rw [if_pos hc_817] at h
                            refine az_E.sn 1 (pc' := 31) (L' := [.ref 65, .int v4, .int v5]) (S' := [.int (0 : Int32)]) (σ' := (97, I, J, R)) rfl ?_
                            refine az_E.ret (v := some (.int (0 : Int32))) (σ' := (97, I, J, R)) rfl ?_
                            show az_E az_F ex 2 128 95 [.retAddr 0, .retAddr 0, .int v2, .retAddr 0, .int v4, .int v5, .ref 65, .ref 65] [.int (0 : Int32)] (97, I, J, R) _
                            refine az_E.br (c := (0 : Int32) = 0) (tt := 98) (ff := 101) (L' := [.retAddr 0, .retAddr 0, .int v2, .retAddr 0, .int v4, .int v5, .ref 65, .ref 65]) (S' := []) (σ' := (97, I, J, R)) rfl (fun _ => ?_) (fun hn => absurd (by decide) hn)
                            refine az_E.sn 1 (pc' := 100) (L' := [.retAddr 0, .retAddr 0, .int v2, .retAddr 0, .int v4, .int v5, .ref 65, .ref 65]) (S' := [.int (-13 : Int32)]) (σ' := (97, I, J, R)) rfl ?_
                            have h := Option.some.inj h
                            subst h
                            exact az_E.ret (v := some (.int (-13 : Int32))) (σ' := (97, I, J, R)) rfl hQ
                          · rw [if_neg hc_817] at h
                            refine az_E.sn 2 (pc' := 31) (L' := [.ref 65, .int v4, .int v5]) (S' := [.int (1 : Int32)]) (σ' := (97, I, J, R)) rfl ?_
                            refine az_E.ret (v := some (.int (1 : Int32))) (σ' := (97, I, J, R)) rfl ?_
                            show az_E az_F ex 2 128 95 [.retAddr 0, .retAddr 0, .int v2, .retAddr 0, .int v4, .int v5, .ref 65, .ref 65] [.int (1 : Int32)] (97, I, J, R) _
                            refine az_E.br (c := (1 : Int32) = 0) (tt := 98) (ff := 101) (L' := [.retAddr 0, .retAddr 0, .int v2, .retAddr 0, .int v4, .int v5, .ref 65, .ref 65]) (S' := []) (σ' := (97, I, J, R)) rfl (fun hn => absurd hn (by decide)) (fun _ => ?_)
                            refine az_E.sn 7 (pc' := 116) (L' := [.retAddr 0, .retAddr 0, .int v2, .retAddr 0, .int v4, .int v5, .ref 65, .ref 65]) (S' := [.int v5, .int v4, .ref (65 + 1), .int v2, .ref (65 + 1)]) (σ' := (97, I, J, R)) rfl ?_
                            by_cases hc_818 : v2 < 0 ∨ v4 < 0 ∨ v5 < 0 ∨ 60 < v2.toNatClampNeg + v5.toNatClampNeg ∨ 60 < v4.toNatClampNeg + v5.toNatClampNeg
                            · rw [if_pos hc_818] at h; cases h
                            · rw [if_neg hc_818] at h
                              refine az_E.o (o := az_cp az_F (97, I, J, R) (65 + 1) v2 (65 + 1) v4 v5) (pc' := 119) (L' := [.retAddr 0, .retAddr 0, .int v2, .retAddr 0, .int v4, .int v5, .ref 65, .ref 65]) (S' := []) (x := (97, I, (az_ur J (65 + 1) (va_cpy (J (65 + 1)) (J (65 + 1)) v2.toNatClampNeg v4.toNatClampNeg v5.toNatClampNeg)), R)) rfl (if_neg hc_818) ?_
                              refine az_E.sn 1 (pc' := 121) (L' := [.retAddr 0, .retAddr 0, .int v2, .retAddr 0, .int v4, .int v5, .ref 65, .ref 65]) (S' := [.int v5]) (σ' := (97, I, (az_ur J (65 + 1) (va_cpy (J (65 + 1)) (J (65 + 1)) v2.toNatClampNeg v4.toNatClampNeg v5.toNatClampNeg)), R)) rfl ?_
                              have h := Option.some.inj h
                              subst h
                              exact az_E.ret (v := some (.int v5)) (σ' := (97, I, (az_ur J (65 + 1) (va_cpy (J (65 + 1)) (J (65 + 1)) v2.toNatClampNeg v4.toNatClampNeg v5.toNatClampNeg)), R)) rfl hQ
          · rw [if_neg hc_809] at h
            refine az_E.sn 1 (pc' := 20) (L' := [.ref 65, .int (I 65 1)]) (S' := [.int (0 : Int32)]) (σ' := (97, I, J, R)) rfl ?_
            refine az_E.ret (v := some (.int (0 : Int32))) (σ' := (97, I, J, R)) rfl ?_
            show az_E az_F ex 2 128 69 [.retAddr 0, .retAddr 0, .int v2, .retAddr 0, .int v4, .int v5, .ref 65, .ref 65] [.int (0 : Int32)] (97, I, J, R) _
            refine az_E.br (c := (0 : Int32) = 0) (tt := 72) (ff := 75) (L' := [.retAddr 0, .retAddr 0, .int v2, .retAddr 0, .int v4, .int v5, .ref 65, .ref 65]) (S' := []) (σ' := (97, I, J, R)) rfl (fun _ => ?_) (fun hn => absurd (by decide) hn)
            refine az_E.sn 1 (pc' := 74) (L' := [.retAddr 0, .retAddr 0, .int v2, .retAddr 0, .int v4, .int v5, .ref 65, .ref 65]) (S' := [.int (-12 : Int32)]) (σ' := (97, I, J, R)) rfl ?_
            have h := Option.some.inj h
            subst h
            exact az_E.ret (v := some (.int (-12 : Int32))) (σ' := (97, I, J, R)) rfl hQ

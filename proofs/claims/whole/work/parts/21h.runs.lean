set_option maxRecDepth 100000 in
set_option maxHeartbeats 4000000 in
theorem re_X_shift_30_65_67 {ex : az_X} {I : Nat → Nat → Int32} {J : Nat → Nat → Int64} {R : Nat → Nat → Option Nat} {v2 : Int32} {v4 : Int32} {v5 : Int32} {x : Int32 × (Nat → Nat → Int64)} (h : rs_X_shift_30 65 67 I J v2 v4 v5 = some x) {Q : Option Value → az_S → Prop} (hQ : Q (some (.int x.1)) (97, I, x.2, R)) : az_E az_F ex 2 128 30 [.retAddr 0, .retAddr 0, .int v2, .retAddr 0, .int v4, .int v5, .ref 65, .retAddr 0] [.ref 67] (97, I, J, R) Q := by
  unfold rs_X_shift_30 at h
  refine az_E.sn 2 (pc' := 34) (L' := [.retAddr 0, .retAddr 0, .int v2, .retAddr 0, .int v4, .int v5, .ref 65, .ref 67]) (S' := [.ref 65]) (σ' := (97, I, J, R)) rfl ?_
  refine az_E.call (d := 1) (k' := 54) (vs := [.ref 65]) (pc' := 37) (S' := []) rfl ?_ (fun _ _ hq => hq)
  show az_E az_F ex 1 54 0 [.ref 65] [] (97, I, J, R) _
  refine az_E.sn 3 (pc' := 5) (L' := [.ref 65]) (S' := [.int (-1 : Int32), .int (I 65 0)]) (σ' := (97, I, J, R)) rfl ?_
  refine az_E.br (c := (I 65 0) = (-1 : Int32)) (tt := 8) (ff := 20) (L' := [.ref 65]) (S' := []) (σ' := (97, I, J, R)) rfl (fun hc_819 => ?_) (fun hc_819 => ?_)
  · rw [if_pos hc_819] at h
    refine az_E.sn 3 (pc' := 13) (L' := [.ref 65]) (S' := [.int (-1 : Int32), .int (I 65 1)]) (σ' := (97, I, J, R)) rfl ?_
    refine az_E.br (c := (I 65 1) = (-1 : Int32)) (tt := 16) (ff := 20) (L' := [.ref 65]) (S' := []) (σ' := (97, I, J, R)) rfl (fun hc_820 => ?_) (fun hc_820 => ?_)
    · rw [if_pos hc_820] at h
      refine az_E.sn 2 (pc' := 21) (L' := [.ref 65]) (S' := [.int (1 : Int32)]) (σ' := (97, I, J, R)) rfl ?_
      refine az_E.ret (v := some (.int (1 : Int32))) (σ' := (97, I, J, R)) rfl ?_
      show az_E az_F ex 2 128 37 [.retAddr 0, .retAddr 0, .int v2, .retAddr 0, .int v4, .int v5, .ref 65, .ref 67] [.int (1 : Int32)] (97, I, J, R) _
      refine az_E.br (c := (1 : Int32) = 0) (tt := 40) (ff := 48) (L' := [.retAddr 0, .retAddr 0, .int v2, .retAddr 0, .int v4, .int v5, .ref 65, .ref 67]) (S' := []) (σ' := (97, I, J, R)) rfl (fun hn => absurd hn (by decide)) (fun _ => ?_)
      refine az_E.sn 1 (pc' := 50) (L' := [.retAddr 0, .retAddr 0, .int v2, .retAddr 0, .int v4, .int v5, .ref 65, .ref 67]) (S' := [.int (-11 : Int32)]) (σ' := (97, I, J, R)) rfl ?_
      have h := Option.some.inj h
      subst h
      exact az_E.ret (v := some (.int (-11 : Int32))) (σ' := (97, I, J, R)) rfl hQ
    · rw [if_neg hc_820] at h
      refine az_E.sn 1 (pc' := 21) (L' := [.ref 65]) (S' := [.int (0 : Int32)]) (σ' := (97, I, J, R)) rfl ?_
      refine az_E.ret (v := some (.int (0 : Int32))) (σ' := (97, I, J, R)) rfl ?_
      show az_E az_F ex 2 128 37 [.retAddr 0, .retAddr 0, .int v2, .retAddr 0, .int v4, .int v5, .ref 65, .ref 67] [.int (0 : Int32)] (97, I, J, R) _
      refine az_E.br (c := (0 : Int32) = 0) (tt := 40) (ff := 48) (L' := [.retAddr 0, .retAddr 0, .int v2, .retAddr 0, .int v4, .int v5, .ref 65, .ref 67]) (S' := []) (σ' := (97, I, J, R)) rfl (fun _ => ?_) (fun hn => absurd (by decide) hn)
      refine az_E.sn 1 (pc' := 42) (L' := [.retAddr 0, .retAddr 0, .int v2, .retAddr 0, .int v4, .int v5, .ref 65, .ref 67]) (S' := [.ref 67]) (σ' := (97, I, J, R)) rfl ?_
      refine az_E.call (d := 1) (k' := 54) (vs := [.ref 67]) (pc' := 45) (S' := []) rfl ?_ (fun _ _ hq => hq)
      show az_E az_F ex 1 54 0 [.ref 67] [] (97, I, J, R) _
      refine az_E.sn 3 (pc' := 5) (L' := [.ref 67]) (S' := [.int (-1 : Int32), .int (I 67 0)]) (σ' := (97, I, J, R)) rfl ?_
      refine az_E.br (c := (I 67 0) = (-1 : Int32)) (tt := 8) (ff := 20) (L' := [.ref 67]) (S' := []) (σ' := (97, I, J, R)) rfl (fun hc_821 => ?_) (fun hc_821 => ?_)
      · rw [if_pos hc_821] at h
        refine az_E.sn 3 (pc' := 13) (L' := [.ref 67]) (S' := [.int (-1 : Int32), .int (I 67 1)]) (σ' := (97, I, J, R)) rfl ?_
        refine az_E.br (c := (I 67 1) = (-1 : Int32)) (tt := 16) (ff := 20) (L' := [.ref 67]) (S' := []) (σ' := (97, I, J, R)) rfl (fun hc_822 => ?_) (fun hc_822 => ?_)
        · rw [if_pos hc_822] at h
          refine az_E.sn 2 (pc' := 21) (L' := [.ref 67]) (S' := [.int (1 : Int32)]) (σ' := (97, I, J, R)) rfl ?_
          refine az_E.ret (v := some (.int (1 : Int32))) (σ' := (97, I, J, R)) rfl ?_
          show az_E az_F ex 2 128 45 [.retAddr 0, .retAddr 0, .int v2, .retAddr 0, .int v4, .int v5, .ref 65, .ref 67] [.int (1 : Int32)] (97, I, J, R) _
          refine az_E.br (c := (1 : Int32) = 0) (tt := 51) (ff := 48) (L' := [.retAddr 0, .retAddr 0, .int v2, .retAddr 0, .int v4, .int v5, .ref 65, .ref 67]) (S' := []) (σ' := (97, I, J, R)) rfl (fun hn => absurd hn (by decide)) (fun _ => ?_)
          refine az_E.sn 1 (pc' := 50) (L' := [.retAddr 0, .retAddr 0, .int v2, .retAddr 0, .int v4, .int v5, .ref 65, .ref 67]) (S' := [.int (-11 : Int32)]) (σ' := (97, I, J, R)) rfl ?_
          have h := Option.some.inj h
          subst h
          exact az_E.ret (v := some (.int (-11 : Int32))) (σ' := (97, I, J, R)) rfl hQ
        · rw [if_neg hc_822] at h
          refine az_E.sn 1 (pc' := 21) (L' := [.ref 67]) (S' := [.int (0 : Int32)]) (σ' := (97, I, J, R)) rfl ?_
          refine az_E.ret (v := some (.int (0 : Int32))) (σ' := (97, I, J, R)) rfl ?_
          show az_E az_F ex 2 128 45 [.retAddr 0, .retAddr 0, .int v2, .retAddr 0, .int v4, .int v5, .ref 65, .ref 67] [.int (0 : Int32)] (97, I, J, R) _
          refine az_E.br (c := (0 : Int32) = 0) (tt := 51) (ff := 48) (L' := [.retAddr 0, .retAddr 0, .int v2, .retAddr 0, .int v4, .int v5, .ref 65, .ref 67]) (S' := []) (σ' := (97, I, J, R)) rfl (fun _ => ?_) (fun hn => absurd (by decide) hn)
          refine az_E.sn 1 (pc' := 53) (L' := [.retAddr 0, .retAddr 0, .int v2, .retAddr 0, .int v4, .int v5, .ref 65, .ref 67]) (S' := [.ref 65]) (σ' := (97, I, J, R)) rfl ?_
          refine az_E.call (d := 1) (k' := 55) (vs := [.ref 65]) (pc' := 56) (S' := []) rfl ?_ (fun _ _ hq => hq)
          show az_E az_F ex 1 55 0 [.ref 65] [] (97, I, J, R) _
          refine az_E.sn 3 (pc' := 5) (L' := [.ref 65]) (S' := [.int (-1 : Int32), .int (I 65 1)]) (σ' := (97, I, J, R)) rfl ?_
          refine az_E.br (c := (I 65 1) = (-1 : Int32)) (tt := 12) (ff := 8) (L' := [.ref 65]) (S' := []) (σ' := (97, I, J, R)) rfl (fun hc_823 => ?_) (fun hc_823 => ?_)
          · rw [if_pos hc_823] at h
            refine az_E.sn 1 (pc' := 13) (L' := [.ref 65]) (S' := [.int (0 : Int32)]) (σ' := (97, I, J, R)) rfl ?_
            refine az_E.ret (v := some (.int (0 : Int32))) (σ' := (97, I, J, R)) rfl ?_
            show az_E az_F ex 2 128 56 [.retAddr 0, .retAddr 0, .int v2, .retAddr 0, .int v4, .int v5, .ref 65, .ref 67] [.int (0 : Int32)] (97, I, J, R) _
            refine az_E.br (c := (0 : Int32) = 0) (tt := 72) (ff := 59) (L' := [.retAddr 0, .retAddr 0, .int v2, .retAddr 0, .int v4, .int v5, .ref 65, .ref 67]) (S' := []) (σ' := (97, I, J, R)) rfl (fun _ => ?_) (fun hn => absurd (by decide) hn)
            refine az_E.sn 1 (pc' := 74) (L' := [.retAddr 0, .retAddr 0, .int v2, .retAddr 0, .int v4, .int v5, .ref 65, .ref 67]) (S' := [.int (-12 : Int32)]) (σ' := (97, I, J, R)) rfl ?_
            have h := Option.some.inj h
            subst h
            exact az_E.ret (v := some (.int (-12 : Int32))) (σ' := (97, I, J, R)) rfl hQ
          · rw [if_neg hc_823] at h
            refine az_E.sn 2 (pc' := 13) (L' := [.ref 65]) (S' := [.int (1 : Int32)]) (σ' := (97, I, J, R)) rfl ?_
            refine az_E.ret (v := some (.int (1 : Int32))) (σ' := (97, I, J, R)) rfl ?_
            show az_E az_F ex 2 128 56 [.retAddr 0, .retAddr 0, .int v2, .retAddr 0, .int v4, .int v5, .ref 65, .ref 67] [.int (1 : Int32)] (97, I, J, R) _
            refine az_E.br (c := (1 : Int32) = 0) (tt := 72) (ff := 59) (L' := [.retAddr 0, .retAddr 0, .int v2, .retAddr 0, .int v4, .int v5, .ref 65, .ref 67]) (S' := []) (σ' := (97, I, J, R)) rfl (fun hn => absurd hn (by decide)) (fun _ => ?_)
            refine az_E.sn 3 (pc' := 66) (L' := [.retAddr 0, .retAddr 0, .int v2, .retAddr 0, .int v4, .int v5, .ref 65, .ref 67]) (S' := [.int (I 65 1), .ref 67]) (σ' := (97, I, J, R)) rfl ?_
            refine az_E.call (d := 1) (k' := 56) (vs := [.ref 67, .int (I 65 1)]) (pc' := 69) (S' := []) rfl ?_ (fun _ _ hq => hq)
            show az_E az_F ex 1 56 0 [.ref 67, .int (I 65 1)] [] (97, I, J, R) _
            refine az_E.sn 1 (pc' := 1) (L' := [.ref 67, .int (I 65 1)]) (S' := [.ref 67]) (σ' := (97, I, J, R)) rfl ?_
            refine az_E.call (d := 0) (k' := 55) (vs := [.ref 67]) (pc' := 4) (S' := []) rfl ?_ (fun _ _ hq => hq)
            show az_E az_F ex 0 55 0 [.ref 67] [] (97, I, J, R) _
            refine az_E.sn 3 (pc' := 5) (L' := [.ref 67]) (S' := [.int (-1 : Int32), .int (I 67 1)]) (σ' := (97, I, J, R)) rfl ?_
            refine az_E.br (c := (I 67 1) = (-1 : Int32)) (tt := 12) (ff := 8) (L' := [.ref 67]) (S' := []) (σ' := (97, I, J, R)) rfl (fun hc_824 => ?_) (fun hc_824 => ?_)
            · rw [if_pos hc_824] at h
              refine az_E.sn 1 (pc' := 13) (L' := [.ref 67]) (S' := [.int (0 : Int32)]) (σ' := (97, I, J, R)) rfl ?_
              refine az_E.ret (v := some (.int (0 : Int32))) (σ' := (97, I, J, R)) rfl ?_
              show az_E az_F ex 1 56 4 [.ref 67, .int (I 65 1)] [.int (0 : Int32)] (97, I, J, R) _
              refine az_E.br (c := (0 : Int32) = 0) (tt := 19) (ff := 7) (L' := [.ref 67, .int (I 65 1)]) (S' := []) (σ' := (97, I, J, R)) rfl (fun _ => ?_) (fun hn => absurd (by decide) hn)
              refine az_E.sn 1 (pc' := 20) (L' := [.ref 67, .int (I 65 1)]) (S' := [.int (0 : Int32)]) (σ' := (97, I, J, R)) rfl ?_
              refine az_E.ret (v := some (.int (0 : Int32))) (σ' := (97, I, J, R)) rfl ?_
              show az_E az_F ex 2 128 69 [.retAddr 0, .retAddr 0, .int v2, .retAddr 0, .int v4, .int v5, .ref 65, .ref 67] [.int (0 : Int32)] (97, I, J, R) _
              refine az_E.br (c := (0 : Int32) = 0) (tt := 72) (ff := 75) (L' := [.retAddr 0, .retAddr 0, .int v2, .retAddr 0, .int v4, .int v5, .ref 65, .ref 67]) (S' := []) (σ' := (97, I, J, R)) rfl (fun _ => ?_) (fun hn => absurd (by decide) hn)
              refine az_E.sn 1 (pc' := 74) (L' := [.retAddr 0, .retAddr 0, .int v2, .retAddr 0, .int v4, .int v5, .ref 65, .ref 67]) (S' := [.int (-12 : Int32)]) (σ' := (97, I, J, R)) rfl ?_
              have h := Option.some.inj h
              subst h
              exact az_E.ret (v := some (.int (-12 : Int32))) (σ' := (97, I, J, R)) rfl hQ
            · rw [if_neg hc_824] at h
              refine az_E.sn 2 (pc' := 13) (L' := [.ref 67]) (S' := [.int (1 : Int32)]) (σ' := (97, I, J, R)) rfl ?_
              refine az_E.ret (v := some (.int (1 : Int32))) (σ' := (97, I, J, R)) rfl ?_
              show az_E az_F ex 1 56 4 [.ref 67, .int (I 65 1)] [.int (1 : Int32)] (97, I, J, R) _
              refine az_E.br (c := (1 : Int32) = 0) (tt := 19) (ff := 7) (L' := [.ref 67, .int (I 65 1)]) (S' := []) (σ' := (97, I, J, R)) rfl (fun hn => absurd hn (by decide)) (fun _ => ?_)
              refine az_E.sn 3 (pc' := 12) (L' := [.ref 67, .int (I 65 1)]) (S' := [.int (I 65 1), .int (I 67 1)]) (σ' := (97, I, J, R)) rfl ?_
              refine az_E.br (c := (I 67 1) = (I 65 1)) (tt := 15) (ff := 19) (L' := [.ref 67, .int (I 65 1)]) (S' := []) (σ' := (97, I, J, R)) rfl (fun hc_825 => ?_) (fun hc_825 => ?_)
              · rw [if_pos hc_825] at h
                refine az_E.sn 2 (pc' := 20) (L' := [.ref 67, .int (I 65 1)]) (S' := [.int (1 : Int32)]) (σ' := (97, I, J, R)) rfl ?_
                refine az_E.ret (v := some (.int (1 : Int32))) (σ' := (97, I, J, R)) rfl ?_
                show az_E az_F ex 2 128 69 [.retAddr 0, .retAddr 0, .int v2, .retAddr 0, .int v4, .int v5, .ref 65, .ref 67] [.int (1 : Int32)] (97, I, J, R) _
                refine az_E.br (c := (1 : Int32) = 0) (tt := 72) (ff := 75) (L' := [.retAddr 0, .retAddr 0, .int v2, .retAddr 0, .int v4, .int v5, .ref 65, .ref 67]) (S' := []) (σ' := (97, I, J, R)) rfl (fun hn => absurd hn (by decide)) (fun _ => ?_)
                refine az_E.sn 3 (pc' := 80) (L' := [.retAddr 0, .retAddr 0, .int v2, .retAddr 0, .int v4, .int v5, .ref 65, .ref 67]) (S' := [.int v5, .int v2, .ref 65]) (σ' := (97, I, J, R)) rfl ?_
                refine az_E.call (d := 1) (k' := 60) (vs := [.ref 65, .int v2, .int v5]) (pc' := 83) (S' := []) rfl ?_ (fun _ _ hq => hq)
                show az_E az_F ex 1 60 0 [.ref 65, .int v2, .int v5] [] (97, I, J, R) _
                refine az_E.sn 1 (pc' := 1) (L' := [.ref 65, .int v2, .int v5]) (S' := [.int v2]) (σ' := (97, I, J, R)) rfl ?_
                refine az_E.br (c := v2 < 0) (tt := 30) (ff := 4) (L' := [.ref 65, .int v2, .int v5]) (S' := []) (σ' := (97, I, J, R)) rfl (fun hc_826 => ?_) (fun hc_826 => ?_)
                · rw [if_pos hc_826] at h
                  refine az_E.sn 1 (pc' := 31) (L' := [.ref 65, .int v2, .int v5]) (S' := [.int (0 : Int32)]) (σ' := (97, I, J, R)) rfl ?_
                  refine az_E.ret (v := some (.int (0 : Int32))) (σ' := (97, I, J, R)) rfl ?_
                  show az_E az_F ex 2 128 83 [.retAddr 0, .retAddr 0, .int v2, .retAddr 0, .int v4, .int v5, .ref 65, .ref 67] [.int (0 : Int32)] (97, I, J, R) _
                  refine az_E.br (c := (0 : Int32) = 0) (tt := 98) (ff := 86) (L' := [.retAddr 0, .retAddr 0, .int v2, .retAddr 0, .int v4, .int v5, .ref 65, .ref 67]) (S' := []) (σ' := (97, I, J, R)) rfl (fun _ => ?_) (fun hn => absurd (by decide) hn)
                  refine az_E.sn 1 (pc' := 100) (L' := [.retAddr 0, .retAddr 0, .int v2, .retAddr 0, .int v4, .int v5, .ref 65, .ref 67]) (S' := [.int (-13 : Int32)]) (σ' := (97, I, J, R)) rfl ?_
                  have h := Option.some.inj h
                  subst h
                  exact az_E.ret (v := some (.int (-13 : Int32))) (σ' := (97, I, J, R)) rfl hQ
                · rw [if_neg hc_826] at h
                  refine az_E.sn 1 (pc' := 5) (L' := [.ref 65, .int v2, .int v5]) (S' := [.int v5]) (σ' := (97, I, J, R)) rfl ?_
                  refine az_E.br (c := v5 < 0) (tt := 30) (ff := 8) (L' := [.ref 65, .int v2, .int v5]) (S' := []) (σ' := (97, I, J, R)) rfl (fun hc_827 => ?_) (fun hc_827 => ?_)
                  · rw [if_pos hc_827] at h
                    refine az_E.sn 1 (pc' := 31) (L' := [.ref 65, .int v2, .int v5]) (S' := [.int (0 : Int32)]) (σ' := (97, I, J, R)) rfl ?_
                    refine az_E.ret (v := some (.int (0 : Int32))) (σ' := (97, I, J, R)) rfl ?_
                    show az_E az_F ex 2 128 83 [.retAddr 0, .retAddr 0, .int v2, .retAddr 0, .int v4, .int v5, .ref 65, .ref 67] [.int (0 : Int32)] (97, I, J, R) _
                    refine az_E.br (c := (0 : Int32) = 0) (tt := 98) (ff := 86) (L' := [.retAddr 0, .retAddr 0, .int v2, .retAddr 0, .int v4, .int v5, .ref 65, .ref 67]) (S' := []) (σ' := (97, I, J, R)) rfl (fun _ => ?_) (fun hn => absurd (by decide) hn)
                    refine az_E.sn 1 (pc' := 100) (L' := [.retAddr 0, .retAddr 0, .int v2, .retAddr 0, .int v4, .int v5, .ref 65, .ref 67]) (S' := [.int (-13 : Int32)]) (σ' := (97, I, J, R)) rfl ?_
                    have h := Option.some.inj h
                    subst h
                    exact az_E.ret (v := some (.int (-13 : Int32))) (σ' := (97, I, J, R)) rfl hQ
                  · rw [if_neg hc_827] at h
                    refine az_E.sn 3 (pc' := 13) (L' := [.ref 65, .int v2, .int v5]) (S' := [.int (I 65 2), .int v2]) (σ' := (97, I, J, R)) rfl ?_
                    refine az_E.br (c := (I 65 2) < v2) (tt := 30) (ff := 16) (L' := [.ref 65, .int v2, .int v5]) (S' := []) (σ' := (97, I, J, R)) rfl (fun hc_828 => ?_) (fun hc_828 => ?_)
                    · rw [if_pos hc_828] at h
                      refine az_E.sn 1 (pc' := 31) (L' := [.ref 65, .int v2, .int v5]) (S' := [.int (0 : Int32)]) (σ' := (97, I, J, R)) rfl ?_
                      refine az_E.ret (v := some (.int (0 : Int32))) (σ' := (97, I, J, R)) rfl ?_
                      show az_E az_F ex 2 128 83 [.retAddr 0, .retAddr 0, .int v2, .retAddr 0, .int v4, .int v5, .ref 65, .ref 67] [.int (0 : Int32)] (97, I, J, R) _
                      refine az_E.br (c := (0 : Int32) = 0) (tt := 98) (ff := 86) (L' := [.retAddr 0, .retAddr 0, .int v2, .retAddr 0, .int v4, .int v5, .ref 65, .ref 67]) (S' := []) (σ' := (97, I, J, R)) rfl (fun _ => ?_) (fun hn => absurd (by decide) hn)
                      refine az_E.sn 1 (pc' := 100) (L' := [.retAddr 0, .retAddr 0, .int v2, .retAddr 0, .int v4, .int v5, .ref 65, .ref 67]) (S' := [.int (-13 : Int32)]) (σ' := (97, I, J, R)) rfl ?_
                      have h := Option.some.inj h
                      subst h
                      exact az_E.ret (v := some (.int (-13 : Int32))) (σ' := (97, I, J, R)) rfl hQ
                    · rw [if_neg hc_828] at h
                      refine az_E.sn 5 (pc' := 23) (L' := [.ref 65, .int v2, .int v5]) (S' := [.int ((I 65 2) - v2), .int v5]) (σ' := (97, I, J, R)) rfl ?_
                      refine az_E.br (c := ((I 65 2) - v2) < v5) (tt := 30) (ff := 26) (L' := [.ref 65, .int v2, .int v5]) (S' := []) (σ' := (97, I, J, R)) rfl (fun hc_829 => ?_) (fun hc_829 => ?_)
                      · rw [if_pos hc_829] at h
                        refine az_E.sn 1 (pc' := 31) (L' := [.ref 65, .int v2, .int v5]) (S' := [.int (0 : Int32)]) (σ' := (97, I, J, R)) rfl ?_
                        refine az_E.ret (v := some (.int (0 : Int32))) (σ' := (97, I, J, R)) rfl ?_
                        show az_E az_F ex 2 128 83 [.retAddr 0, .retAddr 0, .int v2, .retAddr 0, .int v4, .int v5, .ref 65, .ref 67] [.int (0 : Int32)] (97, I, J, R) _
                        refine az_E.br (c := (0 : Int32) = 0) (tt := 98) (ff := 86) (L' := [.retAddr 0, .retAddr 0, .int v2, .retAddr 0, .int v4, .int v5, .ref 65, .ref 67]) (S' := []) (σ' := (97, I, J, R)) rfl (fun _ => ?_) (fun hn => absurd (by decide) hn)
                        refine az_E.sn 1 (pc' := 100) (L' := [.retAddr 0, .retAddr 0, .int v2, .retAddr 0, .int v4, .int v5, .ref 65, .ref 67]) (S' := [.int (-13 : Int32)]) (σ' := (97, I, J, R)) rfl ?_
                        have h := Option.some.inj h
                        subst h
                        exact az_E.ret (v := some (.int (-13 : Int32))) (σ' := (97, I, J, R)) rfl hQ
                      · rw [if_neg hc_829] at h
                        refine az_E.sn 2 (pc' := 31) (L' := [.ref 65, .int v2, .int v5]) (S' := [.int (1 : Int32)]) (σ' := (97, I, J, R)) rfl ?_
                        refine az_E.ret (v := some (.int (1 : Int32))) (σ' := (97, I, J, R)) rfl ?_
                        show az_E az_F ex 2 128 83 [.retAddr 0, .retAddr 0, .int v2, .retAddr 0, .int v4, .int v5, .ref 65, .ref 67] [.int (1 : Int32)] (97, I, J, R) _
                        refine az_E.br (c := (1 : Int32) = 0) (tt := 98) (ff := 86) (L' := [.retAddr 0, .retAddr 0, .int v2, .retAddr 0, .int v4, .int v5, .ref 65, .ref 67]) (S' := []) (σ' := (97, I, J, R)) rfl (fun hn => absurd hn (by decide)) (fun _ => ?_)
                        refine az_E.sn 3 (pc' := 92) (L' := [.retAddr 0, .retAddr 0, .int v2, .retAddr 0, .int v4, .int v5, .ref 65, .ref 67]) (S' := [.int v5, .int v4, .ref 67]) (σ' := (97, I, J, R)) rfl ?_
                        refine az_E.call (d := 1) (k' := 60) (vs := [.ref 67, .int v4, .int v5]) (pc' := 95) (S' := []) rfl ?_ (fun _ _ hq => hq)
                        show az_E az_F ex 1 60 0 [.ref 67, .int v4, .int v5] [] (97, I, J, R) _
                        refine az_E.sn 1 (pc' := 1) (L' := [.ref 67, .int v4, .int v5]) (S' := [.int v4]) (σ' := (97, I, J, R)) rfl ?_
                        refine az_E.br (c := v4 < 0) (tt := 30) (ff := 4) (L' := [.ref 67, .int v4, .int v5]) (S' := []) (σ' := (97, I, J, R)) rfl (fun hc_830 => ?_) (fun hc_830 => ?_)
                        · rw [if_pos hc_830] at h
                          refine az_E.sn 1 (pc' := 31) (L' := [.ref 67, .int v4, .int v5]) (S' := [.int (0 : Int32)]) (σ' := (97, I, J, R)) rfl ?_
                          refine az_E.ret (v := some (.int (0 : Int32))) (σ' := (97, I, J, R)) rfl ?_
                          show az_E az_F ex 2 128 95 [.retAddr 0, .retAddr 0, .int v2, .retAddr 0, .int v4, .int v5, .ref 65, .ref 67] [.int (0 : Int32)] (97, I, J, R) _
                          refine az_E.br (c := (0 : Int32) = 0) (tt := 98) (ff := 101) (L' := [.retAddr 0, .retAddr 0, .int v2, .retAddr 0, .int v4, .int v5, .ref 65, .ref 67]) (S' := []) (σ' := (97, I, J, R)) rfl (fun _ => ?_) (fun hn => absurd (by decide) hn)
                          refine az_E.sn 1 (pc' := 100) (L' := [.retAddr 0, .retAddr 0, .int v2, .retAddr 0, .int v4, .int v5, .ref 65, .ref 67]) (S' := [.int (-13 : Int32)]) (σ' := (97, I, J, R)) rfl ?_
                          have h := Option.some.inj h
                          subst h
                          exact az_E.ret (v := some (.int (-13 : Int32))) (σ' := (97, I, J, R)) rfl hQ
                        · rw [if_neg hc_830] at h
                          refine az_E.sn 1 (pc' := 5) (L' := [.ref 67, .int v4, .int v5]) (S' := [.int v5]) (σ' := (97, I, J, R)) rfl ?_
                          refine az_E.br (c := v5 < 0) (tt := 30) (ff := 8) (L' := [.ref 67, .int v4, .int v5]) (S' := []) (σ' := (97, I, J, R)) rfl (fun hc_831 => ?_) (fun hc_831 => ?_)
                          · rw [if_pos hc_831] at h
                            refine az_E.sn 1 (pc' := 31) (L' := [.ref 67, .int v4, .int v5]) (S' := [.int (0 : Int32)]) (σ' := (97, I, J, R)) rfl ?_
                            refine az_E.ret (v := some (.int (0 : Int32))) (σ' := (97, I, J, R)) rfl ?_
                            show az_E az_F ex 2 128 95 [.retAddr 0, .retAddr 0, .int v2, .retAddr 0, .int v4, .int v5, .ref 65, .ref 67] [.int (0 : Int32)] (97, I, J, R) _
                            refine az_E.br (c := (0 : Int32) = 0) (tt := 98) (ff := 101) (L' := [.retAddr 0, .retAddr 0, .int v2, .retAddr 0, .int v4, .int v5, .ref 65, .ref 67]) (S' := []) (σ' := (97, I, J, R)) rfl (fun _ => ?_) (fun hn => absurd (by decide) hn)
                            refine az_E.sn 1 (pc' := 100) (L' := [.retAddr 0, .retAddr 0, .int v2, .retAddr 0, .int v4, .int v5, .ref 65, .ref 67]) (S' := [.int (-13 : Int32)]) (σ' := (97, I, J, R)) rfl ?_
                            have h := Option.some.inj h
                            subst h
                            exact az_E.ret (v := some (.int (-13 : Int32))) (σ' := (97, I, J, R)) rfl hQ
                          · rw [if_neg hc_831] at h
                            refine az_E.sn 3 (pc' := 13) (L' := [.ref 67, .int v4, .int v5]) (S' := [.int (I 67 2), .int v4]) (σ' := (97, I, J, R)) rfl ?_
                            refine az_E.br (c := (I 67 2) < v4) (tt := 30) (ff := 16) (L' := [.ref 67, .int v4, .int v5]) (S' := []) (σ' := (97, I, J, R)) rfl (fun hc_832 => ?_) (fun hc_832 => ?_)
                            · rw [if_pos hc_832] at h
                              refine az_E.sn 1 (pc' := 31) (L' := [.ref 67, .int v4, .int v5]) (S' := [.int (0 : Int32)]) (σ' := (97, I, J, R)) rfl ?_
                              refine az_E.ret (v := some (.int (0 : Int32))) (σ' := (97, I, J, R)) rfl ?_
                              show az_E az_F ex 2 128 95 [.retAddr 0, .retAddr 0, .int v2, .retAddr 0, .int v4, .int v5, .ref 65, .ref 67] [.int (0 : Int32)] (97, I, J, R) _
                              refine az_E.br (c := (0 : Int32) = 0) (tt := 98) (ff := 101) (L' := [.retAddr 0, .retAddr 0, .int v2, .retAddr 0, .int v4, .int v5, .ref 65, .ref 67]) (S' := []) (σ' := (97, I, J, R)) rfl (fun _ => ?_) (fun hn => absurd (by decide) hn)
                              refine az_E.sn 1 (pc' := 100) (L' := [.retAddr 0, .retAddr 0, .int v2, .retAddr 0, .int v4, .int v5, .ref 65, .ref 67]) (S' := [.int (-13 : Int32)]) (σ' := (97, I, J, R)) rfl ?_
                              have h := Option.some.inj h
                              subst h
                              exact az_E.ret (v := some (.int (-13 : Int32))) (σ' := (97, I, J, R)) rfl hQ
                            · rw [if_neg hc_832] at h
                              refine az_E.sn 5 (pc' := 23) (L' := [.ref 67, .int v4, .int v5]) (S' := [.int ((I 67 2) - v4), .int v5]) (σ' := (97, I, J, R)) rfl ?_
                              refine az_E.br (c := ((I 67 2) - v4) < v5) (tt := 30) (ff := 26) (L' := [.ref 67, .int v4, .int v5]) (S' := []) (σ' := (97, I, J, R)) rfl (fun hc_833 => ?_) (fun hc_833 => ?_)
                              · rw [if_pos hc_833] at h
                                refine az_E.sn 1 (pc' := 31) (L' := [.ref 67, .int v4, .int v5]) (S' := [.int (0 : Int32)]) (σ' := (97, I, J, R)) rfl ?_
                                refine az_E.ret (v := some (.int (0 : Int32))) (σ' := (97, I, J, R)) rfl ?_
                                show az_E az_F ex 2 128 95 [.retAddr 0, .retAddr 0, .int v2, .retAddr 0, .int v4, .int v5, .ref 65, .ref 67] [.int (0 : Int32)] (97, I, J, R) _
                                refine az_E.br (c := (0 : Int32) = 0) (tt := 98) (ff := 101) (L' := [.retAddr 0, .retAddr 0, .int v2, .retAddr 0, .int v4, .int v5, .ref 65, .ref 67]) (S' := []) (σ' := (97, I, J, R)) rfl (fun _ => ?_) (fun hn => absurd (by decide) hn)
                                refine az_E.sn 1 (pc' := 100) (L' := [.retAddr 0, .retAddr 0, .int v2, .retAddr 0, .int v4, .int v5, .ref 65, .ref 67]) (S' := [.int (-13 : Int32)]) (σ' := (97, I, J, R)) rfl ?_
                                have h := Option.some.inj h
                                subst h
                                exact az_E.ret (v := some (.int (-13 : Int32))) (σ' := (97, I, J, R)) rfl hQ
                              · rw [if_neg hc_833] at h
                                refine az_E.sn 2 (pc' := 31) (L' := [.ref 67, .int v4, .int v5]) (S' := [.int (1 : Int32)]) (σ' := (97, I, J, R)) rfl ?_
                                refine az_E.ret (v := some (.int (1 : Int32))) (σ' := (97, I, J, R)) rfl ?_
                                show az_E az_F ex 2 128 95 [.retAddr 0, .retAddr 0, .int v2, .retAddr 0, .int v4, .int v5, .ref 65, .ref 67] [.int (1 : Int32)] (97, I, J, R) _
                                refine az_E.br (c := (1 : Int32) = 0) (tt := 98) (ff := 101) (L' := [.retAddr 0, .retAddr 0, .int v2, .retAddr 0, .int v4, .int v5, .ref 65, .ref 67]) (S' := []) (σ' := (97, I, J, R)) rfl (fun hn => absurd hn (by decide)) (fun _ => ?_)
                                refine az_E.sn 7 (pc' := 116) (L' := [.retAddr 0, .retAddr 0, .int v2, .retAddr 0, .int v4, .int v5, .ref 65, .ref 67]) (S' := [.int v5, .int v4, .ref (67 + 1), .int v2, .ref (65 + 1)]) (σ' := (97, I, J, R)) rfl ?_
                                by_cases hc_834 : v2 < 0 ∨ v4 < 0 ∨ v5 < 0 ∨ 60 < v2.toNatClampNeg + v5.toNatClampNeg ∨ 60 < v4.toNatClampNeg + v5.toNatClampNeg
                                · rw [if_pos hc_834] at h; cases h
                                · rw [if_neg hc_834] at h
                                  refine az_E.o (o := az_cp az_F (97, I, J, R) (65 + 1) v2 (67 + 1) v4 v5) (pc' := 119) (L' := [.retAddr 0, .retAddr 0, .int v2, .retAddr 0, .int v4, .int v5, .ref 65, .ref 67]) (S' := []) (x := (97, I, (az_ur J (67 + 1) (va_cpy (J (65 + 1)) (J (67 + 1)) v2.toNatClampNeg v4.toNatClampNeg v5.toNatClampNeg)), R)) rfl (if_neg hc_834) ?_
                                  refine az_E.sn 1 (pc' := 121) (L' := [.retAddr 0, .retAddr 0, .int v2, .retAddr 0, .int v4, .int v5, .ref 65, .ref 67]) (S' := [.int v5]) (σ' := (97, I, (az_ur J (67 + 1) (va_cpy (J (65 + 1)) (J (67 + 1)) v2.toNatClampNeg v4.toNatClampNeg v5.toNatClampNeg)), R)) rfl ?_
                                  have h := Option.some.inj h
                                  subst h
                                  exact az_E.ret (v := some (.int v5)) (σ' := (97, I, (az_ur J (67 + 1) (va_cpy (J (65 + 1)) (J (67 + 1)) v2.toNatClampNeg v4.toNatClampNeg v5.toNatClampNeg)), R)) rfl hQ
              · rw [if_neg hc_825] at h
                refine az_E.sn 1 (pc' := 20) (L' := [.ref 67, .int (I 65 1)]) (S' := [.int (0 : Int32)]) (σ' := (97, I, J, R)) rfl ?_
                refine az_E.ret (v := some (.int (0 : Int32))) (σ' := (97, I, J, R)) rfl ?_
                show az_E az_F ex 2 128 69 [.retAddr 0, .retAddr 0, .int v2, .retAddr 0, .int v4, .int v5, .ref 65, .ref 67] [.int (0 : Int32)] (97, I, J, R) _
                refine az_E.br (c := (0 : Int32) = 0) (tt := 72) (ff := 75) (L' := [.retAddr 0, .retAddr 0, .int v2, .retAddr 0, .int v4, .int v5, .ref 65, .ref 67]) (S' := []) (σ' := (97, I, J, R)) rfl (fun _ => ?_) (fun hn => absurd (by decide) hn)
                refine az_E.sn 1 (pc' := 74) (L' := [.retAddr 0, .retAddr 0, .int v2, .retAddr 0, .int v4, .int v5, .ref 65, .ref 67]) (S' := [.int (-12 : Int32)]) (σ' := (97, I, J, R)) rfl ?_
                have h := Option.some.inj h
                subst h
                exact az_E.ret (v := some (.int (-12 : Int32))) (σ' := (97, I, J, R)) rfl hQ
      · rw [if_neg hc_821] at h
        refine az_E.sn 1 (pc' := 21) (L' := [.ref 67]) (S' := [.int (0 : Int32)]) (σ' := (97, I, J, R)) rfl ?_
        refine az_E.ret (v := some (.int (0 : Int32))) (σ' := (97, I, J, R)) rfl ?_
        show az_E az_F ex 2 128 45 [.retAddr 0, .retAddr 0, .int v2, .retAddr 0, .int v4, .int v5, .ref 65, .ref 67] [.int (0 : Int32)] (97, I, J, R) _
        refine az_E.br (c := (0 : Int32) = 0) (tt := 51) (ff := 48) (L' := [.retAddr 0, .retAddr 0, .int v2, .retAddr 0, .int v4, .int v5, .ref 65, .ref 67]) (S' := []) (σ' := (97, I, J, R)) rfl (fun _ => ?_) (fun hn => absurd (by decide) hn)
        refine az_E.sn 1 (pc' := 53) (L' := [.retAddr 0, .retAddr 0, .int v2, .retAddr 0, .int v4, .int v5, .ref 65, .ref 67]) (S' := [.ref 65]) (σ' := (97, I, J, R)) rfl ?_
        refine az_E.call (d := 1) (k' := 55) (vs := [.ref 65]) (pc' := 56) (S' := []) rfl ?_ (fun _ _ hq => hq)
        show az_E az_F ex 1 55 0 [.ref 65] [] (97, I, J, R) _
        refine az_E.sn 3 (pc' := 5) (L' := [.ref 65]) (S' := [.int (-1 : Int32), .int (I 65 1)]) (σ' := (97, I, J, R)) rfl ?_
        refine az_E.br (c := (I 65 1) = (-1 : Int32)) (tt := 12) (ff := 8) (L' := [.ref 65]) (S' := []) (σ' := (97, I, J, R)) rfl (fun hc_835 => ?_) (fun hc_835 => ?_)
        · rw [if_pos hc_835] at h
          refine az_E.sn 1 (pc' := 13) (L' := [.ref 65]) (S' := [.int (0 : Int32)]) (σ' := (97, I, J, R)) rfl ?_
          refine az_E.ret (v := some (.int (0 : Int32))) (σ' := (97, I, J, R)) rfl ?_
          show az_E az_F ex 2 128 56 [.retAddr 0, .retAddr 0, .int v2, .retAddr 0, .int v4, .int v5, .ref 65, .ref 67] [.int (0 : Int32)] (97, I, J, R) _
          refine az_E.br (c := (0 : Int32) = 0) (tt := 72) (ff := 59) (L' := [.retAddr 0, .retAddr 0, .int v2, .retAddr 0, .int v4, .int v5, .ref 65, .ref 67]) (S' := []) (σ' := (97, I, J, R)) rfl (fun _ => ?_) (fun hn => absurd (by decide) hn)
          refine az_E.sn 1 (pc' := 74) (L' := [.retAddr 0, .retAddr 0, .int v2, .retAddr 0, .int v4, .int v5, .ref 65, .ref 67]) (S' := [.int (-12 : Int32)]) (σ' := (97, I, J, R)) rfl ?_
          have h := Option.some.inj h
          subst h
          exact az_E.ret (v := some (.int (-12 : Int32))) (σ' := (97, I, J, R)) rfl hQ
        · rw [if_neg hc_835] at h
          refine az_E.sn 2 (pc' := 13) (L' := [.ref 65]) (S' := [.int (1 : Int32)]) (σ' := (97, I, J, R)) rfl ?_
          refine az_E.ret (v := some (.int (1 : Int32))) (σ' := (97, I, J, R)) rfl ?_
          show az_E az_F ex 2 128 56 [.retAddr 0, .retAddr 0, .int v2, .retAddr 0, .int v4, .int v5, .ref 65, .ref 67] [.int (1 : Int32)] (97, I, J, R) _
          refine az_E.br (c := (1 : Int32) = 0) (tt := 72) (ff := 59) (L' := [.retAddr 0, .retAddr 0, .int v2, .retAddr 0, .int v4, .int v5, .ref 65, .ref 67]) (S' := []) (σ' := (97, I, J, R)) rfl (fun hn => absurd hn (by decide)) (fun _ => ?_)
          refine az_E.sn 3 (pc' := 66) (L' := [.retAddr 0, .retAddr 0, .int v2, .retAddr 0, .int v4, .int v5, .ref 65, .ref 67]) (S' := [.int (I 65 1), .ref 67]) (σ' := (97, I, J, R)) rfl ?_
          refine az_E.call (d := 1) (k' := 56) (vs := [.ref 67, .int (I 65 1)]) (pc' := 69) (S' := []) rfl ?_ (fun _ _ hq => hq)
          show az_E az_F ex 1 56 0 [.ref 67, .int (I 65 1)] [] (97, I, J, R) _
          refine az_E.sn 1 (pc' := 1) (L' := [.ref 67, .int (I 65 1)]) (S' := [.ref 67]) (σ' := (97, I, J, R)) rfl ?_
          refine az_E.call (d := 0) (k' := 55) (vs := [.ref 67]) (pc' := 4) (S' := []) rfl ?_ (fun _ _ hq => hq)
          show az_E az_F ex 0 55 0 [.ref 67] [] (97, I, J, R) _
          refine az_E.sn 3 (pc' := 5) (L' := [.ref 67]) (S' := [.int (-1 : Int32), .int (I 67 1)]) (σ' := (97, I, J, R)) rfl ?_
          refine az_E.br (c := (I 67 1) = (-1 : Int32)) (tt := 12) (ff := 8) (L' := [.ref 67]) (S' := []) (σ' := (97, I, J, R)) rfl (fun hc_836 => ?_) (fun hc_836 => ?_)
          · rw [if_pos hc_836] at h
            refine az_E.sn 1 (pc' := 13) (L' := [.ref 67]) (S' := [.int (0 : Int32)]) (σ' := (97, I, J, R)) rfl ?_
            refine az_E.ret (v := some (.int (0 : Int32))) (σ' := (97, I, J, R)) rfl ?_
            show az_E az_F ex 1 56 4 [.ref 67, .int (I 65 1)] [.int (0 : Int32)] (97, I, J, R) _
            refine az_E.br (c := (0 : Int32) = 0) (tt := 19) (ff := 7) (L' := [.ref 67, .int (I 65 1)]) (S' := []) (σ' := (97, I, J, R)) rfl (fun _ => ?_) (fun hn => absurd (by decide) hn)
            refine az_E.sn 1 (pc' := 20) (L' := [.ref 67, .int (I 65 1)]) (S' := [.int (0 : Int32)]) (σ' := (97, I, J, R)) rfl ?_
            refine az_E.ret (v := some (.int (0 : Int32))) (σ' := (97, I, J, R)) rfl ?_
            show az_E az_F ex 2 128 69 [.retAddr 0, .retAddr 0, .int v2, .retAddr 0, .int v4, .int v5, .ref 65, .ref 67] [.int (0 : Int32)] (97, I, J, R) _
            refine az_E.br (c := (0 : Int32) = 0) (tt := 72) (ff := 75) (L' := [.retAddr 0, .retAddr 0, .int v2, .retAddr 0, .int v4, .int v5, .ref 65, .ref 67]) (S' := []) (σ' := (97, I, J, R)) rfl (fun _ => ?_) (fun hn => absurd (by decide) hn)
            refine az_E.sn 1 (pc' := 74) (L' := [.retAddr 0, .retAddr 0, .int v2, .retAddr 0, .int v4, .int v5, .ref 65, .ref 67]) (S' := [.int (-12 : Int32)]) (σ' := (97, I, J, R)) rfl ?_
            have h := Option.some.inj h
            subst h
            exact az_E.ret (v := some (.int (-12 : Int32))) (σ' := (97, I, J, R)) rfl hQ
          · rw [if_neg hc_836] at h
            refine az_E.sn 2 (pc' := 13) (L' := [.ref 67]) (S' := [.int (1 : Int32)]) (σ' := (97, I, J, R)) rfl ?_
            refine az_E.ret (v := some (.int (1 : Int32))) (σ' := (97, I, J, R)) rfl ?_
            show az_E az_F ex 1 56 4 [.ref 67, .int (I 65 1)] [.int (1 : Int32)] (97, I, J, R) _
            refine az_E.br (c := (1 : Int32) = 0) (tt := 19) (ff := 7) (L' := [.ref 67, .int (I 65 1)]) (S' := []) (σ' := (97, I, J, R)) rfl (fun hn => absurd hn (by decide)) (fun _ => ?_)
            refine az_E.sn 3 (pc' := 12) (L' := [.ref 67, .int (I 65 1)]) (S' := [.int (I 65 1), .int (I 67 1)]) (σ' := (97, I, J, R)) rfl ?_
            refine az_E.br (c := (I 67 1) = (I 65 1)) (tt := 15) (ff := 19) (L' := [.ref 67, .int (I 65 1)]) (S' := []) (σ' := (97, I, J, R)) rfl (fun hc_837 => ?_) (fun hc_837 => ?_)
            · rw [if_pos hc_837] at h
              refine az_E.sn 2 (pc' := 20) (L' := [.ref 67, .int (I 65 1)]) (S' := [.int (1 : Int32)]) (σ' := (97, I, J, R)) rfl ?_
              refine az_E.ret (v := some (.int (1 : Int32))) (σ' := (97, I, J, R)) rfl ?_
              show az_E az_F ex 2 128 69 [.retAddr 0, .retAddr 0, .int v2, .retAddr 0, .int v4, .int v5, .ref 65, .ref 67] [.int (1 : Int32)] (97, I, J, R) _
              refine az_E.br (c := (1 : Int32) = 0) (tt := 72) (ff := 75) (L' := [.retAddr 0, .retAddr 0, .int v2, .retAddr 0, .int v4, .int v5, .ref 65, .ref 67]) (S' := []) (σ' := (97, I, J, R)) rfl (fun hn => absurd hn (by decide)) (fun _ => ?_)
              refine az_E.sn 3 (pc' := 80) (L' := [.retAddr 0, .retAddr 0, .int v2, .retAddr 0, .int v4, .int v5, .ref 65, .ref 67]) (S' := [.int v5, .int v2, .ref 65]) (σ' := (97, I, J, R)) rfl ?_
              refine az_E.call (d := 1) (k' := 60) (vs := [.ref 65, .int v2, .int v5]) (pc' := 83) (S' := []) rfl ?_ (fun _ _ hq => hq)
              show az_E az_F ex 1 60 0 [.ref 65, .int v2, .int v5] [] (97, I, J, R) _
              refine az_E.sn 1 (pc' := 1) (L' := [.ref 65, .int v2, .int v5]) (S' := [.int v2]) (σ' := (97, I, J, R)) rfl ?_
              refine az_E.br (c := v2 < 0) (tt := 30) (ff := 4) (L' := [.ref 65, .int v2, .int v5]) (S' := []) (σ' := (97, I, J, R)) rfl (fun hc_838 => ?_) (fun hc_838 => ?_)
              · rw [if_pos hc_838] at h
                refine az_E.sn 1 (pc' := 31) (L' := [.ref 65, .int v2, .int v5]) (S' := [.int (0 : Int32)]) (σ' := (97, I, J, R)) rfl ?_
                refine az_E.ret (v := some (.int (0 : Int32))) (σ' := (97, I, J, R)) rfl ?_
                show az_E az_F ex 2 128 83 [.retAddr 0, .retAddr 0, .int v2, .retAddr 0, .int v4, .int v5, .ref 65, .ref 67] [.int (0 : Int32)] (97, I, J, R) _
                refine az_E.br (c := (0 : Int32) = 0) (tt := 98) (ff := 86) (L' := [.retAddr 0, .retAddr 0, .int v2, .retAddr 0, .int v4, .int v5, .ref 65, .ref 67]) (S' := []) (σ' := (97, I, J, R)) rfl (fun _ => ?_) (fun hn => absurd (by decide) hn)
                refine az_E.sn 1 (pc' := 100) (L' := [.retAddr 0, .retAddr 0, .int v2, .retAddr 0, .int v4, .int v5, .ref 65, .ref 67]) (S' := [.int (-13 : Int32)]) (σ' := (97, I, J, R)) rfl ?_
                have h := Option.some.inj h
                subst h
                exact az_E.ret (v := some (.int (-13 : Int32))) (σ' := (97, I, J, R)) rfl hQ
              · rw [if_neg hc_838] at h
                refine az_E.sn 1 (pc' := 5) (L' := [.ref 65, .int v2, .int v5]) (S' := [.int v5]) (σ' := (97, I, J, R)) rfl ?_
                refine az_E.br (c := v5 < 0) (tt := 30) (ff := 8) (L' := [.ref 65, .int v2, .int v5]) (S' := []) (σ' := (97, I, J, R)) rfl (fun hc_839 => ?_) (fun hc_839 => ?_)
                · rw [if_pos hc_839] at h
                  refine az_E.sn 1 (pc' := 31) (L' := [.ref 65, .int v2, .int v5]) (S' := [.int (0 : Int32)]) (σ' := (97, I, J, R)) rfl ?_
                  refine az_E.ret (v := some (.int (0 : Int32))) (σ' := (97, I, J, R)) rfl ?_
                  show az_E az_F ex 2 128 83 [.retAddr 0, .retAddr 0, .int v2, .retAddr 0, .int v4, .int v5, .ref 65, .ref 67] [.int (0 : Int32)] (97, I, J, R) _
                  refine az_E.br (c := (0 : Int32) = 0) (tt := 98) (ff := 86) (L' := [.retAddr 0, .retAddr 0, .int v2, .retAddr 0, .int v4, .int v5, .ref 65, .ref 67]) (S' := []) (σ' := (97, I, J, R)) rfl (fun _ => ?_) (fun hn => absurd (by decide) hn)
                  refine az_E.sn 1 (pc' := 100) (L' := [.retAddr 0, .retAddr 0, .int v2, .retAddr 0, .int v4, .int v5, .ref 65, .ref 67]) (S' := [.int (-13 : Int32)]) (σ' := (97, I, J, R)) rfl ?_
                  have h := Option.some.inj h
                  subst h
                  exact az_E.ret (v := some (.int (-13 : Int32))) (σ' := (97, I, J, R)) rfl hQ
                · rw [if_neg hc_839] at h
                  refine az_E.sn 3 (pc' := 13) (L' := [.ref 65, .int v2, .int v5]) (S' := [.int (I 65 2), .int v2]) (σ' := (97, I, J, R)) rfl ?_
                  refine az_E.br (c := (I 65 2) < v2) (tt := 30) (ff := 16) (L' := [.ref 65, .int v2, .int v5]) (S' := []) (σ' := (97, I, J, R)) rfl (fun hc_840 => ?_) (fun hc_840 => ?_)
                  · rw [if_pos hc_840] at h
                    refine az_E.sn 1 (pc' := 31) (L' := [.ref 65, .int v2, .int v5]) (S' := [.int (0 : Int32)]) (σ' := (97, I, J, R)) rfl ?_
                    refine az_E.ret (v := some (.int (0 : Int32))) (σ' := (97, I, J, R)) rfl ?_
                    show az_E az_F ex 2 128 83 [.retAddr 0, .retAddr 0, .int v2, .retAddr 0, .int v4, .int v5, .ref 65, .ref 67] [.int (0 : Int32)] (97, I, J, R) _
                    refine az_E.br (c := (0 : Int32) = 0) (tt := 98) (ff := 86) (L' := [.retAddr 0, .retAddr 0, .int v2, .retAddr 0, .int v4, .int v5, .ref 65, .ref 67]) (S' := []) (σ' := (97, I, J, R)) rfl (fun _ => ?_) (fun hn => absurd (by decide) hn)
                    refine az_E.sn 1 (pc' := 100) (L' := [.retAddr 0, .retAddr 0, .int v2, .retAddr 0, .int v4, .int v5, .ref 65, .ref 67]) (S' := [.int (-13 : Int32)]) (σ' := (97, I, J, R)) rfl ?_
                    have h := Option.some.inj h
                    subst h
                    exact az_E.ret (v := some (.int (-13 : Int32))) (σ' := (97, I, J, R)) rfl hQ
                  · rw [if_neg hc_840] at h
                    refine az_E.sn 5 (pc' := 23) (L' := [.ref 65, .int v2, .int v5]) (S' := [.int ((I 65 2) - v2), .int v5]) (σ' := (97, I, J, R)) rfl ?_
                    refine az_E.br (c := ((I 65 2) - v2) < v5) (tt := 30) (ff := 26) (L' := [.ref 65, .int v2, .int v5]) (S' := []) (σ' := (97, I, J, R)) rfl (fun hc_841 => ?_) (fun hc_841 => ?_)
                    · rw [if_pos hc_841] at h
                      refine az_E.sn 1 (pc' := 31) (L' := [.ref 65, .int v2, .int v5]) (S' := [.int (0 : Int32)]) (σ' := (97, I, J, R)) rfl ?_
                      refine az_E.ret (v := some (.int (0 : Int32))) (σ' := (97, I, J, R)) rfl ?_
                      show az_E az_F ex 2 128 83 [.retAddr 0, .retAddr 0, .int v2, .retAddr 0, .int v4, .int v5, .ref 65, .ref 67] [.int (0 : Int32)] (97, I, J, R) _
                      refine az_E.br (c := (0 : Int32) = 0) (tt := 98) (ff := 86) (L' := [.retAddr 0, .retAddr 0, .int v2, .retAddr 0, .int v4, .int v5, .ref 65, .ref 67]) (S' := []) (σ' := (97, I, J, R)) rfl (fun _ => ?_) (fun hn => absurd (by decide) hn)
                      refine az_E.sn 1 (pc' := 100) (L' := [.retAddr 0, .retAddr 0, .int v2, .retAddr 0, .int v4, .int v5, .ref 65, .ref 67]) (S' := [.int (-13 : Int32)]) (σ' := (97, I, J, R)) rfl ?_
                      have h := Option.some.inj h
                      subst h
                      exact az_E.ret (v := some (.int (-13 : Int32))) (σ' := (97, I, J, R)) rfl hQ
                    · rw [if_neg hc_841] at h
                      refine az_E.sn 2 (pc' := 31) (L' := [.ref 65, .int v2, .int v5]) (S' := [.int (1 : Int32)]) (σ' := (97, I, J, R)) rfl ?_
                      refine az_E.ret (v := some (.int (1 : Int32))) (σ' := (97, I, J, R)) rfl ?_
                      show az_E az_F ex 2 128 83 [.retAddr 0, .retAddr 0, .int v2, .retAddr 0, .int v4, .int v5, .ref 65, .ref 67] [.int (1 : Int32)] (97, I, J, R) _
                      refine az_E.br (c := (1 : Int32) = 0) (tt := 98) (ff := 86) (L' := [.retAddr 0, .retAddr 0, .int v2, .retAddr 0, .int v4, .int v5, .ref 65, .ref 67]) (S' := []) (σ' := (97, I, J, R)) rfl (fun hn => absurd hn (by decide)) (fun _ => ?_)
                      refine az_E.sn 3 (pc' := 92) (L' := [.retAddr 0, .retAddr 0, .int v2, .retAddr 0, .int v4, .int v5, .ref 65, .ref 67]) (S' := [.int v5, .int v4, .ref 67]) (σ' := (97, I, J, R)) rfl ?_
                      refine az_E.call (d := 1) (k' := 60) (vs := [.ref 67, .int v4, .int v5]) (pc' := 95) (S' := []) rfl ?_ (fun _ _ hq => hq)
                      show az_E az_F ex 1 60 0 [.ref 67, .int v4, .int v5] [] (97, I, J, R) _
                      refine az_E.sn 1 (pc' := 1) (L' := [.ref 67, .int v4, .int v5]) (S' := [.int v4]) (σ' := (97, I, J, R)) rfl ?_
                      refine az_E.br (c := v4 < 0) (tt := 30) (ff := 4) (L' := [.ref 67, .int v4, .int v5]) (S' := []) (σ' := (97, I, J, R)) rfl (fun hc_842 => ?_) (fun hc_842 => ?_)
                      · rw [if_pos hc_842] at h
                        refine az_E.sn 1 (pc' := 31) (L' := [.ref 67, .int v4, .int v5]) (S' := [.int (0 : Int32)]) (σ' := (97, I, J, R)) rfl ?_
                        refine az_E.ret (v := some (.int (0 : Int32))) (σ' := (97, I, J, R)) rfl ?_
                        show az_E az_F ex 2 128 95 [.retAddr 0, .retAddr 0, .int v2, .retAddr 0, .int v4, .int v5, .ref 65, .ref 67] [.int (0 : Int32)] (97, I, J, R) _
                        refine az_E.br (c := (0 : Int32) = 0) (tt := 98) (ff := 101) (L' := [.retAddr 0, .retAddr 0, .int v2, .retAddr 0, .int v4, .int v5, .ref 65, .ref 67]) (S' := []) (σ' := (97, I, J, R)) rfl (fun _ => ?_) (fun hn => absurd (by decide) hn)
                        refine az_E.sn 1 (pc' := 100) (L' := [.retAddr 0, .retAddr 0, .int v2, .retAddr 0, .int v4, .int v5, .ref 65, .ref 67]) (S' := [.int (-13 : Int32)]) (σ' := (97, I, J, R)) rfl ?_
                        have h := Option.some.inj h
                        subst h
                        exact az_E.ret (v := some (.int (-13 : Int32))) (σ' := (97, I, J, R)) rfl hQ
                      · rw [if_neg hc_842] at h
                        refine az_E.sn 1 (pc' := 5) (L' := [.ref 67, .int v4, .int v5]) (S' := [.int v5]) (σ' := (97, I, J, R)) rfl ?_
                        refine az_E.br (c := v5 < 0) (tt := 30) (ff := 8) (L' := [.ref 67, .int v4, .int v5]) (S' := []) (σ' := (97, I, J, R)) rfl (fun hc_843 => ?_) (fun hc_843 => ?_)
                        · rw [if_pos hc_843] at h
                          refine az_E.sn 1 (pc' := 31) (L' := [.ref 67, .int v4, .int v5]) (S' := [.int (0 : Int32)]) (σ' := (97, I, J, R)) rfl ?_
                          refine az_E.ret (v := some (.int (0 : Int32))) (σ' := (97, I, J, R)) rfl ?_
                          show az_E az_F ex 2 128 95 [.retAddr 0, .retAddr 0, .int v2, .retAddr 0, .int v4, .int v5, .ref 65, .ref 67] [.int (0 : Int32)] (97, I, J, R) _
                          refine az_E.br (c := (0 : Int32) = 0) (tt := 98) (ff := 101) (L' := [.retAddr 0, .retAddr 0, .int v2, .retAddr 0, .int v4, .int v5, .ref 65, .ref 67]) (S' := []) (σ' := (97, I, J, R)) rfl (fun _ => ?_) (fun hn => absurd (by decide) hn)
                          refine az_E.sn 1 (pc' := 100) (L' := [.retAddr 0, .retAddr 0, .int v2, .retAddr 0, .int v4, .int v5, .ref 65, .ref 67]) (S' := [.int (-13 : Int32)]) (σ' := (97, I, J, R)) rfl ?_
                          have h := Option.some.inj h
                          subst h
                          exact az_E.ret (v := some (.int (-13 : Int32))) (σ' := (97, I, J, R)) rfl hQ
                        · rw [if_neg hc_843] at h
                          refine az_E.sn 3 (pc' := 13) (L' := [.ref 67, .int v4, .int v5]) (S' := [.int (I 67 2), .int v4]) (σ' := (97, I, J, R)) rfl ?_
                          refine az_E.br (c := (I 67 2) < v4) (tt := 30) (ff := 16) (L' := [.ref 67, .int v4, .int v5]) (S' := []) (σ' := (97, I, J, R)) rfl (fun hc_844 => ?_) (fun hc_844 => ?_)
                          · rw [if_pos hc_844] at h
                            refine az_E.sn 1 (pc' := 31) (L' := [.ref 67, .int v4, .int v5]) (S' := [.int (0 : Int32)]) (σ' := (97, I, J, R)) rfl ?_
                            refine az_E.ret (v := some (.int (0 : Int32))) (σ' := (97, I, J, R)) rfl ?_
                            show az_E az_F ex 2 128 95 [.retAddr 0, .retAddr 0, .int v2, .retAddr 0, .int v4, .int v5, .ref 65, .ref 67] [.int (0 : Int32)] (97, I, J, R) _
                            refine az_E.br (c := (0 : Int32) = 0) (tt := 98) (ff := 101) (L' := [.retAddr 0, .retAddr 0, .int v2, .retAddr 0, .int v4, .int v5, .ref 65, .ref 67]) (S' := []) (σ' := (97, I, J, R)) rfl (fun _ => ?_) (fun hn => absurd (by decide) hn)
                            refine az_E.sn 1 (pc' := 100) (L' := [.retAddr 0, .retAddr 0, .int v2, .retAddr 0, .int v4, .int v5, .ref 65, .ref 67]) (S' := [.int (-13 : Int32)]) (σ' := (97, I, J, R)) rfl ?_
                            have h := Option.some.inj h
                            subst h
                            exact az_E.ret (v := some (.int (-13 : Int32))) (σ' := (97, I, J, R)) rfl hQ
                          · rw [if_neg hc_844] at h
                            refine az_E.sn 5 (pc' := 23) (L' := [.ref 67, .int v4, .int v5]) (S' := [.int ((I 67 2) - v4), .int v5]) (σ' := (97, I, J, R)) rfl ?_
                            refine az_E.br (c := ((I 67 2) - v4) < v5) (tt := 30) (ff := 26) (L' := [.ref 67, .int v4, .int v5]) (S' := []) (σ' := (97, I, J, R)) rfl (fun hc_845 => ?_) (fun hc_845 => ?_)
                            · rw [if_pos hc_845] at h
                              refine az_E.sn 1 (pc' := 31) (L' := [.ref 67, .int v4, .int v5]) (S' := [.int (0 : Int32)]) (σ' := (97, I, J, R)) rfl ?_
                              refine az_E.ret (v := some (.int (0 : Int32))) (σ' := (97, I, J, R)) rfl ?_
                              show az_E az_F ex 2 128 95 [.retAddr 0, .retAddr 0, .int v2, .retAddr 0, .int v4, .int v5, .ref 65, .ref 67] [.int (0 : Int32)] (97, I, J, R) _
                              refine az_E.br (c := (0 : Int32) = 0) (tt := 98) (ff := 101) (L' := [.retAddr 0, .retAddr 0, .int v2, .retAddr 0, .int v4, .int v5, .ref 65, .ref 67]) (S' := []) (σ' := (97, I, J, R)) rfl (fun _ => ?_) (fun hn => absurd (by decide) hn)
                              refine az_E.sn 1 (pc' := 100) (L' := [.retAddr 0, .retAddr 0, .int v2, .retAddr 0, .int v4, .int v5, .ref 65, .ref 67]) (S' := [.int (-13 : Int32)]) (σ' := (97, I, J, R)) rfl ?_
                              have h := Option.some.inj h
                              subst h
                              exact az_E.ret (v := some (.int (-13 : Int32))) (σ' := (97, I, J, R)) rfl hQ
                            · rw [if_neg hc_845] at h
                              refine az_E.sn 2 (pc' := 31) (L' := [.ref 67, .int v4, .int v5]) (S' := [.int (1 : Int32)]) (σ' := (97, I, J, R)) rfl ?_
                              refine az_E.ret (v := some (.int (1 : Int32))) (σ' := (97, I, J, R)) rfl ?_
                              show az_E az_F ex 2 128 95 [.retAddr 0, .retAddr 0, .int v2, .retAddr 0, .int v4, .int v5, .ref 65, .ref 67] [.int (1 : Int32)] (97, I, J, R) _
                              refine az_E.br (c := (1 : Int32) = 0) (tt := 98) (ff := 101) (L' := [.retAddr 0, .retAddr 0, .int v2, .retAddr 0, .int v4, .int v5, .ref 65, .ref 67]) (S' := []) (σ' := (97, I, J, R)) rfl (fun hn => absurd hn (by decide)) (fun _ => ?_)
                              refine az_E.sn 7 (pc' := 116) (L' := [.retAddr 0, .retAddr 0, .int v2, .retAddr 0, .int v4, .int v5, .ref 65, .ref 67]) (S' := [.int v5, .int v4, .ref (67 + 1), .int v2, .ref (65 + 1)]) (σ' := (97, I, J, R)) rfl ?_
                              by_cases hc_846 : v2 < 0 ∨ v4 < 0 ∨ v5 < 0 ∨ 60 < v2.toNatClampNeg + v5.toNatClampNeg ∨ 60 < v4.toNatClampNeg + v5.toNatClampNeg
                              · rw [if_pos hc_846] at h; cases h
                              · rw [if_neg hc_846] at h
                                refine az_E.o (o := az_cp az_F (97, I, J, R) (65 + 1) v2 (67 + 1) v4 v5) (pc' := 119) (L' := [.retAddr 0, .retAddr 0, .int v2, .retAddr 0, .int v4, .int v5, .ref 65, .ref 67]) (S' := []) (x := (97, I, (az_ur J (67 + 1) (va_cpy (J (65 + 1)) (J (67 + 1)) v2.toNatClampNeg v4.toNatClampNeg v5.toNatClampNeg)), R)) rfl (if_neg hc_846) ?_
                                refine az_E.sn 1 (pc' := 121) (L' := [.retAddr 0, .retAddr 0, .int v2, .retAddr 0, .int v4, .int v5, .ref 65, .ref 67]) (S' := [.int v5]) (σ' := (97, I, (az_ur J (67 + 1) (va_cpy (J (65 + 1)) (J (67 + 1)) v2.toNatClampNeg v4.toNatClampNeg v5.toNatClampNeg)), R)) rfl ?_
                                have h := Option.some.inj h
                                subst h
                                exact az_E.ret (v := some (.int v5)) (σ' := (97, I, (az_ur J (67 + 1) (va_cpy (J (65 + 1)) (J (67 + 1)) v2.toNatClampNeg v4.toNatClampNeg v5.toNatClampNeg)), R)) rfl hQ
            · rw [if_neg hc_837] at h
              refine az_E.sn 1 (pc' := 20) (L' := [.ref 67, .int (I 65 1)]) (S' := [.int (0 : Int32)]) (σ' := (97, I, J, R)) rfl ?_
              refine az_E.ret (v := some (.int (0 : Int32))) (σ' := (97, I, J, R)) rfl ?_
              show az_E az_F ex 2 128 69 [.retAddr 0, .retAddr 0, .int v2, .retAddr 0, .int v4, .int v5, .ref 65, .ref 67] [.int (0 : Int32)] (97, I, J, R) _
              refine az_E.br (c := (0 : Int32) = 0) (tt := 72) (ff := 75) (L' := [.retAddr 0, .retAddr 0, .int v2, .retAddr 0, .int v4, .int v5, .ref 65, .ref 67]) (S' := []) (σ' := (97, I, J, R)) rfl (fun _ => ?_) (fun hn => absurd (by decide) hn)
              refine az_E.sn 1 (pc' := 74) (L' := [.retAddr 0, .retAddr 0, .int v2, .retAddr 0, .int v4, .int v5, .ref 65, .ref 67]) (S' := [.int (-12 : Int32)]) (σ' := (97, I, J, R)) rfl ?_
              have h := Option.some.inj h
              subst h
              exact az_E.ret (v := some (.int (-12 : Int32))) (σ' := (97, I, J, R)) rfl hQ
  · rw [if_neg hc_819] at h
    refine az_E.sn 1 (pc' := 21) (L' := [.ref 65]) (S' := [.int (0 : Int32)]) (σ' := (97, I, J, R)) rfl ?_
    refine az_E.ret (v := some (.int (0 : Int32))) (σ' := (97, I, J, R)) rfl ?_
    show az_E az_F ex 2 128 37 [.retAddr 0, .retAddr 0, .int v2, .retAddr 0, .int v4, .int v5, .ref 65, .ref 67] [.int (0 : Int32)] (97, I, J, R) _
    refine az_E.br (c := (0 : Int32) = 0) (tt := 40) (ff := 48) (L' := [.retAddr 0, .retAddr 0, .int v2, .retAddr 0, .int v4, .int v5, .ref 65, .ref 67]) (S' := []) (σ' := (97, I, J, R)) rfl (fun _ => ?_) (fun hn => absurd (by decide) hn)
    refine az_E.sn 1 (pc' := 42) (L' := [.retAddr 0, .retAddr 0, .int v2, .retAddr 0, .int v4, .int v5, .ref 65, .ref 67]) (S' := [.ref 67]) (σ' := (97, I, J, R)) rfl ?_
    refine az_E.call (d := 1) (k' := 54) (vs := [.ref 67]) (pc' := 45) (S' := []) rfl ?_ (fun _ _ hq => hq)
    show az_E az_F ex 1 54 0 [.ref 67] [] (97, I, J, R) _
    refine az_E.sn 3 (pc' := 5) (L' := [.ref 67]) (S' := [.int (-1 : Int32), .int (I 67 0)]) (σ' := (97, I, J, R)) rfl ?_
    refine az_E.br (c := (I 67 0) = (-1 : Int32)) (tt := 8) (ff := 20) (L' := [.ref 67]) (S' := []) (σ' := (97, I, J, R)) rfl (fun hc_847 => ?_) (fun hc_847 => ?_)
    · rw [if_pos hc_847] at h
      refine az_E.sn 3 (pc' := 13) (L' := [.ref 67]) (S' := [.int (-1 : Int32), .int (I 67 1)]) (σ' := (97, I, J, R)) rfl ?_
      refine az_E.br (c := (I 67 1) = (-1 : Int32)) (tt := 16) (ff := 20) (L' := [.ref 67]) (S' := []) (σ' := (97, I, J, R)) rfl (fun hc_848 => ?_) (fun hc_848 => ?_)
      · rw [if_pos hc_848] at h
        refine az_E.sn 2 (pc' := 21) (L' := [.ref 67]) (S' := [.int (1 : Int32)]) (σ' := (97, I, J, R)) rfl ?_
        refine az_E.ret (v := some (.int (1 : Int32))) (σ' := (97, I, J, R)) rfl ?_
        show az_E az_F ex 2 128 45 [.retAddr 0, .retAddr 0, .int v2, .retAddr 0, .int v4, .int v5, .ref 65, .ref 67] [.int (1 : Int32)] (97, I, J, R) _
        refine az_E.br (c := (1 : Int32) = 0) (tt := 51) (ff := 48) (L' := [.retAddr 0, .retAddr 0, .int v2, .retAddr 0, .int v4, .int v5, .ref 65, .ref 67]) (S' := []) (σ' := (97, I, J, R)) rfl (fun hn => absurd hn (by decide)) (fun _ => ?_)
        refine az_E.sn 1 (pc' := 50) (L' := [.retAddr 0, .retAddr 0, .int v2, .retAddr 0, .int v4, .int v5, .ref 65, .ref 67]) (S' := [.int (-11 : Int32)]) (σ' := (97, I, J, R)) rfl ?_
        have h := Option.some.inj h
        subst h
        exact az_E.ret (v := some (.int (-11 : Int32))) (σ' := (97, I, J, R)) rfl hQ
      · rw [if_neg hc_848] at h
        refine az_E.sn 1 (pc' := 21) (L' := [.ref 67]) (S' := [.int (0 : Int32)]) (σ' := (97, I, J, R)) rfl ?_
        refine az_E.ret (v := some (.int (0 : Int32))) (σ' := (97, I, J, R)) rfl ?_
        show az_E az_F ex 2 128 45 [.retAddr 0, .retAddr 0, .int v2, .retAddr 0, .int v4, .int v5, .ref 65, .ref 67] [.int (0 : Int32)] (97, I, J, R) _
        refine az_E.br (c := (0 : Int32) = 0) (tt := 51) (ff := 48) (L' := [.retAddr 0, .retAddr 0, .int v2, .retAddr 0, .int v4, .int v5, .ref 65, .ref 67]) (S' := []) (σ' := (97, I, J, R)) rfl (fun _ => ?_) (fun hn => absurd (by decide) hn)
        refine az_E.sn 1 (pc' := 53) (L' := [.retAddr 0, .retAddr 0, .int v2, .retAddr 0, .int v4, .int v5, .ref 65, .ref 67]) (S' := [.ref 65]) (σ' := (97, I, J, R)) rfl ?_
        refine az_E.call (d := 1) (k' := 55) (vs := [.ref 65]) (pc' := 56) (S' := []) rfl ?_ (fun _ _ hq => hq)
        show az_E az_F ex 1 55 0 [.ref 65] [] (97, I, J, R) _
        refine az_E.sn 3 (pc' := 5) (L' := [.ref 65]) (S' := [.int (-1 : Int32), .int (I 65 1)]) (σ' := (97, I, J, R)) rfl ?_
        refine az_E.br (c := (I 65 1) = (-1 : Int32)) (tt := 12) (ff := 8) (L' := [.ref 65]) (S' := []) (σ' := (97, I, J, R)) rfl (fun hc_849 => ?_) (fun hc_849 => ?_)
        · rw [if_pos hc_849] at h
          refine az_E.sn 1 (pc' := 13) (L' := [.ref 65]) (S' := [.int (0 : Int32)]) (σ' := (97, I, J, R)) rfl ?_
          refine az_E.ret (v := some (.int (0 : Int32))) (σ' := (97, I, J, R)) rfl ?_
          show az_E az_F ex 2 128 56 [.retAddr 0, .retAddr 0, .int v2, .retAddr 0, .int v4, .int v5, .ref 65, .ref 67] [.int (0 : Int32)] (97, I, J, R) _
          refine az_E.br (c := (0 : Int32) = 0) (tt := 72) (ff := 59) (L' := [.retAddr 0, .retAddr 0, .int v2, .retAddr 0, .int v4, .int v5, .ref 65, .ref 67]) (S' := []) (σ' := (97, I, J, R)) rfl (fun _ => ?_) (fun hn => absurd (by decide) hn)
          refine az_E.sn 1 (pc' := 74) (L' := [.retAddr 0, .retAddr 0, .int v2, .retAddr 0, .int v4, .int v5, .ref 65, .ref 67]) (S' := [.int (-12 : Int32)]) (σ' := (97, I, J, R)) rfl ?_
          have h := Option.some.inj h
          subst h
          exact az_E.ret (v := some (.int (-12 : Int32))) (σ' := (97, I, J, R)) rfl hQ
        · rw [if_neg hc_849] at h
          refine az_E.sn 2 (pc' := 13) (L' := [.ref 65]) (S' := [.int (1 : Int32)]) (σ' := (97, I, J, R)) rfl ?_
          refine az_E.ret (v := some (.int (1 : Int32))) (σ' := (97, I, J, R)) rfl ?_
          show az_E az_F ex 2 128 56 [.retAddr 0, .retAddr 0, .int v2, .retAddr 0, .int v4, .int v5, .ref 65, .ref 67] [.int (1 : Int32)] (97, I, J, R) _
          refine az_E.br (c := (1 : Int32) = 0) (tt := 72) (ff := 59) (L' := [.retAddr 0, .retAddr 0, .int v2, .retAddr 0, .int v4, .int v5, .ref 65, .ref 67]) (S' := []) (σ' := (97, I, J, R)) rfl (fun hn => absurd hn (by decide)) (fun _ => ?_)
          refine az_E.sn 3 (pc' := 66) (L' := [.retAddr 0, .retAddr 0, .int v2, .retAddr 0, .int v4, .int v5, .ref 65, .ref 67]) (S' := [.int (I 65 1), .ref 67]) (σ' := (97, I, J, R)) rfl ?_
          refine az_E.call (d := 1) (k' := 56) (vs := [.ref 67, .int (I 65 1)]) (pc' := 69) (S' := []) rfl ?_ (fun _ _ hq => hq)
          show az_E az_F ex 1 56 0 [.ref 67, .int (I 65 1)] [] (97, I, J, R) _
          refine az_E.sn 1 (pc' := 1) (L' := [.ref 67, .int (I 65 1)]) (S' := [.ref 67]) (σ' := (97, I, J, R)) rfl ?_
          refine az_E.call (d := 0) (k' := 55) (vs := [.ref 67]) (pc' := 4) (S' := []) rfl ?_ (fun _ _ hq => hq)
          show az_E az_F ex 0 55 0 [.ref 67] [] (97, I, J, R) _
          refine az_E.sn 3 (pc' := 5) (L' := [.ref 67]) (S' := [.int (-1 : Int32), .int (I 67 1)]) (σ' := (97, I, J, R)) rfl ?_
          refine az_E.br (c := (I 67 1) = (-1 : Int32)) (tt := 12) (ff := 8) (L' := [.ref 67]) (S' := []) (σ' := (97, I, J, R)) rfl (fun hc_850 => ?_) (fun hc_850 => ?_)
          · rw [if_pos hc_850] at h
            refine az_E.sn 1 (pc' := 13) (L' := [.ref 67]) (S' := [.int (0 : Int32)]) (σ' := (97, I, J, R)) rfl ?_
            refine az_E.ret (v := some (.int (0 : Int32))) (σ' := (97, I, J, R)) rfl ?_
            show az_E az_F ex 1 56 4 [.ref 67, .int (I 65 1)] [.int (0 : Int32)] (97, I, J, R) _
            refine az_E.br (c := (0 : Int32) = 0) (tt := 19) (ff := 7) (L' := [.ref 67, .int (I 65 1)]) (S' := []) (σ' := (97, I, J, R)) rfl (fun _ => ?_) (fun hn => absurd (by decide) hn)
            refine az_E.sn 1 (pc' := 20) (L' := [.ref 67, .int (I 65 1)]) (S' := [.int (0 : Int32)]) (σ' := (97, I, J, R)) rfl ?_
            refine az_E.ret (v := some (.int (0 : Int32))) (σ' := (97, I, J, R)) rfl ?_
            show az_E az_F ex 2 128 69 [.retAddr 0, .retAddr 0, .int v2, .retAddr 0, .int v4, .int v5, .ref 65, .ref 67] [.int (0 : Int32)] (97, I, J, R) _
            refine az_E.br (c := (0 : Int32) = 0) (tt := 72) (ff := 75) (L' := [.retAddr 0, .retAddr 0, .int v2, .retAddr 0, .int v4, .int v5, .ref 65, .ref 67]) (S' := []) (σ' := (97, I, J, R)) rfl (fun _ => ?_) (fun hn => absurd (by decide) hn)
            refine az_E.sn 1 (pc' := 74) (L' := [.retAddr 0, .retAddr 0, .int v2, .retAddr 0, .int v4, .int v5, .ref 65, .ref 67]) (S' := [.int (-12 : Int32)]) (σ' := (97, I, J, R)) rfl ?_
            have h := Option.some.inj h
            subst h
            exact az_E.ret (v := some (.int (-12 : Int32))) (σ' := (97, I, J, R)) rfl hQ
          · rw [if_neg hc_850] at h
            refine az_E.sn 2 (pc' := 13) (L' := [.ref 67]) (S' := [.int (1 : Int32)]) (σ' := (97, I, J, R)) rfl ?_
            refine az_E.ret (v := some (.int (1 : Int32))) (σ' := (97, I, J, R)) rfl ?_
            show az_E az_F ex 1 56 4 [.ref 67, .int (I 65 1)] [.int (1 : Int32)] (97, I, J, R) _
            refine az_E.br (c := (1 : Int32) = 0) (tt := 19) (ff := 7) (L' := [.ref 67, .int (I 65 1)]) (S' := []) (σ' := (97, I, J, R)) rfl (fun hn => absurd hn (by decide)) (fun _ => ?_)
            refine az_E.sn 3 (pc' := 12) (L' := [.ref 67, .int (I 65 1)]) (S' := [.int (I 65 1), .int (I 67 1)]) (σ' := (97, I, J, R)) rfl ?_
            refine az_E.br (c := (I 67 1) = (I 65 1)) (tt := 15) (ff := 19) (L' := [.ref 67, .int (I 65 1)]) (S' := []) (σ' := (97, I, J, R)) rfl (fun hc_851 => ?_) (fun hc_851 => ?_)
            · rw [if_pos hc_851] at h
              refine az_E.sn 2 (pc' := 20) (L' := [.ref 67, .int (I 65 1)]) (S' := [.int (1 : Int32)]) (σ' := (97, I, J, R)) rfl ?_
              refine az_E.ret (v := some (.int (1 : Int32))) (σ' := (97, I, J, R)) rfl ?_
              show az_E az_F ex 2 128 69 [.retAddr 0, .retAddr 0, .int v2, .retAddr 0, .int v4, .int v5, .ref 65, .ref 67] [.int (1 : Int32)] (97, I, J, R) _
              refine az_E.br (c := (1 : Int32) = 0) (tt := 72) (ff := 75) (L' := [.retAddr 0, .retAddr 0, .int v2, .retAddr 0, .int v4, .int v5, .ref 65, .ref 67]) (S' := []) (σ' := (97, I, J, R)) rfl (fun hn => absurd hn (by decide)) (fun _ => ?_)
              refine az_E.sn 3 (pc' := 80) (L' := [.retAddr 0, .retAddr 0, .int v2, .retAddr 0, .int v4, .int v5, .ref 65, .ref 67]) (S' := [.int v5, .int v2, .ref 65]) (σ' := (97, I, J, R)) rfl ?_
              refine az_E.call (d := 1) (k' := 60) (vs := [.ref 65, .int v2, .int v5]) (pc' := 83) (S' := []) rfl ?_ (fun _ _ hq => hq)
              show az_E az_F ex 1 60 0 [.ref 65, .int v2, .int v5] [] (97, I, J, R) _
              refine az_E.sn 1 (pc' := 1) (L' := [.ref 65, .int v2, .int v5]) (S' := [.int v2]) (σ' := (97, I, J, R)) rfl ?_
              refine az_E.br (c := v2 < 0) (tt := 30) (ff := 4) (L' := [.ref 65, .int v2, .int v5]) (S' := []) (σ' := (97, I, J, R)) rfl (fun hc_852 => ?_) (fun hc_852 => ?_)
              · rw [if_pos hc_852] at h
                refine az_E.sn 1 (pc' := 31) (L' := [.ref 65, .int v2, .int v5]) (S' := [.int (0 : Int32)]) (σ' := (97, I, J, R)) rfl ?_
                refine az_E.ret (v := some (.int (0 : Int32))) (σ' := (97, I, J, R)) rfl ?_
                show az_E az_F ex 2 128 83 [.retAddr 0, .retAddr 0, .int v2, .retAddr 0, .int v4, .int v5, .ref 65, .ref 67] [.int (0 : Int32)] (97, I, J, R) _
                refine az_E.br (c := (0 : Int32) = 0) (tt := 98) (ff := 86) (L' := [.retAddr 0, .retAddr 0, .int v2, .retAddr 0, .int v4, .int v5, .ref 65, .ref 67]) (S' := []) (σ' := (97, I, J, R)) rfl (fun _ => ?_) (fun hn => absurd (by decide) hn)
                refine az_E.sn 1 (pc' := 100) (L' := [.retAddr 0, .retAddr 0, .int v2, .retAddr 0, .int v4, .int v5, .ref 65, .ref 67]) (S' := [.int (-13 : Int32)]) (σ' := (97, I, J, R)) rfl ?_
                have h := Option.some.inj h
                subst h
                exact az_E.ret (v := some (.int (-13 : Int32))) (σ' := (97, I, J, R)) rfl hQ
              · rw [if_neg hc_852] at h
                refine az_E.sn 1 (pc' := 5) (L' := [.ref 65, .int v2, .int v5]) (S' := [.int v5]) (σ' := (97, I, J, R)) rfl ?_
                refine az_E.br (c := v5 < 0) (tt := 30) (ff := 8) (L' := [.ref 65, .int v2, .int v5]) (S' := []) (σ' := (97, I, J, R)) rfl (fun hc_853 => ?_) (fun hc_853 => ?_)
                · rw [if_pos hc_853] at h
                  refine az_E.sn 1 (pc' := 31) (L' := [.ref 65, .int v2, .int v5]) (S' := [.int (0 : Int32)]) (σ' := (97, I, J, R)) rfl ?_
                  refine az_E.ret (v := some (.int (0 : Int32))) (σ' := (97, I, J, R)) rfl ?_
                  show az_E az_F ex 2 128 83 [.retAddr 0, .retAddr 0, .int v2, .retAddr 0, .int v4, .int v5, .ref 65, .ref 67] [.int (0 : Int32)] (97, I, J, R) _
                  refine az_E.br (c := (0 : Int32) = 0) (tt := 98) (ff := 86) (L' := [.retAddr 0, .retAddr 0, .int v2, .retAddr 0, .int v4, .int v5, .ref 65, .ref 67]) (S' := []) (σ' := (97, I, J, R)) rfl (fun _ => ?_) (fun hn => absurd (by decide) hn)
                  refine az_E.sn 1 (pc' := 100) (L' := [.retAddr 0, .retAddr 0, .int v2, .retAddr 0, .int v4, .int v5, .ref 65, .ref 67]) (S' := [.int (-13 : Int32)]) (σ' := (97, I, J, R)) rfl ?_
                  have h := Option.some.inj h
                  subst h
                  exact az_E.ret (v := some (.int (-13 : Int32))) (σ' := (97, I, J, R)) rfl hQ
                · rw [if_neg hc_853] at h
                  refine az_E.sn 3 (pc' := 13) (L' := [.ref 65, .int v2, .int v5]) (S' := [.int (I 65 2), .int v2]) (σ' := (97, I, J, R)) rfl ?_
                  refine az_E.br (c := (I 65 2) < v2) (tt := 30) (ff := 16) (L' := [.ref 65, .int v2, .int v5]) (S' := []) (σ' := (97, I, J, R)) rfl (fun hc_854 => ?_) (fun hc_854 => ?_)
                  · rw [if_pos hc_854] at h
                    refine az_E.sn 1 (pc' := 31) (L' := [.ref 65, .int v2, .int v5]) (S' := [.int (0 : Int32)]) (σ' := (97, I, J, R)) rfl ?_
                    refine az_E.ret (v := some (.int (0 : Int32))) (σ' := (97, I, J, R)) rfl ?_
                    show az_E az_F ex 2 128 83 [.retAddr 0, .retAddr 0, .int v2, .retAddr 0, .int v4, .int v5, .ref 65, .ref 67] [.int (0 : Int32)] (97, I, J, R) _
                    refine az_E.br (c := (0 : Int32) = 0) (tt := 98) (ff := 86) (L' := [.retAddr 0, .retAddr 0, .int v2, .retAddr 0, .int v4, .int v5, .ref 65, .ref 67]) (S' := []) (σ' := (97, I, J, R)) rfl (fun _ => ?_) (fun hn => absurd (by decide) hn)
                    refine az_E.sn 1 (pc' := 100) (L' := [.retAddr 0, .retAddr 0, .int v2, .retAddr 0, .int v4, .int v5, .ref 65, .ref 67]) (S' := [.int (-13 : Int32)]) (σ' := (97, I, J, R)) rfl ?_
                    have h := Option.some.inj h
                    subst h
                    exact az_E.ret (v := some (.int (-13 : Int32))) (σ' := (97, I, J, R)) rfl hQ
                  · rw [if_neg hc_854] at h
                    refine az_E.sn 5 (pc' := 23) (L' := [.ref 65, .int v2, .int v5]) (S' := [.int ((I 65 2) - v2), .int v5]) (σ' := (97, I, J, R)) rfl ?_
                    refine az_E.br (c := ((I 65 2) - v2) < v5) (tt := 30) (ff := 26) (L' := [.ref 65, .int v2, .int v5]) (S' := []) (σ' := (97, I, J, R)) rfl (fun hc_855 => ?_) (fun hc_855 => ?_)
                    · rw [if_pos hc_855] at h
                      refine az_E.sn 1 (pc' := 31) (L' := [.ref 65, .int v2, .int v5]) (S' := [.int (0 : Int32)]) (σ' := (97, I, J, R)) rfl ?_
                      refine az_E.ret (v := some (.int (0 : Int32))) (σ' := (97, I, J, R)) rfl ?_
                      show az_E az_F ex 2 128 83 [.retAddr 0, .retAddr 0, .int v2, .retAddr 0, .int v4, .int v5, .ref 65, .ref 67] [.int (0 : Int32)] (97, I, J, R) _
                      refine az_E.br (c := (0 : Int32) = 0) (tt := 98) (ff := 86) (L' := [.retAddr 0, .retAddr 0, .int v2, .retAddr 0, .int v4, .int v5, .ref 65, .ref 67]) (S' := []) (σ' := (97, I, J, R)) rfl (fun _ => ?_) (fun hn => absurd (by decide) hn)
                      refine az_E.sn 1 (pc' := 100) (L' := [.retAddr 0, .retAddr 0, .int v2, .retAddr 0, .int v4, .int v5, .ref 65, .ref 67]) (S' := [.int (-13 : Int32)]) (σ' := (97, I, J, R)) rfl ?_
                      have h := Option.some.inj h
                      subst h
                      exact az_E.ret (v := some (.int (-13 : Int32))) (σ' := (97, I, J, R)) rfl hQ
                    · rw [if_neg hc_855] at h
                      refine az_E.sn 2 (pc' := 31) (L' := [.ref 65, .int v2, .int v5]) (S' := [.int (1 : Int32)]) (σ' := (97, I, J, R)) rfl ?_
                      refine az_E.ret (v := some (.int (1 : Int32))) (σ' := (97, I, J, R)) rfl ?_
                      show az_E az_F ex 2 128 83 [.retAddr 0, .retAddr 0, .int v2, .retAddr 0, .int v4, .int v5, .ref 65, .ref 67] [.int (1 : Int32)] (97, I, J, R) _
                      refine az_E.br (c := (1 : Int32) = 0) (tt := 98) (ff := 86) (L' := [.retAddr 0, .retAddr 0, .int v2, .retAddr 0, .int v4, .int v5, .ref 65, .ref 67]) (S' := []) (σ' := (97, I, J, R)) rfl (fun hn => absurd hn (by decide)) (fun _ => ?_)
                      refine az_E.sn 3 (pc' := 92) (L' := [.retAddr 0, .retAddr 0, .int v2, .retAddr 0, .int v4, .int v5, .ref 65, .ref 67]) (S' := [.int v5, .int v4, .ref 67]) (σ' := (97, I, J, R)) rfl ?_
                      refine az_E.call (d := 1) (k' := 60) (vs := [.ref 67, .int v4, .int v5]) (pc' := 95) (S' := []) rfl ?_ (fun _ _ hq => hq)
                      show az_E az_F ex 1 60 0 [.ref 67, .int v4, .int v5] [] (97, I, J, R) _
                      refine az_E.sn 1 (pc' := 1) (L' := [.ref 67, .int v4, .int v5]) (S' := [.int v4]) (σ' := (97, I, J, R)) rfl ?_
                      refine az_E.br (c := v4 < 0) (tt := 30) (ff := 4) (L' := [.ref 67, .int v4, .int v5]) (S' := []) (σ' := (97, I, J, R)) rfl (fun hc_856 => ?_) (fun hc_856 => ?_)
                      · rw [if_pos hc_856] at h
                        refine az_E.sn 1 (pc' := 31) (L' := [.ref 67, .int v4, .int v5]) (S' := [.int (0 : Int32)]) (σ' := (97, I, J, R)) rfl ?_
                        refine az_E.ret (v := some (.int (0 : Int32))) (σ' := (97, I, J, R)) rfl ?_
                        show az_E az_F ex 2 128 95 [.retAddr 0, .retAddr 0, .int v2, .retAddr 0, .int v4, .int v5, .ref 65, .ref 67] [.int (0 : Int32)] (97, I, J, R) _
                        refine az_E.br (c := (0 : Int32) = 0) (tt := 98) (ff := 101) (L' := [.retAddr 0, .retAddr 0, .int v2, .retAddr 0, .int v4, .int v5, .ref 65, .ref 67]) (S' := []) (σ' := (97, I, J, R)) rfl (fun _ => ?_) (fun hn => absurd (by decide) hn)
                        refine az_E.sn 1 (pc' := 100) (L' := [.retAddr 0, .retAddr 0, .int v2, .retAddr 0, .int v4, .int v5, .ref 65, .ref 67]) (S' := [.int (-13 : Int32)]) (σ' := (97, I, J, R)) rfl ?_
                        have h := Option.some.inj h
                        subst h
                        exact az_E.ret (v := some (.int (-13 : Int32))) (σ' := (97, I, J, R)) rfl hQ
                      · rw [if_neg hc_856] at h
                        refine az_E.sn 1 (pc' := 5) (L' := [.ref 67, .int v4, .int v5]) (S' := [.int v5]) (σ' := (97, I, J, R)) rfl ?_
                        refine az_E.br (c := v5 < 0) (tt := 30) (ff := 8) (L' := [.ref 67, .int v4, .int v5]) (S' := []) (σ' := (97, I, J, R)) rfl (fun hc_857 => ?_) (fun hc_857 => ?_)
                        · rw [if_pos hc_857] at h
                          refine az_E.sn 1 (pc' := 31) (L' := [.ref 67, .int v4, .int v5]) (S' := [.int (0 : Int32)]) (σ' := (97, I, J, R)) rfl ?_
                          refine az_E.ret (v := some (.int (0 : Int32))) (σ' := (97, I, J, R)) rfl ?_
                          show az_E az_F ex 2 128 95 [.retAddr 0, .retAddr 0, .int v2, .retAddr 0, .int v4, .int v5, .ref 65, .ref 67] [.int (0 : Int32)] (97, I, J, R) _
                          refine az_E.br (c := (0 : Int32) = 0) (tt := 98) (ff := 101) (L' := [.retAddr 0, .retAddr 0, .int v2, .retAddr 0, .int v4, .int v5, .ref 65, .ref 67]) (S' := []) (σ' := (97, I, J, R)) rfl (fun _ => ?_) (fun hn => absurd (by decide) hn)
                          refine az_E.sn 1 (pc' := 100) (L' := [.retAddr 0, .retAddr 0, .int v2, .retAddr 0, .int v4, .int v5, .ref 65, .ref 67]) (S' := [.int (-13 : Int32)]) (σ' := (97, I, J, R)) rfl ?_
                          have h := Option.some.inj h
                          subst h
                          exact az_E.ret (v := some (.int (-13 : Int32))) (σ' := (97, I, J, R)) rfl hQ
                        · rw [if_neg hc_857] at h
                          refine az_E.sn 3 (pc' := 13) (L' := [.ref 67, .int v4, .int v5]) (S' := [.int (I 67 2), .int v4]) (σ' := (97, I, J, R)) rfl ?_
                          refine az_E.br (c := (I 67 2) < v4) (tt := 30) (ff := 16) (L' := [.ref 67, .int v4, .int v5]) (S' := []) (σ' := (97, I, J, R)) rfl (fun hc_858 => ?_) (fun hc_858 => ?_)
                          · rw [if_pos hc_858] at h
                            refine az_E.sn 1 (pc' := 31) (L' := [.ref 67, .int v4, .int v5]) (S' := [.int (0 : Int32)]) (σ' := (97, I, J, R)) rfl ?_
                            refine az_E.ret (v := some (.int (0 : Int32))) (σ' := (97, I, J, R)) rfl ?_
                            show az_E az_F ex 2 128 95 [.retAddr 0, .retAddr 0, .int v2, .retAddr 0, .int v4, .int v5, .ref 65, .ref 67] [.int (0 : Int32)] (97, I, J, R) _
                            refine az_E.br (c := (0 : Int32) = 0) (tt := 98) (ff := 101) (L' := [.retAddr 0, .retAddr 0, .int v2, .retAddr 0, .int v4, .int v5, .ref 65, .ref 67]) (S' := []) (σ' := (97, I, J, R)) rfl (fun _ => ?_) (fun hn => absurd (by decide) hn)
                            refine az_E.sn 1 (pc' := 100) (L' := [.retAddr 0, .retAddr 0, .int v2, .retAddr 0, .int v4, .int v5, .ref 65, .ref 67]) (S' := [.int (-13 : Int32)]) (σ' := (97, I, J, R)) rfl ?_
                            have h := Option.some.inj h
                            subst h
                            exact az_E.ret (v := some (.int (-13 : Int32))) (σ' := (97, I, J, R)) rfl hQ
                          · rw [if_neg hc_858] at h
                            refine az_E.sn 5 (pc' := 23) (L' := [.ref 67, .int v4, .int v5]) (S' := [.int ((I 67 2) - v4), .int v5]) (σ' := (97, I, J, R)) rfl ?_
                            refine az_E.br (c := ((I 67 2) - v4) < v5) (tt := 30) (ff := 26) (L' := [.ref 67, .int v4, .int v5]) (S' := []) (σ' := (97, I, J, R)) rfl (fun hc_859 => ?_) (fun hc_859 => ?_)
                            · rw [if_pos hc_859] at h
                              refine az_E.sn 1 (pc' := 31) (L' := [.ref 67, .int v4, .int v5]) (S' := [.int (0 : Int32)]) (σ' := (97, I, J, R)) rfl ?_
                              refine az_E.ret (v := some (.int (0 : Int32))) (σ' := (97, I, J, R)) rfl ?_
                              show az_E az_F ex 2 128 95 [.retAddr 0, .retAddr 0, .int v2, .retAddr 0, .int v4, .int v5, .ref 65, .ref 67] [.int (0 : Int32)] (97, I, J, R) _
                              refine az_E.br (c := (0 : Int32) = 0) (tt := 98) (ff := 101) (L' := [.retAddr 0, .retAddr 0, .int v2, .retAddr 0, .int v4, .int v5, .ref 65, .ref 67]) (S' := []) (σ' := (97, I, J, R)) rfl (fun _ => ?_) (fun hn => absurd (by decide) hn)
                              refine az_E.sn 1 (pc' := 100) (L' := [.retAddr 0, .retAddr 0, .int v2, .retAddr 0, .int v4, .int v5, .ref 65, .ref 67]) (S' := [.int (-13 : Int32)]) (σ' := (97, I, J, R)) rfl ?_
                              have h := Option.some.inj h
                              subst h
                              exact az_E.ret (v := some (.int (-13 : Int32))) (σ' := (97, I, J, R)) rfl hQ
                            · rw [if_neg hc_859] at h
                              refine az_E.sn 2 (pc' := 31) (L' := [.ref 67, .int v4, .int v5]) (S' := [.int (1 : Int32)]) (σ' := (97, I, J, R)) rfl ?_
                              refine az_E.ret (v := some (.int (1 : Int32))) (σ' := (97, I, J, R)) rfl ?_
                              show az_E az_F ex 2 128 95 [.retAddr 0, .retAddr 0, .int v2, .retAddr 0, .int v4, .int v5, .ref 65, .ref 67] [.int (1 : Int32)] (97, I, J, R) _
                              refine az_E.br (c := (1 : Int32) = 0) (tt := 98) (ff := 101) (L' := [.retAddr 0, .retAddr 0, .int v2, .retAddr 0, .int v4, .int v5, .ref 65, .ref 67]) (S' := []) (σ' := (97, I, J, R)) rfl (fun hn => absurd hn (by decide)) (fun _ => ?_)
                              refine az_E.sn 7 (pc' := 116) (L' := [.retAddr 0, .retAddr 0, .int v2, .retAddr 0, .int v4, .int v5, .ref 65, .ref 67]) (S' := [.int v5, .int v4, .ref (67 + 1), .int v2, .ref (65 + 1)]) (σ' := (97, I, J, R)) rfl ?_
                              by_cases hc_860 : v2 < 0 ∨ v4 < 0 ∨ v5 < 0 ∨ 60 < v2.toNatClampNeg + v5.toNatClampNeg ∨ 60 < v4.toNatClampNeg + v5.toNatClampNeg
                              · rw [if_pos hc_860] at h; cases h
                              · rw [if_neg hc_860] at h
                                refine az_E.o (o := az_cp az_F (97, I, J, R) (65 + 1) v2 (67 + 1) v4 v5) (pc' := 119) (L' := [.retAddr 0, .retAddr 0, .int v2, .retAddr 0, .int v4, .int v5, .ref 65, .ref 67]) (S' := []) (x := (97, I, (az_ur J (67 + 1) (va_cpy (J (65 + 1)) (J (67 + 1)) v2.toNatClampNeg v4.toNatClampNeg v5.toNatClampNeg)), R)) rfl (if_neg hc_860) ?_
                                refine az_E.sn 1 (pc' := 121) (L' := [.retAddr 0, .retAddr 0, .int v2, .retAddr 0, .int v4, .int v5, .ref 65, .ref 67]) (S' := [.int v5]) (σ' := (97, I, (az_ur J (67 + 1) (va_cpy (J (65 + 1)) (J (67 + 1)) v2.toNatClampNeg v4.toNatClampNeg v5.toNatClampNeg)), R)) rfl ?_
                                have h := Option.some.inj h
                                subst h
                                exact az_E.ret (v := some (.int v5)) (σ' := (97, I, (az_ur J (67 + 1) (va_cpy (J (65 + 1)) (J (67 + 1)) v2.toNatClampNeg v4.toNatClampNeg v5.toNatClampNeg)), R)) rfl hQ
            · rw [if_neg hc_851] at h
              refine az_E.sn 1 (pc' := 20) (L' := [.ref 67, .int (I 65 1)]) (S' := [.int (0 : Int32)]) (σ' := (97, I, J, R)) rfl ?_
              refine az_E.ret (v := some (.int (0 : Int32))) (σ' := (97, I, J, R)) rfl ?_
              show az_E az_F ex 2 128 69 [.retAddr 0, .retAddr 0, .int v2, .retAddr 0, .int v4, .int v5, .ref 65, .ref 67] [.int (0 : Int32)] (97, I, J, R) _
              refine az_E.br (c := (0 : Int32) = 0) (tt := 72) (ff := 75) (L' := [.retAddr 0, .retAddr 0, .int v2, .retAddr 0, .int v4, .int v5, .ref 65, .ref 67]) (S' := []) (σ' := (97, I, J, R)) rfl (fun _ => ?_) (fun hn => absurd (by decide) hn)
              refine az_E.sn 1 (pc' := 74) (L' := [.retAddr 0, .retAddr 0, .int v2, .retAddr 0, .int v4, .int v5, .ref 65, .ref 67]) (S' := [.int (-12 : Int32)]) (σ' := (97, I, J, R)) rfl ?_
              have h := Option.some.inj h
              subst h
              exact az_E.ret (v := some (.int (-12 : Int32))) (σ' := (97, I, J, R)) rfl hQ
    · rw [if_neg hc_847] at h
      refine az_E.sn 1 (pc' := 21) (L' := [.ref 67]) (S' := [.int (0 : Int32)]) (σ' := (97, I, J, R)) rfl ?_
      refine az_E.ret (v := some (.int (0 : Int32))) (σ' := (97, I, J, R)) rfl ?_
      show az_E az_F ex 2 128 45 [.retAddr 0, .retAddr 0, .int v2, .retAddr 0, .int v4, .int v5, .ref 65, .ref 67] [.int (0 : Int32)] (97, I, J, R) _
      refine az_E.br (c := (0 : Int32) = 0) (tt := 51) (ff := 48) (L' := [.retAddr 0, .retAddr 0, .int v2, .retAddr 0, .int v4, .int v5, .ref 65, .ref 67]) (S' := []) (σ' := (97, I, J, R)) rfl (fun _ => ?_) (fun hn => absurd (by decide) hn)
      refine az_E.sn 1 (pc' := 53) (L' := [.retAddr 0, .retAddr 0, .int v2, .retAddr 0, .int v4, .int v5, .ref 65, .ref 67]) (S' := [.ref 65]) (σ' := (97, I, J, R)) rfl ?_
      refine az_E.call (d := 1) (k' := 55) (vs := [.ref 65]) (pc' := 56) (S' := []) rfl ?_ (fun _ _ hq => hq)
      show az_E az_F ex 1 55 0 [.ref 65] [] (97, I, J, R) _
      refine az_E.sn 3 (pc' := 5) (L' := [.ref 65]) (S' := [.int (-1 : Int32), .int (I 65 1)]) (σ' := (97, I, J, R)) rfl ?_
      refine az_E.br (c := (I 65 1) = (-1 : Int32)) (tt := 12) (ff := 8) (L' := [.ref 65]) (S' := []) (σ' := (97, I, J, R)) rfl (fun hc_861 => ?_) (fun hc_861 => ?_)
      · rw [if_pos hc_861] at h
        refine az_E.sn 1 (pc' := 13) (L' := [.ref 65]) (S' := [.int (0 : Int32)]) (σ' := (97, I, J, R)) rfl ?_
        refine az_E.ret (v := some (.int (0 : Int32))) (σ' := (97, I, J, R)) rfl ?_
        show az_E az_F ex 2 128 56 [.retAddr 0, .retAddr 0, .int v2, .retAddr 0, .int v4, .int v5, .ref 65, .ref 67] [.int (0 : Int32)] (97, I, J, R) _
        refine az_E.br (c := (0 : Int32) = 0) (tt := 72) (ff := 59) (L' := [.retAddr 0, .retAddr 0, .int v2, .retAddr 0, .int v4, .int v5, .ref 65, .ref 67]) (S' := []) (σ' := (97, I, J, R)) rfl (fun _ => ?_) (fun hn => absurd (by decide) hn)
        refine az_E.sn 1 (pc' := 74) (L' := [.retAddr 0, .retAddr 0, .int v2, .retAddr 0, .int v4, .int v5, .ref 65, .ref 67]) (S' := [.int (-12 : Int32)]) (σ' := (97, I, J, R)) rfl ?_
        have h := Option.some.inj h
        subst h
        exact az_E.ret (v := some (.int (-12 : Int32))) (σ' := (97, I, J, R)) rfl hQ
      · rw [if_neg hc_861] at h
        refine az_E.sn 2 (pc' := 13) (L' := [.ref 65]) (S' := [.int (1 : Int32)]) (σ' := (97, I, J, R)) rfl ?_
        refine az_E.ret (v := some (.int (1 : Int32))) (σ' := (97, I, J, R)) rfl ?_
        show az_E az_F ex 2 128 56 [.retAddr 0, .retAddr 0, .int v2, .retAddr 0, .int v4, .int v5, .ref 65, .ref 67] [.int (1 : Int32)] (97, I, J, R) _
        refine az_E.br (c := (1 : Int32) = 0) (tt := 72) (ff := 59) (L' := [.retAddr 0, .retAddr 0, .int v2, .retAddr 0, .int v4, .int v5, .ref 65, .ref 67]) (S' := []) (σ' := (97, I, J, R)) rfl (fun hn => absurd hn (by decide)) (fun _ => ?_)
        refine az_E.sn 3 (pc' := 66) (L' := [.retAddr 0, .retAddr 0, .int v2, .retAddr 0, .int v4, .int v5, .ref 65, .ref 67]) (S' := [.int (I 65 1), .ref 67]) (σ' := (97, I, J, R)) rfl ?_
        refine az_E.call (d := 1) (k' := 56) (vs := [.ref 67, .int (I 65 1)]) (pc' := 69) (S' := []) rfl ?_ (fun _ _ hq => hq)
        show az_E az_F ex 1 56 0 [.ref 67, .int (I 65 1)] [] (97, I, J, R) _
        refine az_E.sn 1 (pc' := 1) (L' := [.ref 67, .int (I 65 1)]) (S' := [.ref 67]) (σ' := (97, I, J, R)) rfl ?_
        refine az_E.call (d := 0) (k' := 55) (vs := [.ref 67]) (pc' := 4) (S' := []) rfl ?_ (fun _ _ hq => hq)
        show az_E az_F ex 0 55 0 [.ref 67] [] (97, I, J, R) _
        refine az_E.sn 3 (pc' := 5) (L' := [.ref 67]) (S' := [.int (-1 : Int32), .int (I 67 1)]) (σ' := (97, I, J, R)) rfl ?_
        refine az_E.br (c := (I 67 1) = (-1 : Int32)) (tt := 12) (ff := 8) (L' := [.ref 67]) (S' := []) (σ' := (97, I, J, R)) rfl (fun hc_862 => ?_) (fun hc_862 => ?_)
        · rw [if_pos hc_862] at h
          refine az_E.sn 1 (pc' := 13) (L' := [.ref 67]) (S' := [.int (0 : Int32)]) (σ' := (97, I, J, R)) rfl ?_
          refine az_E.ret (v := some (.int (0 : Int32))) (σ' := (97, I, J, R)) rfl ?_
          show az_E az_F ex 1 56 4 [.ref 67, .int (I 65 1)] [.int (0 : Int32)] (97, I, J, R) _
          refine az_E.br (c := (0 : Int32) = 0) (tt := 19) (ff := 7) (L' := [.ref 67, .int (I 65 1)]) (S' := []) (σ' := (97, I, J, R)) rfl (fun _ => ?_) (fun hn => absurd (by decide) hn)
          refine az_E.sn 1 (pc' := 20) (L' := [.ref 67, .int (I 65 1)]) (S' := [.int (0 : Int32)]) (σ' := (97, I, J, R)) rfl ?_
          refine az_E.ret (v := some (.int (0 : Int32))) (σ' := (97, I, J, R)) rfl ?_
          show az_E az_F ex 2 128 69 [.retAddr 0, .retAddr 0, .int v2, .retAddr 0, .int v4, .int v5, .ref 65, .ref 67] [.int (0 : Int32)] (97, I, J, R) _
          refine az_E.br (c := (0 : Int32) = 0) (tt := 72) (ff := 75) (L' := [.retAddr 0, .retAddr 0, .int v2, .retAddr 0, .int v4, .int v5, .ref 65, .ref 67]) (S' := []) (σ' := (97, I, J, R)) rfl (fun _ => ?_) (fun hn => absurd (by decide) hn)
          refine az_E.sn 1 (pc' := 74) (L' := [.retAddr 0, .retAddr 0, .int v2, .retAddr 0, .int v4, .int v5, .ref 65, .ref 67]) (S' := [.int (-12 : Int32)]) (σ' := (97, I, J, R)) rfl ?_
          have h := Option.some.inj h
          subst h
          exact az_E.ret (v := some (.int (-12 : Int32))) (σ' := (97, I, J, R)) rfl hQ
        · rw [if_neg hc_862] at h
          refine az_E.sn 2 (pc' := 13) (L' := [.ref 67]) (S' := [.int (1 : Int32)]) (σ' := (97, I, J, R)) rfl ?_
          refine az_E.ret (v := some (.int (1 : Int32))) (σ' := (97, I, J, R)) rfl ?_
          show az_E az_F ex 1 56 4 [.ref 67, .int (I 65 1)] [.int (1 : Int32)] (97, I, J, R) _
          refine az_E.br (c := (1 : Int32) = 0) (tt := 19) (ff := 7) (L' := [.ref 67, .int (I 65 1)]) (S' := []) (σ' := (97, I, J, R)) rfl (fun hn => absurd hn (by decide)) (fun _ => ?_)
          refine az_E.sn 3 (pc' := 12) (L' := [.ref 67, .int (I 65 1)]) (S' := [.int (I 65 1), .int (I 67 1)]) (σ' := (97, I, J, R)) rfl ?_
          refine az_E.br (c := (I 67 1) = (I 65 1)) (tt := 15) (ff := 19) (L' := [.ref 67, .int (I 65 1)]) (S' := []) (σ' := (97, I, J, R)) rfl (fun hc_863 => ?_) (fun hc_863 => ?_)
          · rw [if_pos hc_863] at h
            refine az_E.sn 2 (pc' := 20) (L' := [.ref 67, .int (I 65 1)]) (S' := [.int (1 : Int32)]) (σ' := (97, I, J, R)) rfl ?_
            refine az_E.ret (v := some (.int (1 : Int32))) (σ' := (97, I, J, R)) rfl ?_
            show az_E az_F ex 2 128 69 [.retAddr 0, .retAddr 0, .int v2, .retAddr 0, .int v4, .int v5, .ref 65, .ref 67] [.int (1 : Int32)] (97, I, J, R) _
            refine az_E.br (c := (1 : Int32) = 0) (tt := 72) (ff := 75) (L' := [.retAddr 0, .retAddr 0, .int v2, .retAddr 0, .int v4, .int v5, .ref 65, .ref 67]) (S' := []) (σ' := (97, I, J, R)) rfl (fun hn => absurd hn (by decide)) (fun _ => ?_)
            refine az_E.sn 3 (pc' := 80) (L' := [.retAddr 0, .retAddr 0, .int v2, .retAddr 0, .int v4, .int v5, .ref 65, .ref 67]) (S' := [.int v5, .int v2, .ref 65]) (σ' := (97, I, J, R)) rfl ?_
            refine az_E.call (d := 1) (k' := 60) (vs := [.ref 65, .int v2, .int v5]) (pc' := 83) (S' := []) rfl ?_ (fun _ _ hq => hq)
            show az_E az_F ex 1 60 0 [.ref 65, .int v2, .int v5] [] (97, I, J, R) _
            refine az_E.sn 1 (pc' := 1) (L' := [.ref 65, .int v2, .int v5]) (S' := [.int v2]) (σ' := (97, I, J, R)) rfl ?_
            refine az_E.br (c := v2 < 0) (tt := 30) (ff := 4) (L' := [.ref 65, .int v2, .int v5]) (S' := []) (σ' := (97, I, J, R)) rfl (fun hc_864 => ?_) (fun hc_864 => ?_)
            · rw [if_pos hc_864] at h
              refine az_E.sn 1 (pc' := 31) (L' := [.ref 65, .int v2, .int v5]) (S' := [.int (0 : Int32)]) (σ' := (97, I, J, R)) rfl ?_
              refine az_E.ret (v := some (.int (0 : Int32))) (σ' := (97, I, J, R)) rfl ?_
              show az_E az_F ex 2 128 83 [.retAddr 0, .retAddr 0, .int v2, .retAddr 0, .int v4, .int v5, .ref 65, .ref 67] [.int (0 : Int32)] (97, I, J, R) _
              refine az_E.br (c := (0 : Int32) = 0) (tt := 98) (ff := 86) (L' := [.retAddr 0, .retAddr 0, .int v2, .retAddr 0, .int v4, .int v5, .ref 65, .ref 67]) (S' := []) (σ' := (97, I, J, R)) rfl (fun _ => ?_) (fun hn => absurd (by decide) hn)
              refine az_E.sn 1 (pc' := 100) (L' := [.retAddr 0, .retAddr 0, .int v2, .retAddr 0, .int v4, .int v5, .ref 65, .ref 67]) (S' := [.int (-13 : Int32)]) (σ' := (97, I, J, R)) rfl ?_
              have h := Option.some.inj h
              subst h
              exact az_E.ret (v := some (.int (-13 : Int32))) (σ' := (97, I, J, R)) rfl hQ
            · rw [if_neg hc_864] at h
              refine az_E.sn 1 (pc' := 5) (L' := [.ref 65, .int v2, .int v5]) (S' := [.int v5]) (σ' := (97, I, J, R)) rfl ?_
              refine az_E.br (c := v5 < 0) (tt := 30) (ff := 8) (L' := [.ref 65, .int v2, .int v5]) (S' := []) (σ' := (97, I, J, R)) rfl (fun hc_865 => ?_) (fun hc_865 => ?_)
              · rw [if_pos hc_865] at h
                refine az_E.sn 1 (pc' := 31) (L' := [.ref 65, .int v2, .int v5]) (S' := [.int (0 : Int32)]) (σ' := (97, I, J, R)) rfl ?_
                refine az_E.ret (v := some (.int (0 : Int32))) (σ' := (97, I, J, R)) rfl ?_
                show az_E az_F ex 2 128 83 [.retAddr 0, .retAddr 0, .int v2, .retAddr 0, .int v4, .int v5, .ref 65, .ref 67] [.int (0 : Int32)] (97, I, J, R) _
                refine az_E.br (c := (0 : Int32) = 0) (tt := 98) (ff := 86) (L' := [.retAddr 0, .retAddr 0, .int v2, .retAddr 0, .int v4, .int v5, .ref 65, .ref 67]) (S' := []) (σ' := (97, I, J, R)) rfl (fun _ => ?_) (fun hn => absurd (by decide) hn)
                refine az_E.sn 1 (pc' := 100) (L' := [.retAddr 0, .retAddr 0, .int v2, .retAddr 0, .int v4, .int v5, .ref 65, .ref 67]) (S' := [.int (-13 : Int32)]) (σ' := (97, I, J, R)) rfl ?_
                have h := Option.some.inj h
                subst h
                exact az_E.ret (v := some (.int (-13 : Int32))) (σ' := (97, I, J, R)) rfl hQ
              · rw [if_neg hc_865] at h
                refine az_E.sn 3 (pc' := 13) (L' := [.ref 65, .int v2, .int v5]) (S' := [.int (I 65 2), .int v2]) (σ' := (97, I, J, R)) rfl ?_
                refine az_E.br (c := (I 65 2) < v2) (tt := 30) (ff := 16) (L' := [.ref 65, .int v2, .int v5]) (S' := []) (σ' := (97, I, J, R)) rfl (fun hc_866 => ?_) (fun hc_866 => ?_)
                · rw [if_pos hc_866] at h
                  refine az_E.sn 1 (pc' := 31) (L' := [.ref 65, .int v2, .int v5]) (S' := [.int (0 : Int32)]) (σ' := (97, I, J, R)) rfl ?_
                  refine az_E.ret (v := some (.int (0 : Int32))) (σ' := (97, I, J, R)) rfl ?_
                  show az_E az_F ex 2 128 83 [.retAddr 0, .retAddr 0, .int v2, .retAddr 0, .int v4, .int v5, .ref 65, .ref 67] [.int (0 : Int32)] (97, I, J, R) _
                  refine az_E.br (c := (0 : Int32) = 0) (tt := 98) (ff := 86) (L' := [.retAddr 0, .retAddr 0, .int v2, .retAddr 0, .int v4, .int v5, .ref 65, .ref 67]) (S' := []) (σ' := (97, I, J, R)) rfl (fun _ => ?_) (fun hn => absurd (by decide) hn)
                  refine az_E.sn 1 (pc' := 100) (L' := [.retAddr 0, .retAddr 0, .int v2, .retAddr 0, .int v4, .int v5, .ref 65, .ref 67]) (S' := [.int (-13 : Int32)]) (σ' := (97, I, J, R)) rfl ?_
                  have h := Option.some.inj h
                  subst h
                  exact az_E.ret (v := some (.int (-13 : Int32))) (σ' := (97, I, J, R)) rfl hQ
                · rw [if_neg hc_866] at h
                  refine az_E.sn 5 (pc' := 23) (L' := [.ref 65, .int v2, .int v5]) (S' := [.int ((I 65 2) - v2), .int v5]) (σ' := (97, I, J, R)) rfl ?_
                  refine az_E.br (c := ((I 65 2) - v2) < v5) (tt := 30) (ff := 26) (L' := [.ref 65, .int v2, .int v5]) (S' := []) (σ' := (97, I, J, R)) rfl (fun hc_867 => ?_) (fun hc_867 => ?_)
                  · rw [if_pos hc_867] at h
                    refine az_E.sn 1 (pc' := 31) (L' := [.ref 65, .int v2, .int v5]) (S' := [.int (0 : Int32)]) (σ' := (97, I, J, R)) rfl ?_
                    refine az_E.ret (v := some (.int (0 : Int32))) (σ' := (97, I, J, R)) rfl ?_
                    show az_E az_F ex 2 128 83 [.retAddr 0, .retAddr 0, .int v2, .retAddr 0, .int v4, .int v5, .ref 65, .ref 67] [.int (0 : Int32)] (97, I, J, R) _
                    refine az_E.br (c := (0 : Int32) = 0) (tt := 98) (ff := 86) (L' := [.retAddr 0, .retAddr 0, .int v2, .retAddr 0, .int v4, .int v5, .ref 65, .ref 67]) (S' := []) (σ' := (97, I, J, R)) rfl (fun _ => ?_) (fun hn => absurd (by decide) hn)
                    refine az_E.sn 1 (pc' := 100) (L' := [.retAddr 0, .retAddr 0, .int v2, .retAddr 0, .int v4, .int v5, .ref 65, .ref 67]) (S' := [.int (-13 : Int32)]) (σ' := (97, I, J, R)) rfl ?_
                    have h := Option.some.inj h
                    subst h
                    exact az_E.ret (v := some (.int (-13 : Int32))) (σ' := (97, I, J, R)) rfl hQ
                  · rw [if_neg hc_867] at h
                    refine az_E.sn 2 (pc' := 31) (L' := [.ref 65, .int v2, .int v5]) (S' := [.int (1 : Int32)]) (σ' := (97, I, J, R)) rfl ?_
                    refine az_E.ret (v := some (.int (1 : Int32))) (σ' := (97, I, J, R)) rfl ?_
                    show az_E az_F ex 2 128 83 [.retAddr 0, .retAddr 0, .int v2, .retAddr 0, .int v4, .int v5, .ref 65, .ref 67] [.int (1 : Int32)] (97, I, J, R) _
                    refine az_E.br (c := (1 : Int32) = 0) (tt := 98) (ff := 86) (L' := [.retAddr 0, .retAddr 0, .int v2, .retAddr 0, .int v4, .int v5, .ref 65, .ref 67]) (S' := []) (σ' := (97, I, J, R)) rfl (fun hn => absurd hn (by decide)) (fun _ => ?_)
                    refine az_E.sn 3 (pc' := 92) (L' := [.retAddr 0, .retAddr 0, .int v2, .retAddr 0, .int v4, .int v5, .ref 65, .ref 67]) (S' := [.int v5, .int v4, .ref 67]) (σ' := (97, I, J, R)) rfl ?_
                    refine az_E.call (d := 1) (k' := 60) (vs := [.ref 67, .int v4, .int v5]) (pc' := 95) (S' := []) rfl ?_ (fun _ _ hq => hq)
                    show az_E az_F ex 1 60 0 [.ref 67, .int v4, .int v5] [] (97, I, J, R) _
                    refine az_E.sn 1 (pc' := 1) (L' := [.ref 67, .int v4, .int v5]) (S' := [.int v4]) (σ' := (97, I, J, R)) rfl ?_
                    refine az_E.br (c := v4 < 0) (tt := 30) (ff := 4) (L' := [.ref 67, .int v4, .int v5]) (S' := []) (σ' := (97, I, J, R)) rfl (fun hc_868 => ?_) (fun hc_868 => ?_)
                    · rw [if_pos hc_868] at h
                      refine az_E.sn 1 (pc' := 31) (L' := [.ref 67, .int v4, .int v5]) (S' := [.int (0 : Int32)]) (σ' := (97, I, J, R)) rfl ?_
                      refine az_E.ret (v := some (.int (0 : Int32))) (σ' := (97, I, J, R)) rfl ?_
                      show az_E az_F ex 2 128 95 [.retAddr 0, .retAddr 0, .int v2, .retAddr 0, .int v4, .int v5, .ref 65, .ref 67] [.int (0 : Int32)] (97, I, J, R) _
                      refine az_E.br (c := (0 : Int32) = 0) (tt := 98) (ff := 101) (L' := [.retAddr 0, .retAddr 0, .int v2, .retAddr 0, .int v4, .int v5, .ref 65, .ref 67]) (S' := []) (σ' := (97, I, J, R)) rfl (fun _ => ?_) (fun hn => absurd (by decide) hn)
                      refine az_E.sn 1 (pc' := 100) (L' := [.retAddr 0, .retAddr 0, .int v2, .retAddr 0, .int v4, .int v5, .ref 65, .ref 67]) (S' := [.int (-13 : Int32)]) (σ' := (97, I, J, R)) rfl ?_
                      have h := Option.some.inj h
                      subst h
                      exact az_E.ret (v := some (.int (-13 : Int32))) (σ' := (97, I, J, R)) rfl hQ
                    · rw [if_neg hc_868] at h
                      refine az_E.sn 1 (pc' := 5) (L' := [.ref 67, .int v4, .int v5]) (S' := [.int v5]) (σ' := (97, I, J, R)) rfl ?_
                      refine az_E.br (c := v5 < 0) (tt := 30) (ff := 8) (L' := [.ref 67, .int v4, .int v5]) (S' := []) (σ' := (97, I, J, R)) rfl (fun hc_869 => ?_) (fun hc_869 => ?_)
                      · rw [if_pos hc_869] at h
                        refine az_E.sn 1 (pc' := 31) (L' := [.ref 67, .int v4, .int v5]) (S' := [.int (0 : Int32)]) (σ' := (97, I, J, R)) rfl ?_
                        refine az_E.ret (v := some (.int (0 : Int32))) (σ' := (97, I, J, R)) rfl ?_
                        show az_E az_F ex 2 128 95 [.retAddr 0, .retAddr 0, .int v2, .retAddr 0, .int v4, .int v5, .ref 65, .ref 67] [.int (0 : Int32)] (97, I, J, R) _
                        refine az_E.br (c := (0 : Int32) = 0) (tt := 98) (ff := 101) (L' := [.retAddr 0, .retAddr 0, .int v2, .retAddr 0, .int v4, .int v5, .ref 65, .ref 67]) (S' := []) (σ' := (97, I, J, R)) rfl (fun _ => ?_) (fun hn => absurd (by decide) hn)
                        refine az_E.sn 1 (pc' := 100) (L' := [.retAddr 0, .retAddr 0, .int v2, .retAddr 0, .int v4, .int v5, .ref 65, .ref 67]) (S' := [.int (-13 : Int32)]) (σ' := (97, I, J, R)) rfl ?_
                        have h := Option.some.inj h
                        subst h
                        exact az_E.ret (v := some (.int (-13 : Int32))) (σ' := (97, I, J, R)) rfl hQ
                      · rw [if_neg hc_869] at h
                        refine az_E.sn 3 (pc' := 13) (L' := [.ref 67, .int v4, .int v5]) (S' := [.int (I 67 2), .int v4]) (σ' := (97, I, J, R)) rfl ?_
                        refine az_E.br (c := (I 67 2) < v4) (tt := 30) (ff := 16) (L' := [.ref 67, .int v4, .int v5]) (S' := []) (σ' := (97, I, J, R)) rfl (fun hc_870 => ?_) (fun hc_870 => ?_)
                        · rw [if_pos hc_870] at h
                          refine az_E.sn 1 (pc' := 31) (L' := [.ref 67, .int v4, .int v5]) (S' := [.int (0 : Int32)]) (σ' := (97, I, J, R)) rfl ?_
                          refine az_E.ret (v := some (.int (0 : Int32))) (σ' := (97, I, J, R)) rfl ?_
                          show az_E az_F ex 2 128 95 [.retAddr 0, .retAddr 0, .int v2, .retAddr 0, .int v4, .int v5, .ref 65, .ref 67] [.int (0 : Int32)] (97, I, J, R) _
                          refine az_E.br (c := (0 : Int32) = 0) (tt := 98) (ff := 101) (L' := [.retAddr 0, .retAddr 0, .int v2, .retAddr 0, .int v4, .int v5, .ref 65, .ref 67]) (S' := []) (σ' := (97, I, J, R)) rfl (fun _ => ?_) (fun hn => absurd (by decide) hn)
                          refine az_E.sn 1 (pc' := 100) (L' := [.retAddr 0, .retAddr 0, .int v2, .retAddr 0, .int v4, .int v5, .ref 65, .ref 67]) (S' := [.int (-13 : Int32)]) (σ' := (97, I, J, R)) rfl ?_
                          have h := Option.some.inj h
                          subst h
                          exact az_E.ret (v := some (.int (-13 : Int32))) (σ' := (97, I, J, R)) rfl hQ
                        · rw [if_neg hc_870] at h
                          refine az_E.sn 5 (pc' := 23) (L' := [.ref 67, .int v4, .int v5]) (S' := [.int ((I 67 2) - v4), .int v5]) (σ' := (97, I, J, R)) rfl ?_
                          refine az_E.br (c := ((I 67 2) - v4) < v5) (tt := 30) (ff := 26) (L' := [.ref 67, .int v4, .int v5]) (S' := []) (σ' := (97, I, J, R)) rfl (fun hc_871 => ?_) (fun hc_871 => ?_)
                          · rw [if_pos hc_871] at h
                            refine az_E.sn 1 (pc' := 31) (L' := [.ref 67, .int v4, .int v5]) (S' := [.int (0 : Int32)]) (σ' := (97, I, J, R)) rfl ?_
                            refine az_E.ret (v := some (.int (0 : Int32))) (σ' := (97, I, J, R)) rfl ?_
                            show az_E az_F ex 2 128 95 [.retAddr 0, .retAddr 0, .int v2, .retAddr 0, .int v4, .int v5, .ref 65, .ref 67] [.int (0 : Int32)] (97, I, J, R) _
                            refine az_E.br (c := (0 : Int32) = 0) (tt := 98) (ff := 101) (L' := [.retAddr 0, .retAddr 0, .int v2, .retAddr 0, .int v4, .int v5, .ref 65, .ref 67]) (S' := []) (σ' := (97, I, J, R)) rfl (fun _ => ?_) (fun hn => absurd (by decide) hn)
                            refine az_E.sn 1 (pc' := 100) (L' := [.retAddr 0, .retAddr 0, .int v2, .retAddr 0, .int v4, .int v5, .ref 65, .ref 67]) (S' := [.int (-13 : Int32)]) (σ' := (97, I, J, R)) rfl ?_
                            have h := Option.some.inj h
                            subst h
                            exact az_E.ret (v := some (.int (-13 : Int32))) (σ' := (97, I, J, R)) rfl hQ
                          · rw [if_neg hc_871] at h
                            refine az_E.sn 2 (pc' := 31) (L' := [.ref 67, .int v4, .int v5]) (S' := [.int (1 : Int32)]) (σ' := (97, I, J, R)) rfl ?_
                            refine az_E.ret (v := some (.int (1 : Int32))) (σ' := (97, I, J, R)) rfl ?_
                            show az_E az_F ex 2 128 95 [.retAddr 0, .retAddr 0, .int v2, .retAddr 0, .int v4, .int v5, .ref 65, .ref 67] [.int (1 : Int32)] (97, I, J, R) _
                            refine az_E.br (c := (1 : Int32) = 0) (tt := 98) (ff := 101) (L' := [.retAddr 0, .retAddr 0, .int v2, .retAddr 0, .int v4, .int v5, .ref 65, .ref 67]) (S' := []) (σ' := (97, I, J, R)) rfl (fun hn => absurd hn (by decide)) (fun _ => ?_)
                            refine az_E.sn 7 (pc' := 116) (L' := [.retAddr 0, .retAddr 0, .int v2, .retAddr 0, .int v4, .int v5, .ref 65, .ref 67]) (S' := [.int v5, .int v4, .ref (67 + 1), .int v2, .ref (65 + 1)]) (σ' := (97, I, J, R)) rfl ?_
                            by_cases hc_872 : v2 < 0 ∨ v4 < 0 ∨ v5 < 0 ∨ 60 < v2.toNatClampNeg + v5.toNatClampNeg ∨ 60 < v4.toNatClampNeg + v5.toNatClampNeg
                            · rw [if_pos hc_872] at h; cases h
                            · rw [if_neg hc_872] at h
                              refine az_E.o (o := az_cp az_F (97, I, J, R) (65 + 1) v2 (67 + 1) v4 v5) (pc' := 119) (L' := [.retAddr 0, .retAddr 0, .int v2, .retAddr 0, .int v4, .int v5, .ref 65, .ref 67]) (S' := []) (x := (97, I, (az_ur J (67 + 1) (va_cpy (J (65 + 1)) (J (67 + 1)) v2.toNatClampNeg v4.toNatClampNeg v5.toNatClampNeg)), R)) rfl (if_neg hc_872) ?_
                              refine az_E.sn 1 (pc' := 121) (L' := [.retAddr 0, .retAddr 0, .int v2, .retAddr 0, .int v4, .int v5, .ref 65, .ref 67]) (S' := [.int v5]) (σ' := (97, I, (az_ur J (67 + 1) (va_cpy (J (65 + 1)) (J (67 + 1)) v2.toNatClampNeg v4.toNatClampNeg v5.toNatClampNeg)), R)) rfl ?_
                              have h := Option.some.inj h
                              subst h
                              exact az_E.ret (v := some (.int v5)) (σ' := (97, I, (az_ur J (67 + 1) (va_cpy (J (65 + 1)) (J (67 + 1)) v2.toNatClampNeg v4.toNatClampNeg v5.toNatClampNeg)), R)) rfl hQ
          · rw [if_neg hc_863] at h
            refine az_E.sn 1 (pc' := 20) (L' := [.ref 67, .int (I 65 1)]) (S' := [.int (0 : Int32)]) (σ' := (97, I, J, R)) rfl ?_
            refine az_E.ret (v := some (.int (0 : Int32))) (σ' := (97, I, J, R)) rfl ?_
            show az_E az_F ex 2 128 69 [.retAddr 0, .retAddr 0, .int v2, .retAddr 0, .int v4, .int v5, .ref 65, .ref 67] [.int (0 : Int32)] (97, I, J, R) _
            refine az_E.br (c := (0 : Int32) = 0) (tt := 72) (ff := 75) (L' := [.retAddr 0, .retAddr 0, .int v2, .retAddr 0, .int v4, .int v5, .ref 65, .ref 67]) (S' := []) (σ' := (97, I, J, R)) rfl (fun _ => ?_) (fun hn => absurd (by decide) hn)
            refine az_E.sn 1 (pc' := 74) (L' := [.retAddr 0, .retAddr 0, .int v2, .retAddr 0, .int v4, .int v5, .ref 65, .ref 67]) (S' := [.int (-12 : Int32)]) (σ' := (97, I, J, R)) rfl ?_
            have h := Option.some.inj h
            subst h
            exact az_E.ret (v := some (.int (-12 : Int32))) (σ' := (97, I, J, R)) rfl hQ
set_option maxRecDepth 100000 in
set_option maxHeartbeats 4000000 in
theorem re_X_shift_30_65_69 {ex : az_X} {I : Nat → Nat → Int32} {J : Nat → Nat → Int64} {R : Nat → Nat → Option Nat} {v2 : Int32} {v4 : Int32} {v5 : Int32} {x : Int32 × (Nat → Nat → Int64)} (h : rs_X_shift_30 65 69 I J v2 v4 v5 = some x) {Q : Option Value → az_S → Prop} (hQ : Q (some (.int x.1)) (97, I, x.2, R)) : az_E az_F ex 2 128 30 [.retAddr 0, .retAddr 0, .int v2, .retAddr 0, .int v4, .int v5, .ref 65, .retAddr 0] [.ref 69] (97, I, J, R) Q := by
  unfold rs_X_shift_30 at h
  refine az_E.sn 2 (pc' := 34) (L' := [.retAddr 0, .retAddr 0, .int v2, .retAddr 0, .int v4, .int v5, .ref 65, .ref 69]) (S' := [.ref 65]) (σ' := (97, I, J, R)) rfl ?_
  refine az_E.call (d := 1) (k' := 54) (vs := [.ref 65]) (pc' := 37) (S' := []) rfl ?_ (fun _ _ hq => hq)
  show az_E az_F ex 1 54 0 [.ref 65] [] (97, I, J, R) _
  refine az_E.sn 3 (pc' := 5) (L' := [.ref 65]) (S' := [.int (-1 : Int32), .int (I 65 0)]) (σ' := (97, I, J, R)) rfl ?_
  refine az_E.br (c := (I 65 0) = (-1 : Int32)) (tt := 8) (ff := 20) (L' := [.ref 65]) (S' := []) (σ' := (97, I, J, R)) rfl (fun hc_873 => ?_) (fun hc_873 => ?_)
  · rw [if_pos hc_873] at h
    refine az_E.sn 3 (pc' := 13) (L' := [.ref 65]) (S' := [.int (-1 : Int32), .int (I 65 1)]) (σ' := (97, I, J, R)) rfl ?_
    refine az_E.br (c := (I 65 1) = (-1 : Int32)) (tt := 16) (ff := 20) (L' := [.ref 65]) (S' := []) (σ' := (97, I, J, R)) rfl (fun hc_874 => ?_) (fun hc_874 => ?_)
    · rw [if_pos hc_874] at h
      refine az_E.sn 2 (pc' := 21) (L' := [.ref 65]) (S' := [.int (1 : Int32)]) (σ' := (97, I, J, R)) rfl ?_
      refine az_E.ret (v := some (.int (1 : Int32))) (σ' := (97, I, J, R)) rfl ?_
      show az_E az_F ex 2 128 37 [.retAddr 0, .retAddr 0, .int v2, .retAddr 0, .int v4, .int v5, .ref 65, .ref 69] [.int (1 : Int32)] (97, I, J, R) _
      refine az_E.br (c := (1 : Int32) = 0) (tt := 40) (ff := 48) (L' := [.retAddr 0, .retAddr 0, .int v2, .retAddr 0, .int v4, .int v5, .ref 65, .ref 69]) (S' := []) (σ' := (97, I, J, R)) rfl (fun hn => absurd hn (by decide)) (fun _ => ?_)
      refine az_E.sn 1 (pc' := 50) (L' := [.retAddr 0, .retAddr 0, .int v2, .retAddr 0, .int v4, .int v5, .ref 65, .ref 69]) (S' := [.int (-11 : Int32)]) (σ' := (97, I, J, R)) rfl ?_
      have h := Option.some.inj h
      subst h
      exact az_E.ret (v := some (.int (-11 : Int32))) (σ' := (97, I, J, R)) rfl hQ
    · rw [if_neg hc_874] at h
      refine az_E.sn 1 (pc' := 21) (L' := [.ref 65]) (S' := [.int (0 : Int32)]) (σ' := (97, I, J, R)) rfl ?_
      refine az_E.ret (v := some (.int (0 : Int32))) (σ' := (97, I, J, R)) rfl ?_
      show az_E az_F ex 2 128 37 [.retAddr 0, .retAddr 0, .int v2, .retAddr 0, .int v4, .int v5, .ref 65, .ref 69] [.int (0 : Int32)] (97, I, J, R) _
      refine az_E.br (c := (0 : Int32) = 0) (tt := 40) (ff := 48) (L' := [.retAddr 0, .retAddr 0, .int v2, .retAddr 0, .int v4, .int v5, .ref 65, .ref 69]) (S' := []) (σ' := (97, I, J, R)) rfl (fun _ => ?_) (fun hn => absurd (by decide) hn)
      refine az_E.sn 1 (pc' := 42) (L' := [.retAddr 0, .retAddr 0, .int v2, .retAddr 0, .int v4, .int v5, .ref 65, .ref 69]) (S' := [.ref 69]) (σ' := (97, I, J, R)) rfl ?_
      refine az_E.call (d := 1) (k' := 54) (vs := [.ref 69]) (pc' := 45) (S' := []) rfl ?_ (fun _ _ hq => hq)
      show az_E az_F ex 1 54 0 [.ref 69] [] (97, I, J, R) _
      refine az_E.sn 3 (pc' := 5) (L' := [.ref 69]) (S' := [.int (-1 : Int32), .int (I 69 0)]) (σ' := (97, I, J, R)) rfl ?_
      refine az_E.br (c := (I 69 0) = (-1 : Int32)) (tt := 8) (ff := 20) (L' := [.ref 69]) (S' := []) (σ' := (97, I, J, R)) rfl (fun hc_875 => ?_) (fun hc_875 => ?_)
      · rw [if_pos hc_875] at h
        refine az_E.sn 3 (pc' := 13) (L' := [.ref 69]) (S' := [.int (-1 : Int32), .int (I 69 1)]) (σ' := (97, I, J, R)) rfl ?_
        refine az_E.br (c := (I 69 1) = (-1 : Int32)) (tt := 16) (ff := 20) (L' := [.ref 69]) (S' := []) (σ' := (97, I, J, R)) rfl (fun hc_876 => ?_) (fun hc_876 => ?_)
        · rw [if_pos hc_876] at h
          refine az_E.sn 2 (pc' := 21) (L' := [.ref 69]) (S' := [.int (1 : Int32)]) (σ' := (97, I, J, R)) rfl ?_
          refine az_E.ret (v := some (.int (1 : Int32))) (σ' := (97, I, J, R)) rfl ?_
          show az_E az_F ex 2 128 45 [.retAddr 0, .retAddr 0, .int v2, .retAddr 0, .int v4, .int v5, .ref 65, .ref 69] [.int (1 : Int32)] (97, I, J, R) _
          refine az_E.br (c := (1 : Int32) = 0) (tt := 51) (ff := 48) (L' := [.retAddr 0, .retAddr 0, .int v2, .retAddr 0, .int v4, .int v5, .ref 65, .ref 69]) (S' := []) (σ' := (97, I, J, R)) rfl (fun hn => absurd hn (by decide)) (fun _ => ?_)
          refine az_E.sn 1 (pc' := 50) (L' := [.retAddr 0, .retAddr 0, .int v2, .retAddr 0, .int v4, .int v5, .ref 65, .ref 69]) (S' := [.int (-11 : Int32)]) (σ' := (97, I, J, R)) rfl ?_
          have h := Option.some.inj h
          subst h
          exact az_E.ret (v := some (.int (-11 : Int32))) (σ' := (97, I, J, R)) rfl hQ
        · rw [if_neg hc_876] at h
          refine az_E.sn 1 (pc' := 21) (L' := [.ref 69]) (S' := [.int (0 : Int32)]) (σ' := (97, I, J, R)) rfl ?_
          refine az_E.ret (v := some (.int (0 : Int32))) (σ' := (97, I, J, R)) rfl ?_
          show az_E az_F ex 2 128 45 [.retAddr 0, .retAddr 0, .int v2, .retAddr 0, .int v4, .int v5, .ref 65, .ref 69] [.int (0 : Int32)] (97, I, J, R) _
          refine az_E.br (c := (0 : Int32) = 0) (tt := 51) (ff := 48) (L' := [.retAddr 0, .retAddr 0, .int v2, .retAddr 0, .int v4, .int v5, .ref 65, .ref 69]) (S' := []) (σ' := (97, I, J, R)) rfl (fun _ => ?_) (fun hn => absurd (by decide) hn)
          refine az_E.sn 1 (pc' := 53) (L' := [.retAddr 0, .retAddr 0, .int v2, .retAddr 0, .int v4, .int v5, .ref 65, .ref 69]) (S' := [.ref 65]) (σ' := (97, I, J, R)) rfl ?_
          refine az_E.call (d := 1) (k' := 55) (vs := [.ref 65]) (pc' := 56) (S' := []) rfl ?_ (fun _ _ hq => hq)
          show az_E az_F ex 1 55 0 [.ref 65] [] (97, I, J, R) _
          refine az_E.sn 3 (pc' := 5) (L' := [.ref 65]) (S' := [.int (-1 : Int32), .int (I 65 1)]) (σ' := (97, I, J, R)) rfl ?_
          refine az_E.br (c := (I 65 1) = (-1 : Int32)) (tt := 12) (ff := 8) (L' := [.ref 65]) (S' := []) (σ' := (97, I, J, R)) rfl (fun hc_877 => ?_) (fun hc_877 => ?_)
          · rw [if_pos hc_877] at h
            refine az_E.sn 1 (pc' := 13) (L' := [.ref 65]) (S' := [.int (0 : Int32)]) (σ' := (97, I, J, R)) rfl ?_
            refine az_E.ret (v := some (.int (0 : Int32))) (σ' := (97, I, J, R)) rfl ?_
            show az_E az_F ex 2 128 56 [.retAddr 0, .retAddr 0, .int v2, .retAddr 0, .int v4, .int v5, .ref 65, .ref 69] [.int (0 : Int32)] (97, I, J, R) _
            refine az_E.br (c := (0 : Int32) = 0) (tt := 72) (ff := 59) (L' := [.retAddr 0, .retAddr 0, .int v2, .retAddr 0, .int v4, .int v5, .ref 65, .ref 69]) (S' := []) (σ' := (97, I, J, R)) rfl (fun _ => ?_) (fun hn => absurd (by decide) hn)
            refine az_E.sn 1 (pc' := 74) (L' := [.retAddr 0, .retAddr 0, .int v2, .retAddr 0, .int v4, .int v5, .ref 65, .ref 69]) (S' := [.int (-12 : Int32)]) (σ' := (97, I, J, R)) rfl ?_
            have h := Option.some.inj h
            subst h
            exact az_E.ret (v := some (.int (-12 : Int32))) (σ' := (97, I, J, R)) rfl hQ
          · rw [if_neg hc_877] at h
            refine az_E.sn 2 (pc' := 13) (L' := [.ref 65]) (S' := [.int (1 : Int32)]) (σ' := (97, I, J, R)) rfl ?_
            refine az_E.ret (v := some (.int (1 : Int32))) (σ' := (97, I, J, R)) rfl ?_
            show az_E az_F ex 2 128 56 [.retAddr 0, .retAddr 0, .int v2, .retAddr 0, .int v4, .int v5, .ref 65, .ref 69] [.int (1 : Int32)] (97, I, J, R) _
            refine az_E.br (c := (1 : Int32) = 0) (tt := 72) (ff := 59) (L' := [.retAddr 0, .retAddr 0, .int v2, .retAddr 0, .int v4, .int v5, .ref 65, .ref 69]) (S' := []) (σ' := (97, I, J, R)) rfl (fun hn => absurd hn (by decide)) (fun _ => ?_)
            refine az_E.sn 3 (pc' := 66) (L' := [.retAddr 0, .retAddr 0, .int v2, .retAddr 0, .int v4, .int v5, .ref 65, .ref 69]) (S' := [.int (I 65 1), .ref 69]) (σ' := (97, I, J, R)) rfl ?_
            refine az_E.call (d := 1) (k' := 56) (vs := [.ref 69, .int (I 65 1)]) (pc' := 69) (S' := []) rfl ?_ (fun _ _ hq => hq)
            show az_E az_F ex 1 56 0 [.ref 69, .int (I 65 1)] [] (97, I, J, R) _
            refine az_E.sn 1 (pc' := 1) (L' := [.ref 69, .int (I 65 1)]) (S' := [.ref 69]) (σ' := (97, I, J, R)) rfl ?_
            refine az_E.call (d := 0) (k' := 55) (vs := [.ref 69]) (pc' := 4) (S' := []) rfl ?_ (fun _ _ hq => hq)
            show az_E az_F ex 0 55 0 [.ref 69] [] (97, I, J, R) _
            refine az_E.sn 3 (pc' := 5) (L' := [.ref 69]) (S' := [.int (-1 : Int32), .int (I 69 1)]) (σ' := (97, I, J, R)) rfl ?_
            refine az_E.br (c := (I 69 1) = (-1 : Int32)) (tt := 12) (ff := 8) (L' := [.ref 69]) (S' := []) (σ' := (97, I, J, R)) rfl (fun hc_878 => ?_) (fun hc_878 => ?_)
            · rw [if_pos hc_878] at h
              refine az_E.sn 1 (pc' := 13) (L' := [.ref 69]) (S' := [.int (0 : Int32)]) (σ' := (97, I, J, R)) rfl ?_
              refine az_E.ret (v := some (.int (0 : Int32))) (σ' := (97, I, J, R)) rfl ?_
              show az_E az_F ex 1 56 4 [.ref 69, .int (I 65 1)] [.int (0 : Int32)] (97, I, J, R) _
              refine az_E.br (c := (0 : Int32) = 0) (tt := 19) (ff := 7) (L' := [.ref 69, .int (I 65 1)]) (S' := []) (σ' := (97, I, J, R)) rfl (fun _ => ?_) (fun hn => absurd (by decide) hn)
              refine az_E.sn 1 (pc' := 20) (L' := [.ref 69, .int (I 65 1)]) (S' := [.int (0 : Int32)]) (σ' := (97, I, J, R)) rfl ?_
              refine az_E.ret (v := some (.int (0 : Int32))) (σ' := (97, I, J, R)) rfl ?_
              show az_E az_F ex 2 128 69 [.retAddr 0, .retAddr 0, .int v2, .retAddr 0, .int v4, .int v5, .ref 65, .ref 69] [.int (0 : Int32)] (97, I, J, R) _
              refine az_E.br (c := (0 : Int32) = 0) (tt := 72) (ff := 75) (L' := [.retAddr 0, .retAddr 0, .int v2, .retAddr 0, .int v4, .int v5, .ref 65, .ref 69]) (S' := []) (σ' := (97, I, J, R)) rfl (fun _ => ?_) (fun hn => absurd (by decide) hn)
              refine az_E.sn 1 (pc' := 74) (L' := [.retAddr 0, .retAddr 0, .int v2, .retAddr 0, .int v4, .int v5, .ref 65, .ref 69]) (S' := [.int (-12 : Int32)]) (σ' := (97, I, J, R)) rfl ?_
              have h := Option.some.inj h
              subst h
              exact az_E.ret (v := some (.int (-12 : Int32))) (σ' := (97, I, J, R)) rfl hQ
            · rw [if_neg hc_878] at h
              refine az_E.sn 2 (pc' := 13) (L' := [.ref 69]) (S' := [.int (1 : Int32)]) (σ' := (97, I, J, R)) rfl ?_
              refine az_E.ret (v := some (.int (1 : Int32))) (σ' := (97, I, J, R)) rfl ?_
              show az_E az_F ex 1 56 4 [.ref 69, .int (I 65 1)] [.int (1 : Int32)] (97, I, J, R) _
              refine az_E.br (c := (1 : Int32) = 0) (tt := 19) (ff := 7) (L' := [.ref 69, .int (I 65 1)]) (S' := []) (σ' := (97, I, J, R)) rfl (fun hn => absurd hn (by decide)) (fun _ => ?_)
              refine az_E.sn 3 (pc' := 12) (L' := [.ref 69, .int (I 65 1)]) (S' := [.int (I 65 1), .int (I 69 1)]) (σ' := (97, I, J, R)) rfl ?_
              refine az_E.br (c := (I 69 1) = (I 65 1)) (tt := 15) (ff := 19) (L' := [.ref 69, .int (I 65 1)]) (S' := []) (σ' := (97, I, J, R)) rfl (fun hc_879 => ?_) (fun hc_879 => ?_)
              · rw [if_pos hc_879] at h
                refine az_E.sn 2 (pc' := 20) (L' := [.ref 69, .int (I 65 1)]) (S' := [.int (1 : Int32)]) (σ' := (97, I, J, R)) rfl ?_
                refine az_E.ret (v := some (.int (1 : Int32))) (σ' := (97, I, J, R)) rfl ?_
                show az_E az_F ex 2 128 69 [.retAddr 0, .retAddr 0, .int v2, .retAddr 0, .int v4, .int v5, .ref 65, .ref 69] [.int (1 : Int32)] (97, I, J, R) _
                refine az_E.br (c := (1 : Int32) = 0) (tt := 72) (ff := 75) (L' := [.retAddr 0, .retAddr 0, .int v2, .retAddr 0, .int v4, .int v5, .ref 65, .ref 69]) (S' := []) (σ' := (97, I, J, R)) rfl (fun hn => absurd hn (by decide)) (fun _ => ?_)
                refine az_E.sn 3 (pc' := 80) (L' := [.retAddr 0, .retAddr 0, .int v2, .retAddr 0, .int v4, .int v5, .ref 65, .ref 69]) (S' := [.int v5, .int v2, .ref 65]) (σ' := (97, I, J, R)) rfl ?_
                refine az_E.call (d := 1) (k' := 60) (vs := [.ref 65, .int v2, .int v5]) (pc' := 83) (S' := []) rfl ?_ (fun _ _ hq => hq)
                show az_E az_F ex 1 60 0 [.ref 65, .int v2, .int v5] [] (97, I, J, R) _
                refine az_E.sn 1 (pc' := 1) (L' := [.ref 65, .int v2, .int v5]) (S' := [.int v2]) (σ' := (97, I, J, R)) rfl ?_
                refine az_E.br (c := v2 < 0) (tt := 30) (ff := 4) (L' := [.ref 65, .int v2, .int v5]) (S' := []) (σ' := (97, I, J, R)) rfl (fun hc_880 => ?_) (fun hc_880 => ?_)
                · rw [if_pos hc_880] at h
                  refine az_E.sn 1 (pc' := 31) (L' := [.ref 65, .int v2, .int v5]) (S' := [.int (0 : Int32)]) (σ' := (97, I, J, R)) rfl ?_
                  refine az_E.ret (v := some (.int (0 : Int32))) (σ' := (97, I, J, R)) rfl ?_
                  show az_E az_F ex 2 128 83 [.retAddr 0, .retAddr 0, .int v2, .retAddr 0, .int v4, .int v5, .ref 65, .ref 69] [.int (0 : Int32)] (97, I, J, R) _
                  refine az_E.br (c := (0 : Int32) = 0) (tt := 98) (ff := 86) (L' := [.retAddr 0, .retAddr 0, .int v2, .retAddr 0, .int v4, .int v5, .ref 65, .ref 69]) (S' := []) (σ' := (97, I, J, R)) rfl (fun _ => ?_) (fun hn => absurd (by decide) hn)
                  refine az_E.sn 1 (pc' := 100) (L' := [.retAddr 0, .retAddr 0, .int v2, .retAddr 0, .int v4, .int v5, .ref 65, .ref 69]) (S' := [.int (-13 : Int32)]) (σ' := (97, I, J, R)) rfl ?_
                  have h := Option.some.inj h
                  subst h
                  exact az_E.ret (v := some (.int (-13 : Int32))) (σ' := (97, I, J, R)) rfl hQ
                · rw [if_neg hc_880] at h
                  refine az_E.sn 1 (pc' := 5) (L' := [.ref 65, .int v2, .int v5]) (S' := [.int v5]) (σ' := (97, I, J, R)) rfl ?_
                  refine az_E.br (c := v5 < 0) (tt := 30) (ff := 8) (L' := [.ref 65, .int v2, .int v5]) (S' := []) (σ' := (97, I, J, R)) rfl (fun hc_881 => ?_) (fun hc_881 => ?_)
                  · rw [if_pos hc_881] at h
                    refine az_E.sn 1 (pc' := 31) (L' := [.ref 65, .int v2, .int v5]) (S' := [.int (0 : Int32)]) (σ' := (97, I, J, R)) rfl ?_
                    refine az_E.ret (v := some (.int (0 : Int32))) (σ' := (97, I, J, R)) rfl ?_
                    show az_E az_F ex 2 128 83 [.retAddr 0, .retAddr 0, .int v2, .retAddr 0, .int v4, .int v5, .ref 65, .ref 69] [.int (0 : Int32)] (97, I, J, R) _
                    refine az_E.br (c := (0 : Int32) = 0) (tt := 98) (ff := 86) (L' := [.retAddr 0, .retAddr 0, .int v2, .retAddr 0, .int v4, .int v5, .ref 65, .ref 69]) (S' := []) (σ' := (97, I, J, R)) rfl (fun _ => ?_) (fun hn => absurd (by decide) hn)
                    refine az_E.sn 1 (pc' := 100) (L' := [.retAddr 0, .retAddr 0, .int v2, .retAddr 0, .int v4, .int v5, .ref 65, .ref 69]) (S' := [.int (-13 : Int32)]) (σ' := (97, I, J, R)) rfl ?_
                    have h := Option.some.inj h
                    subst h
                    exact az_E.ret (v := some (.int (-13 : Int32))) (σ' := (97, I, J, R)) rfl hQ
                  · rw [if_neg hc_881] at h
                    refine az_E.sn 3 (pc' := 13) (L' := [.ref 65, .int v2, .int v5]) (S' := [.int (I 65 2), .int v2]) (σ' := (97, I, J, R)) rfl ?_
                    refine az_E.br (c := (I 65 2) < v2) (tt := 30) (ff := 16) (L' := [.ref 65, .int v2, .int v5]) (S' := []) (σ' := (97, I, J, R)) rfl (fun hc_882 => ?_) (fun hc_882 => ?_)
                    · rw [if_pos hc_882] at h
                      refine az_E.sn 1 (pc' := 31) (L' := [.ref 65, .int v2, .int v5]) (S' := [.int (0 : Int32)]) (σ' := (97, I, J, R)) rfl ?_
                      refine az_E.ret (v := some (.int (0 : Int32))) (σ' := (97, I, J, R)) rfl ?_
                      show az_E az_F ex 2 128 83 [.retAddr 0, .retAddr 0, .int v2, .retAddr 0, .int v4, .int v5, .ref 65, .ref 69] [.int (0 : Int32)] (97, I, J, R) _
                      refine az_E.br (c := (0 : Int32) = 0) (tt := 98) (ff := 86) (L' := [.retAddr 0, .retAddr 0, .int v2, .retAddr 0, .int v4, .int v5, .ref 65, .ref 69]) (S' := []) (σ' := (97, I, J, R)) rfl (fun _ => ?_) (fun hn => absurd (by decide) hn)
                      refine az_E.sn 1 (pc' := 100) (L' := [.retAddr 0, .retAddr 0, .int v2, .retAddr 0, .int v4, .int v5, .ref 65, .ref 69]) (S' := [.int (-13 : Int32)]) (σ' := (97, I, J, R)) rfl ?_
                      have h := Option.some.inj h
                      subst h
                      exact az_E.ret (v := some (.int (-13 : Int32))) (σ' := (97, I, J, R)) rfl hQ
                    · rw [if_neg hc_882] at h
                      refine az_E.sn 5 (pc' := 23) (L' := [.ref 65, .int v2, .int v5]) (S' := [.int ((I 65 2) - v2), .int v5]) (σ' := (97, I, J, R)) rfl ?_
                      refine az_E.br (c := ((I 65 2) - v2) < v5) (tt := 30) (ff := 26) (L' := [.ref 65, .int v2, .int v5]) (S' := []) (σ' := (97, I, J, R)) rfl (fun hc_883 => ?_) (fun hc_883 => ?_)
                      · rw [if_pos hc_883] at h
                        refine az_E.sn 1 (pc' := 31) (L' := [.ref 65, .int v2, .int v5]) (S' := [.int (0 : Int32)]) (σ' := (97, I, J, R)) rfl ?_
                        refine az_E.ret (v := some (.int (0 : Int32))) (σ' := (97, I, J, R)) rfl ?_
                        show az_E az_F ex 2 128 83 [.retAddr 0, .retAddr 0, .int v2, .retAddr 0, .int v4, .int v5, .ref 65, .ref 69] [.int (0 : Int32)] (97, I, J, R) _
                        refine az_E.br (c := (0 : Int32) = 0) (tt := 98) (ff := 86) (L' := [.retAddr 0, .retAddr 0, .int v2, .retAddr 0, .int v4, .int v5, .ref 65, .ref 69]) (S' := []) (σ' := (97, I, J, R)) rfl (fun _ => ?_) (fun hn => absurd (by decide) hn)
                        refine az_E.sn 1 (pc' := 100) (L' := [.retAddr 0, .retAddr 0, .int v2, .retAddr 0, .int v4, .int v5, .ref 65, .ref 69]) (S' := [.int (-13 : Int32)]) (σ' := (97, I, J, R)) rfl ?_
                        have h := Option.some.inj h
                        subst h
                        exact az_E.ret (v := some (.int (-13 : Int32))) (σ' := (97, I, J, R)) rfl hQ
                      · rw [if_neg hc_883] at h
                        refine az_E.sn 2 (pc' := 31) (L' := [.ref 65, .int v2, .int v5]) (S' := [.int (1 : Int32)]) (σ' := (97, I, J, R)) rfl ?_
                        refine az_E.ret (v := some (.int (1 : Int32))) (σ' := (97, I, J, R)) rfl ?_
                        show az_E az_F ex 2 128 83 [.retAddr 0, .retAddr 0, .int v2, .retAddr 0, .int v4, .int v5, .ref 65, .ref 69] [.int (1 : Int32)] (97, I, J, R) _
                        refine az_E.br (c := (1 : Int32) = 0) (tt := 98) (ff := 86) (L' := [.retAddr 0, .retAddr 0, .int v2, .retAddr 0, .int v4, .int v5, .ref 65, .ref 69]) (S' := []) (σ' := (97, I, J, R)) rfl (fun hn => absurd hn (by decide)) (fun _ => ?_)
                        refine az_E.sn 3 (pc' := 92) (L' := [.retAddr 0, .retAddr 0, .int v2, .retAddr 0, .int v4, .int v5, .ref 65, .ref 69]) (S' := [.int v5, .int v4, .ref 69]) (σ' := (97, I, J, R)) rfl ?_
                        refine az_E.call (d := 1) (k' := 60) (vs := [.ref 69, .int v4, .int v5]) (pc' := 95) (S' := []) rfl ?_ (fun _ _ hq => hq)
                        show az_E az_F ex 1 60 0 [.ref 69, .int v4, .int v5] [] (97, I, J, R) _
                        refine az_E.sn 1 (pc' := 1) (L' := [.ref 69, .int v4, .int v5]) (S' := [.int v4]) (σ' := (97, I, J, R)) rfl ?_
                        refine az_E.br (c := v4 < 0) (tt := 30) (ff := 4) (L' := [.ref 69, .int v4, .int v5]) (S' := []) (σ' := (97, I, J, R)) rfl (fun hc_884 => ?_) (fun hc_884 => ?_)
                        · rw [if_pos hc_884] at h
                          refine az_E.sn 1 (pc' := 31) (L' := [.ref 69, .int v4, .int v5]) (S' := [.int (0 : Int32)]) (σ' := (97, I, J, R)) rfl ?_
                          refine az_E.ret (v := some (.int (0 : Int32))) (σ' := (97, I, J, R)) rfl ?_
                          show az_E az_F ex 2 128 95 [.retAddr 0, .retAddr 0, .int v2, .retAddr 0, .int v4, .int v5, .ref 65, .ref 69] [.int (0 : Int32)] (97, I, J, R) _
                          refine az_E.br (c := (0 : Int32) = 0) (tt := 98) (ff := 101) (L' := [.retAddr 0, .retAddr 0, .int v2, .retAddr 0, .int v4, .int v5, .ref 65, .ref 69]) (S' := []) (σ' := (97, I, J, R)) rfl (fun _ => ?_) (fun hn => absurd (by decide) hn)
                          refine az_E.sn 1 (pc' := 100) (L' := [.retAddr 0, .retAddr 0, .int v2, .retAddr 0, .int v4, .int v5, .ref 65, .ref 69]) (S' := [.int (-13 : Int32)]) (σ' := (97, I, J, R)) rfl ?_
                          have h := Option.some.inj h
                          subst h
                          exact az_E.ret (v := some (.int (-13 : Int32))) (σ' := (97, I, J, R)) rfl hQ
                        · rw [if_neg hc_884] at h
                          refine az_E.sn 1 (pc' := 5) (L' := [.ref 69, .int v4, .int v5]) (S' := [.int v5]) (σ' := (97, I, J, R)) rfl ?_
                          refine az_E.br (c := v5 < 0) (tt := 30) (ff := 8) (L' := [.ref 69, .int v4, .int v5]) (S' := []) (σ' := (97, I, J, R)) rfl (fun hc_885 => ?_) (fun hc_885 => ?_)
                          · rw [if_pos hc_885] at h
                            refine az_E.sn 1 (pc' := 31) (L' := [.ref 69, .int v4, .int v5]) (S' := [.int (0 : Int32)]) (σ' := (97, I, J, R)) rfl ?_
                            refine az_E.ret (v := some (.int (0 : Int32))) (σ' := (97, I, J, R)) rfl ?_
                            show az_E az_F ex 2 128 95 [.retAddr 0, .retAddr 0, .int v2, .retAddr 0, .int v4, .int v5, .ref 65, .ref 69] [.int (0 : Int32)] (97, I, J, R) _
                            refine az_E.br (c := (0 : Int32) = 0) (tt := 98) (ff := 101) (L' := [.retAddr 0, .retAddr 0, .int v2, .retAddr 0, .int v4, .int v5, .ref 65, .ref 69]) (S' := []) (σ' := (97, I, J, R)) rfl (fun _ => ?_) (fun hn => absurd (by decide) hn)
                            refine az_E.sn 1 (pc' := 100) (L' := [.retAddr 0, .retAddr 0, .int v2, .retAddr 0, .int v4, .int v5, .ref 65, .ref 69]) (S' := [.int (-13 : Int32)]) (σ' := (97, I, J, R)) rfl ?_
                            have h := Option.some.inj h
                            subst h
                            exact az_E.ret (v := some (.int (-13 : Int32))) (σ' := (97, I, J, R)) rfl hQ
                          · rw [if_neg hc_885] at h
                            refine az_E.sn 3 (pc' := 13) (L' := [.ref 69, .int v4, .int v5]) (S' := [.int (I 69 2), .int v4]) (σ' := (97, I, J, R)) rfl ?_
                            refine az_E.br (c := (I 69 2) < v4) (tt := 30) (ff := 16) (L' := [.ref 69, .int v4, .int v5]) (S' := []) (σ' := (97, I, J, R)) rfl (fun hc_886 => ?_) (fun hc_886 => ?_)
                            · rw [if_pos hc_886] at h
                              refine az_E.sn 1 (pc' := 31) (L' := [.ref 69, .int v4, .int v5]) (S' := [.int (0 : Int32)]) (σ' := (97, I, J, R)) rfl ?_
                              refine az_E.ret (v := some (.int (0 : Int32))) (σ' := (97, I, J, R)) rfl ?_
                              show az_E az_F ex 2 128 95 [.retAddr 0, .retAddr 0, .int v2, .retAddr 0, .int v4, .int v5, .ref 65, .ref 69] [.int (0 : Int32)] (97, I, J, R) _
                              refine az_E.br (c := (0 : Int32) = 0) (tt := 98) (ff := 101) (L' := [.retAddr 0, .retAddr 0, .int v2, .retAddr 0, .int v4, .int v5, .ref 65, .ref 69]) (S' := []) (σ' := (97, I, J, R)) rfl (fun _ => ?_) (fun hn => absurd (by decide) hn)
                              refine az_E.sn 1 (pc' := 100) (L' := [.retAddr 0, .retAddr 0, .int v2, .retAddr 0, .int v4, .int v5, .ref 65, .ref 69]) (S' := [.int (-13 : Int32)]) (σ' := (97, I, J, R)) rfl ?_
                              have h := Option.some.inj h
                              subst h
                              exact az_E.ret (v := some (.int (-13 : Int32))) (σ' := (97, I, J, R)) rfl hQ
                            · rw [if_neg hc_886] at h
                              refine az_E.sn 5 (pc' := 23) (L' := [.ref 69, .int v4, .int v5]) (S' := [.int ((I 69 2) - v4), .int v5]) (σ' := (97, I, J, R)) rfl ?_
                              refine az_E.br (c := ((I 69 2) - v4) < v5) (tt := 30) (ff := 26) (L' := [.ref 69, .int v4, .int v5]) (S' := []) (σ' := (97, I, J, R)) rfl (fun hc_887 => ?_) (fun hc_887 => ?_)
                              · rw [if_pos hc_887] at h
                                refine az_E.sn 1 (pc' := 31) (L' := [.ref 69, .int v4, .int v5]) (S' := [.int (0 : Int32)]) (σ' := (97, I, J, R)) rfl ?_
                                refine az_E.ret (v := some (.int (0 : Int32))) (σ' := (97, I, J, R)) rfl ?_
                                show az_E az_F ex 2 128 95 [.retAddr 0, .retAddr 0, .int v2, .retAddr 0, .int v4, .int v5, .ref 65, .ref 69] [.int (0 : Int32)] (97, I, J, R) _
                                refine az_E.br (c := (0 : Int32) = 0) (tt := 98) (ff := 101) (L' := [.retAddr 0, .retAddr 0, .int v2, .retAddr 0, .int v4, .int v5, .ref 65, .ref 69]) (S' := []) (σ' := (97, I, J, R)) rfl (fun _ => ?_) (fun hn => absurd (by decide) hn)
                                refine az_E.sn 1 (pc' := 100) (L' := [.retAddr 0, .retAddr 0, .int v2, .retAddr 0, .int v4, .int v5, .ref 65, .ref 69]) (S' := [.int (-13 : Int32)]) (σ' := (97, I, J, R)) rfl ?_
                                have h := Option.some.inj h
                                subst h
                                exact az_E.ret (v := some (.int (-13 : Int32))) (σ' := (97, I, J, R)) rfl hQ
                              · rw [if_neg hc_887] at h
                                refine az_E.sn 2 (pc' := 31) (L' := [.ref 69, .int v4, .int v5]) (S' := [.int (1 : Int32)]) (σ' := (97, I, J, R)) rfl ?_
                                refine az_E.ret (v := some (.int (1 : Int32))) (σ' := (97, I, J, R)) rfl ?_
                                show az_E az_F ex 2 128 95 [.retAddr 0, .retAddr 0, .int v2, .retAddr 0, .int v4, .int v5, .ref 65, .ref 69] [.int (1 : Int32)] (97, I, J, R) _
                                refine az_E.br (c := (1 : Int32) = 0) (tt := 98) (ff := 101) (L' := [.retAddr 0, .retAddr 0, .int v2, .retAddr 0, .int v4, .int v5, .ref 65, .ref 69]) (S' := []) (σ' := (97, I, J, R)) rfl (fun hn => absurd hn (by decide)) (fun _ => ?_)
                                refine az_E.sn 7 (pc' := 116) (L' := [.retAddr 0, .retAddr 0, .int v2, .retAddr 0, .int v4, .int v5, .ref 65, .ref 69]) (S' := [.int v5, .int v4, .ref (69 + 1), .int v2, .ref (65 + 1)]) (σ' := (97, I, J, R)) rfl ?_
                                by_cases hc_888 : v2 < 0 ∨ v4 < 0 ∨ v5 < 0 ∨ 60 < v2.toNatClampNeg + v5.toNatClampNeg ∨ 60 < v4.toNatClampNeg + v5.toNatClampNeg
                                · rw [if_pos hc_888] at h; cases h
                                · rw [if_neg hc_888] at h
                                  refine az_E.o (o := az_cp az_F (97, I, J, R) (65 + 1) v2 (69 + 1) v4 v5) (pc' := 119) (L' := [.retAddr 0, .retAddr 0, .int v2, .retAddr 0, .int v4, .int v5, .ref 65, .ref 69]) (S' := []) (x := (97, I, (az_ur J (69 + 1) (va_cpy (J (65 + 1)) (J (69 + 1)) v2.toNatClampNeg v4.toNatClampNeg v5.toNatClampNeg)), R)) rfl (if_neg hc_888) ?_
                                  refine az_E.sn 1 (pc' := 121) (L' := [.retAddr 0, .retAddr 0, .int v2, .retAddr 0, .int v4, .int v5, .ref 65, .ref 69]) (S' := [.int v5]) (σ' := (97, I, (az_ur J (69 + 1) (va_cpy (J (65 + 1)) (J (69 + 1)) v2.toNatClampNeg v4.toNatClampNeg v5.toNatClampNeg)), R)) rfl ?_
                                  have h := Option.some.inj h
                                  subst h
                                  exact az_E.ret (v := some (.int v5)) (σ' := (97, I, (az_ur J (69 + 1) (va_cpy (J (65 + 1)) (J (69 + 1)) v2.toNatClampNeg v4.toNatClampNeg v5.toNatClampNeg)), R)) rfl hQ
              · rw [if_neg hc_879] at h
                refine az_E.sn 1 (pc' := 20) (L' := [.ref 69, .int (I 65 1)]) (S' := [.int (0 : Int32)]) (σ' := (97, I, J, R)) rfl ?_
                refine az_E.ret (v := some (.int (0 : Int32))) (σ' := (97, I, J, R)) rfl ?_
                show az_E az_F ex 2 128 69 [.retAddr 0, .retAddr 0, .int v2, .retAddr 0, .int v4, .int v5, .ref 65, .ref 69] [.int (0 : Int32)] (97, I, J, R) _
                refine az_E.br (c := (0 : Int32) = 0) (tt := 72) (ff := 75) (L' := [.retAddr 0, .retAddr 0, .int v2, .retAddr 0, .int v4, .int v5, .ref 65, .ref 69]) (S' := []) (σ' := (97, I, J, R)) rfl (fun _ => ?_) (fun hn => absurd (by decide) hn)
                refine az_E.sn 1 (pc' := 74) (L' := [.retAddr 0, .retAddr 0, .int v2, .retAddr 0, .int v4, .int v5, .ref 65, .ref 69]) (S' := [.int (-12 : Int32)]) (σ' := (97, I, J, R)) rfl ?_
                have h := Option.some.inj h
                subst h
                exact az_E.ret (v := some (.int (-12 : Int32))) (σ' := (97, I, J, R)) rfl hQ
      · rw [if_neg hc_875] at h
        refine az_E.sn 1 (pc' := 21) (L' := [.ref 69]) (S' := [.int (0 : Int32)]) (σ' := (97, I, J, R)) rfl ?_
        refine az_E.ret (v := some (.int (0 : Int32))) (σ' := (97, I, J, R)) rfl ?_
        show az_E az_F ex 2 128 45 [.retAddr 0, .retAddr 0, .int v2, .retAddr 0, .int v4, .int v5, .ref 65, .ref 69] [.int (0 : Int32)] (97, I, J, R) _
        refine az_E.br (c := (0 : Int32) = 0) (tt := 51) (ff := 48) (L' := [.retAddr 0, .retAddr 0, .int v2, .retAddr 0, .int v4, .int v5, .ref 65, .ref 69]) (S' := []) (σ' := (97, I, J, R)) rfl (fun _ => ?_) (fun hn => absurd (by decide) hn)
        refine az_E.sn 1 (pc' := 53) (L' := [.retAddr 0, .retAddr 0, .int v2, .retAddr 0, .int v4, .int v5, .ref 65, .ref 69]) (S' := [.ref 65]) (σ' := (97, I, J, R)) rfl ?_
        refine az_E.call (d := 1) (k' := 55) (vs := [.ref 65]) (pc' := 56) (S' := []) rfl ?_ (fun _ _ hq => hq)
        show az_E az_F ex 1 55 0 [.ref 65] [] (97, I, J, R) _
        refine az_E.sn 3 (pc' := 5) (L' := [.ref 65]) (S' := [.int (-1 : Int32), .int (I 65 1)]) (σ' := (97, I, J, R)) rfl ?_
        refine az_E.br (c := (I 65 1) = (-1 : Int32)) (tt := 12) (ff := 8) (L' := [.ref 65]) (S' := []) (σ' := (97, I, J, R)) rfl (fun hc_889 => ?_) (fun hc_889 => ?_)
        · rw [if_pos hc_889] at h
          refine az_E.sn 1 (pc' := 13) (L' := [.ref 65]) (S' := [.int (0 : Int32)]) (σ' := (97, I, J, R)) rfl ?_
          refine az_E.ret (v := some (.int (0 : Int32))) (σ' := (97, I, J, R)) rfl ?_
          show az_E az_F ex 2 128 56 [.retAddr 0, .retAddr 0, .int v2, .retAddr 0, .int v4, .int v5, .ref 65, .ref 69] [.int (0 : Int32)] (97, I, J, R) _
          refine az_E.br (c := (0 : Int32) = 0) (tt := 72) (ff := 59) (L' := [.retAddr 0, .retAddr 0, .int v2, .retAddr 0, .int v4, .int v5, .ref 65, .ref 69]) (S' := []) (σ' := (97, I, J, R)) rfl (fun _ => ?_) (fun hn => absurd (by decide) hn)
          refine az_E.sn 1 (pc' := 74) (L' := [.retAddr 0, .retAddr 0, .int v2, .retAddr 0, .int v4, .int v5, .ref 65, .ref 69]) (S' := [.int (-12 : Int32)]) (σ' := (97, I, J, R)) rfl ?_
          have h := Option.some.inj h
          subst h
          exact az_E.ret (v := some (.int (-12 : Int32))) (σ' := (97, I, J, R)) rfl hQ
        · rw [if_neg hc_889] at h
          refine az_E.sn 2 (pc' := 13) (L' := [.ref 65]) (S' := [.int (1 : Int32)]) (σ' := (97, I, J, R)) rfl ?_
          refine az_E.ret (v := some (.int (1 : Int32))) (σ' := (97, I, J, R)) rfl ?_
          show az_E az_F ex 2 128 56 [.retAddr 0, .retAddr 0, .int v2, .retAddr 0, .int v4, .int v5, .ref 65, .ref 69] [.int (1 : Int32)] (97, I, J, R) _
          refine az_E.br (c := (1 : Int32) = 0) (tt := 72) (ff := 59) (L' := [.retAddr 0, .retAddr 0, .int v2, .retAddr 0, .int v4, .int v5, .ref 65, .ref 69]) (S' := []) (σ' := (97, I, J, R)) rfl (fun hn => absurd hn (by decide)) (fun _ => ?_)
          refine az_E.sn 3 (pc' := 66) (L' := [.retAddr 0, .retAddr 0, .int v2, .retAddr 0, .int v4, .int v5, .ref 65, .ref 69]) (S' := [.int (I 65 1), .ref 69]) (σ' := (97, I, J, R)) rfl ?_
          refine az_E.call (d := 1) (k' := 56) (vs := [.ref 69, .int (I 65 1)]) (pc' := 69) (S' := []) rfl ?_ (fun _ _ hq => hq)
          show az_E az_F ex 1 56 0 [.ref 69, .int (I 65 1)] [] (97, I, J, R) _
          refine az_E.sn 1 (pc' := 1) (L' := [.ref 69, .int (I 65 1)]) (S' := [.ref 69]) (σ' := (97, I, J, R)) rfl ?_
          refine az_E.call (d := 0) (k' := 55) (vs := [.ref 69]) (pc' := 4) (S' := []) rfl ?_ (fun _ _ hq => hq)
          show az_E az_F ex 0 55 0 [.ref 69] [] (97, I, J, R) _
          refine az_E.sn 3 (pc' := 5) (L' := [.ref 69]) (S' := [.int (-1 : Int32), .int (I 69 1)]) (σ' := (97, I, J, R)) rfl ?_
          refine az_E.br (c := (I 69 1) = (-1 : Int32)) (tt := 12) (ff := 8) (L' := [.ref 69]) (S' := []) (σ' := (97, I, J, R)) rfl (fun hc_890 => ?_) (fun hc_890 => ?_)
          · rw [if_pos hc_890] at h
            refine az_E.sn 1 (pc' := 13) (L' := [.ref 69]) (S' := [.int (0 : Int32)]) (σ' := (97, I, J, R)) rfl ?_
            refine az_E.ret (v := some (.int (0 : Int32))) (σ' := (97, I, J, R)) rfl ?_
            show az_E az_F ex 1 56 4 [.ref 69, .int (I 65 1)] [.int (0 : Int32)] (97, I, J, R) _
            refine az_E.br (c := (0 : Int32) = 0) (tt := 19) (ff := 7) (L' := [.ref 69, .int (I 65 1)]) (S' := []) (σ' := (97, I, J, R)) rfl (fun _ => ?_) (fun hn => absurd (by decide) hn)
            refine az_E.sn 1 (pc' := 20) (L' := [.ref 69, .int (I 65 1)]) (S' := [.int (0 : Int32)]) (σ' := (97, I, J, R)) rfl ?_
            refine az_E.ret (v := some (.int (0 : Int32))) (σ' := (97, I, J, R)) rfl ?_
            show az_E az_F ex 2 128 69 [.retAddr 0, .retAddr 0, .int v2, .retAddr 0, .int v4, .int v5, .ref 65, .ref 69] [.int (0 : Int32)] (97, I, J, R) _
            refine az_E.br (c := (0 : Int32) = 0) (tt := 72) (ff := 75) (L' := [.retAddr 0, .retAddr 0, .int v2, .retAddr 0, .int v4, .int v5, .ref 65, .ref 69]) (S' := []) (σ' := (97, I, J, R)) rfl (fun _ => ?_) (fun hn => absurd (by decide) hn)
            refine az_E.sn 1 (pc' := 74) (L' := [.retAddr 0, .retAddr 0, .int v2, .retAddr 0, .int v4, .int v5, .ref 65, .ref 69]) (S' := [.int (-12 : Int32)]) (σ' := (97, I, J, R)) rfl ?_
            have h := Option.some.inj h
            subst h
            exact az_E.ret (v := some (.int (-12 : Int32))) (σ' := (97, I, J, R)) rfl hQ
          · rw [if_neg hc_890] at h
            refine az_E.sn 2 (pc' := 13) (L' := [.ref 69]) (S' := [.int (1 : Int32)]) (σ' := (97, I, J, R)) rfl ?_
            refine az_E.ret (v := some (.int (1 : Int32))) (σ' := (97, I, J, R)) rfl ?_
            show az_E az_F ex 1 56 4 [.ref 69, .int (I 65 1)] [.int (1 : Int32)] (97, I, J, R) _
            refine az_E.br (c := (1 : Int32) = 0) (tt := 19) (ff := 7) (L' := [.ref 69, .int (I 65 1)]) (S' := []) (σ' := (97, I, J, R)) rfl (fun hn => absurd hn (by decide)) (fun _ => ?_)
            refine az_E.sn 3 (pc' := 12) (L' := [.ref 69, .int (I 65 1)]) (S' := [.int (I 65 1), .int (I 69 1)]) (σ' := (97, I, J, R)) rfl ?_
            refine az_E.br (c := (I 69 1) = (I 65 1)) (tt := 15) (ff := 19) (L' := [.ref 69, .int (I 65 1)]) (S' := []) (σ' := (97, I, J, R)) rfl (fun hc_891 => ?_) (fun hc_891 => ?_)
            · rw [if_pos hc_891] at h
              refine az_E.sn 2 (pc' := 20) (L' := [.ref 69, .int (I 65 1)]) (S' := [.int (1 : Int32)]) (σ' := (97, I, J, R)) rfl ?_
              refine az_E.ret (v := some (.int (1 : Int32))) (σ' := (97, I, J, R)) rfl ?_
              show az_E az_F ex 2 128 69 [.retAddr 0, .retAddr 0, .int v2, .retAddr 0, .int v4, .int v5, .ref 65, .ref 69] [.int (1 : Int32)] (97, I, J, R) _
              refine az_E.br (c := (1 : Int32) = 0) (tt := 72) (ff := 75) (L' := [.retAddr 0, .retAddr 0, .int v2, .retAddr 0, .int v4, .int v5, .ref 65, .ref 69]) (S' := []) (σ' := (97, I, J, R)) rfl (fun hn => absurd hn (by decide)) (fun _ => ?_)
              refine az_E.sn 3 (pc' := 80) (L' := [.retAddr 0, .retAddr 0, .int v2, .retAddr 0, .int v4, .int v5, .ref 65, .ref 69]) (S' := [.int v5, .int v2, .ref 65]) (σ' := (97, I, J, R)) rfl ?_
              refine az_E.call (d := 1) (k' := 60) (vs := [.ref 65, .int v2, .int v5]) (pc' := 83) (S' := []) rfl ?_ (fun _ _ hq => hq)
              show az_E az_F ex 1 60 0 [.ref 65, .int v2, .int v5] [] (97, I, J, R) _
              refine az_E.sn 1 (pc' := 1) (L' := [.ref 65, .int v2, .int v5]) (S' := [.int v2]) (σ' := (97, I, J, R)) rfl ?_
              refine az_E.br (c := v2 < 0) (tt := 30) (ff := 4) (L' := [.ref 65, .int v2, .int v5]) (S' := []) (σ' := (97, I, J, R)) rfl (fun hc_892 => ?_) (fun hc_892 => ?_)
              · rw [if_pos hc_892] at h
                refine az_E.sn 1 (pc' := 31) (L' := [.ref 65, .int v2, .int v5]) (S' := [.int (0 : Int32)]) (σ' := (97, I, J, R)) rfl ?_
                refine az_E.ret (v := some (.int (0 : Int32))) (σ' := (97, I, J, R)) rfl ?_
                show az_E az_F ex 2 128 83 [.retAddr 0, .retAddr 0, .int v2, .retAddr 0, .int v4, .int v5, .ref 65, .ref 69] [.int (0 : Int32)] (97, I, J, R) _
                refine az_E.br (c := (0 : Int32) = 0) (tt := 98) (ff := 86) (L' := [.retAddr 0, .retAddr 0, .int v2, .retAddr 0, .int v4, .int v5, .ref 65, .ref 69]) (S' := []) (σ' := (97, I, J, R)) rfl (fun _ => ?_) (fun hn => absurd (by decide) hn)
                refine az_E.sn 1 (pc' := 100) (L' := [.retAddr 0, .retAddr 0, .int v2, .retAddr 0, .int v4, .int v5, .ref 65, .ref 69]) (S' := [.int (-13 : Int32)]) (σ' := (97, I, J, R)) rfl ?_
                have h := Option.some.inj h
                subst h
                exact az_E.ret (v := some (.int (-13 : Int32))) (σ' := (97, I, J, R)) rfl hQ
              · rw [if_neg hc_892] at h
                refine az_E.sn 1 (pc' := 5) (L' := [.ref 65, .int v2, .int v5]) (S' := [.int v5]) (σ' := (97, I, J, R)) rfl ?_
                refine az_E.br (c := v5 < 0) (tt := 30) (ff := 8) (L' := [.ref 65, .int v2, .int v5]) (S' := []) (σ' := (97, I, J, R)) rfl (fun hc_893 => ?_) (fun hc_893 => ?_)
                · rw [if_pos hc_893] at h
                  refine az_E.sn 1 (pc' := 31) (L' := [.ref 65, .int v2, .int v5]) (S' := [.int (0 : Int32)]) (σ' := (97, I, J, R)) rfl ?_
                  refine az_E.ret (v := some (.int (0 : Int32))) (σ' := (97, I, J, R)) rfl ?_
                  show az_E az_F ex 2 128 83 [.retAddr 0, .retAddr 0, .int v2, .retAddr 0, .int v4, .int v5, .ref 65, .ref 69] [.int (0 : Int32)] (97, I, J, R) _
                  refine az_E.br (c := (0 : Int32) = 0) (tt := 98) (ff := 86) (L' := [.retAddr 0, .retAddr 0, .int v2, .retAddr 0, .int v4, .int v5, .ref 65, .ref 69]) (S' := []) (σ' := (97, I, J, R)) rfl (fun _ => ?_) (fun hn => absurd (by decide) hn)
                  refine az_E.sn 1 (pc' := 100) (L' := [.retAddr 0, .retAddr 0, .int v2, .retAddr 0, .int v4, .int v5, .ref 65, .ref 69]) (S' := [.int (-13 : Int32)]) (σ' := (97, I, J, R)) rfl ?_
                  have h := Option.some.inj h
                  subst h
                  exact az_E.ret (v := some (.int (-13 : Int32))) (σ' := (97, I, J, R)) rfl hQ
                · rw [if_neg hc_893] at h
                  refine az_E.sn 3 (pc' := 13) (L' := [.ref 65, .int v2, .int v5]) (S' := [.int (I 65 2), .int v2]) (σ' := (97, I, J, R)) rfl ?_
                  refine az_E.br (c := (I 65 2) < v2) (tt := 30) (ff := 16) (L' := [.ref 65, .int v2, .int v5]) (S' := []) (σ' := (97, I, J, R)) rfl (fun hc_894 => ?_) (fun hc_894 => ?_)
                  · rw [if_pos hc_894] at h
                    refine az_E.sn 1 (pc' := 31) (L' := [.ref 65, .int v2, .int v5]) (S' := [.int (0 : Int32)]) (σ' := (97, I, J, R)) rfl ?_
                    refine az_E.ret (v := some (.int (0 : Int32))) (σ' := (97, I, J, R)) rfl ?_
                    show az_E az_F ex 2 128 83 [.retAddr 0, .retAddr 0, .int v2, .retAddr 0, .int v4, .int v5, .ref 65, .ref 69] [.int (0 : Int32)] (97, I, J, R) _
                    refine az_E.br (c := (0 : Int32) = 0) (tt := 98) (ff := 86) (L' := [.retAddr 0, .retAddr 0, .int v2, .retAddr 0, .int v4, .int v5, .ref 65, .ref 69]) (S' := []) (σ' := (97, I, J, R)) rfl (fun _ => ?_) (fun hn => absurd (by decide) hn)
                    refine az_E.sn 1 (pc' := 100) (L' := [.retAddr 0, .retAddr 0, .int v2, .retAddr 0, .int v4, .int v5, .ref 65, .ref 69]) (S' := [.int (-13 : Int32)]) (σ' := (97, I, J, R)) rfl ?_
                    have h := Option.some.inj h
                    subst h
                    exact az_E.ret (v := some (.int (-13 : Int32))) (σ' := (97, I, J, R)) rfl hQ
                  · rw [if_neg hc_894] at h
                    refine az_E.sn 5 (pc' := 23) (L' := [.ref 65, .int v2, .int v5]) (S' := [.int ((I 65 2) - v2), .int v5]) (σ' := (97, I, J, R)) rfl ?_
                    refine az_E.br (c := ((I 65 2) - v2) < v5) (tt := 30) (ff := 26) (L' := [.ref 65, .int v2, .int v5]) (S' := []) (σ' := (97, I, J, R)) rfl (fun hc_895 => ?_) (fun hc_895 => ?_)
                    · rw [if_pos hc_895] at h
                      refine az_E.sn 1 (pc' := 31) (L' := [.ref 65, .int v2, .int v5]) (S' := [.int (0 : Int32)]) (σ' := (97, I, J, R)) rfl ?_
                      refine az_E.ret (v := some (.int (0 : Int32))) (σ' := (97, I, J, R)) rfl ?_
                      show az_E az_F ex 2 128 83 [.retAddr 0, .retAddr 0, .int v2, .retAddr 0, .int v4, .int v5, .ref 65, .ref 69] [.int (0 : Int32)] (97, I, J, R) _
                      refine az_E.br (c := (0 : Int32) = 0) (tt := 98) (ff := 86) (L' := [.retAddr 0, .retAddr 0, .int v2, .retAddr 0, .int v4, .int v5, .ref 65, .ref 69]) (S' := []) (σ' := (97, I, J, R)) rfl (fun _ => ?_) (fun hn => absurd (by decide) hn)
                      refine az_E.sn 1 (pc' := 100) (L' := [.retAddr 0, .retAddr 0, .int v2, .retAddr 0, .int v4, .int v5, .ref 65, .ref 69]) (S' := [.int (-13 : Int32)]) (σ' := (97, I, J, R)) rfl ?_
                      have h := Option.some.inj h
                      subst h
                      exact az_E.ret (v := some (.int (-13 : Int32))) (σ' := (97, I, J, R)) rfl hQ
                    · rw [if_neg hc_895] at h
                      refine az_E.sn 2 (pc' := 31) (L' := [.ref 65, .int v2, .int v5]) (S' := [.int (1 : Int32)]) (σ' := (97, I, J, R)) rfl ?_
                      refine az_E.ret (v := some (.int (1 : Int32))) (σ' := (97, I, J, R)) rfl ?_
                      show az_E az_F ex 2 128 83 [.retAddr 0, .retAddr 0, .int v2, .retAddr 0, .int v4, .int v5, .ref 65, .ref 69] [.int (1 : Int32)] (97, I, J, R) _
                      refine az_E.br (c := (1 : Int32) = 0) (tt := 98) (ff := 86) (L' := [.retAddr 0, .retAddr 0, .int v2, .retAddr 0, .int v4, .int v5, .ref 65, .ref 69]) (S' := []) (σ' := (97, I, J, R)) rfl (fun hn => absurd hn (by decide)) (fun _ => ?_)
                      refine az_E.sn 3 (pc' := 92) (L' := [.retAddr 0, .retAddr 0, .int v2, .retAddr 0, .int v4, .int v5, .ref 65, .ref 69]) (S' := [.int v5, .int v4, .ref 69]) (σ' := (97, I, J, R)) rfl ?_
                      refine az_E.call (d := 1) (k' := 60) (vs := [.ref 69, .int v4, .int v5]) (pc' := 95) (S' := []) rfl ?_ (fun _ _ hq => hq)
                      show az_E az_F ex 1 60 0 [.ref 69, .int v4, .int v5] [] (97, I, J, R) _
                      refine az_E.sn 1 (pc' := 1) (L' := [.ref 69, .int v4, .int v5]) (S' := [.int v4]) (σ' := (97, I, J, R)) rfl ?_
                      refine az_E.br (c := v4 < 0) (tt := 30) (ff := 4) (L' := [.ref 69, .int v4, .int v5]) (S' := []) (σ' := (97, I, J, R)) rfl (fun hc_896 => ?_) (fun hc_896 => ?_)
                      · rw [if_pos hc_896] at h
                        refine az_E.sn 1 (pc' := 31) (L' := [.ref 69, .int v4, .int v5]) (S' := [.int (0 : Int32)]) (σ' := (97, I, J, R)) rfl ?_
                        refine az_E.ret (v := some (.int (0 : Int32))) (σ' := (97, I, J, R)) rfl ?_
                        show az_E az_F ex 2 128 95 [.retAddr 0, .retAddr 0, .int v2, .retAddr 0, .int v4, .int v5, .ref 65, .ref 69] [.int (0 : Int32)] (97, I, J, R) _
                        refine az_E.br (c := (0 : Int32) = 0) (tt := 98) (ff := 101) (L' := [.retAddr 0, .retAddr 0, .int v2, .retAddr 0, .int v4, .int v5, .ref 65, .ref 69]) (S' := []) (σ' := (97, I, J, R)) rfl (fun _ => ?_) (fun hn => absurd (by decide) hn)
                        refine az_E.sn 1 (pc' := 100) (L' := [.retAddr 0, .retAddr 0, .int v2, .retAddr 0, .int v4, .int v5, .ref 65, .ref 69]) (S' := [.int (-13 : Int32)]) (σ' := (97, I, J, R)) rfl ?_
                        have h := Option.some.inj h
                        subst h
                        exact az_E.ret (v := some (.int (-13 : Int32))) (σ' := (97, I, J, R)) rfl hQ
                      · rw [if_neg hc_896] at h
                        refine az_E.sn 1 (pc' := 5) (L' := [.ref 69, .int v4, .int v5]) (S' := [.int v5]) (σ' := (97, I, J, R)) rfl ?_
                        refine az_E.br (c := v5 < 0) (tt := 30) (ff := 8) (L' := [.ref 69, .int v4, .int v5]) (S' := []) (σ' := (97, I, J, R)) rfl (fun hc_897 => ?_) (fun hc_897 => ?_)
                        · rw [if_pos hc_897] at h
                          refine az_E.sn 1 (pc' := 31) (L' := [.ref 69, .int v4, .int v5]) (S' := [.int (0 : Int32)]) (σ' := (97, I, J, R)) rfl ?_
                          refine az_E.ret (v := some (.int (0 : Int32))) (σ' := (97, I, J, R)) rfl ?_
                          show az_E az_F ex 2 128 95 [.retAddr 0, .retAddr 0, .int v2, .retAddr 0, .int v4, .int v5, .ref 65, .ref 69] [.int (0 : Int32)] (97, I, J, R) _
                          refine az_E.br (c := (0 : Int32) = 0) (tt := 98) (ff := 101) (L' := [.retAddr 0, .retAddr 0, .int v2, .retAddr 0, .int v4, .int v5, .ref 65, .ref 69]) (S' := []) (σ' := (97, I, J, R)) rfl (fun _ => ?_) (fun hn => absurd (by decide) hn)
                          refine az_E.sn 1 (pc' := 100) (L' := [.retAddr 0, .retAddr 0, .int v2, .retAddr 0, .int v4, .int v5, .ref 65, .ref 69]) (S' := [.int (-13 : Int32)]) (σ' := (97, I, J, R)) rfl ?_
                          have h := Option.some.inj h
                          subst h
                          exact az_E.ret (v := some (.int (-13 : Int32))) (σ' := (97, I, J, R)) rfl hQ
                        · rw [if_neg hc_897] at h
                          refine az_E.sn 3 (pc' := 13) (L' := [.ref 69, .int v4, .int v5]) (S' := [.int (I 69 2), .int v4]) (σ' := (97, I, J, R)) rfl ?_
                          refine az_E.br (c := (I 69 2) < v4) (tt := 30) (ff := 16) (L' := [.ref 69, .int v4, .int v5]) (S' := []) (σ' := (97, I, J, R)) rfl (fun hc_898 => ?_) (fun hc_898 => ?_)
                          · rw [if_pos hc_898] at h
                            refine az_E.sn 1 (pc' := 31) (L' := [.ref 69, .int v4, .int v5]) (S' := [.int (0 : Int32)]) (σ' := (97, I, J, R)) rfl ?_
                            refine az_E.ret (v := some (.int (0 : Int32))) (σ' := (97, I, J, R)) rfl ?_
                            show az_E az_F ex 2 128 95 [.retAddr 0, .retAddr 0, .int v2, .retAddr 0, .int v4, .int v5, .ref 65, .ref 69] [.int (0 : Int32)] (97, I, J, R) _
                            refine az_E.br (c := (0 : Int32) = 0) (tt := 98) (ff := 101) (L' := [.retAddr 0, .retAddr 0, .int v2, .retAddr 0, .int v4, .int v5, .ref 65, .ref 69]) (S' := []) (σ' := (97, I, J, R)) rfl (fun _ => ?_) (fun hn => absurd (by decide) hn)
                            refine az_E.sn 1 (pc' := 100) (L' := [.retAddr 0, .retAddr 0, .int v2, .retAddr 0, .int v4, .int v5, .ref 65, .ref 69]) (S' := [.int (-13 : Int32)]) (σ' := (97, I, J, R)) rfl ?_
                            have h := Option.some.inj h
                            subst h
                            exact az_E.ret (v := some (.int (-13 : Int32))) (σ' := (97, I, J, R)) rfl hQ
                          · rw [if_neg hc_898] at h
                            refine az_E.sn 5 (pc' := 23) (L' := [.ref 69, .int v4, .int v5]) (S' := [.int ((I 69 2) - v4), .int v5]) (σ' := (97, I, J, R)) rfl ?_
                            refine az_E.br (c := ((I 69 2) - v4) < v5) (tt := 30) (ff := 26) (L' := [.ref 69, .int v4, .int v5]) (S' := []) (σ' := (97, I, J, R)) rfl (fun hc_899 => ?_) (fun hc_899 => ?_)
                            · rw [if_pos hc_899] at h
                              refine az_E.sn 1 (pc' := 31) (L' := [.ref 69, .int v4, .int v5]) (S' := [.int (0 : Int32)]) (σ' := (97, I, J, R)) rfl ?_
                              refine az_E.ret (v := some (.int (0 : Int32))) (σ' := (97, I, J, R)) rfl ?_
                              show az_E az_F ex 2 128 95 [.retAddr 0, .retAddr 0, .int v2, .retAddr 0, .int v4, .int v5, .ref 65, .ref 69] [.int (0 : Int32)] (97, I, J, R) _
                              refine az_E.br (c := (0 : Int32) = 0) (tt := 98) (ff := 101) (L' := [.retAddr 0, .retAddr 0, .int v2, .retAddr 0, .int v4, .int v5, .ref 65, .ref 69]) (S' := []) (σ' := (97, I, J, R)) rfl (fun _ => ?_) (fun hn => absurd (by decide) hn)
                              refine az_E.sn 1 (pc' := 100) (L' := [.retAddr 0, .retAddr 0, .int v2, .retAddr 0, .int v4, .int v5, .ref 65, .ref 69]) (S' := [.int (-13 : Int32)]) (σ' := (97, I, J, R)) rfl ?_
                              have h := Option.some.inj h
                              subst h
                              exact az_E.ret (v := some (.int (-13 : Int32))) (σ' := (97, I, J, R)) rfl hQ
                            · rw [if_neg hc_899] at h
                              refine az_E.sn 2 (pc' := 31) (L' := [.ref 69, .int v4, .int v5]) (S' := [.int (1 : Int32)]) (σ' := (97, I, J, R)) rfl ?_
                              refine az_E.ret (v := some (.int (1 : Int32))) (σ' := (97, I, J, R)) rfl ?_
                              show az_E az_F ex 2 128 95 [.retAddr 0, .retAddr 0, .int v2, .retAddr 0, .int v4, .int v5, .ref 65, .ref 69] [.int (1 : Int32)] (97, I, J, R) _
                              refine az_E.br (c := (1 : Int32) = 0) (tt := 98) (ff := 101) (L' := [.retAddr 0, .retAddr 0, .int v2, .retAddr 0, .int v4, .int v5, .ref 65, .ref 69]) (S' := []) (σ' := (97, I, J, R)) rfl (fun hn => absurd hn (by decide)) (fun _ => ?_)
                              refine az_E.sn 7 (pc' := 116) (L' := [.retAddr 0, .retAddr 0, .int v2, .retAddr 0, .int v4, .int v5, .ref 65, .ref 69]) (S' := [.int v5, .int v4, .ref (69 + 1), .int v2, .ref (65 + 1)]) (σ' := (97, I, J, R)) rfl ?_
                              by_cases hc_900 : v2 < 0 ∨ v4 < 0 ∨ v5 < 0 ∨ 60 < v2.toNatClampNeg + v5.toNatClampNeg ∨ 60 < v4.toNatClampNeg + v5.toNatClampNeg
                              · rw [if_pos hc_900] at h; cases h
                              · rw [if_neg hc_900] at h
                                refine az_E.o (o := az_cp az_F (97, I, J, R) (65 + 1) v2 (69 + 1) v4 v5) (pc' := 119) (L' := [.retAddr 0, .retAddr 0, .int v2, .retAddr 0, .int v4, .int v5, .ref 65, .ref 69]) (S' := []) (x := (97, I, (az_ur J (69 + 1) (va_cpy (J (65 + 1)) (J (69 + 1)) v2.toNatClampNeg v4.toNatClampNeg v5.toNatClampNeg)), R)) rfl (if_neg hc_900) ?_
                                refine az_E.sn 1 (pc' := 121) (L' := [.retAddr 0, .retAddr 0, .int v2, .retAddr 0, .int v4, .int v5, .ref 65, .ref 69]) (S' := [.int v5]) (σ' := (97, I, (az_ur J (69 + 1) (va_cpy (J (65 + 1)) (J (69 + 1)) v2.toNatClampNeg v4.toNatClampNeg v5.toNatClampNeg)), R)) rfl ?_
                                have h := Option.some.inj h
                                subst h
                                exact az_E.ret (v := some (.int v5)) (σ' := (97, I, (az_ur J (69 + 1) (va_cpy (J (65 + 1)) (J (69 + 1)) v2.toNatClampNeg v4.toNatClampNeg v5.toNatClampNeg)), R)) rfl hQ
            · rw [if_neg hc_891] at h
              refine az_E.sn 1 (pc' := 20) (L' := [.ref 69, .int (I 65 1)]) (S' := [.int (0 : Int32)]) (σ' := (97, I, J, R)) rfl ?_
              refine az_E.ret (v := some (.int (0 : Int32))) (σ' := (97, I, J, R)) rfl ?_
              show az_E az_F ex 2 128 69 [.retAddr 0, .retAddr 0, .int v2, .retAddr 0, .int v4, .int v5, .ref 65, .ref 69] [.int (0 : Int32)] (97, I, J, R) _
              refine az_E.br (c := (0 : Int32) = 0) (tt := 72) (ff := 75) (L' := [.retAddr 0, .retAddr 0, .int v2, .retAddr 0, .int v4, .int v5, .ref 65, .ref 69]) (S' := []) (σ' := (97, I, J, R)) rfl (fun _ => ?_) (fun hn => absurd (by decide) hn)
              refine az_E.sn 1 (pc' := 74) (L' := [.retAddr 0, .retAddr 0, .int v2, .retAddr 0, .int v4, .int v5, .ref 65, .ref 69]) (S' := [.int (-12 : Int32)]) (σ' := (97, I, J, R)) rfl ?_
              have h := Option.some.inj h
              subst h
              exact az_E.ret (v := some (.int (-12 : Int32))) (σ' := (97, I, J, R)) rfl hQ
  · rw [if_neg hc_873] at h
    refine az_E.sn 1 (pc' := 21) (L' := [.ref 65]) (S' := [.int (0 : Int32)]) (σ' := (97, I, J, R)) rfl ?_
    refine az_E.ret (v := some (.int (0 : Int32))) (σ' := (97, I, J, R)) rfl ?_
    show az_E az_F ex 2 128 37 [.retAddr 0, .retAddr 0, .int v2, .retAddr 0, .int v4, .int v5, .ref 65, .ref 69] [.int (0 : Int32)] (97, I, J, R) _
    refine az_E.br (c := (0 : Int32) = 0) (tt := 40) (ff := 48) (L' := [.retAddr 0, .retAddr 0, .int v2, .retAddr 0, .int v4, .int v5, .ref 65, .ref 69]) (S' := []) (σ' := (97, I, J, R)) rfl (fun _ => ?_) (fun hn => absurd (by decide) hn)
    refine az_E.sn 1 (pc' := 42) (L' := [.retAddr 0, .retAddr 0, .int v2, .retAddr 0, .int v4, .int v5, .ref 65, .ref 69]) (S' := [.ref 69]) (σ' := (97, I, J, R)) rfl ?_
    refine az_E.call (d := 1) (k' := 54) (vs := [.ref 69]) (pc' := 45) (S' := []) rfl ?_ (fun _ _ hq => hq)
    show az_E az_F ex 1 54 0 [.ref 69] [] (97, I, J, R) _
    refine az_E.sn 3 (pc' := 5) (L' := [.ref 69]) (S' := [.int (-1 : Int32), .int (I 69 0)]) (σ' := (97, I, J, R)) rfl ?_
    refine az_E.br (c := (I 69 0) = (-1 : Int32)) (tt := 8) (ff := 20) (L' := [.ref 69]) (S' := []) (σ' := (97, I, J, R)) rfl (fun hc_901 => ?_) (fun hc_901 => ?_)
    · rw [if_pos hc_901] at h
      refine az_E.sn 3 (pc' := 13) (L' := [.ref 69]) (S' := [.int (-1 : Int32), .int (I 69 1)]) (σ' := (97, I, J, R)) rfl ?_
      refine az_E.br (c := (I 69 1) = (-1 : Int32)) (tt := 16) (ff := 20) (L' := [.ref 69]) (S' := []) (σ' := (97, I, J, R)) rfl (fun hc_902 => ?_) (fun hc_902 => ?_)
      · rw [if_pos hc_902] at h
        refine az_E.sn 2 (pc' := 21) (L' := [.ref 69]) (S' := [.int (1 : Int32)]) (σ' := (97, I, J, R)) rfl ?_
        refine az_E.ret (v := some (.int (1 : Int32))) (σ' := (97, I, J, R)) rfl ?_
        show az_E az_F ex 2 128 45 [.retAddr 0, .retAddr 0, .int v2, .retAddr 0, .int v4, .int v5, .ref 65, .ref 69] [.int (1 : Int32)] (97, I, J, R) _
        refine az_E.br (c := (1 : Int32) = 0) (tt := 51) (ff := 48) (L' := [.retAddr 0, .retAddr 0, .int v2, .retAddr 0, .int v4, .int v5, .ref 65, .ref 69]) (S' := []) (σ' := (97, I, J, R)) rfl (fun hn => absurd hn (by decide)) (fun _ => ?_)
        refine az_E.sn 1 (pc' := 50) (L' := [.retAddr 0, .retAddr 0, .int v2, .retAddr 0, .int v4, .int v5, .ref 65, .ref 69]) (S' := [.int (-11 : Int32)]) (σ' := (97, I, J, R)) rfl ?_
        have h := Option.some.inj h
        subst h
        exact az_E.ret (v := some (.int (-11 : Int32))) (σ' := (97, I, J, R)) rfl hQ
      · rw [if_neg hc_902] at h
        refine az_E.sn 1 (pc' := 21) (L' := [.ref 69]) (S' := [.int (0 : Int32)]) (σ' := (97, I, J, R)) rfl ?_
        refine az_E.ret (v := some (.int (0 : Int32))) (σ' := (97, I, J, R)) rfl ?_
        show az_E az_F ex 2 128 45 [.retAddr 0, .retAddr 0, .int v2, .retAddr 0, .int v4, .int v5, .ref 65, .ref 69] [.int (0 : Int32)] (97, I, J, R) _
        refine az_E.br (c := (0 : Int32) = 0) (tt := 51) (ff := 48) (L' := [.retAddr 0, .retAddr 0, .int v2, .retAddr 0, .int v4, .int v5, .ref 65, .ref 69]) (S' := []) (σ' := (97, I, J, R)) rfl (fun _ => ?_) (fun hn => absurd (by decide) hn)
        refine az_E.sn 1 (pc' := 53) (L' := [.retAddr 0, .retAddr 0, .int v2, .retAddr 0, .int v4, .int v5, .ref 65, .ref 69]) (S' := [.ref 65]) (σ' := (97, I, J, R)) rfl ?_
        refine az_E.call (d := 1) (k' := 55) (vs := [.ref 65]) (pc' := 56) (S' := []) rfl ?_ (fun _ _ hq => hq)
        show az_E az_F ex 1 55 0 [.ref 65] [] (97, I, J, R) _
        refine az_E.sn 3 (pc' := 5) (L' := [.ref 65]) (S' := [.int (-1 : Int32), .int (I 65 1)]) (σ' := (97, I, J, R)) rfl ?_
        refine az_E.br (c := (I 65 1) = (-1 : Int32)) (tt := 12) (ff := 8) (L' := [.ref 65]) (S' := []) (σ' := (97, I, J, R)) rfl (fun hc_903 => ?_) (fun hc_903 => ?_)
        · rw [if_pos hc_903] at h
          refine az_E.sn 1 (pc' := 13) (L' := [.ref 65]) (S' := [.int (0 : Int32)]) (σ' := (97, I, J, R)) rfl ?_
          refine az_E.ret (v := some (.int (0 : Int32))) (σ' := (97, I, J, R)) rfl ?_
          show az_E az_F ex 2 128 56 [.retAddr 0, .retAddr 0, .int v2, .retAddr 0, .int v4, .int v5, .ref 65, .ref 69] [.int (0 : Int32)] (97, I, J, R) _
          refine az_E.br (c := (0 : Int32) = 0) (tt := 72) (ff := 59) (L' := [.retAddr 0, .retAddr 0, .int v2, .retAddr 0, .int v4, .int v5, .ref 65, .ref 69]) (S' := []) (σ' := (97, I, J, R)) rfl (fun _ => ?_) (fun hn => absurd (by decide) hn)
          refine az_E.sn 1 (pc' := 74) (L' := [.retAddr 0, .retAddr 0, .int v2, .retAddr 0, .int v4, .int v5, .ref 65, .ref 69]) (S' := [.int (-12 : Int32)]) (σ' := (97, I, J, R)) rfl ?_
          have h := Option.some.inj h
          subst h
          exact az_E.ret (v := some (.int (-12 : Int32))) (σ' := (97, I, J, R)) rfl hQ
        · rw [if_neg hc_903] at h
          refine az_E.sn 2 (pc' := 13) (L' := [.ref 65]) (S' := [.int (1 : Int32)]) (σ' := (97, I, J, R)) rfl ?_
          refine az_E.ret (v := some (.int (1 : Int32))) (σ' := (97, I, J, R)) rfl ?_
          show az_E az_F ex 2 128 56 [.retAddr 0, .retAddr 0, .int v2, .retAddr 0, .int v4, .int v5, .ref 65, .ref 69] [.int (1 : Int32)] (97, I, J, R) _
          refine az_E.br (c := (1 : Int32) = 0) (tt := 72) (ff := 59) (L' := [.retAddr 0, .retAddr 0, .int v2, .retAddr 0, .int v4, .int v5, .ref 65, .ref 69]) (S' := []) (σ' := (97, I, J, R)) rfl (fun hn => absurd hn (by decide)) (fun _ => ?_)
          refine az_E.sn 3 (pc' := 66) (L' := [.retAddr 0, .retAddr 0, .int v2, .retAddr 0, .int v4, .int v5, .ref 65, .ref 69]) (S' := [.int (I 65 1), .ref 69]) (σ' := (97, I, J, R)) rfl ?_
          refine az_E.call (d := 1) (k' := 56) (vs := [.ref 69, .int (I 65 1)]) (pc' := 69) (S' := []) rfl ?_ (fun _ _ hq => hq)
          show az_E az_F ex 1 56 0 [.ref 69, .int (I 65 1)] [] (97, I, J, R) _
          refine az_E.sn 1 (pc' := 1) (L' := [.ref 69, .int (I 65 1)]) (S' := [.ref 69]) (σ' := (97, I, J, R)) rfl ?_
          refine az_E.call (d := 0) (k' := 55) (vs := [.ref 69]) (pc' := 4) (S' := []) rfl ?_ (fun _ _ hq => hq)
          show az_E az_F ex 0 55 0 [.ref 69] [] (97, I, J, R) _
          refine az_E.sn 3 (pc' := 5) (L' := [.ref 69]) (S' := [.int (-1 : Int32), .int (I 69 1)]) (σ' := (97, I, J, R)) rfl ?_
          refine az_E.br (c := (I 69 1) = (-1 : Int32)) (tt := 12) (ff := 8) (L' := [.ref 69]) (S' := []) (σ' := (97, I, J, R)) rfl (fun hc_904 => ?_) (fun hc_904 => ?_)
          · rw [if_pos hc_904] at h
            refine az_E.sn 1 (pc' := 13) (L' := [.ref 69]) (S' := [.int (0 : Int32)]) (σ' := (97, I, J, R)) rfl ?_
            refine az_E.ret (v := some (.int (0 : Int32))) (σ' := (97, I, J, R)) rfl ?_
            show az_E az_F ex 1 56 4 [.ref 69, .int (I 65 1)] [.int (0 : Int32)] (97, I, J, R) _
            refine az_E.br (c := (0 : Int32) = 0) (tt := 19) (ff := 7) (L' := [.ref 69, .int (I 65 1)]) (S' := []) (σ' := (97, I, J, R)) rfl (fun _ => ?_) (fun hn => absurd (by decide) hn)
            refine az_E.sn 1 (pc' := 20) (L' := [.ref 69, .int (I 65 1)]) (S' := [.int (0 : Int32)]) (σ' := (97, I, J, R)) rfl ?_
            refine az_E.ret (v := some (.int (0 : Int32))) (σ' := (97, I, J, R)) rfl ?_
            show az_E az_F ex 2 128 69 [.retAddr 0, .retAddr 0, .int v2, .retAddr 0, .int v4, .int v5, .ref 65, .ref 69] [.int (0 : Int32)] (97, I, J, R) _
            refine az_E.br (c := (0 : Int32) = 0) (tt := 72) (ff := 75) (L' := [.retAddr 0, .retAddr 0, .int v2, .retAddr 0, .int v4, .int v5, .ref 65, .ref 69]) (S' := []) (σ' := (97, I, J, R)) rfl (fun _ => ?_) (fun hn => absurd (by decide) hn)
            refine az_E.sn 1 (pc' := 74) (L' := [.retAddr 0, .retAddr 0, .int v2, .retAddr 0, .int v4, .int v5, .ref 65, .ref 69]) (S' := [.int (-12 : Int32)]) (σ' := (97, I, J, R)) rfl ?_
            have h := Option.some.inj h
            subst h
            exact az_E.ret (v := some (.int (-12 : Int32))) (σ' := (97, I, J, R)) rfl hQ
          · rw [if_neg hc_904] at h
            refine az_E.sn 2 (pc' := 13) (L' := [.ref 69]) (S' := [.int (1 : Int32)]) (σ' := (97, I, J, R)) rfl ?_
            refine az_E.ret (v := some (.int (1 : Int32))) (σ' := (97, I, J, R)) rfl ?_
            show az_E az_F ex 1 56 4 [.ref 69, .int (I 65 1)] [.int (1 : Int32)] (97, I, J, R) _
            refine az_E.br (c := (1 : Int32) = 0) (tt := 19) (ff := 7) (L' := [.ref 69, .int (I 65 1)]) (S' := []) (σ' := (97, I, J, R)) rfl (fun hn => absurd hn (by decide)) (fun _ => ?_)
            refine az_E.sn 3 (pc' := 12) (L' := [.ref 69, .int (I 65 1)]) (S' := [.int (I 65 1), .int (I 69 1)]) (σ' := (97, I, J, R)) rfl ?_
            refine az_E.br (c := (I 69 1) = (I 65 1)) (tt := 15) (ff := 19) (L' := [.ref 69, .int (I 65 1)]) (S' := []) (σ' := (97, I, J, R)) rfl (fun hc_905 => ?_) (fun hc_905 => ?_)
            · rw [if_pos hc_905] at h
              refine az_E.sn 2 (pc' := 20) (L' := [.ref 69, .int (I 65 1)]) (S' := [.int (1 : Int32)]) (σ' := (97, I, J, R)) rfl ?_
              refine az_E.ret (v := some (.int (1 : Int32))) (σ' := (97, I, J, R)) rfl ?_
              show az_E az_F ex 2 128 69 [.retAddr 0, .retAddr 0, .int v2, .retAddr 0, .int v4, .int v5, .ref 65, .ref 69] [.int (1 : Int32)] (97, I, J, R) _
              refine az_E.br (c := (1 : Int32) = 0) (tt := 72) (ff := 75) (L' := [.retAddr 0, .retAddr 0, .int v2, .retAddr 0, .int v4, .int v5, .ref 65, .ref 69]) (S' := []) (σ' := (97, I, J, R)) rfl (fun hn => absurd hn (by decide)) (fun _ => ?_)
              refine az_E.sn 3 (pc' := 80) (L' := [.retAddr 0, .retAddr 0, .int v2, .retAddr 0, .int v4, .int v5, .ref 65, .ref 69]) (S' := [.int v5, .int v2, .ref 65]) (σ' := (97, I, J, R)) rfl ?_
              refine az_E.call (d := 1) (k' := 60) (vs := [.ref 65, .int v2, .int v5]) (pc' := 83) (S' := []) rfl ?_ (fun _ _ hq => hq)
              show az_E az_F ex 1 60 0 [.ref 65, .int v2, .int v5] [] (97, I, J, R) _
              refine az_E.sn 1 (pc' := 1) (L' := [.ref 65, .int v2, .int v5]) (S' := [.int v2]) (σ' := (97, I, J, R)) rfl ?_
              refine az_E.br (c := v2 < 0) (tt := 30) (ff := 4) (L' := [.ref 65, .int v2, .int v5]) (S' := []) (σ' := (97, I, J, R)) rfl (fun hc_906 => ?_) (fun hc_906 => ?_)
              · rw [if_pos hc_906] at h
                refine az_E.sn 1 (pc' := 31) (L' := [.ref 65, .int v2, .int v5]) (S' := [.int (0 : Int32)]) (σ' := (97, I, J, R)) rfl ?_
                refine az_E.ret (v := some (.int (0 : Int32))) (σ' := (97, I, J, R)) rfl ?_
                show az_E az_F ex 2 128 83 [.retAddr 0, .retAddr 0, .int v2, .retAddr 0, .int v4, .int v5, .ref 65, .ref 69] [.int (0 : Int32)] (97, I, J, R) _
                refine az_E.br (c := (0 : Int32) = 0) (tt := 98) (ff := 86) (L' := [.retAddr 0, .retAddr 0, .int v2, .retAddr 0, .int v4, .int v5, .ref 65, .ref 69]) (S' := []) (σ' := (97, I, J, R)) rfl (fun _ => ?_) (fun hn => absurd (by decide) hn)
                refine az_E.sn 1 (pc' := 100) (L' := [.retAddr 0, .retAddr 0, .int v2, .retAddr 0, .int v4, .int v5, .ref 65, .ref 69]) (S' := [.int (-13 : Int32)]) (σ' := (97, I, J, R)) rfl ?_
                have h := Option.some.inj h
                subst h
                exact az_E.ret (v := some (.int (-13 : Int32))) (σ' := (97, I, J, R)) rfl hQ
              · rw [if_neg hc_906] at h
                refine az_E.sn 1 (pc' := 5) (L' := [.ref 65, .int v2, .int v5]) (S' := [.int v5]) (σ' := (97, I, J, R)) rfl ?_
                refine az_E.br (c := v5 < 0) (tt := 30) (ff := 8) (L' := [.ref 65, .int v2, .int v5]) (S' := []) (σ' := (97, I, J, R)) rfl (fun hc_907 => ?_) (fun hc_907 => ?_)
                · rw [if_pos hc_907] at h
                  refine az_E.sn 1 (pc' := 31) (L' := [.ref 65, .int v2, .int v5]) (S' := [.int (0 : Int32)]) (σ' := (97, I, J, R)) rfl ?_
                  refine az_E.ret (v := some (.int (0 : Int32))) (σ' := (97, I, J, R)) rfl ?_
                  show az_E az_F ex 2 128 83 [.retAddr 0, .retAddr 0, .int v2, .retAddr 0, .int v4, .int v5, .ref 65, .ref 69] [.int (0 : Int32)] (97, I, J, R) _
                  refine az_E.br (c := (0 : Int32) = 0) (tt := 98) (ff := 86) (L' := [.retAddr 0, .retAddr 0, .int v2, .retAddr 0, .int v4, .int v5, .ref 65, .ref 69]) (S' := []) (σ' := (97, I, J, R)) rfl (fun _ => ?_) (fun hn => absurd (by decide) hn)
                  refine az_E.sn 1 (pc' := 100) (L' := [.retAddr 0, .retAddr 0, .int v2, .retAddr 0, .int v4, .int v5, .ref 65, .ref 69]) (S' := [.int (-13 : Int32)]) (σ' := (97, I, J, R)) rfl ?_
                  have h := Option.some.inj h
                  subst h
                  exact az_E.ret (v := some (.int (-13 : Int32))) (σ' := (97, I, J, R)) rfl hQ
                · rw [if_neg hc_907] at h
                  refine az_E.sn 3 (pc' := 13) (L' := [.ref 65, .int v2, .int v5]) (S' := [.int (I 65 2), .int v2]) (σ' := (97, I, J, R)) rfl ?_
                  refine az_E.br (c := (I 65 2) < v2) (tt := 30) (ff := 16) (L' := [.ref 65, .int v2, .int v5]) (S' := []) (σ' := (97, I, J, R)) rfl (fun hc_908 => ?_) (fun hc_908 => ?_)
                  · rw [if_pos hc_908] at h
                    refine az_E.sn 1 (pc' := 31) (L' := [.ref 65, .int v2, .int v5]) (S' := [.int (0 : Int32)]) (σ' := (97, I, J, R)) rfl ?_
                    refine az_E.ret (v := some (.int (0 : Int32))) (σ' := (97, I, J, R)) rfl ?_
                    show az_E az_F ex 2 128 83 [.retAddr 0, .retAddr 0, .int v2, .retAddr 0, .int v4, .int v5, .ref 65, .ref 69] [.int (0 : Int32)] (97, I, J, R) _
                    refine az_E.br (c := (0 : Int32) = 0) (tt := 98) (ff := 86) (L' := [.retAddr 0, .retAddr 0, .int v2, .retAddr 0, .int v4, .int v5, .ref 65, .ref 69]) (S' := []) (σ' := (97, I, J, R)) rfl (fun _ => ?_) (fun hn => absurd (by decide) hn)
                    refine az_E.sn 1 (pc' := 100) (L' := [.retAddr 0, .retAddr 0, .int v2, .retAddr 0, .int v4, .int v5, .ref 65, .ref 69]) (S' := [.int (-13 : Int32)]) (σ' := (97, I, J, R)) rfl ?_
                    have h := Option.some.inj h
                    subst h
                    exact az_E.ret (v := some (.int (-13 : Int32))) (σ' := (97, I, J, R)) rfl hQ
                  · rw [if_neg hc_908] at h
                    refine az_E.sn 5 (pc' := 23) (L' := [.ref 65, .int v2, .int v5]) (S' := [.int ((I 65 2) - v2), .int v5]) (σ' := (97, I, J, R)) rfl ?_
                    refine az_E.br (c := ((I 65 2) - v2) < v5) (tt := 30) (ff := 26) (L' := [.ref 65, .int v2, .int v5]) (S' := []) (σ' := (97, I, J, R)) rfl (fun hc_909 => ?_) (fun hc_909 => ?_)
                    · rw [if_pos hc_909] at h
                      refine az_E.sn 1 (pc' := 31) (L' := [.ref 65, .int v2, .int v5]) (S' := [.int (0 : Int32)]) (σ' := (97, I, J, R)) rfl ?_
                      refine az_E.ret (v := some (.int (0 : Int32))) (σ' := (97, I, J, R)) rfl ?_
                      show az_E az_F ex 2 128 83 [.retAddr 0, .retAddr 0, .int v2, .retAddr 0, .int v4, .int v5, .ref 65, .ref 69] [.int (0 : Int32)] (97, I, J, R) _
                      refine az_E.br (c := (0 : Int32) = 0) (tt := 98) (ff := 86) (L' := [.retAddr 0, .retAddr 0, .int v2, .retAddr 0, .int v4, .int v5, .ref 65, .ref 69]) (S' := []) (σ' := (97, I, J, R)) rfl (fun _ => ?_) (fun hn => absurd (by decide) hn)
                      refine az_E.sn 1 (pc' := 100) (L' := [.retAddr 0, .retAddr 0, .int v2, .retAddr 0, .int v4, .int v5, .ref 65, .ref 69]) (S' := [.int (-13 : Int32)]) (σ' := (97, I, J, R)) rfl ?_
                      have h := Option.some.inj h
                      subst h
                      exact az_E.ret (v := some (.int (-13 : Int32))) (σ' := (97, I, J, R)) rfl hQ
                    · rw [if_neg hc_909] at h
                      refine az_E.sn 2 (pc' := 31) (L' := [.ref 65, .int v2, .int v5]) (S' := [.int (1 : Int32)]) (σ' := (97, I, J, R)) rfl ?_
                      refine az_E.ret (v := some (.int (1 : Int32))) (σ' := (97, I, J, R)) rfl ?_
                      show az_E az_F ex 2 128 83 [.retAddr 0, .retAddr 0, .int v2, .retAddr 0, .int v4, .int v5, .ref 65, .ref 69] [.int (1 : Int32)] (97, I, J, R) _
                      refine az_E.br (c := (1 : Int32) = 0) (tt := 98) (ff := 86) (L' := [.retAddr 0, .retAddr 0, .int v2, .retAddr 0, .int v4, .int v5, .ref 65, .ref 69]) (S' := []) (σ' := (97, I, J, R)) rfl (fun hn => absurd hn (by decide)) (fun _ => ?_)
                      refine az_E.sn 3 (pc' := 92) (L' := [.retAddr 0, .retAddr 0, .int v2, .retAddr 0, .int v4, .int v5, .ref 65, .ref 69]) (S' := [.int v5, .int v4, .ref 69]) (σ' := (97, I, J, R)) rfl ?_
                      refine az_E.call (d := 1) (k' := 60) (vs := [.ref 69, .int v4, .int v5]) (pc' := 95) (S' := []) rfl ?_ (fun _ _ hq => hq)
                      show az_E az_F ex 1 60 0 [.ref 69, .int v4, .int v5] [] (97, I, J, R) _
                      refine az_E.sn 1 (pc' := 1) (L' := [.ref 69, .int v4, .int v5]) (S' := [.int v4]) (σ' := (97, I, J, R)) rfl ?_
                      refine az_E.br (c := v4 < 0) (tt := 30) (ff := 4) (L' := [.ref 69, .int v4, .int v5]) (S' := []) (σ' := (97, I, J, R)) rfl (fun hc_910 => ?_) (fun hc_910 => ?_)
                      · rw [if_pos hc_910] at h
                        refine az_E.sn 1 (pc' := 31) (L' := [.ref 69, .int v4, .int v5]) (S' := [.int (0 : Int32)]) (σ' := (97, I, J, R)) rfl ?_
                        refine az_E.ret (v := some (.int (0 : Int32))) (σ' := (97, I, J, R)) rfl ?_
                        show az_E az_F ex 2 128 95 [.retAddr 0, .retAddr 0, .int v2, .retAddr 0, .int v4, .int v5, .ref 65, .ref 69] [.int (0 : Int32)] (97, I, J, R) _
                        refine az_E.br (c := (0 : Int32) = 0) (tt := 98) (ff := 101) (L' := [.retAddr 0, .retAddr 0, .int v2, .retAddr 0, .int v4, .int v5, .ref 65, .ref 69]) (S' := []) (σ' := (97, I, J, R)) rfl (fun _ => ?_) (fun hn => absurd (by decide) hn)
                        refine az_E.sn 1 (pc' := 100) (L' := [.retAddr 0, .retAddr 0, .int v2, .retAddr 0, .int v4, .int v5, .ref 65, .ref 69]) (S' := [.int (-13 : Int32)]) (σ' := (97, I, J, R)) rfl ?_
                        have h := Option.some.inj h
                        subst h
                        exact az_E.ret (v := some (.int (-13 : Int32))) (σ' := (97, I, J, R)) rfl hQ
                      · rw [if_neg hc_910] at h
                        refine az_E.sn 1 (pc' := 5) (L' := [.ref 69, .int v4, .int v5]) (S' := [.int v5]) (σ' := (97, I, J, R)) rfl ?_
                        refine az_E.br (c := v5 < 0) (tt := 30) (ff := 8) (L' := [.ref 69, .int v4, .int v5]) (S' := []) (σ' := (97, I, J, R)) rfl (fun hc_911 => ?_) (fun hc_911 => ?_)
                        · rw [if_pos hc_911] at h
                          refine az_E.sn 1 (pc' := 31) (L' := [.ref 69, .int v4, .int v5]) (S' := [.int (0 : Int32)]) (σ' := (97, I, J, R)) rfl ?_
                          refine az_E.ret (v := some (.int (0 : Int32))) (σ' := (97, I, J, R)) rfl ?_
                          show az_E az_F ex 2 128 95 [.retAddr 0, .retAddr 0, .int v2, .retAddr 0, .int v4, .int v5, .ref 65, .ref 69] [.int (0 : Int32)] (97, I, J, R) _
                          refine az_E.br (c := (0 : Int32) = 0) (tt := 98) (ff := 101) (L' := [.retAddr 0, .retAddr 0, .int v2, .retAddr 0, .int v4, .int v5, .ref 65, .ref 69]) (S' := []) (σ' := (97, I, J, R)) rfl (fun _ => ?_) (fun hn => absurd (by decide) hn)
                          refine az_E.sn 1 (pc' := 100) (L' := [.retAddr 0, .retAddr 0, .int v2, .retAddr 0, .int v4, .int v5, .ref 65, .ref 69]) (S' := [.int (-13 : Int32)]) (σ' := (97, I, J, R)) rfl ?_
                          have h := Option.some.inj h
                          subst h
                          exact az_E.ret (v := some (.int (-13 : Int32))) (σ' := (97, I, J, R)) rfl hQ
                        · rw [if_neg hc_911] at h
                          refine az_E.sn 3 (pc' := 13) (L' := [.ref 69, .int v4, .int v5]) (S' := [.int (I 69 2), .int v4]) (σ' := (97, I, J, R)) rfl ?_
                          refine az_E.br (c := (I 69 2) < v4) (tt := 30) (ff := 16) (L' := [.ref 69, .int v4, .int v5]) (S' := []) (σ' := (97, I, J, R)) rfl (fun hc_912 => ?_) (fun hc_912 => ?_)
                          · rw [if_pos hc_912] at h
                            refine az_E.sn 1 (pc' := 31) (L' := [.ref 69, .int v4, .int v5]) (S' := [.int (0 : Int32)]) (σ' := (97, I, J, R)) rfl ?_
                            refine az_E.ret (v := some (.int (0 : Int32))) (σ' := (97, I, J, R)) rfl ?_
                            show az_E az_F ex 2 128 95 [.retAddr 0, .retAddr 0, .int v2, .retAddr 0, .int v4, .int v5, .ref 65, .ref 69] [.int (0 : Int32)] (97, I, J, R) _
                            refine az_E.br (c := (0 : Int32) = 0) (tt := 98) (ff := 101) (L' := [.retAddr 0, .retAddr 0, .int v2, .retAddr 0, .int v4, .int v5, .ref 65, .ref 69]) (S' := []) (σ' := (97, I, J, R)) rfl (fun _ => ?_) (fun hn => absurd (by decide) hn)
                            refine az_E.sn 1 (pc' := 100) (L' := [.retAddr 0, .retAddr 0, .int v2, .retAddr 0, .int v4, .int v5, .ref 65, .ref 69]) (S' := [.int (-13 : Int32)]) (σ' := (97, I, J, R)) rfl ?_
                            have h := Option.some.inj h
                            subst h
                            exact az_E.ret (v := some (.int (-13 : Int32))) (σ' := (97, I, J, R)) rfl hQ
                          · rw [if_neg hc_912] at h
                            refine az_E.sn 5 (pc' := 23) (L' := [.ref 69, .int v4, .int v5]) (S' := [.int ((I 69 2) - v4), .int v5]) (σ' := (97, I, J, R)) rfl ?_
                            refine az_E.br (c := ((I 69 2) - v4) < v5) (tt := 30) (ff := 26) (L' := [.ref 69, .int v4, .int v5]) (S' := []) (σ' := (97, I, J, R)) rfl (fun hc_913 => ?_) (fun hc_913 => ?_)
                            · rw [if_pos hc_913] at h
                              refine az_E.sn 1 (pc' := 31) (L' := [.ref 69, .int v4, .int v5]) (S' := [.int (0 : Int32)]) (σ' := (97, I, J, R)) rfl ?_
                              refine az_E.ret (v := some (.int (0 : Int32))) (σ' := (97, I, J, R)) rfl ?_
                              show az_E az_F ex 2 128 95 [.retAddr 0, .retAddr 0, .int v2, .retAddr 0, .int v4, .int v5, .ref 65, .ref 69] [.int (0 : Int32)] (97, I, J, R) _
                              refine az_E.br (c := (0 : Int32) = 0) (tt := 98) (ff := 101) (L' := [.retAddr 0, .retAddr 0, .int v2, .retAddr 0, .int v4, .int v5, .ref 65, .ref 69]) (S' := []) (σ' := (97, I, J, R)) rfl (fun _ => ?_) (fun hn => absurd (by decide) hn)
                              refine az_E.sn 1 (pc' := 100) (L' := [.retAddr 0, .retAddr 0, .int v2, .retAddr 0, .int v4, .int v5, .ref 65, .ref 69]) (S' := [.int (-13 : Int32)]) (σ' := (97, I, J, R)) rfl ?_
                              have h := Option.some.inj h
                              subst h
                              exact az_E.ret (v := some (.int (-13 : Int32))) (σ' := (97, I, J, R)) rfl hQ
                            · rw [if_neg hc_913] at h
                              refine az_E.sn 2 (pc' := 31) (L' := [.ref 69, .int v4, .int v5]) (S' := [.int (1 : Int32)]) (σ' := (97, I, J, R)) rfl ?_
                              refine az_E.ret (v := some (.int (1 : Int32))) (σ' := (97, I, J, R)) rfl ?_
                              show az_E az_F ex 2 128 95 [.retAddr 0, .retAddr 0, .int v2, .retAddr 0, .int v4, .int v5, .ref 65, .ref 69] [.int (1 : Int32)] (97, I, J, R) _
                              refine az_E.br (c := (1 : Int32) = 0) (tt := 98) (ff := 101) (L' := [.retAddr 0, .retAddr 0, .int v2, .retAddr 0, .int v4, .int v5, .ref 65, .ref 69]) (S' := []) (σ' := (97, I, J, R)) rfl (fun hn => absurd hn (by decide)) (fun _ => ?_)
                              refine az_E.sn 7 (pc' := 116) (L' := [.retAddr 0, .retAddr 0, .int v2, .retAddr 0, .int v4, .int v5, .ref 65, .ref 69]) (S' := [.int v5, .int v4, .ref (69 + 1), .int v2, .ref (65 + 1)]) (σ' := (97, I, J, R)) rfl ?_
                              by_cases hc_914 : v2 < 0 ∨ v4 < 0 ∨ v5 < 0 ∨ 60 < v2.toNatClampNeg + v5.toNatClampNeg ∨ 60 < v4.toNatClampNeg + v5.toNatClampNeg
                              · rw [if_pos hc_914] at h; cases h
                              · rw [if_neg hc_914] at h
                                refine az_E.o (o := az_cp az_F (97, I, J, R) (65 + 1) v2 (69 + 1) v4 v5) (pc' := 119) (L' := [.retAddr 0, .retAddr 0, .int v2, .retAddr 0, .int v4, .int v5, .ref 65, .ref 69]) (S' := []) (x := (97, I, (az_ur J (69 + 1) (va_cpy (J (65 + 1)) (J (69 + 1)) v2.toNatClampNeg v4.toNatClampNeg v5.toNatClampNeg)), R)) rfl (if_neg hc_914) ?_
                                refine az_E.sn 1 (pc' := 121) (L' := [.retAddr 0, .retAddr 0, .int v2, .retAddr 0, .int v4, .int v5, .ref 65, .ref 69]) (S' := [.int v5]) (σ' := (97, I, (az_ur J (69 + 1) (va_cpy (J (65 + 1)) (J (69 + 1)) v2.toNatClampNeg v4.toNatClampNeg v5.toNatClampNeg)), R)) rfl ?_
                                have h := Option.some.inj h
                                subst h
                                exact az_E.ret (v := some (.int v5)) (σ' := (97, I, (az_ur J (69 + 1) (va_cpy (J (65 + 1)) (J (69 + 1)) v2.toNatClampNeg v4.toNatClampNeg v5.toNatClampNeg)), R)) rfl hQ
            · rw [if_neg hc_905] at h
              refine az_E.sn 1 (pc' := 20) (L' := [.ref 69, .int (I 65 1)]) (S' := [.int (0 : Int32)]) (σ' := (97, I, J, R)) rfl ?_
              refine az_E.ret (v := some (.int (0 : Int32))) (σ' := (97, I, J, R)) rfl ?_
              show az_E az_F ex 2 128 69 [.retAddr 0, .retAddr 0, .int v2, .retAddr 0, .int v4, .int v5, .ref 65, .ref 69] [.int (0 : Int32)] (97, I, J, R) _
              refine az_E.br (c := (0 : Int32) = 0) (tt := 72) (ff := 75) (L' := [.retAddr 0, .retAddr 0, .int v2, .retAddr 0, .int v4, .int v5, .ref 65, .ref 69]) (S' := []) (σ' := (97, I, J, R)) rfl (fun _ => ?_) (fun hn => absurd (by decide) hn)
              refine az_E.sn 1 (pc' := 74) (L' := [.retAddr 0, .retAddr 0, .int v2, .retAddr 0, .int v4, .int v5, .ref 65, .ref 69]) (S' := [.int (-12 : Int32)]) (σ' := (97, I, J, R)) rfl ?_
              have h := Option.some.inj h
              subst h
              exact az_E.ret (v := some (.int (-12 : Int32))) (σ' := (97, I, J, R)) rfl hQ
    · rw [if_neg hc_901] at h
      refine az_E.sn 1 (pc' := 21) (L' := [.ref 69]) (S' := [.int (0 : Int32)]) (σ' := (97, I, J, R)) rfl ?_
      refine az_E.ret (v := some (.int (0 : Int32))) (σ' := (97, I, J, R)) rfl ?_
      show az_E az_F ex 2 128 45 [.retAddr 0, .retAddr 0, .int v2, .retAddr 0, .int v4, .int v5, .ref 65, .ref 69] [.int (0 : Int32)] (97, I, J, R) _
      refine az_E.br (c := (0 : Int32) = 0) (tt := 51) (ff := 48) (L' := [.retAddr 0, .retAddr 0, .int v2, .retAddr 0, .int v4, .int v5, .ref 65, .ref 69]) (S' := []) (σ' := (97, I, J, R)) rfl (fun _ => ?_) (fun hn => absurd (by decide) hn)
      refine az_E.sn 1 (pc' := 53) (L' := [.retAddr 0, .retAddr 0, .int v2, .retAddr 0, .int v4, .int v5, .ref 65, .ref 69]) (S' := [.ref 65]) (σ' := (97, I, J, R)) rfl ?_
      refine az_E.call (d := 1) (k' := 55) (vs := [.ref 65]) (pc' := 56) (S' := []) rfl ?_ (fun _ _ hq => hq)
      show az_E az_F ex 1 55 0 [.ref 65] [] (97, I, J, R) _
      refine az_E.sn 3 (pc' := 5) (L' := [.ref 65]) (S' := [.int (-1 : Int32), .int (I 65 1)]) (σ' := (97, I, J, R)) rfl ?_
      refine az_E.br (c := (I 65 1) = (-1 : Int32)) (tt := 12) (ff := 8) (L' := [.ref 65]) (S' := []) (σ' := (97, I, J, R)) rfl (fun hc_915 => ?_) (fun hc_915 => ?_)
      · rw [if_pos hc_915] at h
        refine az_E.sn 1 (pc' := 13) (L' := [.ref 65]) (S' := [.int (0 : Int32)]) (σ' := (97, I, J, R)) rfl ?_
        refine az_E.ret (v := some (.int (0 : Int32))) (σ' := (97, I, J, R)) rfl ?_
        show az_E az_F ex 2 128 56 [.retAddr 0, .retAddr 0, .int v2, .retAddr 0, .int v4, .int v5, .ref 65, .ref 69] [.int (0 : Int32)] (97, I, J, R) _
        refine az_E.br (c := (0 : Int32) = 0) (tt := 72) (ff := 59) (L' := [.retAddr 0, .retAddr 0, .int v2, .retAddr 0, .int v4, .int v5, .ref 65, .ref 69]) (S' := []) (σ' := (97, I, J, R)) rfl (fun _ => ?_) (fun hn => absurd (by decide) hn)
        refine az_E.sn 1 (pc' := 74) (L' := [.retAddr 0, .retAddr 0, .int v2, .retAddr 0, .int v4, .int v5, .ref 65, .ref 69]) (S' := [.int (-12 : Int32)]) (σ' := (97, I, J, R)) rfl ?_
        have h := Option.some.inj h
        subst h
        exact az_E.ret (v := some (.int (-12 : Int32))) (σ' := (97, I, J, R)) rfl hQ
      · rw [if_neg hc_915] at h
        refine az_E.sn 2 (pc' := 13) (L' := [.ref 65]) (S' := [.int (1 : Int32)]) (σ' := (97, I, J, R)) rfl ?_
        refine az_E.ret (v := some (.int (1 : Int32))) (σ' := (97, I, J, R)) rfl ?_
        show az_E az_F ex 2 128 56 [.retAddr 0, .retAddr 0, .int v2, .retAddr 0, .int v4, .int v5, .ref 65, .ref 69] [.int (1 : Int32)] (97, I, J, R) _
        refine az_E.br (c := (1 : Int32) = 0) (tt := 72) (ff := 59) (L' := [.retAddr 0, .retAddr 0, .int v2, .retAddr 0, .int v4, .int v5, .ref 65, .ref 69]) (S' := []) (σ' := (97, I, J, R)) rfl (fun hn => absurd hn (by decide)) (fun _ => ?_)
        refine az_E.sn 3 (pc' := 66) (L' := [.retAddr 0, .retAddr 0, .int v2, .retAddr 0, .int v4, .int v5, .ref 65, .ref 69]) (S' := [.int (I 65 1), .ref 69]) (σ' := (97, I, J, R)) rfl ?_
        refine az_E.call (d := 1) (k' := 56) (vs := [.ref 69, .int (I 65 1)]) (pc' := 69) (S' := []) rfl ?_ (fun _ _ hq => hq)
        show az_E az_F ex 1 56 0 [.ref 69, .int (I 65 1)] [] (97, I, J, R) _
        refine az_E.sn 1 (pc' := 1) (L' := [.ref 69, .int (I 65 1)]) (S' := [.ref 69]) (σ' := (97, I, J, R)) rfl ?_
        refine az_E.call (d := 0) (k' := 55) (vs := [.ref 69]) (pc' := 4) (S' := []) rfl ?_ (fun _ _ hq => hq)
        show az_E az_F ex 0 55 0 [.ref 69] [] (97, I, J, R) _
        refine az_E.sn 3 (pc' := 5) (L' := [.ref 69]) (S' := [.int (-1 : Int32), .int (I 69 1)]) (σ' := (97, I, J, R)) rfl ?_
        refine az_E.br (c := (I 69 1) = (-1 : Int32)) (tt := 12) (ff := 8) (L' := [.ref 69]) (S' := []) (σ' := (97, I, J, R)) rfl (fun hc_916 => ?_) (fun hc_916 => ?_)
        · rw [if_pos hc_916] at h
          refine az_E.sn 1 (pc' := 13) (L' := [.ref 69]) (S' := [.int (0 : Int32)]) (σ' := (97, I, J, R)) rfl ?_
          refine az_E.ret (v := some (.int (0 : Int32))) (σ' := (97, I, J, R)) rfl ?_
          show az_E az_F ex 1 56 4 [.ref 69, .int (I 65 1)] [.int (0 : Int32)] (97, I, J, R) _
          refine az_E.br (c := (0 : Int32) = 0) (tt := 19) (ff := 7) (L' := [.ref 69, .int (I 65 1)]) (S' := []) (σ' := (97, I, J, R)) rfl (fun _ => ?_) (fun hn => absurd (by decide) hn)
          refine az_E.sn 1 (pc' := 20) (L' := [.ref 69, .int (I 65 1)]) (S' := [.int (0 : Int32)]) (σ' := (97, I, J, R)) rfl ?_
          refine az_E.ret (v := some (.int (0 : Int32))) (σ' := (97, I, J, R)) rfl ?_
          show az_E az_F ex 2 128 69 [.retAddr 0, .retAddr 0, .int v2, .retAddr 0, .int v4, .int v5, .ref 65, .ref 69] [.int (0 : Int32)] (97, I, J, R) _
          refine az_E.br (c := (0 : Int32) = 0) (tt := 72) (ff := 75) (L' := [.retAddr 0, .retAddr 0, .int v2, .retAddr 0, .int v4, .int v5, .ref 65, .ref 69]) (S' := []) (σ' := (97, I, J, R)) rfl (fun _ => ?_) (fun hn => absurd (by decide) hn)
          refine az_E.sn 1 (pc' := 74) (L' := [.retAddr 0, .retAddr 0, .int v2, .retAddr 0, .int v4, .int v5, .ref 65, .ref 69]) (S' := [.int (-12 : Int32)]) (σ' := (97, I, J, R)) rfl ?_
          have h := Option.some.inj h
          subst h
          exact az_E.ret (v := some (.int (-12 : Int32))) (σ' := (97, I, J, R)) rfl hQ
        · rw [if_neg hc_916] at h
          refine az_E.sn 2 (pc' := 13) (L' := [.ref 69]) (S' := [.int (1 : Int32)]) (σ' := (97, I, J, R)) rfl ?_
          refine az_E.ret (v := some (.int (1 : Int32))) (σ' := (97, I, J, R)) rfl ?_
          show az_E az_F ex 1 56 4 [.ref 69, .int (I 65 1)] [.int (1 : Int32)] (97, I, J, R) _
          refine az_E.br (c := (1 : Int32) = 0) (tt := 19) (ff := 7) (L' := [.ref 69, .int (I 65 1)]) (S' := []) (σ' := (97, I, J, R)) rfl (fun hn => absurd hn (by decide)) (fun _ => ?_)
          refine az_E.sn 3 (pc' := 12) (L' := [.ref 69, .int (I 65 1)]) (S' := [.int (I 65 1), .int (I 69 1)]) (σ' := (97, I, J, R)) rfl ?_
          refine az_E.br (c := (I 69 1) = (I 65 1)) (tt := 15) (ff := 19) (L' := [.ref 69, .int (I 65 1)]) (S' := []) (σ' := (97, I, J, R)) rfl (fun hc_917 => ?_) (fun hc_917 => ?_)
          · rw [if_pos hc_917] at h
            refine az_E.sn 2 (pc' := 20) (L' := [.ref 69, .int (I 65 1)]) (S' := [.int (1 : Int32)]) (σ' := (97, I, J, R)) rfl ?_
            refine az_E.ret (v := some (.int (1 : Int32))) (σ' := (97, I, J, R)) rfl ?_
            show az_E az_F ex 2 128 69 [.retAddr 0, .retAddr 0, .int v2, .retAddr 0, .int v4, .int v5, .ref 65, .ref 69] [.int (1 : Int32)] (97, I, J, R) _
            refine az_E.br (c := (1 : Int32) = 0) (tt := 72) (ff := 75) (L' := [.retAddr 0, .retAddr 0, .int v2, .retAddr 0, .int v4, .int v5, .ref 65, .ref 69]) (S' := []) (σ' := (97, I, J, R)) rfl (fun hn => absurd hn (by decide)) (fun _ => ?_)
            refine az_E.sn 3 (pc' := 80) (L' := [.retAddr 0, .retAddr 0, .int v2, .retAddr 0, .int v4, .int v5, .ref 65, .ref 69]) (S' := [.int v5, .int v2, .ref 65]) (σ' := (97, I, J, R)) rfl ?_
            refine az_E.call (d := 1) (k' := 60) (vs := [.ref 65, .int v2, .int v5]) (pc' := 83) (S' := []) rfl ?_ (fun _ _ hq => hq)
            show az_E az_F ex 1 60 0 [.ref 65, .int v2, .int v5] [] (97, I, J, R) _
            refine az_E.sn 1 (pc' := 1) (L' := [.ref 65, .int v2, .int v5]) (S' := [.int v2]) (σ' := (97, I, J, R)) rfl ?_
            refine az_E.br (c := v2 < 0) (tt := 30) (ff := 4) (L' := [.ref 65, .int v2, .int v5]) (S' := []) (σ' := (97, I, J, R)) rfl (fun hc_918 => ?_) (fun hc_918 => ?_)
            · rw [if_pos hc_918] at h
              refine az_E.sn 1 (pc' := 31) (L' := [.ref 65, .int v2, .int v5]) (S' := [.int (0 : Int32)]) (σ' := (97, I, J, R)) rfl ?_
              refine az_E.ret (v := some (.int (0 : Int32))) (σ' := (97, I, J, R)) rfl ?_
              show az_E az_F ex 2 128 83 [.retAddr 0, .retAddr 0, .int v2, .retAddr 0, .int v4, .int v5, .ref 65, .ref 69] [.int (0 : Int32)] (97, I, J, R) _
              refine az_E.br (c := (0 : Int32) = 0) (tt := 98) (ff := 86) (L' := [.retAddr 0, .retAddr 0, .int v2, .retAddr 0, .int v4, .int v5, .ref 65, .ref 69]) (S' := []) (σ' := (97, I, J, R)) rfl (fun _ => ?_) (fun hn => absurd (by decide) hn)
              refine az_E.sn 1 (pc' := 100) (L' := [.retAddr 0, .retAddr 0, .int v2, .retAddr 0, .int v4, .int v5, .ref 65, .ref 69]) (S' := [.int (-13 : Int32)]) (σ' := (97, I, J, R)) rfl ?_
              have h := Option.some.inj h
              subst h
              exact az_E.ret (v := some (.int (-13 : Int32))) (σ' := (97, I, J, R)) rfl hQ
            · rw [if_neg hc_918] at h
              refine az_E.sn 1 (pc' := 5) (L' := [.ref 65, .int v2, .int v5]) (S' := [.int v5]) (σ' := (97, I, J, R)) rfl ?_
              refine az_E.br (c := v5 < 0) (tt := 30) (ff := 8) (L' := [.ref 65, .int v2, .int v5]) (S' := []) (σ' := (97, I, J, R)) rfl (fun hc_919 => ?_) (fun hc_919 => ?_)
              · rw [if_pos hc_919] at h
                refine az_E.sn 1 (pc' := 31) (L' := [.ref 65, .int v2, .int v5]) (S' := [.int (0 : Int32)]) (σ' := (97, I, J, R)) rfl ?_
                refine az_E.ret (v := some (.int (0 : Int32))) (σ' := (97, I, J, R)) rfl ?_
                show az_E az_F ex 2 128 83 [.retAddr 0, .retAddr 0, .int v2, .retAddr 0, .int v4, .int v5, .ref 65, .ref 69] [.int (0 : Int32)] (97, I, J, R) _
                refine az_E.br (c := (0 : Int32) = 0) (tt := 98) (ff := 86) (L' := [.retAddr 0, .retAddr 0, .int v2, .retAddr 0, .int v4, .int v5, .ref 65, .ref 69]) (S' := []) (σ' := (97, I, J, R)) rfl (fun _ => ?_) (fun hn => absurd (by decide) hn)
                refine az_E.sn 1 (pc' := 100) (L' := [.retAddr 0, .retAddr 0, .int v2, .retAddr 0, .int v4, .int v5, .ref 65, .ref 69]) (S' := [.int (-13 : Int32)]) (σ' := (97, I, J, R)) rfl ?_
                have h := Option.some.inj h
                subst h
                exact az_E.ret (v := some (.int (-13 : Int32))) (σ' := (97, I, J, R)) rfl hQ
              · rw [if_neg hc_919] at h
                refine az_E.sn 3 (pc' := 13) (L' := [.ref 65, .int v2, .int v5]) (S' := [.int (I 65 2), .int v2]) (σ' := (97, I, J, R)) rfl ?_
                refine az_E.br (c := (I 65 2) < v2) (tt := 30) (ff := 16) (L' := [.ref 65, .int v2, .int v5]) (S' := []) (σ' := (97, I, J, R)) rfl (fun hc_920 => ?_) (fun hc_920 => ?_)
                · rw [if_pos hc_920] at h
                  refine az_E.sn 1 (pc' := 31) (L' := [.ref 65, .int v2, .int v5]) (S' := [.int (0 : Int32)]) (σ' := (97, I, J, R)) rfl ?_
                  refine az_E.ret (v := some (.int (0 : Int32))) (σ' := (97, I, J, R)) rfl ?_
                  show az_E az_F ex 2 128 83 [.retAddr 0, .retAddr 0, .int v2, .retAddr 0, .int v4, .int v5, .ref 65, .ref 69] [.int (0 : Int32)] (97, I, J, R) _
                  refine az_E.br (c := (0 : Int32) = 0) (tt := 98) (ff := 86) (L' := [.retAddr 0, .retAddr 0, .int v2, .retAddr 0, .int v4, .int v5, .ref 65, .ref 69]) (S' := []) (σ' := (97, I, J, R)) rfl (fun _ => ?_) (fun hn => absurd (by decide) hn)
                  refine az_E.sn 1 (pc' := 100) (L' := [.retAddr 0, .retAddr 0, .int v2, .retAddr 0, .int v4, .int v5, .ref 65, .ref 69]) (S' := [.int (-13 : Int32)]) (σ' := (97, I, J, R)) rfl ?_
                  have h := Option.some.inj h
                  subst h
                  exact az_E.ret (v := some (.int (-13 : Int32))) (σ' := (97, I, J, R)) rfl hQ
                · rw [if_neg hc_920] at h
                  refine az_E.sn 5 (pc' := 23) (L' := [.ref 65, .int v2, .int v5]) (S' := [.int ((I 65 2) - v2), .int v5]) (σ' := (97, I, J, R)) rfl ?_
                  refine az_E.br (c := ((I 65 2) - v2) < v5) (tt := 30) (ff := 26) (L' := [.ref 65, .int v2, .int v5]) (S' := []) (σ' := (97, I, J, R)) rfl (fun hc_921 => ?_) (fun hc_921 => ?_)
                  · rw [if_pos hc_921] at h
                    refine az_E.sn 1 (pc' := 31) (L' := [.ref 65, .int v2, .int v5]) (S' := [.int (0 : Int32)]) (σ' := (97, I, J, R)) rfl ?_
                    refine az_E.ret (v := some (.int (0 : Int32))) (σ' := (97, I, J, R)) rfl ?_
                    show az_E az_F ex 2 128 83 [.retAddr 0, .retAddr 0, .int v2, .retAddr 0, .int v4, .int v5, .ref 65, .ref 69] [.int (0 : Int32)] (97, I, J, R) _
                    refine az_E.br (c := (0 : Int32) = 0) (tt := 98) (ff := 86) (L' := [.retAddr 0, .retAddr 0, .int v2, .retAddr 0, .int v4, .int v5, .ref 65, .ref 69]) (S' := []) (σ' := (97, I, J, R)) rfl (fun _ => ?_) (fun hn => absurd (by decide) hn)
                    refine az_E.sn 1 (pc' := 100) (L' := [.retAddr 0, .retAddr 0, .int v2, .retAddr 0, .int v4, .int v5, .ref 65, .ref 69]) (S' := [.int (-13 : Int32)]) (σ' := (97, I, J, R)) rfl ?_
                    have h := Option.some.inj h
                    subst h
                    exact az_E.ret (v := some (.int (-13 : Int32))) (σ' := (97, I, J, R)) rfl hQ
                  · rw [if_neg hc_921] at h
                    refine az_E.sn 2 (pc' := 31) (L' := [.ref 65, .int v2, .int v5]) (S' := [.int (1 : Int32)]) (σ' := (97, I, J, R)) rfl ?_
                    refine az_E.ret (v := some (.int (1 : Int32))) (σ' := (97, I, J, R)) rfl ?_
                    show az_E az_F ex 2 128 83 [.retAddr 0, .retAddr 0, .int v2, .retAddr 0, .int v4, .int v5, .ref 65, .ref 69] [.int (1 : Int32)] (97, I, J, R) _
                    refine az_E.br (c := (1 : Int32) = 0) (tt := 98) (ff := 86) (L' := [.retAddr 0, .retAddr 0, .int v2, .retAddr 0, .int v4, .int v5, .ref 65, .ref 69]) (S' := []) (σ' := (97, I, J, R)) rfl (fun hn => absurd hn (by decide)) (fun _ => ?_)
                    refine az_E.sn 3 (pc' := 92) (L' := [.retAddr 0, .retAddr 0, .int v2, .retAddr 0, .int v4, .int v5, .ref 65, .ref 69]) (S' := [.int v5, .int v4, .ref 69]) (σ' := (97, I, J, R)) rfl ?_
                    refine az_E.call (d := 1) (k' := 60) (vs := [.ref 69, .int v4, .int v5]) (pc' := 95) (S' := []) rfl ?_ (fun _ _ hq => hq)
                    show az_E az_F ex 1 60 0 [.ref 69, .int v4, .int v5] [] (97, I, J, R) _
                    refine az_E.sn 1 (pc' := 1) (L' := [.ref 69, .int v4, .int v5]) (S' := [.int v4]) (σ' := (97, I, J, R)) rfl ?_
                    refine az_E.br (c := v4 < 0) (tt := 30) (ff := 4) (L' := [.ref 69, .int v4, .int v5]) (S' := []) (σ' := (97, I, J, R)) rfl (fun hc_922 => ?_) (fun hc_922 => ?_)
                    · rw [if_pos hc_922] at h
                      refine az_E.sn 1 (pc' := 31) (L' := [.ref 69, .int v4, .int v5]) (S' := [.int (0 : Int32)]) (σ' := (97, I, J, R)) rfl ?_
                      refine az_E.ret (v := some (.int (0 : Int32))) (σ' := (97, I, J, R)) rfl ?_
                      show az_E az_F ex 2 128 95 [.retAddr 0, .retAddr 0, .int v2, .retAddr 0, .int v4, .int v5, .ref 65, .ref 69] [.int (0 : Int32)] (97, I, J, R) _
                      refine az_E.br (c := (0 : Int32) = 0) (tt := 98) (ff := 101) (L' := [.retAddr 0, .retAddr 0, .int v2, .retAddr 0, .int v4, .int v5, .ref 65, .ref 69]) (S' := []) (σ' := (97, I, J, R)) rfl (fun _ => ?_) (fun hn => absurd (by decide) hn)
                      refine az_E.sn 1 (pc' := 100) (L' := [.retAddr 0, .retAddr 0, .int v2, .retAddr 0, .int v4, .int v5, .ref 65, .ref 69]) (S' := [.int (-13 : Int32)]) (σ' := (97, I, J, R)) rfl ?_
                      have h := Option.some.inj h
                      subst h
                      exact az_E.ret (v := some (.int (-13 : Int32))) (σ' := (97, I, J, R)) rfl hQ
                    · rw [if_neg hc_922] at h
                      refine az_E.sn 1 (pc' := 5) (L' := [.ref 69, .int v4, .int v5]) (S' := [.int v5]) (σ' := (97, I, J, R)) rfl ?_
                      refine az_E.br (c := v5 < 0) (tt := 30) (ff := 8) (L' := [.ref 69, .int v4, .int v5]) (S' := []) (σ' := (97, I, J, R)) rfl (fun hc_923 => ?_) (fun hc_923 => ?_)
                      · rw [if_pos hc_923] at h
                        refine az_E.sn 1 (pc' := 31) (L' := [.ref 69, .int v4, .int v5]) (S' := [.int (0 : Int32)]) (σ' := (97, I, J, R)) rfl ?_
                        refine az_E.ret (v := some (.int (0 : Int32))) (σ' := (97, I, J, R)) rfl ?_
                        show az_E az_F ex 2 128 95 [.retAddr 0, .retAddr 0, .int v2, .retAddr 0, .int v4, .int v5, .ref 65, .ref 69] [.int (0 : Int32)] (97, I, J, R) _
                        refine az_E.br (c := (0 : Int32) = 0) (tt := 98) (ff := 101) (L' := [.retAddr 0, .retAddr 0, .int v2, .retAddr 0, .int v4, .int v5, .ref 65, .ref 69]) (S' := []) (σ' := (97, I, J, R)) rfl (fun _ => ?_) (fun hn => absurd (by decide) hn)
                        refine az_E.sn 1 (pc' := 100) (L' := [.retAddr 0, .retAddr 0, .int v2, .retAddr 0, .int v4, .int v5, .ref 65, .ref 69]) (S' := [.int (-13 : Int32)]) (σ' := (97, I, J, R)) rfl ?_
                        have h := Option.some.inj h
                        subst h
                        exact az_E.ret (v := some (.int (-13 : Int32))) (σ' := (97, I, J, R)) rfl hQ
                      · rw [if_neg hc_923] at h
                        refine az_E.sn 3 (pc' := 13) (L' := [.ref 69, .int v4, .int v5]) (S' := [.int (I 69 2), .int v4]) (σ' := (97, I, J, R)) rfl ?_
                        refine az_E.br (c := (I 69 2) < v4) (tt := 30) (ff := 16) (L' := [.ref 69, .int v4, .int v5]) (S' := []) (σ' := (97, I, J, R)) rfl (fun hc_924 => ?_) (fun hc_924 => ?_)
                        · rw [if_pos hc_924] at h
                          refine az_E.sn 1 (pc' := 31) (L' := [.ref 69, .int v4, .int v5]) (S' := [.int (0 : Int32)]) (σ' := (97, I, J, R)) rfl ?_
                          refine az_E.ret (v := some (.int (0 : Int32))) (σ' := (97, I, J, R)) rfl ?_
                          show az_E az_F ex 2 128 95 [.retAddr 0, .retAddr 0, .int v2, .retAddr 0, .int v4, .int v5, .ref 65, .ref 69] [.int (0 : Int32)] (97, I, J, R) _
                          refine az_E.br (c := (0 : Int32) = 0) (tt := 98) (ff := 101) (L' := [.retAddr 0, .retAddr 0, .int v2, .retAddr 0, .int v4, .int v5, .ref 65, .ref 69]) (S' := []) (σ' := (97, I, J, R)) rfl (fun _ => ?_) (fun hn => absurd (by decide) hn)
                          refine az_E.sn 1 (pc' := 100) (L' := [.retAddr 0, .retAddr 0, .int v2, .retAddr 0, .int v4, .int v5, .ref 65, .ref 69]) (S' := [.int (-13 : Int32)]) (σ' := (97, I, J, R)) rfl ?_
                          have h := Option.some.inj h
                          subst h
                          exact az_E.ret (v := some (.int (-13 : Int32))) (σ' := (97, I, J, R)) rfl hQ
                        · rw [if_neg hc_924] at h
                          refine az_E.sn 5 (pc' := 23) (L' := [.ref 69, .int v4, .int v5]) (S' := [.int ((I 69 2) - v4), .int v5]) (σ' := (97, I, J, R)) rfl ?_
                          refine az_E.br (c := ((I 69 2) - v4) < v5) (tt := 30) (ff := 26) (L' := [.ref 69, .int v4, .int v5]) (S' := []) (σ' := (97, I, J, R)) rfl (fun hc_925 => ?_) (fun hc_925 => ?_)
                          · rw [if_pos hc_925] at h
                            refine az_E.sn 1 (pc' := 31) (L' := [.ref 69, .int v4, .int v5]) (S' := [.int (0 : Int32)]) (σ' := (97, I, J, R)) rfl ?_
                            refine az_E.ret (v := some (.int (0 : Int32))) (σ' := (97, I, J, R)) rfl ?_
                            show az_E az_F ex 2 128 95 [.retAddr 0, .retAddr 0, .int v2, .retAddr 0, .int v4, .int v5, .ref 65, .ref 69] [.int (0 : Int32)] (97, I, J, R) _
                            refine az_E.br (c := (0 : Int32) = 0) (tt := 98) (ff := 101) (L' := [.retAddr 0, .retAddr 0, .int v2, .retAddr 0, .int v4, .int v5, .ref 65, .ref 69]) (S' := []) (σ' := (97, I, J, R)) rfl (fun _ => ?_) (fun hn => absurd (by decide) hn)
                            refine az_E.sn 1 (pc' := 100) (L' := [.retAddr 0, .retAddr 0, .int v2, .retAddr 0, .int v4, .int v5, .ref 65, .ref 69]) (S' := [.int (-13 : Int32)]) (σ' := (97, I, J, R)) rfl ?_
                            have h := Option.some.inj h
                            subst h
                            exact az_E.ret (v := some (.int (-13 : Int32))) (σ' := (97, I, J, R)) rfl hQ
                          · rw [if_neg hc_925] at h
                            refine az_E.sn 2 (pc' := 31) (L' := [.ref 69, .int v4, .int v5]) (S' := [.int (1 : Int32)]) (σ' := (97, I, J, R)) rfl ?_
                            refine az_E.ret (v := some (.int (1 : Int32))) (σ' := (97, I, J, R)) rfl ?_
                            show az_E az_F ex 2 128 95 [.retAddr 0, .retAddr 0, .int v2, .retAddr 0, .int v4, .int v5, .ref 65, .ref 69] [.int (1 : Int32)] (97, I, J, R) _
                            refine az_E.br (c := (1 : Int32) = 0) (tt := 98) (ff := 101) (L' := [.retAddr 0, .retAddr 0, .int v2, .retAddr 0, .int v4, .int v5, .ref 65, .ref 69]) (S' := []) (σ' := (97, I, J, R)) rfl (fun hn => absurd hn (by decide)) (fun _ => ?_)
                            refine az_E.sn 7 (pc' := 116) (L' := [.retAddr 0, .retAddr 0, .int v2, .retAddr 0, .int v4, .int v5, .ref 65, .ref 69]) (S' := [.int v5, .int v4, .ref (69 + 1), .int v2, .ref (65 + 1)]) (σ' := (97, I, J, R)) rfl ?_
                            by_cases hc_926 : v2 < 0 ∨ v4 < 0 ∨ v5 < 0 ∨ 60 < v2.toNatClampNeg + v5.toNatClampNeg ∨ 60 < v4.toNatClampNeg + v5.toNatClampNeg
                            · rw [if_pos hc_926] at h; cases h
                            · rw [if_neg hc_926] at h
                              refine az_E.o (o := az_cp az_F (97, I, J, R) (65 + 1) v2 (69 + 1) v4 v5) (pc' := 119) (L' := [.retAddr 0, .retAddr 0, .int v2, .retAddr 0, .int v4, .int v5, .ref 65, .ref 69]) (S' := []) (x := (97, I, (az_ur J (69 + 1) (va_cpy (J (65 + 1)) (J (69 + 1)) v2.toNatClampNeg v4.toNatClampNeg v5.toNatClampNeg)), R)) rfl (if_neg hc_926) ?_
                              refine az_E.sn 1 (pc' := 121) (L' := [.retAddr 0, .retAddr 0, .int v2, .retAddr 0, .int v4, .int v5, .ref 65, .ref 69]) (S' := [.int v5]) (σ' := (97, I, (az_ur J (69 + 1) (va_cpy (J (65 + 1)) (J (69 + 1)) v2.toNatClampNeg v4.toNatClampNeg v5.toNatClampNeg)), R)) rfl ?_
                              have h := Option.some.inj h
                              subst h
                              exact az_E.ret (v := some (.int v5)) (σ' := (97, I, (az_ur J (69 + 1) (va_cpy (J (65 + 1)) (J (69 + 1)) v2.toNatClampNeg v4.toNatClampNeg v5.toNatClampNeg)), R)) rfl hQ
          · rw [if_neg hc_917] at h
            refine az_E.sn 1 (pc' := 20) (L' := [.ref 69, .int (I 65 1)]) (S' := [.int (0 : Int32)]) (σ' := (97, I, J, R)) rfl ?_
            refine az_E.ret (v := some (.int (0 : Int32))) (σ' := (97, I, J, R)) rfl ?_
            show az_E az_F ex 2 128 69 [.retAddr 0, .retAddr 0, .int v2, .retAddr 0, .int v4, .int v5, .ref 65, .ref 69] [.int (0 : Int32)] (97, I, J, R) _
            refine az_E.br (c := (0 : Int32) = 0) (tt := 72) (ff := 75) (L' := [.retAddr 0, .retAddr 0, .int v2, .retAddr 0, .int v4, .int v5, .ref 65, .ref 69]) (S' := []) (σ' := (97, I, J, R)) rfl (fun _ => ?_) (fun hn => absurd (by decide) hn)
            refine az_E.sn 1 (pc' := 74) (L' := [.retAddr 0, .retAddr 0, .int v2, .retAddr 0, .int v4, .int v5, .ref 65, .ref 69]) (S' := [.int (-12 : Int32)]) (σ' := (97, I, J, R)) rfl ?_
            have h := Option.some.inj h
            subst h
            exact az_E.ret (v := some (.int (-12 : Int32))) (σ' := (97, I, J, R)) rfl hQ
set_option maxRecDepth 100000 in
set_option maxHeartbeats 4000000 in
theorem re_X_shift_30_65_71 {ex : az_X} {I : Nat → Nat → Int32} {J : Nat → Nat → Int64} {R : Nat → Nat → Option Nat} {v2 : Int32} {v4 : Int32} {v5 : Int32} {x : Int32 × (Nat → Nat → Int64)} (h : rs_X_shift_30 65 71 I J v2 v4 v5 = some x) {Q : Option Value → az_S → Prop} (hQ : Q (some (.int x.1)) (97, I, x.2, R)) : az_E az_F ex 2 128 30 [.retAddr 0, .retAddr 0, .int v2, .retAddr 0, .int v4, .int v5, .ref 65, .retAddr 0] [.ref 71] (97, I, J, R) Q := by
  unfold rs_X_shift_30 at h
  refine az_E.sn 2 (pc' := 34) (L' := [.retAddr 0, .retAddr 0, .int v2, .retAddr 0, .int v4, .int v5, .ref 65, .ref 71]) (S' := [.ref 65]) (σ' := (97, I, J, R)) rfl ?_
  refine az_E.call (d := 1) (k' := 54) (vs := [.ref 65]) (pc' := 37) (S' := []) rfl ?_ (fun _ _ hq => hq)
  show az_E az_F ex 1 54 0 [.ref 65] [] (97, I, J, R) _
  refine az_E.sn 3 (pc' := 5) (L' := [.ref 65]) (S' := [.int (-1 : Int32), .int (I 65 0)]) (σ' := (97, I, J, R)) rfl ?_
  refine az_E.br (c := (I 65 0) = (-1 : Int32)) (tt := 8) (ff := 20) (L' := [.ref 65]) (S' := []) (σ' := (97, I, J, R)) rfl (fun hc_927 => ?_) (fun hc_927 => ?_)
  · rw [if_pos hc_927] at h
    refine az_E.sn 3 (pc' := 13) (L' := [.ref 65]) (S' := [.int (-1 : Int32), .int (I 65 1)]) (σ' := (97, I, J, R)) rfl ?_
    refine az_E.br (c := (I 65 1) = (-1 : Int32)) (tt := 16) (ff := 20) (L' := [.ref 65]) (S' := []) (σ' := (97, I, J, R)) rfl (fun hc_928 => ?_) (fun hc_928 => ?_)
    · rw [if_pos hc_928] at h
      refine az_E.sn 2 (pc' := 21) (L' := [.ref 65]) (S' := [.int (1 : Int32)]) (σ' := (97, I, J, R)) rfl ?_
      refine az_E.ret (v := some (.int (1 : Int32))) (σ' := (97, I, J, R)) rfl ?_
      show az_E az_F ex 2 128 37 [.retAddr 0, .retAddr 0, .int v2, .retAddr 0, .int v4, .int v5, .ref 65, .ref 71] [.int (1 : Int32)] (97, I, J, R) _
      refine az_E.br (c := (1 : Int32) = 0) (tt := 40) (ff := 48) (L' := [.retAddr 0, .retAddr 0, .int v2, .retAddr 0, .int v4, .int v5, .ref 65, .ref 71]) (S' := []) (σ' := (97, I, J, R)) rfl (fun hn => absurd hn (by decide)) (fun _ => ?_)
      refine az_E.sn 1 (pc' := 50) (L' := [.retAddr 0, .retAddr 0, .int v2, .retAddr 0, .int v4, .int v5, .ref 65, .ref 71]) (S' := [.int (-11 : Int32)]) (σ' := (97, I, J, R)) rfl ?_
      have h := Option.some.inj h
      subst h
      exact az_E.ret (v := some (.int (-11 : Int32))) (σ' := (97, I, J, R)) rfl hQ
    · rw [if_neg hc_928] at h
      refine az_E.sn 1 (pc' := 21) (L' := [.ref 65]) (S' := [.int (0 : Int32)]) (σ' := (97, I, J, R)) rfl ?_
      refine az_E.ret (v := some (.int (0 : Int32))) (σ' := (97, I, J, R)) rfl ?_
      show az_E az_F ex 2 128 37 [.retAddr 0, .retAddr 0, .int v2, .retAddr 0, .int v4, .int v5, .ref 65, .ref 71] [.int (0 : Int32)] (97, I, J, R) _
      refine az_E.br (c := (0 : Int32) = 0) (tt := 40) (ff := 48) (L' := [.retAddr 0, .retAddr 0, .int v2, .retAddr 0, .int v4, .int v5, .ref 65, .ref 71]) (S' := []) (σ' := (97, I, J, R)) rfl (fun _ => ?_) (fun hn => absurd (by decide) hn)
      refine az_E.sn 1 (pc' := 42) (L' := [.retAddr 0, .retAddr 0, .int v2, .retAddr 0, .int v4, .int v5, .ref 65, .ref 71]) (S' := [.ref 71]) (σ' := (97, I, J, R)) rfl ?_
      refine az_E.call (d := 1) (k' := 54) (vs := [.ref 71]) (pc' := 45) (S' := []) rfl ?_ (fun _ _ hq => hq)
      show az_E az_F ex 1 54 0 [.ref 71] [] (97, I, J, R) _
      refine az_E.sn 3 (pc' := 5) (L' := [.ref 71]) (S' := [.int (-1 : Int32), .int (I 71 0)]) (σ' := (97, I, J, R)) rfl ?_
      refine az_E.br (c := (I 71 0) = (-1 : Int32)) (tt := 8) (ff := 20) (L' := [.ref 71]) (S' := []) (σ' := (97, I, J, R)) rfl (fun hc_929 => ?_) (fun hc_929 => ?_)
      · rw [if_pos hc_929] at h
        refine az_E.sn 3 (pc' := 13) (L' := [.ref 71]) (S' := [.int (-1 : Int32), .int (I 71 1)]) (σ' := (97, I, J, R)) rfl ?_
        refine az_E.br (c := (I 71 1) = (-1 : Int32)) (tt := 16) (ff := 20) (L' := [.ref 71]) (S' := []) (σ' := (97, I, J, R)) rfl (fun hc_930 => ?_) (fun hc_930 => ?_)
        · rw [if_pos hc_930] at h
          refine az_E.sn 2 (pc' := 21) (L' := [.ref 71]) (S' := [.int (1 : Int32)]) (σ' := (97, I, J, R)) rfl ?_
          refine az_E.ret (v := some (.int (1 : Int32))) (σ' := (97, I, J, R)) rfl ?_
          show az_E az_F ex 2 128 45 [.retAddr 0, .retAddr 0, .int v2, .retAddr 0, .int v4, .int v5, .ref 65, .ref 71] [.int (1 : Int32)] (97, I, J, R) _
          refine az_E.br (c := (1 : Int32) = 0) (tt := 51) (ff := 48) (L' := [.retAddr 0, .retAddr 0, .int v2, .retAddr 0, .int v4, .int v5, .ref 65, .ref 71]) (S' := []) (σ' := (97, I, J, R)) rfl (fun hn => absurd hn (by decide)) (fun _ => ?_)
          refine az_E.sn 1 (pc' := 50) (L' := [.retAddr 0, .retAddr 0, .int v2, .retAddr 0, .int v4, .int v5, .ref 65, .ref 71]) (S' := [.int (-11 : Int32)]) (σ' := (97, I, J, R)) rfl ?_
          have h := Option.some.inj h
          subst h
          exact az_E.ret (v := some (.int (-11 : Int32))) (σ' := (97, I, J, R)) rfl hQ
        · rw [if_neg hc_930] at h
          refine az_E.sn 1 (pc' := 21) (L' := [.ref 71]) (S' := [.int (0 : Int32)]) (σ' := (97, I, J, R)) rfl ?_
          refine az_E.ret (v := some (.int (0 : Int32))) (σ' := (97, I, J, R)) rfl ?_
          show az_E az_F ex 2 128 45 [.retAddr 0, .retAddr 0, .int v2, .retAddr 0, .int v4, .int v5, .ref 65, .ref 71] [.int (0 : Int32)] (97, I, J, R) _
          refine az_E.br (c := (0 : Int32) = 0) (tt := 51) (ff := 48) (L' := [.retAddr 0, .retAddr 0, .int v2, .retAddr 0, .int v4, .int v5, .ref 65, .ref 71]) (S' := []) (σ' := (97, I, J, R)) rfl (fun _ => ?_) (fun hn => absurd (by decide) hn)
          refine az_E.sn 1 (pc' := 53) (L' := [.retAddr 0, .retAddr 0, .int v2, .retAddr 0, .int v4, .int v5, .ref 65, .ref 71]) (S' := [.ref 65]) (σ' := (97, I, J, R)) rfl ?_
          refine az_E.call (d := 1) (k' := 55) (vs := [.ref 65]) (pc' := 56) (S' := []) rfl ?_ (fun _ _ hq => hq)
          show az_E az_F ex 1 55 0 [.ref 65] [] (97, I, J, R) _
          refine az_E.sn 3 (pc' := 5) (L' := [.ref 65]) (S' := [.int (-1 : Int32), .int (I 65 1)]) (σ' := (97, I, J, R)) rfl ?_
          refine az_E.br (c := (I 65 1) = (-1 : Int32)) (tt := 12) (ff := 8) (L' := [.ref 65]) (S' := []) (σ' := (97, I, J, R)) rfl (fun hc_931 => ?_) (fun hc_931 => ?_)
          · rw [if_pos hc_931] at h
            refine az_E.sn 1 (pc' := 13) (L' := [.ref 65]) (S' := [.int (0 : Int32)]) (σ' := (97, I, J, R)) rfl ?_
            refine az_E.ret (v := some (.int (0 : Int32))) (σ' := (97, I, J, R)) rfl ?_
            show az_E az_F ex 2 128 56 [.retAddr 0, .retAddr 0, .int v2, .retAddr 0, .int v4, .int v5, .ref 65, .ref 71] [.int (0 : Int32)] (97, I, J, R) _
            refine az_E.br (c := (0 : Int32) = 0) (tt := 72) (ff := 59) (L' := [.retAddr 0, .retAddr 0, .int v2, .retAddr 0, .int v4, .int v5, .ref 65, .ref 71]) (S' := []) (σ' := (97, I, J, R)) rfl (fun _ => ?_) (fun hn => absurd (by decide) hn)
            refine az_E.sn 1 (pc' := 74) (L' := [.retAddr 0, .retAddr 0, .int v2, .retAddr 0, .int v4, .int v5, .ref 65, .ref 71]) (S' := [.int (-12 : Int32)]) (σ' := (97, I, J, R)) rfl ?_
            have h := Option.some.inj h
            subst h
            exact az_E.ret (v := some (.int (-12 : Int32))) (σ' := (97, I, J, R)) rfl hQ
          · rw [if_neg hc_931] at h
            refine az_E.sn 2 (pc' := 13) (L' := [.ref 65]) (S' := [.int (1 : Int32)]) (σ' := (97, I, J, R)) rfl ?_
            refine az_E.ret (v := some (.int (1 : Int32))) (σ' := (97, I, J, R)) rfl ?_
            show az_E az_F ex 2 128 56 [.retAddr 0, .retAddr 0, .int v2, .retAddr 0, .int v4, .int v5, .ref 65, .ref 71] [.int (1 : Int32)] (97, I, J, R) _
            refine az_E.br (c := (1 : Int32) = 0) (tt := 72) (ff := 59) (L' := [.retAddr 0, .retAddr 0, .int v2, .retAddr 0, .int v4, .int v5, .ref 65, .ref 71]) (S' := []) (σ' := (97, I, J, R)) rfl (fun hn => absurd hn (by decide)) (fun _ => ?_)
            refine az_E.sn 3 (pc' := 66) (L' := [.retAddr 0, .retAddr 0, .int v2, .retAddr 0, .int v4, .int v5, .ref 65, .ref 71]) (S' := [.int (I 65 1), .ref 71]) (σ' := (97, I, J, R)) rfl ?_
            refine az_E.call (d := 1) (k' := 56) (vs := [.ref 71, .int (I 65 1)]) (pc' := 69) (S' := []) rfl ?_ (fun _ _ hq => hq)
            show az_E az_F ex 1 56 0 [.ref 71, .int (I 65 1)] [] (97, I, J, R) _
            refine az_E.sn 1 (pc' := 1) (L' := [.ref 71, .int (I 65 1)]) (S' := [.ref 71]) (σ' := (97, I, J, R)) rfl ?_
            refine az_E.call (d := 0) (k' := 55) (vs := [.ref 71]) (pc' := 4) (S' := []) rfl ?_ (fun _ _ hq => hq)
            show az_E az_F ex 0 55 0 [.ref 71] [] (97, I, J, R) _
            refine az_E.sn 3 (pc' := 5) (L' := [.ref 71]) (S' := [.int (-1 : Int32), .int (I 71 1)]) (σ' := (97, I, J, R)) rfl ?_
            refine az_E.br (c := (I 71 1) = (-1 : Int32)) (tt := 12) (ff := 8) (L' := [.ref 71]) (S' := []) (σ' := (97, I, J, R)) rfl (fun hc_932 => ?_) (fun hc_932 => ?_)
            · rw [if_pos hc_932] at h
              refine az_E.sn 1 (pc' := 13) (L' := [.ref 71]) (S' := [.int (0 : Int32)]) (σ' := (97, I, J, R)) rfl ?_
              refine az_E.ret (v := some (.int (0 : Int32))) (σ' := (97, I, J, R)) rfl ?_
              show az_E az_F ex 1 56 4 [.ref 71, .int (I 65 1)] [.int (0 : Int32)] (97, I, J, R) _
              refine az_E.br (c := (0 : Int32) = 0) (tt := 19) (ff := 7) (L' := [.ref 71, .int (I 65 1)]) (S' := []) (σ' := (97, I, J, R)) rfl (fun _ => ?_) (fun hn => absurd (by decide) hn)
              refine az_E.sn 1 (pc' := 20) (L' := [.ref 71, .int (I 65 1)]) (S' := [.int (0 : Int32)]) (σ' := (97, I, J, R)) rfl ?_
              refine az_E.ret (v := some (.int (0 : Int32))) (σ' := (97, I, J, R)) rfl ?_
              show az_E az_F ex 2 128 69 [.retAddr 0, .retAddr 0, .int v2, .retAddr 0, .int v4, .int v5, .ref 65, .ref 71] [.int (0 : Int32)] (97, I, J, R) _
              refine az_E.br (c := (0 : Int32) = 0) (tt := 72) (ff := 75) (L' := [.retAddr 0, .retAddr 0, .int v2, .retAddr 0, .int v4, .int v5, .ref 65, .ref 71]) (S' := []) (σ' := (97, I, J, R)) rfl (fun _ => ?_) (fun hn => absurd (by decide) hn)
              refine az_E.sn 1 (pc' := 74) (L' := [.retAddr 0, .retAddr 0, .int v2, .retAddr 0, .int v4, .int v5, .ref 65, .ref 71]) (S' := [.int (-12 : Int32)]) (σ' := (97, I, J, R)) rfl ?_
              have h := Option.some.inj h
              subst h
              exact az_E.ret (v := some (.int (-12 : Int32))) (σ' := (97, I, J, R)) rfl hQ
            · rw [if_neg hc_932] at h
              refine az_E.sn 2 (pc' := 13) (L' := [.ref 71]) (S' := [.int (1 : Int32)]) (σ' := (97, I, J, R)) rfl ?_
              refine az_E.ret (v := some (.int (1 : Int32))) (σ' := (97, I, J, R)) rfl ?_
              show az_E az_F ex 1 56 4 [.ref 71, .int (I 65 1)] [.int (1 : Int32)] (97, I, J, R) _
              refine az_E.br (c := (1 : Int32) = 0) (tt := 19) (ff := 7) (L' := [.ref 71, .int (I 65 1)]) (S' := []) (σ' := (97, I, J, R)) rfl (fun hn => absurd hn (by decide)) (fun _ => ?_)
              refine az_E.sn 3 (pc' := 12) (L' := [.ref 71, .int (I 65 1)]) (S' := [.int (I 65 1), .int (I 71 1)]) (σ' := (97, I, J, R)) rfl ?_
              refine az_E.br (c := (I 71 1) = (I 65 1)) (tt := 15) (ff := 19) (L' := [.ref 71, .int (I 65 1)]) (S' := []) (σ' := (97, I, J, R)) rfl (fun hc_933 => ?_) (fun hc_933 => ?_)
              · rw [if_pos hc_933] at h
                refine az_E.sn 2 (pc' := 20) (L' := [.ref 71, .int (I 65 1)]) (S' := [.int (1 : Int32)]) (σ' := (97, I, J, R)) rfl ?_
                refine az_E.ret (v := some (.int (1 : Int32))) (σ' := (97, I, J, R)) rfl ?_
                show az_E az_F ex 2 128 69 [.retAddr 0, .retAddr 0, .int v2, .retAddr 0, .int v4, .int v5, .ref 65, .ref 71] [.int (1 : Int32)] (97, I, J, R) _
                refine az_E.br (c := (1 : Int32) = 0) (tt := 72) (ff := 75) (L' := [.retAddr 0, .retAddr 0, .int v2, .retAddr 0, .int v4, .int v5, .ref 65, .ref 71]) (S' := []) (σ' := (97, I, J, R)) rfl (fun hn => absurd hn (by decide)) (fun _ => ?_)
                refine az_E.sn 3 (pc' := 80) (L' := [.retAddr 0, .retAddr 0, .int v2, .retAddr 0, .int v4, .int v5, .ref 65, .ref 71]) (S' := [.int v5, .int v2, .ref 65]) (σ' := (97, I, J, R)) rfl ?_
                refine az_E.call (d := 1) (k' := 60) (vs := [.ref 65, .int v2, .int v5]) (pc' := 83) (S' := []) rfl ?_ (fun _ _ hq => hq)
                show az_E az_F ex 1 60 0 [.ref 65, .int v2, .int v5] [] (97, I, J, R) _
                refine az_E.sn 1 (pc' := 1) (L' := [.ref 65, .int v2, .int v5]) (S' := [.int v2]) (σ' := (97, I, J, R)) rfl ?_
                refine az_E.br (c := v2 < 0) (tt := 30) (ff := 4) (L' := [.ref 65, .int v2, .int v5]) (S' := []) (σ' := (97, I, J, R)) rfl (fun hc_934 => ?_) (fun hc_934 => ?_)
                · rw [if_pos hc_934] at h
                  refine az_E.sn 1 (pc' := 31) (L' := [.ref 65, .int v2, .int v5]) (S' := [.int (0 : Int32)]) (σ' := (97, I, J, R)) rfl ?_
                  refine az_E.ret (v := some (.int (0 : Int32))) (σ' := (97, I, J, R)) rfl ?_
                  show az_E az_F ex 2 128 83 [.retAddr 0, .retAddr 0, .int v2, .retAddr 0, .int v4, .int v5, .ref 65, .ref 71] [.int (0 : Int32)] (97, I, J, R) _
                  refine az_E.br (c := (0 : Int32) = 0) (tt := 98) (ff := 86) (L' := [.retAddr 0, .retAddr 0, .int v2, .retAddr 0, .int v4, .int v5, .ref 65, .ref 71]) (S' := []) (σ' := (97, I, J, R)) rfl (fun _ => ?_) (fun hn => absurd (by decide) hn)
                  refine az_E.sn 1 (pc' := 100) (L' := [.retAddr 0, .retAddr 0, .int v2, .retAddr 0, .int v4, .int v5, .ref 65, .ref 71]) (S' := [.int (-13 : Int32)]) (σ' := (97, I, J, R)) rfl ?_
                  have h := Option.some.inj h
                  subst h
                  exact az_E.ret (v := some (.int (-13 : Int32))) (σ' := (97, I, J, R)) rfl hQ
                · rw [if_neg hc_934] at h
                  refine az_E.sn 1 (pc' := 5) (L' := [.ref 65, .int v2, .int v5]) (S' := [.int v5]) (σ' := (97, I, J, R)) rfl ?_
                  refine az_E.br (c := v5 < 0) (tt := 30) (ff := 8) (L' := [.ref 65, .int v2, .int v5]) (S' := []) (σ' := (97, I, J, R)) rfl (fun hc_935 => ?_) (fun hc_935 => ?_)
                  · rw [if_pos hc_935] at h
                    refine az_E.sn 1 (pc' := 31) (L' := [.ref 65, .int v2, .int v5]) (S' := [.int (0 : Int32)]) (σ' := (97, I, J, R)) rfl ?_
                    refine az_E.ret (v := some (.int (0 : Int32))) (σ' := (97, I, J, R)) rfl ?_
                    show az_E az_F ex 2 128 83 [.retAddr 0, .retAddr 0, .int v2, .retAddr 0, .int v4, .int v5, .ref 65, .ref 71] [.int (0 : Int32)] (97, I, J, R) _
                    refine az_E.br (c := (0 : Int32) = 0) (tt := 98) (ff := 86) (L' := [.retAddr 0, .retAddr 0, .int v2, .retAddr 0, .int v4, .int v5, .ref 65, .ref 71]) (S' := []) (σ' := (97, I, J, R)) rfl (fun _ => ?_) (fun hn => absurd (by decide) hn)
                    refine az_E.sn 1 (pc' := 100) (L' := [.retAddr 0, .retAddr 0, .int v2, .retAddr 0, .int v4, .int v5, .ref 65, .ref 71]) (S' := [.int (-13 : Int32)]) (σ' := (97, I, J, R)) rfl ?_
                    have h := Option.some.inj h
                    subst h
                    exact az_E.ret (v := some (.int (-13 : Int32))) (σ' := (97, I, J, R)) rfl hQ
                  · rw [if_neg hc_935] at h
                    refine az_E.sn 3 (pc' := 13) (L' := [.ref 65, .int v2, .int v5]) (S' := [.int (I 65 2), .int v2]) (σ' := (97, I, J, R)) rfl ?_
                    refine az_E.br (c := (I 65 2) < v2) (tt := 30) (ff := 16) (L' := [.ref 65, .int v2, .int v5]) (S' := []) (σ' := (97, I, J, R)) rfl (fun hc_936 => ?_) (fun hc_936 => ?_)
                    · rw [if_pos hc_936] at h
                      refine az_E.sn 1 (pc' := 31) (L' := [.ref 65, .int v2, .int v5]) (S' := [.int (0 : Int32)]) (σ' := (97, I, J, R)) rfl ?_
                      refine az_E.ret (v := some (.int (0 : Int32))) (σ' := (97, I, J, R)) rfl ?_
                      show az_E az_F ex 2 128 83 [.retAddr 0, .retAddr 0, .int v2, .retAddr 0, .int v4, .int v5, .ref 65, .ref 71] [.int (0 : Int32)] (97, I, J, R) _
                      refine az_E.br (c := (0 : Int32) = 0) (tt := 98) (ff := 86) (L' := [.retAddr 0, .retAddr 0, .int v2, .retAddr 0, .int v4, .int v5, .ref 65, .ref 71]) (S' := []) (σ' := (97, I, J, R)) rfl (fun _ => ?_) (fun hn => absurd (by decide) hn)
                      refine az_E.sn 1 (pc' := 100) (L' := [.retAddr 0, .retAddr 0, .int v2, .retAddr 0, .int v4, .int v5, .ref 65, .ref 71]) (S' := [.int (-13 : Int32)]) (σ' := (97, I, J, R)) rfl ?_
                      have h := Option.some.inj h
                      subst h
                      exact az_E.ret (v := some (.int (-13 : Int32))) (σ' := (97, I, J, R)) rfl hQ
                    · rw [if_neg hc_936] at h
                      refine az_E.sn 5 (pc' := 23) (L' := [.ref 65, .int v2, .int v5]) (S' := [.int ((I 65 2) - v2), .int v5]) (σ' := (97, I, J, R)) rfl ?_
                      refine az_E.br (c := ((I 65 2) - v2) < v5) (tt := 30) (ff := 26) (L' := [.ref 65, .int v2, .int v5]) (S' := []) (σ' := (97, I, J, R)) rfl (fun hc_937 => ?_) (fun hc_937 => ?_)
                      · rw [if_pos hc_937] at h
                        refine az_E.sn 1 (pc' := 31) (L' := [.ref 65, .int v2, .int v5]) (S' := [.int (0 : Int32)]) (σ' := (97, I, J, R)) rfl ?_
                        refine az_E.ret (v := some (.int (0 : Int32))) (σ' := (97, I, J, R)) rfl ?_
                        show az_E az_F ex 2 128 83 [.retAddr 0, .retAddr 0, .int v2, .retAddr 0, .int v4, .int v5, .ref 65, .ref 71] [.int (0 : Int32)] (97, I, J, R) _
                        refine az_E.br (c := (0 : Int32) = 0) (tt := 98) (ff := 86) (L' := [.retAddr 0, .retAddr 0, .int v2, .retAddr 0, .int v4, .int v5, .ref 65, .ref 71]) (S' := []) (σ' := (97, I, J, R)) rfl (fun _ => ?_) (fun hn => absurd (by decide) hn)
                        refine az_E.sn 1 (pc' := 100) (L' := [.retAddr 0, .retAddr 0, .int v2, .retAddr 0, .int v4, .int v5, .ref 65, .ref 71]) (S' := [.int (-13 : Int32)]) (σ' := (97, I, J, R)) rfl ?_
                        have h := Option.some.inj h
                        subst h
                        exact az_E.ret (v := some (.int (-13 : Int32))) (σ' := (97, I, J, R)) rfl hQ
                      · rw [if_neg hc_937] at h
                        refine az_E.sn 2 (pc' := 31) (L' := [.ref 65, .int v2, .int v5]) (S' := [.int (1 : Int32)]) (σ' := (97, I, J, R)) rfl ?_
                        refine az_E.ret (v := some (.int (1 : Int32))) (σ' := (97, I, J, R)) rfl ?_
                        show az_E az_F ex 2 128 83 [.retAddr 0, .retAddr 0, .int v2, .retAddr 0, .int v4, .int v5, .ref 65, .ref 71] [.int (1 : Int32)] (97, I, J, R) _
                        refine az_E.br (c := (1 : Int32) = 0) (tt := 98) (ff := 86) (L' := [.retAddr 0, .retAddr 0, .int v2, .retAddr 0, .int v4, .int v5, .ref 65, .ref 71]) (S' := []) (σ' := (97, I, J, R)) rfl (fun hn => absurd hn (by decide)) (fun _ => ?_)
                        refine az_E.sn 3 (pc' := 92) (L' := [.retAddr 0, .retAddr 0, .int v2, .retAddr 0, .int v4, .int v5, .ref 65, .ref 71]) (S' := [.int v5, .int v4, .ref 71]) (σ' := (97, I, J, R)) rfl ?_
                        refine az_E.call (d := 1) (k' := 60) (vs := [.ref 71, .int v4, .int v5]) (pc' := 95) (S' := []) rfl ?_ (fun _ _ hq => hq)
                        show az_E az_F ex 1 60 0 [.ref 71, .int v4, .int v5] [] (97, I, J, R) _
                        refine az_E.sn 1 (pc' := 1) (L' := [.ref 71, .int v4, .int v5]) (S' := [.int v4]) (σ' := (97, I, J, R)) rfl ?_
                        refine az_E.br (c := v4 < 0) (tt := 30) (ff := 4) (L' := [.ref 71, .int v4, .int v5]) (S' := []) (σ' := (97, I, J, R)) rfl (fun hc_938 => ?_) (fun hc_938 => ?_)
                        · rw [if_pos hc_938] at h
                          refine az_E.sn 1 (pc' := 31) (L' := [.ref 71, .int v4, .int v5]) (S' := [.int (0 : Int32)]) (σ' := (97, I, J, R)) rfl ?_
                          refine az_E.ret (v := some (.int (0 : Int32))) (σ' := (97, I, J, R)) rfl ?_
                          show az_E az_F ex 2 128 95 [.retAddr 0, .retAddr 0, .int v2, .retAddr 0, .int v4, .int v5, .ref 65, .ref 71] [.int (0 : Int32)] (97, I, J, R) _
                          refine az_E.br (c := (0 : Int32) = 0) (tt := 98) (ff := 101) (L' := [.retAddr 0, .retAddr 0, .int v2, .retAddr 0, .int v4, .int v5, .ref 65, .ref 71]) (S' := []) (σ' := (97, I, J, R)) rfl (fun _ => ?_) (fun hn => absurd (by decide) hn)
                          refine az_E.sn 1 (pc' := 100) (L' := [.retAddr 0, .retAddr 0, .int v2, .retAddr 0, .int v4, .int v5, .ref 65, .ref 71]) (S' := [.int (-13 : Int32)]) (σ' := (97, I, J, R)) rfl ?_
                          have h := Option.some.inj h
                          subst h
                          exact az_E.ret (v := some (.int (-13 : Int32))) (σ' := (97, I, J, R)) rfl hQ
                        · rw [if_neg hc_938] at h
                          refine az_E.sn 1 (pc' := 5) (L' := [.ref 71, .int v4, .int v5]) (S' := [.int v5]) (σ' := (97, I, J, R)) rfl ?_
                          refine az_E.br (c := v5 < 0) (tt := 30) (ff := 8) (L' := [.ref 71, .int v4, .int v5]) (S' := []) (σ' := (97, I, J, R)) rfl (fun hc_939 => ?_) (fun hc_939 => ?_)
                          · rw [if_pos hc_939] at h
                            refine az_E.sn 1 (pc' := 31) (L' := [.ref 71, .int v4, .int v5]) (S' := [.int (0 : Int32)]) (σ' := (97, I, J, R)) rfl ?_
                            refine az_E.ret (v := some (.int (0 : Int32))) (σ' := (97, I, J, R)) rfl ?_
                            show az_E az_F ex 2 128 95 [.retAddr 0, .retAddr 0, .int v2, .retAddr 0, .int v4, .int v5, .ref 65, .ref 71] [.int (0 : Int32)] (97, I, J, R) _
                            refine az_E.br (c := (0 : Int32) = 0) (tt := 98) (ff := 101) (L' := [.retAddr 0, .retAddr 0, .int v2, .retAddr 0, .int v4, .int v5, .ref 65, .ref 71]) (S' := []) (σ' := (97, I, J, R)) rfl (fun _ => ?_) (fun hn => absurd (by decide) hn)
                            refine az_E.sn 1 (pc' := 100) (L' := [.retAddr 0, .retAddr 0, .int v2, .retAddr 0, .int v4, .int v5, .ref 65, .ref 71]) (S' := [.int (-13 : Int32)]) (σ' := (97, I, J, R)) rfl ?_
                            have h := Option.some.inj h
                            subst h
                            exact az_E.ret (v := some (.int (-13 : Int32))) (σ' := (97, I, J, R)) rfl hQ
                          · rw [if_neg hc_939] at h
                            refine az_E.sn 3 (pc' := 13) (L' := [.ref 71, .int v4, .int v5]) (S' := [.int (I 71 2), .int v4]) (σ' := (97, I, J, R)) rfl ?_
                            refine az_E.br (c := (I 71 2) < v4) (tt := 30) (ff := 16) (L' := [.ref 71, .int v4, .int v5]) (S' := []) (σ' := (97, I, J, R)) rfl (fun hc_940 => ?_) (fun hc_940 => ?_)
                            · rw [if_pos hc_940] at h
                              refine az_E.sn 1 (pc' := 31) (L' := [.ref 71, .int v4, .int v5]) (S' := [.int (0 : Int32)]) (σ' := (97, I, J, R)) rfl ?_
                              refine az_E.ret (v := some (.int (0 : Int32))) (σ' := (97, I, J, R)) rfl ?_
                              show az_E az_F ex 2 128 95 [.retAddr 0, .retAddr 0, .int v2, .retAddr 0, .int v4, .int v5, .ref 65, .ref 71] [.int (0 : Int32)] (97, I, J, R) _
                              refine az_E.br (c := (0 : Int32) = 0) (tt := 98) (ff := 101) (L' := [.retAddr 0, .retAddr 0, .int v2, .retAddr 0, .int v4, .int v5, .ref 65, .ref 71]) (S' := []) (σ' := (97, I, J, R)) rfl (fun _ => ?_) (fun hn => absurd (by decide) hn)
                              refine az_E.sn 1 (pc' := 100) (L' := [.retAddr 0, .retAddr 0, .int v2, .retAddr 0, .int v4, .int v5, .ref 65, .ref 71]) (S' := [.int (-13 : Int32)]) (σ' := (97, I, J, R)) rfl ?_
                              have h := Option.some.inj h
                              subst h
                              exact az_E.ret (v := some (.int (-13 : Int32))) (σ' := (97, I, J, R)) rfl hQ
                            · rw [if_neg hc_940] at h
                              refine az_E.sn 5 (pc' := 23) (L' := [.ref 71, .int v4, .int v5]) (S' := [.int ((I 71 2) - v4), .int v5]) (σ' := (97, I, J, R)) rfl ?_
                              refine az_E.br (c := ((I 71 2) - v4) < v5) (tt := 30) (ff := 26) (L' := [.ref 71, .int v4, .int v5]) (S' := []) (σ' := (97, I, J, R)) rfl (fun hc_941 => ?_) (fun hc_941 => ?_)
                              · rw [if_pos hc_941] at h
                                refine az_E.sn 1 (pc' := 31) (L' := [.ref 71, .int v4, .int v5]) (S' := [.int (0 : Int32)]) (σ' := (97, I, J, R)) rfl ?_
                                refine az_E.ret (v := some (.int (0 : Int32))) (σ' := (97, I, J, R)) rfl ?_
                                show az_E az_F ex 2 128 95 [.retAddr 0, .retAddr 0, .int v2, .retAddr 0, .int v4, .int v5, .ref 65, .ref 71] [.int (0 : Int32)] (97, I, J, R) _
                                refine az_E.br (c := (0 : Int32) = 0) (tt := 98) (ff := 101) (L' := [.retAddr 0, .retAddr 0, .int v2, .retAddr 0, .int v4, .int v5, .ref 65, .ref 71]) (S' := []) (σ' := (97, I, J, R)) rfl (fun _ => ?_) (fun hn => absurd (by decide) hn)
                                refine az_E.sn 1 (pc' := 100) (L' := [.retAddr 0, .retAddr 0, .int v2, .retAddr 0, .int v4, .int v5, .ref 65, .ref 71]) (S' := [.int (-13 : Int32)]) (σ' := (97, I, J, R)) rfl ?_
                                have h := Option.some.inj h
                                subst h
                                exact az_E.ret (v := some (.int (-13 : Int32))) (σ' := (97, I, J, R)) rfl hQ
                              · rw [if_neg hc_941] at h
                                refine az_E.sn 2 (pc' := 31) (L' := [.ref 71, .int v4, .int v5]) (S' := [.int (1 : Int32)]) (σ' := (97, I, J, R)) rfl ?_
                                refine az_E.ret (v := some (.int (1 : Int32))) (σ' := (97, I, J, R)) rfl ?_
                                show az_E az_F ex 2 128 95 [.retAddr 0, .retAddr 0, .int v2, .retAddr 0, .int v4, .int v5, .ref 65, .ref 71] [.int (1 : Int32)] (97, I, J, R) _
                                refine az_E.br (c := (1 : Int32) = 0) (tt := 98) (ff := 101) (L' := [.retAddr 0, .retAddr 0, .int v2, .retAddr 0, .int v4, .int v5, .ref 65, .ref 71]) (S' := []) (σ' := (97, I, J, R)) rfl (fun hn => absurd hn (by decide)) (fun _ => ?_)
                                refine az_E.sn 7 (pc' := 116) (L' := [.retAddr 0, .retAddr 0, .int v2, .retAddr 0, .int v4, .int v5, .ref 65, .ref 71]) (S' := [.int v5, .int v4, .ref (71 + 1), .int v2, .ref (65 + 1)]) (σ' := (97, I, J, R)) rfl ?_
                                by_cases hc_942 : v2 < 0 ∨ v4 < 0 ∨ v5 < 0 ∨ 60 < v2.toNatClampNeg + v5.toNatClampNeg ∨ 60 < v4.toNatClampNeg + v5.toNatClampNeg
                                · rw [if_pos hc_942] at h; cases h
                                · rw [if_neg hc_942] at h
                                  refine az_E.o (o := az_cp az_F (97, I, J, R) (65 + 1) v2 (71 + 1) v4 v5) (pc' := 119) (L' := [.retAddr 0, .retAddr 0, .int v2, .retAddr 0, .int v4, .int v5, .ref 65, .ref 71]) (S' := []) (x := (97, I, (az_ur J (71 + 1) (va_cpy (J (65 + 1)) (J (71 + 1)) v2.toNatClampNeg v4.toNatClampNeg v5.toNatClampNeg)), R)) rfl (if_neg hc_942) ?_
                                  refine az_E.sn 1 (pc' := 121) (L' := [.retAddr 0, .retAddr 0, .int v2, .retAddr 0, .int v4, .int v5, .ref 65, .ref 71]) (S' := [.int v5]) (σ' := (97, I, (az_ur J (71 + 1) (va_cpy (J (65 + 1)) (J (71 + 1)) v2.toNatClampNeg v4.toNatClampNeg v5.toNatClampNeg)), R)) rfl ?_
                                  have h := Option.some.inj h
                                  subst h
                                  exact az_E.ret (v := some (.int v5)) (σ' := (97, I, (az_ur J (71 + 1) (va_cpy (J (65 + 1)) (J (71 + 1)) v2.toNatClampNeg v4.toNatClampNeg v5.toNatClampNeg)), R)) rfl hQ
              · rw [if_neg hc_933] at h
                refine az_E.sn 1 (pc' := 20) (L' := [.ref 71, .int (I 65 1)]) (S' := [.int (0 : Int32)]) (σ' := (97, I, J, R)) rfl ?_
                refine az_E.ret (v := some (.int (0 : Int32))) (σ' := (97, I, J, R)) rfl ?_
                show az_E az_F ex 2 128 69 [.retAddr 0, .retAddr 0, .int v2, .retAddr 0, .int v4, .int v5, .ref 65, .ref 71] [.int (0 : Int32)] (97, I, J, R) _
                refine az_E.br (c := (0 : Int32) = 0) (tt := 72) (ff := 75) (L' := [.retAddr 0, .retAddr 0, .int v2, .retAddr 0, .int v4, .int v5, .ref 65, .ref 71]) (S' := []) (σ' := (97, I, J, R)) rfl (fun _ => ?_) (fun hn => absurd (by decide) hn)
                refine az_E.sn 1 (pc' := 74) (L' := [.retAddr 0, .retAddr 0, .int v2, .retAddr 0, .int v4, .int v5, .ref 65, .ref 71]) (S' := [.int (-12 : Int32)]) (σ' := (97, I, J, R)) rfl ?_
                have h := Option.some.inj h
                subst h
                exact az_E.ret (v := some (.int (-12 : Int32))) (σ' := (97, I, J, R)) rfl hQ
      · rw [if_neg hc_929] at h
        refine az_E.sn 1 (pc' := 21) (L' := [.ref 71]) (S' := [.int (0 : Int32)]) (σ' := (97, I, J, R)) rfl ?_
        refine az_E.ret (v := some (.int (0 : Int32))) (σ' := (97, I, J, R)) rfl ?_
        show az_E az_F ex 2 128 45 [.retAddr 0, .retAddr 0, .int v2, .retAddr 0, .int v4, .int v5, .ref 65, .ref 71] [.int (0 : Int32)] (97, I, J, R) _
        refine az_E.br (c := (0 : Int32) = 0) (tt := 51) (ff := 48) (L' := [.retAddr 0, .retAddr 0, .int v2, .retAddr 0, .int v4, .int v5, .ref 65, .ref 71]) (S' := []) (σ' := (97, I, J, R)) rfl (fun _ => ?_) (fun hn => absurd (by decide) hn)
        refine az_E.sn 1 (pc' := 53) (L' := [.retAddr 0, .retAddr 0, .int v2, .retAddr 0, .int v4, .int v5, .ref 65, .ref 71]) (S' := [.ref 65]) (σ' := (97, I, J, R)) rfl ?_
        refine az_E.call (d := 1) (k' := 55) (vs := [.ref 65]) (pc' := 56) (S' := []) rfl ?_ (fun _ _ hq => hq)
        show az_E az_F ex 1 55 0 [.ref 65] [] (97, I, J, R) _
        refine az_E.sn 3 (pc' := 5) (L' := [.ref 65]) (S' := [.int (-1 : Int32), .int (I 65 1)]) (σ' := (97, I, J, R)) rfl ?_
        refine az_E.br (c := (I 65 1) = (-1 : Int32)) (tt := 12) (ff := 8) (L' := [.ref 65]) (S' := []) (σ' := (97, I, J, R)) rfl (fun hc_943 => ?_) (fun hc_943 => ?_)
        · rw [if_pos hc_943] at h
          refine az_E.sn 1 (pc' := 13) (L' := [.ref 65]) (S' := [.int (0 : Int32)]) (σ' := (97, I, J, R)) rfl ?_
          refine az_E.ret (v := some (.int (0 : Int32))) (σ' := (97, I, J, R)) rfl ?_
          show az_E az_F ex 2 128 56 [.retAddr 0, .retAddr 0, .int v2, .retAddr 0, .int v4, .int v5, .ref 65, .ref 71] [.int (0 : Int32)] (97, I, J, R) _
          refine az_E.br (c := (0 : Int32) = 0) (tt := 72) (ff := 59) (L' := [.retAddr 0, .retAddr 0, .int v2, .retAddr 0, .int v4, .int v5, .ref 65, .ref 71]) (S' := []) (σ' := (97, I, J, R)) rfl (fun _ => ?_) (fun hn => absurd (by decide) hn)
          refine az_E.sn 1 (pc' := 74) (L' := [.retAddr 0, .retAddr 0, .int v2, .retAddr 0, .int v4, .int v5, .ref 65, .ref 71]) (S' := [.int (-12 : Int32)]) (σ' := (97, I, J, R)) rfl ?_
          have h := Option.some.inj h
          subst h
          exact az_E.ret (v := some (.int (-12 : Int32))) (σ' := (97, I, J, R)) rfl hQ
        · rw [if_neg hc_943] at h
          refine az_E.sn 2 (pc' := 13) (L' := [.ref 65]) (S' := [.int (1 : Int32)]) (σ' := (97, I, J, R)) rfl ?_
          refine az_E.ret (v := some (.int (1 : Int32))) (σ' := (97, I, J, R)) rfl ?_
          show az_E az_F ex 2 128 56 [.retAddr 0, .retAddr 0, .int v2, .retAddr 0, .int v4, .int v5, .ref 65, .ref 71] [.int (1 : Int32)] (97, I, J, R) _
          refine az_E.br (c := (1 : Int32) = 0) (tt := 72) (ff := 59) (L' := [.retAddr 0, .retAddr 0, .int v2, .retAddr 0, .int v4, .int v5, .ref 65, .ref 71]) (S' := []) (σ' := (97, I, J, R)) rfl (fun hn => absurd hn (by decide)) (fun _ => ?_)
          refine az_E.sn 3 (pc' := 66) (L' := [.retAddr 0, .retAddr 0, .int v2, .retAddr 0, .int v4, .int v5, .ref 65, .ref 71]) (S' := [.int (I 65 1), .ref 71]) (σ' := (97, I, J, R)) rfl ?_
          refine az_E.call (d := 1) (k' := 56) (vs := [.ref 71, .int (I 65 1)]) (pc' := 69) (S' := []) rfl ?_ (fun _ _ hq => hq)
          show az_E az_F ex 1 56 0 [.ref 71, .int (I 65 1)] [] (97, I, J, R) _
          refine az_E.sn 1 (pc' := 1) (L' := [.ref 71, .int (I 65 1)]) (S' := [.ref 71]) (σ' := (97, I, J, R)) rfl ?_
          refine az_E.call (d := 0) (k' := 55) (vs := [.ref 71]) (pc' := 4) (S' := []) rfl ?_ (fun _ _ hq => hq)
          show az_E az_F ex 0 55 0 [.ref 71] [] (97, I, J, R) _
          refine az_E.sn 3 (pc' := 5) (L' := [.ref 71]) (S' := [.int (-1 : Int32), .int (I 71 1)]) (σ' := (97, I, J, R)) rfl ?_
          refine az_E.br (c := (I 71 1) = (-1 : Int32)) (tt := 12) (ff := 8) (L' := [.ref 71]) (S' := []) (σ' := (97, I, J, R)) rfl (fun hc_944 => ?_) (fun hc_944 => ?_)
          · rw [if_pos hc_944] at h
            refine az_E.sn 1 (pc' := 13) (L' := [.ref 71]) (S' := [.int (0 : Int32)]) (σ' := (97, I, J, R)) rfl ?_
            refine az_E.ret (v := some (.int (0 : Int32))) (σ' := (97, I, J, R)) rfl ?_
            show az_E az_F ex 1 56 4 [.ref 71, .int (I 65 1)] [.int (0 : Int32)] (97, I, J, R) _
            refine az_E.br (c := (0 : Int32) = 0) (tt := 19) (ff := 7) (L' := [.ref 71, .int (I 65 1)]) (S' := []) (σ' := (97, I, J, R)) rfl (fun _ => ?_) (fun hn => absurd (by decide) hn)
            refine az_E.sn 1 (pc' := 20) (L' := [.ref 71, .int (I 65 1)]) (S' := [.int (0 : Int32)]) (σ' := (97, I, J, R)) rfl ?_
            refine az_E.ret (v := some (.int (0 : Int32))) (σ' := (97, I, J, R)) rfl ?_
            show az_E az_F ex 2 128 69 [.retAddr 0, .retAddr 0, .int v2, .retAddr 0, .int v4, .int v5, .ref 65, .ref 71] [.int (0 : Int32)] (97, I, J, R) _
            refine az_E.br (c := (0 : Int32) = 0) (tt := 72) (ff := 75) (L' := [.retAddr 0, .retAddr 0, .int v2, .retAddr 0, .int v4, .int v5, .ref 65, .ref 71]) (S' := []) (σ' := (97, I, J, R)) rfl (fun _ => ?_) (fun hn => absurd (by decide) hn)
            refine az_E.sn 1 (pc' := 74) (L' := [.retAddr 0, .retAddr 0, .int v2, .retAddr 0, .int v4, .int v5, .ref 65, .ref 71]) (S' := [.int (-12 : Int32)]) (σ' := (97, I, J, R)) rfl ?_
            have h := Option.some.inj h
            subst h
            exact az_E.ret (v := some (.int (-12 : Int32))) (σ' := (97, I, J, R)) rfl hQ
          · rw [if_neg hc_944] at h
            refine az_E.sn 2 (pc' := 13) (L' := [.ref 71]) (S' := [.int (1 : Int32)]) (σ' := (97, I, J, R)) rfl ?_
            refine az_E.ret (v := some (.int (1 : Int32))) (σ' := (97, I, J, R)) rfl ?_
            show az_E az_F ex 1 56 4 [.ref 71, .int (I 65 1)] [.int (1 : Int32)] (97, I, J, R) _
            refine az_E.br (c := (1 : Int32) = 0) (tt := 19) (ff := 7) (L' := [.ref 71, .int (I 65 1)]) (S' := []) (σ' := (97, I, J, R)) rfl (fun hn => absurd hn (by decide)) (fun _ => ?_)
            refine az_E.sn 3 (pc' := 12) (L' := [.ref 71, .int (I 65 1)]) (S' := [.int (I 65 1), .int (I 71 1)]) (σ' := (97, I, J, R)) rfl ?_
            refine az_E.br (c := (I 71 1) = (I 65 1)) (tt := 15) (ff := 19) (L' := [.ref 71, .int (I 65 1)]) (S' := []) (σ' := (97, I, J, R)) rfl (fun hc_945 => ?_) (fun hc_945 => ?_)
            · rw [if_pos hc_945] at h
              refine az_E.sn 2 (pc' := 20) (L' := [.ref 71, .int (I 65 1)]) (S' := [.int (1 : Int32)]) (σ' := (97, I, J, R)) rfl ?_
              refine az_E.ret (v := some (.int (1 : Int32))) (σ' := (97, I, J, R)) rfl ?_
              show az_E az_F ex 2 128 69 [.retAddr 0, .retAddr 0, .int v2, .retAddr 0, .int v4, .int v5, .ref 65, .ref 71] [.int (1 : Int32)] (97, I, J, R) _
              refine az_E.br (c := (1 : Int32) = 0) (tt := 72) (ff := 75) (L' := [.retAddr 0, .retAddr 0, .int v2, .retAddr 0, .int v4, .int v5, .ref 65, .ref 71]) (S' := []) (σ' := (97, I, J, R)) rfl (fun hn => absurd hn (by decide)) (fun _ => ?_)
              refine az_E.sn 3 (pc' := 80) (L' := [.retAddr 0, .retAddr 0, .int v2, .retAddr 0, .int v4, .int v5, .ref 65, .ref 71]) (S' := [.int v5, .int v2, .ref 65]) (σ' := (97, I, J, R)) rfl ?_
              refine az_E.call (d := 1) (k' := 60) (vs := [.ref 65, .int v2, .int v5]) (pc' := 83) (S' := []) rfl ?_ (fun _ _ hq => hq)
              show az_E az_F ex 1 60 0 [.ref 65, .int v2, .int v5] [] (97, I, J, R) _
              refine az_E.sn 1 (pc' := 1) (L' := [.ref 65, .int v2, .int v5]) (S' := [.int v2]) (σ' := (97, I, J, R)) rfl ?_
              refine az_E.br (c := v2 < 0) (tt := 30) (ff := 4) (L' := [.ref 65, .int v2, .int v5]) (S' := []) (σ' := (97, I, J, R)) rfl (fun hc_946 => ?_) (fun hc_946 => ?_)
              · rw [if_pos hc_946] at h
                refine az_E.sn 1 (pc' := 31) (L' := [.ref 65, .int v2, .int v5]) (S' := [.int (0 : Int32)]) (σ' := (97, I, J, R)) rfl ?_
                refine az_E.ret (v := some (.int (0 : Int32))) (σ' := (97, I, J, R)) rfl ?_
                show az_E az_F ex 2 128 83 [.retAddr 0, .retAddr 0, .int v2, .retAddr 0, .int v4, .int v5, .ref 65, .ref 71] [.int (0 : Int32)] (97, I, J, R) _
                refine az_E.br (c := (0 : Int32) = 0) (tt := 98) (ff := 86) (L' := [.retAddr 0, .retAddr 0, .int v2, .retAddr 0, .int v4, .int v5, .ref 65, .ref 71]) (S' := []) (σ' := (97, I, J, R)) rfl (fun _ => ?_) (fun hn => absurd (by decide) hn)
                refine az_E.sn 1 (pc' := 100) (L' := [.retAddr 0, .retAddr 0, .int v2, .retAddr 0, .int v4, .int v5, .ref 65, .ref 71]) (S' := [.int (-13 : Int32)]) (σ' := (97, I, J, R)) rfl ?_
                have h := Option.some.inj h
                subst h
                exact az_E.ret (v := some (.int (-13 : Int32))) (σ' := (97, I, J, R)) rfl hQ
              · rw [if_neg hc_946] at h
                refine az_E.sn 1 (pc' := 5) (L' := [.ref 65, .int v2, .int v5]) (S' := [.int v5]) (σ' := (97, I, J, R)) rfl ?_
                refine az_E.br (c := v5 < 0) (tt := 30) (ff := 8) (L' := [.ref 65, .int v2, .int v5]) (S' := []) (σ' := (97, I, J, R)) rfl (fun hc_947 => ?_) (fun hc_947 => ?_)
                · rw [if_pos hc_947] at h
                  refine az_E.sn 1 (pc' := 31) (L' := [.ref 65, .int v2, .int v5]) (S' := [.int (0 : Int32)]) (σ' := (97, I, J, R)) rfl ?_
                  refine az_E.ret (v := some (.int (0 : Int32))) (σ' := (97, I, J, R)) rfl ?_
                  show az_E az_F ex 2 128 83 [.retAddr 0, .retAddr 0, .int v2, .retAddr 0, .int v4, .int v5, .ref 65, .ref 71] [.int (0 : Int32)] (97, I, J, R) _
                  refine az_E.br (c := (0 : Int32) = 0) (tt := 98) (ff := 86) (L' := [.retAddr 0, .retAddr 0, .int v2, .retAddr 0, .int v4, .int v5, .ref 65, .ref 71]) (S' := []) (σ' := (97, I, J, R)) rfl (fun _ => ?_) (fun hn => absurd (by decide) hn)
                  refine az_E.sn 1 (pc' := 100) (L' := [.retAddr 0, .retAddr 0, .int v2, .retAddr 0, .int v4, .int v5, .ref 65, .ref 71]) (S' := [.int (-13 : Int32)]) (σ' := (97, I, J, R)) rfl ?_
                  have h := Option.some.inj h
                  subst h
                  exact az_E.ret (v := some (.int (-13 : Int32))) (σ' := (97, I, J, R)) rfl hQ
                · rw [if_neg hc_947] at h
                  refine az_E.sn 3 (pc' := 13) (L' := [.ref 65, .int v2, .int v5]) (S' := [.int (I 65 2), .int v2]) (σ' := (97, I, J, R)) rfl ?_
                  refine az_E.br (c := (I 65 2) < v2) (tt := 30) (ff := 16) (L' := [.ref 65, .int v2, .int v5]) (S' := []) (σ' := (97, I, J, R)) rfl (fun hc_948 => ?_) (fun hc_948 => ?_)
                  · rw [if_pos hc_948] at h
                    refine az_E.sn 1 (pc' := 31) (L' := [.ref 65, .int v2, .int v5]) (S' := [.int (0 : Int32)]) (σ' := (97, I, J, R)) rfl ?_
                    refine az_E.ret (v := some (.int (0 : Int32))) (σ' := (97, I, J, R)) rfl ?_
                    show az_E az_F ex 2 128 83 [.retAddr 0, .retAddr 0, .int v2, .retAddr 0, .int v4, .int v5, .ref 65, .ref 71] [.int (0 : Int32)] (97, I, J, R) _
                    refine az_E.br (c := (0 : Int32) = 0) (tt := 98) (ff := 86) (L' := [.retAddr 0, .retAddr 0, .int v2, .retAddr 0, .int v4, .int v5, .ref 65, .ref 71]) (S' := []) (σ' := (97, I, J, R)) rfl (fun _ => ?_) (fun hn => absurd (by decide) hn)
                    refine az_E.sn 1 (pc' := 100) (L' := [.retAddr 0, .retAddr 0, .int v2, .retAddr 0, .int v4, .int v5, .ref 65, .ref 71]) (S' := [.int (-13 : Int32)]) (σ' := (97, I, J, R)) rfl ?_
                    have h := Option.some.inj h
                    subst h
                    exact az_E.ret (v := some (.int (-13 : Int32))) (σ' := (97, I, J, R)) rfl hQ
                  · rw [if_neg hc_948] at h
                    refine az_E.sn 5 (pc' := 23) (L' := [.ref 65, .int v2, .int v5]) (S' := [.int ((I 65 2) - v2), .int v5]) (σ' := (97, I, J, R)) rfl ?_
                    refine az_E.br (c := ((I 65 2) - v2) < v5) (tt := 30) (ff := 26) (L' := [.ref 65, .int v2, .int v5]) (S' := []) (σ' := (97, I, J, R)) rfl (fun hc_949 => ?_) (fun hc_949 => ?_)
                    · rw [if_pos hc_949] at h
                      refine az_E.sn 1 (pc' := 31) (L' := [.ref 65, .int v2, .int v5]) (S' := [.int (0 : Int32)]) (σ' := (97, I, J, R)) rfl ?_
                      refine az_E.ret (v := some (.int (0 : Int32))) (σ' := (97, I, J, R)) rfl ?_
                      show az_E az_F ex 2 128 83 [.retAddr 0, .retAddr 0, .int v2, .retAddr 0, .int v4, .int v5, .ref 65, .ref 71] [.int (0 : Int32)] (97, I, J, R) _
                      refine az_E.br (c := (0 : Int32) = 0) (tt := 98) (ff := 86) (L' := [.retAddr 0, .retAddr 0, .int v2, .retAddr 0, .int v4, .int v5, .ref 65, .ref 71]) (S' := []) (σ' := (97, I, J, R)) rfl (fun _ => ?_) (fun hn => absurd (by decide) hn)
                      refine az_E.sn 1 (pc' := 100) (L' := [.retAddr 0, .retAddr 0, .int v2, .retAddr 0, .int v4, .int v5, .ref 65, .ref 71]) (S' := [.int (-13 : Int32)]) (σ' := (97, I, J, R)) rfl ?_
                      have h := Option.some.inj h
                      subst h
                      exact az_E.ret (v := some (.int (-13 : Int32))) (σ' := (97, I, J, R)) rfl hQ
                    · rw [if_neg hc_949] at h
                      refine az_E.sn 2 (pc' := 31) (L' := [.ref 65, .int v2, .int v5]) (S' := [.int (1 : Int32)]) (σ' := (97, I, J, R)) rfl ?_
                      refine az_E.ret (v := some (.int (1 : Int32))) (σ' := (97, I, J, R)) rfl ?_
                      show az_E az_F ex 2 128 83 [.retAddr 0, .retAddr 0, .int v2, .retAddr 0, .int v4, .int v5, .ref 65, .ref 71] [.int (1 : Int32)] (97, I, J, R) _
                      refine az_E.br (c := (1 : Int32) = 0) (tt := 98) (ff := 86) (L' := [.retAddr 0, .retAddr 0, .int v2, .retAddr 0, .int v4, .int v5, .ref 65, .ref 71]) (S' := []) (σ' := (97, I, J, R)) rfl (fun hn => absurd hn (by decide)) (fun _ => ?_)
                      refine az_E.sn 3 (pc' := 92) (L' := [.retAddr 0, .retAddr 0, .int v2, .retAddr 0, .int v4, .int v5, .ref 65, .ref 71]) (S' := [.int v5, .int v4, .ref 71]) (σ' := (97, I, J, R)) rfl ?_
                      refine az_E.call (d := 1) (k' := 60) (vs := [.ref 71, .int v4, .int v5]) (pc' := 95) (S' := []) rfl ?_ (fun _ _ hq => hq)
                      show az_E az_F ex 1 60 0 [.ref 71, .int v4, .int v5] [] (97, I, J, R) _
                      refine az_E.sn 1 (pc' := 1) (L' := [.ref 71, .int v4, .int v5]) (S' := [.int v4]) (σ' := (97, I, J, R)) rfl ?_
                      refine az_E.br (c := v4 < 0) (tt := 30) (ff := 4) (L' := [.ref 71, .int v4, .int v5]) (S' := []) (σ' := (97, I, J, R)) rfl (fun hc_950 => ?_) (fun hc_950 => ?_)
                      · rw [if_pos hc_950] at h
                        refine az_E.sn 1 (pc' := 31) (L' := [.ref 71, .int v4, .int v5]) (S' := [.int (0 : Int32)]) (σ' := (97, I, J, R)) rfl ?_
                        refine az_E.ret (v := some (.int (0 : Int32))) (σ' := (97, I, J, R)) rfl ?_
                        show az_E az_F ex 2 128 95 [.retAddr 0, .retAddr 0, .int v2, .retAddr 0, .int v4, .int v5, .ref 65, .ref 71] [.int (0 : Int32)] (97, I, J, R) _
                        refine az_E.br (c := (0 : Int32) = 0) (tt := 98) (ff := 101) (L' := [.retAddr 0, .retAddr 0, .int v2, .retAddr 0, .int v4, .int v5, .ref 65, .ref 71]) (S' := []) (σ' := (97, I, J, R)) rfl (fun _ => ?_) (fun hn => absurd (by decide) hn)
                        refine az_E.sn 1 (pc' := 100) (L' := [.retAddr 0, .retAddr 0, .int v2, .retAddr 0, .int v4, .int v5, .ref 65, .ref 71]) (S' := [.int (-13 : Int32)]) (σ' := (97, I, J, R)) rfl ?_
                        have h := Option.some.inj h
                        subst h
                        exact az_E.ret (v := some (.int (-13 : Int32))) (σ' := (97, I, J, R)) rfl hQ
                      · rw [if_neg hc_950] at h
                        refine az_E.sn 1 (pc' := 5) (L' := [.ref 71, .int v4, .int v5]) (S' := [.int v5]) (σ' := (97, I, J, R)) rfl ?_
                        refine az_E.br (c := v5 < 0) (tt := 30) (ff := 8) (L' := [.ref 71, .int v4, .int v5]) (S' := []) (σ' := (97, I, J, R)) rfl (fun hc_951 => ?_) (fun hc_951 => ?_)
                        · rw [if_pos hc_951] at h
                          refine az_E.sn 1 (pc' := 31) (L' := [.ref 71, .int v4, .int v5]) (S' := [.int (0 : Int32)]) (σ' := (97, I, J, R)) rfl ?_
                          refine az_E.ret (v := some (.int (0 : Int32))) (σ' := (97, I, J, R)) rfl ?_
                          show az_E az_F ex 2 128 95 [.retAddr 0, .retAddr 0, .int v2, .retAddr 0, .int v4, .int v5, .ref 65, .ref 71] [.int (0 : Int32)] (97, I, J, R) _
                          refine az_E.br (c := (0 : Int32) = 0) (tt := 98) (ff := 101) (L' := [.retAddr 0, .retAddr 0, .int v2, .retAddr 0, .int v4, .int v5, .ref 65, .ref 71]) (S' := []) (σ' := (97, I, J, R)) rfl (fun _ => ?_) (fun hn => absurd (by decide) hn)
                          refine az_E.sn 1 (pc' := 100) (L' := [.retAddr 0, .retAddr 0, .int v2, .retAddr 0, .int v4, .int v5, .ref 65, .ref 71]) (S' := [.int (-13 : Int32)]) (σ' := (97, I, J, R)) rfl ?_
                          have h := Option.some.inj h
                          subst h
                          exact az_E.ret (v := some (.int (-13 : Int32))) (σ' := (97, I, J, R)) rfl hQ
                        · rw [if_neg hc_951] at h
                          refine az_E.sn 3 (pc' := 13) (L' := [.ref 71, .int v4, .int v5]) (S' := [.int (I 71 2), .int v4]) (σ' := (97, I, J, R)) rfl ?_
                          refine az_E.br (c := (I 71 2) < v4) (tt := 30) (ff := 16) (L' := [.ref 71, .int v4, .int v5]) (S' := []) (σ' := (97, I, J, R)) rfl (fun hc_952 => ?_) (fun hc_952 => ?_)
                          · rw [if_pos hc_952] at h
                            refine az_E.sn 1 (pc' := 31) (L' := [.ref 71, .int v4, .int v5]) (S' := [.int (0 : Int32)]) (σ' := (97, I, J, R)) rfl ?_
                            refine az_E.ret (v := some (.int (0 : Int32))) (σ' := (97, I, J, R)) rfl ?_
                            show az_E az_F ex 2 128 95 [.retAddr 0, .retAddr 0, .int v2, .retAddr 0, .int v4, .int v5, .ref 65, .ref 71] [.int (0 : Int32)] (97, I, J, R) _
                            refine az_E.br (c := (0 : Int32) = 0) (tt := 98) (ff := 101) (L' := [.retAddr 0, .retAddr 0, .int v2, .retAddr 0, .int v4, .int v5, .ref 65, .ref 71]) (S' := []) (σ' := (97, I, J, R)) rfl (fun _ => ?_) (fun hn => absurd (by decide) hn)
                            refine az_E.sn 1 (pc' := 100) (L' := [.retAddr 0, .retAddr 0, .int v2, .retAddr 0, .int v4, .int v5, .ref 65, .ref 71]) (S' := [.int (-13 : Int32)]) (σ' := (97, I, J, R)) rfl ?_
                            have h := Option.some.inj h
                            subst h
                            exact az_E.ret (v := some (.int (-13 : Int32))) (σ' := (97, I, J, R)) rfl hQ
                          · rw [if_neg hc_952] at h
                            refine az_E.sn 5 (pc' := 23) (L' := [.ref 71, .int v4, .int v5]) (S' := [.int ((I 71 2) - v4), .int v5]) (σ' := (97, I, J, R)) rfl ?_
                            refine az_E.br (c := ((I 71 2) - v4) < v5) (tt := 30) (ff := 26) (L' := [.ref 71, .int v4, .int v5]) (S' := []) (σ' := (97, I, J, R)) rfl (fun hc_953 => ?_) (fun hc_953 => ?_)
                            · rw [if_pos hc_953] at h
                              refine az_E.sn 1 (pc' := 31) (L' := [.ref 71, .int v4, .int v5]) (S' := [.int (0 : Int32)]) (σ' := (97, I, J, R)) rfl ?_
                              refine az_E.ret (v := some (.int (0 : Int32))) (σ' := (97, I, J, R)) rfl ?_
                              show az_E az_F ex 2 128 95 [.retAddr 0, .retAddr 0, .int v2, .retAddr 0, .int v4, .int v5, .ref 65, .ref 71] [.int (0 : Int32)] (97, I, J, R) _
                              refine az_E.br (c := (0 : Int32) = 0) (tt := 98) (ff := 101) (L' := [.retAddr 0, .retAddr 0, .int v2, .retAddr 0, .int v4, .int v5, .ref 65, .ref 71]) (S' := []) (σ' := (97, I, J, R)) rfl (fun _ => ?_) (fun hn => absurd (by decide) hn)
                              refine az_E.sn 1 (pc' := 100) (L' := [.retAddr 0, .retAddr 0, .int v2, .retAddr 0, .int v4, .int v5, .ref 65, .ref 71]) (S' := [.int (-13 : Int32)]) (σ' := (97, I, J, R)) rfl ?_
                              have h := Option.some.inj h
                              subst h
                              exact az_E.ret (v := some (.int (-13 : Int32))) (σ' := (97, I, J, R)) rfl hQ
                            · rw [if_neg hc_953] at h
                              refine az_E.sn 2 (pc' := 31) (L' := [.ref 71, .int v4, .int v5]) (S' := [.int (1 : Int32)]) (σ' := (97, I, J, R)) rfl ?_
                              refine az_E.ret (v := some (.int (1 : Int32))) (σ' := (97, I, J, R)) rfl ?_
                              show az_E az_F ex 2 128 95 [.retAddr 0, .retAddr 0, .int v2, .retAddr 0, .int v4, .int v5, .ref 65, .ref 71] [.int (1 : Int32)] (97, I, J, R) _
                              refine az_E.br (c := (1 : Int32) = 0) (tt := 98) (ff := 101) (L' := [.retAddr 0, .retAddr 0, .int v2, .retAddr 0, .int v4, .int v5, .ref 65, .ref 71]) (S' := []) (σ' := (97, I, J, R)) rfl (fun hn => absurd hn (by decide)) (fun _ => ?_)
                              refine az_E.sn 7 (pc' := 116) (L' := [.retAddr 0, .retAddr 0, .int v2, .retAddr 0, .int v4, .int v5, .ref 65, .ref 71]) (S' := [.int v5, .int v4, .ref (71 + 1), .int v2, .ref (65 + 1)]) (σ' := (97, I, J, R)) rfl ?_
                              by_cases hc_954 : v2 < 0 ∨ v4 < 0 ∨ v5 < 0 ∨ 60 < v2.toNatClampNeg + v5.toNatClampNeg ∨ 60 < v4.toNatClampNeg + v5.toNatClampNeg
                              · rw [if_pos hc_954] at h; cases h
                              · rw [if_neg hc_954] at h
                                refine az_E.o (o := az_cp az_F (97, I, J, R) (65 + 1) v2 (71 + 1) v4 v5) (pc' := 119) (L' := [.retAddr 0, .retAddr 0, .int v2, .retAddr 0, .int v4, .int v5, .ref 65, .ref 71]) (S' := []) (x := (97, I, (az_ur J (71 + 1) (va_cpy (J (65 + 1)) (J (71 + 1)) v2.toNatClampNeg v4.toNatClampNeg v5.toNatClampNeg)), R)) rfl (if_neg hc_954) ?_
                                refine az_E.sn 1 (pc' := 121) (L' := [.retAddr 0, .retAddr 0, .int v2, .retAddr 0, .int v4, .int v5, .ref 65, .ref 71]) (S' := [.int v5]) (σ' := (97, I, (az_ur J (71 + 1) (va_cpy (J (65 + 1)) (J (71 + 1)) v2.toNatClampNeg v4.toNatClampNeg v5.toNatClampNeg)), R)) rfl ?_
                                have h := Option.some.inj h
                                subst h
                                exact az_E.ret (v := some (.int v5)) (σ' := (97, I, (az_ur J (71 + 1) (va_cpy (J (65 + 1)) (J (71 + 1)) v2.toNatClampNeg v4.toNatClampNeg v5.toNatClampNeg)), R)) rfl hQ
            · rw [if_neg hc_945] at h
              refine az_E.sn 1 (pc' := 20) (L' := [.ref 71, .int (I 65 1)]) (S' := [.int (0 : Int32)]) (σ' := (97, I, J, R)) rfl ?_
              refine az_E.ret (v := some (.int (0 : Int32))) (σ' := (97, I, J, R)) rfl ?_
              show az_E az_F ex 2 128 69 [.retAddr 0, .retAddr 0, .int v2, .retAddr 0, .int v4, .int v5, .ref 65, .ref 71] [.int (0 : Int32)] (97, I, J, R) _
              refine az_E.br (c := (0 : Int32) = 0) (tt := 72) (ff := 75) (L' := [.retAddr 0, .retAddr 0, .int v2, .retAddr 0, .int v4, .int v5, .ref 65, .ref 71]) (S' := []) (σ' := (97, I, J, R)) rfl (fun _ => ?_) (fun hn => absurd (by decide) hn)
              refine az_E.sn 1 (pc' := 74) (L' := [.retAddr 0, .retAddr 0, .int v2, .retAddr 0, .int v4, .int v5, .ref 65, .ref 71]) (S' := [.int (-12 : Int32)]) (σ' := (97, I, J, R)) rfl ?_
              have h := Option.some.inj h
              subst h
              exact az_E.ret (v := some (.int (-12 : Int32))) (σ' := (97, I, J, R)) rfl hQ
  · rw [if_neg hc_927] at h
    refine az_E.sn 1 (pc' := 21) (L' := [.ref 65]) (S' := [.int (0 : Int32)]) (σ' := (97, I, J, R)) rfl ?_
    refine az_E.ret (v := some (.int (0 : Int32))) (σ' := (97, I, J, R)) rfl ?_
    show az_E az_F ex 2 128 37 [.retAddr 0, .retAddr 0, .int v2, .retAddr 0, .int v4, .int v5, .ref 65, .ref 71] [.int (0 : Int32)] (97, I, J, R) _
    refine az_E.br (c := (0 : Int32) = 0) (tt := 40) (ff := 48) (L' := [.retAddr 0, .retAddr 0, .int v2, .retAddr 0, .int v4, .int v5, .ref 65, .ref 71]) (S' := []) (σ' := (97, I, J, R)) rfl (fun _ => ?_) (fun hn => absurd (by decide) hn)
    refine az_E.sn 1 (pc' := 42) (L' := [.retAddr 0, .retAddr 0, .int v2, .retAddr 0, .int v4, .int v5, .ref 65, .ref 71]) (S' := [.ref 71]) (σ' := (97, I, J, R)) rfl ?_
    refine az_E.call (d := 1) (k' := 54) (vs := [.ref 71]) (pc' := 45) (S' := []) rfl ?_ (fun _ _ hq => hq)
    show az_E az_F ex 1 54 0 [.ref 71] [] (97, I, J, R) _
    refine az_E.sn 3 (pc' := 5) (L' := [.ref 71]) (S' := [.int (-1 : Int32), .int (I 71 0)]) (σ' := (97, I, J, R)) rfl ?_
    refine az_E.br (c := (I 71 0) = (-1 : Int32)) (tt := 8) (ff := 20) (L' := [.ref 71]) (S' := []) (σ' := (97, I, J, R)) rfl (fun hc_955 => ?_) (fun hc_955 => ?_)
    · rw [if_pos hc_955] at h
      refine az_E.sn 3 (pc' := 13) (L' := [.ref 71]) (S' := [.int (-1 : Int32), .int (I 71 1)]) (σ' := (97, I, J, R)) rfl ?_
      refine az_E.br (c := (I 71 1) = (-1 : Int32)) (tt := 16) (ff := 20) (L' := [.ref 71]) (S' := []) (σ' := (97, I, J, R)) rfl (fun hc_956 => ?_) (fun hc_956 => ?_)
      · rw [if_pos hc_956] at h
        refine az_E.sn 2 (pc' := 21) (L' := [.ref 71]) (S' := [.int (1 : Int32)]) (σ' := (97, I, J, R)) rfl ?_
        refine az_E.ret (v := some (.int (1 : Int32))) (σ' := (97, I, J, R)) rfl ?_
        show az_E az_F ex 2 128 45 [.retAddr 0, .retAddr 0, .int v2, .retAddr 0, .int v4, .int v5, .ref 65, .ref 71] [.int (1 : Int32)] (97, I, J, R) _
        refine az_E.br (c := (1 : Int32) = 0) (tt := 51) (ff := 48) (L' := [.retAddr 0, .retAddr 0, .int v2, .retAddr 0, .int v4, .int v5, .ref 65, .ref 71]) (S' := []) (σ' := (97, I, J, R)) rfl (fun hn => absurd hn (by decide)) (fun _ => ?_)
        refine az_E.sn 1 (pc' := 50) (L' := [.retAddr 0, .retAddr 0, .int v2, .retAddr 0, .int v4, .int v5, .ref 65, .ref 71]) (S' := [.int (-11 : Int32)]) (σ' := (97, I, J, R)) rfl ?_
        have h := Option.some.inj h
        subst h
        exact az_E.ret (v := some (.int (-11 : Int32))) (σ' := (97, I, J, R)) rfl hQ
      · rw [if_neg hc_956] at h
        refine az_E.sn 1 (pc' := 21) (L' := [.ref 71]) (S' := [.int (0 : Int32)]) (σ' := (97, I, J, R)) rfl ?_
        refine az_E.ret (v := some (.int (0 : Int32))) (σ' := (97, I, J, R)) rfl ?_
        show az_E az_F ex 2 128 45 [.retAddr 0, .retAddr 0, .int v2, .retAddr 0, .int v4, .int v5, .ref 65, .ref 71] [.int (0 : Int32)] (97, I, J, R) _
        refine az_E.br (c := (0 : Int32) = 0) (tt := 51) (ff := 48) (L' := [.retAddr 0, .retAddr 0, .int v2, .retAddr 0, .int v4, .int v5, .ref 65, .ref 71]) (S' := []) (σ' := (97, I, J, R)) rfl (fun _ => ?_) (fun hn => absurd (by decide) hn)
        refine az_E.sn 1 (pc' := 53) (L' := [.retAddr 0, .retAddr 0, .int v2, .retAddr 0, .int v4, .int v5, .ref 65, .ref 71]) (S' := [.ref 65]) (σ' := (97, I, J, R)) rfl ?_
        refine az_E.call (d := 1) (k' := 55) (vs := [.ref 65]) (pc' := 56) (S' := []) rfl ?_ (fun _ _ hq => hq)
        show az_E az_F ex 1 55 0 [.ref 65] [] (97, I, J, R) _
        refine az_E.sn 3 (pc' := 5) (L' := [.ref 65]) (S' := [.int (-1 : Int32), .int (I 65 1)]) (σ' := (97, I, J, R)) rfl ?_
        refine az_E.br (c := (I 65 1) = (-1 : Int32)) (tt := 12) (ff := 8) (L' := [.ref 65]) (S' := []) (σ' := (97, I, J, R)) rfl (fun hc_957 => ?_) (fun hc_957 => ?_)
        · rw [if_pos hc_957] at h
          refine az_E.sn 1 (pc' := 13) (L' := [.ref 65]) (S' := [.int (0 : Int32)]) (σ' := (97, I, J, R)) rfl ?_
          refine az_E.ret (v := some (.int (0 : Int32))) (σ' := (97, I, J, R)) rfl ?_
          show az_E az_F ex 2 128 56 [.retAddr 0, .retAddr 0, .int v2, .retAddr 0, .int v4, .int v5, .ref 65, .ref 71] [.int (0 : Int32)] (97, I, J, R) _
          refine az_E.br (c := (0 : Int32) = 0) (tt := 72) (ff := 59) (L' := [.retAddr 0, .retAddr 0, .int v2, .retAddr 0, .int v4, .int v5, .ref 65, .ref 71]) (S' := []) (σ' := (97, I, J, R)) rfl (fun _ => ?_) (fun hn => absurd (by decide) hn)
          refine az_E.sn 1 (pc' := 74) (L' := [.retAddr 0, .retAddr 0, .int v2, .retAddr 0, .int v4, .int v5, .ref 65, .ref 71]) (S' := [.int (-12 : Int32)]) (σ' := (97, I, J, R)) rfl ?_
          have h := Option.some.inj h
          subst h
          exact az_E.ret (v := some (.int (-12 : Int32))) (σ' := (97, I, J, R)) rfl hQ
        · rw [if_neg hc_957] at h
          refine az_E.sn 2 (pc' := 13) (L' := [.ref 65]) (S' := [.int (1 : Int32)]) (σ' := (97, I, J, R)) rfl ?_
          refine az_E.ret (v := some (.int (1 : Int32))) (σ' := (97, I, J, R)) rfl ?_
          show az_E az_F ex 2 128 56 [.retAddr 0, .retAddr 0, .int v2, .retAddr 0, .int v4, .int v5, .ref 65, .ref 71] [.int (1 : Int32)] (97, I, J, R) _
          refine az_E.br (c := (1 : Int32) = 0) (tt := 72) (ff := 59) (L' := [.retAddr 0, .retAddr 0, .int v2, .retAddr 0, .int v4, .int v5, .ref 65, .ref 71]) (S' := []) (σ' := (97, I, J, R)) rfl (fun hn => absurd hn (by decide)) (fun _ => ?_)
          refine az_E.sn 3 (pc' := 66) (L' := [.retAddr 0, .retAddr 0, .int v2, .retAddr 0, .int v4, .int v5, .ref 65, .ref 71]) (S' := [.int (I 65 1), .ref 71]) (σ' := (97, I, J, R)) rfl ?_
          refine az_E.call (d := 1) (k' := 56) (vs := [.ref 71, .int (I 65 1)]) (pc' := 69) (S' := []) rfl ?_ (fun _ _ hq => hq)
          show az_E az_F ex 1 56 0 [.ref 71, .int (I 65 1)] [] (97, I, J, R) _
          refine az_E.sn 1 (pc' := 1) (L' := [.ref 71, .int (I 65 1)]) (S' := [.ref 71]) (σ' := (97, I, J, R)) rfl ?_
          refine az_E.call (d := 0) (k' := 55) (vs := [.ref 71]) (pc' := 4) (S' := []) rfl ?_ (fun _ _ hq => hq)
          show az_E az_F ex 0 55 0 [.ref 71] [] (97, I, J, R) _
          refine az_E.sn 3 (pc' := 5) (L' := [.ref 71]) (S' := [.int (-1 : Int32), .int (I 71 1)]) (σ' := (97, I, J, R)) rfl ?_
          refine az_E.br (c := (I 71 1) = (-1 : Int32)) (tt := 12) (ff := 8) (L' := [.ref 71]) (S' := []) (σ' := (97, I, J, R)) rfl (fun hc_958 => ?_) (fun hc_958 => ?_)
          · rw [if_pos hc_958] at h
            refine az_E.sn 1 (pc' := 13) (L' := [.ref 71]) (S' := [.int (0 : Int32)]) (σ' := (97, I, J, R)) rfl ?_
            refine az_E.ret (v := some (.int (0 : Int32))) (σ' := (97, I, J, R)) rfl ?_
            show az_E az_F ex 1 56 4 [.ref 71, .int (I 65 1)] [.int (0 : Int32)] (97, I, J, R) _
            refine az_E.br (c := (0 : Int32) = 0) (tt := 19) (ff := 7) (L' := [.ref 71, .int (I 65 1)]) (S' := []) (σ' := (97, I, J, R)) rfl (fun _ => ?_) (fun hn => absurd (by decide) hn)
            refine az_E.sn 1 (pc' := 20) (L' := [.ref 71, .int (I 65 1)]) (S' := [.int (0 : Int32)]) (σ' := (97, I, J, R)) rfl ?_
            refine az_E.ret (v := some (.int (0 : Int32))) (σ' := (97, I, J, R)) rfl ?_
            show az_E az_F ex 2 128 69 [.retAddr 0, .retAddr 0, .int v2, .retAddr 0, .int v4, .int v5, .ref 65, .ref 71] [.int (0 : Int32)] (97, I, J, R) _
            refine az_E.br (c := (0 : Int32) = 0) (tt := 72) (ff := 75) (L' := [.retAddr 0, .retAddr 0, .int v2, .retAddr 0, .int v4, .int v5, .ref 65, .ref 71]) (S' := []) (σ' := (97, I, J, R)) rfl (fun _ => ?_) (fun hn => absurd (by decide) hn)
            refine az_E.sn 1 (pc' := 74) (L' := [.retAddr 0, .retAddr 0, .int v2, .retAddr 0, .int v4, .int v5, .ref 65, .ref 71]) (S' := [.int (-12 : Int32)]) (σ' := (97, I, J, R)) rfl ?_
            have h := Option.some.inj h
            subst h
            exact az_E.ret (v := some (.int (-12 : Int32))) (σ' := (97, I, J, R)) rfl hQ
          · rw [if_neg hc_958] at h
            refine az_E.sn 2 (pc' := 13) (L' := [.ref 71]) (S' := [.int (1 : Int32)]) (σ' := (97, I, J, R)) rfl ?_
            refine az_E.ret (v := some (.int (1 : Int32))) (σ' := (97, I, J, R)) rfl ?_
            show az_E az_F ex 1 56 4 [.ref 71, .int (I 65 1)] [.int (1 : Int32)] (97, I, J, R) _
            refine az_E.br (c := (1 : Int32) = 0) (tt := 19) (ff := 7) (L' := [.ref 71, .int (I 65 1)]) (S' := []) (σ' := (97, I, J, R)) rfl (fun hn => absurd hn (by decide)) (fun _ => ?_)
            refine az_E.sn 3 (pc' := 12) (L' := [.ref 71, .int (I 65 1)]) (S' := [.int (I 65 1), .int (I 71 1)]) (σ' := (97, I, J, R)) rfl ?_
            refine az_E.br (c := (I 71 1) = (I 65 1)) (tt := 15) (ff := 19) (L' := [.ref 71, .int (I 65 1)]) (S' := []) (σ' := (97, I, J, R)) rfl (fun hc_959 => ?_) (fun hc_959 => ?_)
            · rw [if_pos hc_959] at h
              refine az_E.sn 2 (pc' := 20) (L' := [.ref 71, .int (I 65 1)]) (S' := [.int (1 : Int32)]) (σ' := (97, I, J, R)) rfl ?_
              refine az_E.ret (v := some (.int (1 : Int32))) (σ' := (97, I, J, R)) rfl ?_
              show az_E az_F ex 2 128 69 [.retAddr 0, .retAddr 0, .int v2, .retAddr 0, .int v4, .int v5, .ref 65, .ref 71] [.int (1 : Int32)] (97, I, J, R) _
              refine az_E.br (c := (1 : Int32) = 0) (tt := 72) (ff := 75) (L' := [.retAddr 0, .retAddr 0, .int v2, .retAddr 0, .int v4, .int v5, .ref 65, .ref 71]) (S' := []) (σ' := (97, I, J, R)) rfl (fun hn => absurd hn (by decide)) (fun _ => ?_)
              refine az_E.sn 3 (pc' := 80) (L' := [.retAddr 0, .retAddr 0, .int v2, .retAddr 0, .int v4, .int v5, .ref 65, .ref 71]) (S' := [.int v5, .int v2, .ref 65]) (σ' := (97, I, J, R)) rfl ?_
              refine az_E.call (d := 1) (k' := 60) (vs := [.ref 65, .int v2, .int v5]) (pc' := 83) (S' := []) rfl ?_ (fun _ _ hq => hq)
              show az_E az_F ex 1 60 0 [.ref 65, .int v2, .int v5] [] (97, I, J, R) _
              refine az_E.sn 1 (pc' := 1) (L' := [.ref 65, .int v2, .int v5]) (S' := [.int v2]) (σ' := (97, I, J, R)) rfl ?_
              refine az_E.br (c := v2 < 0) (tt := 30) (ff := 4) (L' := [.ref 65, .int v2, .int v5]) (S' := []) (σ' := (97, I, J, R)) rfl (fun hc_960 => ?_) (fun hc_960 => ?_)
              · rw [if_pos hc_960] at h
                refine az_E.sn 1 (pc' := 31) (L' := [.ref 65, .int v2, .int v5]) (S' := [.int (0 : Int32)]) (σ' := (97, I, J, R)) rfl ?_
                refine az_E.ret (v := some (.int (0 : Int32))) (σ' := (97, I, J, R)) rfl ?_
                show az_E az_F ex 2 128 83 [.retAddr 0, .retAddr 0, .int v2, .retAddr 0, .int v4, .int v5, .ref 65, .ref 71] [.int (0 : Int32)] (97, I, J, R) _
                refine az_E.br (c := (0 : Int32) = 0) (tt := 98) (ff := 86) (L' := [.retAddr 0, .retAddr 0, .int v2, .retAddr 0, .int v4, .int v5, .ref 65, .ref 71]) (S' := []) (σ' := (97, I, J, R)) rfl (fun _ => ?_) (fun hn => absurd (by decide) hn)
                refine az_E.sn 1 (pc' := 100) (L' := [.retAddr 0, .retAddr 0, .int v2, .retAddr 0, .int v4, .int v5, .ref 65, .ref 71]) (S' := [.int (-13 : Int32)]) (σ' := (97, I, J, R)) rfl ?_
                have h := Option.some.inj h
                subst h
                exact az_E.ret (v := some (.int (-13 : Int32))) (σ' := (97, I, J, R)) rfl hQ
              · rw [if_neg hc_960] at h
                refine az_E.sn 1 (pc' := 5) (L' := [.ref 65, .int v2, .int v5]) (S' := [.int v5]) (σ' := (97, I, J, R)) rfl ?_
                refine az_E.br (c := v5 < 0) (tt := 30) (ff := 8) (L' := [.ref 65, .int v2, .int v5]) (S' := []) (σ' := (97, I, J, R)) rfl (fun hc_961 => ?_) (fun hc_961 => ?_)
                · rw [if_pos hc_961] at h
                  refine az_E.sn 1 (pc' := 31) (L' := [.ref 65, .int v2, .int v5]) (S' := [.int (0 : Int32)]) (σ' := (97, I, J, R)) rfl ?_
                  refine az_E.ret (v := some (.int (0 : Int32))) (σ' := (97, I, J, R)) rfl ?_
                  show az_E az_F ex 2 128 83 [.retAddr 0, .retAddr 0, .int v2, .retAddr 0, .int v4, .int v5, .ref 65, .ref 71] [.int (0 : Int32)] (97, I, J, R) _
                  refine az_E.br (c := (0 : Int32) = 0) (tt := 98) (ff := 86) (L' := [.retAddr 0, .retAddr 0, .int v2, .retAddr 0, .int v4, .int v5, .ref 65, .ref 71]) (S' := []) (σ' := (97, I, J, R)) rfl (fun _ => ?_) (fun hn => absurd (by decide) hn)
                  refine az_E.sn 1 (pc' := 100) (L' := [.retAddr 0, .retAddr 0, .int v2, .retAddr 0, .int v4, .int v5, .ref 65, .ref 71]) (S' := [.int (-13 : Int32)]) (σ' := (97, I, J, R)) rfl ?_
                  have h := Option.some.inj h
                  subst h
                  exact az_E.ret (v := some (.int (-13 : Int32))) (σ' := (97, I, J, R)) rfl hQ
                · rw [if_neg hc_961] at h
                  refine az_E.sn 3 (pc' := 13) (L' := [.ref 65, .int v2, .int v5]) (S' := [.int (I 65 2), .int v2]) (σ' := (97, I, J, R)) rfl ?_
                  refine az_E.br (c := (I 65 2) < v2) (tt := 30) (ff := 16) (L' := [.ref 65, .int v2, .int v5]) (S' := []) (σ' := (97, I, J, R)) rfl (fun hc_962 => ?_) (fun hc_962 => ?_)
                  · rw [if_pos hc_962] at h
                    refine az_E.sn 1 (pc' := 31) (L' := [.ref 65, .int v2, .int v5]) (S' := [.int (0 : Int32)]) (σ' := (97, I, J, R)) rfl ?_
                    refine az_E.ret (v := some (.int (0 : Int32))) (σ' := (97, I, J, R)) rfl ?_
                    show az_E az_F ex 2 128 83 [.retAddr 0, .retAddr 0, .int v2, .retAddr 0, .int v4, .int v5, .ref 65, .ref 71] [.int (0 : Int32)] (97, I, J, R) _
                    refine az_E.br (c := (0 : Int32) = 0) (tt := 98) (ff := 86) (L' := [.retAddr 0, .retAddr 0, .int v2, .retAddr 0, .int v4, .int v5, .ref 65, .ref 71]) (S' := []) (σ' := (97, I, J, R)) rfl (fun _ => ?_) (fun hn => absurd (by decide) hn)
                    refine az_E.sn 1 (pc' := 100) (L' := [.retAddr 0, .retAddr 0, .int v2, .retAddr 0, .int v4, .int v5, .ref 65, .ref 71]) (S' := [.int (-13 : Int32)]) (σ' := (97, I, J, R)) rfl ?_
                    have h := Option.some.inj h
                    subst h
                    exact az_E.ret (v := some (.int (-13 : Int32))) (σ' := (97, I, J, R)) rfl hQ
                  · rw [if_neg hc_962] at h
                    refine az_E.sn 5 (pc' := 23) (L' := [.ref 65, .int v2, .int v5]) (S' := [.int ((I 65 2) - v2), .int v5]) (σ' := (97, I, J, R)) rfl ?_
                    refine az_E.br (c := ((I 65 2) - v2) < v5) (tt := 30) (ff := 26) (L' := [.ref 65, .int v2, .int v5]) (S' := []) (σ' := (97, I, J, R)) rfl (fun hc_963 => ?_) (fun hc_963 => ?_)
                    · rw [if_pos hc_963] at h
                      refine az_E.sn 1 (pc' := 31) (L' := [.ref 65, .int v2, .int v5]) (S' := [.int (0 : Int32)]) (σ' := (97, I, J, R)) rfl ?_
                      refine az_E.ret (v := some (.int (0 : Int32))) (σ' := (97, I, J, R)) rfl ?_
                      show az_E az_F ex 2 128 83 [.retAddr 0, .retAddr 0, .int v2, .retAddr 0, .int v4, .int v5, .ref 65, .ref 71] [.int (0 : Int32)] (97, I, J, R) _
                      refine az_E.br (c := (0 : Int32) = 0) (tt := 98) (ff := 86) (L' := [.retAddr 0, .retAddr 0, .int v2, .retAddr 0, .int v4, .int v5, .ref 65, .ref 71]) (S' := []) (σ' := (97, I, J, R)) rfl (fun _ => ?_) (fun hn => absurd (by decide) hn)
                      refine az_E.sn 1 (pc' := 100) (L' := [.retAddr 0, .retAddr 0, .int v2, .retAddr 0, .int v4, .int v5, .ref 65, .ref 71]) (S' := [.int (-13 : Int32)]) (σ' := (97, I, J, R)) rfl ?_
                      have h := Option.some.inj h
                      subst h
                      exact az_E.ret (v := some (.int (-13 : Int32))) (σ' := (97, I, J, R)) rfl hQ
                    · rw [if_neg hc_963] at h
                      refine az_E.sn 2 (pc' := 31) (L' := [.ref 65, .int v2, .int v5]) (S' := [.int (1 : Int32)]) (σ' := (97, I, J, R)) rfl ?_
                      refine az_E.ret (v := some (.int (1 : Int32))) (σ' := (97, I, J, R)) rfl ?_
                      show az_E az_F ex 2 128 83 [.retAddr 0, .retAddr 0, .int v2, .retAddr 0, .int v4, .int v5, .ref 65, .ref 71] [.int (1 : Int32)] (97, I, J, R) _
                      refine az_E.br (c := (1 : Int32) = 0) (tt := 98) (ff := 86) (L' := [.retAddr 0, .retAddr 0, .int v2, .retAddr 0, .int v4, .int v5, .ref 65, .ref 71]) (S' := []) (σ' := (97, I, J, R)) rfl (fun hn => absurd hn (by decide)) (fun _ => ?_)
                      refine az_E.sn 3 (pc' := 92) (L' := [.retAddr 0, .retAddr 0, .int v2, .retAddr 0, .int v4, .int v5, .ref 65, .ref 71]) (S' := [.int v5, .int v4, .ref 71]) (σ' := (97, I, J, R)) rfl ?_
                      refine az_E.call (d := 1) (k' := 60) (vs := [.ref 71, .int v4, .int v5]) (pc' := 95) (S' := []) rfl ?_ (fun _ _ hq => hq)
                      show az_E az_F ex 1 60 0 [.ref 71, .int v4, .int v5] [] (97, I, J, R) _
                      refine az_E.sn 1 (pc' := 1) (L' := [.ref 71, .int v4, .int v5]) (S' := [.int v4]) (σ' := (97, I, J, R)) rfl ?_
                      refine az_E.br (c := v4 < 0) (tt := 30) (ff := 4) (L' := [.ref 71, .int v4, .int v5]) (S' := []) (σ' := (97, I, J, R)) rfl (fun hc_964 => ?_) (fun hc_964 => ?_)
                      · rw [if_pos hc_964] at h
                        refine az_E.sn 1 (pc' := 31) (L' := [.ref 71, .int v4, .int v5]) (S' := [.int (0 : Int32)]) (σ' := (97, I, J, R)) rfl ?_
                        refine az_E.ret (v := some (.int (0 : Int32))) (σ' := (97, I, J, R)) rfl ?_
                        show az_E az_F ex 2 128 95 [.retAddr 0, .retAddr 0, .int v2, .retAddr 0, .int v4, .int v5, .ref 65, .ref 71] [.int (0 : Int32)] (97, I, J, R) _
                        refine az_E.br (c := (0 : Int32) = 0) (tt := 98) (ff := 101) (L' := [.retAddr 0, .retAddr 0, .int v2, .retAddr 0, .int v4, .int v5, .ref 65, .ref 71]) (S' := []) (σ' := (97, I, J, R)) rfl (fun _ => ?_) (fun hn => absurd (by decide) hn)
                        refine az_E.sn 1 (pc' := 100) (L' := [.retAddr 0, .retAddr 0, .int v2, .retAddr 0, .int v4, .int v5, .ref 65, .ref 71]) (S' := [.int (-13 : Int32)]) (σ' := (97, I, J, R)) rfl ?_
                        have h := Option.some.inj h
                        subst h
                        exact az_E.ret (v := some (.int (-13 : Int32))) (σ' := (97, I, J, R)) rfl hQ
                      · rw [if_neg hc_964] at h
                        refine az_E.sn 1 (pc' := 5) (L' := [.ref 71, .int v4, .int v5]) (S' := [.int v5]) (σ' := (97, I, J, R)) rfl ?_
                        refine az_E.br (c := v5 < 0) (tt := 30) (ff := 8) (L' := [.ref 71, .int v4, .int v5]) (S' := []) (σ' := (97, I, J, R)) rfl (fun hc_965 => ?_) (fun hc_965 => ?_)
                        · rw [if_pos hc_965] at h
                          refine az_E.sn 1 (pc' := 31) (L' := [.ref 71, .int v4, .int v5]) (S' := [.int (0 : Int32)]) (σ' := (97, I, J, R)) rfl ?_
                          refine az_E.ret (v := some (.int (0 : Int32))) (σ' := (97, I, J, R)) rfl ?_
                          show az_E az_F ex 2 128 95 [.retAddr 0, .retAddr 0, .int v2, .retAddr 0, .int v4, .int v5, .ref 65, .ref 71] [.int (0 : Int32)] (97, I, J, R) _
                          refine az_E.br (c := (0 : Int32) = 0) (tt := 98) (ff := 101) (L' := [.retAddr 0, .retAddr 0, .int v2, .retAddr 0, .int v4, .int v5, .ref 65, .ref 71]) (S' := []) (σ' := (97, I, J, R)) rfl (fun _ => ?_) (fun hn => absurd (by decide) hn)
                          refine az_E.sn 1 (pc' := 100) (L' := [.retAddr 0, .retAddr 0, .int v2, .retAddr 0, .int v4, .int v5, .ref 65, .ref 71]) (S' := [.int (-13 : Int32)]) (σ' := (97, I, J, R)) rfl ?_
                          have h := Option.some.inj h
                          subst h
                          exact az_E.ret (v := some (.int (-13 : Int32))) (σ' := (97, I, J, R)) rfl hQ
                        · rw [if_neg hc_965] at h
                          refine az_E.sn 3 (pc' := 13) (L' := [.ref 71, .int v4, .int v5]) (S' := [.int (I 71 2), .int v4]) (σ' := (97, I, J, R)) rfl ?_
                          refine az_E.br (c := (I 71 2) < v4) (tt := 30) (ff := 16) (L' := [.ref 71, .int v4, .int v5]) (S' := []) (σ' := (97, I, J, R)) rfl (fun hc_966 => ?_) (fun hc_966 => ?_)
                          · rw [if_pos hc_966] at h
                            refine az_E.sn 1 (pc' := 31) (L' := [.ref 71, .int v4, .int v5]) (S' := [.int (0 : Int32)]) (σ' := (97, I, J, R)) rfl ?_
                            refine az_E.ret (v := some (.int (0 : Int32))) (σ' := (97, I, J, R)) rfl ?_
                            show az_E az_F ex 2 128 95 [.retAddr 0, .retAddr 0, .int v2, .retAddr 0, .int v4, .int v5, .ref 65, .ref 71] [.int (0 : Int32)] (97, I, J, R) _
                            refine az_E.br (c := (0 : Int32) = 0) (tt := 98) (ff := 101) (L' := [.retAddr 0, .retAddr 0, .int v2, .retAddr 0, .int v4, .int v5, .ref 65, .ref 71]) (S' := []) (σ' := (97, I, J, R)) rfl (fun _ => ?_) (fun hn => absurd (by decide) hn)
                            refine az_E.sn 1 (pc' := 100) (L' := [.retAddr 0, .retAddr 0, .int v2, .retAddr 0, .int v4, .int v5, .ref 65, .ref 71]) (S' := [.int (-13 : Int32)]) (σ' := (97, I, J, R)) rfl ?_
                            have h := Option.some.inj h
                            subst h
                            exact az_E.ret (v := some (.int (-13 : Int32))) (σ' := (97, I, J, R)) rfl hQ
                          · rw [if_neg hc_966] at h
                            refine az_E.sn 5 (pc' := 23) (L' := [.ref 71, .int v4, .int v5]) (S' := [.int ((I 71 2) - v4), .int v5]) (σ' := (97, I, J, R)) rfl ?_
                            refine az_E.br (c := ((I 71 2) - v4) < v5) (tt := 30) (ff := 26) (L' := [.ref 71, .int v4, .int v5]) (S' := []) (σ' := (97, I, J, R)) rfl (fun hc_967 => ?_) (fun hc_967 => ?_)
                            · rw [if_pos hc_967] at h
                              refine az_E.sn 1 (pc' := 31) (L' := [.ref 71, .int v4, .int v5]) (S' := [.int (0 : Int32)]) (σ' := (97, I, J, R)) rfl ?_
                              refine az_E.ret (v := some (.int (0 : Int32))) (σ' := (97, I, J, R)) rfl ?_
                              show az_E az_F ex 2 128 95 [.retAddr 0, .retAddr 0, .int v2, .retAddr 0, .int v4, .int v5, .ref 65, .ref 71] [.int (0 : Int32)] (97, I, J, R) _
                              refine az_E.br (c := (0 : Int32) = 0) (tt := 98) (ff := 101) (L' := [.retAddr 0, .retAddr 0, .int v2, .retAddr 0, .int v4, .int v5, .ref 65, .ref 71]) (S' := []) (σ' := (97, I, J, R)) rfl (fun _ => ?_) (fun hn => absurd (by decide) hn)
                              refine az_E.sn 1 (pc' := 100) (L' := [.retAddr 0, .retAddr 0, .int v2, .retAddr 0, .int v4, .int v5, .ref 65, .ref 71]) (S' := [.int (-13 : Int32)]) (σ' := (97, I, J, R)) rfl ?_
                              have h := Option.some.inj h
                              subst h
                              exact az_E.ret (v := some (.int (-13 : Int32))) (σ' := (97, I, J, R)) rfl hQ
                            · rw [if_neg hc_967] at h
                              refine az_E.sn 2 (pc' := 31) (L' := [.ref 71, .int v4, .int v5]) (S' := [.int (1 : Int32)]) (σ' := (97, I, J, R)) rfl ?_
                              refine az_E.ret (v := some (.int (1 : Int32))) (σ' := (97, I, J, R)) rfl ?_
                              show az_E az_F ex 2 128 95 [.retAddr 0, .retAddr 0, .int v2, .retAddr 0, .int v4, .int v5, .ref 65, .ref 71] [.int (1 : Int32)] (97, I, J, R) _
                              refine az_E.br (c := (1 : Int32) = 0) (tt := 98) (ff := 101) (L' := [.retAddr 0, .retAddr 0, .int v2, .retAddr 0, .int v4, .int v5, .ref 65, .ref 71]) (S' := []) (σ' := (97, I, J, R)) rfl (fun hn => absurd hn (by decide)) (fun _ => ?_)
                              refine az_E.sn 7 (pc' := 116) (L' := [.retAddr 0, .retAddr 0, .int v2, .retAddr 0, .int v4, .int v5, .ref 65, .ref 71]) (S' := [.int v5, .int v4, .ref (71 + 1), .int v2, .ref (65 + 1)]) (σ' := (97, I, J, R)) rfl ?_
                              by_cases hc_968 : v2 < 0 ∨ v4 < 0 ∨ v5 < 0 ∨ 60 < v2.toNatClampNeg + v5.toNatClampNeg ∨ 60 < v4.toNatClampNeg + v5.toNatClampNeg
                              · rw [if_pos hc_968] at h; cases h
                              · rw [if_neg hc_968] at h
                                refine az_E.o (o := az_cp az_F (97, I, J, R) (65 + 1) v2 (71 + 1) v4 v5) (pc' := 119) (L' := [.retAddr 0, .retAddr 0, .int v2, .retAddr 0, .int v4, .int v5, .ref 65, .ref 71]) (S' := []) (x := (97, I, (az_ur J (71 + 1) (va_cpy (J (65 + 1)) (J (71 + 1)) v2.toNatClampNeg v4.toNatClampNeg v5.toNatClampNeg)), R)) rfl (if_neg hc_968) ?_
                                refine az_E.sn 1 (pc' := 121) (L' := [.retAddr 0, .retAddr 0, .int v2, .retAddr 0, .int v4, .int v5, .ref 65, .ref 71]) (S' := [.int v5]) (σ' := (97, I, (az_ur J (71 + 1) (va_cpy (J (65 + 1)) (J (71 + 1)) v2.toNatClampNeg v4.toNatClampNeg v5.toNatClampNeg)), R)) rfl ?_
                                have h := Option.some.inj h
                                subst h
                                exact az_E.ret (v := some (.int v5)) (σ' := (97, I, (az_ur J (71 + 1) (va_cpy (J (65 + 1)) (J (71 + 1)) v2.toNatClampNeg v4.toNatClampNeg v5.toNatClampNeg)), R)) rfl hQ
            · rw [if_neg hc_959] at h
              refine az_E.sn 1 (pc' := 20) (L' := [.ref 71, .int (I 65 1)]) (S' := [.int (0 : Int32)]) (σ' := (97, I, J, R)) rfl ?_
              refine az_E.ret (v := some (.int (0 : Int32))) (σ' := (97, I, J, R)) rfl ?_
              show az_E az_F ex 2 128 69 [.retAddr 0, .retAddr 0, .int v2, .retAddr 0, .int v4, .int v5, .ref 65, .ref 71] [.int (0 : Int32)] (97, I, J, R) _
              refine az_E.br (c := (0 : Int32) = 0) (tt := 72) (ff := 75) (L' := [.retAddr 0, .retAddr 0, .int v2, .retAddr 0, .int v4, .int v5, .ref 65, .ref 71]) (S' := []) (σ' := (97, I, J, R)) rfl (fun _ => ?_) (fun hn => absurd (by decide) hn)
              refine az_E.sn 1 (pc' := 74) (L' := [.retAddr 0, .retAddr 0, .int v2, .retAddr 0, .int v4, .int v5, .ref 65, .ref 71]) (S' := [.int (-12 : Int32)]) (σ' := (97, I, J, R)) rfl ?_
              have h := Option.some.inj h
              subst h
              exact az_E.ret (v := some (.int (-12 : Int32))) (σ' := (97, I, J, R)) rfl hQ
    · rw [if_neg hc_955] at h
      refine az_E.sn 1 (pc' := 21) (L' := [.ref 71]) (S' := [.int (0 : Int32)]) (σ' := (97, I, J, R)) rfl ?_
      refine az_E.ret (v := some (.int (0 : Int32))) (σ' := (97, I, J, R)) rfl ?_
      show az_E az_F ex 2 128 45 [.retAddr 0, .retAddr 0, .int v2, .retAddr 0, .int v4, .int v5, .ref 65, .ref 71] [.int (0 : Int32)] (97, I, J, R) _
      refine az_E.br (c := (0 : Int32) = 0) (tt := 51) (ff := 48) (L' := [.retAddr 0, .retAddr 0, .int v2, .retAddr 0, .int v4, .int v5, .ref 65, .ref 71]) (S' := []) (σ' := (97, I, J, R)) rfl (fun _ => ?_) (fun hn => absurd (by decide) hn)
      refine az_E.sn 1 (pc' := 53) (L' := [.retAddr 0, .retAddr 0, .int v2, .retAddr 0, .int v4, .int v5, .ref 65, .ref 71]) (S' := [.ref 65]) (σ' := (97, I, J, R)) rfl ?_
      refine az_E.call (d := 1) (k' := 55) (vs := [.ref 65]) (pc' := 56) (S' := []) rfl ?_ (fun _ _ hq => hq)
      show az_E az_F ex 1 55 0 [.ref 65] [] (97, I, J, R) _
      refine az_E.sn 3 (pc' := 5) (L' := [.ref 65]) (S' := [.int (-1 : Int32), .int (I 65 1)]) (σ' := (97, I, J, R)) rfl ?_
      refine az_E.br (c := (I 65 1) = (-1 : Int32)) (tt := 12) (ff := 8) (L' := [.ref 65]) (S' := []) (σ' := (97, I, J, R)) rfl (fun hc_969 => ?_) (fun hc_969 => ?_)
      · rw [if_pos hc_969] at h
        refine az_E.sn 1 (pc' := 13) (L' := [.ref 65]) (S' := [.int (0 : Int32)]) (σ' := (97, I, J, R)) rfl ?_
        refine az_E.ret (v := some (.int (0 : Int32))) (σ' := (97, I, J, R)) rfl ?_
        show az_E az_F ex 2 128 56 [.retAddr 0, .retAddr 0, .int v2, .retAddr 0, .int v4, .int v5, .ref 65, .ref 71] [.int (0 : Int32)] (97, I, J, R) _
        refine az_E.br (c := (0 : Int32) = 0) (tt := 72) (ff := 59) (L' := [.retAddr 0, .retAddr 0, .int v2, .retAddr 0, .int v4, .int v5, .ref 65, .ref 71]) (S' := []) (σ' := (97, I, J, R)) rfl (fun _ => ?_) (fun hn => absurd (by decide) hn)
        refine az_E.sn 1 (pc' := 74) (L' := [.retAddr 0, .retAddr 0, .int v2, .retAddr 0, .int v4, .int v5, .ref 65, .ref 71]) (S' := [.int (-12 : Int32)]) (σ' := (97, I, J, R)) rfl ?_
        have h := Option.some.inj h
        subst h
        exact az_E.ret (v := some (.int (-12 : Int32))) (σ' := (97, I, J, R)) rfl hQ
      · rw [if_neg hc_969] at h
        refine az_E.sn 2 (pc' := 13) (L' := [.ref 65]) (S' := [.int (1 : Int32)]) (σ' := (97, I, J, R)) rfl ?_
        refine az_E.ret (v := some (.int (1 : Int32))) (σ' := (97, I, J, R)) rfl ?_
        show az_E az_F ex 2 128 56 [.retAddr 0, .retAddr 0, .int v2, .retAddr 0, .int v4, .int v5, .ref 65, .ref 71] [.int (1 : Int32)] (97, I, J, R) _
        refine az_E.br (c := (1 : Int32) = 0) (tt := 72) (ff := 59) (L' := [.retAddr 0, .retAddr 0, .int v2, .retAddr 0, .int v4, .int v5, .ref 65, .ref 71]) (S' := []) (σ' := (97, I, J, R)) rfl (fun hn => absurd hn (by decide)) (fun _ => ?_)
        refine az_E.sn 3 (pc' := 66) (L' := [.retAddr 0, .retAddr 0, .int v2, .retAddr 0, .int v4, .int v5, .ref 65, .ref 71]) (S' := [.int (I 65 1), .ref 71]) (σ' := (97, I, J, R)) rfl ?_
        refine az_E.call (d := 1) (k' := 56) (vs := [.ref 71, .int (I 65 1)]) (pc' := 69) (S' := []) rfl ?_ (fun _ _ hq => hq)
        show az_E az_F ex 1 56 0 [.ref 71, .int (I 65 1)] [] (97, I, J, R) _
        refine az_E.sn 1 (pc' := 1) (L' := [.ref 71, .int (I 65 1)]) (S' := [.ref 71]) (σ' := (97, I, J, R)) rfl ?_
        refine az_E.call (d := 0) (k' := 55) (vs := [.ref 71]) (pc' := 4) (S' := []) rfl ?_ (fun _ _ hq => hq)
        show az_E az_F ex 0 55 0 [.ref 71] [] (97, I, J, R) _
        refine az_E.sn 3 (pc' := 5) (L' := [.ref 71]) (S' := [.int (-1 : Int32), .int (I 71 1)]) (σ' := (97, I, J, R)) rfl ?_
        refine az_E.br (c := (I 71 1) = (-1 : Int32)) (tt := 12) (ff := 8) (L' := [.ref 71]) (S' := []) (σ' := (97, I, J, R)) rfl (fun hc_970 => ?_) (fun hc_970 => ?_)
        · rw [if_pos hc_970] at h
          refine az_E.sn 1 (pc' := 13) (L' := [.ref 71]) (S' := [.int (0 : Int32)]) (σ' := (97, I, J, R)) rfl ?_
          refine az_E.ret (v := some (.int (0 : Int32))) (σ' := (97, I, J, R)) rfl ?_
          show az_E az_F ex 1 56 4 [.ref 71, .int (I 65 1)] [.int (0 : Int32)] (97, I, J, R) _
          refine az_E.br (c := (0 : Int32) = 0) (tt := 19) (ff := 7) (L' := [.ref 71, .int (I 65 1)]) (S' := []) (σ' := (97, I, J, R)) rfl (fun _ => ?_) (fun hn => absurd (by decide) hn)
          refine az_E.sn 1 (pc' := 20) (L' := [.ref 71, .int (I 65 1)]) (S' := [.int (0 : Int32)]) (σ' := (97, I, J, R)) rfl ?_
          refine az_E.ret (v := some (.int (0 : Int32))) (σ' := (97, I, J, R)) rfl ?_
          show az_E az_F ex 2 128 69 [.retAddr 0, .retAddr 0, .int v2, .retAddr 0, .int v4, .int v5, .ref 65, .ref 71] [.int (0 : Int32)] (97, I, J, R) _
          refine az_E.br (c := (0 : Int32) = 0) (tt := 72) (ff := 75) (L' := [.retAddr 0, .retAddr 0, .int v2, .retAddr 0, .int v4, .int v5, .ref 65, .ref 71]) (S' := []) (σ' := (97, I, J, R)) rfl (fun _ => ?_) (fun hn => absurd (by decide) hn)
          refine az_E.sn 1 (pc' := 74) (L' := [.retAddr 0, .retAddr 0, .int v2, .retAddr 0, .int v4, .int v5, .ref 65, .ref 71]) (S' := [.int (-12 : Int32)]) (σ' := (97, I, J, R)) rfl ?_
          have h := Option.some.inj h
          subst h
          exact az_E.ret (v := some (.int (-12 : Int32))) (σ' := (97, I, J, R)) rfl hQ
        · rw [if_neg hc_970] at h
          refine az_E.sn 2 (pc' := 13) (L' := [.ref 71]) (S' := [.int (1 : Int32)]) (σ' := (97, I, J, R)) rfl ?_
          refine az_E.ret (v := some (.int (1 : Int32))) (σ' := (97, I, J, R)) rfl ?_
          show az_E az_F ex 1 56 4 [.ref 71, .int (I 65 1)] [.int (1 : Int32)] (97, I, J, R) _
          refine az_E.br (c := (1 : Int32) = 0) (tt := 19) (ff := 7) (L' := [.ref 71, .int (I 65 1)]) (S' := []) (σ' := (97, I, J, R)) rfl (fun hn => absurd hn (by decide)) (fun _ => ?_)
          refine az_E.sn 3 (pc' := 12) (L' := [.ref 71, .int (I 65 1)]) (S' := [.int (I 65 1), .int (I 71 1)]) (σ' := (97, I, J, R)) rfl ?_
          refine az_E.br (c := (I 71 1) = (I 65 1)) (tt := 15) (ff := 19) (L' := [.ref 71, .int (I 65 1)]) (S' := []) (σ' := (97, I, J, R)) rfl (fun hc_971 => ?_) (fun hc_971 => ?_)
          · rw [if_pos hc_971] at h
            refine az_E.sn 2 (pc' := 20) (L' := [.ref 71, .int (I 65 1)]) (S' := [.int (1 : Int32)]) (σ' := (97, I, J, R)) rfl ?_
            refine az_E.ret (v := some (.int (1 : Int32))) (σ' := (97, I, J, R)) rfl ?_
            show az_E az_F ex 2 128 69 [.retAddr 0, .retAddr 0, .int v2, .retAddr 0, .int v4, .int v5, .ref 65, .ref 71] [.int (1 : Int32)] (97, I, J, R) _
            refine az_E.br (c := (1 : Int32) = 0) (tt := 72) (ff := 75) (L' := [.retAddr 0, .retAddr 0, .int v2, .retAddr 0, .int v4, .int v5, .ref 65, .ref 71]) (S' := []) (σ' := (97, I, J, R)) rfl (fun hn => absurd hn (by decide)) (fun _ => ?_)
            refine az_E.sn 3 (pc' := 80) (L' := [.retAddr 0, .retAddr 0, .int v2, .retAddr 0, .int v4, .int v5, .ref 65, .ref 71]) (S' := [.int v5, .int v2, .ref 65]) (σ' := (97, I, J, R)) rfl ?_
            refine az_E.call (d := 1) (k' := 60) (vs := [.ref 65, .int v2, .int v5]) (pc' := 83) (S' := []) rfl ?_ (fun _ _ hq => hq)
            show az_E az_F ex 1 60 0 [.ref 65, .int v2, .int v5] [] (97, I, J, R) _
            refine az_E.sn 1 (pc' := 1) (L' := [.ref 65, .int v2, .int v5]) (S' := [.int v2]) (σ' := (97, I, J, R)) rfl ?_
            refine az_E.br (c := v2 < 0) (tt := 30) (ff := 4) (L' := [.ref 65, .int v2, .int v5]) (S' := []) (σ' := (97, I, J, R)) rfl (fun hc_972 => ?_) (fun hc_972 => ?_)
            · rw [if_pos hc_972] at h
              refine az_E.sn 1 (pc' := 31) (L' := [.ref 65, .int v2, .int v5]) (S' := [.int (0 : Int32)]) (σ' := (97, I, J, R)) rfl ?_
              refine az_E.ret (v := some (.int (0 : Int32))) (σ' := (97, I, J, R)) rfl ?_
              show az_E az_F ex 2 128 83 [.retAddr 0, .retAddr 0, .int v2, .retAddr 0, .int v4, .int v5, .ref 65, .ref 71] [.int (0 : Int32)] (97, I, J, R) _
              refine az_E.br (c := (0 : Int32) = 0) (tt := 98) (ff := 86) (L' := [.retAddr 0, .retAddr 0, .int v2, .retAddr 0, .int v4, .int v5, .ref 65, .ref 71]) (S' := []) (σ' := (97, I, J, R)) rfl (fun _ => ?_) (fun hn => absurd (by decide) hn)
              refine az_E.sn 1 (pc' := 100) (L' := [.retAddr 0, .retAddr 0, .int v2, .retAddr 0, .int v4, .int v5, .ref 65, .ref 71]) (S' := [.int (-13 : Int32)]) (σ' := (97, I, J, R)) rfl ?_
              have h := Option.some.inj h
              subst h
              exact az_E.ret (v := some (.int (-13 : Int32))) (σ' := (97, I, J, R)) rfl hQ
            · rw [if_neg hc_972] at h
              refine az_E.sn 1 (pc' := 5) (L' := [.ref 65, .int v2, .int v5]) (S' := [.int v5]) (σ' := (97, I, J, R)) rfl ?_
              refine az_E.br (c := v5 < 0) (tt := 30) (ff := 8) (L' := [.ref 65, .int v2, .int v5]) (S' := []) (σ' := (97, I, J, R)) rfl (fun hc_973 => ?_) (fun hc_973 => ?_)
              · rw [if_pos hc_973] at h
                refine az_E.sn 1 (pc' := 31) (L' := [.ref 65, .int v2, .int v5]) (S' := [.int (0 : Int32)]) (σ' := (97, I, J, R)) rfl ?_
                refine az_E.ret (v := some (.int (0 : Int32))) (σ' := (97, I, J, R)) rfl ?_
                show az_E az_F ex 2 128 83 [.retAddr 0, .retAddr 0, .int v2, .retAddr 0, .int v4, .int v5, .ref 65, .ref 71] [.int (0 : Int32)] (97, I, J, R) _
                refine az_E.br (c := (0 : Int32) = 0) (tt := 98) (ff := 86) (L' := [.retAddr 0, .retAddr 0, .int v2, .retAddr 0, .int v4, .int v5, .ref 65, .ref 71]) (S' := []) (σ' := (97, I, J, R)) rfl (fun _ => ?_) (fun hn => absurd (by decide) hn)
                refine az_E.sn 1 (pc' := 100) (L' := [.retAddr 0, .retAddr 0, .int v2, .retAddr 0, .int v4, .int v5, .ref 65, .ref 71]) (S' := [.int (-13 : Int32)]) (σ' := (97, I, J, R)) rfl ?_
                have h := Option.some.inj h
                subst h
                exact az_E.ret (v := some (.int (-13 : Int32))) (σ' := (97, I, J, R)) rfl hQ
              · rw [if_neg hc_973] at h
                refine az_E.sn 3 (pc' := 13) (L' := [.ref 65, .int v2, .int v5]) (S' := [.int (I 65 2), .int v2]) (σ' := (97, I, J, R)) rfl ?_
                refine az_E.br (c := (I 65 2) < v2) (tt := 30) (ff := 16) (L' := [.ref 65, .int v2, .int v5]) (S' := []) (σ' := (97, I, J, R)) rfl (fun hc_974 => ?_) (fun hc_974 => ?_)
                · rw [if_pos hc_974] at h
                  refine az_E.sn 1 (pc' := 31) (L' := [.ref 65, .int v2, .int v5]) (S' := [.int (0 : Int32)]) (σ' := (97, I, J, R)) rfl ?_
                  refine az_E.ret (v := some (.int (0 : Int32))) (σ' := (97, I, J, R)) rfl ?_
                  show az_E az_F ex 2 128 83 [.retAddr 0, .retAddr 0, .int v2, .retAddr 0, .int v4, .int v5, .ref 65, .ref 71] [.int (0 : Int32)] (97, I, J, R) _
                  refine az_E.br (c := (0 : Int32) = 0) (tt := 98) (ff := 86) (L' := [.retAddr 0, .retAddr 0, .int v2, .retAddr 0, .int v4, .int v5, .ref 65, .ref 71]) (S' := []) (σ' := (97, I, J, R)) rfl (fun _ => ?_) (fun hn => absurd (by decide) hn)
                  refine az_E.sn 1 (pc' := 100) (L' := [.retAddr 0, .retAddr 0, .int v2, .retAddr 0, .int v4, .int v5, .ref 65, .ref 71]) (S' := [.int (-13 : Int32)]) (σ' := (97, I, J, R)) rfl ?_
                  have h := Option.some.inj h
                  subst h
                  exact az_E.ret (v := some (.int (-13 : Int32))) (σ' := (97, I, J, R)) rfl hQ
                · rw [if_neg hc_974] at h
                  refine az_E.sn 5 (pc' := 23) (L' := [.ref 65, .int v2, .int v5]) (S' := [.int ((I 65 2) - v2), .int v5]) (σ' := (97, I, J, R)) rfl ?_
                  refine az_E.br (c := ((I 65 2) - v2) < v5) (tt := 30) (ff := 26) (L' := [.ref 65, .int v2, .int v5]) (S' := []) (σ' := (97, I, J, R)) rfl (fun hc_975 => ?_) (fun hc_975 => ?_)
                  · rw [if_pos hc_975] at h
                    refine az_E.sn 1 (pc' := 31) (L' := [.ref 65, .int v2, .int v5]) (S' := [.int (0 : Int32)]) (σ' := (97, I, J, R)) rfl ?_
                    refine az_E.ret (v := some (.int (0 : Int32))) (σ' := (97, I, J, R)) rfl ?_
                    show az_E az_F ex 2 128 83 [.retAddr 0, .retAddr 0, .int v2, .retAddr 0, .int v4, .int v5, .ref 65, .ref 71] [.int (0 : Int32)] (97, I, J, R) _
                    refine az_E.br (c := (0 : Int32) = 0) (tt := 98) (ff := 86) (L' := [.retAddr 0, .retAddr 0, .int v2, .retAddr 0, .int v4, .int v5, .ref 65, .ref 71]) (S' := []) (σ' := (97, I, J, R)) rfl (fun _ => ?_) (fun hn => absurd (by decide) hn)
                    refine az_E.sn 1 (pc' := 100) (L' := [.retAddr 0, .retAddr 0, .int v2, .retAddr 0, .int v4, .int v5, .ref 65, .ref 71]) (S' := [.int (-13 : Int32)]) (σ' := (97, I, J, R)) rfl ?_
                    have h := Option.some.inj h
                    subst h
                    exact az_E.ret (v := some (.int (-13 : Int32))) (σ' := (97, I, J, R)) rfl hQ
                  · rw [if_neg hc_975] at h
                    refine az_E.sn 2 (pc' := 31) (L' := [.ref 65, .int v2, .int v5]) (S' := [.int (1 : Int32)]) (σ' := (97, I, J, R)) rfl ?_
                    refine az_E.ret (v := some (.int (1 : Int32))) (σ' := (97, I, J, R)) rfl ?_
                    show az_E az_F ex 2 128 83 [.retAddr 0, .retAddr 0, .int v2, .retAddr 0, .int v4, .int v5, .ref 65, .ref 71] [.int (1 : Int32)] (97, I, J, R) _
                    refine az_E.br (c := (1 : Int32) = 0) (tt := 98) (ff := 86) (L' := [.retAddr 0, .retAddr 0, .int v2, .retAddr 0, .int v4, .int v5, .ref 65, .ref 71]) (S' := []) (σ' := (97, I, J, R)) rfl (fun hn => absurd hn (by decide)) (fun _ => ?_)
                    refine az_E.sn 3 (pc' := 92) (L' := [.retAddr 0, .retAddr 0, .int v2, .retAddr 0, .int v4, .int v5, .ref 65, .ref 71]) (S' := [.int v5, .int v4, .ref 71]) (σ' := (97, I, J, R)) rfl ?_
                    refine az_E.call (d := 1) (k' := 60) (vs := [.ref 71, .int v4, .int v5]) (pc' := 95) (S' := []) rfl ?_ (fun _ _ hq => hq)
                    show az_E az_F ex 1 60 0 [.ref 71, .int v4, .int v5] [] (97, I, J, R) _
                    refine az_E.sn 1 (pc' := 1) (L' := [.ref 71, .int v4, .int v5]) (S' := [.int v4]) (σ' := (97, I, J, R)) rfl ?_
                    refine az_E.br (c := v4 < 0) (tt := 30) (ff := 4) (L' := [.ref 71, .int v4, .int v5]) (S' := []) (σ' := (97, I, J, R)) rfl (fun hc_976 => ?_) (fun hc_976 => ?_)
                    · rw [if_pos hc_976] at h
                      refine az_E.sn 1 (pc' := 31) (L' := [.ref 71, .int v4, .int v5]) (S' := [.int (0 : Int32)]) (σ' := (97, I, J, R)) rfl ?_
                      refine az_E.ret (v := some (.int (0 : Int32))) (σ' := (97, I, J, R)) rfl ?_
                      show az_E az_F ex 2 128 95 [.retAddr 0, .retAddr 0, .int v2, .retAddr 0, .int v4, .int v5, .ref 65, .ref 71] [.int (0 : Int32)] (97, I, J, R) _
                      refine az_E.br (c := (0 : Int32) = 0) (tt := 98) (ff := 101) (L' := [.retAddr 0, .retAddr 0, .int v2, .retAddr 0, .int v4, .int v5, .ref 65, .ref 71]) (S' := []) (σ' := (97, I, J, R)) rfl (fun _ => ?_) (fun hn => absurd (by decide) hn)
                      refine az_E.sn 1 (pc' := 100) (L' := [.retAddr 0, .retAddr 0, .int v2, .retAddr 0, .int v4, .int v5, .ref 65, .ref 71]) (S' := [.int (-13 : Int32)]) (σ' := (97, I, J, R)) rfl ?_
                      have h := Option.some.inj h
                      subst h
                      exact az_E.ret (v := some (.int (-13 : Int32))) (σ' := (97, I, J, R)) rfl hQ
                    · rw [if_neg hc_976] at h
                      refine az_E.sn 1 (pc' := 5) (L' := [.ref 71, .int v4, .int v5]) (S' := [.int v5]) (σ' := (97, I, J, R)) rfl ?_
                      refine az_E.br (c := v5 < 0) (tt := 30) (ff := 8) (L' := [.ref 71, .int v4, .int v5]) (S' := []) (σ' := (97, I, J, R)) rfl (fun hc_977 => ?_) (fun hc_977 => ?_)
                      · rw [if_pos hc_977] at h
                        refine az_E.sn 1 (pc' := 31) (L' := [.ref 71, .int v4, .int v5]) (S' := [.int (0 : Int32)]) (σ' := (97, I, J, R)) rfl ?_
                        refine az_E.ret (v := some (.int (0 : Int32))) (σ' := (97, I, J, R)) rfl ?_
                        show az_E az_F ex 2 128 95 [.retAddr 0, .retAddr 0, .int v2, .retAddr 0, .int v4, .int v5, .ref 65, .ref 71] [.int (0 : Int32)] (97, I, J, R) _
                        refine az_E.br (c := (0 : Int32) = 0) (tt := 98) (ff := 101) (L' := [.retAddr 0, .retAddr 0, .int v2, .retAddr 0, .int v4, .int v5, .ref 65, .ref 71]) (S' := []) (σ' := (97, I, J, R)) rfl (fun _ => ?_) (fun hn => absurd (by decide) hn)
                        refine az_E.sn 1 (pc' := 100) (L' := [.retAddr 0, .retAddr 0, .int v2, .retAddr 0, .int v4, .int v5, .ref 65, .ref 71]) (S' := [.int (-13 : Int32)]) (σ' := (97, I, J, R)) rfl ?_
                        have h := Option.some.inj h
                        subst h
                        exact az_E.ret (v := some (.int (-13 : Int32))) (σ' := (97, I, J, R)) rfl hQ
                      · rw [if_neg hc_977] at h
                        refine az_E.sn 3 (pc' := 13) (L' := [.ref 71, .int v4, .int v5]) (S' := [.int (I 71 2), .int v4]) (σ' := (97, I, J, R)) rfl ?_
                        refine az_E.br (c := (I 71 2) < v4) (tt := 30) (ff := 16) (L' := [.ref 71, .int v4, .int v5]) (S' := []) (σ' := (97, I, J, R)) rfl (fun hc_978 => ?_) (fun hc_978 => ?_)
                        · rw [if_pos hc_978] at h
                          refine az_E.sn 1 (pc' := 31) (L' := [.ref 71, .int v4, .int v5]) (S' := [.int (0 : Int32)]) (σ' := (97, I, J, R)) rfl ?_
                          refine az_E.ret (v := some (.int (0 : Int32))) (σ' := (97, I, J, R)) rfl ?_
                          show az_E az_F ex 2 128 95 [.retAddr 0, .retAddr 0, .int v2, .retAddr 0, .int v4, .int v5, .ref 65, .ref 71] [.int (0 : Int32)] (97, I, J, R) _
                          refine az_E.br (c := (0 : Int32) = 0) (tt := 98) (ff := 101) (L' := [.retAddr 0, .retAddr 0, .int v2, .retAddr 0, .int v4, .int v5, .ref 65, .ref 71]) (S' := []) (σ' := (97, I, J, R)) rfl (fun _ => ?_) (fun hn => absurd (by decide) hn)
                          refine az_E.sn 1 (pc' := 100) (L' := [.retAddr 0, .retAddr 0, .int v2, .retAddr 0, .int v4, .int v5, .ref 65, .ref 71]) (S' := [.int (-13 : Int32)]) (σ' := (97, I, J, R)) rfl ?_
                          have h := Option.some.inj h
                          subst h
                          exact az_E.ret (v := some (.int (-13 : Int32))) (σ' := (97, I, J, R)) rfl hQ
                        · rw [if_neg hc_978] at h
                          refine az_E.sn 5 (pc' := 23) (L' := [.ref 71, .int v4, .int v5]) (S' := [.int ((I 71 2) - v4), .int v5]) (σ' := (97, I, J, R)) rfl ?_
                          refine az_E.br (c := ((I 71 2) - v4) < v5) (tt := 30) (ff := 26) (L' := [.ref 71, .int v4, .int v5]) (S' := []) (σ' := (97, I, J, R)) rfl (fun hc_979 => ?_) (fun hc_979 => ?_)
                          · rw [if_pos hc_979] at h
                            refine az_E.sn 1 (pc' := 31) (L' := [.ref 71, .int v4, .int v5]) (S' := [.int (0 : Int32)]) (σ' := (97, I, J, R)) rfl ?_
                            refine az_E.ret (v := some (.int (0 : Int32))) (σ' := (97, I, J, R)) rfl ?_
                            show az_E az_F ex 2 128 95 [.retAddr 0, .retAddr 0, .int v2, .retAddr 0, .int v4, .int v5, .ref 65, .ref 71] [.int (0 : Int32)] (97, I, J, R) _
                            refine az_E.br (c := (0 : Int32) = 0) (tt := 98) (ff := 101) (L' := [.retAddr 0, .retAddr 0, .int v2, .retAddr 0, .int v4, .int v5, .ref 65, .ref 71]) (S' := []) (σ' := (97, I, J, R)) rfl (fun _ => ?_) (fun hn => absurd (by decide) hn)
                            refine az_E.sn 1 (pc' := 100) (L' := [.retAddr 0, .retAddr 0, .int v2, .retAddr 0, .int v4, .int v5, .ref 65, .ref 71]) (S' := [.int (-13 : Int32)]) (σ' := (97, I, J, R)) rfl ?_
                            have h := Option.some.inj h
                            subst h
                            exact az_E.ret (v := some (.int (-13 : Int32))) (σ' := (97, I, J, R)) rfl hQ
                          · rw [if_neg hc_979] at h
                            refine az_E.sn 2 (pc' := 31) (L' := [.ref 71, .int v4, .int v5]) (S' := [.int (1 : Int32)]) (σ' := (97, I, J, R)) rfl ?_
                            refine az_E.ret (v := some (.int (1 : Int32))) (σ' := (97, I, J, R)) rfl ?_
                            show az_E az_F ex 2 128 95 [.retAddr 0, .retAddr 0, .int v2, .retAddr 0, .int v4, .int v5, .ref 65, .ref 71] [.int (1 : Int32)] (97, I, J, R) _
                            refine az_E.br (c := (1 : Int32) = 0) (tt := 98) (ff := 101) (L' := [.retAddr 0, .retAddr 0, .int v2, .retAddr 0, .int v4, .int v5, .ref 65, .ref 71]) (S' := []) (σ' := (97, I, J, R)) rfl (fun hn => absurd hn (by decide)) (fun _ => ?_)
                            refine az_E.sn 7 (pc' := 116) (L' := [.retAddr 0, .retAddr 0, .int v2, .retAddr 0, .int v4, .int v5, .ref 65, .ref 71]) (S' := [.int v5, .int v4, .ref (71 + 1), .int v2, .ref (65 + 1)]) (σ' := (97, I, J, R)) rfl ?_
                            by_cases hc_980 : v2 < 0 ∨ v4 < 0 ∨ v5 < 0 ∨ 60 < v2.toNatClampNeg + v5.toNatClampNeg ∨ 60 < v4.toNatClampNeg + v5.toNatClampNeg
                            · rw [if_pos hc_980] at h; cases h
                            · rw [if_neg hc_980] at h
                              refine az_E.o (o := az_cp az_F (97, I, J, R) (65 + 1) v2 (71 + 1) v4 v5) (pc' := 119) (L' := [.retAddr 0, .retAddr 0, .int v2, .retAddr 0, .int v4, .int v5, .ref 65, .ref 71]) (S' := []) (x := (97, I, (az_ur J (71 + 1) (va_cpy (J (65 + 1)) (J (71 + 1)) v2.toNatClampNeg v4.toNatClampNeg v5.toNatClampNeg)), R)) rfl (if_neg hc_980) ?_
                              refine az_E.sn 1 (pc' := 121) (L' := [.retAddr 0, .retAddr 0, .int v2, .retAddr 0, .int v4, .int v5, .ref 65, .ref 71]) (S' := [.int v5]) (σ' := (97, I, (az_ur J (71 + 1) (va_cpy (J (65 + 1)) (J (71 + 1)) v2.toNatClampNeg v4.toNatClampNeg v5.toNatClampNeg)), R)) rfl ?_
                              have h := Option.some.inj h
                              subst h
                              exact az_E.ret (v := some (.int v5)) (σ' := (97, I, (az_ur J (71 + 1) (va_cpy (J (65 + 1)) (J (71 + 1)) v2.toNatClampNeg v4.toNatClampNeg v5.toNatClampNeg)), R)) rfl hQ
          · rw [if_neg hc_971] at h
            refine az_E.sn 1 (pc' := 20) (L' := [.ref 71, .int (I 65 1)]) (S' := [.int (0 : Int32)]) (σ' := (97, I, J, R)) rfl ?_
            refine az_E.ret (v := some (.int (0 : Int32))) (σ' := (97, I, J, R)) rfl ?_
            show az_E az_F ex 2 128 69 [.retAddr 0, .retAddr 0, .int v2, .retAddr 0, .int v4, .int v5, .ref 65, .ref 71] [.int (0 : Int32)] (97, I, J, R) _
            refine az_E.br (c := (0 : Int32) = 0) (tt := 72) (ff := 75) (L' := [.retAddr 0, .retAddr 0, .int v2, .retAddr 0, .int v4, .int v5, .ref 65, .ref 71]) (S' := []) (σ' := (97, I, J, R)) rfl (fun _ => ?_) (fun hn => absurd (by decide) hn)
            refine az_E.sn 1 (pc' := 74) (L' := [.retAddr 0, .retAddr 0, .int v2, .retAddr 0, .int v4, .int v5, .ref 65, .ref 71]) (S' := [.int (-12 : Int32)]) (σ' := (97, I, J, R)) rfl ?_
            have h := Option.some.inj h
            subst h
            exact az_E.ret (v := some (.int (-12 : Int32))) (σ' := (97, I, J, R)) rfl hQ
set_option maxRecDepth 100000 in
set_option maxHeartbeats 4000000 in
theorem re_X_shift_22_65 {ex : az_X} {I : Nat → Nat → Int32} {J : Nat → Nat → Int64} {R : Nat → Nat → Option Nat} {v2 : Int32} {v3 : Int32} {v4 : Int32} {v5 : Int32} {x : Int32 × (Nat → Nat → Int64)} (h : rs_X_shift_22 65 I J v2 v3 v4 v5 = some x) {Q : Option Value → az_S → Prop} (hQ : Q (some (.int x.1)) (97, I, x.2, R)) : az_E az_F ex 2 128 22 [.ref 3, .retAddr 0, .int v2, .int v3, .int v4, .int v5, .retAddr 0, .retAddr 0] [.ref 65] (97, I, J, R) Q := by
  unfold rs_X_shift_22 at h
  refine az_E.sn 4 (pc' := 29) (L' := [.ref 3, .retAddr 0, .int v2, .int v3, .int v4, .int v5, .ref 65, .retAddr 0]) (S' := [.int v3, .ref 58]) (σ' := (97, I, J, R)) rfl ?_
  by_cases hc_656 : v3 < 0 ∨ 6 ≤ v3.toNatClampNeg
  · rw [if_pos hc_656] at h; cases h
  · rw [if_neg hc_656] at h
    rcases az_six hc_656 with ehc_656 | ehc_656 | ehc_656 | ehc_656 | ehc_656 | ehc_656
    · rw [ehc_656] at h ⊢; (try rw [ehc_656] at hQ)
      refine az_E.ov (pc' := 30) (L' := [.ref 3, .retAddr 0, .int v2, .int (0 : Int32), .int v4, .int v5, .ref 65, .retAddr 0]) (S' := []) (σ' := (97, I, J, R)) (x := .ref 61) (o := az_aa az_F (97, I, J, R) 58 (0 : Int32)) rfl rfl ?_
      exact az_E.forget (L := [.retAddr 0, .retAddr 0, .int v2, .retAddr 0, .int v4, .int v5, .ref 65, .retAddr 0]) ⟨trivial, trivial, rfl, trivial, rfl, rfl, rfl, trivial, trivial⟩ (re_X_shift_30_65_61 (I := I) (J := J) (R := R)  h hQ)
    · rw [ehc_656] at h ⊢; (try rw [ehc_656] at hQ)
      refine az_E.ov (pc' := 30) (L' := [.ref 3, .retAddr 0, .int v2, .int (1 : Int32), .int v4, .int v5, .ref 65, .retAddr 0]) (S' := []) (σ' := (97, I, J, R)) (x := .ref 63) (o := az_aa az_F (97, I, J, R) 58 (1 : Int32)) rfl rfl ?_
      exact az_E.forget (L := [.retAddr 0, .retAddr 0, .int v2, .retAddr 0, .int v4, .int v5, .ref 65, .retAddr 0]) ⟨trivial, trivial, rfl, trivial, rfl, rfl, rfl, trivial, trivial⟩ (re_X_shift_30_65_63 (I := I) (J := J) (R := R)  h hQ)
    · rw [ehc_656] at h ⊢; (try rw [ehc_656] at hQ)
      refine az_E.ov (pc' := 30) (L' := [.ref 3, .retAddr 0, .int v2, .int (2 : Int32), .int v4, .int v5, .ref 65, .retAddr 0]) (S' := []) (σ' := (97, I, J, R)) (x := .ref 65) (o := az_aa az_F (97, I, J, R) 58 (2 : Int32)) rfl rfl ?_
      exact az_E.forget (L := [.retAddr 0, .retAddr 0, .int v2, .retAddr 0, .int v4, .int v5, .ref 65, .retAddr 0]) ⟨trivial, trivial, rfl, trivial, rfl, rfl, rfl, trivial, trivial⟩ (re_X_shift_30_65_65 (I := I) (J := J) (R := R)  h hQ)
    · rw [ehc_656] at h ⊢; (try rw [ehc_656] at hQ)
      refine az_E.ov (pc' := 30) (L' := [.ref 3, .retAddr 0, .int v2, .int (3 : Int32), .int v4, .int v5, .ref 65, .retAddr 0]) (S' := []) (σ' := (97, I, J, R)) (x := .ref 67) (o := az_aa az_F (97, I, J, R) 58 (3 : Int32)) rfl rfl ?_
      exact az_E.forget (L := [.retAddr 0, .retAddr 0, .int v2, .retAddr 0, .int v4, .int v5, .ref 65, .retAddr 0]) ⟨trivial, trivial, rfl, trivial, rfl, rfl, rfl, trivial, trivial⟩ (re_X_shift_30_65_67 (I := I) (J := J) (R := R)  h hQ)
    · rw [ehc_656] at h ⊢; (try rw [ehc_656] at hQ)
      refine az_E.ov (pc' := 30) (L' := [.ref 3, .retAddr 0, .int v2, .int (4 : Int32), .int v4, .int v5, .ref 65, .retAddr 0]) (S' := []) (σ' := (97, I, J, R)) (x := .ref 69) (o := az_aa az_F (97, I, J, R) 58 (4 : Int32)) rfl rfl ?_
      exact az_E.forget (L := [.retAddr 0, .retAddr 0, .int v2, .retAddr 0, .int v4, .int v5, .ref 65, .retAddr 0]) ⟨trivial, trivial, rfl, trivial, rfl, rfl, rfl, trivial, trivial⟩ (re_X_shift_30_65_69 (I := I) (J := J) (R := R)  h hQ)
    · rw [ehc_656] at h ⊢; (try rw [ehc_656] at hQ)
      refine az_E.ov (pc' := 30) (L' := [.ref 3, .retAddr 0, .int v2, .int (5 : Int32), .int v4, .int v5, .ref 65, .retAddr 0]) (S' := []) (σ' := (97, I, J, R)) (x := .ref 71) (o := az_aa az_F (97, I, J, R) 58 (5 : Int32)) rfl rfl ?_
      exact az_E.forget (L := [.retAddr 0, .retAddr 0, .int v2, .retAddr 0, .int v4, .int v5, .ref 65, .retAddr 0]) ⟨trivial, trivial, rfl, trivial, rfl, rfl, rfl, trivial, trivial⟩ (re_X_shift_30_65_71 (I := I) (J := J) (R := R)  h hQ)
set_option maxRecDepth 100000 in
set_option maxHeartbeats 4000000 in
theorem re_X_shift_30_67_61 {ex : az_X} {I : Nat → Nat → Int32} {J : Nat → Nat → Int64} {R : Nat → Nat → Option Nat} {v2 : Int32} {v4 : Int32} {v5 : Int32} {x : Int32 × (Nat → Nat → Int64)} (h : rs_X_shift_30 67 61 I J v2 v4 v5 = some x) {Q : Option Value → az_S → Prop} (hQ : Q (some (.int x.1)) (97, I, x.2, R)) : az_E az_F ex 2 128 30 [.retAddr 0, .retAddr 0, .int v2, .retAddr 0, .int v4, .int v5, .ref 67, .retAddr 0] [.ref 61] (97, I, J, R) Q := by
  unfold rs_X_shift_30 at h
  refine az_E.sn 2 (pc' := 34) (L' := [.retAddr 0, .retAddr 0, .int v2, .retAddr 0, .int v4, .int v5, .ref 67, .ref 61]) (S' := [.ref 67]) (σ' := (97, I, J, R)) rfl ?_
  refine az_E.call (d := 1) (k' := 54) (vs := [.ref 67]) (pc' := 37) (S' := []) rfl ?_ (fun _ _ hq => hq)
  show az_E az_F ex 1 54 0 [.ref 67] [] (97, I, J, R) _
  refine az_E.sn 3 (pc' := 5) (L' := [.ref 67]) (S' := [.int (-1 : Int32), .int (I 67 0)]) (σ' := (97, I, J, R)) rfl ?_
  refine az_E.br (c := (I 67 0) = (-1 : Int32)) (tt := 8) (ff := 20) (L' := [.ref 67]) (S' := []) (σ' := (97, I, J, R)) rfl (fun hc_982 => ?_) (fun hc_982 => ?_)
  · rw [if_pos hc_982] at h
    refine az_E.sn 3 (pc' := 13) (L' := [.ref 67]) (S' := [.int (-1 : Int32), .int (I 67 1)]) (σ' := (97, I, J, R)) rfl ?_
    refine az_E.br (c := (I 67 1) = (-1 : Int32)) (tt := 16) (ff := 20) (L' := [.ref 67]) (S' := []) (σ' := (97, I, J, R)) rfl (fun hc_983 => ?_) (fun hc_983 => ?_)
    · rw [if_pos hc_983] at h
      refine az_E.sn 2 (pc' := 21) (L' := [.ref 67]) (S' := [.int (1 : Int32)]) (σ' := (97, I, J, R)) rfl ?_
      refine az_E.ret (v := some (.int (1 : Int32))) (σ' := (97, I, J, R)) rfl ?_
      show az_E az_F ex 2 128 37 [.retAddr 0, .retAddr 0, .int v2, .retAddr 0, .int v4, .int v5, .ref 67, .ref 61] [.int (1 : Int32)] (97, I, J, R) _
      refine az_E.br (c := (1 : Int32) = 0) (tt := 40) (ff := 48) (L' := [.retAddr 0, .retAddr 0, .int v2, .retAddr 0, .int v4, .int v5, .ref 67, .ref 61]) (S' := []) (σ' := (97, I, J, R)) rfl (fun hn => absurd hn (by decide)) (fun _ => ?_)
      refine az_E.sn 1 (pc' := 50) (L' := [.retAddr 0, .retAddr 0, .int v2, .retAddr 0, .int v4, .int v5, .ref 67, .ref 61]) (S' := [.int (-11 : Int32)]) (σ' := (97, I, J, R)) rfl ?_
      have h := Option.some.inj h
      subst h
      exact az_E.ret (v := some (.int (-11 : Int32))) (σ' := (97, I, J, R)) rfl hQ
    · rw [if_neg hc_983] at h
      refine az_E.sn 1 (pc' := 21) (L' := [.ref 67]) (S' := [.int (0 : Int32)]) (σ' := (97, I, J, R)) rfl ?_
      refine az_E.ret (v := some (.int (0 : Int32))) (σ' := (97, I, J, R)) rfl ?_
      show az_E az_F ex 2 128 37 [.retAddr 0, .retAddr 0, .int v2, .retAddr 0, .int v4, .int v5, .ref 67, .ref 61] [.int (0 : Int32)] (97, I, J, R) _
      refine az_E.br (c := (0 : Int32) = 0) (tt := 40) (ff := 48) (L' := [.retAddr 0, .retAddr 0, .int v2, .retAddr 0, .int v4, .int v5, .ref 67, .ref 61]) (S' := []) (σ' := (97, I, J, R)) rfl (fun _ => ?_) (fun hn => absurd (by decide) hn)
      refine az_E.sn 1 (pc' := 42) (L' := [.retAddr 0, .retAddr 0, .int v2, .retAddr 0, .int v4, .int v5, .ref 67, .ref 61]) (S' := [.ref 61]) (σ' := (97, I, J, R)) rfl ?_
      refine az_E.call (d := 1) (k' := 54) (vs := [.ref 61]) (pc' := 45) (S' := []) rfl ?_ (fun _ _ hq => hq)
      show az_E az_F ex 1 54 0 [.ref 61] [] (97, I, J, R) _
      refine az_E.sn 3 (pc' := 5) (L' := [.ref 61]) (S' := [.int (-1 : Int32), .int (I 61 0)]) (σ' := (97, I, J, R)) rfl ?_
      refine az_E.br (c := (I 61 0) = (-1 : Int32)) (tt := 8) (ff := 20) (L' := [.ref 61]) (S' := []) (σ' := (97, I, J, R)) rfl (fun hc_984 => ?_) (fun hc_984 => ?_)
      · rw [if_pos hc_984] at h
        refine az_E.sn 3 (pc' := 13) (L' := [.ref 61]) (S' := [.int (-1 : Int32), .int (I 61 1)]) (σ' := (97, I, J, R)) rfl ?_
        refine az_E.br (c := (I 61 1) = (-1 : Int32)) (tt := 16) (ff := 20) (L' := [.ref 61]) (S' := []) (σ' := (97, I, J, R)) rfl (fun hc_985 => ?_) (fun hc_985 => ?_)
        · rw [if_pos hc_985] at h
          refine az_E.sn 2 (pc' := 21) (L' := [.ref 61]) (S' := [.int (1 : Int32)]) (σ' := (97, I, J, R)) rfl ?_
          refine az_E.ret (v := some (.int (1 : Int32))) (σ' := (97, I, J, R)) rfl ?_
          show az_E az_F ex 2 128 45 [.retAddr 0, .retAddr 0, .int v2, .retAddr 0, .int v4, .int v5, .ref 67, .ref 61] [.int (1 : Int32)] (97, I, J, R) _
          refine az_E.br (c := (1 : Int32) = 0) (tt := 51) (ff := 48) (L' := [.retAddr 0, .retAddr 0, .int v2, .retAddr 0, .int v4, .int v5, .ref 67, .ref 61]) (S' := []) (σ' := (97, I, J, R)) rfl (fun hn => absurd hn (by decide)) (fun _ => ?_)
          refine az_E.sn 1 (pc' := 50) (L' := [.retAddr 0, .retAddr 0, .int v2, .retAddr 0, .int v4, .int v5, .ref 67, .ref 61]) (S' := [.int (-11 : Int32)]) (σ' := (97, I, J, R)) rfl ?_
          have h := Option.some.inj h
          subst h
          exact az_E.ret (v := some (.int (-11 : Int32))) (σ' := (97, I, J, R)) rfl hQ
        · rw [if_neg hc_985] at h
          refine az_E.sn 1 (pc' := 21) (L' := [.ref 61]) (S' := [.int (0 : Int32)]) (σ' := (97, I, J, R)) rfl ?_
          refine az_E.ret (v := some (.int (0 : Int32))) (σ' := (97, I, J, R)) rfl ?_
          show az_E az_F ex 2 128 45 [.retAddr 0, .retAddr 0, .int v2, .retAddr 0, .int v4, .int v5, .ref 67, .ref 61] [.int (0 : Int32)] (97, I, J, R) _
          refine az_E.br (c := (0 : Int32) = 0) (tt := 51) (ff := 48) (L' := [.retAddr 0, .retAddr 0, .int v2, .retAddr 0, .int v4, .int v5, .ref 67, .ref 61]) (S' := []) (σ' := (97, I, J, R)) rfl (fun _ => ?_) (fun hn => absurd (by decide) hn)
          refine az_E.sn 1 (pc' := 53) (L' := [.retAddr 0, .retAddr 0, .int v2, .retAddr 0, .int v4, .int v5, .ref 67, .ref 61]) (S' := [.ref 67]) (σ' := (97, I, J, R)) rfl ?_
          refine az_E.call (d := 1) (k' := 55) (vs := [.ref 67]) (pc' := 56) (S' := []) rfl ?_ (fun _ _ hq => hq)
          show az_E az_F ex 1 55 0 [.ref 67] [] (97, I, J, R) _
          refine az_E.sn 3 (pc' := 5) (L' := [.ref 67]) (S' := [.int (-1 : Int32), .int (I 67 1)]) (σ' := (97, I, J, R)) rfl ?_
          refine az_E.br (c := (I 67 1) = (-1 : Int32)) (tt := 12) (ff := 8) (L' := [.ref 67]) (S' := []) (σ' := (97, I, J, R)) rfl (fun hc_986 => ?_) (fun hc_986 => ?_)
          · rw [if_pos hc_986] at h
            refine az_E.sn 1 (pc' := 13) (L' := [.ref 67]) (S' := [.int (0 : Int32)]) (σ' := (97, I, J, R)) rfl ?_
            refine az_E.ret (v := some (.int (0 : Int32))) (σ' := (97, I, J, R)) rfl ?_
            show az_E az_F ex 2 128 56 [.retAddr 0, .retAddr 0, .int v2, .retAddr 0, .int v4, .int v5, .ref 67, .ref 61] [.int (0 : Int32)] (97, I, J, R) _
            refine az_E.br (c := (0 : Int32) = 0) (tt := 72) (ff := 59) (L' := [.retAddr 0, .retAddr 0, .int v2, .retAddr 0, .int v4, .int v5, .ref 67, .ref 61]) (S' := []) (σ' := (97, I, J, R)) rfl (fun _ => ?_) (fun hn => absurd (by decide) hn)
            refine az_E.sn 1 (pc' := 74) (L' := [.retAddr 0, .retAddr 0, .int v2, .retAddr 0, .int v4, .int v5, .ref 67, .ref 61]) (S' := [.int (-12 : Int32)]) (σ' := (97, I, J, R)) rfl ?_
            have h := Option.some.inj h
            subst h
            exact az_E.ret (v := some (.int (-12 : Int32))) (σ' := (97, I, J, R)) rfl hQ
          · rw [if_neg hc_986] at h
            refine az_E.sn 2 (pc' := 13) (L' := [.ref 67]) (S' := [.int (1 : Int32)]) (σ' := (97, I, J, R)) rfl ?_
            refine az_E.ret (v := some (.int (1 : Int32))) (σ' := (97, I, J, R)) rfl ?_
            show az_E az_F ex 2 128 56 [.retAddr 0, .retAddr 0, .int v2, .retAddr 0, .int v4, .int v5, .ref 67, .ref 61] [.int (1 : Int32)] (97, I, J, R) _
            refine az_E.br (c := (1 : Int32) = 0) (tt := 72) (ff := 59) (L' := [.retAddr 0, .retAddr 0, .int v2, .retAddr 0, .int v4, .int v5, .ref 67, .ref 61]) (S' := []) (σ' := (97, I, J, R)) rfl (fun hn => absurd hn (by decide)) (fun _ => ?_)
            refine az_E.sn 3 (pc' := 66) (L' := [.retAddr 0, .retAddr 0, .int v2, .retAddr 0, .int v4, .int v5, .ref 67, .ref 61]) (S' := [.int (I 67 1), .ref 61]) (σ' := (97, I, J, R)) rfl ?_
            refine az_E.call (d := 1) (k' := 56) (vs := [.ref 61, .int (I 67 1)]) (pc' := 69) (S' := []) rfl ?_ (fun _ _ hq => hq)
            show az_E az_F ex 1 56 0 [.ref 61, .int (I 67 1)] [] (97, I, J, R) _
            refine az_E.sn 1 (pc' := 1) (L' := [.ref 61, .int (I 67 1)]) (S' := [.ref 61]) (σ' := (97, I, J, R)) rfl ?_
            refine az_E.call (d := 0) (k' := 55) (vs := [.ref 61]) (pc' := 4) (S' := []) rfl ?_ (fun _ _ hq => hq)
            show az_E az_F ex 0 55 0 [.ref 61] [] (97, I, J, R) _
            refine az_E.sn 3 (pc' := 5) (L' := [.ref 61]) (S' := [.int (-1 : Int32), .int (I 61 1)]) (σ' := (97, I, J, R)) rfl ?_
            refine az_E.br (c := (I 61 1) = (-1 : Int32)) (tt := 12) (ff := 8) (L' := [.ref 61]) (S' := []) (σ' := (97, I, J, R)) rfl (fun hc_987 => ?_) (fun hc_987 => ?_)
            · rw [if_pos hc_987] at h
              refine az_E.sn 1 (pc' := 13) (L' := [.ref 61]) (S' := [.int (0 : Int32)]) (σ' := (97, I, J, R)) rfl ?_
              refine az_E.ret (v := some (.int (0 : Int32))) (σ' := (97, I, J, R)) rfl ?_
              show az_E az_F ex 1 56 4 [.ref 61, .int (I 67 1)] [.int (0 : Int32)] (97, I, J, R) _
              refine az_E.br (c := (0 : Int32) = 0) (tt := 19) (ff := 7) (L' := [.ref 61, .int (I 67 1)]) (S' := []) (σ' := (97, I, J, R)) rfl (fun _ => ?_) (fun hn => absurd (by decide) hn)
              refine az_E.sn 1 (pc' := 20) (L' := [.ref 61, .int (I 67 1)]) (S' := [.int (0 : Int32)]) (σ' := (97, I, J, R)) rfl ?_
              refine az_E.ret (v := some (.int (0 : Int32))) (σ' := (97, I, J, R)) rfl ?_
              show az_E az_F ex 2 128 69 [.retAddr 0, .retAddr 0, .int v2, .retAddr 0, .int v4, .int v5, .ref 67, .ref 61] [.int (0 : Int32)] (97, I, J, R) _
              refine az_E.br (c := (0 : Int32) = 0) (tt := 72) (ff := 75) (L' := [.retAddr 0, .retAddr 0, .int v2, .retAddr 0, .int v4, .int v5, .ref 67, .ref 61]) (S' := []) (σ' := (97, I, J, R)) rfl (fun _ => ?_) (fun hn => absurd (by decide) hn)
              refine az_E.sn 1 (pc' := 74) (L' := [.retAddr 0, .retAddr 0, .int v2, .retAddr 0, .int v4, .int v5, .ref 67, .ref 61]) (S' := [.int (-12 : Int32)]) (σ' := (97, I, J, R)) rfl ?_
              have h := Option.some.inj h
              subst h
              exact az_E.ret (v := some (.int (-12 : Int32))) (σ' := (97, I, J, R)) rfl hQ
            · rw [if_neg hc_987] at h
              refine az_E.sn 2 (pc' := 13) (L' := [.ref 61]) (S' := [.int (1 : Int32)]) (σ' := (97, I, J, R)) rfl ?_
              refine az_E.ret (v := some (.int (1 : Int32))) (σ' := (97, I, J, R)) rfl ?_
              show az_E az_F ex 1 56 4 [.ref 61, .int (I 67 1)] [.int (1 : Int32)] (97, I, J, R) _
              refine az_E.br (c := (1 : Int32) = 0) (tt := 19) (ff := 7) (L' := [.ref 61, .int (I 67 1)]) (S' := []) (σ' := (97, I, J, R)) rfl (fun hn => absurd hn (by decide)) (fun _ => ?_)
              refine az_E.sn 3 (pc' := 12) (L' := [.ref 61, .int (I 67 1)]) (S' := [.int (I 67 1), .int (I 61 1)]) (σ' := (97, I, J, R)) rfl ?_
              refine az_E.br (c := (I 61 1) = (I 67 1)) (tt := 15) (ff := 19) (L' := [.ref 61, .int (I 67 1)]) (S' := []) (σ' := (97, I, J, R)) rfl (fun hc_988 => ?_) (fun hc_988 => ?_)
              · rw [if_pos hc_988] at h
                refine az_E.sn 2 (pc' := 20) (L' := [.ref 61, .int (I 67 1)]) (S' := [.int (1 : Int32)]) (σ' := (97, I, J, R)) rfl ?_
                refine az_E.ret (v := some (.int (1 : Int32))) (σ' := (97, I, J, R)) rfl ?_
                show az_E az_F ex 2 128 69 [.retAddr 0, .retAddr 0, .int v2, .retAddr 0, .int v4, .int v5, .ref 67, .ref 61] [.int (1 : Int32)] (97, I, J, R) _
                refine az_E.br (c := (1 : Int32) = 0) (tt := 72) (ff := 75) (L' := [.retAddr 0, .retAddr 0, .int v2, .retAddr 0, .int v4, .int v5, .ref 67, .ref 61]) (S' := []) (σ' := (97, I, J, R)) rfl (fun hn => absurd hn (by decide)) (fun _ => ?_)
                refine az_E.sn 3 (pc' := 80) (L' := [.retAddr 0, .retAddr 0, .int v2, .retAddr 0, .int v4, .int v5, .ref 67, .ref 61]) (S' := [.int v5, .int v2, .ref 67]) (σ' := (97, I, J, R)) rfl ?_
                refine az_E.call (d := 1) (k' := 60) (vs := [.ref 67, .int v2, .int v5]) (pc' := 83) (S' := []) rfl ?_ (fun _ _ hq => hq)
                show az_E az_F ex 1 60 0 [.ref 67, .int v2, .int v5] [] (97, I, J, R) _
                refine az_E.sn 1 (pc' := 1) (L' := [.ref 67, .int v2, .int v5]) (S' := [.int v2]) (σ' := (97, I, J, R)) rfl ?_
                refine az_E.br (c := v2 < 0) (tt := 30) (ff := 4) (L' := [.ref 67, .int v2, .int v5]) (S' := []) (σ' := (97, I, J, R)) rfl (fun hc_989 => ?_) (fun hc_989 => ?_)
                · rw [if_pos hc_989] at h
                  refine az_E.sn 1 (pc' := 31) (L' := [.ref 67, .int v2, .int v5]) (S' := [.int (0 : Int32)]) (σ' := (97, I, J, R)) rfl ?_
                  refine az_E.ret (v := some (.int (0 : Int32))) (σ' := (97, I, J, R)) rfl ?_
                  show az_E az_F ex 2 128 83 [.retAddr 0, .retAddr 0, .int v2, .retAddr 0, .int v4, .int v5, .ref 67, .ref 61] [.int (0 : Int32)] (97, I, J, R) _
                  refine az_E.br (c := (0 : Int32) = 0) (tt := 98) (ff := 86) (L' := [.retAddr 0, .retAddr 0, .int v2, .retAddr 0, .int v4, .int v5, .ref 67, .ref 61]) (S' := []) (σ' := (97, I, J, R)) rfl (fun _ => ?_) (fun hn => absurd (by decide) hn)
                  refine az_E.sn 1 (pc' := 100) (L' := [.retAddr 0, .retAddr 0, .int v2, .retAddr 0, .int v4, .int v5, .ref 67, .ref 61]) (S' := [.int (-13 : Int32)]) (σ' := (97, I, J, R)) rfl ?_
                  have h := Option.some.inj h
                  subst h
                  exact az_E.ret (v := some (.int (-13 : Int32))) (σ' := (97, I, J, R)) rfl hQ
                · rw [if_neg hc_989] at h
                  refine az_E.sn 1 (pc' := 5) (L' := [.ref 67, .int v2, .int v5]) (S' := [.int v5]) (σ' := (97, I, J, R)) rfl ?_
                  refine az_E.br (c := v5 < 0) (tt := 30) (ff := 8) (L' := [.ref 67, .int v2, .int v5]) (S' := []) (σ' := (97, I, J, R)) rfl (fun hc_990 => ?_) (fun hc_990 => ?_)
                  · rw [if_pos hc_990] at h
                    refine az_E.sn 1 (pc' := 31) (L' := [.ref 67, .int v2, .int v5]) (S' := [.int (0 : Int32)]) (σ' := (97, I, J, R)) rfl ?_
                    refine az_E.ret (v := some (.int (0 : Int32))) (σ' := (97, I, J, R)) rfl ?_
                    show az_E az_F ex 2 128 83 [.retAddr 0, .retAddr 0, .int v2, .retAddr 0, .int v4, .int v5, .ref 67, .ref 61] [.int (0 : Int32)] (97, I, J, R) _
                    refine az_E.br (c := (0 : Int32) = 0) (tt := 98) (ff := 86) (L' := [.retAddr 0, .retAddr 0, .int v2, .retAddr 0, .int v4, .int v5, .ref 67, .ref 61]) (S' := []) (σ' := (97, I, J, R)) rfl (fun _ => ?_) (fun hn => absurd (by decide) hn)
                    refine az_E.sn 1 (pc' := 100) (L' := [.retAddr 0, .retAddr 0, .int v2, .retAddr 0, .int v4, .int v5, .ref 67, .ref 61]) (S' := [.int (-13 : Int32)]) (σ' := (97, I, J, R)) rfl ?_
                    have h := Option.some.inj h
                    subst h
                    exact az_E.ret (v := some (.int (-13 : Int32))) (σ' := (97, I, J, R)) rfl hQ
                  · rw [if_neg hc_990] at h
                    refine az_E.sn 3 (pc' := 13) (L' := [.ref 67, .int v2, .int v5]) (S' := [.int (I 67 2), .int v2]) (σ' := (97, I, J, R)) rfl ?_
                    refine az_E.br (c := (I 67 2) < v2) (tt := 30) (ff := 16) (L' := [.ref 67, .int v2, .int v5]) (S' := []) (σ' := (97, I, J, R)) rfl (fun hc_991 => ?_) (fun hc_991 => ?_)
                    · rw [if_pos hc_991] at h
                      refine az_E.sn 1 (pc' := 31) (L' := [.ref 67, .int v2, .int v5]) (S' := [.int (0 : Int32)]) (σ' := (97, I, J, R)) rfl ?_
                      refine az_E.ret (v := some (.int (0 : Int32))) (σ' := (97, I, J, R)) rfl ?_
                      show az_E az_F ex 2 128 83 [.retAddr 0, .retAddr 0, .int v2, .retAddr 0, .int v4, .int v5, .ref 67, .ref 61] [.int (0 : Int32)] (97, I, J, R) _
                      refine az_E.br (c := (0 : Int32) = 0) (tt := 98) (ff := 86) (L' := [.retAddr 0, .retAddr 0, .int v2, .retAddr 0, .int v4, .int v5, .ref 67, .ref 61]) (S' := []) (σ' := (97, I, J, R)) rfl (fun _ => ?_) (fun hn => absurd (by decide) hn)
                      refine az_E.sn 1 (pc' := 100) (L' := [.retAddr 0, .retAddr 0, .int v2, .retAddr 0, .int v4, .int v5, .ref 67, .ref 61]) (S' := [.int (-13 : Int32)]) (σ' := (97, I, J, R)) rfl ?_
                      have h := Option.some.inj h
                      subst h
                      exact az_E.ret (v := some (.int (-13 : Int32))) (σ' := (97, I, J, R)) rfl hQ
                    · rw [if_neg hc_991] at h
                      refine az_E.sn 5 (pc' := 23) (L' := [.ref 67, .int v2, .int v5]) (S' := [.int ((I 67 2) - v2), .int v5]) (σ' := (97, I, J, R)) rfl ?_
                      refine az_E.br (c := ((I 67 2) - v2) < v5) (tt := 30) (ff := 26) (L' := [.ref 67, .int v2, .int v5]) (S' := []) (σ' := (97, I, J, R)) rfl (fun hc_992 => ?_) (fun hc_992 => ?_)
                      · rw [if_pos hc_992] at h
                        refine az_E.sn 1 (pc' := 31) (L' := [.ref 67, .int v2, .int v5]) (S' := [.int (0 : Int32)]) (σ' := (97, I, J, R)) rfl ?_
                        refine az_E.ret (v := some (.int (0 : Int32))) (σ' := (97, I, J, R)) rfl ?_
                        show az_E az_F ex 2 128 83 [.retAddr 0, .retAddr 0, .int v2, .retAddr 0, .int v4, .int v5, .ref 67, .ref 61] [.int (0 : Int32)] (97, I, J, R) _
                        refine az_E.br (c := (0 : Int32) = 0) (tt := 98) (ff := 86) (L' := [.retAddr 0, .retAddr 0, .int v2, .retAddr 0, .int v4, .int v5, .ref 67, .ref 61]) (S' := []) (σ' := (97, I, J, R)) rfl (fun _ => ?_) (fun hn => absurd (by decide) hn)
                        refine az_E.sn 1 (pc' := 100) (L' := [.retAddr 0, .retAddr 0, .int v2, .retAddr 0, .int v4, .int v5, .ref 67, .ref 61]) (S' := [.int (-13 : Int32)]) (σ' := (97, I, J, R)) rfl ?_
                        have h := Option.some.inj h
                        subst h
                        exact az_E.ret (v := some (.int (-13 : Int32))) (σ' := (97, I, J, R)) rfl hQ
                      · rw [if_neg hc_992] at h
                        refine az_E.sn 2 (pc' := 31) (L' := [.ref 67, .int v2, .int v5]) (S' := [.int (1 : Int32)]) (σ' := (97, I, J, R)) rfl ?_
                        refine az_E.ret (v := some (.int (1 : Int32))) (σ' := (97, I, J, R)) rfl ?_
                        show az_E az_F ex 2 128 83 [.retAddr 0, .retAddr 0, .int v2, .retAddr 0, .int v4, .int v5, .ref 67, .ref 61] [.int (1 : Int32)] (97, I, J, R) _
                        refine az_E.br (c := (1 : Int32) = 0) (tt := 98) (ff := 86) (L' := [.retAddr 0, .retAddr 0, .int v2, .retAddr 0, .int v4, .int v5, .ref 67, .ref 61]) (S' := []) (σ' := (97, I, J, R)) rfl (fun hn => absurd hn (by decide)) (fun _ => ?_)
                        refine az_E.sn 3 (pc' := 92) (L' := [.retAddr 0, .retAddr 0, .int v2, .retAddr 0, .int v4, .int v5, .ref 67, .ref 61]) (S' := [.int v5, .int v4, .ref 61]) (σ' := (97, I, J, R)) rfl ?_
                        refine az_E.call (d := 1) (k' := 60) (vs := [.ref 61, .int v4, .int v5]) (pc' := 95) (S' := []) rfl ?_ (fun _ _ hq => hq)
                        show az_E az_F ex 1 60 0 [.ref 61, .int v4, .int v5] [] (97, I, J, R) _
                        refine az_E.sn 1 (pc' := 1) (L' := [.ref 61, .int v4, .int v5]) (S' := [.int v4]) (σ' := (97, I, J, R)) rfl ?_
                        refine az_E.br (c := v4 < 0) (tt := 30) (ff := 4) (L' := [.ref 61, .int v4, .int v5]) (S' := []) (σ' := (97, I, J, R)) rfl (fun hc_993 => ?_) (fun hc_993 => ?_)
                        · rw [if_pos hc_993] at h
                          refine az_E.sn 1 (pc' := 31) (L' := [.ref 61, .int v4, .int v5]) (S' := [.int (0 : Int32)]) (σ' := (97, I, J, R)) rfl ?_
                          refine az_E.ret (v := some (.int (0 : Int32))) (σ' := (97, I, J, R)) rfl ?_
                          show az_E az_F ex 2 128 95 [.retAddr 0, .retAddr 0, .int v2, .retAddr 0, .int v4, .int v5, .ref 67, .ref 61] [.int (0 : Int32)] (97, I, J, R) _
                          refine az_E.br (c := (0 : Int32) = 0) (tt := 98) (ff := 101) (L' := [.retAddr 0, .retAddr 0, .int v2, .retAddr 0, .int v4, .int v5, .ref 67, .ref 61]) (S' := []) (σ' := (97, I, J, R)) rfl (fun _ => ?_) (fun hn => absurd (by decide) hn)
                          refine az_E.sn 1 (pc' := 100) (L' := [.retAddr 0, .retAddr 0, .int v2, .retAddr 0, .int v4, .int v5, .ref 67, .ref 61]) (S' := [.int (-13 : Int32)]) (σ' := (97, I, J, R)) rfl ?_
                          have h := Option.some.inj h
                          subst h
                          exact az_E.ret (v := some (.int (-13 : Int32))) (σ' := (97, I, J, R)) rfl hQ
                        · rw [if_neg hc_993] at h
                          refine az_E.sn 1 (pc' := 5) (L' := [.ref 61, .int v4, .int v5]) (S' := [.int v5]) (σ' := (97, I, J, R)) rfl ?_
                          refine az_E.br (c := v5 < 0) (tt := 30) (ff := 8) (L' := [.ref 61, .int v4, .int v5]) (S' := []) (σ' := (97, I, J, R)) rfl (fun hc_994 => ?_) (fun hc_994 => ?_)
                          · rw [if_pos hc_994] at h
                            refine az_E.sn 1 (pc' := 31) (L' := [.ref 61, .int v4, .int v5]) (S' := [.int (0 : Int32)]) (σ' := (97, I, J, R)) rfl ?_
                            refine az_E.ret (v := some (.int (0 : Int32))) (σ' := (97, I, J, R)) rfl ?_
                            show az_E az_F ex 2 128 95 [.retAddr 0, .retAddr 0, .int v2, .retAddr 0, .int v4, .int v5, .ref 67, .ref 61] [.int (0 : Int32)] (97, I, J, R) _
                            refine az_E.br (c := (0 : Int32) = 0) (tt := 98) (ff := 101) (L' := [.retAddr 0, .retAddr 0, .int v2, .retAddr 0, .int v4, .int v5, .ref 67, .ref 61]) (S' := []) (σ' := (97, I, J, R)) rfl (fun _ => ?_) (fun hn => absurd (by decide) hn)
                            refine az_E.sn 1 (pc' := 100) (L' := [.retAddr 0, .retAddr 0, .int v2, .retAddr 0, .int v4, .int v5, .ref 67, .ref 61]) (S' := [.int (-13 : Int32)]) (σ' := (97, I, J, R)) rfl ?_
                            have h := Option.some.inj h
                            subst h
                            exact az_E.ret (v := some (.int (-13 : Int32))) (σ' := (97, I, J, R)) rfl hQ
                          · rw [if_neg hc_994] at h
                            refine az_E.sn 3 (pc' := 13) (L' := [.ref 61, .int v4, .int v5]) (S' := [.int (I 61 2), .int v4]) (σ' := (97, I, J, R)) rfl ?_
                            refine az_E.br (c := (I 61 2) < v4) (tt := 30) (ff := 16) (L' := [.ref 61, .int v4, .int v5]) (S' := []) (σ' := (97, I, J, R)) rfl (fun hc_995 => ?_) (fun hc_995 => ?_)
                            · rw [if_pos hc_995] at h
                              refine az_E.sn 1 (pc' := 31) (L' := [.ref 61, .int v4, .int v5]) (S' := [.int (0 : Int32)]) (σ' := (97, I, J, R)) rfl ?_
                              refine az_E.ret (v := some (.int (0 : Int32))) (σ' := (97, I, J, R)) rfl ?_
                              show az_E az_F ex 2 128 95 [.retAddr 0, .retAddr 0, .int v2, .retAddr 0, .int v4, .int v5, .ref 67, .ref 61] [.int (0 : Int32)] (97, I, J, R) _
                              refine az_E.br (c := (0 : Int32) = 0) (tt := 98) (ff := 101) (L' := [.retAddr 0, .retAddr 0, .int v2, .retAddr 0, .int v4, .int v5, .ref 67, .ref 61]) (S' := []) (σ' := (97, I, J, R)) rfl (fun _ => ?_) (fun hn => absurd (by decide) hn)
                              refine az_E.sn 1 (pc' := 100) (L' := [.retAddr 0, .retAddr 0, .int v2, .retAddr 0, .int v4, .int v5, .ref 67, .ref 61]) (S' := [.int (-13 : Int32)]) (σ' := (97, I, J, R)) rfl ?_
                              have h := Option.some.inj h
                              subst h
                              exact az_E.ret (v := some (.int (-13 : Int32))) (σ' := (97, I, J, R)) rfl hQ
                            · rw [if_neg hc_995] at h
                              refine az_E.sn 5 (pc' := 23) (L' := [.ref 61, .int v4, .int v5]) (S' := [.int ((I 61 2) - v4), .int v5]) (σ' := (97, I, J, R)) rfl ?_
                              refine az_E.br (c := ((I 61 2) - v4) < v5) (tt := 30) (ff := 26) (L' := [.ref 61, .int v4, .int v5]) (S' := []) (σ' := (97, I, J, R)) rfl (fun hc_996 => ?_) (fun hc_996 => ?_)
                              · rw [if_pos hc_996] at h
                                refine az_E.sn 1 (pc' := 31) (L' := [.ref 61, .int v4, .int v5]) (S' := [.int (0 : Int32)]) (σ' := (97, I, J, R)) rfl ?_
                                refine az_E.ret (v := some (.int (0 : Int32))) (σ' := (97, I, J, R)) rfl ?_
                                show az_E az_F ex 2 128 95 [.retAddr 0, .retAddr 0, .int v2, .retAddr 0, .int v4, .int v5, .ref 67, .ref 61] [.int (0 : Int32)] (97, I, J, R) _
                                refine az_E.br (c := (0 : Int32) = 0) (tt := 98) (ff := 101) (L' := [.retAddr 0, .retAddr 0, .int v2, .retAddr 0, .int v4, .int v5, .ref 67, .ref 61]) (S' := []) (σ' := (97, I, J, R)) rfl (fun _ => ?_) (fun hn => absurd (by decide) hn)
                                refine az_E.sn 1 (pc' := 100) (L' := [.retAddr 0, .retAddr 0, .int v2, .retAddr 0, .int v4, .int v5, .ref 67, .ref 61]) (S' := [.int (-13 : Int32)]) (σ' := (97, I, J, R)) rfl ?_
                                have h := Option.some.inj h
                                subst h
                                exact az_E.ret (v := some (.int (-13 : Int32))) (σ' := (97, I, J, R)) rfl hQ
                              · rw [if_neg hc_996] at h
                                refine az_E.sn 2 (pc' := 31) (L' := [.ref 61, .int v4, .int v5]) (S' := [.int (1 : Int32)]) (σ' := (97, I, J, R)) rfl ?_
                                refine az_E.ret (v := some (.int (1 : Int32))) (σ' := (97, I, J, R)) rfl ?_
                                show az_E az_F ex 2 128 95 [.retAddr 0, .retAddr 0, .int v2, .retAddr 0, .int v4, .int v5, .ref 67, .ref 61] [.int (1 : Int32)] (97, I, J, R) _
                                refine az_E.br (c := (1 : Int32) = 0) (tt := 98) (ff := 101) (L' := [.retAddr 0, .retAddr 0, .int v2, .retAddr 0, .int v4, .int v5, .ref 67, .ref 61]) (S' := []) (σ' := (97, I, J, R)) rfl (fun hn => absurd hn (by decide)) (fun _ => ?_)
                                refine az_E.sn 7 (pc' := 116) (L' := [.retAddr 0, .retAddr 0, .int v2, .retAddr 0, .int v4, .int v5, .ref 67, .ref 61]) (S' := [.int v5, .int v4, .ref (61 + 1), .int v2, .ref (67 + 1)]) (σ' := (97, I, J, R)) rfl ?_
                                by_cases hc_997 : v2 < 0 ∨ v4 < 0 ∨ v5 < 0 ∨ 60 < v2.toNatClampNeg + v5.toNatClampNeg ∨ 60 < v4.toNatClampNeg + v5.toNatClampNeg
                                · rw [if_pos hc_997] at h; cases h
                                · rw [if_neg hc_997] at h
                                  refine az_E.o (o := az_cp az_F (97, I, J, R) (67 + 1) v2 (61 + 1) v4 v5) (pc' := 119) (L' := [.retAddr 0, .retAddr 0, .int v2, .retAddr 0, .int v4, .int v5, .ref 67, .ref 61]) (S' := []) (x := (97, I, (az_ur J (61 + 1) (va_cpy (J (67 + 1)) (J (61 + 1)) v2.toNatClampNeg v4.toNatClampNeg v5.toNatClampNeg)), R)) rfl (if_neg hc_997) ?_
                                  refine az_E.sn 1 (pc' := 121) (L' := [.retAddr 0, .retAddr 0, .int v2, .retAddr 0, .int v4, .int v5, .ref 67, .ref 61]) (S' := [.int v5]) (σ' := (97, I, (az_ur J (61 + 1) (va_cpy (J (67 + 1)) (J (61 + 1)) v2.toNatClampNeg v4.toNatClampNeg v5.toNatClampNeg)), R)) rfl ?_
                                  have h := Option.some.inj h
                                  subst h
                                  exact az_E.ret (v := some (.int v5)) (σ' := (97, I, (az_ur J (61 + 1) (va_cpy (J (67 + 1)) (J (61 + 1)) v2.toNatClampNeg v4.toNatClampNeg v5.toNatClampNeg)), R)) rfl hQ
              · rw [if_neg hc_988] at h
                refine az_E.sn 1 (pc' := 20) (L' := [.ref 61, .int (I 67 1)]) (S' := [.int (0 : Int32)]) (σ' := (97, I, J, R)) rfl ?_
                refine az_E.ret (v := some (.int (0 : Int32))) (σ' := (97, I, J, R)) rfl ?_
                show az_E az_F ex 2 128 69 [.retAddr 0, .retAddr 0, .int v2, .retAddr 0, .int v4, .int v5, .ref 67, .ref 61] [.int (0 : Int32)] (97, I, J, R) _
                refine az_E.br (c := (0 : Int32) = 0) (tt := 72) (ff := 75) (L' := [.retAddr 0, .retAddr 0, .int v2, .retAddr 0, .int v4, .int v5, .ref 67, .ref 61]) (S' := []) (σ' := (97, I, J, R)) rfl (fun _ => ?_) (fun hn => absurd (by decide) hn)
                refine az_E.sn 1 (pc' := 74) (L' := [.retAddr 0, .retAddr 0, .int v2, .retAddr 0, .int v4, .int v5, .ref 67, .ref 61]) (S' := [.int (-12 : Int32)]) (σ' := (97, I, J, R)) rfl ?_
                have h := Option.some.inj h
                subst h
                exact az_E.ret (v := some (.int (-12 : Int32))) (σ' := (97, I, J, R)) rfl hQ
      · rw [if_neg hc_984] at h
        refine az_E.sn 1 (pc' := 21) (L' := [.ref 61]) (S' := [.int (0 : Int32)]) (σ' := (97, I, J, R)) rfl ?_
        refine az_E.ret (v := some (.int (0 : Int32))) (σ' := (97, I, J, R)) rfl ?_
        show az_E az_F ex 2 128 45 [.retAddr 0, .retAddr 0, .int v2, .retAddr 0, .int v4, .int v5, .ref 67, .ref 61] [.int (0 : Int32)] (97, I, J, R) _
        refine az_E.br (c := (0 : Int32) = 0) (tt := 51) (ff := 48) (L' := [.retAddr 0, .retAddr 0, .int v2, .retAddr 0, .int v4, .int v5, .ref 67, .ref 61]) (S' := []) (σ' := (97, I, J, R)) rfl (fun _ => ?_) (fun hn => absurd (by decide) hn)
        refine az_E.sn 1 (pc' := 53) (L' := [.retAddr 0, .retAddr 0, .int v2, .retAddr 0, .int v4, .int v5, .ref 67, .ref 61]) (S' := [.ref 67]) (σ' := (97, I, J, R)) rfl ?_
        refine az_E.call (d := 1) (k' := 55) (vs := [.ref 67]) (pc' := 56) (S' := []) rfl ?_ (fun _ _ hq => hq)
        show az_E az_F ex 1 55 0 [.ref 67] [] (97, I, J, R) _
        refine az_E.sn 3 (pc' := 5) (L' := [.ref 67]) (S' := [.int (-1 : Int32), .int (I 67 1)]) (σ' := (97, I, J, R)) rfl ?_
        refine az_E.br (c := (I 67 1) = (-1 : Int32)) (tt := 12) (ff := 8) (L' := [.ref 67]) (S' := []) (σ' := (97, I, J, R)) rfl (fun hc_998 => ?_) (fun hc_998 => ?_)
        · rw [if_pos hc_998] at h
          refine az_E.sn 1 (pc' := 13) (L' := [.ref 67]) (S' := [.int (0 : Int32)]) (σ' := (97, I, J, R)) rfl ?_
          refine az_E.ret (v := some (.int (0 : Int32))) (σ' := (97, I, J, R)) rfl ?_
          show az_E az_F ex 2 128 56 [.retAddr 0, .retAddr 0, .int v2, .retAddr 0, .int v4, .int v5, .ref 67, .ref 61] [.int (0 : Int32)] (97, I, J, R) _
          refine az_E.br (c := (0 : Int32) = 0) (tt := 72) (ff := 59) (L' := [.retAddr 0, .retAddr 0, .int v2, .retAddr 0, .int v4, .int v5, .ref 67, .ref 61]) (S' := []) (σ' := (97, I, J, R)) rfl (fun _ => ?_) (fun hn => absurd (by decide) hn)
          refine az_E.sn 1 (pc' := 74) (L' := [.retAddr 0, .retAddr 0, .int v2, .retAddr 0, .int v4, .int v5, .ref 67, .ref 61]) (S' := [.int (-12 : Int32)]) (σ' := (97, I, J, R)) rfl ?_
          have h := Option.some.inj h
          subst h
          exact az_E.ret (v := some (.int (-12 : Int32))) (σ' := (97, I, J, R)) rfl hQ
        · rw [if_neg hc_998] at h
          refine az_E.sn 2 (pc' := 13) (L' := [.ref 67]) (S' := [.int (1 : Int32)]) (σ' := (97, I, J, R)) rfl ?_
          refine az_E.ret (v := some (.int (1 : Int32))) (σ' := (97, I, J, R)) rfl ?_
          show az_E az_F ex 2 128 56 [.retAddr 0, .retAddr 0, .int v2, .retAddr 0, .int v4, .int v5, .ref 67, .ref 61] [.int (1 : Int32)] (97, I, J, R) _
          refine az_E.br (c := (1 : Int32) = 0) (tt := 72) (ff := 59) (L' := [.retAddr 0, .retAddr 0, .int v2, .retAddr 0, .int v4, .int v5, .ref 67, .ref 61]) (S' := []) (σ' := (97, I, J, R)) rfl (fun hn => absurd hn (by decide)) (fun _ => ?_)
          refine az_E.sn 3 (pc' := 66) (L' := [.retAddr 0, .retAddr 0, .int v2, .retAddr 0, .int v4, .int v5, .ref 67, .ref 61]) (S' := [.int (I 67 1), .ref 61]) (σ' := (97, I, J, R)) rfl ?_
          refine az_E.call (d := 1) (k' := 56) (vs := [.ref 61, .int (I 67 1)]) (pc' := 69) (S' := []) rfl ?_ (fun _ _ hq => hq)
          show az_E az_F ex 1 56 0 [.ref 61, .int (I 67 1)] [] (97, I, J, R) _
          refine az_E.sn 1 (pc' := 1) (L' := [.ref 61, .int (I 67 1)]) (S' := [.ref 61]) (σ' := (97, I, J, R)) rfl ?_
          refine az_E.call (d := 0) (k' := 55) (vs := [.ref 61]) (pc' := 4) (S' := []) rfl ?_ (fun _ _ hq => hq)
          show az_E az_F ex 0 55 0 [.ref 61] [] (97, I, J, R) _
          refine az_E.sn 3 (pc' := 5) (L' := [.ref 61]) (S' := [.int (-1 : Int32), .int (I 61 1)]) (σ' := (97, I, J, R)) rfl ?_
          refine az_E.br (c := (I 61 1) = (-1 : Int32)) (tt := 12) (ff := 8) (L' := [.ref 61]) (S' := []) (σ' := (97, I, J, R)) rfl (fun hc_999 => ?_) (fun hc_999 => ?_)
          · rw [if_pos hc_999] at h
            refine az_E.sn 1 (pc' := 13) (L' := [.ref 61]) (S' := [.int (0 : Int32)]) (σ' := (97, I, J, R)) rfl ?_
            refine az_E.ret (v := some (.int (0 : Int32))) (σ' := (97, I, J, R)) rfl ?_
            show az_E az_F ex 1 56 4 [.ref 61, .int (I 67 1)] [.int (0 : Int32)] (97, I, J, R) _
            refine az_E.br (c := (0 : Int32) = 0) (tt := 19) (ff := 7) (L' := [.ref 61, .int (I 67 1)]) (S' := []) (σ' := (97, I, J, R)) rfl (fun _ => ?_) (fun hn => absurd (by decide) hn)
            refine az_E.sn 1 (pc' := 20) (L' := [.ref 61, .int (I 67 1)]) (S' := [.int (0 : Int32)]) (σ' := (97, I, J, R)) rfl ?_
            refine az_E.ret (v := some (.int (0 : Int32))) (σ' := (97, I, J, R)) rfl ?_
            show az_E az_F ex 2 128 69 [.retAddr 0, .retAddr 0, .int v2, .retAddr 0, .int v4, .int v5, .ref 67, .ref 61] [.int (0 : Int32)] (97, I, J, R) _
            refine az_E.br (c := (0 : Int32) = 0) (tt := 72) (ff := 75) (L' := [.retAddr 0, .retAddr 0, .int v2, .retAddr 0, .int v4, .int v5, .ref 67, .ref 61]) (S' := []) (σ' := (97, I, J, R)) rfl (fun _ => ?_) (fun hn => absurd (by decide) hn)
            refine az_E.sn 1 (pc' := 74) (L' := [.retAddr 0, .retAddr 0, .int v2, .retAddr 0, .int v4, .int v5, .ref 67, .ref 61]) (S' := [.int (-12 : Int32)]) (σ' := (97, I, J, R)) rfl ?_
            have h := Option.some.inj h
            subst h
            exact az_E.ret (v := some (.int (-12 : Int32))) (σ' := (97, I, J, R)) rfl hQ
          · rw [if_neg hc_999] at h
            refine az_E.sn 2 (pc' := 13) (L' := [.ref 61]) (S' := [.int (1 : Int32)]) (σ' := (97, I, J, R)) rfl ?_
            refine az_E.ret (v := some (.int (1 : Int32))) (σ' := (97, I, J, R)) rfl ?_
            show az_E az_F ex 1 56 4 [.ref 61, .int (I 67 1)] [.int (1 : Int32)] (97, I, J, R) _
            refine az_E.br (c := (1 : Int32) = 0) (tt := 19) (ff := 7) (L' := [.ref 61, .int (I 67 1)]) (S' := []) (σ' := (97, I, J, R)) rfl (fun hn => absurd hn (by decide)) (fun _ => ?_)
            refine az_E.sn 3 (pc' := 12) (L' := [.ref 61, .int (I 67 1)]) (S' := [.int (I 67 1), .int (I 61 1)]) (σ' := (97, I, J, R)) rfl ?_
            refine az_E.br (c := (I 61 1) = (I 67 1)) (tt := 15) (ff := 19) (L' := [.ref 61, .int (I 67 1)]) (S' := []) (σ' := (97, I, J, R)) rfl (fun hc_1000 => ?_) (fun hc_1000 => ?_)
            · rw [if_pos hc_1000] at h
              refine az_E.sn 2 (pc' := 20) (L' := [.ref 61, .int (I 67 1)]) (S' := [.int (1 : Int32)]) (σ' := (97, I, J, R)) rfl ?_
              refine az_E.ret (v := some (.int (1 : Int32))) (σ' := (97, I, J, R)) rfl ?_
              show az_E az_F ex 2 128 69 [.retAddr 0, .retAddr 0, .int v2, .retAddr 0, .int v4, .int v5, .ref 67, .ref 61] [.int (1 : Int32)] (97, I, J, R) _
              refine az_E.br (c := (1 : Int32) = 0) (tt := 72) (ff := 75) (L' := [.retAddr 0, .retAddr 0, .int v2, .retAddr 0, .int v4, .int v5, .ref 67, .ref 61]) (S' := []) (σ' := (97, I, J, R)) rfl (fun hn => absurd hn (by decide)) (fun _ => ?_)
              refine az_E.sn 3 (pc' := 80) (L' := [.retAddr 0, .retAddr 0, .int v2, .retAddr 0, .int v4, .int v5, .ref 67, .ref 61]) (S' := [.int v5, .int v2, .ref 67]) (σ' := (97, I, J, R)) rfl ?_
              refine az_E.call (d := 1) (k' := 60) (vs := [.ref 67, .int v2, .int v5]) (pc' := 83) (S' := []) rfl ?_ (fun _ _ hq => hq)
              show az_E az_F ex 1 60 0 [.ref 67, .int v2, .int v5] [] (97, I, J, R) _
              refine az_E.sn 1 (pc' := 1) (L' := [.ref 67, .int v2, .int v5]) (S' := [.int v2]) (σ' := (97, I, J, R)) rfl ?_
              refine az_E.br (c := v2 < 0) (tt := 30) (ff := 4) (L' := [.ref 67, .int v2, .int v5]) (S' := []) (σ' := (97, I, J, R)) rfl (fun hc_1001 => ?_) (fun hc_1001 => ?_)
              · rw [if_pos hc_1001] at h
                refine az_E.sn 1 (pc' := 31) (L' := [.ref 67, .int v2, .int v5]) (S' := [.int (0 : Int32)]) (σ' := (97, I, J, R)) rfl ?_
                refine az_E.ret (v := some (.int (0 : Int32))) (σ' := (97, I, J, R)) rfl ?_
                show az_E az_F ex 2 128 83 [.retAddr 0, .retAddr 0, .int v2, .retAddr 0, .int v4, .int v5, .ref 67, .ref 61] [.int (0 : Int32)] (97, I, J, R) _
                refine az_E.br (c := (0 : Int32) = 0) (tt := 98) (ff := 86) (L' := [.retAddr 0, .retAddr 0, .int v2, .retAddr 0, .int v4, .int v5, .ref 67, .ref 61]) (S' := []) (σ' := (97, I, J, R)) rfl (fun _ => ?_) (fun hn => absurd (by decide) hn)
                refine az_E.sn 1 (pc' := 100) (L' := [.retAddr 0, .retAddr 0, .int v2, .retAddr 0, .int v4, .int v5, .ref 67, .ref 61]) (S' := [.int (-13 : Int32)]) (σ' := (97, I, J, R)) rfl ?_
                have h := Option.some.inj h
                subst h
                exact az_E.ret (v := some (.int (-13 : Int32))) (σ' := (97, I, J, R)) rfl hQ
              · rw [if_neg hc_1001] at h
                refine az_E.sn 1 (pc' := 5) (L' := [.ref 67, .int v2, .int v5]) (S' := [.int v5]) (σ' := (97, I, J, R)) rfl ?_
                refine az_E.br (c := v5 < 0) (tt := 30) (ff := 8) (L' := [.ref 67, .int v2, .int v5]) (S' := []) (σ' := (97, I, J, R)) rfl (fun hc_1002 => ?_) (fun hc_1002 => ?_)
                · rw [if_pos hc_1002] at h
                  refine az_E.sn 1 (pc' := 31) (L' := [.ref 67, .int v2, .int v5]) (S' := [.int (0 : Int32)]) (σ' := (97, I, J, R)) rfl ?_
                  refine az_E.ret (v := some (.int (0 : Int32))) (σ' := (97, I, J, R)) rfl ?_
                  show az_E az_F ex 2 128 83 [.retAddr 0, .retAddr 0, .int v2, .retAddr 0, .int v4, .int v5, .ref 67, .ref 61] [.int (0 : Int32)] (97, I, J, R) _
                  refine az_E.br (c := (0 : Int32) = 0) (tt := 98) (ff := 86) (L' := [.retAddr 0, .retAddr 0, .int v2, .retAddr 0, .int v4, .int v5, .ref 67, .ref 61]) (S' := []) (σ' := (97, I, J, R)) rfl (fun _ => ?_) (fun hn => absurd (by decide) hn)
                  refine az_E.sn 1 (pc' := 100) (L' := [.retAddr 0, .retAddr 0, .int v2, .retAddr 0, .int v4, .int v5, .ref 67, .ref 61]) (S' := [.int (-13 : Int32)]) (σ' := (97, I, J, R)) rfl ?_
                  have h := Option.some.inj h
                  subst h
                  exact az_E.ret (v := some (.int (-13 : Int32))) (σ' := (97, I, J, R)) rfl hQ
                · rw [if_neg hc_1002] at h
                  refine az_E.sn 3 (pc' := 13) (L' := [.ref 67, .int v2, .int v5]) (S' := [.int (I 67 2), .int v2]) (σ' := (97, I, J, R)) rfl ?_
                  refine az_E.br (c := (I 67 2) < v2) (tt := 30) (ff := 16) (L' := [.ref 67, .int v2, .int v5]) (S' := []) (σ' := (97, I, J, R)) rfl (fun hc_1003 => ?_) (fun hc_1003 => ?_)
                  · rw [if_pos hc_1003] at h
                    refine az_E.sn 1 (pc' := 31) (L' := [.ref 67, .int v2, .int v5]) (S' := [.int (0 : Int32)]) (σ' := (97, I, J, R)) rfl ?_
                    refine az_E.ret (v := some (.int (0 : Int32))) (σ' := (97, I, J, R)) rfl ?_
                    show az_E az_F ex 2 128 83 [.retAddr 0, .retAddr 0, .int v2, .retAddr 0, .int v4, .int v5, .ref 67, .ref 61] [.int (0 : Int32)] (97, I, J, R) _
                    refine az_E.br (c := (0 : Int32) = 0) (tt := 98) (ff := 86) (L' := [.retAddr 0, .retAddr 0, .int v2, .retAddr 0, .int v4, .int v5, .ref 67, .ref 61]) (S' := []) (σ' := (97, I, J, R)) rfl (fun _ => ?_) (fun hn => absurd (by decide) hn)
                    refine az_E.sn 1 (pc' := 100) (L' := [.retAddr 0, .retAddr 0, .int v2, .retAddr 0, .int v4, .int v5, .ref 67, .ref 61]) (S' := [.int (-13 : Int32)]) (σ' := (97, I, J, R)) rfl ?_
                    have h := Option.some.inj h
                    subst h
                    exact az_E.ret (v := some (.int (-13 : Int32))) (σ' := (97, I, J, R)) rfl hQ
                  · rw [if_neg hc_1003] at h
                    refine az_E.sn 5 (pc' := 23) (L' := [.ref 67, .int v2, .int v5]) (S' := [.int ((I 67 2) - v2), .int v5]) (σ' := (97, I, J, R)) rfl ?_
                    refine az_E.br (c := ((I 67 2) - v2) < v5) (tt := 30) (ff := 26) (L' := [.ref 67, .int v2, .int v5]) (S' := []) (σ' := (97, I, J, R)) rfl (fun hc_1004 => ?_) (fun hc_1004 => ?_)
                    · rw [if_pos hc_1004] at h
                      refine az_E.sn 1 (pc' := 31) (L' := [.ref 67, .int v2, .int v5]) (S' := [.int (0 : Int32)]) (σ' := (97, I, J, R)) rfl ?_
                      refine az_E.ret (v := some (.int (0 : Int32))) (σ' := (97, I, J, R)) rfl ?_
                      show az_E az_F ex 2 128 83 [.retAddr 0, .retAddr 0, .int v2, .retAddr 0, .int v4, .int v5, .ref 67, .ref 61] [.int (0 : Int32)] (97, I, J, R) _
                      refine az_E.br (c := (0 : Int32) = 0) (tt := 98) (ff := 86) (L' := [.retAddr 0, .retAddr 0, .int v2, .retAddr 0, .int v4, .int v5, .ref 67, .ref 61]) (S' := []) (σ' := (97, I, J, R)) rfl (fun _ => ?_) (fun hn => absurd (by decide) hn)
                      refine az_E.sn 1 (pc' := 100) (L' := [.retAddr 0, .retAddr 0, .int v2, .retAddr 0, .int v4, .int v5, .ref 67, .ref 61]) (S' := [.int (-13 : Int32)]) (σ' := (97, I, J, R)) rfl ?_
                      have h := Option.some.inj h
                      subst h
                      exact az_E.ret (v := some (.int (-13 : Int32))) (σ' := (97, I, J, R)) rfl hQ
                    · rw [if_neg hc_1004] at h
                      refine az_E.sn 2 (pc' := 31) (L' := [.ref 67, .int v2, .int v5]) (S' := [.int (1 : Int32)]) (σ' := (97, I, J, R)) rfl ?_
                      refine az_E.ret (v := some (.int (1 : Int32))) (σ' := (97, I, J, R)) rfl ?_
                      show az_E az_F ex 2 128 83 [.retAddr 0, .retAddr 0, .int v2, .retAddr 0, .int v4, .int v5, .ref 67, .ref 61] [.int (1 : Int32)] (97, I, J, R) _
                      refine az_E.br (c := (1 : Int32) = 0) (tt := 98) (ff := 86) (L' := [.retAddr 0, .retAddr 0, .int v2, .retAddr 0, .int v4, .int v5, .ref 67, .ref 61]) (S' := []) (σ' := (97, I, J, R)) rfl (fun hn => absurd hn (by decide)) (fun _ => ?_)
                      refine az_E.sn 3 (pc' := 92) (L' := [.retAddr 0, .retAddr 0, .int v2, .retAddr 0, .int v4, .int v5, .ref 67, .ref 61]) (S' := [.int v5, .int v4, .ref 61]) (σ' := (97, I, J, R)) rfl ?_
                      refine az_E.call (d := 1) (k' := 60) (vs := [.ref 61, .int v4, .int v5]) (pc' := 95) (S' := []) rfl ?_ (fun _ _ hq => hq)
                      show az_E az_F ex 1 60 0 [.ref 61, .int v4, .int v5] [] (97, I, J, R) _
                      refine az_E.sn 1 (pc' := 1) (L' := [.ref 61, .int v4, .int v5]) (S' := [.int v4]) (σ' := (97, I, J, R)) rfl ?_
                      refine az_E.br (c := v4 < 0) (tt := 30) (ff := 4) (L' := [.ref 61, .int v4, .int v5]) (S' := []) (σ' := (97, I, J, R)) rfl (fun hc_1005 => ?_) (fun hc_1005 => ?_)
                      · rw [if_pos hc_1005] at h
                        refine az_E.sn 1 (pc' := 31) (L' := [.ref 61, .int v4, .int v5]) (S' := [.int (0 : Int32)]) (σ' := (97, I, J, R)) rfl ?_
                        refine az_E.ret (v := some (.int (0 : Int32))) (σ' := (97, I, J, R)) rfl ?_
                        show az_E az_F ex 2 128 95 [.retAddr 0, .retAddr 0, .int v2, .retAddr 0, .int v4, .int v5, .ref 67, .ref 61] [.int (0 : Int32)] (97, I, J, R) _
                        refine az_E.br (c := (0 : Int32) = 0) (tt := 98) (ff := 101) (L' := [.retAddr 0, .retAddr 0, .int v2, .retAddr 0, .int v4, .int v5, .ref 67, .ref 61]) (S' := []) (σ' := (97, I, J, R)) rfl (fun _ => ?_) (fun hn => absurd (by decide) hn)
                        refine az_E.sn 1 (pc' := 100) (L' := [.retAddr 0, .retAddr 0, .int v2, .retAddr 0, .int v4, .int v5, .ref 67, .ref 61]) (S' := [.int (-13 : Int32)]) (σ' := (97, I, J, R)) rfl ?_
                        have h := Option.some.inj h
                        subst h
                        exact az_E.ret (v := some (.int (-13 : Int32))) (σ' := (97, I, J, R)) rfl hQ
                      · rw [if_neg hc_1005] at h
                        refine az_E.sn 1 (pc' := 5) (L' := [.ref 61, .int v4, .int v5]) (S' := [.int v5]) (σ' := (97, I, J, R)) rfl ?_
                        refine az_E.br (c := v5 < 0) (tt := 30) (ff := 8) (L' := [.ref 61, .int v4, .int v5]) (S' := []) (σ' := (97, I, J, R)) rfl (fun hc_1006 => ?_) (fun hc_1006 => ?_)
                        · rw [if_pos hc_1006] at h
                          refine az_E.sn 1 (pc' := 31) (L' := [.ref 61, .int v4, .int v5]) (S' := [.int (0 : Int32)]) (σ' := (97, I, J, R)) rfl ?_
                          refine az_E.ret (v := some (.int (0 : Int32))) (σ' := (97, I, J, R)) rfl ?_
                          show az_E az_F ex 2 128 95 [.retAddr 0, .retAddr 0, .int v2, .retAddr 0, .int v4, .int v5, .ref 67, .ref 61] [.int (0 : Int32)] (97, I, J, R) _
                          refine az_E.br (c := (0 : Int32) = 0) (tt := 98) (ff := 101) (L' := [.retAddr 0, .retAddr 0, .int v2, .retAddr 0, .int v4, .int v5, .ref 67, .ref 61]) (S' := []) (σ' := (97, I, J, R)) rfl (fun _ => ?_) (fun hn => absurd (by decide) hn)
                          refine az_E.sn 1 (pc' := 100) (L' := [.retAddr 0, .retAddr 0, .int v2, .retAddr 0, .int v4, .int v5, .ref 67, .ref 61]) (S' := [.int (-13 : Int32)]) (σ' := (97, I, J, R)) rfl ?_
                          have h := Option.some.inj h
                          subst h
                          exact az_E.ret (v := some (.int (-13 : Int32))) (σ' := (97, I, J, R)) rfl hQ
                        · rw [if_neg hc_1006] at h
                          refine az_E.sn 3 (pc' := 13) (L' := [.ref 61, .int v4, .int v5]) (S' := [.int (I 61 2), .int v4]) (σ' := (97, I, J, R)) rfl ?_
                          refine az_E.br (c := (I 61 2) < v4) (tt := 30) (ff := 16) (L' := [.ref 61, .int v4, .int v5]) (S' := []) (σ' := (97, I, J, R)) rfl (fun hc_1007 => ?_) (fun hc_1007 => ?_)
                          · rw [if_pos hc_1007] at h
                            refine az_E.sn 1 (pc' := 31) (L' := [.ref 61, .int v4, .int v5]) (S' := [.int (0 : Int32)]) (σ' := (97, I, J, R)) rfl ?_
                            refine az_E.ret (v := some (.int (0 : Int32))) (σ' := (97, I, J, R)) rfl ?_
                            show az_E az_F ex 2 128 95 [.retAddr 0, .retAddr 0, .int v2, .retAddr 0, .int v4, .int v5, .ref 67, .ref 61] [.int (0 : Int32)] (97, I, J, R) _
                            refine az_E.br (c := (0 : Int32) = 0) (tt := 98) (ff := 101) (L' := [.retAddr 0, .retAddr 0, .int v2, .retAddr 0, .int v4, .int v5, .ref 67, .ref 61]) (S' := []) (σ' := (97, I, J, R)) rfl (fun _ => ?_) (fun hn => absurd (by decide) hn)
                            refine az_E.sn 1 (pc' := 100) (L' := [.retAddr 0, .retAddr 0, .int v2, .retAddr 0, .int v4, .int v5, .ref 67, .ref 61]) (S' := [.int (-13 : Int32)]) (σ' := (97, I, J, R)) rfl ?_
                            have h := Option.some.inj h
                            subst h
                            exact az_E.ret (v := some (.int (-13 : Int32))) (σ' := (97, I, J, R)) rfl hQ
                          · rw [if_neg hc_1007] at h
                            refine az_E.sn 5 (pc' := 23) (L' := [.ref 61, .int v4, .int v5]) (S' := [.int ((I 61 2) - v4), .int v5]) (σ' := (97, I, J, R)) rfl ?_
                            refine az_E.br (c := ((I 61 2) - v4) < v5) (tt := 30) (ff := 26) (L' := [.ref 61, .int v4, .int v5]) (S' := []) (σ' := (97, I, J, R)) rfl (fun hc_1008 => ?_) (fun hc_1008 => ?_)
                            · rw [if_pos hc_1008] at h
                              refine az_E.sn 1 (pc' := 31) (L' := [.ref 61, .int v4, .int v5]) (S' := [.int (0 : Int32)]) (σ' := (97, I, J, R)) rfl ?_
                              refine az_E.ret (v := some (.int (0 : Int32))) (σ' := (97, I, J, R)) rfl ?_
                              show az_E az_F ex 2 128 95 [.retAddr 0, .retAddr 0, .int v2, .retAddr 0, .int v4, .int v5, .ref 67, .ref 61] [.int (0 : Int32)] (97, I, J, R) _
                              refine az_E.br (c := (0 : Int32) = 0) (tt := 98) (ff := 101) (L' := [.retAddr 0, .retAddr 0, .int v2, .retAddr 0, .int v4, .int v5, .ref 67, .ref 61]) (S' := []) (σ' := (97, I, J, R)) rfl (fun _ => ?_) (fun hn => absurd (by decide) hn)
                              refine az_E.sn 1 (pc' := 100) (L' := [.retAddr 0, .retAddr 0, .int v2, .retAddr 0, .int v4, .int v5, .ref 67, .ref 61]) (S' := [.int (-13 : Int32)]) (σ' := (97, I, J, R)) rfl ?_
                              have h := Option.some.inj h
                              subst h
                              exact az_E.ret (v := some (.int (-13 : Int32))) (σ' := (97, I, J, R)) rfl hQ
                            · rw [if_neg hc_1008] at h
                              refine az_E.sn 2 (pc' := 31) (L' := [.ref 61, .int v4, .int v5]) (S' := [.int (1 : Int32)]) (σ' := (97, I, J, R)) rfl ?_
                              refine az_E.ret (v := some (.int (1 : Int32))) (σ' := (97, I, J, R)) rfl ?_
                              show az_E az_F ex 2 128 95 [.retAddr 0, .retAddr 0, .int v2, .retAddr 0, .int v4, .int v5, .ref 67, .ref 61] [.int (1 : Int32)] (97, I, J, R) _
                              refine az_E.br (c := (1 : Int32) = 0) (tt := 98) (ff := 101) (L' := [.retAddr 0, .retAddr 0, .int v2, .retAddr 0, .int v4, .int v5, .ref 67, .ref 61]) (S' := []) (σ' := (97, I, J, R)) rfl (fun hn => absurd hn (by decide)) (fun _ => ?_)
                              refine az_E.sn 7 (pc' := 116) (L' := [.retAddr 0, .retAddr 0, .int v2, .retAddr 0, .int v4, .int v5, .ref 67, .ref 61]) (S' := [.int v5, .int v4, .ref (61 + 1), .int v2, .ref (67 + 1)]) (σ' := (97, I, J, R)) rfl ?_
                              by_cases hc_1009 : v2 < 0 ∨ v4 < 0 ∨ v5 < 0 ∨ 60 < v2.toNatClampNeg + v5.toNatClampNeg ∨ 60 < v4.toNatClampNeg + v5.toNatClampNeg
                              · rw [if_pos hc_1009] at h; cases h
                              · rw [if_neg hc_1009] at h
                                refine az_E.o (o := az_cp az_F (97, I, J, R) (67 + 1) v2 (61 + 1) v4 v5) (pc' := 119) (L' := [.retAddr 0, .retAddr 0, .int v2, .retAddr 0, .int v4, .int v5, .ref 67, .ref 61]) (S' := []) (x := (97, I, (az_ur J (61 + 1) (va_cpy (J (67 + 1)) (J (61 + 1)) v2.toNatClampNeg v4.toNatClampNeg v5.toNatClampNeg)), R)) rfl (if_neg hc_1009) ?_
                                refine az_E.sn 1 (pc' := 121) (L' := [.retAddr 0, .retAddr 0, .int v2, .retAddr 0, .int v4, .int v5, .ref 67, .ref 61]) (S' := [.int v5]) (σ' := (97, I, (az_ur J (61 + 1) (va_cpy (J (67 + 1)) (J (61 + 1)) v2.toNatClampNeg v4.toNatClampNeg v5.toNatClampNeg)), R)) rfl ?_
                                have h := Option.some.inj h
                                subst h
                                exact az_E.ret (v := some (.int v5)) (σ' := (97, I, (az_ur J (61 + 1) (va_cpy (J (67 + 1)) (J (61 + 1)) v2.toNatClampNeg v4.toNatClampNeg v5.toNatClampNeg)), R)) rfl hQ
            · rw [if_neg hc_1000] at h
              refine az_E.sn 1 (pc' := 20) (L' := [.ref 61, .int (I 67 1)]) (S' := [.int (0 : Int32)]) (σ' := (97, I, J, R)) rfl ?_
              refine az_E.ret (v := some (.int (0 : Int32))) (σ' := (97, I, J, R)) rfl ?_
              show az_E az_F ex 2 128 69 [.retAddr 0, .retAddr 0, .int v2, .retAddr 0, .int v4, .int v5, .ref 67, .ref 61] [.int (0 : Int32)] (97, I, J, R) _
              refine az_E.br (c := (0 : Int32) = 0) (tt := 72) (ff := 75) (L' := [.retAddr 0, .retAddr 0, .int v2, .retAddr 0, .int v4, .int v5, .ref 67, .ref 61]) (S' := []) (σ' := (97, I, J, R)) rfl (fun _ => ?_) (fun hn => absurd (by decide) hn)
              refine az_E.sn 1 (pc' := 74) (L' := [.retAddr 0, .retAddr 0, .int v2, .retAddr 0, .int v4, .int v5, .ref 67, .ref 61]) (S' := [.int (-12 : Int32)]) (σ' := (97, I, J, R)) rfl ?_
              have h := Option.some.inj h
              subst h
              exact az_E.ret (v := some (.int (-12 : Int32))) (σ' := (97, I, J, R)) rfl hQ
  · rw [if_neg hc_982] at h
    refine az_E.sn 1 (pc' := 21) (L' := [.ref 67]) (S' := [.int (0 : Int32)]) (σ' := (97, I, J, R)) rfl ?_
    refine az_E.ret (v := some (.int (0 : Int32))) (σ' := (97, I, J, R)) rfl ?_
    show az_E az_F ex 2 128 37 [.retAddr 0, .retAddr 0, .int v2, .retAddr 0, .int v4, .int v5, .ref 67, .ref 61] [.int (0 : Int32)] (97, I, J, R) _
    refine az_E.br (c := (0 : Int32) = 0) (tt := 40) (ff := 48) (L' := [.retAddr 0, .retAddr 0, .int v2, .retAddr 0, .int v4, .int v5, .ref 67, .ref 61]) (S' := []) (σ' := (97, I, J, R)) rfl (fun _ => ?_) (fun hn => absurd (by decide) hn)
    refine az_E.sn 1 (pc' := 42) (L' := [.retAddr 0, .retAddr 0, .int v2, .retAddr 0, .int v4, .int v5, .ref 67, .ref 61]) (S' := [.ref 61]) (σ' := (97, I, J, R)) rfl ?_
    refine az_E.call (d := 1) (k' := 54) (vs := [.ref 61]) (pc' := 45) (S' := []) rfl ?_ (fun _ _ hq => hq)
    show az_E az_F ex 1 54 0 [.ref 61] [] (97, I, J, R) _
    refine az_E.sn 3 (pc' := 5) (L' := [.ref 61]) (S' := [.int (-1 : Int32), .int (I 61 0)]) (σ' := (97, I, J, R)) rfl ?_
    refine az_E.br (c := (I 61 0) = (-1 : Int32)) (tt := 8) (ff := 20) (L' := [.ref 61]) (S' := []) (σ' := (97, I, J, R)) rfl (fun hc_1010 => ?_) (fun hc_1010 => ?_)
    · rw [if_pos hc_1010] at h
      refine az_E.sn 3 (pc' := 13) (L' := [.ref 61]) (S' := [.int (-1 : Int32), .int (I 61 1)]) (σ' := (97, I, J, R)) rfl ?_
      refine az_E.br (c := (I 61 1) = (-1 : Int32)) (tt := 16) (ff := 20) (L' := [.ref 61]) (S' := []) (σ' := (97, I, J, R)) rfl (fun hc_1011 => ?_) (fun hc_1011 => ?_)
      · rw [if_pos hc_1011] at h
        refine az_E.sn 2 (pc' := 21) (L' := [.ref 61]) (S' := [.int (1 : Int32)]) (σ' := (97, I, J, R)) rfl ?_
        refine az_E.ret (v := some (.int (1 : Int32))) (σ' := (97, I, J, R)) rfl ?_
        show az_E az_F ex 2 128 45 [.retAddr 0, .retAddr 0, .int v2, .retAddr 0, .int v4, .int v5, .ref 67, .ref 61] [.int (1 : Int32)] (97, I, J, R) _
        refine az_E.br (c := (1 : Int32) = 0) (tt := 51) (ff := 48) (L' := [.retAddr 0, .retAddr 0, .int v2, .retAddr 0, .int v4, .int v5, .ref 67, .ref 61]) (S' := []) (σ' := (97, I, J, R)) rfl (fun hn => absurd hn (by decide)) (fun _ => ?_)
        refine az_E.sn 1 (pc' := 50) (L' := [.retAddr 0, .retAddr 0, .int v2, .retAddr 0, .int v4, .int v5, .ref 67, .ref 61]) (S' := [.int (-11 : Int32)]) (σ' := (97, I, J, R)) rfl ?_
        have h := Option.some.inj h
        subst h
        exact az_E.ret (v := some (.int (-11 : Int32))) (σ' := (97, I, J, R)) rfl hQ
      · rw [if_neg hc_1011] at h
        refine az_E.sn 1 (pc' := 21) (L' := [.ref 61]) (S' := [.int (0 : Int32)]) (σ' := (97, I, J, R)) rfl ?_
        refine az_E.ret (v := some (.int (0 : Int32))) (σ' := (97, I, J, R)) rfl ?_
        show az_E az_F ex 2 128 45 [.retAddr 0, .retAddr 0, .int v2, .retAddr 0, .int v4, .int v5, .ref 67, .ref 61] [.int (0 : Int32)] (97, I, J, R) _
        refine az_E.br (c := (0 : Int32) = 0) (tt := 51) (ff := 48) (L' := [.retAddr 0, .retAddr 0, .int v2, .retAddr 0, .int v4, .int v5, .ref 67, .ref 61]) (S' := []) (σ' := (97, I, J, R)) rfl (fun _ => ?_) (fun hn => absurd (by decide) hn)
        refine az_E.sn 1 (pc' := 53) (L' := [.retAddr 0, .retAddr 0, .int v2, .retAddr 0, .int v4, .int v5, .ref 67, .ref 61]) (S' := [.ref 67]) (σ' := (97, I, J, R)) rfl ?_
        refine az_E.call (d := 1) (k' := 55) (vs := [.ref 67]) (pc' := 56) (S' := []) rfl ?_ (fun _ _ hq => hq)
        show az_E az_F ex 1 55 0 [.ref 67] [] (97, I, J, R) _
        refine az_E.sn 3 (pc' := 5) (L' := [.ref 67]) (S' := [.int (-1 : Int32), .int (I 67 1)]) (σ' := (97, I, J, R)) rfl ?_
        refine az_E.br (c := (I 67 1) = (-1 : Int32)) (tt := 12) (ff := 8) (L' := [.ref 67]) (S' := []) (σ' := (97, I, J, R)) rfl (fun hc_1012 => ?_) (fun hc_1012 => ?_)
        · rw [if_pos hc_1012] at h
          refine az_E.sn 1 (pc' := 13) (L' := [.ref 67]) (S' := [.int (0 : Int32)]) (σ' := (97, I, J, R)) rfl ?_
          refine az_E.ret (v := some (.int (0 : Int32))) (σ' := (97, I, J, R)) rfl ?_
          show az_E az_F ex 2 128 56 [.retAddr 0, .retAddr 0, .int v2, .retAddr 0, .int v4, .int v5, .ref 67, .ref 61] [.int (0 : Int32)] (97, I, J, R) _
          refine az_E.br (c := (0 : Int32) = 0) (tt := 72) (ff := 59) (L' := [.retAddr 0, .retAddr 0, .int v2, .retAddr 0, .int v4, .int v5, .ref 67, .ref 61]) (S' := []) (σ' := (97, I, J, R)) rfl (fun _ => ?_) (fun hn => absurd (by decide) hn)
          refine az_E.sn 1 (pc' := 74) (L' := [.retAddr 0, .retAddr 0, .int v2, .retAddr 0, .int v4, .int v5, .ref 67, .ref 61]) (S' := [.int (-12 : Int32)]) (σ' := (97, I, J, R)) rfl ?_
          have h := Option.some.inj h
          subst h
          exact az_E.ret (v := some (.int (-12 : Int32))) (σ' := (97, I, J, R)) rfl hQ
        · rw [if_neg hc_1012] at h
          refine az_E.sn 2 (pc' := 13) (L' := [.ref 67]) (S' := [.int (1 : Int32)]) (σ' := (97, I, J, R)) rfl ?_
          refine az_E.ret (v := some (.int (1 : Int32))) (σ' := (97, I, J, R)) rfl ?_
          show az_E az_F ex 2 128 56 [.retAddr 0, .retAddr 0, .int v2, .retAddr 0, .int v4, .int v5, .ref 67, .ref 61] [.int (1 : Int32)] (97, I, J, R) _
          refine az_E.br (c := (1 : Int32) = 0) (tt := 72) (ff := 59) (L' := [.retAddr 0, .retAddr 0, .int v2, .retAddr 0, .int v4, .int v5, .ref 67, .ref 61]) (S' := []) (σ' := (97, I, J, R)) rfl (fun hn => absurd hn (by decide)) (fun _ => ?_)
          refine az_E.sn 3 (pc' := 66) (L' := [.retAddr 0, .retAddr 0, .int v2, .retAddr 0, .int v4, .int v5, .ref 67, .ref 61]) (S' := [.int (I 67 1), .ref 61]) (σ' := (97, I, J, R)) rfl ?_
          refine az_E.call (d := 1) (k' := 56) (vs := [.ref 61, .int (I 67 1)]) (pc' := 69) (S' := []) rfl ?_ (fun _ _ hq => hq)
          show az_E az_F ex 1 56 0 [.ref 61, .int (I 67 1)] [] (97, I, J, R) _
          refine az_E.sn 1 (pc' := 1) (L' := [.ref 61, .int (I 67 1)]) (S' := [.ref 61]) (σ' := (97, I, J, R)) rfl ?_
          refine az_E.call (d := 0) (k' := 55) (vs := [.ref 61]) (pc' := 4) (S' := []) rfl ?_ (fun _ _ hq => hq)
          show az_E az_F ex 0 55 0 [.ref 61] [] (97, I, J, R) _
          refine az_E.sn 3 (pc' := 5) (L' := [.ref 61]) (S' := [.int (-1 : Int32), .int (I 61 1)]) (σ' := (97, I, J, R)) rfl ?_
          refine az_E.br (c := (I 61 1) = (-1 : Int32)) (tt := 12) (ff := 8) (L' := [.ref 61]) (S' := []) (σ' := (97, I, J, R)) rfl (fun hc_1013 => ?_) (fun hc_1013 => ?_)
          · rw [if_pos hc_1013] at h
            refine az_E.sn 1 (pc' := 13) (L' := [.ref 61]) (S' := [.int (0 : Int32)]) (σ' := (97, I, J, R)) rfl ?_
            refine az_E.ret (v := some (.int (0 : Int32))) (σ' := (97, I, J, R)) rfl ?_
            show az_E az_F ex 1 56 4 [.ref 61, .int (I 67 1)] [.int (0 : Int32)] (97, I, J, R) _
            refine az_E.br (c := (0 : Int32) = 0) (tt := 19) (ff := 7) (L' := [.ref 61, .int (I 67 1)]) (S' := []) (σ' := (97, I, J, R)) rfl (fun _ => ?_) (fun hn => absurd (by decide) hn)
            refine az_E.sn 1 (pc' := 20) (L' := [.ref 61, .int (I 67 1)]) (S' := [.int (0 : Int32)]) (σ' := (97, I, J, R)) rfl ?_
            refine az_E.ret (v := some (.int (0 : Int32))) (σ' := (97, I, J, R)) rfl ?_
            show az_E az_F ex 2 128 69 [.retAddr 0, .retAddr 0, .int v2, .retAddr 0, .int v4, .int v5, .ref 67, .ref 61] [.int (0 : Int32)] (97, I, J, R) _
            refine az_E.br (c := (0 : Int32) = 0) (tt := 72) (ff := 75) (L' := [.retAddr 0, .retAddr 0, .int v2, .retAddr 0, .int v4, .int v5, .ref 67, .ref 61]) (S' := []) (σ' := (97, I, J, R)) rfl (fun _ => ?_) (fun hn => absurd (by decide) hn)
            refine az_E.sn 1 (pc' := 74) (L' := [.retAddr 0, .retAddr 0, .int v2, .retAddr 0, .int v4, .int v5, .ref 67, .ref 61]) (S' := [.int (-12 : Int32)]) (σ' := (97, I, J, R)) rfl ?_
            have h := Option.some.inj h
            subst h
            exact az_E.ret (v := some (.int (-12 : Int32))) (σ' := (97, I, J, R)) rfl hQ
          · rw [if_neg hc_1013] at h
            refine az_E.sn 2 (pc' := 13) (L' := [.ref 61]) (S' := [.int (1 : Int32)]) (σ' := (97, I, J, R)) rfl ?_
            refine az_E.ret (v := some (.int (1 : Int32))) (σ' := (97, I, J, R)) rfl ?_
            show az_E az_F ex 1 56 4 [.ref 61, .int (I 67 1)] [.int (1 : Int32)] (97, I, J, R) _
            refine az_E.br (c := (1 : Int32) = 0) (tt := 19) (ff := 7) (L' := [.ref 61, .int (I 67 1)]) (S' := []) (σ' := (97, I, J, R)) rfl (fun hn => absurd hn (by decide)) (fun _ => ?_)
            refine az_E.sn 3 (pc' := 12) (L' := [.ref 61, .int (I 67 1)]) (S' := [.int (I 67 1), .int (I 61 1)]) (σ' := (97, I, J, R)) rfl ?_
            refine az_E.br (c := (I 61 1) = (I 67 1)) (tt := 15) (ff := 19) (L' := [.ref 61, .int (I 67 1)]) (S' := []) (σ' := (97, I, J, R)) rfl (fun hc_1014 => ?_) (fun hc_1014 => ?_)
            · rw [if_pos hc_1014] at h
              refine az_E.sn 2 (pc' := 20) (L' := [.ref 61, .int (I 67 1)]) (S' := [.int (1 : Int32)]) (σ' := (97, I, J, R)) rfl ?_
              refine az_E.ret (v := some (.int (1 : Int32))) (σ' := (97, I, J, R)) rfl ?_
              show az_E az_F ex 2 128 69 [.retAddr 0, .retAddr 0, .int v2, .retAddr 0, .int v4, .int v5, .ref 67, .ref 61] [.int (1 : Int32)] (97, I, J, R) _
              refine az_E.br (c := (1 : Int32) = 0) (tt := 72) (ff := 75) (L' := [.retAddr 0, .retAddr 0, .int v2, .retAddr 0, .int v4, .int v5, .ref 67, .ref 61]) (S' := []) (σ' := (97, I, J, R)) rfl (fun hn => absurd hn (by decide)) (fun _ => ?_)
              refine az_E.sn 3 (pc' := 80) (L' := [.retAddr 0, .retAddr 0, .int v2, .retAddr 0, .int v4, .int v5, .ref 67, .ref 61]) (S' := [.int v5, .int v2, .ref 67]) (σ' := (97, I, J, R)) rfl ?_
              refine az_E.call (d := 1) (k' := 60) (vs := [.ref 67, .int v2, .int v5]) (pc' := 83) (S' := []) rfl ?_ (fun _ _ hq => hq)
              show az_E az_F ex 1 60 0 [.ref 67, .int v2, .int v5] [] (97, I, J, R) _
              refine az_E.sn 1 (pc' := 1) (L' := [.ref 67, .int v2, .int v5]) (S' := [.int v2]) (σ' := (97, I, J, R)) rfl ?_
              refine az_E.br (c := v2 < 0) (tt := 30) (ff := 4) (L' := [.ref 67, .int v2, .int v5]) (S' := []) (σ' := (97, I, J, R)) rfl (fun hc_1015 => ?_) (fun hc_1015 => ?_)
              · rw [if_pos hc_1015] at h
                refine az_E.sn 1 (pc' := 31) (L' := [.ref 67, .int v2, .int v5]) (S' := [.int (0 : Int32)]) (σ' := (97, I, J, R)) rfl ?_
                refine az_E.ret (v := some (.int (0 : Int32))) (σ' := (97, I, J, R)) rfl ?_
                show az_E az_F ex 2 128 83 [.retAddr 0, .retAddr 0, .int v2, .retAddr 0, .int v4, .int v5, .ref 67, .ref 61] [.int (0 : Int32)] (97, I, J, R) _
                refine az_E.br (c := (0 : Int32) = 0) (tt := 98) (ff := 86) (L' := [.retAddr 0, .retAddr 0, .int v2, .retAddr 0, .int v4, .int v5, .ref 67, .ref 61]) (S' := []) (σ' := (97, I, J, R)) rfl (fun _ => ?_) (fun hn => absurd (by decide) hn)
                refine az_E.sn 1 (pc' := 100) (L' := [.retAddr 0, .retAddr 0, .int v2, .retAddr 0, .int v4, .int v5, .ref 67, .ref 61]) (S' := [.int (-13 : Int32)]) (σ' := (97, I, J, R)) rfl ?_
                have h := Option.some.inj h
                subst h
                exact az_E.ret (v := some (.int (-13 : Int32))) (σ' := (97, I, J, R)) rfl hQ
              · rw [if_neg hc_1015] at h
                refine az_E.sn 1 (pc' := 5) (L' := [.ref 67, .int v2, .int v5]) (S' := [.int v5]) (σ' := (97, I, J, R)) rfl ?_
                refine az_E.br (c := v5 < 0) (tt := 30) (ff := 8) (L' := [.ref 67, .int v2, .int v5]) (S' := []) (σ' := (97, I, J, R)) rfl (fun hc_1016 => ?_) (fun hc_1016 => ?_)
                · rw [if_pos hc_1016] at h
                  refine az_E.sn 1 (pc' := 31) (L' := [.ref 67, .int v2, .int v5]) (S' := [.int (0 : Int32)]) (σ' := (97, I, J, R)) rfl ?_
                  refine az_E.ret (v := some (.int (0 : Int32))) (σ' := (97, I, J, R)) rfl ?_
                  show az_E az_F ex 2 128 83 [.retAddr 0, .retAddr 0, .int v2, .retAddr 0, .int v4, .int v5, .ref 67, .ref 61] [.int (0 : Int32)] (97, I, J, R) _
                  refine az_E.br (c := (0 : Int32) = 0) (tt := 98) (ff := 86) (L' := [.retAddr 0, .retAddr 0, .int v2, .retAddr 0, .int v4, .int v5, .ref 67, .ref 61]) (S' := []) (σ' := (97, I, J, R)) rfl (fun _ => ?_) (fun hn => absurd (by decide) hn)
                  refine az_E.sn 1 (pc' := 100) (L' := [.retAddr 0, .retAddr 0, .int v2, .retAddr 0, .int v4, .int v5, .ref 67, .ref 61]) (S' := [.int (-13 : Int32)]) (σ' := (97, I, J, R)) rfl ?_
                  have h := Option.some.inj h
                  subst h
                  exact az_E.ret (v := some (.int (-13 : Int32))) (σ' := (97, I, J, R)) rfl hQ
                · rw [if_neg hc_1016] at h
                  refine az_E.sn 3 (pc' := 13) (L' := [.ref 67, .int v2, .int v5]) (S' := [.int (I 67 2), .int v2]) (σ' := (97, I, J, R)) rfl ?_
                  refine az_E.br (c := (I 67 2) < v2) (tt := 30) (ff := 16) (L' := [.ref 67, .int v2, .int v5]) (S' := []) (σ' := (97, I, J, R)) rfl (fun hc_1017 => ?_) (fun hc_1017 => ?_)
                  · rw [if_pos hc_1017] at h
                    refine az_E.sn 1 (pc' := 31) (L' := [.ref 67, .int v2, .int v5]) (S' := [.int (0 : Int32)]) (σ' := (97, I, J, R)) rfl ?_
                    refine az_E.ret (v := some (.int (0 : Int32))) (σ' := (97, I, J, R)) rfl ?_
                    show az_E az_F ex 2 128 83 [.retAddr 0, .retAddr 0, .int v2, .retAddr 0, .int v4, .int v5, .ref 67, .ref 61] [.int (0 : Int32)] (97, I, J, R) _
                    refine az_E.br (c := (0 : Int32) = 0) (tt := 98) (ff := 86) (L' := [.retAddr 0, .retAddr 0, .int v2, .retAddr 0, .int v4, .int v5, .ref 67, .ref 61]) (S' := []) (σ' := (97, I, J, R)) rfl (fun _ => ?_) (fun hn => absurd (by decide) hn)
                    refine az_E.sn 1 (pc' := 100) (L' := [.retAddr 0, .retAddr 0, .int v2, .retAddr 0, .int v4, .int v5, .ref 67, .ref 61]) (S' := [.int (-13 : Int32)]) (σ' := (97, I, J, R)) rfl ?_
                    have h := Option.some.inj h
                    subst h
                    exact az_E.ret (v := some (.int (-13 : Int32))) (σ' := (97, I, J, R)) rfl hQ
                  · rw [if_neg hc_1017] at h
                    refine az_E.sn 5 (pc' := 23) (L' := [.ref 67, .int v2, .int v5]) (S' := [.int ((I 67 2) - v2), .int v5]) (σ' := (97, I, J, R)) rfl ?_
                    refine az_E.br (c := ((I 67 2) - v2) < v5) (tt := 30) (ff := 26) (L' := [.ref 67, .int v2, .int v5]) (S' := []) (σ' := (97, I, J, R)) rfl (fun hc_1018 => ?_) (fun hc_1018 => ?_)
                    · rw [if_pos hc_1018] at h
                      refine az_E.sn 1 (pc' := 31) (L' := [.ref 67, .int v2, .int v5]) (S' := [.int (0 : Int32)]) (σ' := (97, I, J, R)) rfl ?_
                      refine az_E.ret (v := some (.int (0 : Int32))) (σ' := (97, I, J, R)) rfl ?_
                      show az_E az_F ex 2 128 83 [.retAddr 0, .retAddr 0, .int v2, .retAddr 0, .int v4, .int v5, .ref 67, .ref 61] [.int (0 : Int32)] (97, I, J, R) _
                      refine az_E.br (c := (0 : Int32) = 0) (tt := 98) (ff := 86) (L' := [.retAddr 0, .retAddr 0, .int v2, .retAddr 0, .int v4, .int v5, .ref 67, .ref 61]) (S' := []) (σ' := (97, I, J, R)) rfl (fun _ => ?_) (fun hn => absurd (by decide) hn)
                      refine az_E.sn 1 (pc' := 100) (L' := [.retAddr 0, .retAddr 0, .int v2, .retAddr 0, .int v4, .int v5, .ref 67, .ref 61]) (S' := [.int (-13 : Int32)]) (σ' := (97, I, J, R)) rfl ?_
                      have h := Option.some.inj h
                      subst h
                      exact az_E.ret (v := some (.int (-13 : Int32))) (σ' := (97, I, J, R)) rfl hQ
                    · rw [if_neg hc_1018] at h
                      refine az_E.sn 2 (pc' := 31) (L' := [.ref 67, .int v2, .int v5]) (S' := [.int (1 : Int32)]) (σ' := (97, I, J, R)) rfl ?_
                      refine az_E.ret (v := some (.int (1 : Int32))) (σ' := (97, I, J, R)) rfl ?_
                      show az_E az_F ex 2 128 83 [.retAddr 0, .retAddr 0, .int v2, .retAddr 0, .int v4, .int v5, .ref 67, .ref 61] [.int (1 : Int32)] (97, I, J, R) _
                      refine az_E.br (c := (1 : Int32) = 0) (tt := 98) (ff := 86) (L' := [.retAddr 0, .retAddr 0, .int v2, .retAddr 0, .int v4, .int v5, .ref 67, .ref 61]) (S' := []) (σ' := (97, I, J, R)) rfl (fun hn => absurd hn (by decide)) (fun _ => ?_)
                      refine az_E.sn 3 (pc' := 92) (L' := [.retAddr 0, .retAddr 0, .int v2, .retAddr 0, .int v4, .int v5, .ref 67, .ref 61]) (S' := [.int v5, .int v4, .ref 61]) (σ' := (97, I, J, R)) rfl ?_
                      refine az_E.call (d := 1) (k' := 60) (vs := [.ref 61, .int v4, .int v5]) (pc' := 95) (S' := []) rfl ?_ (fun _ _ hq => hq)
                      show az_E az_F ex 1 60 0 [.ref 61, .int v4, .int v5] [] (97, I, J, R) _
                      refine az_E.sn 1 (pc' := 1) (L' := [.ref 61, .int v4, .int v5]) (S' := [.int v4]) (σ' := (97, I, J, R)) rfl ?_
                      refine az_E.br (c := v4 < 0) (tt := 30) (ff := 4) (L' := [.ref 61, .int v4, .int v5]) (S' := []) (σ' := (97, I, J, R)) rfl (fun hc_1019 => ?_) (fun hc_1019 => ?_)
                      · rw [if_pos hc_1019] at h
                        refine az_E.sn 1 (pc' := 31) (L' := [.ref 61, .int v4, .int v5]) (S' := [.int (0 : Int32)]) (σ' := (97, I, J, R)) rfl ?_
                        refine az_E.ret (v := some (.int (0 : Int32))) (σ' := (97, I, J, R)) rfl ?_
                        show az_E az_F ex 2 128 95 [.retAddr 0, .retAddr 0, .int v2, .retAddr 0, .int v4, .int v5, .ref 67, .ref 61] [.int (0 : Int32)] (97, I, J, R) _
                        refine az_E.br (c := (0 : Int32) = 0) (tt := 98) (ff := 101) (L' := [.retAddr 0, .retAddr 0, .int v2, .retAddr 0, .int v4, .int v5, .ref 67, .ref 61]) (S' := []) (σ' := (97, I, J, R)) rfl (fun _ => ?_) (fun hn => absurd (by decide) hn)
                        refine az_E.sn 1 (pc' := 100) (L' := [.retAddr 0, .retAddr 0, .int v2, .retAddr 0, .int v4, .int v5, .ref 67, .ref 61]) (S' := [.int (-13 : Int32)]) (σ' := (97, I, J, R)) rfl ?_
                        have h := Option.some.inj h
                        subst h
                        exact az_E.ret (v := some (.int (-13 : Int32))) (σ' := (97, I, J, R)) rfl hQ
                      · rw [if_neg hc_1019] at h
                        refine az_E.sn 1 (pc' := 5) (L' := [.ref 61, .int v4, .int v5]) (S' := [.int v5]) (σ' := (97, I, J, R)) rfl ?_
                        refine az_E.br (c := v5 < 0) (tt := 30) (ff := 8) (L' := [.ref 61, .int v4, .int v5]) (S' := []) (σ' := (97, I, J, R)) rfl (fun hc_1020 => ?_) (fun hc_1020 => ?_)
                        · rw [if_pos hc_1020] at h
                          refine az_E.sn 1 (pc' := 31) (L' := [.ref 61, .int v4, .int v5]) (S' := [.int (0 : Int32)]) (σ' := (97, I, J, R)) rfl ?_
                          refine az_E.ret (v := some (.int (0 : Int32))) (σ' := (97, I, J, R)) rfl ?_
                          show az_E az_F ex 2 128 95 [.retAddr 0, .retAddr 0, .int v2, .retAddr 0, .int v4, .int v5, .ref 67, .ref 61] [.int (0 : Int32)] (97, I, J, R) _
                          refine az_E.br (c := (0 : Int32) = 0) (tt := 98) (ff := 101) (L' := [.retAddr 0, .retAddr 0, .int v2, .retAddr 0, .int v4, .int v5, .ref 67, .ref 61]) (S' := []) (σ' := (97, I, J, R)) rfl (fun _ => ?_) (fun hn => absurd (by decide) hn)
                          refine az_E.sn 1 (pc' := 100) (L' := [.retAddr 0, .retAddr 0, .int v2, .retAddr 0, .int v4, .int v5, .ref 67, .ref 61]) (S' := [.int (-13 : Int32)]) (σ' := (97, I, J, R)) rfl ?_
                          have h := Option.some.inj h
                          subst h
                          exact az_E.ret (v := some (.int (-13 : Int32))) (σ' := (97, I, J, R)) rfl hQ
                        · rw [if_neg hc_1020] at h
                          refine az_E.sn 3 (pc' := 13) (L' := [.ref 61, .int v4, .int v5]) (S' := [.int (I 61 2), .int v4]) (σ' := (97, I, J, R)) rfl ?_
                          refine az_E.br (c := (I 61 2) < v4) (tt := 30) (ff := 16) (L' := [.ref 61, .int v4, .int v5]) (S' := []) (σ' := (97, I, J, R)) rfl (fun hc_1021 => ?_) (fun hc_1021 => ?_)
                          · rw [if_pos hc_1021] at h
                            refine az_E.sn 1 (pc' := 31) (L' := [.ref 61, .int v4, .int v5]) (S' := [.int (0 : Int32)]) (σ' := (97, I, J, R)) rfl ?_
                            refine az_E.ret (v := some (.int (0 : Int32))) (σ' := (97, I, J, R)) rfl ?_
                            show az_E az_F ex 2 128 95 [.retAddr 0, .retAddr 0, .int v2, .retAddr 0, .int v4, .int v5, .ref 67, .ref 61] [.int (0 : Int32)] (97, I, J, R) _
                            refine az_E.br (c := (0 : Int32) = 0) (tt := 98) (ff := 101) (L' := [.retAddr 0, .retAddr 0, .int v2, .retAddr 0, .int v4, .int v5, .ref 67, .ref 61]) (S' := []) (σ' := (97, I, J, R)) rfl (fun _ => ?_) (fun hn => absurd (by decide) hn)
                            refine az_E.sn 1 (pc' := 100) (L' := [.retAddr 0, .retAddr 0, .int v2, .retAddr 0, .int v4, .int v5, .ref 67, .ref 61]) (S' := [.int (-13 : Int32)]) (σ' := (97, I, J, R)) rfl ?_
                            have h := Option.some.inj h
                            subst h
                            exact az_E.ret (v := some (.int (-13 : Int32))) (σ' := (97, I, J, R)) rfl hQ
                          · rw [if_neg hc_1021] at h
                            refine az_E.sn 5 (pc' := 23) (L' := [.ref 61, .int v4, .int v5]) (S' := [.int ((I 61 2) - v4), .int v5]) (σ' := (97, I, J, R)) rfl ?_
                            refine az_E.br (c := ((I 61 2) - v4) < v5) (tt := 30) (ff := 26) (L' := [.ref 61, .int v4, .int v5]) (S' := []) (σ' := (97, I, J, R)) rfl (fun hc_1022 => ?_) (fun hc_1022 => ?_)
                            · rw [if_pos hc_1022] at h
                              refine az_E.sn 1 (pc' := 31) (L' := [.ref 61, .int v4, .int v5]) (S' := [.int (0 : Int32)]) (σ' := (97, I, J, R)) rfl ?_
                              refine az_E.ret (v := some (.int (0 : Int32))) (σ' := (97, I, J, R)) rfl ?_
                              show az_E az_F ex 2 128 95 [.retAddr 0, .retAddr 0, .int v2, .retAddr 0, .int v4, .int v5, .ref 67, .ref 61] [.int (0 : Int32)] (97, I, J, R) _
                              refine az_E.br (c := (0 : Int32) = 0) (tt := 98) (ff := 101) (L' := [.retAddr 0, .retAddr 0, .int v2, .retAddr 0, .int v4, .int v5, .ref 67, .ref 61]) (S' := []) (σ' := (97, I, J, R)) rfl (fun _ => ?_) (fun hn => absurd (by decide) hn)
                              refine az_E.sn 1 (pc' := 100) (L' := [.retAddr 0, .retAddr 0, .int v2, .retAddr 0, .int v4, .int v5, .ref 67, .ref 61]) (S' := [.int (-13 : Int32)]) (σ' := (97, I, J, R)) rfl ?_
                              have h := Option.some.inj h
                              subst h
                              exact az_E.ret (v := some (.int (-13 : Int32))) (σ' := (97, I, J, R)) rfl hQ
                            · rw [if_neg hc_1022] at h
                              refine az_E.sn 2 (pc' := 31) (L' := [.ref 61, .int v4, .int v5]) (S' := [.int (1 : Int32)]) (σ' := (97, I, J, R)) rfl ?_
                              refine az_E.ret (v := some (.int (1 : Int32))) (σ' := (97, I, J, R)) rfl ?_
                              show az_E az_F ex 2 128 95 [.retAddr 0, .retAddr 0, .int v2, .retAddr 0, .int v4, .int v5, .ref 67, .ref 61] [.int (1 : Int32)] (97, I, J, R) _
                              refine az_E.br (c := (1 : Int32) = 0) (tt := 98) (ff := 101) (L' := [.retAddr 0, .retAddr 0, .int v2, .retAddr 0, .int v4, .int v5, .ref 67, .ref 61]) (S' := []) (σ' := (97, I, J, R)) rfl (fun hn => absurd hn (by decide)) (fun _ => ?_)
                              refine az_E.sn 7 (pc' := 116) (L' := [.retAddr 0, .retAddr 0, .int v2, .retAddr 0, .int v4, .int v5, .ref 67, .ref 61]) (S' := [.int v5, .int v4, .ref (61 + 1), .int v2, .ref (67 + 1)]) (σ' := (97, I, J, R)) rfl ?_
                              by_cases hc_1023 : v2 < 0 ∨ v4 < 0 ∨ v5 < 0 ∨ 60 < v2.toNatClampNeg + v5.toNatClampNeg ∨ 60 < v4.toNatClampNeg + v5.toNatClampNeg
                              · rw [if_pos hc_1023] at h; cases h
                              · rw [if_neg hc_1023] at h
                                refine az_E.o (o := az_cp az_F (97, I, J, R) (67 + 1) v2 (61 + 1) v4 v5) (pc' := 119) (L' := [.retAddr 0, .retAddr 0, .int v2, .retAddr 0, .int v4, .int v5, .ref 67, .ref 61]) (S' := []) (x := (97, I, (az_ur J (61 + 1) (va_cpy (J (67 + 1)) (J (61 + 1)) v2.toNatClampNeg v4.toNatClampNeg v5.toNatClampNeg)), R)) rfl (if_neg hc_1023) ?_
                                refine az_E.sn 1 (pc' := 121) (L' := [.retAddr 0, .retAddr 0, .int v2, .retAddr 0, .int v4, .int v5, .ref 67, .ref 61]) (S' := [.int v5]) (σ' := (97, I, (az_ur J (61 + 1) (va_cpy (J (67 + 1)) (J (61 + 1)) v2.toNatClampNeg v4.toNatClampNeg v5.toNatClampNeg)), R)) rfl ?_
                                have h := Option.some.inj h
                                subst h
                                exact az_E.ret (v := some (.int v5)) (σ' := (97, I, (az_ur J (61 + 1) (va_cpy (J (67 + 1)) (J (61 + 1)) v2.toNatClampNeg v4.toNatClampNeg v5.toNatClampNeg)), R)) rfl hQ
            · rw [if_neg hc_1014] at h
              refine az_E.sn 1 (pc' := 20) (L' := [.ref 61, .int (I 67 1)]) (S' := [.int (0 : Int32)]) (σ' := (97, I, J, R)) rfl ?_
              refine az_E.ret (v := some (.int (0 : Int32))) (σ' := (97, I, J, R)) rfl ?_
              show az_E az_F ex 2 128 69 [.retAddr 0, .retAddr 0, .int v2, .retAddr 0, .int v4, .int v5, .ref 67, .ref 61] [.int (0 : Int32)] (97, I, J, R) _
              refine az_E.br (c := (0 : Int32) = 0) (tt := 72) (ff := 75) (L' := [.retAddr 0, .retAddr 0, .int v2, .retAddr 0, .int v4, .int v5, .ref 67, .ref 61]) (S' := []) (σ' := (97, I, J, R)) rfl (fun _ => ?_) (fun hn => absurd (by decide) hn)
              refine az_E.sn 1 (pc' := 74) (L' := [.retAddr 0, .retAddr 0, .int v2, .retAddr 0, .int v4, .int v5, .ref 67, .ref 61]) (S' := [.int (-12 : Int32)]) (σ' := (97, I, J, R)) rfl ?_
              have h := Option.some.inj h
              subst h
              exact az_E.ret (v := some (.int (-12 : Int32))) (σ' := (97, I, J, R)) rfl hQ
    · rw [if_neg hc_1010] at h
      refine az_E.sn 1 (pc' := 21) (L' := [.ref 61]) (S' := [.int (0 : Int32)]) (σ' := (97, I, J, R)) rfl ?_
      refine az_E.ret (v := some (.int (0 : Int32))) (σ' := (97, I, J, R)) rfl ?_
      show az_E az_F ex 2 128 45 [.retAddr 0, .retAddr 0, .int v2, .retAddr 0, .int v4, .int v5, .ref 67, .ref 61] [.int (0 : Int32)] (97, I, J, R) _
      refine az_E.br (c := (0 : Int32) = 0) (tt := 51) (ff := 48) (L' := [.retAddr 0, .retAddr 0, .int v2, .retAddr 0, .int v4, .int v5, .ref 67, .ref 61]) (S' := []) (σ' := (97, I, J, R)) rfl (fun _ => ?_) (fun hn => absurd (by decide) hn)
      refine az_E.sn 1 (pc' := 53) (L' := [.retAddr 0, .retAddr 0, .int v2, .retAddr 0, .int v4, .int v5, .ref 67, .ref 61]) (S' := [.ref 67]) (σ' := (97, I, J, R)) rfl ?_
      refine az_E.call (d := 1) (k' := 55) (vs := [.ref 67]) (pc' := 56) (S' := []) rfl ?_ (fun _ _ hq => hq)
      show az_E az_F ex 1 55 0 [.ref 67] [] (97, I, J, R) _
      refine az_E.sn 3 (pc' := 5) (L' := [.ref 67]) (S' := [.int (-1 : Int32), .int (I 67 1)]) (σ' := (97, I, J, R)) rfl ?_
      refine az_E.br (c := (I 67 1) = (-1 : Int32)) (tt := 12) (ff := 8) (L' := [.ref 67]) (S' := []) (σ' := (97, I, J, R)) rfl (fun hc_1024 => ?_) (fun hc_1024 => ?_)
      · rw [if_pos hc_1024] at h
        refine az_E.sn 1 (pc' := 13) (L' := [.ref 67]) (S' := [.int (0 : Int32)]) (σ' := (97, I, J, R)) rfl ?_
        refine az_E.ret (v := some (.int (0 : Int32))) (σ' := (97, I, J, R)) rfl ?_
        show az_E az_F ex 2 128 56 [.retAddr 0, .retAddr 0, .int v2, .retAddr 0, .int v4, .int v5, .ref 67, .ref 61] [.int (0 : Int32)] (97, I, J, R) _
        refine az_E.br (c := (0 : Int32) = 0) (tt := 72) (ff := 59) (L' := [.retAddr 0, .retAddr 0, .int v2, .retAddr 0, .int v4, .int v5, .ref 67, .ref 61]) (S' := []) (σ' := (97, I, J, R)) rfl (fun _ => ?_) (fun hn => absurd (by decide) hn)
        refine az_E.sn 1 (pc' := 74) (L' := [.retAddr 0, .retAddr 0, .int v2, .retAddr 0, .int v4, .int v5, .ref 67, .ref 61]) (S' := [.int (-12 : Int32)]) (σ' := (97, I, J, R)) rfl ?_
        have h := Option.some.inj h
        subst h
        exact az_E.ret (v := some (.int (-12 : Int32))) (σ' := (97, I, J, R)) rfl hQ
      · rw [if_neg hc_1024] at h
        refine az_E.sn 2 (pc' := 13) (L' := [.ref 67]) (S' := [.int (1 : Int32)]) (σ' := (97, I, J, R)) rfl ?_
        refine az_E.ret (v := some (.int (1 : Int32))) (σ' := (97, I, J, R)) rfl ?_
        show az_E az_F ex 2 128 56 [.retAddr 0, .retAddr 0, .int v2, .retAddr 0, .int v4, .int v5, .ref 67, .ref 61] [.int (1 : Int32)] (97, I, J, R) _
        refine az_E.br (c := (1 : Int32) = 0) (tt := 72) (ff := 59) (L' := [.retAddr 0, .retAddr 0, .int v2, .retAddr 0, .int v4, .int v5, .ref 67, .ref 61]) (S' := []) (σ' := (97, I, J, R)) rfl (fun hn => absurd hn (by decide)) (fun _ => ?_)
        refine az_E.sn 3 (pc' := 66) (L' := [.retAddr 0, .retAddr 0, .int v2, .retAddr 0, .int v4, .int v5, .ref 67, .ref 61]) (S' := [.int (I 67 1), .ref 61]) (σ' := (97, I, J, R)) rfl ?_
        refine az_E.call (d := 1) (k' := 56) (vs := [.ref 61, .int (I 67 1)]) (pc' := 69) (S' := []) rfl ?_ (fun _ _ hq => hq)
        show az_E az_F ex 1 56 0 [.ref 61, .int (I 67 1)] [] (97, I, J, R) _
        refine az_E.sn 1 (pc' := 1) (L' := [.ref 61, .int (I 67 1)]) (S' := [.ref 61]) (σ' := (97, I, J, R)) rfl ?_
        refine az_E.call (d := 0) (k' := 55) (vs := [.ref 61]) (pc' := 4) (S' := []) rfl ?_ (fun _ _ hq => hq)
        show az_E az_F ex 0 55 0 [.ref 61] [] (97, I, J, R) _
        refine az_E.sn 3 (pc' := 5) (L' := [.ref 61]) (S' := [.int (-1 : Int32), .int (I 61 1)]) (σ' := (97, I, J, R)) rfl ?_
        refine az_E.br (c := (I 61 1) = (-1 : Int32)) (tt := 12) (ff := 8) (L' := [.ref 61]) (S' := []) (σ' := (97, I, J, R)) rfl (fun hc_1025 => ?_) (fun hc_1025 => ?_)
        · rw [if_pos hc_1025] at h
          refine az_E.sn 1 (pc' := 13) (L' := [.ref 61]) (S' := [.int (0 : Int32)]) (σ' := (97, I, J, R)) rfl ?_
          refine az_E.ret (v := some (.int (0 : Int32))) (σ' := (97, I, J, R)) rfl ?_
          show az_E az_F ex 1 56 4 [.ref 61, .int (I 67 1)] [.int (0 : Int32)] (97, I, J, R) _
          refine az_E.br (c := (0 : Int32) = 0) (tt := 19) (ff := 7) (L' := [.ref 61, .int (I 67 1)]) (S' := []) (σ' := (97, I, J, R)) rfl (fun _ => ?_) (fun hn => absurd (by decide) hn)
          refine az_E.sn 1 (pc' := 20) (L' := [.ref 61, .int (I 67 1)]) (S' := [.int (0 : Int32)]) (σ' := (97, I, J, R)) rfl ?_
          refine az_E.ret (v := some (.int (0 : Int32))) (σ' := (97, I, J, R)) rfl ?_
          show az_E az_F ex 2 128 69 [.retAddr 0, .retAddr 0, .int v2, .retAddr 0, .int v4, .int v5, .ref 67, .ref 61] [.int (0 : Int32)] (97, I, J, R) _
          refine az_E.br (c := (0 : Int32) = 0) (tt := 72) (ff := 75) (L' := [.retAddr 0, .retAddr 0, .int v2, .retAddr 0, .int v4, .int v5, .ref 67, .ref 61]) (S' := []) (σ' := (97, I, J, R)) rfl (fun _ => ?_) (fun hn => absurd (by decide) hn)
          refine az_E.sn 1 (pc' := 74) (L' := [.retAddr 0, .retAddr 0, .int v2, .retAddr 0, .int v4, .int v5, .ref 67, .ref 61]) (S' := [.int (-12 : Int32)]) (σ' := (97, I, J, R)) rfl ?_
          have h := Option.some.inj h
          subst h
          exact az_E.ret (v := some (.int (-12 : Int32))) (σ' := (97, I, J, R)) rfl hQ
        · rw [if_neg hc_1025] at h
          refine az_E.sn 2 (pc' := 13) (L' := [.ref 61]) (S' := [.int (1 : Int32)]) (σ' := (97, I, J, R)) rfl ?_
          refine az_E.ret (v := some (.int (1 : Int32))) (σ' := (97, I, J, R)) rfl ?_
          show az_E az_F ex 1 56 4 [.ref 61, .int (I 67 1)] [.int (1 : Int32)] (97, I, J, R) _
          refine az_E.br (c := (1 : Int32) = 0) (tt := 19) (ff := 7) (L' := [.ref 61, .int (I 67 1)]) (S' := []) (σ' := (97, I, J, R)) rfl (fun hn => absurd hn (by decide)) (fun _ => ?_)
          refine az_E.sn 3 (pc' := 12) (L' := [.ref 61, .int (I 67 1)]) (S' := [.int (I 67 1), .int (I 61 1)]) (σ' := (97, I, J, R)) rfl ?_
          refine az_E.br (c := (I 61 1) = (I 67 1)) (tt := 15) (ff := 19) (L' := [.ref 61, .int (I 67 1)]) (S' := []) (σ' := (97, I, J, R)) rfl (fun hc_1026 => ?_) (fun hc_1026 => ?_)
          · rw [if_pos hc_1026] at h
            refine az_E.sn 2 (pc' := 20) (L' := [.ref 61, .int (I 67 1)]) (S' := [.int (1 : Int32)]) (σ' := (97, I, J, R)) rfl ?_
            refine az_E.ret (v := some (.int (1 : Int32))) (σ' := (97, I, J, R)) rfl ?_
            show az_E az_F ex 2 128 69 [.retAddr 0, .retAddr 0, .int v2, .retAddr 0, .int v4, .int v5, .ref 67, .ref 61] [.int (1 : Int32)] (97, I, J, R) _
            refine az_E.br (c := (1 : Int32) = 0) (tt := 72) (ff := 75) (L' := [.retAddr 0, .retAddr 0, .int v2, .retAddr 0, .int v4, .int v5, .ref 67, .ref 61]) (S' := []) (σ' := (97, I, J, R)) rfl (fun hn => absurd hn (by decide)) (fun _ => ?_)
            refine az_E.sn 3 (pc' := 80) (L' := [.retAddr 0, .retAddr 0, .int v2, .retAddr 0, .int v4, .int v5, .ref 67, .ref 61]) (S' := [.int v5, .int v2, .ref 67]) (σ' := (97, I, J, R)) rfl ?_
            refine az_E.call (d := 1) (k' := 60) (vs := [.ref 67, .int v2, .int v5]) (pc' := 83) (S' := []) rfl ?_ (fun _ _ hq => hq)
            show az_E az_F ex 1 60 0 [.ref 67, .int v2, .int v5] [] (97, I, J, R) _
            refine az_E.sn 1 (pc' := 1) (L' := [.ref 67, .int v2, .int v5]) (S' := [.int v2]) (σ' := (97, I, J, R)) rfl ?_
            refine az_E.br (c := v2 < 0) (tt := 30) (ff := 4) (L' := [.ref 67, .int v2, .int v5]) (S' := []) (σ' := (97, I, J, R)) rfl (fun hc_1027 => ?_) (fun hc_1027 => ?_)
            · rw [if_pos hc_1027] at h
              refine az_E.sn 1 (pc' := 31) (L' := [.ref 67, .int v2, .int v5]) (S' := [.int (0 : Int32)]) (σ' := (97, I, J, R)) rfl ?_
              refine az_E.ret (v := some (.int (0 : Int32))) (σ' := (97, I, J, R)) rfl ?_
              show az_E az_F ex 2 128 83 [.retAddr 0, .retAddr 0, .int v2, .retAddr 0, .int v4, .int v5, .ref 67, .ref 61] [.int (0 : Int32)] (97, I, J, R) _
              refine az_E.br (c := (0 : Int32) = 0) (tt := 98) (ff := 86) (L' := [.retAddr 0, .retAddr 0, .int v2, .retAddr 0, .int v4, .int v5, .ref 67, .ref 61]) (S' := []) (σ' := (97, I, J, R)) rfl (fun _ => ?_) (fun hn => absurd (by decide) hn)
              refine az_E.sn 1 (pc' := 100) (L' := [.retAddr 0, .retAddr 0, .int v2, .retAddr 0, .int v4, .int v5, .ref 67, .ref 61]) (S' := [.int (-13 : Int32)]) (σ' := (97, I, J, R)) rfl ?_
              have h := Option.some.inj h
              subst h
              exact az_E.ret (v := some (.int (-13 : Int32))) (σ' := (97, I, J, R)) rfl hQ
            · rw [if_neg hc_1027] at h
              refine az_E.sn 1 (pc' := 5) (L' := [.ref 67, .int v2, .int v5]) (S' := [.int v5]) (σ' := (97, I, J, R)) rfl ?_
              refine az_E.br (c := v5 < 0) (tt := 30) (ff := 8) (L' := [.ref 67, .int v2, .int v5]) (S' := []) (σ' := (97, I, J, R)) rfl (fun hc_1028 => ?_) (fun hc_1028 => ?_)
              · rw [if_pos hc_1028] at h
                refine az_E.sn 1 (pc' := 31) (L' := [.ref 67, .int v2, .int v5]) (S' := [.int (0 : Int32)]) (σ' := (97, I, J, R)) rfl ?_
                refine az_E.ret (v := some (.int (0 : Int32))) (σ' := (97, I, J, R)) rfl ?_
                show az_E az_F ex 2 128 83 [.retAddr 0, .retAddr 0, .int v2, .retAddr 0, .int v4, .int v5, .ref 67, .ref 61] [.int (0 : Int32)] (97, I, J, R) _
                refine az_E.br (c := (0 : Int32) = 0) (tt := 98) (ff := 86) (L' := [.retAddr 0, .retAddr 0, .int v2, .retAddr 0, .int v4, .int v5, .ref 67, .ref 61]) (S' := []) (σ' := (97, I, J, R)) rfl (fun _ => ?_) (fun hn => absurd (by decide) hn)
                refine az_E.sn 1 (pc' := 100) (L' := [.retAddr 0, .retAddr 0, .int v2, .retAddr 0, .int v4, .int v5, .ref 67, .ref 61]) (S' := [.int (-13 : Int32)]) (σ' := (97, I, J, R)) rfl ?_
                have h := Option.some.inj h
                subst h
                exact az_E.ret (v := some (.int (-13 : Int32))) (σ' := (97, I, J, R)) rfl hQ
              · rw [if_neg hc_1028] at h
                refine az_E.sn 3 (pc' := 13) (L' := [.ref 67, .int v2, .int v5]) (S' := [.int (I 67 2), .int v2]) (σ' := (97, I, J, R)) rfl ?_
                refine az_E.br (c := (I 67 2) < v2) (tt := 30) (ff := 16) (L' := [.ref 67, .int v2, .int v5]) (S' := []) (σ' := (97, I, J, R)) rfl (fun hc_1029 => ?_) (fun hc_1029 => ?_)
                · rw [if_pos hc_1029] at h
                  refine az_E.sn 1 (pc' := 31) (L' := [.ref 67, .int v2, .int v5]) (S' := [.int (0 : Int32)]) (σ' := (97, I, J, R)) rfl ?_
                  refine az_E.ret (v := some (.int (0 : Int32))) (σ' := (97, I, J, R)) rfl ?_
                  show az_E az_F ex 2 128 83 [.retAddr 0, .retAddr 0, .int v2, .retAddr 0, .int v4, .int v5, .ref 67, .ref 61] [.int (0 : Int32)] (97, I, J, R) _
                  refine az_E.br (c := (0 : Int32) = 0) (tt := 98) (ff := 86) (L' := [.retAddr 0, .retAddr 0, .int v2, .retAddr 0, .int v4, .int v5, .ref 67, .ref 61]) (S' := []) (σ' := (97, I, J, R)) rfl (fun _ => ?_) (fun hn => absurd (by decide) hn)
                  refine az_E.sn 1 (pc' := 100) (L' := [.retAddr 0, .retAddr 0, .int v2, .retAddr 0, .int v4, .int v5, .ref 67, .ref 61]) (S' := [.int (-13 : Int32)]) (σ' := (97, I, J, R)) rfl ?_
                  have h := Option.some.inj h
                  subst h
                  exact az_E.ret (v := some (.int (-13 : Int32))) (σ' := (97, I, J, R)) rfl hQ
                · rw [if_neg hc_1029] at h
                  refine az_E.sn 5 (pc' := 23) (L' := [.ref 67, .int v2, .int v5]) (S' := [.int ((I 67 2) - v2), .int v5]) (σ' := (97, I, J, R)) rfl ?_
                  refine az_E.br (c := ((I 67 2) - v2) < v5) (tt := 30) (ff := 26) (L' := [.ref 67, .int v2, .int v5]) (S' := []) (σ' := (97, I, J, R)) rfl (fun hc_1030 => ?_) (fun hc_1030 => ?_)
                  · rw [if_pos hc_1030] at h
                    refine az_E.sn 1 (pc' := 31) (L' := [.ref 67, .int v2, .int v5]) (S' := [.int (0 : Int32)]) (σ' := (97, I, J, R)) rfl ?_
                    refine az_E.ret (v := some (.int (0 : Int32))) (σ' := (97, I, J, R)) rfl ?_
                    show az_E az_F ex 2 128 83 [.retAddr 0, .retAddr 0, .int v2, .retAddr 0, .int v4, .int v5, .ref 67, .ref 61] [.int (0 : Int32)] (97, I, J, R) _
                    refine az_E.br (c := (0 : Int32) = 0) (tt := 98) (ff := 86) (L' := [.retAddr 0, .retAddr 0, .int v2, .retAddr 0, .int v4, .int v5, .ref 67, .ref 61]) (S' := []) (σ' := (97, I, J, R)) rfl (fun _ => ?_) (fun hn => absurd (by decide) hn)
                    refine az_E.sn 1 (pc' := 100) (L' := [.retAddr 0, .retAddr 0, .int v2, .retAddr 0, .int v4, .int v5, .ref 67, .ref 61]) (S' := [.int (-13 : Int32)]) (σ' := (97, I, J, R)) rfl ?_
                    have h := Option.some.inj h
                    subst h
                    exact az_E.ret (v := some (.int (-13 : Int32))) (σ' := (97, I, J, R)) rfl hQ
                  · rw [if_neg hc_1030] at h
                    refine az_E.sn 2 (pc' := 31) (L' := [.ref 67, .int v2, .int v5]) (S' := [.int (1 : Int32)]) (σ' := (97, I, J, R)) rfl ?_
                    refine az_E.ret (v := some (.int (1 : Int32))) (σ' := (97, I, J, R)) rfl ?_
                    show az_E az_F ex 2 128 83 [.retAddr 0, .retAddr 0, .int v2, .retAddr 0, .int v4, .int v5, .ref 67, .ref 61] [.int (1 : Int32)] (97, I, J, R) _
                    refine az_E.br (c := (1 : Int32) = 0) (tt := 98) (ff := 86) (L' := [.retAddr 0, .retAddr 0, .int v2, .retAddr 0, .int v4, .int v5, .ref 67, .ref 61]) (S' := []) (σ' := (97, I, J, R)) rfl (fun hn => absurd hn (by decide)) (fun _ => ?_)
                    refine az_E.sn 3 (pc' := 92) (L' := [.retAddr 0, .retAddr 0, .int v2, .retAddr 0, .int v4, .int v5, .ref 67, .ref 61]) (S' := [.int v5, .int v4, .ref 61]) (σ' := (97, I, J, R)) rfl ?_
                    refine az_E.call (d := 1) (k' := 60) (vs := [.ref 61, .int v4, .int v5]) (pc' := 95) (S' := []) rfl ?_ (fun _ _ hq => hq)
                    show az_E az_F ex 1 60 0 [.ref 61, .int v4, .int v5] [] (97, I, J, R) _
                    refine az_E.sn 1 (pc' := 1) (L' := [.ref 61, .int v4, .int v5]) (S' := [.int v4]) (σ' := (97, I, J, R)) rfl ?_
                    refine az_E.br (c := v4 < 0) (tt := 30) (ff := 4) (L' := [.ref 61, .int v4, .int v5]) (S' := []) (σ' := (97, I, J, R)) rfl (fun hc_1031 => ?_) (fun hc_1031 => ?_)
                    · rw [if_pos hc_1031] at h
                      refine az_E.sn 1 (pc' := 31) (L' := [.ref 61, .int v4, .int v5]) (S' := [.int (0 : Int32)]) (σ' := (97, I, J, R)) rfl ?_
                      refine az_E.ret (v := some (.int (0 : Int32))) (σ' := (97, I, J, R)) rfl ?_
                      show az_E az_F ex 2 128 95 [.retAddr 0, .retAddr 0, .int v2, .retAddr 0, .int v4, .int v5, .ref 67, .ref 61] [.int (0 : Int32)] (97, I, J, R) _
                      refine az_E.br (c := (0 : Int32) = 0) (tt := 98) (ff := 101) (L' := [.retAddr 0, .retAddr 0, .int v2, .retAddr 0, .int v4, .int v5, .ref 67, .ref 61]) (S' := []) (σ' := (97, I, J, R)) rfl (fun _ => ?_) (fun hn => absurd (by decide) hn)
                      refine az_E.sn 1 (pc' := 100) (L' := [.retAddr 0, .retAddr 0, .int v2, .retAddr 0, .int v4, .int v5, .ref 67, .ref 61]) (S' := [.int (-13 : Int32)]) (σ' := (97, I, J, R)) rfl ?_
                      have h := Option.some.inj h
                      subst h
                      exact az_E.ret (v := some (.int (-13 : Int32))) (σ' := (97, I, J, R)) rfl hQ
                    · rw [if_neg hc_1031] at h
                      refine az_E.sn 1 (pc' := 5) (L' := [.ref 61, .int v4, .int v5]) (S' := [.int v5]) (σ' := (97, I, J, R)) rfl ?_
                      refine az_E.br (c := v5 < 0) (tt := 30) (ff := 8) (L' := [.ref 61, .int v4, .int v5]) (S' := []) (σ' := (97, I, J, R)) rfl (fun hc_1032 => ?_) (fun hc_1032 => ?_)
                      · rw [if_pos hc_1032] at h
                        refine az_E.sn 1 (pc' := 31) (L' := [.ref 61, .int v4, .int v5]) (S' := [.int (0 : Int32)]) (σ' := (97, I, J, R)) rfl ?_
                        refine az_E.ret (v := some (.int (0 : Int32))) (σ' := (97, I, J, R)) rfl ?_
                        show az_E az_F ex 2 128 95 [.retAddr 0, .retAddr 0, .int v2, .retAddr 0, .int v4, .int v5, .ref 67, .ref 61] [.int (0 : Int32)] (97, I, J, R) _
                        refine az_E.br (c := (0 : Int32) = 0) (tt := 98) (ff := 101) (L' := [.retAddr 0, .retAddr 0, .int v2, .retAddr 0, .int v4, .int v5, .ref 67, .ref 61]) (S' := []) (σ' := (97, I, J, R)) rfl (fun _ => ?_) (fun hn => absurd (by decide) hn)
                        refine az_E.sn 1 (pc' := 100) (L' := [.retAddr 0, .retAddr 0, .int v2, .retAddr 0, .int v4, .int v5, .ref 67, .ref 61]) (S' := [.int (-13 : Int32)]) (σ' := (97, I, J, R)) rfl ?_
                        have h := Option.some.inj h
                        subst h
                        exact az_E.ret (v := some (.int (-13 : Int32))) (σ' := (97, I, J, R)) rfl hQ
                      · rw [if_neg hc_1032] at h
                        refine az_E.sn 3 (pc' := 13) (L' := [.ref 61, .int v4, .int v5]) (S' := [.int (I 61 2), .int v4]) (σ' := (97, I, J, R)) rfl ?_
                        refine az_E.br (c := (I 61 2) < v4) (tt := 30) (ff := 16) (L' := [.ref 61, .int v4, .int v5]) (S' := []) (σ' := (97, I, J, R)) rfl (fun hc_1033 => ?_) (fun hc_1033 => ?_)
                        · rw [if_pos hc_1033] at h
                          refine az_E.sn 1 (pc' := 31) (L' := [.ref 61, .int v4, .int v5]) (S' := [.int (0 : Int32)]) (σ' := (97, I, J, R)) rfl ?_
                          refine az_E.ret (v := some (.int (0 : Int32))) (σ' := (97, I, J, R)) rfl ?_
                          show az_E az_F ex 2 128 95 [.retAddr 0, .retAddr 0, .int v2, .retAddr 0, .int v4, .int v5, .ref 67, .ref 61] [.int (0 : Int32)] (97, I, J, R) _
                          refine az_E.br (c := (0 : Int32) = 0) (tt := 98) (ff := 101) (L' := [.retAddr 0, .retAddr 0, .int v2, .retAddr 0, .int v4, .int v5, .ref 67, .ref 61]) (S' := []) (σ' := (97, I, J, R)) rfl (fun _ => ?_) (fun hn => absurd (by decide) hn)
                          refine az_E.sn 1 (pc' := 100) (L' := [.retAddr 0, .retAddr 0, .int v2, .retAddr 0, .int v4, .int v5, .ref 67, .ref 61]) (S' := [.int (-13 : Int32)]) (σ' := (97, I, J, R)) rfl ?_
                          have h := Option.some.inj h
                          subst h
                          exact az_E.ret (v := some (.int (-13 : Int32))) (σ' := (97, I, J, R)) rfl hQ
                        · rw [if_neg hc_1033] at h
                          refine az_E.sn 5 (pc' := 23) (L' := [.ref 61, .int v4, .int v5]) (S' := [.int ((I 61 2) - v4), .int v5]) (σ' := (97, I, J, R)) rfl ?_
                          refine az_E.br (c := ((I 61 2) - v4) < v5) (tt := 30) (ff := 26) (L' := [.ref 61, .int v4, .int v5]) (S' := []) (σ' := (97, I, J, R)) rfl (fun hc_1034 => ?_) (fun hc_1034 => ?_)
                          · rw [if_pos hc_1034] at h
                            refine az_E.sn 1 (pc' := 31) (L' := [.ref 61, .int v4, .int v5]) (S' := [.int (0 : Int32)]) (σ' := (97, I, J, R)) rfl ?_
                            refine az_E.ret (v := some (.int (0 : Int32))) (σ' := (97, I, J, R)) rfl ?_
                            show az_E az_F ex 2 128 95 [.retAddr 0, .retAddr 0, .int v2, .retAddr 0, .int v4, .int v5, .ref 67, .ref 61] [.int (0 : Int32)] (97, I, J, R) _
                            refine az_E.br (c := (0 : Int32) = 0) (tt := 98) (ff := 101) (L' := [.retAddr 0, .retAddr 0, .int v2, .retAddr 0, .int v4, .int v5, .ref 67, .ref 61]) (S' := []) (σ' := (97, I, J, R)) rfl (fun _ => ?_) (fun hn => absurd (by decide) hn)
                            refine az_E.sn 1 (pc' := 100) (L' := [.retAddr 0, .retAddr 0, .int v2, .retAddr 0, .int v4, .int v5, .ref 67, .ref 61]) (S' := [.int (-13 : Int32)]) (σ' := (97, I, J, R)) rfl ?_
                            have h := Option.some.inj h
                            subst h
                            exact az_E.ret (v := some (.int (-13 : Int32))) (σ' := (97, I, J, R)) rfl hQ
                          · rw [if_neg hc_1034] at h
                            refine az_E.sn 2 (pc' := 31) (L' := [.ref 61, .int v4, .int v5]) (S' := [.int (1 : Int32)]) (σ' := (97, I, J, R)) rfl ?_
                            refine az_E.ret (v := some (.int (1 : Int32))) (σ' := (97, I, J, R)) rfl ?_
                            show az_E az_F ex 2 128 95 [.retAddr 0, .retAddr 0, .int v2, .retAddr 0, .int v4, .int v5, .ref 67, .ref 61] [.int (1 : Int32)] (97, I, J, R) _
                            refine az_E.br (c := (1 : Int32) = 0) (tt := 98) (ff := 101) (L' := [.retAddr 0, .retAddr 0, .int v2, .retAddr 0, .int v4, .int v5, .ref 67, .ref 61]) (S' := []) (σ' := (97, I, J, R)) rfl (fun hn => absurd hn (by decide)) (fun _ => ?_)
                            refine az_E.sn 7 (pc' := 116) (L' := [.retAddr 0, .retAddr 0, .int v2, .retAddr 0, .int v4, .int v5, .ref 67, .ref 61]) (S' := [.int v5, .int v4, .ref (61 + 1), .int v2, .ref (67 + 1)]) (σ' := (97, I, J, R)) rfl ?_
                            by_cases hc_1035 : v2 < 0 ∨ v4 < 0 ∨ v5 < 0 ∨ 60 < v2.toNatClampNeg + v5.toNatClampNeg ∨ 60 < v4.toNatClampNeg + v5.toNatClampNeg
                            · rw [if_pos hc_1035] at h; cases h
                            · rw [if_neg hc_1035] at h
                              refine az_E.o (o := az_cp az_F (97, I, J, R) (67 + 1) v2 (61 + 1) v4 v5) (pc' := 119) (L' := [.retAddr 0, .retAddr 0, .int v2, .retAddr 0, .int v4, .int v5, .ref 67, .ref 61]) (S' := []) (x := (97, I, (az_ur J (61 + 1) (va_cpy (J (67 + 1)) (J (61 + 1)) v2.toNatClampNeg v4.toNatClampNeg v5.toNatClampNeg)), R)) rfl (if_neg hc_1035) ?_
                              refine az_E.sn 1 (pc' := 121) (L' := [.retAddr 0, .retAddr 0, .int v2, .retAddr 0, .int v4, .int v5, .ref 67, .ref 61]) (S' := [.int v5]) (σ' := (97, I, (az_ur J (61 + 1) (va_cpy (J (67 + 1)) (J (61 + 1)) v2.toNatClampNeg v4.toNatClampNeg v5.toNatClampNeg)), R)) rfl ?_
                              have h := Option.some.inj h
                              subst h
                              exact az_E.ret (v := some (.int v5)) (σ' := (97, I, (az_ur J (61 + 1) (va_cpy (J (67 + 1)) (J (61 + 1)) v2.toNatClampNeg v4.toNatClampNeg v5.toNatClampNeg)), R)) rfl hQ
          · rw [if_neg hc_1026] at h
            refine az_E.sn 1 (pc' := 20) (L' := [.ref 61, .int (I 67 1)]) (S' := [.int (0 : Int32)]) (σ' := (97, I, J, R)) rfl ?_
            refine az_E.ret (v := some (.int (0 : Int32))) (σ' := (97, I, J, R)) rfl ?_
            show az_E az_F ex 2 128 69 [.retAddr 0, .retAddr 0, .int v2, .retAddr 0, .int v4, .int v5, .ref 67, .ref 61] [.int (0 : Int32)] (97, I, J, R) _
            refine az_E.br (c := (0 : Int32) = 0) (tt := 72) (ff := 75) (L' := [.retAddr 0, .retAddr 0, .int v2, .retAddr 0, .int v4, .int v5, .ref 67, .ref 61]) (S' := []) (σ' := (97, I, J, R)) rfl (fun _ => ?_) (fun hn => absurd (by decide) hn)
            refine az_E.sn 1 (pc' := 74) (L' := [.retAddr 0, .retAddr 0, .int v2, .retAddr 0, .int v4, .int v5, .ref 67, .ref 61]) (S' := [.int (-12 : Int32)]) (σ' := (97, I, J, R)) rfl ?_
            have h := Option.some.inj h
            subst h
            exact az_E.ret (v := some (.int (-12 : Int32))) (σ' := (97, I, J, R)) rfl hQ
set_option maxRecDepth 100000 in
set_option maxHeartbeats 4000000 in
theorem re_X_shift_30_67_63 {ex : az_X} {I : Nat → Nat → Int32} {J : Nat → Nat → Int64} {R : Nat → Nat → Option Nat} {v2 : Int32} {v4 : Int32} {v5 : Int32} {x : Int32 × (Nat → Nat → Int64)} (h : rs_X_shift_30 67 63 I J v2 v4 v5 = some x) {Q : Option Value → az_S → Prop} (hQ : Q (some (.int x.1)) (97, I, x.2, R)) : az_E az_F ex 2 128 30 [.retAddr 0, .retAddr 0, .int v2, .retAddr 0, .int v4, .int v5, .ref 67, .retAddr 0] [.ref 63] (97, I, J, R) Q := by
  unfold rs_X_shift_30 at h
  refine az_E.sn 2 (pc' := 34) (L' := [.retAddr 0, .retAddr 0, .int v2, .retAddr 0, .int v4, .int v5, .ref 67, .ref 63]) (S' := [.ref 67]) (σ' := (97, I, J, R)) rfl ?_
  refine az_E.call (d := 1) (k' := 54) (vs := [.ref 67]) (pc' := 37) (S' := []) rfl ?_ (fun _ _ hq => hq)
  show az_E az_F ex 1 54 0 [.ref 67] [] (97, I, J, R) _
  refine az_E.sn 3 (pc' := 5) (L' := [.ref 67]) (S' := [.int (-1 : Int32), .int (I 67 0)]) (σ' := (97, I, J, R)) rfl ?_
  refine az_E.br (c := (I 67 0) = (-1 : Int32)) (tt := 8) (ff := 20) (L' := [.ref 67]) (S' := []) (σ' := (97, I, J, R)) rfl (fun hc_1036 => ?_) (fun hc_1036 => ?_)
  · rw [if_pos hc_1036] at h
    refine az_E.sn 3 (pc' := 13) (L' := [.ref 67]) (S' := [.int (-1 : Int32), .int (I 67 1)]) (σ' := (97, I, J, R)) rfl ?_
    refine az_E.br (c := (I 67 1) = (-1 : Int32)) (tt := 16) (ff := 20) (L' := [.ref 67]) (S' := []) (σ' := (97, I, J, R)) rfl (fun hc_1037 => ?_) (fun hc_1037 => ?_)
    · rw [if_pos hc_1037] at h
      refine az_E.sn 2 (pc' := 21) (L' := [.ref 67]) (S' := [.int (1 : Int32)]) (σ' := (97, I, J, R)) rfl ?_
      refine az_E.ret (v := some (.int (1 : Int32))) (σ' := (97, I, J, R)) rfl ?_
      show az_E az_F ex 2 128 37 [.retAddr 0, .retAddr 0, .int v2, .retAddr 0, .int v4, .int v5, .ref 67, .ref 63] [.int (1 : Int32)] (97, I, J, R) _
      refine az_E.br (c := (1 : Int32) = 0) (tt := 40) (ff := 48) (L' := [.retAddr 0, .retAddr 0, .int v2, .retAddr 0, .int v4, .int v5, .ref 67, .ref 63]) (S' := []) (σ' := (97, I, J, R)) rfl (fun hn => absurd hn (by decide)) (fun _ => ?_)
      refine az_E.sn 1 (pc' := 50) (L' := [.retAddr 0, .retAddr 0, .int v2, .retAddr 0, .int v4, .int v5, .ref 67, .ref 63]) (S' := [.int (-11 : Int32)]) (σ' := (97, I, J, R)) rfl ?_
      have h := Option.some.inj h
      subst h
      exact az_E.ret (v := some (.int (-11 : Int32))) (σ' := (97, I, J, R)) rfl hQ
    · rw [if_neg hc_1037] at h
      refine az_E.sn 1 (pc' := 21) (L' := [.ref 67]) (S' := [.int (0 : Int32)]) (σ' := (97, I, J, R)) rfl ?_
      refine az_E.ret (v := some (.int (0 : Int32))) (σ' := (97, I, J, R)) rfl ?_
      show az_E az_F ex 2 128 37 [.retAddr 0, .retAddr 0, .int v2, .retAddr 0, .int v4, .int v5, .ref 67, .ref 63] [.int (0 : Int32)] (97, I, J, R) _
      refine az_E.br (c := (0 : Int32) = 0) (tt := 40) (ff := 48) (L' := [.retAddr 0, .retAddr 0, .int v2, .retAddr 0, .int v4, .int v5, .ref 67, .ref 63]) (S' := []) (σ' := (97, I, J, R)) rfl (fun _ => ?_) (fun hn => absurd (by decide) hn)
      refine az_E.sn 1 (pc' := 42) (L' := [.retAddr 0, .retAddr 0, .int v2, .retAddr 0, .int v4, .int v5, .ref 67, .ref 63]) (S' := [.ref 63]) (σ' := (97, I, J, R)) rfl ?_
      refine az_E.call (d := 1) (k' := 54) (vs := [.ref 63]) (pc' := 45) (S' := []) rfl ?_ (fun _ _ hq => hq)
      show az_E az_F ex 1 54 0 [.ref 63] [] (97, I, J, R) _
      refine az_E.sn 3 (pc' := 5) (L' := [.ref 63]) (S' := [.int (-1 : Int32), .int (I 63 0)]) (σ' := (97, I, J, R)) rfl ?_
      refine az_E.br (c := (I 63 0) = (-1 : Int32)) (tt := 8) (ff := 20) (L' := [.ref 63]) (S' := []) (σ' := (97, I, J, R)) rfl (fun hc_1038 => ?_) (fun hc_1038 => ?_)
      · rw [if_pos hc_1038] at h
        refine az_E.sn 3 (pc' := 13) (L' := [.ref 63]) (S' := [.int (-1 : Int32), .int (I 63 1)]) (σ' := (97, I, J, R)) rfl ?_
        refine az_E.br (c := (I 63 1) = (-1 : Int32)) (tt := 16) (ff := 20) (L' := [.ref 63]) (S' := []) (σ' := (97, I, J, R)) rfl (fun hc_1039 => ?_) (fun hc_1039 => ?_)
        · rw [if_pos hc_1039] at h
          refine az_E.sn 2 (pc' := 21) (L' := [.ref 63]) (S' := [.int (1 : Int32)]) (σ' := (97, I, J, R)) rfl ?_
          refine az_E.ret (v := some (.int (1 : Int32))) (σ' := (97, I, J, R)) rfl ?_
          show az_E az_F ex 2 128 45 [.retAddr 0, .retAddr 0, .int v2, .retAddr 0, .int v4, .int v5, .ref 67, .ref 63] [.int (1 : Int32)] (97, I, J, R) _
          refine az_E.br (c := (1 : Int32) = 0) (tt := 51) (ff := 48) (L' := [.retAddr 0, .retAddr 0, .int v2, .retAddr 0, .int v4, .int v5, .ref 67, .ref 63]) (S' := []) (σ' := (97, I, J, R)) rfl (fun hn => absurd hn (by decide)) (fun _ => ?_)
          refine az_E.sn 1 (pc' := 50) (L' := [.retAddr 0, .retAddr 0, .int v2, .retAddr 0, .int v4, .int v5, .ref 67, .ref 63]) (S' := [.int (-11 : Int32)]) (σ' := (97, I, J, R)) rfl ?_
          have h := Option.some.inj h
          subst h
          exact az_E.ret (v := some (.int (-11 : Int32))) (σ' := (97, I, J, R)) rfl hQ
        · rw [if_neg hc_1039] at h
          refine az_E.sn 1 (pc' := 21) (L' := [.ref 63]) (S' := [.int (0 : Int32)]) (σ' := (97, I, J, R)) rfl ?_
          refine az_E.ret (v := some (.int (0 : Int32))) (σ' := (97, I, J, R)) rfl ?_
          show az_E az_F ex 2 128 45 [.retAddr 0, .retAddr 0, .int v2, .retAddr 0, .int v4, .int v5, .ref 67, .ref 63] [.int (0 : Int32)] (97, I, J, R) _
          refine az_E.br (c := (0 : Int32) = 0) (tt := 51) (ff := 48) (L' := [.retAddr 0, .retAddr 0, .int v2, .retAddr 0, .int v4, .int v5, .ref 67, .ref 63]) (S' := []) (σ' := (97, I, J, R)) rfl (fun _ => ?_) (fun hn => absurd (by decide) hn)
          refine az_E.sn 1 (pc' := 53) (L' := [.retAddr 0, .retAddr 0, .int v2, .retAddr 0, .int v4, .int v5, .ref 67, .ref 63]) (S' := [.ref 67]) (σ' := (97, I, J, R)) rfl ?_
          refine az_E.call (d := 1) (k' := 55) (vs := [.ref 67]) (pc' := 56) (S' := []) rfl ?_ (fun _ _ hq => hq)
          show az_E az_F ex 1 55 0 [.ref 67] [] (97, I, J, R) _
          refine az_E.sn 3 (pc' := 5) (L' := [.ref 67]) (S' := [.int (-1 : Int32), .int (I 67 1)]) (σ' := (97, I, J, R)) rfl ?_
          refine az_E.br (c := (I 67 1) = (-1 : Int32)) (tt := 12) (ff := 8) (L' := [.ref 67]) (S' := []) (σ' := (97, I, J, R)) rfl (fun hc_1040 => ?_) (fun hc_1040 => ?_)
          · rw [if_pos hc_1040] at h
            refine az_E.sn 1 (pc' := 13) (L' := [.ref 67]) (S' := [.int (0 : Int32)]) (σ' := (97, I, J, R)) rfl ?_
            refine az_E.ret (v := some (.int (0 : Int32))) (σ' := (97, I, J, R)) rfl ?_
            show az_E az_F ex 2 128 56 [.retAddr 0, .retAddr 0, .int v2, .retAddr 0, .int v4, .int v5, .ref 67, .ref 63] [.int (0 : Int32)] (97, I, J, R) _
            refine az_E.br (c := (0 : Int32) = 0) (tt := 72) (ff := 59) (L' := [.retAddr 0, .retAddr 0, .int v2, .retAddr 0, .int v4, .int v5, .ref 67, .ref 63]) (S' := []) (σ' := (97, I, J, R)) rfl (fun _ => ?_) (fun hn => absurd (by decide) hn)
            refine az_E.sn 1 (pc' := 74) (L' := [.retAddr 0, .retAddr 0, .int v2, .retAddr 0, .int v4, .int v5, .ref 67, .ref 63]) (S' := [.int (-12 : Int32)]) (σ' := (97, I, J, R)) rfl ?_
            have h := Option.some.inj h
            subst h
            exact az_E.ret (v := some (.int (-12 : Int32))) (σ' := (97, I, J, R)) rfl hQ
          · rw [if_neg hc_1040] at h
            refine az_E.sn 2 (pc' := 13) (L' := [.ref 67]) (S' := [.int (1 : Int32)]) (σ' := (97, I, J, R)) rfl ?_
            refine az_E.ret (v := some (.int (1 : Int32))) (σ' := (97, I, J, R)) rfl ?_
            show az_E az_F ex 2 128 56 [.retAddr 0, .retAddr 0, .int v2, .retAddr 0, .int v4, .int v5, .ref 67, .ref 63] [.int (1 : Int32)] (97, I, J, R) _
            refine az_E.br (c := (1 : Int32) = 0) (tt := 72) (ff := 59) (L' := [.retAddr 0, .retAddr 0, .int v2, .retAddr 0, .int v4, .int v5, .ref 67, .ref 63]) (S' := []) (σ' := (97, I, J, R)) rfl (fun hn => absurd hn (by decide)) (fun _ => ?_)
            refine az_E.sn 3 (pc' := 66) (L' := [.retAddr 0, .retAddr 0, .int v2, .retAddr 0, .int v4, .int v5, .ref 67, .ref 63]) (S' := [.int (I 67 1), .ref 63]) (σ' := (97, I, J, R)) rfl ?_
            refine az_E.call (d := 1) (k' := 56) (vs := [.ref 63, .int (I 67 1)]) (pc' := 69) (S' := []) rfl ?_ (fun _ _ hq => hq)
            show az_E az_F ex 1 56 0 [.ref 63, .int (I 67 1)] [] (97, I, J, R) _
            refine az_E.sn 1 (pc' := 1) (L' := [.ref 63, .int (I 67 1)]) (S' := [.ref 63]) (σ' := (97, I, J, R)) rfl ?_
            refine az_E.call (d := 0) (k' := 55) (vs := [.ref 63]) (pc' := 4) (S' := []) rfl ?_ (fun _ _ hq => hq)
            show az_E az_F ex 0 55 0 [.ref 63] [] (97, I, J, R) _
            refine az_E.sn 3 (pc' := 5) (L' := [.ref 63]) (S' := [.int (-1 : Int32), .int (I 63 1)]) (σ' := (97, I, J, R)) rfl ?_
            refine az_E.br (c := (I 63 1) = (-1 : Int32)) (tt := 12) (ff := 8) (L' := [.ref 63]) (S' := []) (σ' := (97, I, J, R)) rfl (fun hc_1041 => ?_) (fun hc_1041 => ?_)
            · rw [if_pos hc_1041] at h
              refine az_E.sn 1 (pc' := 13) (L' := [.ref 63]) (S' := [.int (0 : Int32)]) (σ' := (97, I, J, R)) rfl ?_
              refine az_E.ret (v := some (.int (0 : Int32))) (σ' := (97, I, J, R)) rfl ?_
              show az_E az_F ex 1 56 4 [.ref 63, .int (I 67 1)] [.int (0 : Int32)] (97, I, J, R) _
              refine az_E.br (c := (0 : Int32) = 0) (tt := 19) (ff := 7) (L' := [.ref 63, .int (I 67 1)]) (S' := []) (σ' := (97, I, J, R)) rfl (fun _ => ?_) (fun hn => absurd (by decide) hn)
              refine az_E.sn 1 (pc' := 20) (L' := [.ref 63, .int (I 67 1)]) (S' := [.int (0 : Int32)]) (σ' := (97, I, J, R)) rfl ?_
              refine az_E.ret (v := some (.int (0 : Int32))) (σ' := (97, I, J, R)) rfl ?_
              show az_E az_F ex 2 128 69 [.retAddr 0, .retAddr 0, .int v2, .retAddr 0, .int v4, .int v5, .ref 67, .ref 63] [.int (0 : Int32)] (97, I, J, R) _
              refine az_E.br (c := (0 : Int32) = 0) (tt := 72) (ff := 75) (L' := [.retAddr 0, .retAddr 0, .int v2, .retAddr 0, .int v4, .int v5, .ref 67, .ref 63]) (S' := []) (σ' := (97, I, J, R)) rfl (fun _ => ?_) (fun hn => absurd (by decide) hn)
              refine az_E.sn 1 (pc' := 74) (L' := [.retAddr 0, .retAddr 0, .int v2, .retAddr 0, .int v4, .int v5, .ref 67, .ref 63]) (S' := [.int (-12 : Int32)]) (σ' := (97, I, J, R)) rfl ?_
              have h := Option.some.inj h
              subst h
              exact az_E.ret (v := some (.int (-12 : Int32))) (σ' := (97, I, J, R)) rfl hQ
            · rw [if_neg hc_1041] at h
              refine az_E.sn 2 (pc' := 13) (L' := [.ref 63]) (S' := [.int (1 : Int32)]) (σ' := (97, I, J, R)) rfl ?_
              refine az_E.ret (v := some (.int (1 : Int32))) (σ' := (97, I, J, R)) rfl ?_
              show az_E az_F ex 1 56 4 [.ref 63, .int (I 67 1)] [.int (1 : Int32)] (97, I, J, R) _
              refine az_E.br (c := (1 : Int32) = 0) (tt := 19) (ff := 7) (L' := [.ref 63, .int (I 67 1)]) (S' := []) (σ' := (97, I, J, R)) rfl (fun hn => absurd hn (by decide)) (fun _ => ?_)
              refine az_E.sn 3 (pc' := 12) (L' := [.ref 63, .int (I 67 1)]) (S' := [.int (I 67 1), .int (I 63 1)]) (σ' := (97, I, J, R)) rfl ?_
              refine az_E.br (c := (I 63 1) = (I 67 1)) (tt := 15) (ff := 19) (L' := [.ref 63, .int (I 67 1)]) (S' := []) (σ' := (97, I, J, R)) rfl (fun hc_1042 => ?_) (fun hc_1042 => ?_)
              · rw [if_pos hc_1042] at h
                refine az_E.sn 2 (pc' := 20) (L' := [.ref 63, .int (I 67 1)]) (S' := [.int (1 : Int32)]) (σ' := (97, I, J, R)) rfl ?_
                refine az_E.ret (v := some (.int (1 : Int32))) (σ' := (97, I, J, R)) rfl ?_
                show az_E az_F ex 2 128 69 [.retAddr 0, .retAddr 0, .int v2, .retAddr 0, .int v4, .int v5, .ref 67, .ref 63] [.int (1 : Int32)] (97, I, J, R) _
                refine az_E.br (c := (1 : Int32) = 0) (tt := 72) (ff := 75) (L' := [.retAddr 0, .retAddr 0, .int v2, .retAddr 0, .int v4, .int v5, .ref 67, .ref 63]) (S' := []) (σ' := (97, I, J, R)) rfl (fun hn => absurd hn (by decide)) (fun _ => ?_)
                refine az_E.sn 3 (pc' := 80) (L' := [.retAddr 0, .retAddr 0, .int v2, .retAddr 0, .int v4, .int v5, .ref 67, .ref 63]) (S' := [.int v5, .int v2, .ref 67]) (σ' := (97, I, J, R)) rfl ?_
                refine az_E.call (d := 1) (k' := 60) (vs := [.ref 67, .int v2, .int v5]) (pc' := 83) (S' := []) rfl ?_ (fun _ _ hq => hq)
                show az_E az_F ex 1 60 0 [.ref 67, .int v2, .int v5] [] (97, I, J, R) _
                refine az_E.sn 1 (pc' := 1) (L' := [.ref 67, .int v2, .int v5]) (S' := [.int v2]) (σ' := (97, I, J, R)) rfl ?_
                refine az_E.br (c := v2 < 0) (tt := 30) (ff := 4) (L' := [.ref 67, .int v2, .int v5]) (S' := []) (σ' := (97, I, J, R)) rfl (fun hc_1043 => ?_) (fun hc_1043 => ?_)
                · rw [if_pos hc_1043] at h
                  refine az_E.sn 1 (pc' := 31) (L' := [.ref 67, .int v2, .int v5]) (S' := [.int (0 : Int32)]) (σ' := (97, I, J, R)) rfl ?_
                  refine az_E.ret (v := some (.int (0 : Int32))) (σ' := (97, I, J, R)) rfl ?_
                  show az_E az_F ex 2 128 83 [.retAddr 0, .retAddr 0, .int v2, .retAddr 0, .int v4, .int v5, .ref 67, .ref 63] [.int (0 : Int32)] (97, I, J, R) _
                  refine az_E.br (c := (0 : Int32) = 0) (tt := 98) (ff := 86) (L' := [.retAddr 0, .retAddr 0, .int v2, .retAddr 0, .int v4, .int v5, .ref 67, .ref 63]) (S' := []) (σ' := (97, I, J, R)) rfl (fun _ => ?_) (fun hn => absurd (by decide) hn)
                  refine az_E.sn 1 (pc' := 100) (L' := [.retAddr 0, .retAddr 0, .int v2, .retAddr 0, .int v4, .int v5, .ref 67, .ref 63]) (S' := [.int (-13 : Int32)]) (σ' := (97, I, J, R)) rfl ?_
                  have h := Option.some.inj h
                  subst h
                  exact az_E.ret (v := some (.int (-13 : Int32))) (σ' := (97, I, J, R)) rfl hQ
                · rw [if_neg hc_1043] at h
                  refine az_E.sn 1 (pc' := 5) (L' := [.ref 67, .int v2, .int v5]) (S' := [.int v5]) (σ' := (97, I, J, R)) rfl ?_
                  refine az_E.br (c := v5 < 0) (tt := 30) (ff := 8) (L' := [.ref 67, .int v2, .int v5]) (S' := []) (σ' := (97, I, J, R)) rfl (fun hc_1044 => ?_) (fun hc_1044 => ?_)
                  · rw [if_pos hc_1044] at h
                    refine az_E.sn 1 (pc' := 31) (L' := [.ref 67, .int v2, .int v5]) (S' := [.int (0 : Int32)]) (σ' := (97, I, J, R)) rfl ?_
                    refine az_E.ret (v := some (.int (0 : Int32))) (σ' := (97, I, J, R)) rfl ?_
                    show az_E az_F ex 2 128 83 [.retAddr 0, .retAddr 0, .int v2, .retAddr 0, .int v4, .int v5, .ref 67, .ref 63] [.int (0 : Int32)] (97, I, J, R) _
                    refine az_E.br (c := (0 : Int32) = 0) (tt := 98) (ff := 86) (L' := [.retAddr 0, .retAddr 0, .int v2, .retAddr 0, .int v4, .int v5, .ref 67, .ref 63]) (S' := []) (σ' := (97, I, J, R)) rfl (fun _ => ?_) (fun hn => absurd (by decide) hn)
                    refine az_E.sn 1 (pc' := 100) (L' := [.retAddr 0, .retAddr 0, .int v2, .retAddr 0, .int v4, .int v5, .ref 67, .ref 63]) (S' := [.int (-13 : Int32)]) (σ' := (97, I, J, R)) rfl ?_
                    have h := Option.some.inj h
                    subst h
                    exact az_E.ret (v := some (.int (-13 : Int32))) (σ' := (97, I, J, R)) rfl hQ
                  · rw [if_neg hc_1044] at h
                    refine az_E.sn 3 (pc' := 13) (L' := [.ref 67, .int v2, .int v5]) (S' := [.int (I 67 2), .int v2]) (σ' := (97, I, J, R)) rfl ?_
                    refine az_E.br (c := (I 67 2) < v2) (tt := 30) (ff := 16) (L' := [.ref 67, .int v2, .int v5]) (S' := []) (σ' := (97, I, J, R)) rfl (fun hc_1045 => ?_) (fun hc_1045 => ?_)
                    · rw [if_pos hc_1045] at h
                      refine az_E.sn 1 (pc' := 31) (L' := [.ref 67, .int v2, .int v5]) (S' := [.int (0 : Int32)]) (σ' := (97, I, J, R)) rfl ?_
                      refine az_E.ret (v := some (.int (0 : Int32))) (σ' := (97, I, J, R)) rfl ?_
                      show az_E az_F ex 2 128 83 [.retAddr 0, .retAddr 0, .int v2, .retAddr 0, .int v4, .int v5, .ref 67, .ref 63] [.int (0 : Int32)] (97, I, J, R) _
                      refine az_E.br (c := (0 : Int32) = 0) (tt := 98) (ff := 86) (L' := [.retAddr 0, .retAddr 0, .int v2, .retAddr 0, .int v4, .int v5, .ref 67, .ref 63]) (S' := []) (σ' := (97, I, J, R)) rfl (fun _ => ?_) (fun hn => absurd (by decide) hn)
                      refine az_E.sn 1 (pc' := 100) (L' := [.retAddr 0, .retAddr 0, .int v2, .retAddr 0, .int v4, .int v5, .ref 67, .ref 63]) (S' := [.int (-13 : Int32)]) (σ' := (97, I, J, R)) rfl ?_
                      have h := Option.some.inj h
                      subst h
                      exact az_E.ret (v := some (.int (-13 : Int32))) (σ' := (97, I, J, R)) rfl hQ
                    · rw [if_neg hc_1045] at h
                      refine az_E.sn 5 (pc' := 23) (L' := [.ref 67, .int v2, .int v5]) (S' := [.int ((I 67 2) - v2), .int v5]) (σ' := (97, I, J, R)) rfl ?_
                      refine az_E.br (c := ((I 67 2) - v2) < v5) (tt := 30) (ff := 26) (L' := [.ref 67, .int v2, .int v5]) (S' := []) (σ' := (97, I, J, R)) rfl (fun hc_1046 => ?_) (fun hc_1046 => ?_)
                      · rw [if_pos hc_1046] at h
                        refine az_E.sn 1 (pc' := 31) (L' := [.ref 67, .int v2, .int v5]) (S' := [.int (0 : Int32)]) (σ' := (97, I, J, R)) rfl ?_
                        refine az_E.ret (v := some (.int (0 : Int32))) (σ' := (97, I, J, R)) rfl ?_
                        show az_E az_F ex 2 128 83 [.retAddr 0, .retAddr 0, .int v2, .retAddr 0, .int v4, .int v5, .ref 67, .ref 63] [.int (0 : Int32)] (97, I, J, R) _
                        refine az_E.br (c := (0 : Int32) = 0) (tt := 98) (ff := 86) (L' := [.retAddr 0, .retAddr 0, .int v2, .retAddr 0, .int v4, .int v5, .ref 67, .ref 63]) (S' := []) (σ' := (97, I, J, R)) rfl (fun _ => ?_) (fun hn => absurd (by decide) hn)
                        refine az_E.sn 1 (pc' := 100) (L' := [.retAddr 0, .retAddr 0, .int v2, .retAddr 0, .int v4, .int v5, .ref 67, .ref 63]) (S' := [.int (-13 : Int32)]) (σ' := (97, I, J, R)) rfl ?_
                        have h := Option.some.inj h
                        subst h
                        exact az_E.ret (v := some (.int (-13 : Int32))) (σ' := (97, I, J, R)) rfl hQ
                      · rw [if_neg hc_1046] at h
                        refine az_E.sn 2 (pc' := 31) (L' := [.ref 67, .int v2, .int v5]) (S' := [.int (1 : Int32)]) (σ' := (97, I, J, R)) rfl ?_
                        refine az_E.ret (v := some (.int (1 : Int32))) (σ' := (97, I, J, R)) rfl ?_
                        show az_E az_F ex 2 128 83 [.retAddr 0, .retAddr 0, .int v2, .retAddr 0, .int v4, .int v5, .ref 67, .ref 63] [.int (1 : Int32)] (97, I, J, R) _
                        refine az_E.br (c := (1 : Int32) = 0) (tt := 98) (ff := 86) (L' := [.retAddr 0, .retAddr 0, .int v2, .retAddr 0, .int v4, .int v5, .ref 67, .ref 63]) (S' := []) (σ' := (97, I, J, R)) rfl (fun hn => absurd hn (by decide)) (fun _ => ?_)
                        refine az_E.sn 3 (pc' := 92) (L' := [.retAddr 0, .retAddr 0, .int v2, .retAddr 0, .int v4, .int v5, .ref 67, .ref 63]) (S' := [.int v5, .int v4, .ref 63]) (σ' := (97, I, J, R)) rfl ?_
                        refine az_E.call (d := 1) (k' := 60) (vs := [.ref 63, .int v4, .int v5]) (pc' := 95) (S' := []) rfl ?_ (fun _ _ hq => hq)
                        show az_E az_F ex 1 60 0 [.ref 63, .int v4, .int v5] [] (97, I, J, R) _
                        refine az_E.sn 1 (pc' := 1) (L' := [.ref 63, .int v4, .int v5]) (S' := [.int v4]) (σ' := (97, I, J, R)) rfl ?_
                        refine az_E.br (c := v4 < 0) (tt := 30) (ff := 4) (L' := [.ref 63, .int v4, .int v5]) (S' := []) (σ' := (97, I, J, R)) rfl (fun hc_1047 => ?_) (fun hc_1047 => ?_)
                        · rw [if_pos hc_1047] at h
                          refine az_E.sn 1 (pc' := 31) (L' := [.ref 63, .int v4, .int v5]) (S' := [.int (0 : Int32)]) (σ' := (97, I, J, R)) rfl ?_
                          refine az_E.ret (v := some (.int (0 : Int32))) (σ' := (97, I, J, R)) rfl ?_
                          show az_E az_F ex 2 128 95 [.retAddr 0, .retAddr 0, .int v2, .retAddr 0, .int v4, .int v5, .ref 67, .ref 63] [.int (0 : Int32)] (97, I, J, R) _
                          refine az_E.br (c := (0 : Int32) = 0) (tt := 98) (ff := 101) (L' := [.retAddr 0, .retAddr 0, .int v2, .retAddr 0, .int v4, .int v5, .ref 67, .ref 63]) (S' := []) (σ' := (97, I, J, R)) rfl (fun _ => ?_) (fun hn => absurd (by decide) hn)
                          refine az_E.sn 1 (pc' := 100) (L' := [.retAddr 0, .retAddr 0, .int v2, .retAddr 0, .int v4, .int v5, .ref 67, .ref 63]) (S' := [.int (-13 : Int32)]) (σ' := (97, I, J, R)) rfl ?_
                          have h := Option.some.inj h
                          subst h
                          exact az_E.ret (v := some (.int (-13 : Int32))) (σ' := (97, I, J, R)) rfl hQ
                        · rw [if_neg hc_1047] at h
                          refine az_E.sn 1 (pc' := 5) (L' := [.ref 63, .int v4, .int v5]) (S' := [.int v5]) (σ' := (97, I, J, R)) rfl ?_
                          refine az_E.br (c := v5 < 0) (tt := 30) (ff := 8) (L' := [.ref 63, .int v4, .int v5]) (S' := []) (σ' := (97, I, J, R)) rfl (fun hc_1048 => ?_) (fun hc_1048 => ?_)
                          · rw [if_pos hc_1048] at h
                            refine az_E.sn 1 (pc' := 31) (L' := [.ref 63, .int v4, .int v5]) (S' := [.int (0 : Int32)]) (σ' := (97, I, J, R)) rfl ?_
                            refine az_E.ret (v := some (.int (0 : Int32))) (σ' := (97, I, J, R)) rfl ?_
                            show az_E az_F ex 2 128 95 [.retAddr 0, .retAddr 0, .int v2, .retAddr 0, .int v4, .int v5, .ref 67, .ref 63] [.int (0 : Int32)] (97, I, J, R) _
                            refine az_E.br (c := (0 : Int32) = 0) (tt := 98) (ff := 101) (L' := [.retAddr 0, .retAddr 0, .int v2, .retAddr 0, .int v4, .int v5, .ref 67, .ref 63]) (S' := []) (σ' := (97, I, J, R)) rfl (fun _ => ?_) (fun hn => absurd (by decide) hn)
                            refine az_E.sn 1 (pc' := 100) (L' := [.retAddr 0, .retAddr 0, .int v2, .retAddr 0, .int v4, .int v5, .ref 67, .ref 63]) (S' := [.int (-13 : Int32)]) (σ' := (97, I, J, R)) rfl ?_
                            have h := Option.some.inj h
                            subst h
                            exact az_E.ret (v := some (.int (-13 : Int32))) (σ' := (97, I, J, R)) rfl hQ
                          · rw [if_neg hc_1048] at h
                            refine az_E.sn 3 (pc' := 13) (L' := [.ref 63, .int v4, .int v5]) (S' := [.int (I 63 2), .int v4]) (σ' := (97, I, J, R)) rfl ?_
                            refine az_E.br (c := (I 63 2) < v4) (tt := 30) (ff := 16) (L' := [.ref 63, .int v4, .int v5]) (S' := []) (σ' := (97, I, J, R)) rfl (fun hc_1049 => ?_) (fun hc_1049 => ?_)
                            · rw [if_pos hc_1049] at h
                              refine az_E.sn 1 (pc' := 31) (L' := [.ref 63, .int v4, .int v5]) (S' := [.int (0 : Int32)]) (σ' := (97, I, J, R)) rfl ?_
                              refine az_E.ret (v := some (.int (0 : Int32))) (σ' := (97, I, J, R)) rfl ?_
                              show az_E az_F ex 2 128 95 [.retAddr 0, .retAddr 0, .int v2, .retAddr 0, .int v4, .int v5, .ref 67, .ref 63] [.int (0 : Int32)] (97, I, J, R) _
                              refine az_E.br (c := (0 : Int32) = 0) (tt := 98) (ff := 101) (L' := [.retAddr 0, .retAddr 0, .int v2, .retAddr 0, .int v4, .int v5, .ref 67, .ref 63]) (S' := []) (σ' := (97, I, J, R)) rfl (fun _ => ?_) (fun hn => absurd (by decide) hn)
                              refine az_E.sn 1 (pc' := 100) (L' := [.retAddr 0, .retAddr 0, .int v2, .retAddr 0, .int v4, .int v5, .ref 67, .ref 63]) (S' := [.int (-13 : Int32)]) (σ' := (97, I, J, R)) rfl ?_
                              have h := Option.some.inj h
                              subst h
                              exact az_E.ret (v := some (.int (-13 : Int32))) (σ' := (97, I, J, R)) rfl hQ
                            · rw [if_neg hc_1049] at h
                              refine az_E.sn 5 (pc' := 23) (L' := [.ref 63, .int v4, .int v5]) (S' := [.int ((I 63 2) - v4), .int v5]) (σ' := (97, I, J, R)) rfl ?_
                              refine az_E.br (c := ((I 63 2) - v4) < v5) (tt := 30) (ff := 26) (L' := [.ref 63, .int v4, .int v5]) (S' := []) (σ' := (97, I, J, R)) rfl (fun hc_1050 => ?_) (fun hc_1050 => ?_)
                              · rw [if_pos hc_1050] at h
                                refine az_E.sn 1 (pc' := 31) (L' := [.ref 63, .int v4, .int v5]) (S' := [.int (0 : Int32)]) (σ' := (97, I, J, R)) rfl ?_
                                refine az_E.ret (v := some (.int (0 : Int32))) (σ' := (97, I, J, R)) rfl ?_
                                show az_E az_F ex 2 128 95 [.retAddr 0, .retAddr 0, .int v2, .retAddr 0, .int v4, .int v5, .ref 67, .ref 63] [.int (0 : Int32)] (97, I, J, R) _
                                refine az_E.br (c := (0 : Int32) = 0) (tt := 98) (ff := 101) (L' := [.retAddr 0, .retAddr 0, .int v2, .retAddr 0, .int v4, .int v5, .ref 67, .ref 63]) (S' := []) (σ' := (97, I, J, R)) rfl (fun _ => ?_) (fun hn => absurd (by decide) hn)
                                refine az_E.sn 1 (pc' := 100) (L' := [.retAddr 0, .retAddr 0, .int v2, .retAddr 0, .int v4, .int v5, .ref 67, .ref 63]) (S' := [.int (-13 : Int32)]) (σ' := (97, I, J, R)) rfl ?_
                                have h := Option.some.inj h
                                subst h
                                exact az_E.ret (v := some (.int (-13 : Int32))) (σ' := (97, I, J, R)) rfl hQ
                              · rw [if_neg hc_1050] at h
                                refine az_E.sn 2 (pc' := 31) (L' := [.ref 63, .int v4, .int v5]) (S' := [.int (1 : Int32)]) (σ' := (97, I, J, R)) rfl ?_
                                refine az_E.ret (v := some (.int (1 : Int32))) (σ' := (97, I, J, R)) rfl ?_
                                show az_E az_F ex 2 128 95 [.retAddr 0, .retAddr 0, .int v2, .retAddr 0, .int v4, .int v5, .ref 67, .ref 63] [.int (1 : Int32)] (97, I, J, R) _
                                refine az_E.br (c := (1 : Int32) = 0) (tt := 98) (ff := 101) (L' := [.retAddr 0, .retAddr 0, .int v2, .retAddr 0, .int v4, .int v5, .ref 67, .ref 63]) (S' := []) (σ' := (97, I, J, R)) rfl (fun hn => absurd hn (by decide)) (fun _ => ?_)
                                refine az_E.sn 7 (pc' := 116) (L' := [.retAddr 0, .retAddr 0, .int v2, .retAddr 0, .int v4, .int v5, .ref 67, .ref 63]) (S' := [.int v5, .int v4, .ref (63 + 1), .int v2, .ref (67 + 1)]) (σ' := (97, I, J, R)) rfl ?_
                                by_cases hc_1051 : v2 < 0 ∨ v4 < 0 ∨ v5 < 0 ∨ 60 < v2.toNatClampNeg + v5.toNatClampNeg ∨ 60 < v4.toNatClampNeg + v5.toNatClampNeg
                                · rw [if_pos hc_1051] at h; cases h
                                · rw [if_neg hc_1051] at h
                                  refine az_E.o (o := az_cp az_F (97, I, J, R) (67 + 1) v2 (63 + 1) v4 v5) (pc' := 119) (L' := [.retAddr 0, .retAddr 0, .int v2, .retAddr 0, .int v4, .int v5, .ref 67, .ref 63]) (S' := []) (x := (97, I, (az_ur J (63 + 1) (va_cpy (J (67 + 1)) (J (63 + 1)) v2.toNatClampNeg v4.toNatClampNeg v5.toNatClampNeg)), R)) rfl (if_neg hc_1051) ?_
                                  refine az_E.sn 1 (pc' := 121) (L' := [.retAddr 0, .retAddr 0, .int v2, .retAddr 0, .int v4, .int v5, .ref 67, .ref 63]) (S' := [.int v5]) (σ' := (97, I, (az_ur J (63 + 1) (va_cpy (J (67 + 1)) (J (63 + 1)) v2.toNatClampNeg v4.toNatClampNeg v5.toNatClampNeg)), R)) rfl ?_
                                  have h := Option.some.inj h
                                  subst h
                                  exact az_E.ret (v := some (.int v5)) (σ' := (97, I, (az_ur J (63 + 1) (va_cpy (J (67 + 1)) (J (63 + 1)) v2.toNatClampNeg v4.toNatClampNeg v5.toNatClampNeg)), R)) rfl hQ
              · rw [if_neg hc_1042] at h
                refine az_E.sn 1 (pc' := 20) (L' := [.ref 63, .int (I 67 1)]) (S' := [.int (0 : Int32)]) (σ' := (97, I, J, R)) rfl ?_
                refine az_E.ret (v := some (.int (0 : Int32))) (σ' := (97, I, J, R)) rfl ?_
                show az_E az_F ex 2 128 69 [.retAddr 0, .retAddr 0, .int v2, .retAddr 0, .int v4, .int v5, .ref 67, .ref 63] [.int (0 : Int32)] (97, I, J, R) _
                refine az_E.br (c := (0 : Int32) = 0) (tt := 72) (ff := 75) (L' := [.retAddr 0, .retAddr 0, .int v2, .retAddr 0, .int v4, .int v5, .ref 67, .ref 63]) (S' := []) (σ' := (97, I, J, R)) rfl (fun _ => ?_) (fun hn => absurd (by decide) hn)
                refine az_E.sn 1 (pc' := 74) (L' := [.retAddr 0, .retAddr 0, .int v2, .retAddr 0, .int v4, .int v5, .ref 67, .ref 63]) (S' := [.int (-12 : Int32)]) (σ' := (97, I, J, R)) rfl ?_
                have h := Option.some.inj h
                subst h
                exact az_E.ret (v := some (.int (-12 : Int32))) (σ' := (97, I, J, R)) rfl hQ
      · rw [if_neg hc_1038] at h
        refine az_E.sn 1 (pc' := 21) (L' := [.ref 63]) (S' := [.int (0 : Int32)]) (σ' := (97, I, J, R)) rfl ?_
        refine az_E.ret (v := some (.int (0 : Int32))) (σ' := (97, I, J, R)) rfl ?_
        show az_E az_F ex 2 128 45 [.retAddr 0, .retAddr 0, .int v2, .retAddr 0, .int v4, .int v5, .ref 67, .ref 63] [.int (0 : Int32)] (97, I, J, R) _
        refine az_E.br (c := (0 : Int32) = 0) (tt := 51) (ff := 48) (L' := [.retAddr 0, .retAddr 0, .int v2, .retAddr 0, .int v4, .int v5, .ref 67, .ref 63]) (S' := []) (σ' := (97, I, J, R)) rfl (fun _ => ?_) (fun hn => absurd (by decide) hn)
        refine az_E.sn 1 (pc' := 53) (L' := [.retAddr 0, .retAddr 0, .int v2, .retAddr 0, .int v4, .int v5, .ref 67, .ref 63]) (S' := [.ref 67]) (σ' := (97, I, J, R)) rfl ?_
        refine az_E.call (d := 1) (k' := 55) (vs := [.ref 67]) (pc' := 56) (S' := []) rfl ?_ (fun _ _ hq => hq)
        show az_E az_F ex 1 55 0 [.ref 67] [] (97, I, J, R) _
        refine az_E.sn 3 (pc' := 5) (L' := [.ref 67]) (S' := [.int (-1 : Int32), .int (I 67 1)]) (σ' := (97, I, J, R)) rfl ?_
        refine az_E.br (c := (I 67 1) = (-1 : Int32)) (tt := 12) (ff := 8) (L' := [.ref 67]) (S' := []) (σ' := (97, I, J, R)) rfl (fun hc_1052 => ?_) (fun hc_1052 => ?_)
        · rw [if_pos hc_1052] at h
          refine az_E.sn 1 (pc' := 13) (L' := [.ref 67]) (S' := [.int (0 : Int32)]) (σ' := (97, I, J, R)) rfl ?_
          refine az_E.ret (v := some (.int (0 : Int32))) (σ' := (97, I, J, R)) rfl ?_
          show az_E az_F ex 2 128 56 [.retAddr 0, .retAddr 0, .int v2, .retAddr 0, .int v4, .int v5, .ref 67, .ref 63] [.int (0 : Int32)] (97, I, J, R) _
          refine az_E.br (c := (0 : Int32) = 0) (tt := 72) (ff := 59) (L' := [.retAddr 0, .retAddr 0, .int v2, .retAddr 0, .int v4, .int v5, .ref 67, .ref 63]) (S' := []) (σ' := (97, I, J, R)) rfl (fun _ => ?_) (fun hn => absurd (by decide) hn)
          refine az_E.sn 1 (pc' := 74) (L' := [.retAddr 0, .retAddr 0, .int v2, .retAddr 0, .int v4, .int v5, .ref 67, .ref 63]) (S' := [.int (-12 : Int32)]) (σ' := (97, I, J, R)) rfl ?_
          have h := Option.some.inj h
          subst h
          exact az_E.ret (v := some (.int (-12 : Int32))) (σ' := (97, I, J, R)) rfl hQ
        · rw [if_neg hc_1052] at h
          refine az_E.sn 2 (pc' := 13) (L' := [.ref 67]) (S' := [.int (1 : Int32)]) (σ' := (97, I, J, R)) rfl ?_
          refine az_E.ret (v := some (.int (1 : Int32))) (σ' := (97, I, J, R)) rfl ?_
          show az_E az_F ex 2 128 56 [.retAddr 0, .retAddr 0, .int v2, .retAddr 0, .int v4, .int v5, .ref 67, .ref 63] [.int (1 : Int32)] (97, I, J, R) _
          refine az_E.br (c := (1 : Int32) = 0) (tt := 72) (ff := 59) (L' := [.retAddr 0, .retAddr 0, .int v2, .retAddr 0, .int v4, .int v5, .ref 67, .ref 63]) (S' := []) (σ' := (97, I, J, R)) rfl (fun hn => absurd hn (by decide)) (fun _ => ?_)
          refine az_E.sn 3 (pc' := 66) (L' := [.retAddr 0, .retAddr 0, .int v2, .retAddr 0, .int v4, .int v5, .ref 67, .ref 63]) (S' := [.int (I 67 1), .ref 63]) (σ' := (97, I, J, R)) rfl ?_
          refine az_E.call (d := 1) (k' := 56) (vs := [.ref 63, .int (I 67 1)]) (pc' := 69) (S' := []) rfl ?_ (fun _ _ hq => hq)
          show az_E az_F ex 1 56 0 [.ref 63, .int (I 67 1)] [] (97, I, J, R) _
          refine az_E.sn 1 (pc' := 1) (L' := [.ref 63, .int (I 67 1)]) (S' := [.ref 63]) (σ' := (97, I, J, R)) rfl ?_
          refine az_E.call (d := 0) (k' := 55) (vs := [.ref 63]) (pc' := 4) (S' := []) rfl ?_ (fun _ _ hq => hq)
          show az_E az_F ex 0 55 0 [.ref 63] [] (97, I, J, R) _
          refine az_E.sn 3 (pc' := 5) (L' := [.ref 63]) (S' := [.int (-1 : Int32), .int (I 63 1)]) (σ' := (97, I, J, R)) rfl ?_
          refine az_E.br (c := (I 63 1) = (-1 : Int32)) (tt := 12) (ff := 8) (L' := [.ref 63]) (S' := []) (σ' := (97, I, J, R)) rfl (fun hc_1053 => ?_) (fun hc_1053 => ?_)
          · rw [if_pos hc_1053] at h
            refine az_E.sn 1 (pc' := 13) (L' := [.ref 63]) (S' := [.int (0 : Int32)]) (σ' := (97, I, J, R)) rfl ?_
            refine az_E.ret (v := some (.int (0 : Int32))) (σ' := (97, I, J, R)) rfl ?_
            show az_E az_F ex 1 56 4 [.ref 63, .int (I 67 1)] [.int (0 : Int32)] (97, I, J, R) _
            refine az_E.br (c := (0 : Int32) = 0) (tt := 19) (ff := 7) (L' := [.ref 63, .int (I 67 1)]) (S' := []) (σ' := (97, I, J, R)) rfl (fun _ => ?_) (fun hn => absurd (by decide) hn)
            refine az_E.sn 1 (pc' := 20) (L' := [.ref 63, .int (I 67 1)]) (S' := [.int (0 : Int32)]) (σ' := (97, I, J, R)) rfl ?_
            refine az_E.ret (v := some (.int (0 : Int32))) (σ' := (97, I, J, R)) rfl ?_
            show az_E az_F ex 2 128 69 [.retAddr 0, .retAddr 0, .int v2, .retAddr 0, .int v4, .int v5, .ref 67, .ref 63] [.int (0 : Int32)] (97, I, J, R) _
            refine az_E.br (c := (0 : Int32) = 0) (tt := 72) (ff := 75) (L' := [.retAddr 0, .retAddr 0, .int v2, .retAddr 0, .int v4, .int v5, .ref 67, .ref 63]) (S' := []) (σ' := (97, I, J, R)) rfl (fun _ => ?_) (fun hn => absurd (by decide) hn)
            refine az_E.sn 1 (pc' := 74) (L' := [.retAddr 0, .retAddr 0, .int v2, .retAddr 0, .int v4, .int v5, .ref 67, .ref 63]) (S' := [.int (-12 : Int32)]) (σ' := (97, I, J, R)) rfl ?_
            have h := Option.some.inj h
            subst h
            exact az_E.ret (v := some (.int (-12 : Int32))) (σ' := (97, I, J, R)) rfl hQ
          · rw [if_neg hc_1053] at h
            refine az_E.sn 2 (pc' := 13) (L' := [.ref 63]) (S' := [.int (1 : Int32)]) (σ' := (97, I, J, R)) rfl ?_
            refine az_E.ret (v := some (.int (1 : Int32))) (σ' := (97, I, J, R)) rfl ?_
            show az_E az_F ex 1 56 4 [.ref 63, .int (I 67 1)] [.int (1 : Int32)] (97, I, J, R) _
            refine az_E.br (c := (1 : Int32) = 0) (tt := 19) (ff := 7) (L' := [.ref 63, .int (I 67 1)]) (S' := []) (σ' := (97, I, J, R)) rfl (fun hn => absurd hn (by decide)) (fun _ => ?_)
            refine az_E.sn 3 (pc' := 12) (L' := [.ref 63, .int (I 67 1)]) (S' := [.int (I 67 1), .int (I 63 1)]) (σ' := (97, I, J, R)) rfl ?_
            refine az_E.br (c := (I 63 1) = (I 67 1)) (tt := 15) (ff := 19) (L' := [.ref 63, .int (I 67 1)]) (S' := []) (σ' := (97, I, J, R)) rfl (fun hc_1054 => ?_) (fun hc_1054 => ?_)
            · rw [if_pos hc_1054] at h
              refine az_E.sn 2 (pc' := 20) (L' := [.ref 63, .int (I 67 1)]) (S' := [.int (1 : Int32)]) (σ' := (97, I, J, R)) rfl ?_
              refine az_E.ret (v := some (.int (1 : Int32))) (σ' := (97, I, J, R)) rfl ?_
              show az_E az_F ex 2 128 69 [.retAddr 0, .retAddr 0, .int v2, .retAddr 0, .int v4, .int v5, .ref 67, .ref 63] [.int (1 : Int32)] (97, I, J, R) _
              refine az_E.br (c := (1 : Int32) = 0) (tt := 72) (ff := 75) (L' := [.retAddr 0, .retAddr 0, .int v2, .retAddr 0, .int v4, .int v5, .ref 67, .ref 63]) (S' := []) (σ' := (97, I, J, R)) rfl (fun hn => absurd hn (by decide)) (fun _ => ?_)
              refine az_E.sn 3 (pc' := 80) (L' := [.retAddr 0, .retAddr 0, .int v2, .retAddr 0, .int v4, .int v5, .ref 67, .ref 63]) (S' := [.int v5, .int v2, .ref 67]) (σ' := (97, I, J, R)) rfl ?_
              refine az_E.call (d := 1) (k' := 60) (vs := [.ref 67, .int v2, .int v5]) (pc' := 83) (S' := []) rfl ?_ (fun _ _ hq => hq)
              show az_E az_F ex 1 60 0 [.ref 67, .int v2, .int v5] [] (97, I, J, R) _
              refine az_E.sn 1 (pc' := 1) (L' := [.ref 67, .int v2, .int v5]) (S' := [.int v2]) (σ' := (97, I, J, R)) rfl ?_
              refine az_E.br (c := v2 < 0) (tt := 30) (ff := 4) (L' := [.ref 67, .int v2, .int v5]) (S' := []) (σ' := (97, I, J, R)) rfl (fun hc_1055 => ?_) (fun hc_1055 => ?_)
              · rw [if_pos hc_1055] at h
                refine az_E.sn 1 (pc' := 31) (L' := [.ref 67, .int v2, .int v5]) (S' := [.int (0 : Int32)]) (σ' := (97, I, J, R)) rfl ?_
                refine az_E.ret (v := some (.int (0 : Int32))) (σ' := (97, I, J, R)) rfl ?_
                show az_E az_F ex 2 128 83 [.retAddr 0, .retAddr 0, .int v2, .retAddr 0, .int v4, .int v5, .ref 67, .ref 63] [.int (0 : Int32)] (97, I, J, R) _
                refine az_E.br (c := (0 : Int32) = 0) (tt := 98) (ff := 86) (L' := [.retAddr 0, .retAddr 0, .int v2, .retAddr 0, .int v4, .int v5, .ref 67, .ref 63]) (S' := []) (σ' := (97, I, J, R)) rfl (fun _ => ?_) (fun hn => absurd (by decide) hn)
                refine az_E.sn 1 (pc' := 100) (L' := [.retAddr 0, .retAddr 0, .int v2, .retAddr 0, .int v4, .int v5, .ref 67, .ref 63]) (S' := [.int (-13 : Int32)]) (σ' := (97, I, J, R)) rfl ?_
                have h := Option.some.inj h
                subst h
                exact az_E.ret (v := some (.int (-13 : Int32))) (σ' := (97, I, J, R)) rfl hQ
              · rw [if_neg hc_1055] at h
                refine az_E.sn 1 (pc' := 5) (L' := [.ref 67, .int v2, .int v5]) (S' := [.int v5]) (σ' := (97, I, J, R)) rfl ?_
                refine az_E.br (c := v5 < 0) (tt := 30) (ff := 8) (L' := [.ref 67, .int v2, .int v5]) (S' := []) (σ' := (97, I, J, R)) rfl (fun hc_1056 => ?_) (fun hc_1056 => ?_)
                · rw [if_pos hc_1056] at h
                  refine az_E.sn 1 (pc' := 31) (L' := [.ref 67, .int v2, .int v5]) (S' := [.int (0 : Int32)]) (σ' := (97, I, J, R)) rfl ?_
                  refine az_E.ret (v := some (.int (0 : Int32))) (σ' := (97, I, J, R)) rfl ?_
                  show az_E az_F ex 2 128 83 [.retAddr 0, .retAddr 0, .int v2, .retAddr 0, .int v4, .int v5, .ref 67, .ref 63] [.int (0 : Int32)] (97, I, J, R) _
                  refine az_E.br (c := (0 : Int32) = 0) (tt := 98) (ff := 86) (L' := [.retAddr 0, .retAddr 0, .int v2, .retAddr 0, .int v4, .int v5, .ref 67, .ref 63]) (S' := []) (σ' := (97, I, J, R)) rfl (fun _ => ?_) (fun hn => absurd (by decide) hn)
                  refine az_E.sn 1 (pc' := 100) (L' := [.retAddr 0, .retAddr 0, .int v2, .retAddr 0, .int v4, .int v5, .ref 67, .ref 63]) (S' := [.int (-13 : Int32)]) (σ' := (97, I, J, R)) rfl ?_
                  have h := Option.some.inj h
                  subst h
                  exact az_E.ret (v := some (.int (-13 : Int32))) (σ' := (97, I, J, R)) rfl hQ
                · rw [if_neg hc_1056] at h
                  refine az_E.sn 3 (pc' := 13) (L' := [.ref 67, .int v2, .int v5]) (S' := [.int (I 67 2), .int v2]) (σ' := (97, I, J, R)) rfl ?_
                  refine az_E.br (c := (I 67 2) < v2) (tt := 30) (ff := 16) (L' := [.ref 67, .int v2, .int v5]) (S' := []) (σ' := (97, I, J, R)) rfl (fun hc_1057 => ?_) (fun hc_1057 => ?_)
                  · rw [if_pos hc_1057] at h
                    refine az_E.sn 1 (pc' := 31) (L' := [.ref 67, .int v2, .int v5]) (S' := [.int (0 : Int32)]) (σ' := (97, I, J, R)) rfl ?_
                    refine az_E.ret (v := some (.int (0 : Int32))) (σ' := (97, I, J, R)) rfl ?_
                    show az_E az_F ex 2 128 83 [.retAddr 0, .retAddr 0, .int v2, .retAddr 0, .int v4, .int v5, .ref 67, .ref 63] [.int (0 : Int32)] (97, I, J, R) _
                    refine az_E.br (c := (0 : Int32) = 0) (tt := 98) (ff := 86) (L' := [.retAddr 0, .retAddr 0, .int v2, .retAddr 0, .int v4, .int v5, .ref 67, .ref 63]) (S' := []) (σ' := (97, I, J, R)) rfl (fun _ => ?_) (fun hn => absurd (by decide) hn)
                    refine az_E.sn 1 (pc' := 100) (L' := [.retAddr 0, .retAddr 0, .int v2, .retAddr 0, .int v4, .int v5, .ref 67, .ref 63]) (S' := [.int (-13 : Int32)]) (σ' := (97, I, J, R)) rfl ?_
                    have h := Option.some.inj h
                    subst h
                    exact az_E.ret (v := some (.int (-13 : Int32))) (σ' := (97, I, J, R)) rfl hQ
                  · rw [if_neg hc_1057] at h
                    refine az_E.sn 5 (pc' := 23) (L' := [.ref 67, .int v2, .int v5]) (S' := [.int ((I 67 2) - v2), .int v5]) (σ' := (97, I, J, R)) rfl ?_
                    refine az_E.br (c := ((I 67 2) - v2) < v5) (tt := 30) (ff := 26) (L' := [.ref 67, .int v2, .int v5]) (S' := []) (σ' := (97, I, J, R)) rfl (fun hc_1058 => ?_) (fun hc_1058 => ?_)
                    · rw [if_pos hc_1058] at h
                      refine az_E.sn 1 (pc' := 31) (L' := [.ref 67, .int v2, .int v5]) (S' := [.int (0 : Int32)]) (σ' := (97, I, J, R)) rfl ?_
                      refine az_E.ret (v := some (.int (0 : Int32))) (σ' := (97, I, J, R)) rfl ?_
                      show az_E az_F ex 2 128 83 [.retAddr 0, .retAddr 0, .int v2, .retAddr 0, .int v4, .int v5, .ref 67, .ref 63] [.int (0 : Int32)] (97, I, J, R) _
                      refine az_E.br (c := (0 : Int32) = 0) (tt := 98) (ff := 86) (L' := [.retAddr 0, .retAddr 0, .int v2, .retAddr 0, .int v4, .int v5, .ref 67, .ref 63]) (S' := []) (σ' := (97, I, J, R)) rfl (fun _ => ?_) (fun hn => absurd (by decide) hn)
                      refine az_E.sn 1 (pc' := 100) (L' := [.retAddr 0, .retAddr 0, .int v2, .retAddr 0, .int v4, .int v5, .ref 67, .ref 63]) (S' := [.int (-13 : Int32)]) (σ' := (97, I, J, R)) rfl ?_
                      have h := Option.some.inj h
                      subst h
                      exact az_E.ret (v := some (.int (-13 : Int32))) (σ' := (97, I, J, R)) rfl hQ
                    · rw [if_neg hc_1058] at h
                      refine az_E.sn 2 (pc' := 31) (L' := [.ref 67, .int v2, .int v5]) (S' := [.int (1 : Int32)]) (σ' := (97, I, J, R)) rfl ?_
                      refine az_E.ret (v := some (.int (1 : Int32))) (σ' := (97, I, J, R)) rfl ?_
                      show az_E az_F ex 2 128 83 [.retAddr 0, .retAddr 0, .int v2, .retAddr 0, .int v4, .int v5, .ref 67, .ref 63] [.int (1 : Int32)] (97, I, J, R) _
                      refine az_E.br (c := (1 : Int32) = 0) (tt := 98) (ff := 86) (L' := [.retAddr 0, .retAddr 0, .int v2, .retAddr 0, .int v4, .int v5, .ref 67, .ref 63]) (S' := []) (σ' := (97, I, J, R)) rfl (fun hn => absurd hn (by decide)) (fun _ => ?_)
                      refine az_E.sn 3 (pc' := 92) (L' := [.retAddr 0, .retAddr 0, .int v2, .retAddr 0, .int v4, .int v5, .ref 67, .ref 63]) (S' := [.int v5, .int v4, .ref 63]) (σ' := (97, I, J, R)) rfl ?_
                      refine az_E.call (d := 1) (k' := 60) (vs := [.ref 63, .int v4, .int v5]) (pc' := 95) (S' := []) rfl ?_ (fun _ _ hq => hq)
                      show az_E az_F ex 1 60 0 [.ref 63, .int v4, .int v5] [] (97, I, J, R) _
                      refine az_E.sn 1 (pc' := 1) (L' := [.ref 63, .int v4, .int v5]) (S' := [.int v4]) (σ' := (97, I, J, R)) rfl ?_
                      refine az_E.br (c := v4 < 0) (tt := 30) (ff := 4) (L' := [.ref 63, .int v4, .int v5]) (S' := []) (σ' := (97, I, J, R)) rfl (fun hc_1059 => ?_) (fun hc_1059 => ?_)
                      · rw [if_pos hc_1059] at h
                        refine az_E.sn 1 (pc' := 31) (L' := [.ref 63, .int v4, .int v5]) (S' := [.int (0 : Int32)]) (σ' := (97, I, J, R)) rfl ?_
                        refine az_E.ret (v := some (.int (0 : Int32))) (σ' := (97, I, J, R)) rfl ?_
                        show az_E az_F ex 2 128 95 [.retAddr 0, .retAddr 0, .int v2, .retAddr 0, .int v4, .int v5, .ref 67, .ref 63] [.int (0 : Int32)] (97, I, J, R) _
                        refine az_E.br (c := (0 : Int32) = 0) (tt := 98) (ff := 101) (L' := [.retAddr 0, .retAddr 0, .int v2, .retAddr 0, .int v4, .int v5, .ref 67, .ref 63]) (S' := []) (σ' := (97, I, J, R)) rfl (fun _ => ?_) (fun hn => absurd (by decide) hn)
                        refine az_E.sn 1 (pc' := 100) (L' := [.retAddr 0, .retAddr 0, .int v2, .retAddr 0, .int v4, .int v5, .ref 67, .ref 63]) (S' := [.int (-13 : Int32)]) (σ' := (97, I, J, R)) rfl ?_
                        have h := Option.some.inj h
                        subst h
                        exact az_E.ret (v := some (.int (-13 : Int32))) (σ' := (97, I, J, R)) rfl hQ
                      · rw [if_neg hc_1059] at h
                        refine az_E.sn 1 (pc' := 5) (L' := [.ref 63, .int v4, .int v5]) (S' := [.int v5]) (σ' := (97, I, J, R)) rfl ?_
                        refine az_E.br (c := v5 < 0) (tt := 30) (ff := 8) (L' := [.ref 63, .int v4, .int v5]) (S' := []) (σ' := (97, I, J, R)) rfl (fun hc_1060 => ?_) (fun hc_1060 => ?_)
                        · rw [if_pos hc_1060] at h
                          refine az_E.sn 1 (pc' := 31) (L' := [.ref 63, .int v4, .int v5]) (S' := [.int (0 : Int32)]) (σ' := (97, I, J, R)) rfl ?_
                          refine az_E.ret (v := some (.int (0 : Int32))) (σ' := (97, I, J, R)) rfl ?_
                          show az_E az_F ex 2 128 95 [.retAddr 0, .retAddr 0, .int v2, .retAddr 0, .int v4, .int v5, .ref 67, .ref 63] [.int (0 : Int32)] (97, I, J, R) _
                          refine az_E.br (c := (0 : Int32) = 0) (tt := 98) (ff := 101) (L' := [.retAddr 0, .retAddr 0, .int v2, .retAddr 0, .int v4, .int v5, .ref 67, .ref 63]) (S' := []) (σ' := (97, I, J, R)) rfl (fun _ => ?_) (fun hn => absurd (by decide) hn)
                          refine az_E.sn 1 (pc' := 100) (L' := [.retAddr 0, .retAddr 0, .int v2, .retAddr 0, .int v4, .int v5, .ref 67, .ref 63]) (S' := [.int (-13 : Int32)]) (σ' := (97, I, J, R)) rfl ?_
                          have h := Option.some.inj h
                          subst h
                          exact az_E.ret (v := some (.int (-13 : Int32))) (σ' := (97, I, J, R)) rfl hQ
                        · rw [if_neg hc_1060] at h
                          refine az_E.sn 3 (pc' := 13) (L' := [.ref 63, .int v4, .int v5]) (S' := [.int (I 63 2), .int v4]) (σ' := (97, I, J, R)) rfl ?_
                          refine az_E.br (c := (I 63 2) < v4) (tt := 30) (ff := 16) (L' := [.ref 63, .int v4, .int v5]) (S' := []) (σ' := (97, I, J, R)) rfl (fun hc_1061 => ?_) (fun hc_1061 => ?_)
                          · rw [if_pos hc_1061] at h
                            refine az_E.sn 1 (pc' := 31) (L' := [.ref 63, .int v4, .int v5]) (S' := [.int (0 : Int32)]) (σ' := (97, I, J, R)) rfl ?_
                            refine az_E.ret (v := some (.int (0 : Int32))) (σ' := (97, I, J, R)) rfl ?_
                            show az_E az_F ex 2 128 95 [.retAddr 0, .retAddr 0, .int v2, .retAddr 0, .int v4, .int v5, .ref 67, .ref 63] [.int (0 : Int32)] (97, I, J, R) _
                            refine az_E.br (c := (0 : Int32) = 0) (tt := 98) (ff := 101) (L' := [.retAddr 0, .retAddr 0, .int v2, .retAddr 0, .int v4, .int v5, .ref 67, .ref 63]) (S' := []) (σ' := (97, I, J, R)) rfl (fun _ => ?_) (fun hn => absurd (by decide) hn)
                            refine az_E.sn 1 (pc' := 100) (L' := [.retAddr 0, .retAddr 0, .int v2, .retAddr 0, .int v4, .int v5, .ref 67, .ref 63]) (S' := [.int (-13 : Int32)]) (σ' := (97, I, J, R)) rfl ?_
                            have h := Option.some.inj h
                            subst h
                            exact az_E.ret (v := some (.int (-13 : Int32))) (σ' := (97, I, J, R)) rfl hQ
                          · rw [if_neg hc_1061] at h
                            refine az_E.sn 5 (pc' := 23) (L' := [.ref 63, .int v4, .int v5]) (S' := [.int ((I 63 2) - v4), .int v5]) (σ' := (97, I, J, R)) rfl ?_
                            refine az_E.br (c := ((I 63 2) - v4) < v5) (tt := 30) (ff := 26) (L' := [.ref 63, .int v4, .int v5]) (S' := []) (σ' := (97, I, J, R)) rfl (fun hc_1062 => ?_) (fun hc_1062 => ?_)
                            · rw [if_pos hc_1062] at h
                              refine az_E.sn 1 (pc' := 31) (L' := [.ref 63, .int v4, .int v5]) (S' := [.int (0 : Int32)]) (σ' := (97, I, J, R)) rfl ?_
                              refine az_E.ret (v := some (.int (0 : Int32))) (σ' := (97, I, J, R)) rfl ?_
                              show az_E az_F ex 2 128 95 [.retAddr 0, .retAddr 0, .int v2, .retAddr 0, .int v4, .int v5, .ref 67, .ref 63] [.int (0 : Int32)] (97, I, J, R) _
                              refine az_E.br (c := (0 : Int32) = 0) (tt := 98) (ff := 101) (L' := [.retAddr 0, .retAddr 0, .int v2, .retAddr 0, .int v4, .int v5, .ref 67, .ref 63]) (S' := []) (σ' := (97, I, J, R)) rfl (fun _ => ?_) (fun hn => absurd (by decide) hn)
                              refine az_E.sn 1 (pc' := 100) (L' := [.retAddr 0, .retAddr 0, .int v2, .retAddr 0, .int v4, .int v5, .ref 67, .ref 63]) (S' := [.int (-13 : Int32)]) (σ' := (97, I, J, R)) rfl ?_
                              have h := Option.some.inj h
                              subst h
                              exact az_E.ret (v := some (.int (-13 : Int32))) (σ' := (97, I, J, R)) rfl hQ
                            · rw [if_neg hc_1062] at h
                              refine az_E.sn 2 (pc' := 31) (L' := [.ref 63, .int v4, .int v5]) (S' := [.int (1 : Int32)]) (σ' := (97, I, J, R)) rfl ?_
                              refine az_E.ret (v := some (.int (1 : Int32))) (σ' := (97, I, J, R)) rfl ?_
                              show az_E az_F ex 2 128 95 [.retAddr 0, .retAddr 0, .int v2, .retAddr 0, .int v4, .int v5, .ref 67, .ref 63] [.int (1 : Int32)] (97, I, J, R) _
                              refine az_E.br (c := (1 : Int32) = 0) (tt := 98) (ff := 101) (L' := [.retAddr 0, .retAddr 0, .int v2, .retAddr 0, .int v4, .int v5, .ref 67, .ref 63]) (S' := []) (σ' := (97, I, J, R)) rfl (fun hn => absurd hn (by decide)) (fun _ => ?_)
                              refine az_E.sn 7 (pc' := 116) (L' := [.retAddr 0, .retAddr 0, .int v2, .retAddr 0, .int v4, .int v5, .ref 67, .ref 63]) (S' := [.int v5, .int v4, .ref (63 + 1), .int v2, .ref (67 + 1)]) (σ' := (97, I, J, R)) rfl ?_
                              by_cases hc_1063 : v2 < 0 ∨ v4 < 0 ∨ v5 < 0 ∨ 60 < v2.toNatClampNeg + v5.toNatClampNeg ∨ 60 < v4.toNatClampNeg + v5.toNatClampNeg
                              · rw [if_pos hc_1063] at h; cases h
                              · rw [if_neg hc_1063] at h
                                refine az_E.o (o := az_cp az_F (97, I, J, R) (67 + 1) v2 (63 + 1) v4 v5) (pc' := 119) (L' := [.retAddr 0, .retAddr 0, .int v2, .retAddr 0, .int v4, .int v5, .ref 67, .ref 63]) (S' := []) (x := (97, I, (az_ur J (63 + 1) (va_cpy (J (67 + 1)) (J (63 + 1)) v2.toNatClampNeg v4.toNatClampNeg v5.toNatClampNeg)), R)) rfl (if_neg hc_1063) ?_
                                refine az_E.sn 1 (pc' := 121) (L' := [.retAddr 0, .retAddr 0, .int v2, .retAddr 0, .int v4, .int v5, .ref 67, .ref 63]) (S' := [.int v5]) (σ' := (97, I, (az_ur J (63 + 1) (va_cpy (J (67 + 1)) (J (63 + 1)) v2.toNatClampNeg v4.toNatClampNeg v5.toNatClampNeg)), R)) rfl ?_
                                have h := Option.some.inj h
                                subst h
                                exact az_E.ret (v := some (.int v5)) (σ' := (97, I, (az_ur J (63 + 1) (va_cpy (J (67 + 1)) (J (63 + 1)) v2.toNatClampNeg v4.toNatClampNeg v5.toNatClampNeg)), R)) rfl hQ
            · rw [if_neg hc_1054] at h
              refine az_E.sn 1 (pc' := 20) (L' := [.ref 63, .int (I 67 1)]) (S' := [.int (0 : Int32)]) (σ' := (97, I, J, R)) rfl ?_
              refine az_E.ret (v := some (.int (0 : Int32))) (σ' := (97, I, J, R)) rfl ?_
              show az_E az_F ex 2 128 69 [.retAddr 0, .retAddr 0, .int v2, .retAddr 0, .int v4, .int v5, .ref 67, .ref 63] [.int (0 : Int32)] (97, I, J, R) _
              refine az_E.br (c := (0 : Int32) = 0) (tt := 72) (ff := 75) (L' := [.retAddr 0, .retAddr 0, .int v2, .retAddr 0, .int v4, .int v5, .ref 67, .ref 63]) (S' := []) (σ' := (97, I, J, R)) rfl (fun _ => ?_) (fun hn => absurd (by decide) hn)
              refine az_E.sn 1 (pc' := 74) (L' := [.retAddr 0, .retAddr 0, .int v2, .retAddr 0, .int v4, .int v5, .ref 67, .ref 63]) (S' := [.int (-12 : Int32)]) (σ' := (97, I, J, R)) rfl ?_
              have h := Option.some.inj h
              subst h
              exact az_E.ret (v := some (.int (-12 : Int32))) (σ' := (97, I, J, R)) rfl hQ
  · rw [if_neg hc_1036] at h
    refine az_E.sn 1 (pc' := 21) (L' := [.ref 67]) (S' := [.int (0 : Int32)]) (σ' := (97, I, J, R)) rfl ?_
    refine az_E.ret (v := some (.int (0 : Int32))) (σ' := (97, I, J, R)) rfl ?_
    show az_E az_F ex 2 128 37 [.retAddr 0, .retAddr 0, .int v2, .retAddr 0, .int v4, .int v5, .ref 67, .ref 63] [.int (0 : Int32)] (97, I, J, R) _
    refine az_E.br (c := (0 : Int32) = 0) (tt := 40) (ff := 48) (L' := [.retAddr 0, .retAddr 0, .int v2, .retAddr 0, .int v4, .int v5, .ref 67, .ref 63]) (S' := []) (σ' := (97, I, J, R)) rfl (fun _ => ?_) (fun hn => absurd (by decide) hn)
    refine az_E.sn 1 (pc' := 42) (L' := [.retAddr 0, .retAddr 0, .int v2, .retAddr 0, .int v4, .int v5, .ref 67, .ref 63]) (S' := [.ref 63]) (σ' := (97, I, J, R)) rfl ?_
    refine az_E.call (d := 1) (k' := 54) (vs := [.ref 63]) (pc' := 45) (S' := []) rfl ?_ (fun _ _ hq => hq)
    show az_E az_F ex 1 54 0 [.ref 63] [] (97, I, J, R) _
    refine az_E.sn 3 (pc' := 5) (L' := [.ref 63]) (S' := [.int (-1 : Int32), .int (I 63 0)]) (σ' := (97, I, J, R)) rfl ?_
    refine az_E.br (c := (I 63 0) = (-1 : Int32)) (tt := 8) (ff := 20) (L' := [.ref 63]) (S' := []) (σ' := (97, I, J, R)) rfl (fun hc_1064 => ?_) (fun hc_1064 => ?_)
    · rw [if_pos hc_1064] at h
      refine az_E.sn 3 (pc' := 13) (L' := [.ref 63]) (S' := [.int (-1 : Int32), .int (I 63 1)]) (σ' := (97, I, J, R)) rfl ?_
      refine az_E.br (c := (I 63 1) = (-1 : Int32)) (tt := 16) (ff := 20) (L' := [.ref 63]) (S' := []) (σ' := (97, I, J, R)) rfl (fun hc_1065 => ?_) (fun hc_1065 => ?_)
      · rw [if_pos hc_1065] at h
        refine az_E.sn 2 (pc' := 21) (L' := [.ref 63]) (S' := [.int (1 : Int32)]) (σ' := (97, I, J, R)) rfl ?_
        refine az_E.ret (v := some (.int (1 : Int32))) (σ' := (97, I, J, R)) rfl ?_
        show az_E az_F ex 2 128 45 [.retAddr 0, .retAddr 0, .int v2, .retAddr 0, .int v4, .int v5, .ref 67, .ref 63] [.int (1 : Int32)] (97, I, J, R) _
        refine az_E.br (c := (1 : Int32) = 0) (tt := 51) (ff := 48) (L' := [.retAddr 0, .retAddr 0, .int v2, .retAddr 0, .int v4, .int v5, .ref 67, .ref 63]) (S' := []) (σ' := (97, I, J, R)) rfl (fun hn => absurd hn (by decide)) (fun _ => ?_)
        refine az_E.sn 1 (pc' := 50) (L' := [.retAddr 0, .retAddr 0, .int v2, .retAddr 0, .int v4, .int v5, .ref 67, .ref 63]) (S' := [.int (-11 : Int32)]) (σ' := (97, I, J, R)) rfl ?_
        have h := Option.some.inj h
        subst h
        exact az_E.ret (v := some (.int (-11 : Int32))) (σ' := (97, I, J, R)) rfl hQ
      · rw [if_neg hc_1065] at h
        refine az_E.sn 1 (pc' := 21) (L' := [.ref 63]) (S' := [.int (0 : Int32)]) (σ' := (97, I, J, R)) rfl ?_
        refine az_E.ret (v := some (.int (0 : Int32))) (σ' := (97, I, J, R)) rfl ?_
        show az_E az_F ex 2 128 45 [.retAddr 0, .retAddr 0, .int v2, .retAddr 0, .int v4, .int v5, .ref 67, .ref 63] [.int (0 : Int32)] (97, I, J, R) _
        refine az_E.br (c := (0 : Int32) = 0) (tt := 51) (ff := 48) (L' := [.retAddr 0, .retAddr 0, .int v2, .retAddr 0, .int v4, .int v5, .ref 67, .ref 63]) (S' := []) (σ' := (97, I, J, R)) rfl (fun _ => ?_) (fun hn => absurd (by decide) hn)
        refine az_E.sn 1 (pc' := 53) (L' := [.retAddr 0, .retAddr 0, .int v2, .retAddr 0, .int v4, .int v5, .ref 67, .ref 63]) (S' := [.ref 67]) (σ' := (97, I, J, R)) rfl ?_
        refine az_E.call (d := 1) (k' := 55) (vs := [.ref 67]) (pc' := 56) (S' := []) rfl ?_ (fun _ _ hq => hq)
        show az_E az_F ex 1 55 0 [.ref 67] [] (97, I, J, R) _
        refine az_E.sn 3 (pc' := 5) (L' := [.ref 67]) (S' := [.int (-1 : Int32), .int (I 67 1)]) (σ' := (97, I, J, R)) rfl ?_
        refine az_E.br (c := (I 67 1) = (-1 : Int32)) (tt := 12) (ff := 8) (L' := [.ref 67]) (S' := []) (σ' := (97, I, J, R)) rfl (fun hc_1066 => ?_) (fun hc_1066 => ?_)
        · rw [if_pos hc_1066] at h
          refine az_E.sn 1 (pc' := 13) (L' := [.ref 67]) (S' := [.int (0 : Int32)]) (σ' := (97, I, J, R)) rfl ?_
          refine az_E.ret (v := some (.int (0 : Int32))) (σ' := (97, I, J, R)) rfl ?_
          show az_E az_F ex 2 128 56 [.retAddr 0, .retAddr 0, .int v2, .retAddr 0, .int v4, .int v5, .ref 67, .ref 63] [.int (0 : Int32)] (97, I, J, R) _
          refine az_E.br (c := (0 : Int32) = 0) (tt := 72) (ff := 59) (L' := [.retAddr 0, .retAddr 0, .int v2, .retAddr 0, .int v4, .int v5, .ref 67, .ref 63]) (S' := []) (σ' := (97, I, J, R)) rfl (fun _ => ?_) (fun hn => absurd (by decide) hn)
          refine az_E.sn 1 (pc' := 74) (L' := [.retAddr 0, .retAddr 0, .int v2, .retAddr 0, .int v4, .int v5, .ref 67, .ref 63]) (S' := [.int (-12 : Int32)]) (σ' := (97, I, J, R)) rfl ?_
          have h := Option.some.inj h
          subst h
          exact az_E.ret (v := some (.int (-12 : Int32))) (σ' := (97, I, J, R)) rfl hQ
        · rw [if_neg hc_1066] at h
          refine az_E.sn 2 (pc' := 13) (L' := [.ref 67]) (S' := [.int (1 : Int32)]) (σ' := (97, I, J, R)) rfl ?_
          refine az_E.ret (v := some (.int (1 : Int32))) (σ' := (97, I, J, R)) rfl ?_
          show az_E az_F ex 2 128 56 [.retAddr 0, .retAddr 0, .int v2, .retAddr 0, .int v4, .int v5, .ref 67, .ref 63] [.int (1 : Int32)] (97, I, J, R) _
          refine az_E.br (c := (1 : Int32) = 0) (tt := 72) (ff := 59) (L' := [.retAddr 0, .retAddr 0, .int v2, .retAddr 0, .int v4, .int v5, .ref 67, .ref 63]) (S' := []) (σ' := (97, I, J, R)) rfl (fun hn => absurd hn (by decide)) (fun _ => ?_)
          refine az_E.sn 3 (pc' := 66) (L' := [.retAddr 0, .retAddr 0, .int v2, .retAddr 0, .int v4, .int v5, .ref 67, .ref 63]) (S' := [.int (I 67 1), .ref 63]) (σ' := (97, I, J, R)) rfl ?_
          refine az_E.call (d := 1) (k' := 56) (vs := [.ref 63, .int (I 67 1)]) (pc' := 69) (S' := []) rfl ?_ (fun _ _ hq => hq)
          show az_E az_F ex 1 56 0 [.ref 63, .int (I 67 1)] [] (97, I, J, R) _
          refine az_E.sn 1 (pc' := 1) (L' := [.ref 63, .int (I 67 1)]) (S' := [.ref 63]) (σ' := (97, I, J, R)) rfl ?_
          refine az_E.call (d := 0) (k' := 55) (vs := [.ref 63]) (pc' := 4) (S' := []) rfl ?_ (fun _ _ hq => hq)
          show az_E az_F ex 0 55 0 [.ref 63] [] (97, I, J, R) _
          refine az_E.sn 3 (pc' := 5) (L' := [.ref 63]) (S' := [.int (-1 : Int32), .int (I 63 1)]) (σ' := (97, I, J, R)) rfl ?_
          refine az_E.br (c := (I 63 1) = (-1 : Int32)) (tt := 12) (ff := 8) (L' := [.ref 63]) (S' := []) (σ' := (97, I, J, R)) rfl (fun hc_1067 => ?_) (fun hc_1067 => ?_)
          · rw [if_pos hc_1067] at h
            refine az_E.sn 1 (pc' := 13) (L' := [.ref 63]) (S' := [.int (0 : Int32)]) (σ' := (97, I, J, R)) rfl ?_
            refine az_E.ret (v := some (.int (0 : Int32))) (σ' := (97, I, J, R)) rfl ?_
            show az_E az_F ex 1 56 4 [.ref 63, .int (I 67 1)] [.int (0 : Int32)] (97, I, J, R) _
            refine az_E.br (c := (0 : Int32) = 0) (tt := 19) (ff := 7) (L' := [.ref 63, .int (I 67 1)]) (S' := []) (σ' := (97, I, J, R)) rfl (fun _ => ?_) (fun hn => absurd (by decide) hn)
            refine az_E.sn 1 (pc' := 20) (L' := [.ref 63, .int (I 67 1)]) (S' := [.int (0 : Int32)]) (σ' := (97, I, J, R)) rfl ?_
            refine az_E.ret (v := some (.int (0 : Int32))) (σ' := (97, I, J, R)) rfl ?_
            show az_E az_F ex 2 128 69 [.retAddr 0, .retAddr 0, .int v2, .retAddr 0, .int v4, .int v5, .ref 67, .ref 63] [.int (0 : Int32)] (97, I, J, R) _
            refine az_E.br (c := (0 : Int32) = 0) (tt := 72) (ff := 75) (L' := [.retAddr 0, .retAddr 0, .int v2, .retAddr 0, .int v4, .int v5, .ref 67, .ref 63]) (S' := []) (σ' := (97, I, J, R)) rfl (fun _ => ?_) (fun hn => absurd (by decide) hn)
            refine az_E.sn 1 (pc' := 74) (L' := [.retAddr 0, .retAddr 0, .int v2, .retAddr 0, .int v4, .int v5, .ref 67, .ref 63]) (S' := [.int (-12 : Int32)]) (σ' := (97, I, J, R)) rfl ?_
            have h := Option.some.inj h
            subst h
            exact az_E.ret (v := some (.int (-12 : Int32))) (σ' := (97, I, J, R)) rfl hQ
          · rw [if_neg hc_1067] at h
            refine az_E.sn 2 (pc' := 13) (L' := [.ref 63]) (S' := [.int (1 : Int32)]) (σ' := (97, I, J, R)) rfl ?_
            refine az_E.ret (v := some (.int (1 : Int32))) (σ' := (97, I, J, R)) rfl ?_
            show az_E az_F ex 1 56 4 [.ref 63, .int (I 67 1)] [.int (1 : Int32)] (97, I, J, R) _
            refine az_E.br (c := (1 : Int32) = 0) (tt := 19) (ff := 7) (L' := [.ref 63, .int (I 67 1)]) (S' := []) (σ' := (97, I, J, R)) rfl (fun hn => absurd hn (by decide)) (fun _ => ?_)
            refine az_E.sn 3 (pc' := 12) (L' := [.ref 63, .int (I 67 1)]) (S' := [.int (I 67 1), .int (I 63 1)]) (σ' := (97, I, J, R)) rfl ?_
            refine az_E.br (c := (I 63 1) = (I 67 1)) (tt := 15) (ff := 19) (L' := [.ref 63, .int (I 67 1)]) (S' := []) (σ' := (97, I, J, R)) rfl (fun hc_1068 => ?_) (fun hc_1068 => ?_)
            · rw [if_pos hc_1068] at h
              refine az_E.sn 2 (pc' := 20) (L' := [.ref 63, .int (I 67 1)]) (S' := [.int (1 : Int32)]) (σ' := (97, I, J, R)) rfl ?_
              refine az_E.ret (v := some (.int (1 : Int32))) (σ' := (97, I, J, R)) rfl ?_
              show az_E az_F ex 2 128 69 [.retAddr 0, .retAddr 0, .int v2, .retAddr 0, .int v4, .int v5, .ref 67, .ref 63] [.int (1 : Int32)] (97, I, J, R) _
              refine az_E.br (c := (1 : Int32) = 0) (tt := 72) (ff := 75) (L' := [.retAddr 0, .retAddr 0, .int v2, .retAddr 0, .int v4, .int v5, .ref 67, .ref 63]) (S' := []) (σ' := (97, I, J, R)) rfl (fun hn => absurd hn (by decide)) (fun _ => ?_)
              refine az_E.sn 3 (pc' := 80) (L' := [.retAddr 0, .retAddr 0, .int v2, .retAddr 0, .int v4, .int v5, .ref 67, .ref 63]) (S' := [.int v5, .int v2, .ref 67]) (σ' := (97, I, J, R)) rfl ?_
              refine az_E.call (d := 1) (k' := 60) (vs := [.ref 67, .int v2, .int v5]) (pc' := 83) (S' := []) rfl ?_ (fun _ _ hq => hq)
              show az_E az_F ex 1 60 0 [.ref 67, .int v2, .int v5] [] (97, I, J, R) _
              refine az_E.sn 1 (pc' := 1) (L' := [.ref 67, .int v2, .int v5]) (S' := [.int v2]) (σ' := (97, I, J, R)) rfl ?_
              refine az_E.br (c := v2 < 0) (tt := 30) (ff := 4) (L' := [.ref 67, .int v2, .int v5]) (S' := []) (σ' := (97, I, J, R)) rfl (fun hc_1069 => ?_) (fun hc_1069 => ?_)
              · rw [if_pos hc_1069] at h
                refine az_E.sn 1 (pc' := 31) (L' := [.ref 67, .int v2, .int v5]) (S' := [.int (0 : Int32)]) (σ' := (97, I, J, R)) rfl ?_
                refine az_E.ret (v := some (.int (0 : Int32))) (σ' := (97, I, J, R)) rfl ?_
                show az_E az_F ex 2 128 83 [.retAddr 0, .retAddr 0, .int v2, .retAddr 0, .int v4, .int v5, .ref 67, .ref 63] [.int (0 : Int32)] (97, I, J, R) _
                refine az_E.br (c := (0 : Int32) = 0) (tt := 98) (ff := 86) (L' := [.retAddr 0, .retAddr 0, .int v2, .retAddr 0, .int v4, .int v5, .ref 67, .ref 63]) (S' := []) (σ' := (97, I, J, R)) rfl (fun _ => ?_) (fun hn => absurd (by decide) hn)
                refine az_E.sn 1 (pc' := 100) (L' := [.retAddr 0, .retAddr 0, .int v2, .retAddr 0, .int v4, .int v5, .ref 67, .ref 63]) (S' := [.int (-13 : Int32)]) (σ' := (97, I, J, R)) rfl ?_
                have h := Option.some.inj h
                subst h
                exact az_E.ret (v := some (.int (-13 : Int32))) (σ' := (97, I, J, R)) rfl hQ
              · rw [if_neg hc_1069] at h
                refine az_E.sn 1 (pc' := 5) (L' := [.ref 67, .int v2, .int v5]) (S' := [.int v5]) (σ' := (97, I, J, R)) rfl ?_
                refine az_E.br (c := v5 < 0) (tt := 30) (ff := 8) (L' := [.ref 67, .int v2, .int v5]) (S' := []) (σ' := (97, I, J, R)) rfl (fun hc_1070 => ?_) (fun hc_1070 => ?_)
                · rw [if_pos hc_1070] at h
                  refine az_E.sn 1 (pc' := 31) (L' := [.ref 67, .int v2, .int v5]) (S' := [.int (0 : Int32)]) (σ' := (97, I, J, R)) rfl ?_
                  refine az_E.ret (v := some (.int (0 : Int32))) (σ' := (97, I, J, R)) rfl ?_
                  show az_E az_F ex 2 128 83 [.retAddr 0, .retAddr 0, .int v2, .retAddr 0, .int v4, .int v5, .ref 67, .ref 63] [.int (0 : Int32)] (97, I, J, R) _
                  refine az_E.br (c := (0 : Int32) = 0) (tt := 98) (ff := 86) (L' := [.retAddr 0, .retAddr 0, .int v2, .retAddr 0, .int v4, .int v5, .ref 67, .ref 63]) (S' := []) (σ' := (97, I, J, R)) rfl (fun _ => ?_) (fun hn => absurd (by decide) hn)
                  refine az_E.sn 1 (pc' := 100) (L' := [.retAddr 0, .retAddr 0, .int v2, .retAddr 0, .int v4, .int v5, .ref 67, .ref 63]) (S' := [.int (-13 : Int32)]) (σ' := (97, I, J, R)) rfl ?_
                  have h := Option.some.inj h
                  subst h
                  exact az_E.ret (v := some (.int (-13 : Int32))) (σ' := (97, I, J, R)) rfl hQ
                · rw [if_neg hc_1070] at h
                  refine az_E.sn 3 (pc' := 13) (L' := [.ref 67, .int v2, .int v5]) (S' := [.int (I 67 2), .int v2]) (σ' := (97, I, J, R)) rfl ?_
                  refine az_E.br (c := (I 67 2) < v2) (tt := 30) (ff := 16) (L' := [.ref 67, .int v2, .int v5]) (S' := []) (σ' := (97, I, J, R)) rfl (fun hc_1071 => ?_) (fun hc_1071 => ?_)
                  · rw [if_pos hc_1071] at h
                    refine az_E.sn 1 (pc' := 31) (L' := [.ref 67, .int v2, .int v5]) (S' := [.int (0 : Int32)]) (σ' := (97, I, J, R)) rfl ?_
                    refine az_E.ret (v := some (.int (0 : Int32))) (σ' := (97, I, J, R)) rfl ?_
                    show az_E az_F ex 2 128 83 [.retAddr 0, .retAddr 0, .int v2, .retAddr 0, .int v4, .int v5, .ref 67, .ref 63] [.int (0 : Int32)] (97, I, J, R) _
                    refine az_E.br (c := (0 : Int32) = 0) (tt := 98) (ff := 86) (L' := [.retAddr 0, .retAddr 0, .int v2, .retAddr 0, .int v4, .int v5, .ref 67, .ref 63]) (S' := []) (σ' := (97, I, J, R)) rfl (fun _ => ?_) (fun hn => absurd (by decide) hn)
                    refine az_E.sn 1 (pc' := 100) (L' := [.retAddr 0, .retAddr 0, .int v2, .retAddr 0, .int v4, .int v5, .ref 67, .ref 63]) (S' := [.int (-13 : Int32)]) (σ' := (97, I, J, R)) rfl ?_
                    have h := Option.some.inj h
                    subst h
                    exact az_E.ret (v := some (.int (-13 : Int32))) (σ' := (97, I, J, R)) rfl hQ
                  · rw [if_neg hc_1071] at h
                    refine az_E.sn 5 (pc' := 23) (L' := [.ref 67, .int v2, .int v5]) (S' := [.int ((I 67 2) - v2), .int v5]) (σ' := (97, I, J, R)) rfl ?_
                    refine az_E.br (c := ((I 67 2) - v2) < v5) (tt := 30) (ff := 26) (L' := [.ref 67, .int v2, .int v5]) (S' := []) (σ' := (97, I, J, R)) rfl (fun hc_1072 => ?_) (fun hc_1072 => ?_)
                    · rw [if_pos hc_1072] at h
                      refine az_E.sn 1 (pc' := 31) (L' := [.ref 67, .int v2, .int v5]) (S' := [.int (0 : Int32)]) (σ' := (97, I, J, R)) rfl ?_
                      refine az_E.ret (v := some (.int (0 : Int32))) (σ' := (97, I, J, R)) rfl ?_
                      show az_E az_F ex 2 128 83 [.retAddr 0, .retAddr 0, .int v2, .retAddr 0, .int v4, .int v5, .ref 67, .ref 63] [.int (0 : Int32)] (97, I, J, R) _
                      refine az_E.br (c := (0 : Int32) = 0) (tt := 98) (ff := 86) (L' := [.retAddr 0, .retAddr 0, .int v2, .retAddr 0, .int v4, .int v5, .ref 67, .ref 63]) (S' := []) (σ' := (97, I, J, R)) rfl (fun _ => ?_) (fun hn => absurd (by decide) hn)
                      refine az_E.sn 1 (pc' := 100) (L' := [.retAddr 0, .retAddr 0, .int v2, .retAddr 0, .int v4, .int v5, .ref 67, .ref 63]) (S' := [.int (-13 : Int32)]) (σ' := (97, I, J, R)) rfl ?_
                      have h := Option.some.inj h
                      subst h
                      exact az_E.ret (v := some (.int (-13 : Int32))) (σ' := (97, I, J, R)) rfl hQ
                    · rw [if_neg hc_1072] at h
                      refine az_E.sn 2 (pc' := 31) (L' := [.ref 67, .int v2, .int v5]) (S' := [.int (1 : Int32)]) (σ' := (97, I, J, R)) rfl ?_
                      refine az_E.ret (v := some (.int (1 : Int32))) (σ' := (97, I, J, R)) rfl ?_
                      show az_E az_F ex 2 128 83 [.retAddr 0, .retAddr 0, .int v2, .retAddr 0, .int v4, .int v5, .ref 67, .ref 63] [.int (1 : Int32)] (97, I, J, R) _
                      refine az_E.br (c := (1 : Int32) = 0) (tt := 98) (ff := 86) (L' := [.retAddr 0, .retAddr 0, .int v2, .retAddr 0, .int v4, .int v5, .ref 67, .ref 63]) (S' := []) (σ' := (97, I, J, R)) rfl (fun hn => absurd hn (by decide)) (fun _ => ?_)
                      refine az_E.sn 3 (pc' := 92) (L' := [.retAddr 0, .retAddr 0, .int v2, .retAddr 0, .int v4, .int v5, .ref 67, .ref 63]) (S' := [.int v5, .int v4, .ref 63]) (σ' := (97, I, J, R)) rfl ?_
                      refine az_E.call (d := 1) (k' := 60) (vs := [.ref 63, .int v4, .int v5]) (pc' := 95) (S' := []) rfl ?_ (fun _ _ hq => hq)
                      show az_E az_F ex 1 60 0 [.ref 63, .int v4, .int v5] [] (97, I, J, R) _
                      refine az_E.sn 1 (pc' := 1) (L' := [.ref 63, .int v4, .int v5]) (S' := [.int v4]) (σ' := (97, I, J, R)) rfl ?_
                      refine az_E.br (c := v4 < 0) (tt := 30) (ff := 4) (L' := [.ref 63, .int v4, .int v5]) (S' := []) (σ' := (97, I, J, R)) rfl (fun hc_1073 => ?_) (fun hc_1073 => ?_)
                      · rw [if_pos hc_1073] at h
                        refine az_E.sn 1 (pc' := 31) (L' := [.ref 63, .int v4, .int v5]) (S' := [.int (0 : Int32)]) (σ' := (97, I, J, R)) rfl ?_
                        refine az_E.ret (v := some (.int (0 : Int32))) (σ' := (97, I, J, R)) rfl ?_
                        show az_E az_F ex 2 128 95 [.retAddr 0, .retAddr 0, .int v2, .retAddr 0, .int v4, .int v5, .ref 67, .ref 63] [.int (0 : Int32)] (97, I, J, R) _
                        refine az_E.br (c := (0 : Int32) = 0) (tt := 98) (ff := 101) (L' := [.retAddr 0, .retAddr 0, .int v2, .retAddr 0, .int v4, .int v5, .ref 67, .ref 63]) (S' := []) (σ' := (97, I, J, R)) rfl (fun _ => ?_) (fun hn => absurd (by decide) hn)
                        refine az_E.sn 1 (pc' := 100) (L' := [.retAddr 0, .retAddr 0, .int v2, .retAddr 0, .int v4, .int v5, .ref 67, .ref 63]) (S' := [.int (-13 : Int32)]) (σ' := (97, I, J, R)) rfl ?_
                        have h := Option.some.inj h
                        subst h
                        exact az_E.ret (v := some (.int (-13 : Int32))) (σ' := (97, I, J, R)) rfl hQ
                      · rw [if_neg hc_1073] at h
                        refine az_E.sn 1 (pc' := 5) (L' := [.ref 63, .int v4, .int v5]) (S' := [.int v5]) (σ' := (97, I, J, R)) rfl ?_
                        refine az_E.br (c := v5 < 0) (tt := 30) (ff := 8) (L' := [.ref 63, .int v4, .int v5]) (S' := []) (σ' := (97, I, J, R)) rfl (fun hc_1074 => ?_) (fun hc_1074 => ?_)
                        · rw [if_pos hc_1074] at h
                          refine az_E.sn 1 (pc' := 31) (L' := [.ref 63, .int v4, .int v5]) (S' := [.int (0 : Int32)]) (σ' := (97, I, J, R)) rfl ?_
                          refine az_E.ret (v := some (.int (0 : Int32))) (σ' := (97, I, J, R)) rfl ?_
                          show az_E az_F ex 2 128 95 [.retAddr 0, .retAddr 0, .int v2, .retAddr 0, .int v4, .int v5, .ref 67, .ref 63] [.int (0 : Int32)] (97, I, J, R) _
                          refine az_E.br (c := (0 : Int32) = 0) (tt := 98) (ff := 101) (L' := [.retAddr 0, .retAddr 0, .int v2, .retAddr 0, .int v4, .int v5, .ref 67, .ref 63]) (S' := []) (σ' := (97, I, J, R)) rfl (fun _ => ?_) (fun hn => absurd (by decide) hn)
                          refine az_E.sn 1 (pc' := 100) (L' := [.retAddr 0, .retAddr 0, .int v2, .retAddr 0, .int v4, .int v5, .ref 67, .ref 63]) (S' := [.int (-13 : Int32)]) (σ' := (97, I, J, R)) rfl ?_
                          have h := Option.some.inj h
                          subst h
                          exact az_E.ret (v := some (.int (-13 : Int32))) (σ' := (97, I, J, R)) rfl hQ
                        · rw [if_neg hc_1074] at h
                          refine az_E.sn 3 (pc' := 13) (L' := [.ref 63, .int v4, .int v5]) (S' := [.int (I 63 2), .int v4]) (σ' := (97, I, J, R)) rfl ?_
                          refine az_E.br (c := (I 63 2) < v4) (tt := 30) (ff := 16) (L' := [.ref 63, .int v4, .int v5]) (S' := []) (σ' := (97, I, J, R)) rfl (fun hc_1075 => ?_) (fun hc_1075 => ?_)
                          · rw [if_pos hc_1075] at h
                            refine az_E.sn 1 (pc' := 31) (L' := [.ref 63, .int v4, .int v5]) (S' := [.int (0 : Int32)]) (σ' := (97, I, J, R)) rfl ?_
                            refine az_E.ret (v := some (.int (0 : Int32))) (σ' := (97, I, J, R)) rfl ?_
                            show az_E az_F ex 2 128 95 [.retAddr 0, .retAddr 0, .int v2, .retAddr 0, .int v4, .int v5, .ref 67, .ref 63] [.int (0 : Int32)] (97, I, J, R) _
                            refine az_E.br (c := (0 : Int32) = 0) (tt := 98) (ff := 101) (L' := [.retAddr 0, .retAddr 0, .int v2, .retAddr 0, .int v4, .int v5, .ref 67, .ref 63]) (S' := []) (σ' := (97, I, J, R)) rfl (fun _ => ?_) (fun hn => absurd (by decide) hn)
                            refine az_E.sn 1 (pc' := 100) (L' := [.retAddr 0, .retAddr 0, .int v2, .retAddr 0, .int v4, .int v5, .ref 67, .ref 63]) (S' := [.int (-13 : Int32)]) (σ' := (97, I, J, R)) rfl ?_
                            have h := Option.some.inj h
                            subst h
                            exact az_E.ret (v := some (.int (-13 : Int32))) (σ' := (97, I, J, R)) rfl hQ
                          · rw [if_neg hc_1075] at h
                            refine az_E.sn 5 (pc' := 23) (L' := [.ref 63, .int v4, .int v5]) (S' := [.int ((I 63 2) - v4), .int v5]) (σ' := (97, I, J, R)) rfl ?_
                            refine az_E.br (c := ((I 63 2) - v4) < v5) (tt := 30) (ff := 26) (L' := [.ref 63, .int v4, .int v5]) (S' := []) (σ' := (97, I, J, R)) rfl (fun hc_1076 => ?_) (fun hc_1076 => ?_)
                            · rw [if_pos hc_1076] at h
                              refine az_E.sn 1 (pc' := 31) (L' := [.ref 63, .int v4, .int v5]) (S' := [.int (0 : Int32)]) (σ' := (97, I, J, R)) rfl ?_
                              refine az_E.ret (v := some (.int (0 : Int32))) (σ' := (97, I, J, R)) rfl ?_
                              show az_E az_F ex 2 128 95 [.retAddr 0, .retAddr 0, .int v2, .retAddr 0, .int v4, .int v5, .ref 67, .ref 63] [.int (0 : Int32)] (97, I, J, R) _
                              refine az_E.br (c := (0 : Int32) = 0) (tt := 98) (ff := 101) (L' := [.retAddr 0, .retAddr 0, .int v2, .retAddr 0, .int v4, .int v5, .ref 67, .ref 63]) (S' := []) (σ' := (97, I, J, R)) rfl (fun _ => ?_) (fun hn => absurd (by decide) hn)
                              refine az_E.sn 1 (pc' := 100) (L' := [.retAddr 0, .retAddr 0, .int v2, .retAddr 0, .int v4, .int v5, .ref 67, .ref 63]) (S' := [.int (-13 : Int32)]) (σ' := (97, I, J, R)) rfl ?_
                              have h := Option.some.inj h
                              subst h
                              exact az_E.ret (v := some (.int (-13 : Int32))) (σ' := (97, I, J, R)) rfl hQ
                            · rw [if_neg hc_1076] at h
                              refine az_E.sn 2 (pc' := 31) (L' := [.ref 63, .int v4, .int v5]) (S' := [.int (1 : Int32)]) (σ' := (97, I, J, R)) rfl ?_
                              refine az_E.ret (v := some (.int (1 : Int32))) (σ' := (97, I, J, R)) rfl ?_
                              show az_E az_F ex 2 128 95 [.retAddr 0, .retAddr 0, .int v2, .retAddr 0, .int v4, .int v5, .ref 67, .ref 63] [.int (1 : Int32)] (97, I, J, R) _
                              refine az_E.br (c := (1 : Int32) = 0) (tt := 98) (ff := 101) (L' := [.retAddr 0, .retAddr 0, .int v2, .retAddr 0, .int v4, .int v5, .ref 67, .ref 63]) (S' := []) (σ' := (97, I, J, R)) rfl (fun hn => absurd hn (by decide)) (fun _ => ?_)
                              refine az_E.sn 7 (pc' := 116) (L' := [.retAddr 0, .retAddr 0, .int v2, .retAddr 0, .int v4, .int v5, .ref 67, .ref 63]) (S' := [.int v5, .int v4, .ref (63 + 1), .int v2, .ref (67 + 1)]) (σ' := (97, I, J, R)) rfl ?_
                              by_cases hc_1077 : v2 < 0 ∨ v4 < 0 ∨ v5 < 0 ∨ 60 < v2.toNatClampNeg + v5.toNatClampNeg ∨ 60 < v4.toNatClampNeg + v5.toNatClampNeg
                              · rw [if_pos hc_1077] at h; cases h
                              · rw [if_neg hc_1077] at h
                                refine az_E.o (o := az_cp az_F (97, I, J, R) (67 + 1) v2 (63 + 1) v4 v5) (pc' := 119) (L' := [.retAddr 0, .retAddr 0, .int v2, .retAddr 0, .int v4, .int v5, .ref 67, .ref 63]) (S' := []) (x := (97, I, (az_ur J (63 + 1) (va_cpy (J (67 + 1)) (J (63 + 1)) v2.toNatClampNeg v4.toNatClampNeg v5.toNatClampNeg)), R)) rfl (if_neg hc_1077) ?_
                                refine az_E.sn 1 (pc' := 121) (L' := [.retAddr 0, .retAddr 0, .int v2, .retAddr 0, .int v4, .int v5, .ref 67, .ref 63]) (S' := [.int v5]) (σ' := (97, I, (az_ur J (63 + 1) (va_cpy (J (67 + 1)) (J (63 + 1)) v2.toNatClampNeg v4.toNatClampNeg v5.toNatClampNeg)), R)) rfl ?_
                                have h := Option.some.inj h
                                subst h
                                exact az_E.ret (v := some (.int v5)) (σ' := (97, I, (az_ur J (63 + 1) (va_cpy (J (67 + 1)) (J (63 + 1)) v2.toNatClampNeg v4.toNatClampNeg v5.toNatClampNeg)), R)) rfl hQ
            · rw [if_neg hc_1068] at h
              refine az_E.sn 1 (pc' := 20) (L' := [.ref 63, .int (I 67 1)]) (S' := [.int (0 : Int32)]) (σ' := (97, I, J, R)) rfl ?_
              refine az_E.ret (v := some (.int (0 : Int32))) (σ' := (97, I, J, R)) rfl ?_
              show az_E az_F ex 2 128 69 [.retAddr 0, .retAddr 0, .int v2, .retAddr 0, .int v4, .int v5, .ref 67, .ref 63] [.int (0 : Int32)] (97, I, J, R) _
              refine az_E.br (c := (0 : Int32) = 0) (tt := 72) (ff := 75) (L' := [.retAddr 0, .retAddr 0, .int v2, .retAddr 0, .int v4, .int v5, .ref 67, .ref 63]) (S' := []) (σ' := (97, I, J, R)) rfl (fun _ => ?_) (fun hn => absurd (by decide) hn)
              refine az_E.sn 1 (pc' := 74) (L' := [.retAddr 0, .retAddr 0, .int v2, .retAddr 0, .int v4, .int v5, .ref 67, .ref 63]) (S' := [.int (-12 : Int32)]) (σ' := (97, I, J, R)) rfl ?_
              have h := Option.some.inj h
              subst h
              exact az_E.ret (v := some (.int (-12 : Int32))) (σ' := (97, I, J, R)) rfl hQ
    · rw [if_neg hc_1064] at h
      refine az_E.sn 1 (pc' := 21) (L' := [.ref 63]) (S' := [.int (0 : Int32)]) (σ' := (97, I, J, R)) rfl ?_
      refine az_E.ret (v := some (.int (0 : Int32))) (σ' := (97, I, J, R)) rfl ?_
      show az_E az_F ex 2 128 45 [.retAddr 0, .retAddr 0, .int v2, .retAddr 0, .int v4, .int v5, .ref 67, .ref 63] [.int (0 : Int32)] (97, I, J, R) _
      refine az_E.br (c := (0 : Int32) = 0) (tt := 51) (ff := 48) (L' := [.retAddr 0, .retAddr 0, .int v2, .retAddr 0, .int v4, .int v5, .ref 67, .ref 63]) (S' := []) (σ' := (97, I, J, R)) rfl (fun _ => ?_) (fun hn => absurd (by decide) hn)
      refine az_E.sn 1 (pc' := 53) (L' := [.retAddr 0, .retAddr 0, .int v2, .retAddr 0, .int v4, .int v5, .ref 67, .ref 63]) (S' := [.ref 67]) (σ' := (97, I, J, R)) rfl ?_
      refine az_E.call (d := 1) (k' := 55) (vs := [.ref 67]) (pc' := 56) (S' := []) rfl ?_ (fun _ _ hq => hq)
      show az_E az_F ex 1 55 0 [.ref 67] [] (97, I, J, R) _
      refine az_E.sn 3 (pc' := 5) (L' := [.ref 67]) (S' := [.int (-1 : Int32), .int (I 67 1)]) (σ' := (97, I, J, R)) rfl ?_
      refine az_E.br (c := (I 67 1) = (-1 : Int32)) (tt := 12) (ff := 8) (L' := [.ref 67]) (S' := []) (σ' := (97, I, J, R)) rfl (fun hc_1078 => ?_) (fun hc_1078 => ?_)
      · rw [if_pos hc_1078] at h
        refine az_E.sn 1 (pc' := 13) (L' := [.ref 67]) (S' := [.int (0 : Int32)]) (σ' := (97, I, J, R)) rfl ?_
        refine az_E.ret (v := some (.int (0 : Int32))) (σ' := (97, I, J, R)) rfl ?_
        show az_E az_F ex 2 128 56 [.retAddr 0, .retAddr 0, .int v2, .retAddr 0, .int v4, .int v5, .ref 67, .ref 63] [.int (0 : Int32)] (97, I, J, R) _
        refine az_E.br (c := (0 : Int32) = 0) (tt := 72) (ff := 59) (L' := [.retAddr 0, .retAddr 0, .int v2, .retAddr 0, .int v4, .int v5, .ref 67, .ref 63]) (S' := []) (σ' := (97, I, J, R)) rfl (fun _ => ?_) (fun hn => absurd (by decide) hn)
        refine az_E.sn 1 (pc' := 74) (L' := [.retAddr 0, .retAddr 0, .int v2, .retAddr 0, .int v4, .int v5, .ref 67, .ref 63]) (S' := [.int (-12 : Int32)]) (σ' := (97, I, J, R)) rfl ?_
        have h := Option.some.inj h
        subst h
        exact az_E.ret (v := some (.int (-12 : Int32))) (σ' := (97, I, J, R)) rfl hQ
      · rw [if_neg hc_1078] at h
        refine az_E.sn 2 (pc' := 13) (L' := [.ref 67]) (S' := [.int (1 : Int32)]) (σ' := (97, I, J, R)) rfl ?_
        refine az_E.ret (v := some (.int (1 : Int32))) (σ' := (97, I, J, R)) rfl ?_
        show az_E az_F ex 2 128 56 [.retAddr 0, .retAddr 0, .int v2, .retAddr 0, .int v4, .int v5, .ref 67, .ref 63] [.int (1 : Int32)] (97, I, J, R) _
        refine az_E.br (c := (1 : Int32) = 0) (tt := 72) (ff := 59) (L' := [.retAddr 0, .retAddr 0, .int v2, .retAddr 0, .int v4, .int v5, .ref 67, .ref 63]) (S' := []) (σ' := (97, I, J, R)) rfl (fun hn => absurd hn (by decide)) (fun _ => ?_)
        refine az_E.sn 3 (pc' := 66) (L' := [.retAddr 0, .retAddr 0, .int v2, .retAddr 0, .int v4, .int v5, .ref 67, .ref 63]) (S' := [.int (I 67 1), .ref 63]) (σ' := (97, I, J, R)) rfl ?_
        refine az_E.call (d := 1) (k' := 56) (vs := [.ref 63, .int (I 67 1)]) (pc' := 69) (S' := []) rfl ?_ (fun _ _ hq => hq)
        show az_E az_F ex 1 56 0 [.ref 63, .int (I 67 1)] [] (97, I, J, R) _
        refine az_E.sn 1 (pc' := 1) (L' := [.ref 63, .int (I 67 1)]) (S' := [.ref 63]) (σ' := (97, I, J, R)) rfl ?_
        refine az_E.call (d := 0) (k' := 55) (vs := [.ref 63]) (pc' := 4) (S' := []) rfl ?_ (fun _ _ hq => hq)
        show az_E az_F ex 0 55 0 [.ref 63] [] (97, I, J, R) _
        refine az_E.sn 3 (pc' := 5) (L' := [.ref 63]) (S' := [.int (-1 : Int32), .int (I 63 1)]) (σ' := (97, I, J, R)) rfl ?_
        refine az_E.br (c := (I 63 1) = (-1 : Int32)) (tt := 12) (ff := 8) (L' := [.ref 63]) (S' := []) (σ' := (97, I, J, R)) rfl (fun hc_1079 => ?_) (fun hc_1079 => ?_)
        · rw [if_pos hc_1079] at h
          refine az_E.sn 1 (pc' := 13) (L' := [.ref 63]) (S' := [.int (0 : Int32)]) (σ' := (97, I, J, R)) rfl ?_
          refine az_E.ret (v := some (.int (0 : Int32))) (σ' := (97, I, J, R)) rfl ?_
          show az_E az_F ex 1 56 4 [.ref 63, .int (I 67 1)] [.int (0 : Int32)] (97, I, J, R) _
          refine az_E.br (c := (0 : Int32) = 0) (tt := 19) (ff := 7) (L' := [.ref 63, .int (I 67 1)]) (S' := []) (σ' := (97, I, J, R)) rfl (fun _ => ?_) (fun hn => absurd (by decide) hn)
          refine az_E.sn 1 (pc' := 20) (L' := [.ref 63, .int (I 67 1)]) (S' := [.int (0 : Int32)]) (σ' := (97, I, J, R)) rfl ?_
          refine az_E.ret (v := some (.int (0 : Int32))) (σ' := (97, I, J, R)) rfl ?_
          show az_E az_F ex 2 128 69 [.retAddr 0, .retAddr 0, .int v2, .retAddr 0, .int v4, .int v5, .ref 67, .ref 63] [.int (0 : Int32)] (97, I, J, R) _
          refine az_E.br (c := (0 : Int32) = 0) (tt := 72) (ff := 75) (L' := [.retAddr 0, .retAddr 0, .int v2, .retAddr 0, .int v4, .int v5, .ref 67, .ref 63]) (S' := []) (σ' := (97, I, J, R)) rfl (fun _ => ?_) (fun hn => absurd (by decide) hn)
          refine az_E.sn 1 (pc' := 74) (L' := [.retAddr 0, .retAddr 0, .int v2, .retAddr 0, .int v4, .int v5, .ref 67, .ref 63]) (S' := [.int (-12 : Int32)]) (σ' := (97, I, J, R)) rfl ?_
          have h := Option.some.inj h
          subst h
          exact az_E.ret (v := some (.int (-12 : Int32))) (σ' := (97, I, J, R)) rfl hQ
        · rw [if_neg hc_1079] at h
          refine az_E.sn 2 (pc' := 13) (L' := [.ref 63]) (S' := [.int (1 : Int32)]) (σ' := (97, I, J, R)) rfl ?_
          refine az_E.ret (v := some (.int (1 : Int32))) (σ' := (97, I, J, R)) rfl ?_
          show az_E az_F ex 1 56 4 [.ref 63, .int (I 67 1)] [.int (1 : Int32)] (97, I, J, R) _
          refine az_E.br (c := (1 : Int32) = 0) (tt := 19) (ff := 7) (L' := [.ref 63, .int (I 67 1)]) (S' := []) (σ' := (97, I, J, R)) rfl (fun hn => absurd hn (by decide)) (fun _ => ?_)
          refine az_E.sn 3 (pc' := 12) (L' := [.ref 63, .int (I 67 1)]) (S' := [.int (I 67 1), .int (I 63 1)]) (σ' := (97, I, J, R)) rfl ?_
          refine az_E.br (c := (I 63 1) = (I 67 1)) (tt := 15) (ff := 19) (L' := [.ref 63, .int (I 67 1)]) (S' := []) (σ' := (97, I, J, R)) rfl (fun hc_1080 => ?_) (fun hc_1080 => ?_)
          · rw [if_pos hc_1080] at h
            refine az_E.sn 2 (pc' := 20) (L' := [.ref 63, .int (I 67 1)]) (S' := [.int (1 : Int32)]) (σ' := (97, I, J, R)) rfl ?_
            refine az_E.ret (v := some (.int (1 : Int32))) (σ' := (97, I, J, R)) rfl ?_
            show az_E az_F ex 2 128 69 [.retAddr 0, .retAddr 0, .int v2, .retAddr 0, .int v4, .int v5, .ref 67, .ref 63] [.int (1 : Int32)] (97, I, J, R) _
            refine az_E.br (c := (1 : Int32) = 0) (tt := 72) (ff := 75) (L' := [.retAddr 0, .retAddr 0, .int v2, .retAddr 0, .int v4, .int v5, .ref 67, .ref 63]) (S' := []) (σ' := (97, I, J, R)) rfl (fun hn => absurd hn (by decide)) (fun _ => ?_)
            refine az_E.sn 3 (pc' := 80) (L' := [.retAddr 0, .retAddr 0, .int v2, .retAddr 0, .int v4, .int v5, .ref 67, .ref 63]) (S' := [.int v5, .int v2, .ref 67]) (σ' := (97, I, J, R)) rfl ?_
            refine az_E.call (d := 1) (k' := 60) (vs := [.ref 67, .int v2, .int v5]) (pc' := 83) (S' := []) rfl ?_ (fun _ _ hq => hq)
            show az_E az_F ex 1 60 0 [.ref 67, .int v2, .int v5] [] (97, I, J, R) _
            refine az_E.sn 1 (pc' := 1) (L' := [.ref 67, .int v2, .int v5]) (S' := [.int v2]) (σ' := (97, I, J, R)) rfl ?_
            refine az_E.br (c := v2 < 0) (tt := 30) (ff := 4) (L' := [.ref 67, .int v2, .int v5]) (S' := []) (σ' := (97, I, J, R)) rfl (fun hc_1081 => ?_) (fun hc_1081 => ?_)
            · rw [if_pos hc_1081] at h
              refine az_E.sn 1 (pc' := 31) (L' := [.ref 67, .int v2, .int v5]) (S' := [.int (0 : Int32)]) (σ' := (97, I, J, R)) rfl ?_
              refine az_E.ret (v := some (.int (0 : Int32))) (σ' := (97, I, J, R)) rfl ?_
              show az_E az_F ex 2 128 83 [.retAddr 0, .retAddr 0, .int v2, .retAddr 0, .int v4, .int v5, .ref 67, .ref 63] [.int (0 : Int32)] (97, I, J, R) _
              refine az_E.br (c := (0 : Int32) = 0) (tt := 98) (ff := 86) (L' := [.retAddr 0, .retAddr 0, .int v2, .retAddr 0, .int v4, .int v5, .ref 67, .ref 63]) (S' := []) (σ' := (97, I, J, R)) rfl (fun _ => ?_) (fun hn => absurd (by decide) hn)
              refine az_E.sn 1 (pc' := 100) (L' := [.retAddr 0, .retAddr 0, .int v2, .retAddr 0, .int v4, .int v5, .ref 67, .ref 63]) (S' := [.int (-13 : Int32)]) (σ' := (97, I, J, R)) rfl ?_
              have h := Option.some.inj h
              subst h
              exact az_E.ret (v := some (.int (-13 : Int32))) (σ' := (97, I, J, R)) rfl hQ
            · rw [if_neg hc_1081] at h
              refine az_E.sn 1 (pc' := 5) (L' := [.ref 67, .int v2, .int v5]) (S' := [.int v5]) (σ' := (97, I, J, R)) rfl ?_
              refine az_E.br (c := v5 < 0) (tt := 30) (ff := 8) (L' := [.ref 67, .int v2, .int v5]) (S' := []) (σ' := (97, I, J, R)) rfl (fun hc_1082 => ?_) (fun hc_1082 => ?_)
              · rw [if_pos hc_1082] at h
                refine az_E.sn 1 (pc' := 31) (L' := [.ref 67, .int v2, .int v5]) (S' := [.int (0 : Int32)]) (σ' := (97, I, J, R)) rfl ?_
                refine az_E.ret (v := some (.int (0 : Int32))) (σ' := (97, I, J, R)) rfl ?_
                show az_E az_F ex 2 128 83 [.retAddr 0, .retAddr 0, .int v2, .retAddr 0, .int v4, .int v5, .ref 67, .ref 63] [.int (0 : Int32)] (97, I, J, R) _
                refine az_E.br (c := (0 : Int32) = 0) (tt := 98) (ff := 86) (L' := [.retAddr 0, .retAddr 0, .int v2, .retAddr 0, .int v4, .int v5, .ref 67, .ref 63]) (S' := []) (σ' := (97, I, J, R)) rfl (fun _ => ?_) (fun hn => absurd (by decide) hn)
                refine az_E.sn 1 (pc' := 100) (L' := [.retAddr 0, .retAddr 0, .int v2, .retAddr 0, .int v4, .int v5, .ref 67, .ref 63]) (S' := [.int (-13 : Int32)]) (σ' := (97, I, J, R)) rfl ?_
                have h := Option.some.inj h
                subst h
                exact az_E.ret (v := some (.int (-13 : Int32))) (σ' := (97, I, J, R)) rfl hQ
              · rw [if_neg hc_1082] at h
                refine az_E.sn 3 (pc' := 13) (L' := [.ref 67, .int v2, .int v5]) (S' := [.int (I 67 2), .int v2]) (σ' := (97, I, J, R)) rfl ?_
                refine az_E.br (c := (I 67 2) < v2) (tt := 30) (ff := 16) (L' := [.ref 67, .int v2, .int v5]) (S' := []) (σ' := (97, I, J, R)) rfl (fun hc_1083 => ?_) (fun hc_1083 => ?_)
                · rw [if_pos hc_1083] at h
                  refine az_E.sn 1 (pc' := 31) (L' := [.ref 67, .int v2, .int v5]) (S' := [.int (0 : Int32)]) (σ' := (97, I, J, R)) rfl ?_
                  refine az_E.ret (v := some (.int (0 : Int32))) (σ' := (97, I, J, R)) rfl ?_
                  show az_E az_F ex 2 128 83 [.retAddr 0, .retAddr 0, .int v2, .retAddr 0, .int v4, .int v5, .ref 67, .ref 63] [.int (0 : Int32)] (97, I, J, R) _
                  refine az_E.br (c := (0 : Int32) = 0) (tt := 98) (ff := 86) (L' := [.retAddr 0, .retAddr 0, .int v2, .retAddr 0, .int v4, .int v5, .ref 67, .ref 63]) (S' := []) (σ' := (97, I, J, R)) rfl (fun _ => ?_) (fun hn => absurd (by decide) hn)
                  refine az_E.sn 1 (pc' := 100) (L' := [.retAddr 0, .retAddr 0, .int v2, .retAddr 0, .int v4, .int v5, .ref 67, .ref 63]) (S' := [.int (-13 : Int32)]) (σ' := (97, I, J, R)) rfl ?_
                  have h := Option.some.inj h
                  subst h
                  exact az_E.ret (v := some (.int (-13 : Int32))) (σ' := (97, I, J, R)) rfl hQ
                · rw [if_neg hc_1083] at h
                  refine az_E.sn 5 (pc' := 23) (L' := [.ref 67, .int v2, .int v5]) (S' := [.int ((I 67 2) - v2), .int v5]) (σ' := (97, I, J, R)) rfl ?_
                  refine az_E.br (c := ((I 67 2) - v2) < v5) (tt := 30) (ff := 26) (L' := [.ref 67, .int v2, .int v5]) (S' := []) (σ' := (97, I, J, R)) rfl (fun hc_1084 => ?_) (fun hc_1084 => ?_)
                  · rw [if_pos hc_1084] at h
                    refine az_E.sn 1 (pc' := 31) (L' := [.ref 67, .int v2, .int v5]) (S' := [.int (0 : Int32)]) (σ' := (97, I, J, R)) rfl ?_
                    refine az_E.ret (v := some (.int (0 : Int32))) (σ' := (97, I, J, R)) rfl ?_
                    show az_E az_F ex 2 128 83 [.retAddr 0, .retAddr 0, .int v2, .retAddr 0, .int v4, .int v5, .ref 67, .ref 63] [.int (0 : Int32)] (97, I, J, R) _
                    refine az_E.br (c := (0 : Int32) = 0) (tt := 98) (ff := 86) (L' := [.retAddr 0, .retAddr 0, .int v2, .retAddr 0, .int v4, .int v5, .ref 67, .ref 63]) (S' := []) (σ' := (97, I, J, R)) rfl (fun _ => ?_) (fun hn => absurd (by decide) hn)
                    refine az_E.sn 1 (pc' := 100) (L' := [.retAddr 0, .retAddr 0, .int v2, .retAddr 0, .int v4, .int v5, .ref 67, .ref 63]) (S' := [.int (-13 : Int32)]) (σ' := (97, I, J, R)) rfl ?_
                    have h := Option.some.inj h
                    subst h
                    exact az_E.ret (v := some (.int (-13 : Int32))) (σ' := (97, I, J, R)) rfl hQ
                  · rw [if_neg hc_1084] at h
                    refine az_E.sn 2 (pc' := 31) (L' := [.ref 67, .int v2, .int v5]) (S' := [.int (1 : Int32)]) (σ' := (97, I, J, R)) rfl ?_
                    refine az_E.ret (v := some (.int (1 : Int32))) (σ' := (97, I, J, R)) rfl ?_
                    show az_E az_F ex 2 128 83 [.retAddr 0, .retAddr 0, .int v2, .retAddr 0, .int v4, .int v5, .ref 67, .ref 63] [.int (1 : Int32)] (97, I, J, R) _
                    refine az_E.br (c := (1 : Int32) = 0) (tt := 98) (ff := 86) (L' := [.retAddr 0, .retAddr 0, .int v2, .retAddr 0, .int v4, .int v5, .ref 67, .ref 63]) (S' := []) (σ' := (97, I, J, R)) rfl (fun hn => absurd hn (by decide)) (fun _ => ?_)
                    refine az_E.sn 3 (pc' := 92) (L' := [.retAddr 0, .retAddr 0, .int v2, .retAddr 0, .int v4, .int v5, .ref 67, .ref 63]) (S' := [.int v5, .int v4, .ref 63]) (σ' := (97, I, J, R)) rfl ?_
                    refine az_E.call (d := 1) (k' := 60) (vs := [.ref 63, .int v4, .int v5]) (pc' := 95) (S' := []) rfl ?_ (fun _ _ hq => hq)
                    show az_E az_F ex 1 60 0 [.ref 63, .int v4, .int v5] [] (97, I, J, R) _
                    refine az_E.sn 1 (pc' := 1) (L' := [.ref 63, .int v4, .int v5]) (S' := [.int v4]) (σ' := (97, I, J, R)) rfl ?_
                    refine az_E.br (c := v4 < 0) (tt := 30) (ff := 4) (L' := [.ref 63, .int v4, .int v5]) (S' := []) (σ' := (97, I, J, R)) rfl (fun hc_1085 => ?_) (fun hc_1085 => ?_)
                    · rw [if_pos hc_1085] at h
                      refine az_E.sn 1 (pc' := 31) (L' := [.ref 63, .int v4, .int v5]) (S' := [.int (0 : Int32)]) (σ' := (97, I, J, R)) rfl ?_
                      refine az_E.ret (v := some (.int (0 : Int32))) (σ' := (97, I, J, R)) rfl ?_
                      show az_E az_F ex 2 128 95 [.retAddr 0, .retAddr 0, .int v2, .retAddr 0, .int v4, .int v5, .ref 67, .ref 63] [.int (0 : Int32)] (97, I, J, R) _
                      refine az_E.br (c := (0 : Int32) = 0) (tt := 98) (ff := 101) (L' := [.retAddr 0, .retAddr 0, .int v2, .retAddr 0, .int v4, .int v5, .ref 67, .ref 63]) (S' := []) (σ' := (97, I, J, R)) rfl (fun _ => ?_) (fun hn => absurd (by decide) hn)
                      refine az_E.sn 1 (pc' := 100) (L' := [.retAddr 0, .retAddr 0, .int v2, .retAddr 0, .int v4, .int v5, .ref 67, .ref 63]) (S' := [.int (-13 : Int32)]) (σ' := (97, I, J, R)) rfl ?_
                      have h := Option.some.inj h
                      subst h
                      exact az_E.ret (v := some (.int (-13 : Int32))) (σ' := (97, I, J, R)) rfl hQ
                    · rw [if_neg hc_1085] at h
                      refine az_E.sn 1 (pc' := 5) (L' := [.ref 63, .int v4, .int v5]) (S' := [.int v5]) (σ' := (97, I, J, R)) rfl ?_
                      refine az_E.br (c := v5 < 0) (tt := 30) (ff := 8) (L' := [.ref 63, .int v4, .int v5]) (S' := []) (σ' := (97, I, J, R)) rfl (fun hc_1086 => ?_) (fun hc_1086 => ?_)
                      · rw [if_pos hc_1086] at h
                        refine az_E.sn 1 (pc' := 31) (L' := [.ref 63, .int v4, .int v5]) (S' := [.int (0 : Int32)]) (σ' := (97, I, J, R)) rfl ?_
                        refine az_E.ret (v := some (.int (0 : Int32))) (σ' := (97, I, J, R)) rfl ?_
                        show az_E az_F ex 2 128 95 [.retAddr 0, .retAddr 0, .int v2, .retAddr 0, .int v4, .int v5, .ref 67, .ref 63] [.int (0 : Int32)] (97, I, J, R) _
                        refine az_E.br (c := (0 : Int32) = 0) (tt := 98) (ff := 101) (L' := [.retAddr 0, .retAddr 0, .int v2, .retAddr 0, .int v4, .int v5, .ref 67, .ref 63]) (S' := []) (σ' := (97, I, J, R)) rfl (fun _ => ?_) (fun hn => absurd (by decide) hn)
                        refine az_E.sn 1 (pc' := 100) (L' := [.retAddr 0, .retAddr 0, .int v2, .retAddr 0, .int v4, .int v5, .ref 67, .ref 63]) (S' := [.int (-13 : Int32)]) (σ' := (97, I, J, R)) rfl ?_
                        have h := Option.some.inj h
                        subst h
                        exact az_E.ret (v := some (.int (-13 : Int32))) (σ' := (97, I, J, R)) rfl hQ
                      · rw [if_neg hc_1086] at h
                        refine az_E.sn 3 (pc' := 13) (L' := [.ref 63, .int v4, .int v5]) (S' := [.int (I 63 2), .int v4]) (σ' := (97, I, J, R)) rfl ?_
                        refine az_E.br (c := (I 63 2) < v4) (tt := 30) (ff := 16) (L' := [.ref 63, .int v4, .int v5]) (S' := []) (σ' := (97, I, J, R)) rfl (fun hc_1087 => ?_) (fun hc_1087 => ?_)
                        · rw [if_pos hc_1087] at h
                          refine az_E.sn 1 (pc' := 31) (L' := [.ref 63, .int v4, .int v5]) (S' := [.int (0 : Int32)]) (σ' := (97, I, J, R)) rfl ?_
                          refine az_E.ret (v := some (.int (0 : Int32))) (σ' := (97, I, J, R)) rfl ?_
                          show az_E az_F ex 2 128 95 [.retAddr 0, .retAddr 0, .int v2, .retAddr 0, .int v4, .int v5, .ref 67, .ref 63] [.int (0 : Int32)] (97, I, J, R) _
                          refine az_E.br (c := (0 : Int32) = 0) (tt := 98) (ff := 101) (L' := [.retAddr 0, .retAddr 0, .int v2, .retAddr 0, .int v4, .int v5, .ref 67, .ref 63]) (S' := []) (σ' := (97, I, J, R)) rfl (fun _ => ?_) (fun hn => absurd (by decide) hn)
                          refine az_E.sn 1 (pc' := 100) (L' := [.retAddr 0, .retAddr 0, .int v2, .retAddr 0, .int v4, .int v5, .ref 67, .ref 63]) (S' := [.int (-13 : Int32)]) (σ' := (97, I, J, R)) rfl ?_
                          have h := Option.some.inj h
                          subst h
                          exact az_E.ret (v := some (.int (-13 : Int32))) (σ' := (97, I, J, R)) rfl hQ
                        · rw [if_neg hc_1087] at h
                          refine az_E.sn 5 (pc' := 23) (L' := [.ref 63, .int v4, .int v5]) (S' := [.int ((I 63 2) - v4), .int v5]) (σ' := (97, I, J, R)) rfl ?_
                          refine az_E.br (c := ((I 63 2) - v4) < v5) (tt := 30) (ff := 26) (L' := [.ref 63, .int v4, .int v5]) (S' := []) (σ' := (97, I, J, R)) rfl (fun hc_1088 => ?_) (fun hc_1088 => ?_)
                          · rw [if_pos hc_1088] at h
                            refine az_E.sn 1 (pc' := 31) (L' := [.ref 63, .int v4, .int v5]) (S' := [.int (0 : Int32)]) (σ' := (97, I, J, R)) rfl ?_
                            refine az_E.ret (v := some (.int (0 : Int32))) (σ' := (97, I, J, R)) rfl ?_
                            show az_E az_F ex 2 128 95 [.retAddr 0, .retAddr 0, .int v2, .retAddr 0, .int v4, .int v5, .ref 67, .ref 63] [.int (0 : Int32)] (97, I, J, R) _
                            refine az_E.br (c := (0 : Int32) = 0) (tt := 98) (ff := 101) (L' := [.retAddr 0, .retAddr 0, .int v2, .retAddr 0, .int v4, .int v5, .ref 67, .ref 63]) (S' := []) (σ' := (97, I, J, R)) rfl (fun _ => ?_) (fun hn => absurd (by decide) hn)
                            refine az_E.sn 1 (pc' := 100) (L' := [.retAddr 0, .retAddr 0, .int v2, .retAddr 0, .int v4, .int v5, .ref 67, .ref 63]) (S' := [.int (-13 : Int32)]) (σ' := (97, I, J, R)) rfl ?_
                            have h := Option.some.inj h
                            subst h
                            exact az_E.ret (v := some (.int (-13 : Int32))) (σ' := (97, I, J, R)) rfl hQ
                          · rw [if_neg hc_1088] at h
                            refine az_E.sn 2 (pc' := 31) (L' := [.ref 63, .int v4, .int v5]) (S' := [.int (1 : Int32)]) (σ' := (97, I, J, R)) rfl ?_
                            refine az_E.ret (v := some (.int (1 : Int32))) (σ' := (97, I, J, R)) rfl ?_
                            show az_E az_F ex 2 128 95 [.retAddr 0, .retAddr 0, .int v2, .retAddr 0, .int v4, .int v5, .ref 67, .ref 63] [.int (1 : Int32)] (97, I, J, R) _
                            refine az_E.br (c := (1 : Int32) = 0) (tt := 98) (ff := 101) (L' := [.retAddr 0, .retAddr 0, .int v2, .retAddr 0, .int v4, .int v5, .ref 67, .ref 63]) (S' := []) (σ' := (97, I, J, R)) rfl (fun hn => absurd hn (by decide)) (fun _ => ?_)
                            refine az_E.sn 7 (pc' := 116) (L' := [.retAddr 0, .retAddr 0, .int v2, .retAddr 0, .int v4, .int v5, .ref 67, .ref 63]) (S' := [.int v5, .int v4, .ref (63 + 1), .int v2, .ref (67 + 1)]) (σ' := (97, I, J, R)) rfl ?_
                            by_cases hc_1089 : v2 < 0 ∨ v4 < 0 ∨ v5 < 0 ∨ 60 < v2.toNatClampNeg + v5.toNatClampNeg ∨ 60 < v4.toNatClampNeg + v5.toNatClampNeg
                            · rw [if_pos hc_1089] at h; cases h
                            · rw [if_neg hc_1089] at h
                              refine az_E.o (o := az_cp az_F (97, I, J, R) (67 + 1) v2 (63 + 1) v4 v5) (pc' := 119) (L' := [.retAddr 0, .retAddr 0, .int v2, .retAddr 0, .int v4, .int v5, .ref 67, .ref 63]) (S' := []) (x := (97, I, (az_ur J (63 + 1) (va_cpy (J (67 + 1)) (J (63 + 1)) v2.toNatClampNeg v4.toNatClampNeg v5.toNatClampNeg)), R)) rfl (if_neg hc_1089) ?_
                              refine az_E.sn 1 (pc' := 121) (L' := [.retAddr 0, .retAddr 0, .int v2, .retAddr 0, .int v4, .int v5, .ref 67, .ref 63]) (S' := [.int v5]) (σ' := (97, I, (az_ur J (63 + 1) (va_cpy (J (67 + 1)) (J (63 + 1)) v2.toNatClampNeg v4.toNatClampNeg v5.toNatClampNeg)), R)) rfl ?_
                              have h := Option.some.inj h
                              subst h
                              exact az_E.ret (v := some (.int v5)) (σ' := (97, I, (az_ur J (63 + 1) (va_cpy (J (67 + 1)) (J (63 + 1)) v2.toNatClampNeg v4.toNatClampNeg v5.toNatClampNeg)), R)) rfl hQ
          · rw [if_neg hc_1080] at h
            refine az_E.sn 1 (pc' := 20) (L' := [.ref 63, .int (I 67 1)]) (S' := [.int (0 : Int32)]) (σ' := (97, I, J, R)) rfl ?_
            refine az_E.ret (v := some (.int (0 : Int32))) (σ' := (97, I, J, R)) rfl ?_
            show az_E az_F ex 2 128 69 [.retAddr 0, .retAddr 0, .int v2, .retAddr 0, .int v4, .int v5, .ref 67, .ref 63] [.int (0 : Int32)] (97, I, J, R) _
            refine az_E.br (c := (0 : Int32) = 0) (tt := 72) (ff := 75) (L' := [.retAddr 0, .retAddr 0, .int v2, .retAddr 0, .int v4, .int v5, .ref 67, .ref 63]) (S' := []) (σ' := (97, I, J, R)) rfl (fun _ => ?_) (fun hn => absurd (by decide) hn)
            refine az_E.sn 1 (pc' := 74) (L' := [.retAddr 0, .retAddr 0, .int v2, .retAddr 0, .int v4, .int v5, .ref 67, .ref 63]) (S' := [.int (-12 : Int32)]) (σ' := (97, I, J, R)) rfl ?_
            have h := Option.some.inj h
            subst h
            exact az_E.ret (v := some (.int (-12 : Int32))) (σ' := (97, I, J, R)) rfl hQ
set_option maxRecDepth 100000 in
set_option maxHeartbeats 4000000 in
theorem re_X_shift_30_67_65 {ex : az_X} {I : Nat → Nat → Int32} {J : Nat → Nat → Int64} {R : Nat → Nat → Option Nat} {v2 : Int32} {v4 : Int32} {v5 : Int32} {x : Int32 × (Nat → Nat → Int64)} (h : rs_X_shift_30 67 65 I J v2 v4 v5 = some x) {Q : Option Value → az_S → Prop} (hQ : Q (some (.int x.1)) (97, I, x.2, R)) : az_E az_F ex 2 128 30 [.retAddr 0, .retAddr 0, .int v2, .retAddr 0, .int v4, .int v5, .ref 67, .retAddr 0] [.ref 65] (97, I, J, R) Q := by
  unfold rs_X_shift_30 at h
  refine az_E.sn 2 (pc' := 34) (L' := [.retAddr 0, .retAddr 0, .int v2, .retAddr 0, .int v4, .int v5, .ref 67, .ref 65]) (S' := [.ref 67]) (σ' := (97, I, J, R)) rfl ?_
  refine az_E.call (d := 1) (k' := 54) (vs := [.ref 67]) (pc' := 37) (S' := []) rfl ?_ (fun _ _ hq => hq)
  show az_E az_F ex 1 54 0 [.ref 67] [] (97, I, J, R) _
  refine az_E.sn 3 (pc' := 5) (L' := [.ref 67]) (S' := [.int (-1 : Int32), .int (I 67 0)]) (σ' := (97, I, J, R)) rfl ?_
  refine az_E.br (c := (I 67 0) = (-1 : Int32)) (tt := 8) (ff := 20) (L' := [.ref 67]) (S' := []) (σ' := (97, I, J, R)) rfl (fun hc_1090 => ?_) (fun hc_1090 => ?_)
  · rw [if_pos hc_1090] at h
    refine az_E.sn 3 (pc' := 13) (L' := [.ref 67]) (S' := [.int (-1 : Int32), .int (I 67 1)]) (σ' := (97, I, J, R)) rfl ?_
    refine az_E.br (c := (I 67 1) = (-1 : Int32)) (tt := 16) (ff := 20) (L' := [.ref 67]) (S' := []) (σ' := (97, I, J, R)) rfl (fun hc_1091 => ?_) (fun hc_1091 => ?_)
    · rw [if_pos hc_1091] at h
      refine az_E.sn 2 (pc' := 21) (L' := [.ref 67]) (S' := [.int (1 : Int32)]) (σ' := (97, I, J, R)) rfl ?_
      refine az_E.ret (v := some (.int (1 : Int32))) (σ' := (97, I, J, R)) rfl ?_
      show az_E az_F ex 2 128 37 [.retAddr 0, .retAddr 0, .int v2, .retAddr 0, .int v4, .int v5, .ref 67, .ref 65] [.int (1 : Int32)] (97, I, J, R) _
      refine az_E.br (c := (1 : Int32) = 0) (tt := 40) (ff := 48) (L' := [.retAddr 0, .retAddr 0, .int v2, .retAddr 0, .int v4, .int v5, .ref 67, .ref 65]) (S' := []) (σ' := (97, I, J, R)) rfl (fun hn => absurd hn (by decide)) (fun _ => ?_)
      refine az_E.sn 1 (pc' := 50) (L' := [.retAddr 0, .retAddr 0, .int v2, .retAddr 0, .int v4, .int v5, .ref 67, .ref 65]) (S' := [.int (-11 : Int32)]) (σ' := (97, I, J, R)) rfl ?_
      have h := Option.some.inj h
      subst h
      exact az_E.ret (v := some (.int (-11 : Int32))) (σ' := (97, I, J, R)) rfl hQ
    · rw [if_neg hc_1091] at h
      refine az_E.sn 1 (pc' := 21) (L' := [.ref 67]) (S' := [.int (0 : Int32)]) (σ' := (97, I, J, R)) rfl ?_
      refine az_E.ret (v := some (.int (0 : Int32))) (σ' := (97, I, J, R)) rfl ?_
      show az_E az_F ex 2 128 37 [.retAddr 0, .retAddr 0, .int v2, .retAddr 0, .int v4, .int v5, .ref 67, .ref 65] [.int (0 : Int32)] (97, I, J, R) _
      refine az_E.br (c := (0 : Int32) = 0) (tt := 40) (ff := 48) (L' := [.retAddr 0, .retAddr 0, .int v2, .retAddr 0, .int v4, .int v5, .ref 67, .ref 65]) (S' := []) (σ' := (97, I, J, R)) rfl (fun _ => ?_) (fun hn => absurd (by decide) hn)
      refine az_E.sn 1 (pc' := 42) (L' := [.retAddr 0, .retAddr 0, .int v2, .retAddr 0, .int v4, .int v5, .ref 67, .ref 65]) (S' := [.ref 65]) (σ' := (97, I, J, R)) rfl ?_
      refine az_E.call (d := 1) (k' := 54) (vs := [.ref 65]) (pc' := 45) (S' := []) rfl ?_ (fun _ _ hq => hq)
      show az_E az_F ex 1 54 0 [.ref 65] [] (97, I, J, R) _
      refine az_E.sn 3 (pc' := 5) (L' := [.ref 65]) (S' := [.int (-1 : Int32), .int (I 65 0)]) (σ' := (97, I, J, R)) rfl ?_
      refine az_E.br (c := (I 65 0) = (-1 : Int32)) (tt := 8) (ff := 20) (L' := [.ref 65]) (S' := []) (σ' := (97, I, J, R)) rfl (fun hc_1092 => ?_) (fun hc_1092 => ?_)
      · rw [if_pos hc_1092] at h
        refine az_E.sn 3 (pc' := 13) (L' := [.ref 65]) (S' := [.int (-1 : Int32), .int (I 65 1)]) (σ' := (97, I, J, R)) rfl ?_
        refine az_E.br (c := (I 65 1) = (-1 : Int32)) (tt := 16) (ff := 20) (L' := [.ref 65]) (S' := []) (σ' := (97, I, J, R)) rfl (fun hc_1093 => ?_) (fun hc_1093 => ?_)
        · rw [if_pos hc_1093] at h
          refine az_E.sn 2 (pc' := 21) (L' := [.ref 65]) (S' := [.int (1 : Int32)]) (σ' := (97, I, J, R)) rfl ?_
          refine az_E.ret (v := some (.int (1 : Int32))) (σ' := (97, I, J, R)) rfl ?_
          show az_E az_F ex 2 128 45 [.retAddr 0, .retAddr 0, .int v2, .retAddr 0, .int v4, .int v5, .ref 67, .ref 65] [.int (1 : Int32)] (97, I, J, R) _
          refine az_E.br (c := (1 : Int32) = 0) (tt := 51) (ff := 48) (L' := [.retAddr 0, .retAddr 0, .int v2, .retAddr 0, .int v4, .int v5, .ref 67, .ref 65]) (S' := []) (σ' := (97, I, J, R)) rfl (fun hn => absurd hn (by decide)) (fun _ => ?_)
          refine az_E.sn 1 (pc' := 50) (L' := [.retAddr 0, .retAddr 0, .int v2, .retAddr 0, .int v4, .int v5, .ref 67, .ref 65]) (S' := [.int (-11 : Int32)]) (σ' := (97, I, J, R)) rfl ?_
          have h := Option.some.inj h
          subst h
          exact az_E.ret (v := some (.int (-11 : Int32))) (σ' := (97, I, J, R)) rfl hQ
        · rw [if_neg hc_1093] at h
          refine az_E.sn 1 (pc' := 21) (L' := [.ref 65]) (S' := [.int (0 : Int32)]) (σ' := (97, I, J, R)) rfl ?_
          refine az_E.ret (v := some (.int (0 : Int32))) (σ' := (97, I, J, R)) rfl ?_
          show az_E az_F ex 2 128 45 [.retAddr 0, .retAddr 0, .int v2, .retAddr 0, .int v4, .int v5, .ref 67, .ref 65] [.int (0 : Int32)] (97, I, J, R) _
          refine az_E.br (c := (0 : Int32) = 0) (tt := 51) (ff := 48) (L' := [.retAddr 0, .retAddr 0, .int v2, .retAddr 0, .int v4, .int v5, .ref 67, .ref 65]) (S' := []) (σ' := (97, I, J, R)) rfl (fun _ => ?_) (fun hn => absurd (by decide) hn)
          refine az_E.sn 1 (pc' := 53) (L' := [.retAddr 0, .retAddr 0, .int v2, .retAddr 0, .int v4, .int v5, .ref 67, .ref 65]) (S' := [.ref 67]) (σ' := (97, I, J, R)) rfl ?_
          refine az_E.call (d := 1) (k' := 55) (vs := [.ref 67]) (pc' := 56) (S' := []) rfl ?_ (fun _ _ hq => hq)
          show az_E az_F ex 1 55 0 [.ref 67] [] (97, I, J, R) _
          refine az_E.sn 3 (pc' := 5) (L' := [.ref 67]) (S' := [.int (-1 : Int32), .int (I 67 1)]) (σ' := (97, I, J, R)) rfl ?_
          refine az_E.br (c := (I 67 1) = (-1 : Int32)) (tt := 12) (ff := 8) (L' := [.ref 67]) (S' := []) (σ' := (97, I, J, R)) rfl (fun hc_1094 => ?_) (fun hc_1094 => ?_)
          · rw [if_pos hc_1094] at h
            refine az_E.sn 1 (pc' := 13) (L' := [.ref 67]) (S' := [.int (0 : Int32)]) (σ' := (97, I, J, R)) rfl ?_
            refine az_E.ret (v := some (.int (0 : Int32))) (σ' := (97, I, J, R)) rfl ?_
            show az_E az_F ex 2 128 56 [.retAddr 0, .retAddr 0, .int v2, .retAddr 0, .int v4, .int v5, .ref 67, .ref 65] [.int (0 : Int32)] (97, I, J, R) _
            refine az_E.br (c := (0 : Int32) = 0) (tt := 72) (ff := 59) (L' := [.retAddr 0, .retAddr 0, .int v2, .retAddr 0, .int v4, .int v5, .ref 67, .ref 65]) (S' := []) (σ' := (97, I, J, R)) rfl (fun _ => ?_) (fun hn => absurd (by decide) hn)
            refine az_E.sn 1 (pc' := 74) (L' := [.retAddr 0, .retAddr 0, .int v2, .retAddr 0, .int v4, .int v5, .ref 67, .ref 65]) (S' := [.int (-12 : Int32)]) (σ' := (97, I, J, R)) rfl ?_
            have h := Option.some.inj h
            subst h
            exact az_E.ret (v := some (.int (-12 : Int32))) (σ' := (97, I, J, R)) rfl hQ
          · rw [if_neg hc_1094] at h
            refine az_E.sn 2 (pc' := 13) (L' := [.ref 67]) (S' := [.int (1 : Int32)]) (σ' := (97, I, J, R)) rfl ?_
            refine az_E.ret (v := some (.int (1 : Int32))) (σ' := (97, I, J, R)) rfl ?_
            show az_E az_F ex 2 128 56 [.retAddr 0, .retAddr 0, .int v2, .retAddr 0, .int v4, .int v5, .ref 67, .ref 65] [.int (1 : Int32)] (97, I, J, R) _
            refine az_E.br (c := (1 : Int32) = 0) (tt := 72) (ff := 59) (L' := [.retAddr 0, .retAddr 0, .int v2, .retAddr 0, .int v4, .int v5, .ref 67, .ref 65]) (S' := []) (σ' := (97, I, J, R)) rfl (fun hn => absurd hn (by decide)) (fun _ => ?_)
            refine az_E.sn 3 (pc' := 66) (L' := [.retAddr 0, .retAddr 0, .int v2, .retAddr 0, .int v4, .int v5, .ref 67, .ref 65]) (S' := [.int (I 67 1), .ref 65]) (σ' := (97, I, J, R)) rfl ?_
            refine az_E.call (d := 1) (k' := 56) (vs := [.ref 65, .int (I 67 1)]) (pc' := 69) (S' := []) rfl ?_ (fun _ _ hq => hq)
            show az_E az_F ex 1 56 0 [.ref 65, .int (I 67 1)] [] (97, I, J, R) _
            refine az_E.sn 1 (pc' := 1) (L' := [.ref 65, .int (I 67 1)]) (S' := [.ref 65]) (σ' := (97, I, J, R)) rfl ?_
            refine az_E.call (d := 0) (k' := 55) (vs := [.ref 65]) (pc' := 4) (S' := []) rfl ?_ (fun _ _ hq => hq)
            show az_E az_F ex 0 55 0 [.ref 65] [] (97, I, J, R) _
            refine az_E.sn 3 (pc' := 5) (L' := [.ref 65]) (S' := [.int (-1 : Int32), .int (I 65 1)]) (σ' := (97, I, J, R)) rfl ?_
            refine az_E.br (c := (I 65 1) = (-1 : Int32)) (tt := 12) (ff := 8) (L' := [.ref 65]) (S' := []) (σ' := (97, I, J, R)) rfl (fun hc_1095 => ?_) (fun hc_1095 => ?_)
            · rw [if_pos hc_1095] at h
              refine az_E.sn 1 (pc' := 13) (L' := [.ref 65]) (S' := [.int (0 : Int32)]) (σ' := (97, I, J, R)) rfl ?_
              refine az_E.ret (v := some (.int (0 : Int32))) (σ' := (97, I, J, R)) rfl ?_
              show az_E az_F ex 1 56 4 [.ref 65, .int (I 67 1)] [.int (0 : Int32)] (97, I, J, R) _
              refine az_E.br (c := (0 : Int32) = 0) (tt := 19) (ff := 7) (L' := [.ref 65, .int (I 67 1)]) (S' := []) (σ' := (97, I, J, R)) rfl (fun _ => ?_) (fun hn => absurd (by decide) hn)
              refine az_E.sn 1 (pc' := 20) (L' := [.ref 65, .int (I 67 1)]) (S' := [.int (0 : Int32)]) (σ' := (97, I, J, R)) rfl ?_
              refine az_E.ret (v := some (.int (0 : Int32))) (σ' := (97, I, J, R)) rfl ?_
              show az_E az_F ex 2 128 69 [.retAddr 0, .retAddr 0, .int v2, .retAddr 0, .int v4, .int v5, .ref 67, .ref 65] [.int (0 : Int32)] (97, I, J, R) _
              refine az_E.br (c := (0 : Int32) = 0) (tt := 72) (ff := 75) (L' := [.retAddr 0, .retAddr 0, .int v2, .retAddr 0, .int v4, .int v5, .ref 67, .ref 65]) (S' := []) (σ' := (97, I, J, R)) rfl (fun _ => ?_) (fun hn => absurd (by decide) hn)
              refine az_E.sn 1 (pc' := 74) (L' := [.retAddr 0, .retAddr 0, .int v2, .retAddr 0, .int v4, .int v5, .ref 67, .ref 65]) (S' := [.int (-12 : Int32)]) (σ' := (97, I, J, R)) rfl ?_
              have h := Option.some.inj h
              subst h
              exact az_E.ret (v := some (.int (-12 : Int32))) (σ' := (97, I, J, R)) rfl hQ
            · rw [if_neg hc_1095] at h
              refine az_E.sn 2 (pc' := 13) (L' := [.ref 65]) (S' := [.int (1 : Int32)]) (σ' := (97, I, J, R)) rfl ?_
              refine az_E.ret (v := some (.int (1 : Int32))) (σ' := (97, I, J, R)) rfl ?_
              show az_E az_F ex 1 56 4 [.ref 65, .int (I 67 1)] [.int (1 : Int32)] (97, I, J, R) _
              refine az_E.br (c := (1 : Int32) = 0) (tt := 19) (ff := 7) (L' := [.ref 65, .int (I 67 1)]) (S' := []) (σ' := (97, I, J, R)) rfl (fun hn => absurd hn (by decide)) (fun _ => ?_)
              refine az_E.sn 3 (pc' := 12) (L' := [.ref 65, .int (I 67 1)]) (S' := [.int (I 67 1), .int (I 65 1)]) (σ' := (97, I, J, R)) rfl ?_
              refine az_E.br (c := (I 65 1) = (I 67 1)) (tt := 15) (ff := 19) (L' := [.ref 65, .int (I 67 1)]) (S' := []) (σ' := (97, I, J, R)) rfl (fun hc_1096 => ?_) (fun hc_1096 => ?_)
              · rw [if_pos hc_1096] at h
                refine az_E.sn 2 (pc' := 20) (L' := [.ref 65, .int (I 67 1)]) (S' := [.int (1 : Int32)]) (σ' := (97, I, J, R)) rfl ?_
                refine az_E.ret (v := some (.int (1 : Int32))) (σ' := (97, I, J, R)) rfl ?_
                show az_E az_F ex 2 128 69 [.retAddr 0, .retAddr 0, .int v2, .retAddr 0, .int v4, .int v5, .ref 67, .ref 65] [.int (1 : Int32)] (97, I, J, R) _
                refine az_E.br (c := (1 : Int32) = 0) (tt := 72) (ff := 75) (L' := [.retAddr 0, .retAddr 0, .int v2, .retAddr 0, .int v4, .int v5, .ref 67, .ref 65]) (S' := []) (σ' := (97, I, J, R)) rfl (fun hn => absurd hn (by decide)) (fun _ => ?_)
                refine az_E.sn 3 (pc' := 80) (L' := [.retAddr 0, .retAddr 0, .int v2, .retAddr 0, .int v4, .int v5, .ref 67, .ref 65]) (S' := [.int v5, .int v2, .ref 67]) (σ' := (97, I, J, R)) rfl ?_
                refine az_E.call (d := 1) (k' := 60) (vs := [.ref 67, .int v2, .int v5]) (pc' := 83) (S' := []) rfl ?_ (fun _ _ hq => hq)
                show az_E az_F ex 1 60 0 [.ref 67, .int v2, .int v5] [] (97, I, J, R) _
                refine az_E.sn 1 (pc' := 1) (L' := [.ref 67, .int v2, .int v5]) (S' := [.int v2]) (σ' := (97, I, J, R)) rfl ?_
                refine az_E.br (c := v2 < 0) (tt := 30) (ff := 4) (L' := [.ref 67, .int v2, .int v5]) (S' := []) (σ' := (97, I, J, R)) rfl (fun hc_1097 => ?_) (fun hc_1097 => ?_)
                · rw [if_pos hc_1097] at h
                  refine az_E.sn 1 (pc' := 31) (L' := [.ref 67, .int v2, .int v5]) (S' := [.int (0 : Int32)]) (σ' := (97, I, J, R)) rfl ?_
                  refine az_E.ret (v := some (.int (0 : Int32))) (σ' := (97, I, J, R)) rfl ?_
                  show az_E az_F ex 2 128 83 [.retAddr 0, .retAddr 0, .int v2, .retAddr 0, .int v4, .int v5, .ref 67, .ref 65] [.int (0 : Int32)] (97, I, J, R) _
                  refine az_E.br (c := (0 : Int32) = 0) (tt := 98) (ff := 86) (L' := [.retAddr 0, .retAddr 0, .int v2, .retAddr 0, .int v4, .int v5, .ref 67, .ref 65]) (S' := []) (σ' := (97, I, J, R)) rfl (fun _ => ?_) (fun hn => absurd (by decide) hn)
                  refine az_E.sn 1 (pc' := 100) (L' := [.retAddr 0, .retAddr 0, .int v2, .retAddr 0, .int v4, .int v5, .ref 67, .ref 65]) (S' := [.int (-13 : Int32)]) (σ' := (97, I, J, R)) rfl ?_
                  have h := Option.some.inj h
                  subst h
                  exact az_E.ret (v := some (.int (-13 : Int32))) (σ' := (97, I, J, R)) rfl hQ
                · rw [if_neg hc_1097] at h
                  refine az_E.sn 1 (pc' := 5) (L' := [.ref 67, .int v2, .int v5]) (S' := [.int v5]) (σ' := (97, I, J, R)) rfl ?_
                  refine az_E.br (c := v5 < 0) (tt := 30) (ff := 8) (L' := [.ref 67, .int v2, .int v5]) (S' := []) (σ' := (97, I, J, R)) rfl (fun hc_1098 => ?_) (fun hc_1098 => ?_)
                  · rw [if_pos hc_1098] at h
                    refine az_E.sn 1 (pc' := 31) (L' := [.ref 67, .int v2, .int v5]) (S' := [.int (0 : Int32)]) (σ' := (97, I, J, R)) rfl ?_
                    refine az_E.ret (v := some (.int (0 : Int32))) (σ' := (97, I, J, R)) rfl ?_
                    show az_E az_F ex 2 128 83 [.retAddr 0, .retAddr 0, .int v2, .retAddr 0, .int v4, .int v5, .ref 67, .ref 65] [.int (0 : Int32)] (97, I, J, R) _
                    refine az_E.br (c := (0 : Int32) = 0) (tt := 98) (ff := 86) (L' := [.retAddr 0, .retAddr 0, .int v2, .retAddr 0, .int v4, .int v5, .ref 67, .ref 65]) (S' := []) (σ' := (97, I, J, R)) rfl (fun _ => ?_) (fun hn => absurd (by decide) hn)
                    refine az_E.sn 1 (pc' := 100) (L' := [.retAddr 0, .retAddr 0, .int v2, .retAddr 0, .int v4, .int v5, .ref 67, .ref 65]) (S' := [.int (-13 : Int32)]) (σ' := (97, I, J, R)) rfl ?_
                    have h := Option.some.inj h
                    subst h
                    exact az_E.ret (v := some (.int (-13 : Int32))) (σ' := (97, I, J, R)) rfl hQ
                  · rw [if_neg hc_1098] at h
                    refine az_E.sn 3 (pc' := 13) (L' := [.ref 67, .int v2, .int v5]) (S' := [.int (I 67 2), .int v2]) (σ' := (97, I, J, R)) rfl ?_
                    refine az_E.br (c := (I 67 2) < v2) (tt := 30) (ff := 16) (L' := [.ref 67, .int v2, .int v5]) (S' := []) (σ' := (97, I, J, R)) rfl (fun hc_1099 => ?_) (fun hc_1099 => ?_)
                    · rw [if_pos hc_1099] at h
                      refine az_E.sn 1 (pc' := 31) (L' := [.ref 67, .int v2, .int v5]) (S' := [.int (0 : Int32)]) (σ' := (97, I, J, R)) rfl ?_
                      refine az_E.ret (v := some (.int (0 : Int32))) (σ' := (97, I, J, R)) rfl ?_
                      show az_E az_F ex 2 128 83 [.retAddr 0, .retAddr 0, .int v2, .retAddr 0, .int v4, .int v5, .ref 67, .ref 65] [.int (0 : Int32)] (97, I, J, R) _
                      refine az_E.br (c := (0 : Int32) = 0) (tt := 98) (ff := 86) (L' := [.retAddr 0, .retAddr 0, .int v2, .retAddr 0, .int v4, .int v5, .ref 67, .ref 65]) (S' := []) (σ' := (97, I, J, R)) rfl (fun _ => ?_) (fun hn => absurd (by decide) hn)
                      refine az_E.sn 1 (pc' := 100) (L' := [.retAddr 0, .retAddr 0, .int v2, .retAddr 0, .int v4, .int v5, .ref 67, .ref 65]) (S' := [.int (-13 : Int32)]) (σ' := (97, I, J, R)) rfl ?_
                      have h := Option.some.inj h
                      subst h
                      exact az_E.ret (v := some (.int (-13 : Int32))) (σ' := (97, I, J, R)) rfl hQ
                    · rw [if_neg hc_1099] at h
                      refine az_E.sn 5 (pc' := 23) (L' := [.ref 67, .int v2, .int v5]) (S' := [.int ((I 67 2) - v2), .int v5]) (σ' := (97, I, J, R)) rfl ?_
                      refine az_E.br (c := ((I 67 2) - v2) < v5) (tt := 30) (ff := 26) (L' := [.ref 67, .int v2, .int v5]) (S' := []) (σ' := (97, I, J, R)) rfl (fun hc_1100 => ?_) (fun hc_1100 => ?_)
                      · rw [if_pos hc_1100] at h
                        refine az_E.sn 1 (pc' := 31) (L' := [.ref 67, .int v2, .int v5]) (S' := [.int (0 : Int32)]) (σ' := (97, I, J, R)) rfl ?_
                        refine az_E.ret (v := some (.int (0 : Int32))) (σ' := (97, I, J, R)) rfl ?_
                        show az_E az_F ex 2 128 83 [.retAddr 0, .retAddr 0, .int v2, .retAddr 0, .int v4, .int v5, .ref 67, .ref 65] [.int (0 : Int32)] (97, I, J, R) _
                        refine az_E.br (c := (0 : Int32) = 0) (tt := 98) (ff := 86) (L' := [.retAddr 0, .retAddr 0, .int v2, .retAddr 0, .int v4, .int v5, .ref 67, .ref 65]) (S' := []) (σ' := (97, I, J, R)) rfl (fun _ => ?_) (fun hn => absurd (by decide) hn)
                        refine az_E.sn 1 (pc' := 100) (L' := [.retAddr 0, .retAddr 0, .int v2, .retAddr 0, .int v4, .int v5, .ref 67, .ref 65]) (S' := [.int (-13 : Int32)]) (σ' := (97, I, J, R)) rfl ?_
                        have h := Option.some.inj h
                        subst h
                        exact az_E.ret (v := some (.int (-13 : Int32))) (σ' := (97, I, J, R)) rfl hQ
                      · rw [if_neg hc_1100] at h
                        refine az_E.sn 2 (pc' := 31) (L' := [.ref 67, .int v2, .int v5]) (S' := [.int (1 : Int32)]) (σ' := (97, I, J, R)) rfl ?_
                        refine az_E.ret (v := some (.int (1 : Int32))) (σ' := (97, I, J, R)) rfl ?_
                        show az_E az_F ex 2 128 83 [.retAddr 0, .retAddr 0, .int v2, .retAddr 0, .int v4, .int v5, .ref 67, .ref 65] [.int (1 : Int32)] (97, I, J, R) _
                        refine az_E.br (c := (1 : Int32) = 0) (tt := 98) (ff := 86) (L' := [.retAddr 0, .retAddr 0, .int v2, .retAddr 0, .int v4, .int v5, .ref 67, .ref 65]) (S' := []) (σ' := (97, I, J, R)) rfl (fun hn => absurd hn (by decide)) (fun _ => ?_)
                        refine az_E.sn 3 (pc' := 92) (L' := [.retAddr 0, .retAddr 0, .int v2, .retAddr 0, .int v4, .int v5, .ref 67, .ref 65]) (S' := [.int v5, .int v4, .ref 65]) (σ' := (97, I, J, R)) rfl ?_
                        refine az_E.call (d := 1) (k' := 60) (vs := [.ref 65, .int v4, .int v5]) (pc' := 95) (S' := []) rfl ?_ (fun _ _ hq => hq)
                        show az_E az_F ex 1 60 0 [.ref 65, .int v4, .int v5] [] (97, I, J, R) _
                        refine az_E.sn 1 (pc' := 1) (L' := [.ref 65, .int v4, .int v5]) (S' := [.int v4]) (σ' := (97, I, J, R)) rfl ?_
                        refine az_E.br (c := v4 < 0) (tt := 30) (ff := 4) (L' := [.ref 65, .int v4, .int v5]) (S' := []) (σ' := (97, I, J, R)) rfl (fun hc_1101 => ?_) (fun hc_1101 => ?_)
                        · rw [if_pos hc_1101] at h
                          refine az_E.sn 1 (pc' := 31) (L' := [.ref 65, .int v4, .int v5]) (S' := [.int (0 : Int32)]) (σ' := (97, I, J, R)) rfl ?_
                          refine az_E.ret (v := some (.int (0 : Int32))) (σ' := (97, I, J, R)) rfl ?_
                          show az_E az_F ex 2 128 95 [.retAddr 0, .retAddr 0, .int v2, .retAddr 0, .int v4, .int v5, .ref 67, .ref 65] [.int (0 : Int32)] (97, I, J, R) _
                          refine az_E.br (c := (0 : Int32) = 0) (tt := 98) (ff := 101) (L' := [.retAddr 0, .retAddr 0, .int v2, .retAddr 0, .int v4, .int v5, .ref 67, .ref 65]) (S' := []) (σ' := (97, I, J, R)) rfl (fun _ => ?_) (fun hn => absurd (by decide) hn)
                          refine az_E.sn 1 (pc' := 100) (L' := [.retAddr 0, .retAddr 0, .int v2, .retAddr 0, .int v4, .int v5, .ref 67, .ref 65]) (S' := [.int (-13 : Int32)]) (σ' := (97, I, J, R)) rfl ?_
                          have h := Option.some.inj h
                          subst h
                          exact az_E.ret (v := some (.int (-13 : Int32))) (σ' := (97, I, J, R)) rfl hQ
                        · rw [if_neg hc_1101] at h
                          refine az_E.sn 1 (pc' := 5) (L' := [.ref 65, .int v4, .int v5]) (S' := [.int v5]) (σ' := (97, I, J, R)) rfl ?_
                          refine az_E.br (c := v5 < 0) (tt := 30) (ff := 8) (L' := [.ref 65, .int v4, .int v5]) (S' := []) (σ' := (97, I, J, R)) rfl (fun hc_1102 => ?_) (fun hc_1102 => ?_)
                          · rw [if_pos hc_1102] at h
                            refine az_E.sn 1 (pc' := 31) (L' := [.ref 65, .int v4, .int v5]) (S' := [.int (0 : Int32)]) (σ' := (97, I, J, R)) rfl ?_
                            refine az_E.ret (v := some (.int (0 : Int32))) (σ' := (97, I, J, R)) rfl ?_
                            show az_E az_F ex 2 128 95 [.retAddr 0, .retAddr 0, .int v2, .retAddr 0, .int v4, .int v5, .ref 67, .ref 65] [.int (0 : Int32)] (97, I, J, R) _
                            refine az_E.br (c := (0 : Int32) = 0) (tt := 98) (ff := 101) (L' := [.retAddr 0, .retAddr 0, .int v2, .retAddr 0, .int v4, .int v5, .ref 67, .ref 65]) (S' := []) (σ' := (97, I, J, R)) rfl (fun _ => ?_) (fun hn => absurd (by decide) hn)
                            refine az_E.sn 1 (pc' := 100) (L' := [.retAddr 0, .retAddr 0, .int v2, .retAddr 0, .int v4, .int v5, .ref 67, .ref 65]) (S' := [.int (-13 : Int32)]) (σ' := (97, I, J, R)) rfl ?_
                            have h := Option.some.inj h
                            subst h
                            exact az_E.ret (v := some (.int (-13 : Int32))) (σ' := (97, I, J, R)) rfl hQ
                          · rw [if_neg hc_1102] at h
                            refine az_E.sn 3 (pc' := 13) (L' := [.ref 65, .int v4, .int v5]) (S' := [.int (I 65 2), .int v4]) (σ' := (97, I, J, R)) rfl ?_
                            refine az_E.br (c := (I 65 2) < v4) (tt := 30) (ff := 16) (L' := [.ref 65, .int v4, .int v5]) (S' := []) (σ' := (97, I, J, R)) rfl (fun hc_1103 => ?_) (fun hc_1103 => ?_)
                            · rw [if_pos hc_1103] at h
                              refine az_E.sn 1 (pc' := 31) (L' := [.ref 65, .int v4, .int v5]) (S' := [.int (0 : Int32)]) (σ' := (97, I, J, R)) rfl ?_
                              refine az_E.ret (v := some (.int (0 : Int32))) (σ' := (97, I, J, R)) rfl ?_
                              show az_E az_F ex 2 128 95 [.retAddr 0, .retAddr 0, .int v2, .retAddr 0, .int v4, .int v5, .ref 67, .ref 65] [.int (0 : Int32)] (97, I, J, R) _
                              refine az_E.br (c := (0 : Int32) = 0) (tt := 98) (ff := 101) (L' := [.retAddr 0, .retAddr 0, .int v2, .retAddr 0, .int v4, .int v5, .ref 67, .ref 65]) (S' := []) (σ' := (97, I, J, R)) rfl (fun _ => ?_) (fun hn => absurd (by decide) hn)
                              refine az_E.sn 1 (pc' := 100) (L' := [.retAddr 0, .retAddr 0, .int v2, .retAddr 0, .int v4, .int v5, .ref 67, .ref 65]) (S' := [.int (-13 : Int32)]) (σ' := (97, I, J, R)) rfl ?_
                              have h := Option.some.inj h
                              subst h
                              exact az_E.ret (v := some (.int (-13 : Int32))) (σ' := (97, I, J, R)) rfl hQ
                            · rw [if_neg hc_1103] at h
                              refine az_E.sn 5 (pc' := 23) (L' := [.ref 65, .int v4, .int v5]) (S' := [.int ((I 65 2) - v4), .int v5]) (σ' := (97, I, J, R)) rfl ?_
                              refine az_E.br (c := ((I 65 2) - v4) < v5) (tt := 30) (ff := 26) (L' := [.ref 65, .int v4, .int v5]) (S' := []) (σ' := (97, I, J, R)) rfl (fun hc_1104 => ?_) (fun hc_1104 => ?_)
                              · rw [if_pos hc_1104] at h
                                refine az_E.sn 1 (pc' := 31) (L' := [.ref 65, .int v4, .int v5]) (S' := [.int (0 : Int32)]) (σ' := (97, I, J, R)) rfl ?_
                                refine az_E.ret (v := some (.int (0 : Int32))) (σ' := (97, I, J, R)) rfl ?_
                                show az_E az_F ex 2 128 95 [.retAddr 0, .retAddr 0, .int v2, .retAddr 0, .int v4, .int v5, .ref 67, .ref 65] [.int (0 : Int32)] (97, I, J, R) _
                                refine az_E.br (c := (0 : Int32) = 0) (tt := 98) (ff := 101) (L' := [.retAddr 0, .retAddr 0, .int v2, .retAddr 0, .int v4, .int v5, .ref 67, .ref 65]) (S' := []) (σ' := (97, I, J, R)) rfl (fun _ => ?_) (fun hn => absurd (by decide) hn)
                                refine az_E.sn 1 (pc' := 100) (L' := [.retAddr 0, .retAddr 0, .int v2, .retAddr 0, .int v4, .int v5, .ref 67, .ref 65]) (S' := [.int (-13 : Int32)]) (σ' := (97, I, J, R)) rfl ?_
                                have h := Option.some.inj h
                                subst h
                                exact az_E.ret (v := some (.int (-13 : Int32))) (σ' := (97, I, J, R)) rfl hQ
                              · rw [if_neg hc_1104] at h
                                refine az_E.sn 2 (pc' := 31) (L' := [.ref 65, .int v4, .int v5]) (S' := [.int (1 : Int32)]) (σ' := (97, I, J, R)) rfl ?_
                                refine az_E.ret (v := some (.int (1 : Int32))) (σ' := (97, I, J, R)) rfl ?_
                                show az_E az_F ex 2 128 95 [.retAddr 0, .retAddr 0, .int v2, .retAddr 0, .int v4, .int v5, .ref 67, .ref 65] [.int (1 : Int32)] (97, I, J, R) _
                                refine az_E.br (c := (1 : Int32) = 0) (tt := 98) (ff := 101) (L' := [.retAddr 0, .retAddr 0, .int v2, .retAddr 0, .int v4, .int v5, .ref 67, .ref 65]) (S' := []) (σ' := (97, I, J, R)) rfl (fun hn => absurd hn (by decide)) (fun _ => ?_)
                                refine az_E.sn 7 (pc' := 116) (L' := [.retAddr 0, .retAddr 0, .int v2, .retAddr 0, .int v4, .int v5, .ref 67, .ref 65]) (S' := [.int v5, .int v4, .ref (65 + 1), .int v2, .ref (67 + 1)]) (σ' := (97, I, J, R)) rfl ?_
                                by_cases hc_1105 : v2 < 0 ∨ v4 < 0 ∨ v5 < 0 ∨ 60 < v2.toNatClampNeg + v5.toNatClampNeg ∨ 60 < v4.toNatClampNeg + v5.toNatClampNeg
                                · rw [if_pos hc_1105] at h; cases h
                                · rw [if_neg hc_1105] at h
                                  refine az_E.o (o := az_cp az_F (97, I, J, R) (67 + 1) v2 (65 + 1) v4 v5) (pc' := 119) (L' := [.retAddr 0, .retAddr 0, .int v2, .retAddr 0, .int v4, .int v5, .ref 67, .ref 65]) (S' := []) (x := (97, I, (az_ur J (65 + 1) (va_cpy (J (67 + 1)) (J (65 + 1)) v2.toNatClampNeg v4.toNatClampNeg v5.toNatClampNeg)), R)) rfl (if_neg hc_1105) ?_
                                  refine az_E.sn 1 (pc' := 121) (L' := [.retAddr 0, .retAddr 0, .int v2, .retAddr 0, .int v4, .int v5, .ref 67, .ref 65]) (S' := [.int v5]) (σ' := (97, I, (az_ur J (65 + 1) (va_cpy (J (67 + 1)) (J (65 + 1)) v2.toNatClampNeg v4.toNatClampNeg v5.toNatClampNeg)), R)) rfl ?_
                                  have h := Option.some.inj h
                                  subst h
                                  exact az_E.ret (v := some (.int v5)) (σ' := (97, I, (az_ur J (65 + 1) (va_cpy (J (67 + 1)) (J (65 + 1)) v2.toNatClampNeg v4.toNatClampNeg v5.toNatClampNeg)), R)) rfl hQ
              · rw [if_neg hc_1096] at h
                refine az_E.sn 1 (pc' := 20) (L' := [.ref 65, .int (I 67 1)]) (S' := [.int (0 : Int32)]) (σ' := (97, I, J, R)) rfl ?_
                refine az_E.ret (v := some (.int (0 : Int32))) (σ' := (97, I, J, R)) rfl ?_
                show az_E az_F ex 2 128 69 [.retAddr 0, .retAddr 0, .int v2, .retAddr 0, .int v4, .int v5, .ref 67, .ref 65] [.int (0 : Int32)] (97, I, J, R) _
                refine az_E.br (c := (0 : Int32) = 0) (tt := 72) (ff := 75) (L' := [.retAddr 0, .retAddr 0, .int v2, .retAddr 0, .int v4, .int v5, .ref 67, .ref 65]) (S' := []) (σ' := (97, I, J, R)) rfl (fun _ => ?_) (fun hn => absurd (by decide) hn)
                refine az_E.sn 1 (pc' := 74) (L' := [.retAddr 0, .retAddr 0, .int v2, .retAddr 0, .int v4, .int v5, .ref 67, .ref 65]) (S' := [.int (-12 : Int32)]) (σ' := (97, I, J, R)) rfl ?_
                have h := Option.some.inj h
                subst h
                exact az_E.ret (v := some (.int (-12 : Int32))) (σ' := (97, I, J, R)) rfl hQ
      · rw [if_neg hc_1092] at h
        refine az_E.sn 1 (pc' := 21) (L' := [.ref 65]) (S' := [.int (0 : Int32)]) (σ' := (97, I, J, R)) rfl ?_
        refine az_E.ret (v := some (.int (0 : Int32))) (σ' := (97, I, J, R)) rfl ?_
        show az_E az_F ex 2 128 45 [.retAddr 0, .retAddr 0, .int v2, .retAddr 0, .int v4, .int v5, .ref 67, .ref 65] [.int (0 : Int32)] (97, I, J, R) _
        refine az_E.br (c := (0 : Int32) = 0) (tt := 51) (ff := 48) (L' := [.retAddr 0, .retAddr 0, .int v2, .retAddr 0, .int v4, .int v5, .ref 67, .ref 65]) (S' := []) (σ' := (97, I, J, R)) rfl (fun _ => ?_) (fun hn => absurd (by decide) hn)
        refine az_E.sn 1 (pc' := 53) (L' := [.retAddr 0, .retAddr 0, .int v2, .retAddr 0, .int v4, .int v5, .ref 67, .ref 65]) (S' := [.ref 67]) (σ' := (97, I, J, R)) rfl ?_
        refine az_E.call (d := 1) (k' := 55) (vs := [.ref 67]) (pc' := 56) (S' := []) rfl ?_ (fun _ _ hq => hq)
        show az_E az_F ex 1 55 0 [.ref 67] [] (97, I, J, R) _
        refine az_E.sn 3 (pc' := 5) (L' := [.ref 67]) (S' := [.int (-1 : Int32), .int (I 67 1)]) (σ' := (97, I, J, R)) rfl ?_
        refine az_E.br (c := (I 67 1) = (-1 : Int32)) (tt := 12) (ff := 8) (L' := [.ref 67]) (S' := []) (σ' := (97, I, J, R)) rfl (fun hc_1106 => ?_) (fun hc_1106 => ?_)
        · rw [if_pos hc_1106] at h
          refine az_E.sn 1 (pc' := 13) (L' := [.ref 67]) (S' := [.int (0 : Int32)]) (σ' := (97, I, J, R)) rfl ?_
          refine az_E.ret (v := some (.int (0 : Int32))) (σ' := (97, I, J, R)) rfl ?_
          show az_E az_F ex 2 128 56 [.retAddr 0, .retAddr 0, .int v2, .retAddr 0, .int v4, .int v5, .ref 67, .ref 65] [.int (0 : Int32)] (97, I, J, R) _
          refine az_E.br (c := (0 : Int32) = 0) (tt := 72) (ff := 59) (L' := [.retAddr 0, .retAddr 0, .int v2, .retAddr 0, .int v4, .int v5, .ref 67, .ref 65]) (S' := []) (σ' := (97, I, J, R)) rfl (fun _ => ?_) (fun hn => absurd (by decide) hn)
          refine az_E.sn 1 (pc' := 74) (L' := [.retAddr 0, .retAddr 0, .int v2, .retAddr 0, .int v4, .int v5, .ref 67, .ref 65]) (S' := [.int (-12 : Int32)]) (σ' := (97, I, J, R)) rfl ?_
          have h := Option.some.inj h
          subst h
          exact az_E.ret (v := some (.int (-12 : Int32))) (σ' := (97, I, J, R)) rfl hQ
        · rw [if_neg hc_1106] at h
          refine az_E.sn 2 (pc' := 13) (L' := [.ref 67]) (S' := [.int (1 : Int32)]) (σ' := (97, I, J, R)) rfl ?_
          refine az_E.ret (v := some (.int (1 : Int32))) (σ' := (97, I, J, R)) rfl ?_
          show az_E az_F ex 2 128 56 [.retAddr 0, .retAddr 0, .int v2, .retAddr 0, .int v4, .int v5, .ref 67, .ref 65] [.int (1 : Int32)] (97, I, J, R) _
          refine az_E.br (c := (1 : Int32) = 0) (tt := 72) (ff := 59) (L' := [.retAddr 0, .retAddr 0, .int v2, .retAddr 0, .int v4, .int v5, .ref 67, .ref 65]) (S' := []) (σ' := (97, I, J, R)) rfl (fun hn => absurd hn (by decide)) (fun _ => ?_)
          refine az_E.sn 3 (pc' := 66) (L' := [.retAddr 0, .retAddr 0, .int v2, .retAddr 0, .int v4, .int v5, .ref 67, .ref 65]) (S' := [.int (I 67 1), .ref 65]) (σ' := (97, I, J, R)) rfl ?_
          refine az_E.call (d := 1) (k' := 56) (vs := [.ref 65, .int (I 67 1)]) (pc' := 69) (S' := []) rfl ?_ (fun _ _ hq => hq)
          show az_E az_F ex 1 56 0 [.ref 65, .int (I 67 1)] [] (97, I, J, R) _
          refine az_E.sn 1 (pc' := 1) (L' := [.ref 65, .int (I 67 1)]) (S' := [.ref 65]) (σ' := (97, I, J, R)) rfl ?_
          refine az_E.call (d := 0) (k' := 55) (vs := [.ref 65]) (pc' := 4) (S' := []) rfl ?_ (fun _ _ hq => hq)
          show az_E az_F ex 0 55 0 [.ref 65] [] (97, I, J, R) _
          refine az_E.sn 3 (pc' := 5) (L' := [.ref 65]) (S' := [.int (-1 : Int32), .int (I 65 1)]) (σ' := (97, I, J, R)) rfl ?_
          refine az_E.br (c := (I 65 1) = (-1 : Int32)) (tt := 12) (ff := 8) (L' := [.ref 65]) (S' := []) (σ' := (97, I, J, R)) rfl (fun hc_1107 => ?_) (fun hc_1107 => ?_)
          · rw [if_pos hc_1107] at h
            refine az_E.sn 1 (pc' := 13) (L' := [.ref 65]) (S' := [.int (0 : Int32)]) (σ' := (97, I, J, R)) rfl ?_
            refine az_E.ret (v := some (.int (0 : Int32))) (σ' := (97, I, J, R)) rfl ?_
            show az_E az_F ex 1 56 4 [.ref 65, .int (I 67 1)] [.int (0 : Int32)] (97, I, J, R) _
            refine az_E.br (c := (0 : Int32) = 0) (tt := 19) (ff := 7) (L' := [.ref 65, .int (I 67 1)]) (S' := []) (σ' := (97, I, J, R)) rfl (fun _ => ?_) (fun hn => absurd (by decide) hn)
            refine az_E.sn 1 (pc' := 20) (L' := [.ref 65, .int (I 67 1)]) (S' := [.int (0 : Int32)]) (σ' := (97, I, J, R)) rfl ?_
            refine az_E.ret (v := some (.int (0 : Int32))) (σ' := (97, I, J, R)) rfl ?_
            show az_E az_F ex 2 128 69 [.retAddr 0, .retAddr 0, .int v2, .retAddr 0, .int v4, .int v5, .ref 67, .ref 65] [.int (0 : Int32)] (97, I, J, R) _
            refine az_E.br (c := (0 : Int32) = 0) (tt := 72) (ff := 75) (L' := [.retAddr 0, .retAddr 0, .int v2, .retAddr 0, .int v4, .int v5, .ref 67, .ref 65]) (S' := []) (σ' := (97, I, J, R)) rfl (fun _ => ?_) (fun hn => absurd (by decide) hn)
            refine az_E.sn 1 (pc' := 74) (L' := [.retAddr 0, .retAddr 0, .int v2, .retAddr 0, .int v4, .int v5, .ref 67, .ref 65]) (S' := [.int (-12 : Int32)]) (σ' := (97, I, J, R)) rfl ?_
            have h := Option.some.inj h
            subst h
            exact az_E.ret (v := some (.int (-12 : Int32))) (σ' := (97, I, J, R)) rfl hQ
          · rw [if_neg hc_1107] at h
            refine az_E.sn 2 (pc' := 13) (L' := [.ref 65]) (S' := [.int (1 : Int32)]) (σ' := (97, I, J, R)) rfl ?_
            refine az_E.ret (v := some (.int (1 : Int32))) (σ' := (97, I, J, R)) rfl ?_
            show az_E az_F ex 1 56 4 [.ref 65, .int (I 67 1)] [.int (1 : Int32)] (97, I, J, R) _
            refine az_E.br (c := (1 : Int32) = 0) (tt := 19) (ff := 7) (L' := [.ref 65, .int (I 67 1)]) (S' := []) (σ' := (97, I, J, R)) rfl (fun hn => absurd hn (by decide)) (fun _ => ?_)
            refine az_E.sn 3 (pc' := 12) (L' := [.ref 65, .int (I 67 1)]) (S' := [.int (I 67 1), .int (I 65 1)]) (σ' := (97, I, J, R)) rfl ?_
            refine az_E.br (c := (I 65 1) = (I 67 1)) (tt := 15) (ff := 19) (L' := [.ref 65, .int (I 67 1)]) (S' := []) (σ' := (97, I, J, R)) rfl (fun hc_1108 => ?_) (fun hc_1108 => ?_)
            · rw [if_pos hc_1108] at h
              refine az_E.sn 2 (pc' := 20) (L' := [.ref 65, .int (I 67 1)]) (S' := [.int (1 : Int32)]) (σ' := (97, I, J, R)) rfl ?_
              refine az_E.ret (v := some (.int (1 : Int32))) (σ' := (97, I, J, R)) rfl ?_
              show az_E az_F ex 2 128 69 [.retAddr 0, .retAddr 0, .int v2, .retAddr 0, .int v4, .int v5, .ref 67, .ref 65] [.int (1 : Int32)] (97, I, J, R) _
              refine az_E.br (c := (1 : Int32) = 0) (tt := 72) (ff := 75) (L' := [.retAddr 0, .retAddr 0, .int v2, .retAddr 0, .int v4, .int v5, .ref 67, .ref 65]) (S' := []) (σ' := (97, I, J, R)) rfl (fun hn => absurd hn (by decide)) (fun _ => ?_)
              refine az_E.sn 3 (pc' := 80) (L' := [.retAddr 0, .retAddr 0, .int v2, .retAddr 0, .int v4, .int v5, .ref 67, .ref 65]) (S' := [.int v5, .int v2, .ref 67]) (σ' := (97, I, J, R)) rfl ?_
              refine az_E.call (d := 1) (k' := 60) (vs := [.ref 67, .int v2, .int v5]) (pc' := 83) (S' := []) rfl ?_ (fun _ _ hq => hq)
              show az_E az_F ex 1 60 0 [.ref 67, .int v2, .int v5] [] (97, I, J, R) _
              refine az_E.sn 1 (pc' := 1) (L' := [.ref 67, .int v2, .int v5]) (S' := [.int v2]) (σ' := (97, I, J, R)) rfl ?_
              refine az_E.br (c := v2 < 0) (tt := 30) (ff := 4) (L' := [.ref 67, .int v2, .int v5]) (S' := []) (σ' := (97, I, J, R)) rfl (fun hc_1109 => ?_) (fun hc_1109 => ?_)
              · rw [if_pos hc_1109] at h
                refine az_E.sn 1 (pc' := 31) (L' := [.ref 67, .int v2, .int v5]) (S' := [.int (0 : Int32)]) (σ' := (97, I, J, R)) rfl ?_
                refine az_E.ret (v := some (.int (0 : Int32))) (σ' := (97, I, J, R)) rfl ?_
                show az_E az_F ex 2 128 83 [.retAddr 0, .retAddr 0, .int v2, .retAddr 0, .int v4, .int v5, .ref 67, .ref 65] [.int (0 : Int32)] (97, I, J, R) _
                refine az_E.br (c := (0 : Int32) = 0) (tt := 98) (ff := 86) (L' := [.retAddr 0, .retAddr 0, .int v2, .retAddr 0, .int v4, .int v5, .ref 67, .ref 65]) (S' := []) (σ' := (97, I, J, R)) rfl (fun _ => ?_) (fun hn => absurd (by decide) hn)
                refine az_E.sn 1 (pc' := 100) (L' := [.retAddr 0, .retAddr 0, .int v2, .retAddr 0, .int v4, .int v5, .ref 67, .ref 65]) (S' := [.int (-13 : Int32)]) (σ' := (97, I, J, R)) rfl ?_
                have h := Option.some.inj h
                subst h
                exact az_E.ret (v := some (.int (-13 : Int32))) (σ' := (97, I, J, R)) rfl hQ
              · rw [if_neg hc_1109] at h
                refine az_E.sn 1 (pc' := 5) (L' := [.ref 67, .int v2, .int v5]) (S' := [.int v5]) (σ' := (97, I, J, R)) rfl ?_
                refine az_E.br (c := v5 < 0) (tt := 30) (ff := 8) (L' := [.ref 67, .int v2, .int v5]) (S' := []) (σ' := (97, I, J, R)) rfl (fun hc_1110 => ?_) (fun hc_1110 => ?_)
                · rw [if_pos hc_1110] at h
                  refine az_E.sn 1 (pc' := 31) (L' := [.ref 67, .int v2, .int v5]) (S' := [.int (0 : Int32)]) (σ' := (97, I, J, R)) rfl ?_
                  refine az_E.ret (v := some (.int (0 : Int32))) (σ' := (97, I, J, R)) rfl ?_
                  show az_E az_F ex 2 128 83 [.retAddr 0, .retAddr 0, .int v2, .retAddr 0, .int v4, .int v5, .ref 67, .ref 65] [.int (0 : Int32)] (97, I, J, R) _
                  refine az_E.br (c := (0 : Int32) = 0) (tt := 98) (ff := 86) (L' := [.retAddr 0, .retAddr 0, .int v2, .retAddr 0, .int v4, .int v5, .ref 67, .ref 65]) (S' := []) (σ' := (97, I, J, R)) rfl (fun _ => ?_) (fun hn => absurd (by decide) hn)
                  refine az_E.sn 1 (pc' := 100) (L' := [.retAddr 0, .retAddr 0, .int v2, .retAddr 0, .int v4, .int v5, .ref 67, .ref 65]) (S' := [.int (-13 : Int32)]) (σ' := (97, I, J, R)) rfl ?_
                  have h := Option.some.inj h
                  subst h
                  exact az_E.ret (v := some (.int (-13 : Int32))) (σ' := (97, I, J, R)) rfl hQ
                · rw [if_neg hc_1110] at h
                  refine az_E.sn 3 (pc' := 13) (L' := [.ref 67, .int v2, .int v5]) (S' := [.int (I 67 2), .int v2]) (σ' := (97, I, J, R)) rfl ?_
                  refine az_E.br (c := (I 67 2) < v2) (tt := 30) (ff := 16) (L' := [.ref 67, .int v2, .int v5]) (S' := []) (σ' := (97, I, J, R)) rfl (fun hc_1111 => ?_) (fun hc_1111 => ?_)
                  · rw [if_pos hc_1111] at h
                    refine az_E.sn 1 (pc' := 31) (L' := [.ref 67, .int v2, .int v5]) (S' := [.int (0 : Int32)]) (σ' := (97, I, J, R)) rfl ?_
                    refine az_E.ret (v := some (.int (0 : Int32))) (σ' := (97, I, J, R)) rfl ?_
                    show az_E az_F ex 2 128 83 [.retAddr 0, .retAddr 0, .int v2, .retAddr 0, .int v4, .int v5, .ref 67, .ref 65] [.int (0 : Int32)] (97, I, J, R) _
                    refine az_E.br (c := (0 : Int32) = 0) (tt := 98) (ff := 86) (L' := [.retAddr 0, .retAddr 0, .int v2, .retAddr 0, .int v4, .int v5, .ref 67, .ref 65]) (S' := []) (σ' := (97, I, J, R)) rfl (fun _ => ?_) (fun hn => absurd (by decide) hn)
                    refine az_E.sn 1 (pc' := 100) (L' := [.retAddr 0, .retAddr 0, .int v2, .retAddr 0, .int v4, .int v5, .ref 67, .ref 65]) (S' := [.int (-13 : Int32)]) (σ' := (97, I, J, R)) rfl ?_
                    have h := Option.some.inj h
                    subst h
                    exact az_E.ret (v := some (.int (-13 : Int32))) (σ' := (97, I, J, R)) rfl hQ
                  · rw [if_neg hc_1111] at h
                    refine az_E.sn 5 (pc' := 23) (L' := [.ref 67, .int v2, .int v5]) (S' := [.int ((I 67 2) - v2), .int v5]) (σ' := (97, I, J, R)) rfl ?_
                    refine az_E.br (c := ((I 67 2) - v2) < v5) (tt := 30) (ff := 26) (L' := [.ref 67, .int v2, .int v5]) (S' := []) (σ' := (97, I, J, R)) rfl (fun hc_1112 => ?_) (fun hc_1112 => ?_)
                    · rw [if_pos hc_1112] at h
                      refine az_E.sn 1 (pc' := 31) (L' := [.ref 67, .int v2, .int v5]) (S' := [.int (0 : Int32)]) (σ' := (97, I, J, R)) rfl ?_
                      refine az_E.ret (v := some (.int (0 : Int32))) (σ' := (97, I, J, R)) rfl ?_
                      show az_E az_F ex 2 128 83 [.retAddr 0, .retAddr 0, .int v2, .retAddr 0, .int v4, .int v5, .ref 67, .ref 65] [.int (0 : Int32)] (97, I, J, R) _
                      refine az_E.br (c := (0 : Int32) = 0) (tt := 98) (ff := 86) (L' := [.retAddr 0, .retAddr 0, .int v2, .retAddr 0, .int v4, .int v5, .ref 67, .ref 65]) (S' := []) (σ' := (97, I, J, R)) rfl (fun _ => ?_) (fun hn => absurd (by decide) hn)
                      refine az_E.sn 1 (pc' := 100) (L' := [.retAddr 0, .retAddr 0, .int v2, .retAddr 0, .int v4, .int v5, .ref 67, .ref 65]) (S' := [.int (-13 : Int32)]) (σ' := (97, I, J, R)) rfl ?_
                      have h := Option.some.inj h
                      subst h
                      exact az_E.ret (v := some (.int (-13 : Int32))) (σ' := (97, I, J, R)) rfl hQ
                    · rw [if_neg hc_1112] at h
                      refine az_E.sn 2 (pc' := 31) (L' := [.ref 67, .int v2, .int v5]) (S' := [.int (1 : Int32)]) (σ' := (97, I, J, R)) rfl ?_
                      refine az_E.ret (v := some (.int (1 : Int32))) (σ' := (97, I, J, R)) rfl ?_
                      show az_E az_F ex 2 128 83 [.retAddr 0, .retAddr 0, .int v2, .retAddr 0, .int v4, .int v5, .ref 67, .ref 65] [.int (1 : Int32)] (97, I, J, R) _
                      refine az_E.br (c := (1 : Int32) = 0) (tt := 98) (ff := 86) (L' := [.retAddr 0, .retAddr 0, .int v2, .retAddr 0, .int v4, .int v5, .ref 67, .ref 65]) (S' := []) (σ' := (97, I, J, R)) rfl (fun hn => absurd hn (by decide)) (fun _ => ?_)
                      refine az_E.sn 3 (pc' := 92) (L' := [.retAddr 0, .retAddr 0, .int v2, .retAddr 0, .int v4, .int v5, .ref 67, .ref 65]) (S' := [.int v5, .int v4, .ref 65]) (σ' := (97, I, J, R)) rfl ?_
                      refine az_E.call (d := 1) (k' := 60) (vs := [.ref 65, .int v4, .int v5]) (pc' := 95) (S' := []) rfl ?_ (fun _ _ hq => hq)
                      show az_E az_F ex 1 60 0 [.ref 65, .int v4, .int v5] [] (97, I, J, R) _
                      refine az_E.sn 1 (pc' := 1) (L' := [.ref 65, .int v4, .int v5]) (S' := [.int v4]) (σ' := (97, I, J, R)) rfl ?_
                      refine az_E.br (c := v4 < 0) (tt := 30) (ff := 4) (L' := [.ref 65, .int v4, .int v5]) (S' := []) (σ' := (97, I, J, R)) rfl (fun hc_1113 => ?_) (fun hc_1113 => ?_)
                      · rw [if_pos hc_1113] at h
                        refine az_E.sn 1 (pc' := 31) (L' := [.ref 65, .int v4, .int v5]) (S' := [.int (0 : Int32)]) (σ' := (97, I, J, R)) rfl ?_
                        refine az_E.ret (v := some (.int (0 : Int32))) (σ' := (97, I, J, R)) rfl ?_
                        show az_E az_F ex 2 128 95 [.retAddr 0, .retAddr 0, .int v2, .retAddr 0, .int v4, .int v5, .ref 67, .ref 65] [.int (0 : Int32)] (97, I, J, R) _
                        refine az_E.br (c := (0 : Int32) = 0) (tt := 98) (ff := 101) (L' := [.retAddr 0, .retAddr 0, .int v2, .retAddr 0, .int v4, .int v5, .ref 67, .ref 65]) (S' := []) (σ' := (97, I, J, R)) rfl (fun _ => ?_) (fun hn => absurd (by decide) hn)
                        refine az_E.sn 1 (pc' := 100) (L' := [.retAddr 0, .retAddr 0, .int v2, .retAddr 0, .int v4, .int v5, .ref 67, .ref 65]) (S' := [.int (-13 : Int32)]) (σ' := (97, I, J, R)) rfl ?_
                        have h := Option.some.inj h
                        subst h
                        exact az_E.ret (v := some (.int (-13 : Int32))) (σ' := (97, I, J, R)) rfl hQ
                      · rw [if_neg hc_1113] at h
                        refine az_E.sn 1 (pc' := 5) (L' := [.ref 65, .int v4, .int v5]) (S' := [.int v5]) (σ' := (97, I, J, R)) rfl ?_
                        refine az_E.br (c := v5 < 0) (tt := 30) (ff := 8) (L' := [.ref 65, .int v4, .int v5]) (S' := []) (σ' := (97, I, J, R)) rfl (fun hc_1114 => ?_) (fun hc_1114 => ?_)
                        · rw [if_pos hc_1114] at h
                          refine az_E.sn 1 (pc' := 31) (L' := [.ref 65, .int v4, .int v5]) (S' := [.int (0 : Int32)]) (σ' := (97, I, J, R)) rfl ?_
                          refine az_E.ret (v := some (.int (0 : Int32))) (σ' := (97, I, J, R)) rfl ?_
                          show az_E az_F ex 2 128 95 [.retAddr 0, .retAddr 0, .int v2, .retAddr 0, .int v4, .int v5, .ref 67, .ref 65] [.int (0 : Int32)] (97, I, J, R) _
                          refine az_E.br (c := (0 : Int32) = 0) (tt := 98) (ff := 101) (L' := [.retAddr 0, .retAddr 0, .int v2, .retAddr 0, .int v4, .int v5, .ref 67, .ref 65]) (S' := []) (σ' := (97, I, J, R)) rfl (fun _ => ?_) (fun hn => absurd (by decide) hn)
                          refine az_E.sn 1 (pc' := 100) (L' := [.retAddr 0, .retAddr 0, .int v2, .retAddr 0, .int v4, .int v5, .ref 67, .ref 65]) (S' := [.int (-13 : Int32)]) (σ' := (97, I, J, R)) rfl ?_
                          have h := Option.some.inj h
                          subst h
                          exact az_E.ret (v := some (.int (-13 : Int32))) (σ' := (97, I, J, R)) rfl hQ
                        · rw [if_neg hc_1114] at h
                          refine az_E.sn 3 (pc' := 13) (L' := [.ref 65, .int v4, .int v5]) (S' := [.int (I 65 2), .int v4]) (σ' := (97, I, J, R)) rfl ?_
                          refine az_E.br (c := (I 65 2) < v4) (tt := 30) (ff := 16) (L' := [.ref 65, .int v4, .int v5]) (S' := []) (σ' := (97, I, J, R)) rfl (fun hc_1115 => ?_) (fun hc_1115 => ?_)
                          · rw [if_pos hc_1115] at h
                            refine az_E.sn 1 (pc' := 31) (L' := [.ref 65, .int v4, .int v5]) (S' := [.int (0 : Int32)]) (σ' := (97, I, J, R)) rfl ?_
                            refine az_E.ret (v := some (.int (0 : Int32))) (σ' := (97, I, J, R)) rfl ?_
                            show az_E az_F ex 2 128 95 [.retAddr 0, .retAddr 0, .int v2, .retAddr 0, .int v4, .int v5, .ref 67, .ref 65] [.int (0 : Int32)] (97, I, J, R) _
                            refine az_E.br (c := (0 : Int32) = 0) (tt := 98) (ff := 101) (L' := [.retAddr 0, .retAddr 0, .int v2, .retAddr 0, .int v4, .int v5, .ref 67, .ref 65]) (S' := []) (σ' := (97, I, J, R)) rfl (fun _ => ?_) (fun hn => absurd (by decide) hn)
                            refine az_E.sn 1 (pc' := 100) (L' := [.retAddr 0, .retAddr 0, .int v2, .retAddr 0, .int v4, .int v5, .ref 67, .ref 65]) (S' := [.int (-13 : Int32)]) (σ' := (97, I, J, R)) rfl ?_
                            have h := Option.some.inj h
                            subst h
                            exact az_E.ret (v := some (.int (-13 : Int32))) (σ' := (97, I, J, R)) rfl hQ
                          · rw [if_neg hc_1115] at h
                            refine az_E.sn 5 (pc' := 23) (L' := [.ref 65, .int v4, .int v5]) (S' := [.int ((I 65 2) - v4), .int v5]) (σ' := (97, I, J, R)) rfl ?_
                            refine az_E.br (c := ((I 65 2) - v4) < v5) (tt := 30) (ff := 26) (L' := [.ref 65, .int v4, .int v5]) (S' := []) (σ' := (97, I, J, R)) rfl (fun hc_1116 => ?_) (fun hc_1116 => ?_)
                            · rw [if_pos hc_1116] at h
                              refine az_E.sn 1 (pc' := 31) (L' := [.ref 65, .int v4, .int v5]) (S' := [.int (0 : Int32)]) (σ' := (97, I, J, R)) rfl ?_
                              refine az_E.ret (v := some (.int (0 : Int32))) (σ' := (97, I, J, R)) rfl ?_
                              show az_E az_F ex 2 128 95 [.retAddr 0, .retAddr 0, .int v2, .retAddr 0, .int v4, .int v5, .ref 67, .ref 65] [.int (0 : Int32)] (97, I, J, R) _
                              refine az_E.br (c := (0 : Int32) = 0) (tt := 98) (ff := 101) (L' := [.retAddr 0, .retAddr 0, .int v2, .retAddr 0, .int v4, .int v5, .ref 67, .ref 65]) (S' := []) (σ' := (97, I, J, R)) rfl (fun _ => ?_) (fun hn => absurd (by decide) hn)
                              refine az_E.sn 1 (pc' := 100) (L' := [.retAddr 0, .retAddr 0, .int v2, .retAddr 0, .int v4, .int v5, .ref 67, .ref 65]) (S' := [.int (-13 : Int32)]) (σ' := (97, I, J, R)) rfl ?_
                              have h := Option.some.inj h
                              subst h
                              exact az_E.ret (v := some (.int (-13 : Int32))) (σ' := (97, I, J, R)) rfl hQ
                            · rw [if_neg hc_1116] at h
                              refine az_E.sn 2 (pc' := 31) (L' := [.ref 65, .int v4, .int v5]) (S' := [.int (1 : Int32)]) (σ' := (97, I, J, R)) rfl ?_
                              refine az_E.ret (v := some (.int (1 : Int32))) (σ' := (97, I, J, R)) rfl ?_
                              show az_E az_F ex 2 128 95 [.retAddr 0, .retAddr 0, .int v2, .retAddr 0, .int v4, .int v5, .ref 67, .ref 65] [.int (1 : Int32)] (97, I, J, R) _
                              refine az_E.br (c := (1 : Int32) = 0) (tt := 98) (ff := 101) (L' := [.retAddr 0, .retAddr 0, .int v2, .retAddr 0, .int v4, .int v5, .ref 67, .ref 65]) (S' := []) (σ' := (97, I, J, R)) rfl (fun hn => absurd hn (by decide)) (fun _ => ?_)
                              refine az_E.sn 7 (pc' := 116) (L' := [.retAddr 0, .retAddr 0, .int v2, .retAddr 0, .int v4, .int v5, .ref 67, .ref 65]) (S' := [.int v5, .int v4, .ref (65 + 1), .int v2, .ref (67 + 1)]) (σ' := (97, I, J, R)) rfl ?_
                              by_cases hc_1117 : v2 < 0 ∨ v4 < 0 ∨ v5 < 0 ∨ 60 < v2.toNatClampNeg + v5.toNatClampNeg ∨ 60 < v4.toNatClampNeg + v5.toNatClampNeg
                              · rw [if_pos hc_1117] at h; cases h
                              · rw [if_neg hc_1117] at h
                                refine az_E.o (o := az_cp az_F (97, I, J, R) (67 + 1) v2 (65 + 1) v4 v5) (pc' := 119) (L' := [.retAddr 0, .retAddr 0, .int v2, .retAddr 0, .int v4, .int v5, .ref 67, .ref 65]) (S' := []) (x := (97, I, (az_ur J (65 + 1) (va_cpy (J (67 + 1)) (J (65 + 1)) v2.toNatClampNeg v4.toNatClampNeg v5.toNatClampNeg)), R)) rfl (if_neg hc_1117) ?_
                                refine az_E.sn 1 (pc' := 121) (L' := [.retAddr 0, .retAddr 0, .int v2, .retAddr 0, .int v4, .int v5, .ref 67, .ref 65]) (S' := [.int v5]) (σ' := (97, I, (az_ur J (65 + 1) (va_cpy (J (67 + 1)) (J (65 + 1)) v2.toNatClampNeg v4.toNatClampNeg v5.toNatClampNeg)), R)) rfl ?_
                                have h := Option.some.inj h
                                subst h
                                exact az_E.ret (v := some (.int v5)) (σ' := (97, I, (az_ur J (65 + 1) (va_cpy (J (67 + 1)) (J (65 + 1)) v2.toNatClampNeg v4.toNatClampNeg v5.toNatClampNeg)), R)) rfl hQ
            · rw [if_neg hc_1108] at h
              refine az_E.sn 1 (pc' := 20) (L' := [.ref 65, .int (I 67 1)]) (S' := [.int (0 : Int32)]) (σ' := (97, I, J, R)) rfl ?_
              refine az_E.ret (v := some (.int (0 : Int32))) (σ' := (97, I, J, R)) rfl ?_
              show az_E az_F ex 2 128 69 [.retAddr 0, .retAddr 0, .int v2, .retAddr 0, .int v4, .int v5, .ref 67, .ref 65] [.int (0 : Int32)] (97, I, J, R) _
              refine az_E.br (c := (0 : Int32) = 0) (tt := 72) (ff := 75) (L' := [.retAddr 0, .retAddr 0, .int v2, .retAddr 0, .int v4, .int v5, .ref 67, .ref 65]) (S' := []) (σ' := (97, I, J, R)) rfl (fun _ => ?_) (fun hn => absurd (by decide) hn)
              refine az_E.sn 1 (pc' := 74) (L' := [.retAddr 0, .retAddr 0, .int v2, .retAddr 0, .int v4, .int v5, .ref 67, .ref 65]) (S' := [.int (-12 : Int32)]) (σ' := (97, I, J, R)) rfl ?_
              have h := Option.some.inj h
              subst h
              exact az_E.ret (v := some (.int (-12 : Int32))) (σ' := (97, I, J, R)) rfl hQ
  · rw [if_neg hc_1090] at h
    refine az_E.sn 1 (pc' := 21) (L' := [.ref 67]) (S' := [.int (0 : Int32)]) (σ' := (97, I, J, R)) rfl ?_
    refine az_E.ret (v := some (.int (0 : Int32))) (σ' := (97, I, J, R)) rfl ?_
    show az_E az_F ex 2 128 37 [.retAddr 0, .retAddr 0, .int v2, .retAddr 0, .int v4, .int v5, .ref 67, .ref 65] [.int (0 : Int32)] (97, I, J, R) _
    refine az_E.br (c := (0 : Int32) = 0) (tt := 40) (ff := 48) (L' := [.retAddr 0, .retAddr 0, .int v2, .retAddr 0, .int v4, .int v5, .ref 67, .ref 65]) (S' := []) (σ' := (97, I, J, R)) rfl (fun _ => ?_) (fun hn => absurd (by decide) hn)
    refine az_E.sn 1 (pc' := 42) (L' := [.retAddr 0, .retAddr 0, .int v2, .retAddr 0, .int v4, .int v5, .ref 67, .ref 65]) (S' := [.ref 65]) (σ' := (97, I, J, R)) rfl ?_
    refine az_E.call (d := 1) (k' := 54) (vs := [.ref 65]) (pc' := 45) (S' := []) rfl ?_ (fun _ _ hq => hq)
    show az_E az_F ex 1 54 0 [.ref 65] [] (97, I, J, R) _
    refine az_E.sn 3 (pc' := 5) (L' := [.ref 65]) (S' := [.int (-1 : Int32), .int (I 65 0)]) (σ' := (97, I, J, R)) rfl ?_
    refine az_E.br (c := (I 65 0) = (-1 : Int32)) (tt := 8) (ff := 20) (L' := [.ref 65]) (S' := []) (σ' := (97, I, J, R)) rfl (fun hc_1118 => ?_) (fun hc_1118 => ?_)
    · rw [if_pos hc_1118] at h
      refine az_E.sn 3 (pc' := 13) (L' := [.ref 65]) (S' := [.int (-1 : Int32), .int (I 65 1)]) (σ' := (97, I, J, R)) rfl ?_
      refine az_E.br (c := (I 65 1) = (-1 : Int32)) (tt := 16) (ff := 20) (L' := [.ref 65]) (S' := []) (σ' := (97, I, J, R)) rfl (fun hc_1119 => ?_) (fun hc_1119 => ?_)
      · rw [if_pos hc_1119] at h
        refine az_E.sn 2 (pc' := 21) (L' := [.ref 65]) (S' := [.int (1 : Int32)]) (σ' := (97, I, J, R)) rfl ?_
        refine az_E.ret (v := some (.int (1 : Int32))) (σ' := (97, I, J, R)) rfl ?_
        show az_E az_F ex 2 128 45 [.retAddr 0, .retAddr 0, .int v2, .retAddr 0, .int v4, .int v5, .ref 67, .ref 65] [.int (1 : Int32)] (97, I, J, R) _
        refine az_E.br (c := (1 : Int32) = 0) (tt := 51) (ff := 48) (L' := [.retAddr 0, .retAddr 0, .int v2, .retAddr 0, .int v4, .int v5, .ref 67, .ref 65]) (S' := []) (σ' := (97, I, J, R)) rfl (fun hn => absurd hn (by decide)) (fun _ => ?_)
        refine az_E.sn 1 (pc' := 50) (L' := [.retAddr 0, .retAddr 0, .int v2, .retAddr 0, .int v4, .int v5, .ref 67, .ref 65]) (S' := [.int (-11 : Int32)]) (σ' := (97, I, J, R)) rfl ?_
        have h := Option.some.inj h
        subst h
        exact az_E.ret (v := some (.int (-11 : Int32))) (σ' := (97, I, J, R)) rfl hQ
      · rw [if_neg hc_1119] at h
        refine az_E.sn 1 (pc' := 21) (L' := [.ref 65]) (S' := [.int (0 : Int32)]) (σ' := (97, I, J, R)) rfl ?_
        refine az_E.ret (v := some (.int (0 : Int32))) (σ' := (97, I, J, R)) rfl ?_
        show az_E az_F ex 2 128 45 [.retAddr 0, .retAddr 0, .int v2, .retAddr 0, .int v4, .int v5, .ref 67, .ref 65] [.int (0 : Int32)] (97, I, J, R) _
        refine az_E.br (c := (0 : Int32) = 0) (tt := 51) (ff := 48) (L' := [.retAddr 0, .retAddr 0, .int v2, .retAddr 0, .int v4, .int v5, .ref 67, .ref 65]) (S' := []) (σ' := (97, I, J, R)) rfl (fun _ => ?_) (fun hn => absurd (by decide) hn)
        refine az_E.sn 1 (pc' := 53) (L' := [.retAddr 0, .retAddr 0, .int v2, .retAddr 0, .int v4, .int v5, .ref 67, .ref 65]) (S' := [.ref 67]) (σ' := (97, I, J, R)) rfl ?_
        refine az_E.call (d := 1) (k' := 55) (vs := [.ref 67]) (pc' := 56) (S' := []) rfl ?_ (fun _ _ hq => hq)
        show az_E az_F ex 1 55 0 [.ref 67] [] (97, I, J, R) _
        refine az_E.sn 3 (pc' := 5) (L' := [.ref 67]) (S' := [.int (-1 : Int32), .int (I 67 1)]) (σ' := (97, I, J, R)) rfl ?_
        refine az_E.br (c := (I 67 1) = (-1 : Int32)) (tt := 12) (ff := 8) (L' := [.ref 67]) (S' := []) (σ' := (97, I, J, R)) rfl (fun hc_1120 => ?_) (fun hc_1120 => ?_)
        · rw [if_pos hc_1120] at h
          refine az_E.sn 1 (pc' := 13) (L' := [.ref 67]) (S' := [.int (0 : Int32)]) (σ' := (97, I, J, R)) rfl ?_
          refine az_E.ret (v := some (.int (0 : Int32))) (σ' := (97, I, J, R)) rfl ?_
          show az_E az_F ex 2 128 56 [.retAddr 0, .retAddr 0, .int v2, .retAddr 0, .int v4, .int v5, .ref 67, .ref 65] [.int (0 : Int32)] (97, I, J, R) _
          refine az_E.br (c := (0 : Int32) = 0) (tt := 72) (ff := 59) (L' := [.retAddr 0, .retAddr 0, .int v2, .retAddr 0, .int v4, .int v5, .ref 67, .ref 65]) (S' := []) (σ' := (97, I, J, R)) rfl (fun _ => ?_) (fun hn => absurd (by decide) hn)
          refine az_E.sn 1 (pc' := 74) (L' := [.retAddr 0, .retAddr 0, .int v2, .retAddr 0, .int v4, .int v5, .ref 67, .ref 65]) (S' := [.int (-12 : Int32)]) (σ' := (97, I, J, R)) rfl ?_
          have h := Option.some.inj h
          subst h
          exact az_E.ret (v := some (.int (-12 : Int32))) (σ' := (97, I, J, R)) rfl hQ
        · rw [if_neg hc_1120] at h
          refine az_E.sn 2 (pc' := 13) (L' := [.ref 67]) (S' := [.int (1 : Int32)]) (σ' := (97, I, J, R)) rfl ?_
          refine az_E.ret (v := some (.int (1 : Int32))) (σ' := (97, I, J, R)) rfl ?_
          show az_E az_F ex 2 128 56 [.retAddr 0, .retAddr 0, .int v2, .retAddr 0, .int v4, .int v5, .ref 67, .ref 65] [.int (1 : Int32)] (97, I, J, R) _
          refine az_E.br (c := (1 : Int32) = 0) (tt := 72) (ff := 59) (L' := [.retAddr 0, .retAddr 0, .int v2, .retAddr 0, .int v4, .int v5, .ref 67, .ref 65]) (S' := []) (σ' := (97, I, J, R)) rfl (fun hn => absurd hn (by decide)) (fun _ => ?_)
          refine az_E.sn 3 (pc' := 66) (L' := [.retAddr 0, .retAddr 0, .int v2, .retAddr 0, .int v4, .int v5, .ref 67, .ref 65]) (S' := [.int (I 67 1), .ref 65]) (σ' := (97, I, J, R)) rfl ?_
          refine az_E.call (d := 1) (k' := 56) (vs := [.ref 65, .int (I 67 1)]) (pc' := 69) (S' := []) rfl ?_ (fun _ _ hq => hq)
          show az_E az_F ex 1 56 0 [.ref 65, .int (I 67 1)] [] (97, I, J, R) _
          refine az_E.sn 1 (pc' := 1) (L' := [.ref 65, .int (I 67 1)]) (S' := [.ref 65]) (σ' := (97, I, J, R)) rfl ?_
          refine az_E.call (d := 0) (k' := 55) (vs := [.ref 65]) (pc' := 4) (S' := []) rfl ?_ (fun _ _ hq => hq)
          show az_E az_F ex 0 55 0 [.ref 65] [] (97, I, J, R) _
          refine az_E.sn 3 (pc' := 5) (L' := [.ref 65]) (S' := [.int (-1 : Int32), .int (I 65 1)]) (σ' := (97, I, J, R)) rfl ?_
          refine az_E.br (c := (I 65 1) = (-1 : Int32)) (tt := 12) (ff := 8) (L' := [.ref 65]) (S' := []) (σ' := (97, I, J, R)) rfl (fun hc_1121 => ?_) (fun hc_1121 => ?_)
          · rw [if_pos hc_1121] at h
            refine az_E.sn 1 (pc' := 13) (L' := [.ref 65]) (S' := [.int (0 : Int32)]) (σ' := (97, I, J, R)) rfl ?_
            refine az_E.ret (v := some (.int (0 : Int32))) (σ' := (97, I, J, R)) rfl ?_
            show az_E az_F ex 1 56 4 [.ref 65, .int (I 67 1)] [.int (0 : Int32)] (97, I, J, R) _
            refine az_E.br (c := (0 : Int32) = 0) (tt := 19) (ff := 7) (L' := [.ref 65, .int (I 67 1)]) (S' := []) (σ' := (97, I, J, R)) rfl (fun _ => ?_) (fun hn => absurd (by decide) hn)
            refine az_E.sn 1 (pc' := 20) (L' := [.ref 65, .int (I 67 1)]) (S' := [.int (0 : Int32)]) (σ' := (97, I, J, R)) rfl ?_
            refine az_E.ret (v := some (.int (0 : Int32))) (σ' := (97, I, J, R)) rfl ?_
            show az_E az_F ex 2 128 69 [.retAddr 0, .retAddr 0, .int v2, .retAddr 0, .int v4, .int v5, .ref 67, .ref 65] [.int (0 : Int32)] (97, I, J, R) _
            refine az_E.br (c := (0 : Int32) = 0) (tt := 72) (ff := 75) (L' := [.retAddr 0, .retAddr 0, .int v2, .retAddr 0, .int v4, .int v5, .ref 67, .ref 65]) (S' := []) (σ' := (97, I, J, R)) rfl (fun _ => ?_) (fun hn => absurd (by decide) hn)
            refine az_E.sn 1 (pc' := 74) (L' := [.retAddr 0, .retAddr 0, .int v2, .retAddr 0, .int v4, .int v5, .ref 67, .ref 65]) (S' := [.int (-12 : Int32)]) (σ' := (97, I, J, R)) rfl ?_
            have h := Option.some.inj h
            subst h
            exact az_E.ret (v := some (.int (-12 : Int32))) (σ' := (97, I, J, R)) rfl hQ
          · rw [if_neg hc_1121] at h
            refine az_E.sn 2 (pc' := 13) (L' := [.ref 65]) (S' := [.int (1 : Int32)]) (σ' := (97, I, J, R)) rfl ?_
            refine az_E.ret (v := some (.int (1 : Int32))) (σ' := (97, I, J, R)) rfl ?_
            show az_E az_F ex 1 56 4 [.ref 65, .int (I 67 1)] [.int (1 : Int32)] (97, I, J, R) _
            refine az_E.br (c := (1 : Int32) = 0) (tt := 19) (ff := 7) (L' := [.ref 65, .int (I 67 1)]) (S' := []) (σ' := (97, I, J, R)) rfl (fun hn => absurd hn (by decide)) (fun _ => ?_)
            refine az_E.sn 3 (pc' := 12) (L' := [.ref 65, .int (I 67 1)]) (S' := [.int (I 67 1), .int (I 65 1)]) (σ' := (97, I, J, R)) rfl ?_
            refine az_E.br (c := (I 65 1) = (I 67 1)) (tt := 15) (ff := 19) (L' := [.ref 65, .int (I 67 1)]) (S' := []) (σ' := (97, I, J, R)) rfl (fun hc_1122 => ?_) (fun hc_1122 => ?_)
            · rw [if_pos hc_1122] at h
              refine az_E.sn 2 (pc' := 20) (L' := [.ref 65, .int (I 67 1)]) (S' := [.int (1 : Int32)]) (σ' := (97, I, J, R)) rfl ?_
              refine az_E.ret (v := some (.int (1 : Int32))) (σ' := (97, I, J, R)) rfl ?_
              show az_E az_F ex 2 128 69 [.retAddr 0, .retAddr 0, .int v2, .retAddr 0, .int v4, .int v5, .ref 67, .ref 65] [.int (1 : Int32)] (97, I, J, R) _
              refine az_E.br (c := (1 : Int32) = 0) (tt := 72) (ff := 75) (L' := [.retAddr 0, .retAddr 0, .int v2, .retAddr 0, .int v4, .int v5, .ref 67, .ref 65]) (S' := []) (σ' := (97, I, J, R)) rfl (fun hn => absurd hn (by decide)) (fun _ => ?_)
              refine az_E.sn 3 (pc' := 80) (L' := [.retAddr 0, .retAddr 0, .int v2, .retAddr 0, .int v4, .int v5, .ref 67, .ref 65]) (S' := [.int v5, .int v2, .ref 67]) (σ' := (97, I, J, R)) rfl ?_
              refine az_E.call (d := 1) (k' := 60) (vs := [.ref 67, .int v2, .int v5]) (pc' := 83) (S' := []) rfl ?_ (fun _ _ hq => hq)
              show az_E az_F ex 1 60 0 [.ref 67, .int v2, .int v5] [] (97, I, J, R) _
              refine az_E.sn 1 (pc' := 1) (L' := [.ref 67, .int v2, .int v5]) (S' := [.int v2]) (σ' := (97, I, J, R)) rfl ?_
              refine az_E.br (c := v2 < 0) (tt := 30) (ff := 4) (L' := [.ref 67, .int v2, .int v5]) (S' := []) (σ' := (97, I, J, R)) rfl (fun hc_1123 => ?_) (fun hc_1123 => ?_)
              · rw [if_pos hc_1123] at h
                refine az_E.sn 1 (pc' := 31) (L' := [.ref 67, .int v2, .int v5]) (S' := [.int (0 : Int32)]) (σ' := (97, I, J, R)) rfl ?_
                refine az_E.ret (v := some (.int (0 : Int32))) (σ' := (97, I, J, R)) rfl ?_
                show az_E az_F ex 2 128 83 [.retAddr 0, .retAddr 0, .int v2, .retAddr 0, .int v4, .int v5, .ref 67, .ref 65] [.int (0 : Int32)] (97, I, J, R) _
                refine az_E.br (c := (0 : Int32) = 0) (tt := 98) (ff := 86) (L' := [.retAddr 0, .retAddr 0, .int v2, .retAddr 0, .int v4, .int v5, .ref 67, .ref 65]) (S' := []) (σ' := (97, I, J, R)) rfl (fun _ => ?_) (fun hn => absurd (by decide) hn)
                refine az_E.sn 1 (pc' := 100) (L' := [.retAddr 0, .retAddr 0, .int v2, .retAddr 0, .int v4, .int v5, .ref 67, .ref 65]) (S' := [.int (-13 : Int32)]) (σ' := (97, I, J, R)) rfl ?_
                have h := Option.some.inj h
                subst h
                exact az_E.ret (v := some (.int (-13 : Int32))) (σ' := (97, I, J, R)) rfl hQ
              · rw [if_neg hc_1123] at h
                refine az_E.sn 1 (pc' := 5) (L' := [.ref 67, .int v2, .int v5]) (S' := [.int v5]) (σ' := (97, I, J, R)) rfl ?_
                refine az_E.br (c := v5 < 0) (tt := 30) (ff := 8) (L' := [.ref 67, .int v2, .int v5]) (S' := []) (σ' := (97, I, J, R)) rfl (fun hc_1124 => ?_) (fun hc_1124 => ?_)
                · rw [if_pos hc_1124] at h
                  refine az_E.sn 1 (pc' := 31) (L' := [.ref 67, .int v2, .int v5]) (S' := [.int (0 : Int32)]) (σ' := (97, I, J, R)) rfl ?_
                  refine az_E.ret (v := some (.int (0 : Int32))) (σ' := (97, I, J, R)) rfl ?_
                  show az_E az_F ex 2 128 83 [.retAddr 0, .retAddr 0, .int v2, .retAddr 0, .int v4, .int v5, .ref 67, .ref 65] [.int (0 : Int32)] (97, I, J, R) _
                  refine az_E.br (c := (0 : Int32) = 0) (tt := 98) (ff := 86) (L' := [.retAddr 0, .retAddr 0, .int v2, .retAddr 0, .int v4, .int v5, .ref 67, .ref 65]) (S' := []) (σ' := (97, I, J, R)) rfl (fun _ => ?_) (fun hn => absurd (by decide) hn)
                  refine az_E.sn 1 (pc' := 100) (L' := [.retAddr 0, .retAddr 0, .int v2, .retAddr 0, .int v4, .int v5, .ref 67, .ref 65]) (S' := [.int (-13 : Int32)]) (σ' := (97, I, J, R)) rfl ?_
                  have h := Option.some.inj h
                  subst h
                  exact az_E.ret (v := some (.int (-13 : Int32))) (σ' := (97, I, J, R)) rfl hQ
                · rw [if_neg hc_1124] at h
                  refine az_E.sn 3 (pc' := 13) (L' := [.ref 67, .int v2, .int v5]) (S' := [.int (I 67 2), .int v2]) (σ' := (97, I, J, R)) rfl ?_
                  refine az_E.br (c := (I 67 2) < v2) (tt := 30) (ff := 16) (L' := [.ref 67, .int v2, .int v5]) (S' := []) (σ' := (97, I, J, R)) rfl (fun hc_1125 => ?_) (fun hc_1125 => ?_)
                  · rw [if_pos hc_1125] at h
                    refine az_E.sn 1 (pc' := 31) (L' := [.ref 67, .int v2, .int v5]) (S' := [.int (0 : Int32)]) (σ' := (97, I, J, R)) rfl ?_
                    refine az_E.ret (v := some (.int (0 : Int32))) (σ' := (97, I, J, R)) rfl ?_
                    show az_E az_F ex 2 128 83 [.retAddr 0, .retAddr 0, .int v2, .retAddr 0, .int v4, .int v5, .ref 67, .ref 65] [.int (0 : Int32)] (97, I, J, R) _
                    refine az_E.br (c := (0 : Int32) = 0) (tt := 98) (ff := 86) (L' := [.retAddr 0, .retAddr 0, .int v2, .retAddr 0, .int v4, .int v5, .ref 67, .ref 65]) (S' := []) (σ' := (97, I, J, R)) rfl (fun _ => ?_) (fun hn => absurd (by decide) hn)
                    refine az_E.sn 1 (pc' := 100) (L' := [.retAddr 0, .retAddr 0, .int v2, .retAddr 0, .int v4, .int v5, .ref 67, .ref 65]) (S' := [.int (-13 : Int32)]) (σ' := (97, I, J, R)) rfl ?_
                    have h := Option.some.inj h
                    subst h
                    exact az_E.ret (v := some (.int (-13 : Int32))) (σ' := (97, I, J, R)) rfl hQ
                  · rw [if_neg hc_1125] at h
                    refine az_E.sn 5 (pc' := 23) (L' := [.ref 67, .int v2, .int v5]) (S' := [.int ((I 67 2) - v2), .int v5]) (σ' := (97, I, J, R)) rfl ?_
                    refine az_E.br (c := ((I 67 2) - v2) < v5) (tt := 30) (ff := 26) (L' := [.ref 67, .int v2, .int v5]) (S' := []) (σ' := (97, I, J, R)) rfl (fun hc_1126 => ?_) (fun hc_1126 => ?_)
                    · rw [if_pos hc_1126] at h
                      refine az_E.sn 1 (pc' := 31) (L' := [.ref 67, .int v2, .int v5]) (S' := [.int (0 : Int32)]) (σ' := (97, I, J, R)) rfl ?_
                      refine az_E.ret (v := some (.int (0 : Int32))) (σ' := (97, I, J, R)) rfl ?_
                      show az_E az_F ex 2 128 83 [.retAddr 0, .retAddr 0, .int v2, .retAddr 0, .int v4, .int v5, .ref 67, .ref 65] [.int (0 : Int32)] (97, I, J, R) _
                      refine az_E.br (c := (0 : Int32) = 0) (tt := 98) (ff := 86) (L' := [.retAddr 0, .retAddr 0, .int v2, .retAddr 0, .int v4, .int v5, .ref 67, .ref 65]) (S' := []) (σ' := (97, I, J, R)) rfl (fun _ => ?_) (fun hn => absurd (by decide) hn)
                      refine az_E.sn 1 (pc' := 100) (L' := [.retAddr 0, .retAddr 0, .int v2, .retAddr 0, .int v4, .int v5, .ref 67, .ref 65]) (S' := [.int (-13 : Int32)]) (σ' := (97, I, J, R)) rfl ?_
                      have h := Option.some.inj h
                      subst h
                      exact az_E.ret (v := some (.int (-13 : Int32))) (σ' := (97, I, J, R)) rfl hQ
                    · rw [if_neg hc_1126] at h
                      refine az_E.sn 2 (pc' := 31) (L' := [.ref 67, .int v2, .int v5]) (S' := [.int (1 : Int32)]) (σ' := (97, I, J, R)) rfl ?_
                      refine az_E.ret (v := some (.int (1 : Int32))) (σ' := (97, I, J, R)) rfl ?_
                      show az_E az_F ex 2 128 83 [.retAddr 0, .retAddr 0, .int v2, .retAddr 0, .int v4, .int v5, .ref 67, .ref 65] [.int (1 : Int32)] (97, I, J, R) _
                      refine az_E.br (c := (1 : Int32) = 0) (tt := 98) (ff := 86) (L' := [.retAddr 0, .retAddr 0, .int v2, .retAddr 0, .int v4, .int v5, .ref 67, .ref 65]) (S' := []) (σ' := (97, I, J, R)) rfl (fun hn => absurd hn (by decide)) (fun _ => ?_)
                      refine az_E.sn 3 (pc' := 92) (L' := [.retAddr 0, .retAddr 0, .int v2, .retAddr 0, .int v4, .int v5, .ref 67, .ref 65]) (S' := [.int v5, .int v4, .ref 65]) (σ' := (97, I, J, R)) rfl ?_
                      refine az_E.call (d := 1) (k' := 60) (vs := [.ref 65, .int v4, .int v5]) (pc' := 95) (S' := []) rfl ?_ (fun _ _ hq => hq)
                      show az_E az_F ex 1 60 0 [.ref 65, .int v4, .int v5] [] (97, I, J, R) _
                      refine az_E.sn 1 (pc' := 1) (L' := [.ref 65, .int v4, .int v5]) (S' := [.int v4]) (σ' := (97, I, J, R)) rfl ?_
                      refine az_E.br (c := v4 < 0) (tt := 30) (ff := 4) (L' := [.ref 65, .int v4, .int v5]) (S' := []) (σ' := (97, I, J, R)) rfl (fun hc_1127 => ?_) (fun hc_1127 => ?_)
                      · rw [if_pos hc_1127] at h
                        refine az_E.sn 1 (pc' := 31) (L' := [.ref 65, .int v4, .int v5]) (S' := [.int (0 : Int32)]) (σ' := (97, I, J, R)) rfl ?_
                        refine az_E.ret (v := some (.int (0 : Int32))) (σ' := (97, I, J, R)) rfl ?_
                        show az_E az_F ex 2 128 95 [.retAddr 0, .retAddr 0, .int v2, .retAddr 0, .int v4, .int v5, .ref 67, .ref 65] [.int (0 : Int32)] (97, I, J, R) _
                        refine az_E.br (c := (0 : Int32) = 0) (tt := 98) (ff := 101) (L' := [.retAddr 0, .retAddr 0, .int v2, .retAddr 0, .int v4, .int v5, .ref 67, .ref 65]) (S' := []) (σ' := (97, I, J, R)) rfl (fun _ => ?_) (fun hn => absurd (by decide) hn)
                        refine az_E.sn 1 (pc' := 100) (L' := [.retAddr 0, .retAddr 0, .int v2, .retAddr 0, .int v4, .int v5, .ref 67, .ref 65]) (S' := [.int (-13 : Int32)]) (σ' := (97, I, J, R)) rfl ?_
                        have h := Option.some.inj h
                        subst h
                        exact az_E.ret (v := some (.int (-13 : Int32))) (σ' := (97, I, J, R)) rfl hQ
                      · rw [if_neg hc_1127] at h
                        refine az_E.sn 1 (pc' := 5) (L' := [.ref 65, .int v4, .int v5]) (S' := [.int v5]) (σ' := (97, I, J, R)) rfl ?_
                        refine az_E.br (c := v5 < 0) (tt := 30) (ff := 8) (L' := [.ref 65, .int v4, .int v5]) (S' := []) (σ' := (97, I, J, R)) rfl (fun hc_1128 => ?_) (fun hc_1128 => ?_)
                        · rw [if_pos hc_1128] at h
                          refine az_E.sn 1 (pc' := 31) (L' := [.ref 65, .int v4, .int v5]) (S' := [.int (0 : Int32)]) (σ' := (97, I, J, R)) rfl ?_
                          refine az_E.ret (v := some (.int (0 : Int32))) (σ' := (97, I, J, R)) rfl ?_
                          show az_E az_F ex 2 128 95 [.retAddr 0, .retAddr 0, .int v2, .retAddr 0, .int v4, .int v5, .ref 67, .ref 65] [.int (0 : Int32)] (97, I, J, R) _
                          refine az_E.br (c := (0 : Int32) = 0) (tt := 98) (ff := 101) (L' := [.retAddr 0, .retAddr 0, .int v2, .retAddr 0, .int v4, .int v5, .ref 67, .ref 65]) (S' := []) (σ' := (97, I, J, R)) rfl (fun _ => ?_) (fun hn => absurd (by decide) hn)
                          refine az_E.sn 1 (pc' := 100) (L' := [.retAddr 0, .retAddr 0, .int v2, .retAddr 0, .int v4, .int v5, .ref 67, .ref 65]) (S' := [.int (-13 : Int32)]) (σ' := (97, I, J, R)) rfl ?_
                          have h := Option.some.inj h
                          subst h
                          exact az_E.ret (v := some (.int (-13 : Int32))) (σ' := (97, I, J, R)) rfl hQ
                        · rw [if_neg hc_1128] at h
                          refine az_E.sn 3 (pc' := 13) (L' := [.ref 65, .int v4, .int v5]) (S' := [.int (I 65 2), .int v4]) (σ' := (97, I, J, R)) rfl ?_
                          refine az_E.br (c := (I 65 2) < v4) (tt := 30) (ff := 16) (L' := [.ref 65, .int v4, .int v5]) (S' := []) (σ' := (97, I, J, R)) rfl (fun hc_1129 => ?_) (fun hc_1129 => ?_)
                          · rw [if_pos hc_1129] at h
                            refine az_E.sn 1 (pc' := 31) (L' := [.ref 65, .int v4, .int v5]) (S' := [.int (0 : Int32)]) (σ' := (97, I, J, R)) rfl ?_
                            refine az_E.ret (v := some (.int (0 : Int32))) (σ' := (97, I, J, R)) rfl ?_
                            show az_E az_F ex 2 128 95 [.retAddr 0, .retAddr 0, .int v2, .retAddr 0, .int v4, .int v5, .ref 67, .ref 65] [.int (0 : Int32)] (97, I, J, R) _
                            refine az_E.br (c := (0 : Int32) = 0) (tt := 98) (ff := 101) (L' := [.retAddr 0, .retAddr 0, .int v2, .retAddr 0, .int v4, .int v5, .ref 67, .ref 65]) (S' := []) (σ' := (97, I, J, R)) rfl (fun _ => ?_) (fun hn => absurd (by decide) hn)
                            refine az_E.sn 1 (pc' := 100) (L' := [.retAddr 0, .retAddr 0, .int v2, .retAddr 0, .int v4, .int v5, .ref 67, .ref 65]) (S' := [.int (-13 : Int32)]) (σ' := (97, I, J, R)) rfl ?_
                            have h := Option.some.inj h
                            subst h
                            exact az_E.ret (v := some (.int (-13 : Int32))) (σ' := (97, I, J, R)) rfl hQ
                          · rw [if_neg hc_1129] at h
                            refine az_E.sn 5 (pc' := 23) (L' := [.ref 65, .int v4, .int v5]) (S' := [.int ((I 65 2) - v4), .int v5]) (σ' := (97, I, J, R)) rfl ?_
                            refine az_E.br (c := ((I 65 2) - v4) < v5) (tt := 30) (ff := 26) (L' := [.ref 65, .int v4, .int v5]) (S' := []) (σ' := (97, I, J, R)) rfl (fun hc_1130 => ?_) (fun hc_1130 => ?_)
                            · rw [if_pos hc_1130] at h
                              refine az_E.sn 1 (pc' := 31) (L' := [.ref 65, .int v4, .int v5]) (S' := [.int (0 : Int32)]) (σ' := (97, I, J, R)) rfl ?_
                              refine az_E.ret (v := some (.int (0 : Int32))) (σ' := (97, I, J, R)) rfl ?_
                              show az_E az_F ex 2 128 95 [.retAddr 0, .retAddr 0, .int v2, .retAddr 0, .int v4, .int v5, .ref 67, .ref 65] [.int (0 : Int32)] (97, I, J, R) _
                              refine az_E.br (c := (0 : Int32) = 0) (tt := 98) (ff := 101) (L' := [.retAddr 0, .retAddr 0, .int v2, .retAddr 0, .int v4, .int v5, .ref 67, .ref 65]) (S' := []) (σ' := (97, I, J, R)) rfl (fun _ => ?_) (fun hn => absurd (by decide) hn)
                              refine az_E.sn 1 (pc' := 100) (L' := [.retAddr 0, .retAddr 0, .int v2, .retAddr 0, .int v4, .int v5, .ref 67, .ref 65]) (S' := [.int (-13 : Int32)]) (σ' := (97, I, J, R)) rfl ?_
                              have h := Option.some.inj h
                              subst h
                              exact az_E.ret (v := some (.int (-13 : Int32))) (σ' := (97, I, J, R)) rfl hQ
                            · rw [if_neg hc_1130] at h
                              refine az_E.sn 2 (pc' := 31) (L' := [.ref 65, .int v4, .int v5]) (S' := [.int (1 : Int32)]) (σ' := (97, I, J, R)) rfl ?_
                              refine az_E.ret (v := some (.int (1 : Int32))) (σ' := (97, I, J, R)) rfl ?_
                              show az_E az_F ex 2 128 95 [.retAddr 0, .retAddr 0, .int v2, .retAddr 0, .int v4, .int v5, .ref 67, .ref 65] [.int (1 : Int32)] (97, I, J, R) _
                              refine az_E.br (c := (1 : Int32) = 0) (tt := 98) (ff := 101) (L' := [.retAddr 0, .retAddr 0, .int v2, .retAddr 0, .int v4, .int v5, .ref 67, .ref 65]) (S' := []) (σ' := (97, I, J, R)) rfl (fun hn => absurd hn (by decide)) (fun _ => ?_)
                              refine az_E.sn 7 (pc' := 116) (L' := [.retAddr 0, .retAddr 0, .int v2, .retAddr 0, .int v4, .int v5, .ref 67, .ref 65]) (S' := [.int v5, .int v4, .ref (65 + 1), .int v2, .ref (67 + 1)]) (σ' := (97, I, J, R)) rfl ?_
                              by_cases hc_1131 : v2 < 0 ∨ v4 < 0 ∨ v5 < 0 ∨ 60 < v2.toNatClampNeg + v5.toNatClampNeg ∨ 60 < v4.toNatClampNeg + v5.toNatClampNeg
                              · rw [if_pos hc_1131] at h; cases h
                              · rw [if_neg hc_1131] at h
                                refine az_E.o (o := az_cp az_F (97, I, J, R) (67 + 1) v2 (65 + 1) v4 v5) (pc' := 119) (L' := [.retAddr 0, .retAddr 0, .int v2, .retAddr 0, .int v4, .int v5, .ref 67, .ref 65]) (S' := []) (x := (97, I, (az_ur J (65 + 1) (va_cpy (J (67 + 1)) (J (65 + 1)) v2.toNatClampNeg v4.toNatClampNeg v5.toNatClampNeg)), R)) rfl (if_neg hc_1131) ?_
                                refine az_E.sn 1 (pc' := 121) (L' := [.retAddr 0, .retAddr 0, .int v2, .retAddr 0, .int v4, .int v5, .ref 67, .ref 65]) (S' := [.int v5]) (σ' := (97, I, (az_ur J (65 + 1) (va_cpy (J (67 + 1)) (J (65 + 1)) v2.toNatClampNeg v4.toNatClampNeg v5.toNatClampNeg)), R)) rfl ?_
                                have h := Option.some.inj h
                                subst h
                                exact az_E.ret (v := some (.int v5)) (σ' := (97, I, (az_ur J (65 + 1) (va_cpy (J (67 + 1)) (J (65 + 1)) v2.toNatClampNeg v4.toNatClampNeg v5.toNatClampNeg)), R)) rfl hQ
            · rw [if_neg hc_1122] at h
              refine az_E.sn 1 (pc' := 20) (L' := [.ref 65, .int (I 67 1)]) (S' := [.int (0 : Int32)]) (σ' := (97, I, J, R)) rfl ?_
              refine az_E.ret (v := some (.int (0 : Int32))) (σ' := (97, I, J, R)) rfl ?_
              show az_E az_F ex 2 128 69 [.retAddr 0, .retAddr 0, .int v2, .retAddr 0, .int v4, .int v5, .ref 67, .ref 65] [.int (0 : Int32)] (97, I, J, R) _
              refine az_E.br (c := (0 : Int32) = 0) (tt := 72) (ff := 75) (L' := [.retAddr 0, .retAddr 0, .int v2, .retAddr 0, .int v4, .int v5, .ref 67, .ref 65]) (S' := []) (σ' := (97, I, J, R)) rfl (fun _ => ?_) (fun hn => absurd (by decide) hn)
              refine az_E.sn 1 (pc' := 74) (L' := [.retAddr 0, .retAddr 0, .int v2, .retAddr 0, .int v4, .int v5, .ref 67, .ref 65]) (S' := [.int (-12 : Int32)]) (σ' := (97, I, J, R)) rfl ?_
              have h := Option.some.inj h
              subst h
              exact az_E.ret (v := some (.int (-12 : Int32))) (σ' := (97, I, J, R)) rfl hQ
    · rw [if_neg hc_1118] at h
      refine az_E.sn 1 (pc' := 21) (L' := [.ref 65]) (S' := [.int (0 : Int32)]) (σ' := (97, I, J, R)) rfl ?_
      refine az_E.ret (v := some (.int (0 : Int32))) (σ' := (97, I, J, R)) rfl ?_
      show az_E az_F ex 2 128 45 [.retAddr 0, .retAddr 0, .int v2, .retAddr 0, .int v4, .int v5, .ref 67, .ref 65] [.int (0 : Int32)] (97, I, J, R) _
      refine az_E.br (c := (0 : Int32) = 0) (tt := 51) (ff := 48) (L' := [.retAddr 0, .retAddr 0, .int v2, .retAddr 0, .int v4, .int v5, .ref 67, .ref 65]) (S' := []) (σ' := (97, I, J, R)) rfl (fun _ => ?_) (fun hn => absurd (by decide) hn)
      refine az_E.sn 1 (pc' := 53) (L' := [.retAddr 0, .retAddr 0, .int v2, .retAddr 0, .int v4, .int v5, .ref 67, .ref 65]) (S' := [.ref 67]) (σ' := (97, I, J, R)) rfl ?_
      refine az_E.call (d := 1) (k' := 55) (vs := [.ref 67]) (pc' := 56) (S' := []) rfl ?_ (fun _ _ hq => hq)
      show az_E az_F ex 1 55 0 [.ref 67] [] (97, I, J, R) _
      refine az_E.sn 3 (pc' := 5) (L' := [.ref 67]) (S' := [.int (-1 : Int32), .int (I 67 1)]) (σ' := (97, I, J, R)) rfl ?_
      refine az_E.br (c := (I 67 1) = (-1 : Int32)) (tt := 12) (ff := 8) (L' := [.ref 67]) (S' := []) (σ' := (97, I, J, R)) rfl (fun hc_1132 => ?_) (fun hc_1132 => ?_)
      · rw [if_pos hc_1132] at h
        refine az_E.sn 1 (pc' := 13) (L' := [.ref 67]) (S' := [.int (0 : Int32)]) (σ' := (97, I, J, R)) rfl ?_
        refine az_E.ret (v := some (.int (0 : Int32))) (σ' := (97, I, J, R)) rfl ?_
        show az_E az_F ex 2 128 56 [.retAddr 0, .retAddr 0, .int v2, .retAddr 0, .int v4, .int v5, .ref 67, .ref 65] [.int (0 : Int32)] (97, I, J, R) _
        refine az_E.br (c := (0 : Int32) = 0) (tt := 72) (ff := 59) (L' := [.retAddr 0, .retAddr 0, .int v2, .retAddr 0, .int v4, .int v5, .ref 67, .ref 65]) (S' := []) (σ' := (97, I, J, R)) rfl (fun _ => ?_) (fun hn => absurd (by decide) hn)
        refine az_E.sn 1 (pc' := 74) (L' := [.retAddr 0, .retAddr 0, .int v2, .retAddr 0, .int v4, .int v5, .ref 67, .ref 65]) (S' := [.int (-12 : Int32)]) (σ' := (97, I, J, R)) rfl ?_
        have h := Option.some.inj h
        subst h
        exact az_E.ret (v := some (.int (-12 : Int32))) (σ' := (97, I, J, R)) rfl hQ
      · rw [if_neg hc_1132] at h
        refine az_E.sn 2 (pc' := 13) (L' := [.ref 67]) (S' := [.int (1 : Int32)]) (σ' := (97, I, J, R)) rfl ?_
        refine az_E.ret (v := some (.int (1 : Int32))) (σ' := (97, I, J, R)) rfl ?_
        show az_E az_F ex 2 128 56 [.retAddr 0, .retAddr 0, .int v2, .retAddr 0, .int v4, .int v5, .ref 67, .ref 65] [.int (1 : Int32)] (97, I, J, R) _
        refine az_E.br (c := (1 : Int32) = 0) (tt := 72) (ff := 59) (L' := [.retAddr 0, .retAddr 0, .int v2, .retAddr 0, .int v4, .int v5, .ref 67, .ref 65]) (S' := []) (σ' := (97, I, J, R)) rfl (fun hn => absurd hn (by decide)) (fun _ => ?_)
        refine az_E.sn 3 (pc' := 66) (L' := [.retAddr 0, .retAddr 0, .int v2, .retAddr 0, .int v4, .int v5, .ref 67, .ref 65]) (S' := [.int (I 67 1), .ref 65]) (σ' := (97, I, J, R)) rfl ?_
        refine az_E.call (d := 1) (k' := 56) (vs := [.ref 65, .int (I 67 1)]) (pc' := 69) (S' := []) rfl ?_ (fun _ _ hq => hq)
        show az_E az_F ex 1 56 0 [.ref 65, .int (I 67 1)] [] (97, I, J, R) _
        refine az_E.sn 1 (pc' := 1) (L' := [.ref 65, .int (I 67 1)]) (S' := [.ref 65]) (σ' := (97, I, J, R)) rfl ?_
        refine az_E.call (d := 0) (k' := 55) (vs := [.ref 65]) (pc' := 4) (S' := []) rfl ?_ (fun _ _ hq => hq)
        show az_E az_F ex 0 55 0 [.ref 65] [] (97, I, J, R) _
        refine az_E.sn 3 (pc' := 5) (L' := [.ref 65]) (S' := [.int (-1 : Int32), .int (I 65 1)]) (σ' := (97, I, J, R)) rfl ?_
        refine az_E.br (c := (I 65 1) = (-1 : Int32)) (tt := 12) (ff := 8) (L' := [.ref 65]) (S' := []) (σ' := (97, I, J, R)) rfl (fun hc_1133 => ?_) (fun hc_1133 => ?_)
        · rw [if_pos hc_1133] at h
          refine az_E.sn 1 (pc' := 13) (L' := [.ref 65]) (S' := [.int (0 : Int32)]) (σ' := (97, I, J, R)) rfl ?_
          refine az_E.ret (v := some (.int (0 : Int32))) (σ' := (97, I, J, R)) rfl ?_
          show az_E az_F ex 1 56 4 [.ref 65, .int (I 67 1)] [.int (0 : Int32)] (97, I, J, R) _
          refine az_E.br (c := (0 : Int32) = 0) (tt := 19) (ff := 7) (L' := [.ref 65, .int (I 67 1)]) (S' := []) (σ' := (97, I, J, R)) rfl (fun _ => ?_) (fun hn => absurd (by decide) hn)
          refine az_E.sn 1 (pc' := 20) (L' := [.ref 65, .int (I 67 1)]) (S' := [.int (0 : Int32)]) (σ' := (97, I, J, R)) rfl ?_
          refine az_E.ret (v := some (.int (0 : Int32))) (σ' := (97, I, J, R)) rfl ?_
          show az_E az_F ex 2 128 69 [.retAddr 0, .retAddr 0, .int v2, .retAddr 0, .int v4, .int v5, .ref 67, .ref 65] [.int (0 : Int32)] (97, I, J, R) _
          refine az_E.br (c := (0 : Int32) = 0) (tt := 72) (ff := 75) (L' := [.retAddr 0, .retAddr 0, .int v2, .retAddr 0, .int v4, .int v5, .ref 67, .ref 65]) (S' := []) (σ' := (97, I, J, R)) rfl (fun _ => ?_) (fun hn => absurd (by decide) hn)
          refine az_E.sn 1 (pc' := 74) (L' := [.retAddr 0, .retAddr 0, .int v2, .retAddr 0, .int v4, .int v5, .ref 67, .ref 65]) (S' := [.int (-12 : Int32)]) (σ' := (97, I, J, R)) rfl ?_
          have h := Option.some.inj h
          subst h
          exact az_E.ret (v := some (.int (-12 : Int32))) (σ' := (97, I, J, R)) rfl hQ
        · rw [if_neg hc_1133] at h
          refine az_E.sn 2 (pc' := 13) (L' := [.ref 65]) (S' := [.int (1 : Int32)]) (σ' := (97, I, J, R)) rfl ?_
          refine az_E.ret (v := some (.int (1 : Int32))) (σ' := (97, I, J, R)) rfl ?_
          show az_E az_F ex 1 56 4 [.ref 65, .int (I 67 1)] [.int (1 : Int32)] (97, I, J, R) _
          refine az_E.br (c := (1 : Int32) = 0) (tt := 19) (ff := 7) (L' := [.ref 65, .int (I 67 1)]) (S' := []) (σ' := (97, I, J, R)) rfl (fun hn => absurd hn (by decide)) (fun _ => ?_)
          refine az_E.sn 3 (pc' := 12) (L' := [.ref 65, .int (I 67 1)]) (S' := [.int (I 67 1), .int (I 65 1)]) (σ' := (97, I, J, R)) rfl ?_
          refine az_E.br (c := (I 65 1) = (I 67 1)) (tt := 15) (ff := 19) (L' := [.ref 65, .int (I 67 1)]) (S' := []) (σ' := (97, I, J, R)) rfl (fun hc_1134 => ?_) (fun hc_1134 => ?_)
          · rw [if_pos hc_1134] at h
            refine az_E.sn 2 (pc' := 20) (L' := [.ref 65, .int (I 67 1)]) (S' := [.int (1 : Int32)]) (σ' := (97, I, J, R)) rfl ?_
            refine az_E.ret (v := some (.int (1 : Int32))) (σ' := (97, I, J, R)) rfl ?_
            show az_E az_F ex 2 128 69 [.retAddr 0, .retAddr 0, .int v2, .retAddr 0, .int v4, .int v5, .ref 67, .ref 65] [.int (1 : Int32)] (97, I, J, R) _
            refine az_E.br (c := (1 : Int32) = 0) (tt := 72) (ff := 75) (L' := [.retAddr 0, .retAddr 0, .int v2, .retAddr 0, .int v4, .int v5, .ref 67, .ref 65]) (S' := []) (σ' := (97, I, J, R)) rfl (fun hn => absurd hn (by decide)) (fun _ => ?_)
            refine az_E.sn 3 (pc' := 80) (L' := [.retAddr 0, .retAddr 0, .int v2, .retAddr 0, .int v4, .int v5, .ref 67, .ref 65]) (S' := [.int v5, .int v2, .ref 67]) (σ' := (97, I, J, R)) rfl ?_
            refine az_E.call (d := 1) (k' := 60) (vs := [.ref 67, .int v2, .int v5]) (pc' := 83) (S' := []) rfl ?_ (fun _ _ hq => hq)
            show az_E az_F ex 1 60 0 [.ref 67, .int v2, .int v5] [] (97, I, J, R) _
            refine az_E.sn 1 (pc' := 1) (L' := [.ref 67, .int v2, .int v5]) (S' := [.int v2]) (σ' := (97, I, J, R)) rfl ?_
            refine az_E.br (c := v2 < 0) (tt := 30) (ff := 4) (L' := [.ref 67, .int v2, .int v5]) (S' := []) (σ' := (97, I, J, R)) rfl (fun hc_1135 => ?_) (fun hc_1135 => ?_)
            · rw [if_pos hc_1135] at h
              refine az_E.sn 1 (pc' := 31) (L' := [.ref 67, .int v2, .int v5]) (S' := [.int (0 : Int32)]) (σ' := (97, I, J, R)) rfl ?_
              refine az_E.ret (v := some (.int (0 : Int32))) (σ' := (97, I, J, R)) rfl ?_
              show az_E az_F ex 2 128 83 [.retAddr 0, .retAddr 0, .int v2, .retAddr 0, .int v4, .int v5, .ref 67, .ref 65] [.int (0 : Int32)] (97, I, J, R) _
              refine az_E.br (c := (0 : Int32) = 0) (tt := 98) (ff := 86) (L' := [.retAddr 0, .retAddr 0, .int v2, .retAddr 0, .int v4, .int v5, .ref 67, .ref 65]) (S' := []) (σ' := (97, I, J, R)) rfl (fun _ => ?_) (fun hn => absurd (by decide) hn)
              refine az_E.sn 1 (pc' := 100) (L' := [.retAddr 0, .retAddr 0, .int v2, .retAddr 0, .int v4, .int v5, .ref 67, .ref 65]) (S' := [.int (-13 : Int32)]) (σ' := (97, I, J, R)) rfl ?_
              have h := Option.some.inj h
              subst h
              exact az_E.ret (v := some (.int (-13 : Int32))) (σ' := (97, I, J, R)) rfl hQ
            · rw [if_neg hc_1135] at h
              refine az_E.sn 1 (pc' := 5) (L' := [.ref 67, .int v2, .int v5]) (S' := [.int v5]) (σ' := (97, I, J, R)) rfl ?_
              refine az_E.br (c := v5 < 0) (tt := 30) (ff := 8) (L' := [.ref 67, .int v2, .int v5]) (S' := []) (σ' := (97, I, J, R)) rfl (fun hc_1136 => ?_) (fun hc_1136 => ?_)
              · rw [if_pos hc_1136] at h
                refine az_E.sn 1 (pc' := 31) (L' := [.ref 67, .int v2, .int v5]) (S' := [.int (0 : Int32)]) (σ' := (97, I, J, R)) rfl ?_
                refine az_E.ret (v := some (.int (0 : Int32))) (σ' := (97, I, J, R)) rfl ?_
                show az_E az_F ex 2 128 83 [.retAddr 0, .retAddr 0, .int v2, .retAddr 0, .int v4, .int v5, .ref 67, .ref 65] [.int (0 : Int32)] (97, I, J, R) _
                refine az_E.br (c := (0 : Int32) = 0) (tt := 98) (ff := 86) (L' := [.retAddr 0, .retAddr 0, .int v2, .retAddr 0, .int v4, .int v5, .ref 67, .ref 65]) (S' := []) (σ' := (97, I, J, R)) rfl (fun _ => ?_) (fun hn => absurd (by decide) hn)
                refine az_E.sn 1 (pc' := 100) (L' := [.retAddr 0, .retAddr 0, .int v2, .retAddr 0, .int v4, .int v5, .ref 67, .ref 65]) (S' := [.int (-13 : Int32)]) (σ' := (97, I, J, R)) rfl ?_
                have h := Option.some.inj h
                subst h
                exact az_E.ret (v := some (.int (-13 : Int32))) (σ' := (97, I, J, R)) rfl hQ
              · rw [if_neg hc_1136] at h
                refine az_E.sn 3 (pc' := 13) (L' := [.ref 67, .int v2, .int v5]) (S' := [.int (I 67 2), .int v2]) (σ' := (97, I, J, R)) rfl ?_
                refine az_E.br (c := (I 67 2) < v2) (tt := 30) (ff := 16) (L' := [.ref 67, .int v2, .int v5]) (S' := []) (σ' := (97, I, J, R)) rfl (fun hc_1137 => ?_) (fun hc_1137 => ?_)
                · rw [if_pos hc_1137] at h
                  refine az_E.sn 1 (pc' := 31) (L' := [.ref 67, .int v2, .int v5]) (S' := [.int (0 : Int32)]) (σ' := (97, I, J, R)) rfl ?_
                  refine az_E.ret (v := some (.int (0 : Int32))) (σ' := (97, I, J, R)) rfl ?_
                  show az_E az_F ex 2 128 83 [.retAddr 0, .retAddr 0, .int v2, .retAddr 0, .int v4, .int v5, .ref 67, .ref 65] [.int (0 : Int32)] (97, I, J, R) _
                  refine az_E.br (c := (0 : Int32) = 0) (tt := 98) (ff := 86) (L' := [.retAddr 0, .retAddr 0, .int v2, .retAddr 0, .int v4, .int v5, .ref 67, .ref 65]) (S' := []) (σ' := (97, I, J, R)) rfl (fun _ => ?_) (fun hn => absurd (by decide) hn)
                  refine az_E.sn 1 (pc' := 100) (L' := [.retAddr 0, .retAddr 0, .int v2, .retAddr 0, .int v4, .int v5, .ref 67, .ref 65]) (S' := [.int (-13 : Int32)]) (σ' := (97, I, J, R)) rfl ?_
                  have h := Option.some.inj h
                  subst h
                  exact az_E.ret (v := some (.int (-13 : Int32))) (σ' := (97, I, J, R)) rfl hQ
                · rw [if_neg hc_1137] at h
                  refine az_E.sn 5 (pc' := 23) (L' := [.ref 67, .int v2, .int v5]) (S' := [.int ((I 67 2) - v2), .int v5]) (σ' := (97, I, J, R)) rfl ?_
                  refine az_E.br (c := ((I 67 2) - v2) < v5) (tt := 30) (ff := 26) (L' := [.ref 67, .int v2, .int v5]) (S' := []) (σ' := (97, I, J, R)) rfl (fun hc_1138 => ?_) (fun hc_1138 => ?_)
                  · rw [if_pos hc_1138] at h
                    refine az_E.sn 1 (pc' := 31) (L' := [.ref 67, .int v2, .int v5]) (S' := [.int (0 : Int32)]) (σ' := (97, I, J, R)) rfl ?_
                    refine az_E.ret (v := some (.int (0 : Int32))) (σ' := (97, I, J, R)) rfl ?_
                    show az_E az_F ex 2 128 83 [.retAddr 0, .retAddr 0, .int v2, .retAddr 0, .int v4, .int v5, .ref 67, .ref 65] [.int (0 : Int32)] (97, I, J, R) _
                    refine az_E.br (c := (0 : Int32) = 0) (tt := 98) (ff := 86) (L' := [.retAddr 0, .retAddr 0, .int v2, .retAddr 0, .int v4, .int v5, .ref 67, .ref 65]) (S' := []) (σ' := (97, I, J, R)) rfl (fun _ => ?_) (fun hn => absurd (by decide) hn)
                    refine az_E.sn 1 (pc' := 100) (L' := [.retAddr 0, .retAddr 0, .int v2, .retAddr 0, .int v4, .int v5, .ref 67, .ref 65]) (S' := [.int (-13 : Int32)]) (σ' := (97, I, J, R)) rfl ?_
                    have h := Option.some.inj h
                    subst h
                    exact az_E.ret (v := some (.int (-13 : Int32))) (σ' := (97, I, J, R)) rfl hQ
                  · rw [if_neg hc_1138] at h
                    refine az_E.sn 2 (pc' := 31) (L' := [.ref 67, .int v2, .int v5]) (S' := [.int (1 : Int32)]) (σ' := (97, I, J, R)) rfl ?_
                    refine az_E.ret (v := some (.int (1 : Int32))) (σ' := (97, I, J, R)) rfl ?_
                    show az_E az_F ex 2 128 83 [.retAddr 0, .retAddr 0, .int v2, .retAddr 0, .int v4, .int v5, .ref 67, .ref 65] [.int (1 : Int32)] (97, I, J, R) _
                    refine az_E.br (c := (1 : Int32) = 0) (tt := 98) (ff := 86) (L' := [.retAddr 0, .retAddr 0, .int v2, .retAddr 0, .int v4, .int v5, .ref 67, .ref 65]) (S' := []) (σ' := (97, I, J, R)) rfl (fun hn => absurd hn (by decide)) (fun _ => ?_)
                    refine az_E.sn 3 (pc' := 92) (L' := [.retAddr 0, .retAddr 0, .int v2, .retAddr 0, .int v4, .int v5, .ref 67, .ref 65]) (S' := [.int v5, .int v4, .ref 65]) (σ' := (97, I, J, R)) rfl ?_
                    refine az_E.call (d := 1) (k' := 60) (vs := [.ref 65, .int v4, .int v5]) (pc' := 95) (S' := []) rfl ?_ (fun _ _ hq => hq)
                    show az_E az_F ex 1 60 0 [.ref 65, .int v4, .int v5] [] (97, I, J, R) _
                    refine az_E.sn 1 (pc' := 1) (L' := [.ref 65, .int v4, .int v5]) (S' := [.int v4]) (σ' := (97, I, J, R)) rfl ?_
                    refine az_E.br (c := v4 < 0) (tt := 30) (ff := 4) (L' := [.ref 65, .int v4, .int v5]) (S' := []) (σ' := (97, I, J, R)) rfl (fun hc_1139 => ?_) (fun hc_1139 => ?_)
                    · rw [if_pos hc_1139] at h
                      refine az_E.sn 1 (pc' := 31) (L' := [.ref 65, .int v4, .int v5]) (S' := [.int (0 : Int32)]) (σ' := (97, I, J, R)) rfl ?_
                      refine az_E.ret (v := some (.int (0 : Int32))) (σ' := (97, I, J, R)) rfl ?_
                      show az_E az_F ex 2 128 95 [.retAddr 0, .retAddr 0, .int v2, .retAddr 0, .int v4, .int v5, .ref 67, .ref 65] [.int (0 : Int32)] (97, I, J, R) _
                      refine az_E.br (c := (0 : Int32) = 0) (tt := 98) (ff := 101) (L' := [.retAddr 0, .retAddr 0, .int v2, .retAddr 0, .int v4, .int v5, .ref 67, .ref 65]) (S' := []) (σ' := (97, I, J, R)) rfl (fun _ => ?_) (fun hn => absurd (by decide) hn)
                      refine az_E.sn 1 (pc' := 100) (L' := [.retAddr 0, .retAddr 0, .int v2, .retAddr 0, .int v4, .int v5, .ref 67, .ref 65]) (S' := [.int (-13 : Int32)]) (σ' := (97, I, J, R)) rfl ?_
                      have h := Option.some.inj h
                      subst h
                      exact az_E.ret (v := some (.int (-13 : Int32))) (σ' := (97, I, J, R)) rfl hQ
                    · rw [if_neg hc_1139] at h
                      refine az_E.sn 1 (pc' := 5) (L' := [.ref 65, .int v4, .int v5]) (S' := [.int v5]) (σ' := (97, I, J, R)) rfl ?_
                      refine az_E.br (c := v5 < 0) (tt := 30) (ff := 8) (L' := [.ref 65, .int v4, .int v5]) (S' := []) (σ' := (97, I, J, R)) rfl (fun hc_1140 => ?_) (fun hc_1140 => ?_)
                      · rw [if_pos hc_1140] at h
                        refine az_E.sn 1 (pc' := 31) (L' := [.ref 65, .int v4, .int v5]) (S' := [.int (0 : Int32)]) (σ' := (97, I, J, R)) rfl ?_
                        refine az_E.ret (v := some (.int (0 : Int32))) (σ' := (97, I, J, R)) rfl ?_
                        show az_E az_F ex 2 128 95 [.retAddr 0, .retAddr 0, .int v2, .retAddr 0, .int v4, .int v5, .ref 67, .ref 65] [.int (0 : Int32)] (97, I, J, R) _
                        refine az_E.br (c := (0 : Int32) = 0) (tt := 98) (ff := 101) (L' := [.retAddr 0, .retAddr 0, .int v2, .retAddr 0, .int v4, .int v5, .ref 67, .ref 65]) (S' := []) (σ' := (97, I, J, R)) rfl (fun _ => ?_) (fun hn => absurd (by decide) hn)
                        refine az_E.sn 1 (pc' := 100) (L' := [.retAddr 0, .retAddr 0, .int v2, .retAddr 0, .int v4, .int v5, .ref 67, .ref 65]) (S' := [.int (-13 : Int32)]) (σ' := (97, I, J, R)) rfl ?_
                        have h := Option.some.inj h
                        subst h
                        exact az_E.ret (v := some (.int (-13 : Int32))) (σ' := (97, I, J, R)) rfl hQ
                      · rw [if_neg hc_1140] at h
                        refine az_E.sn 3 (pc' := 13) (L' := [.ref 65, .int v4, .int v5]) (S' := [.int (I 65 2), .int v4]) (σ' := (97, I, J, R)) rfl ?_
                        refine az_E.br (c := (I 65 2) < v4) (tt := 30) (ff := 16) (L' := [.ref 65, .int v4, .int v5]) (S' := []) (σ' := (97, I, J, R)) rfl (fun hc_1141 => ?_) (fun hc_1141 => ?_)
                        · rw [if_pos hc_1141] at h
                          refine az_E.sn 1 (pc' := 31) (L' := [.ref 65, .int v4, .int v5]) (S' := [.int (0 : Int32)]) (σ' := (97, I, J, R)) rfl ?_
                          refine az_E.ret (v := some (.int (0 : Int32))) (σ' := (97, I, J, R)) rfl ?_
                          show az_E az_F ex 2 128 95 [.retAddr 0, .retAddr 0, .int v2, .retAddr 0, .int v4, .int v5, .ref 67, .ref 65] [.int (0 : Int32)] (97, I, J, R) _
                          refine az_E.br (c := (0 : Int32) = 0) (tt := 98) (ff := 101) (L' := [.retAddr 0, .retAddr 0, .int v2, .retAddr 0, .int v4, .int v5, .ref 67, .ref 65]) (S' := []) (σ' := (97, I, J, R)) rfl (fun _ => ?_) (fun hn => absurd (by decide) hn)
                          refine az_E.sn 1 (pc' := 100) (L' := [.retAddr 0, .retAddr 0, .int v2, .retAddr 0, .int v4, .int v5, .ref 67, .ref 65]) (S' := [.int (-13 : Int32)]) (σ' := (97, I, J, R)) rfl ?_
                          have h := Option.some.inj h
                          subst h
                          exact az_E.ret (v := some (.int (-13 : Int32))) (σ' := (97, I, J, R)) rfl hQ
                        · rw [if_neg hc_1141] at h
                          refine az_E.sn 5 (pc' := 23) (L' := [.ref 65, .int v4, .int v5]) (S' := [.int ((I 65 2) - v4), .int v5]) (σ' := (97, I, J, R)) rfl ?_
                          refine az_E.br (c := ((I 65 2) - v4) < v5) (tt := 30) (ff := 26) (L' := [.ref 65, .int v4, .int v5]) (S' := []) (σ' := (97, I, J, R)) rfl (fun hc_1142 => ?_) (fun hc_1142 => ?_)
                          · rw [if_pos hc_1142] at h
                            refine az_E.sn 1 (pc' := 31) (L' := [.ref 65, .int v4, .int v5]) (S' := [.int (0 : Int32)]) (σ' := (97, I, J, R)) rfl ?_
                            refine az_E.ret (v := some (.int (0 : Int32))) (σ' := (97, I, J, R)) rfl ?_
                            show az_E az_F ex 2 128 95 [.retAddr 0, .retAddr 0, .int v2, .retAddr 0, .int v4, .int v5, .ref 67, .ref 65] [.int (0 : Int32)] (97, I, J, R) _
                            refine az_E.br (c := (0 : Int32) = 0) (tt := 98) (ff := 101) (L' := [.retAddr 0, .retAddr 0, .int v2, .retAddr 0, .int v4, .int v5, .ref 67, .ref 65]) (S' := []) (σ' := (97, I, J, R)) rfl (fun _ => ?_) (fun hn => absurd (by decide) hn)
                            refine az_E.sn 1 (pc' := 100) (L' := [.retAddr 0, .retAddr 0, .int v2, .retAddr 0, .int v4, .int v5, .ref 67, .ref 65]) (S' := [.int (-13 : Int32)]) (σ' := (97, I, J, R)) rfl ?_
                            have h := Option.some.inj h
                            subst h
                            exact az_E.ret (v := some (.int (-13 : Int32))) (σ' := (97, I, J, R)) rfl hQ
                          · rw [if_neg hc_1142] at h
                            refine az_E.sn 2 (pc' := 31) (L' := [.ref 65, .int v4, .int v5]) (S' := [.int (1 : Int32)]) (σ' := (97, I, J, R)) rfl ?_
                            refine az_E.ret (v := some (.int (1 : Int32))) (σ' := (97, I, J, R)) rfl ?_
                            show az_E az_F ex 2 128 95 [.retAddr 0, .retAddr 0, .int v2, .retAddr 0, .int v4, .int v5, .ref 67, .ref 65] [.int (1 : Int32)] (97, I, J, R) _
                            refine az_E.br (c := (1 : Int32) = 0) (tt := 98) (ff := 101) (L' := [.retAddr 0, .retAddr 0, .int v2, .retAddr 0, .int v4, .int v5, .ref 67, .ref 65]) (S' := []) (σ' := (97, I, J, R)) rfl (fun hn => absurd hn (by decide)) (fun _ => ?_)
                            refine az_E.sn 7 (pc' := 116) (L' := [.retAddr 0, .retAddr 0, .int v2, .retAddr 0, .int v4, .int v5, .ref 67, .ref 65]) (S' := [.int v5, .int v4, .ref (65 + 1), .int v2, .ref (67 + 1)]) (σ' := (97, I, J, R)) rfl ?_
                            by_cases hc_1143 : v2 < 0 ∨ v4 < 0 ∨ v5 < 0 ∨ 60 < v2.toNatClampNeg + v5.toNatClampNeg ∨ 60 < v4.toNatClampNeg + v5.toNatClampNeg
                            · rw [if_pos hc_1143] at h; cases h
                            · rw [if_neg hc_1143] at h
                              refine az_E.o (o := az_cp az_F (97, I, J, R) (67 + 1) v2 (65 + 1) v4 v5) (pc' := 119) (L' := [.retAddr 0, .retAddr 0, .int v2, .retAddr 0, .int v4, .int v5, .ref 67, .ref 65]) (S' := []) (x := (97, I, (az_ur J (65 + 1) (va_cpy (J (67 + 1)) (J (65 + 1)) v2.toNatClampNeg v4.toNatClampNeg v5.toNatClampNeg)), R)) rfl (if_neg hc_1143) ?_
                              refine az_E.sn 1 (pc' := 121) (L' := [.retAddr 0, .retAddr 0, .int v2, .retAddr 0, .int v4, .int v5, .ref 67, .ref 65]) (S' := [.int v5]) (σ' := (97, I, (az_ur J (65 + 1) (va_cpy (J (67 + 1)) (J (65 + 1)) v2.toNatClampNeg v4.toNatClampNeg v5.toNatClampNeg)), R)) rfl ?_
                              have h := Option.some.inj h
                              subst h
                              exact az_E.ret (v := some (.int v5)) (σ' := (97, I, (az_ur J (65 + 1) (va_cpy (J (67 + 1)) (J (65 + 1)) v2.toNatClampNeg v4.toNatClampNeg v5.toNatClampNeg)), R)) rfl hQ
          · rw [if_neg hc_1134] at h
            refine az_E.sn 1 (pc' := 20) (L' := [.ref 65, .int (I 67 1)]) (S' := [.int (0 : Int32)]) (σ' := (97, I, J, R)) rfl ?_
            refine az_E.ret (v := some (.int (0 : Int32))) (σ' := (97, I, J, R)) rfl ?_
            show az_E az_F ex 2 128 69 [.retAddr 0, .retAddr 0, .int v2, .retAddr 0, .int v4, .int v5, .ref 67, .ref 65] [.int (0 : Int32)] (97, I, J, R) _
            refine az_E.br (c := (0 : Int32) = 0) (tt := 72) (ff := 75) (L' := [.retAddr 0, .retAddr 0, .int v2, .retAddr 0, .int v4, .int v5, .ref 67, .ref 65]) (S' := []) (σ' := (97, I, J, R)) rfl (fun _ => ?_) (fun hn => absurd (by decide) hn)
            refine az_E.sn 1 (pc' := 74) (L' := [.retAddr 0, .retAddr 0, .int v2, .retAddr 0, .int v4, .int v5, .ref 67, .ref 65]) (S' := [.int (-12 : Int32)]) (σ' := (97, I, J, R)) rfl ?_
            have h := Option.some.inj h
            subst h
            exact az_E.ret (v := some (.int (-12 : Int32))) (σ' := (97, I, J, R)) rfl hQ
set_option maxRecDepth 100000 in
set_option maxHeartbeats 4000000 in
theorem re_X_shift_30_67_67 {ex : az_X} {I : Nat → Nat → Int32} {J : Nat → Nat → Int64} {R : Nat → Nat → Option Nat} {v2 : Int32} {v4 : Int32} {v5 : Int32} {x : Int32 × (Nat → Nat → Int64)} (h : rs_X_shift_30 67 67 I J v2 v4 v5 = some x) {Q : Option Value → az_S → Prop} (hQ : Q (some (.int x.1)) (97, I, x.2, R)) : az_E az_F ex 2 128 30 [.retAddr 0, .retAddr 0, .int v2, .retAddr 0, .int v4, .int v5, .ref 67, .retAddr 0] [.ref 67] (97, I, J, R) Q := by
  unfold rs_X_shift_30 at h
  refine az_E.sn 2 (pc' := 34) (L' := [.retAddr 0, .retAddr 0, .int v2, .retAddr 0, .int v4, .int v5, .ref 67, .ref 67]) (S' := [.ref 67]) (σ' := (97, I, J, R)) rfl ?_
  refine az_E.call (d := 1) (k' := 54) (vs := [.ref 67]) (pc' := 37) (S' := []) rfl ?_ (fun _ _ hq => hq)
  show az_E az_F ex 1 54 0 [.ref 67] [] (97, I, J, R) _
  refine az_E.sn 3 (pc' := 5) (L' := [.ref 67]) (S' := [.int (-1 : Int32), .int (I 67 0)]) (σ' := (97, I, J, R)) rfl ?_
  refine az_E.br (c := (I 67 0) = (-1 : Int32)) (tt := 8) (ff := 20) (L' := [.ref 67]) (S' := []) (σ' := (97, I, J, R)) rfl (fun hc_1144 => ?_) (fun hc_1144 => ?_)
  · rw [if_pos hc_1144] at h
    refine az_E.sn 3 (pc' := 13) (L' := [.ref 67]) (S' := [.int (-1 : Int32), .int (I 67 1)]) (σ' := (97, I, J, R)) rfl ?_
    refine az_E.br (c := (I 67 1) = (-1 : Int32)) (tt := 16) (ff := 20) (L' := [.ref 67]) (S' := []) (σ' := (97, I, J, R)) rfl (fun hc_1145 => ?_) (fun hc_1145 => ?_)
    · rw [if_pos hc_1145] at h
      refine az_E.sn 2 (pc' := 21) (L' := [.ref 67]) (S' := [.int (1 : Int32)]) (σ' := (97, I, J, R)) rfl ?_
      refine az_E.ret (v := some (.int (1 : Int32))) (σ' := (97, I, J, R)) rfl ?_
      show az_E az_F ex 2 128 37 [.retAddr 0, .retAddr 0, .int v2, .retAddr 0, .int v4, .int v5, .ref 67, .ref 67] [.int (1 : Int32)] (97, I, J, R) _
      refine az_E.br (c := (1 : Int32) = 0) (tt := 40) (ff := 48) (L' := [.retAddr 0, .retAddr 0, .int v2, .retAddr 0, .int v4, .int v5, .ref 67, .ref 67]) (S' := []) (σ' := (97, I, J, R)) rfl (fun hn => absurd hn (by decide)) (fun _ => ?_)
      refine az_E.sn 1 (pc' := 50) (L' := [.retAddr 0, .retAddr 0, .int v2, .retAddr 0, .int v4, .int v5, .ref 67, .ref 67]) (S' := [.int (-11 : Int32)]) (σ' := (97, I, J, R)) rfl ?_
      have h := Option.some.inj h
      subst h
      exact az_E.ret (v := some (.int (-11 : Int32))) (σ' := (97, I, J, R)) rfl hQ
    · rw [if_neg hc_1145] at h
      refine az_E.sn 1 (pc' := 21) (L' := [.ref 67]) (S' := [.int (0 : Int32)]) (σ' := (97, I, J, R)) rfl ?_
      refine az_E.ret (v := some (.int (0 : Int32))) (σ' := (97, I, J, R)) rfl ?_
      show az_E az_F ex 2 128 37 [.retAddr 0, .retAddr 0, .int v2, .retAddr 0, .int v4, .int v5, .ref 67, .ref 67] [.int (0 : Int32)] (97, I, J, R) _
      refine az_E.br (c := (0 : Int32) = 0) (tt := 40) (ff := 48) (L' := [.retAddr 0, .retAddr 0, .int v2, .retAddr 0, .int v4, .int v5, .ref 67, .ref 67]) (S' := []) (σ' := (97, I, J, R)) rfl (fun _ => ?_) (fun hn => absurd (by decide) hn)
      refine az_E.sn 1 (pc' := 42) (L' := [.retAddr 0, .retAddr 0, .int v2, .retAddr 0, .int v4, .int v5, .ref 67, .ref 67]) (S' := [.ref 67]) (σ' := (97, I, J, R)) rfl ?_
      refine az_E.call (d := 1) (k' := 54) (vs := [.ref 67]) (pc' := 45) (S' := []) rfl ?_ (fun _ _ hq => hq)
      show az_E az_F ex 1 54 0 [.ref 67] [] (97, I, J, R) _
      refine az_E.sn 3 (pc' := 5) (L' := [.ref 67]) (S' := [.int (-1 : Int32), .int (I 67 0)]) (σ' := (97, I, J, R)) rfl ?_
      refine az_E.br (c := (I 67 0) = (-1 : Int32)) (tt := 8) (ff := 20) (L' := [.ref 67]) (S' := []) (σ' := (97, I, J, R)) rfl (fun hc_1146 => ?_) (fun hc_1146 => ?_)
      · rw [if_pos hc_1146] at h
        refine az_E.sn 3 (pc' := 13) (L' := [.ref 67]) (S' := [.int (-1 : Int32), .int (I 67 1)]) (σ' := (97, I, J, R)) rfl ?_
        refine az_E.br (c := (I 67 1) = (-1 : Int32)) (tt := 16) (ff := 20) (L' := [.ref 67]) (S' := []) (σ' := (97, I, J, R)) rfl (fun hc_1147 => ?_) (fun hc_1147 => ?_)
        · rw [if_pos hc_1147] at h
          refine az_E.sn 2 (pc' := 21) (L' := [.ref 67]) (S' := [.int (1 : Int32)]) (σ' := (97, I, J, R)) rfl ?_
          refine az_E.ret (v := some (.int (1 : Int32))) (σ' := (97, I, J, R)) rfl ?_
          show az_E az_F ex 2 128 45 [.retAddr 0, .retAddr 0, .int v2, .retAddr 0, .int v4, .int v5, .ref 67, .ref 67] [.int (1 : Int32)] (97, I, J, R) _
          refine az_E.br (c := (1 : Int32) = 0) (tt := 51) (ff := 48) (L' := [.retAddr 0, .retAddr 0, .int v2, .retAddr 0, .int v4, .int v5, .ref 67, .ref 67]) (S' := []) (σ' := (97, I, J, R)) rfl (fun hn => absurd hn (by decide)) (fun _ => ?_)
          refine az_E.sn 1 (pc' := 50) (L' := [.retAddr 0, .retAddr 0, .int v2, .retAddr 0, .int v4, .int v5, .ref 67, .ref 67]) (S' := [.int (-11 : Int32)]) (σ' := (97, I, J, R)) rfl ?_
          have h := Option.some.inj h
          subst h
          exact az_E.ret (v := some (.int (-11 : Int32))) (σ' := (97, I, J, R)) rfl hQ
        · rw [if_neg hc_1147] at h
          refine az_E.sn 1 (pc' := 21) (L' := [.ref 67]) (S' := [.int (0 : Int32)]) (σ' := (97, I, J, R)) rfl ?_
          refine az_E.ret (v := some (.int (0 : Int32))) (σ' := (97, I, J, R)) rfl ?_
          show az_E az_F ex 2 128 45 [.retAddr 0, .retAddr 0, .int v2, .retAddr 0, .int v4, .int v5, .ref 67, .ref 67] [.int (0 : Int32)] (97, I, J, R) _
          refine az_E.br (c := (0 : Int32) = 0) (tt := 51) (ff := 48) (L' := [.retAddr 0, .retAddr 0, .int v2, .retAddr 0, .int v4, .int v5, .ref 67, .ref 67]) (S' := []) (σ' := (97, I, J, R)) rfl (fun _ => ?_) (fun hn => absurd (by decide) hn)
          refine az_E.sn 1 (pc' := 53) (L' := [.retAddr 0, .retAddr 0, .int v2, .retAddr 0, .int v4, .int v5, .ref 67, .ref 67]) (S' := [.ref 67]) (σ' := (97, I, J, R)) rfl ?_
          refine az_E.call (d := 1) (k' := 55) (vs := [.ref 67]) (pc' := 56) (S' := []) rfl ?_ (fun _ _ hq => hq)
          show az_E az_F ex 1 55 0 [.ref 67] [] (97, I, J, R) _
          refine az_E.sn 3 (pc' := 5) (L' := [.ref 67]) (S' := [.int (-1 : Int32), .int (I 67 1)]) (σ' := (97, I, J, R)) rfl ?_
          refine az_E.br (c := (I 67 1) = (-1 : Int32)) (tt := 12) (ff := 8) (L' := [.ref 67]) (S' := []) (σ' := (97, I, J, R)) rfl (fun hc_1148 => ?_) (fun hc_1148 => ?_)
          · rw [if_pos hc_1148] at h
            refine az_E.sn 1 (pc' := 13) (L' := [.ref 67]) (S' := [.int (0 : Int32)]) (σ' := (97, I, J, R)) rfl ?_
            refine az_E.ret (v := some (.int (0 : Int32))) (σ' := (97, I, J, R)) rfl ?_
            show az_E az_F ex 2 128 56 [.retAddr 0, .retAddr 0, .int v2, .retAddr 0, .int v4, .int v5, .ref 67, .ref 67] [.int (0 : Int32)] (97, I, J, R) _
            refine az_E.br (c := (0 : Int32) = 0) (tt := 72) (ff := 59) (L' := [.retAddr 0, .retAddr 0, .int v2, .retAddr 0, .int v4, .int v5, .ref 67, .ref 67]) (S' := []) (σ' := (97, I, J, R)) rfl (fun _ => ?_) (fun hn => absurd (by decide) hn)
            refine az_E.sn 1 (pc' := 74) (L' := [.retAddr 0, .retAddr 0, .int v2, .retAddr 0, .int v4, .int v5, .ref 67, .ref 67]) (S' := [.int (-12 : Int32)]) (σ' := (97, I, J, R)) rfl ?_
            have h := Option.some.inj h
            subst h
            exact az_E.ret (v := some (.int (-12 : Int32))) (σ' := (97, I, J, R)) rfl hQ
          · rw [if_neg hc_1148] at h
            refine az_E.sn 2 (pc' := 13) (L' := [.ref 67]) (S' := [.int (1 : Int32)]) (σ' := (97, I, J, R)) rfl ?_
            refine az_E.ret (v := some (.int (1 : Int32))) (σ' := (97, I, J, R)) rfl ?_
            show az_E az_F ex 2 128 56 [.retAddr 0, .retAddr 0, .int v2, .retAddr 0, .int v4, .int v5, .ref 67, .ref 67] [.int (1 : Int32)] (97, I, J, R) _
            refine az_E.br (c := (1 : Int32) = 0) (tt := 72) (ff := 59) (L' := [.retAddr 0, .retAddr 0, .int v2, .retAddr 0, .int v4, .int v5, .ref 67, .ref 67]) (S' := []) (σ' := (97, I, J, R)) rfl (fun hn => absurd hn (by decide)) (fun _ => ?_)
            refine az_E.sn 3 (pc' := 66) (L' := [.retAddr 0, .retAddr 0, .int v2, .retAddr 0, .int v4, .int v5, .ref 67, .ref 67]) (S' := [.int (I 67 1), .ref 67]) (σ' := (97, I, J, R)) rfl ?_
            refine az_E.call (d := 1) (k' := 56) (vs := [.ref 67, .int (I 67 1)]) (pc' := 69) (S' := []) rfl ?_ (fun _ _ hq => hq)
            show az_E az_F ex 1 56 0 [.ref 67, .int (I 67 1)] [] (97, I, J, R) _
            refine az_E.sn 1 (pc' := 1) (L' := [.ref 67, .int (I 67 1)]) (S' := [.ref 67]) (σ' := (97, I, J, R)) rfl ?_
            refine az_E.call (d := 0) (k' := 55) (vs := [.ref 67]) (pc' := 4) (S' := []) rfl ?_ (fun _ _ hq => hq)
            show az_E az_F ex 0 55 0 [.ref 67] [] (97, I, J, R) _
            refine az_E.sn 3 (pc' := 5) (L' := [.ref 67]) (S' := [.int (-1 : Int32), .int (I 67 1)]) (σ' := (97, I, J, R)) rfl ?_
            refine az_E.br (c := (I 67 1) = (-1 : Int32)) (tt := 12) (ff := 8) (L' := [.ref 67]) (S' := []) (σ' := (97, I, J, R)) rfl (fun hc_1149 => ?_) (fun hc_1149 => ?_)
            · rw [if_pos hc_1149] at h
              refine az_E.sn 1 (pc' := 13) (L' := [.ref 67]) (S' := [.int (0 : Int32)]) (σ' := (97, I, J, R)) rfl ?_
              refine az_E.ret (v := some (.int (0 : Int32))) (σ' := (97, I, J, R)) rfl ?_
              show az_E az_F ex 1 56 4 [.ref 67, .int (I 67 1)] [.int (0 : Int32)] (97, I, J, R) _
              refine az_E.br (c := (0 : Int32) = 0) (tt := 19) (ff := 7) (L' := [.ref 67, .int (I 67 1)]) (S' := []) (σ' := (97, I, J, R)) rfl (fun _ => ?_) (fun hn => absurd (by decide) hn)
              refine az_E.sn 1 (pc' := 20) (L' := [.ref 67, .int (I 67 1)]) (S' := [.int (0 : Int32)]) (σ' := (97, I, J, R)) rfl ?_
              refine az_E.ret (v := some (.int (0 : Int32))) (σ' := (97, I, J, R)) rfl ?_
              show az_E az_F ex 2 128 69 [.retAddr 0, .retAddr 0, .int v2, .retAddr 0, .int v4, .int v5, .ref 67, .ref 67] [.int (0 : Int32)] (97, I, J, R) _
              refine az_E.br (c := (0 : Int32) = 0) (tt := 72) (ff := 75) (L' := [.retAddr 0, .retAddr 0, .int v2, .retAddr 0, .int v4, .int v5, .ref 67, .ref 67]) (S' := []) (σ' := (97, I, J, R)) rfl (fun _ => ?_) (fun hn => absurd (by decide) hn)
              refine az_E.sn 1 (pc' := 74) (L' := [.retAddr 0, .retAddr 0, .int v2, .retAddr 0, .int v4, .int v5, .ref 67, .ref 67]) (S' := [.int (-12 : Int32)]) (σ' := (97, I, J, R)) rfl ?_
              have h := Option.some.inj h
              subst h
              exact az_E.ret (v := some (.int (-12 : Int32))) (σ' := (97, I, J, R)) rfl hQ
            · rw [if_neg hc_1149] at h
              refine az_E.sn 2 (pc' := 13) (L' := [.ref 67]) (S' := [.int (1 : Int32)]) (σ' := (97, I, J, R)) rfl ?_
              refine az_E.ret (v := some (.int (1 : Int32))) (σ' := (97, I, J, R)) rfl ?_
              show az_E az_F ex 1 56 4 [.ref 67, .int (I 67 1)] [.int (1 : Int32)] (97, I, J, R) _
              refine az_E.br (c := (1 : Int32) = 0) (tt := 19) (ff := 7) (L' := [.ref 67, .int (I 67 1)]) (S' := []) (σ' := (97, I, J, R)) rfl (fun hn => absurd hn (by decide)) (fun _ => ?_)
              refine az_E.sn 3 (pc' := 12) (L' := [.ref 67, .int (I 67 1)]) (S' := [.int (I 67 1), .int (I 67 1)]) (σ' := (97, I, J, R)) rfl ?_
              refine az_E.br (c := (I 67 1) = (I 67 1)) (tt := 15) (ff := 19) (L' := [.ref 67, .int (I 67 1)]) (S' := []) (σ' := (97, I, J, R)) rfl (fun hc_1150 => ?_) (fun hc_1150 => ?_)
              · rw [if_pos hc_1150] at h
                refine az_E.sn 2 (pc' := 20) (L' := [.ref 67, .int (I 67 1)]) (S' := [.int (1 : Int32)]) (σ' := (97, I, J, R)) rfl ?_
                refine az_E.ret (v := some (.int (1 : Int32))) (σ' := (97, I, J, R)) rfl ?_
                show az_E az_F ex 2 128 69 [.retAddr 0, .retAddr 0, .int v2, .retAddr 0, .int v4, .int v5, .ref 67, .ref 67] [.int (1 : Int32)] (97, I, J, R) _
                refine az_E.br (c := (1 : Int32) = 0) (tt := 72) (ff := 75) (L' := [.retAddr 0, .retAddr 0, .int v2, .retAddr 0, .int v4, .int v5, .ref 67, .ref 67]) (S' := []) (σ' := (97, I, J, R)) rfl (fun hn => absurd hn (by decide)) (fun _ => ?_)
                refine az_E.sn 3 (pc' := 80) (L' := [.retAddr 0, .retAddr 0, .int v2, .retAddr 0, .int v4, .int v5, .ref 67, .ref 67]) (S' := [.int v5, .int v2, .ref 67]) (σ' := (97, I, J, R)) rfl ?_
                refine az_E.call (d := 1) (k' := 60) (vs := [.ref 67, .int v2, .int v5]) (pc' := 83) (S' := []) rfl ?_ (fun _ _ hq => hq)
                show az_E az_F ex 1 60 0 [.ref 67, .int v2, .int v5] [] (97, I, J, R) _
                refine az_E.sn 1 (pc' := 1) (L' := [.ref 67, .int v2, .int v5]) (S' := [.int v2]) (σ' := (97, I, J, R)) rfl ?_
                refine az_E.br (c := v2 < 0) (tt := 30) (ff := 4) (L' := [.ref 67, .int v2, .int v5]) (S' := []) (σ' := (97, I, J, R)) rfl (fun hc_1151 => ?_) (fun hc_1151 => ?_)
                · rw [if_pos hc_1151] at h
                  refine az_E.sn 1 (pc' := 31) (L' := [.ref 67, .int v2, .int v5]) (S' := [.int (0 : Int32)]) (σ' := (97, I, J, R)) rfl ?_
                  refine az_E.ret (v := some (.int (0 : Int32))) (σ' := (97, I, J, R)) rfl ?_
                  show az_E az_F ex 2 128 83 [.retAddr 0, .retAddr 0, .int v2, .retAddr 0, .int v4, .int v5, .ref 67, .ref 67] [.int (0 : Int32)] (97, I, J, R) _
                  refine az_E.br (c := (0 : Int32) = 0) (tt := 98) (ff := 86) (L' := [.retAddr 0, .retAddr 0, .int v2, .retAddr 0, .int v4, .int v5, .ref 67, .ref 67]) (S' := []) (σ' := (97, I, J, R)) rfl (fun _ => ?_) (fun hn => absurd (by decide) hn)
                  refine az_E.sn 1 (pc' := 100) (L' := [.retAddr 0, .retAddr 0, .int v2, .retAddr 0, .int v4, .int v5, .ref 67, .ref 67]) (S' := [.int (-13 : Int32)]) (σ' := (97, I, J, R)) rfl ?_
                  have h := Option.some.inj h
                  subst h
                  exact az_E.ret (v := some (.int (-13 : Int32))) (σ' := (97, I, J, R)) rfl hQ
                · rw [if_neg hc_1151] at h
                  refine az_E.sn 1 (pc' := 5) (L' := [.ref 67, .int v2, .int v5]) (S' := [.int v5]) (σ' := (97, I, J, R)) rfl ?_
                  refine az_E.br (c := v5 < 0) (tt := 30) (ff := 8) (L' := [.ref 67, .int v2, .int v5]) (S' := []) (σ' := (97, I, J, R)) rfl (fun hc_1152 => ?_) (fun hc_1152 => ?_)
                  · rw [if_pos hc_1152] at h
                    refine az_E.sn 1 (pc' := 31) (L' := [.ref 67, .int v2, .int v5]) (S' := [.int (0 : Int32)]) (σ' := (97, I, J, R)) rfl ?_
                    refine az_E.ret (v := some (.int (0 : Int32))) (σ' := (97, I, J, R)) rfl ?_
                    show az_E az_F ex 2 128 83 [.retAddr 0, .retAddr 0, .int v2, .retAddr 0, .int v4, .int v5, .ref 67, .ref 67] [.int (0 : Int32)] (97, I, J, R) _
                    refine az_E.br (c := (0 : Int32) = 0) (tt := 98) (ff := 86) (L' := [.retAddr 0, .retAddr 0, .int v2, .retAddr 0, .int v4, .int v5, .ref 67, .ref 67]) (S' := []) (σ' := (97, I, J, R)) rfl (fun _ => ?_) (fun hn => absurd (by decide) hn)
                    refine az_E.sn 1 (pc' := 100) (L' := [.retAddr 0, .retAddr 0, .int v2, .retAddr 0, .int v4, .int v5, .ref 67, .ref 67]) (S' := [.int (-13 : Int32)]) (σ' := (97, I, J, R)) rfl ?_
                    have h := Option.some.inj h
                    subst h
                    exact az_E.ret (v := some (.int (-13 : Int32))) (σ' := (97, I, J, R)) rfl hQ
                  · rw [if_neg hc_1152] at h
                    refine az_E.sn 3 (pc' := 13) (L' := [.ref 67, .int v2, .int v5]) (S' := [.int (I 67 2), .int v2]) (σ' := (97, I, J, R)) rfl ?_
                    refine az_E.br (c := (I 67 2) < v2) (tt := 30) (ff := 16) (L' := [.ref 67, .int v2, .int v5]) (S' := []) (σ' := (97, I, J, R)) rfl (fun hc_1153 => ?_) (fun hc_1153 => ?_)
                    · rw [if_pos hc_1153] at h
                      refine az_E.sn 1 (pc' := 31) (L' := [.ref 67, .int v2, .int v5]) (S' := [.int (0 : Int32)]) (σ' := (97, I, J, R)) rfl ?_
                      refine az_E.ret (v := some (.int (0 : Int32))) (σ' := (97, I, J, R)) rfl ?_
                      show az_E az_F ex 2 128 83 [.retAddr 0, .retAddr 0, .int v2, .retAddr 0, .int v4, .int v5, .ref 67, .ref 67] [.int (0 : Int32)] (97, I, J, R) _
                      refine az_E.br (c := (0 : Int32) = 0) (tt := 98) (ff := 86) (L' := [.retAddr 0, .retAddr 0, .int v2, .retAddr 0, .int v4, .int v5, .ref 67, .ref 67]) (S' := []) (σ' := (97, I, J, R)) rfl (fun _ => ?_) (fun hn => absurd (by decide) hn)
                      refine az_E.sn 1 (pc' := 100) (L' := [.retAddr 0, .retAddr 0, .int v2, .retAddr 0, .int v4, .int v5, .ref 67, .ref 67]) (S' := [.int (-13 : Int32)]) (σ' := (97, I, J, R)) rfl ?_
                      have h := Option.some.inj h
                      subst h
                      exact az_E.ret (v := some (.int (-13 : Int32))) (σ' := (97, I, J, R)) rfl hQ
                    · rw [if_neg hc_1153] at h
                      refine az_E.sn 5 (pc' := 23) (L' := [.ref 67, .int v2, .int v5]) (S' := [.int ((I 67 2) - v2), .int v5]) (σ' := (97, I, J, R)) rfl ?_
                      refine az_E.br (c := ((I 67 2) - v2) < v5) (tt := 30) (ff := 26) (L' := [.ref 67, .int v2, .int v5]) (S' := []) (σ' := (97, I, J, R)) rfl (fun hc_1154 => ?_) (fun hc_1154 => ?_)
                      · rw [if_pos hc_1154] at h
                        refine az_E.sn 1 (pc' := 31) (L' := [.ref 67, .int v2, .int v5]) (S' := [.int (0 : Int32)]) (σ' := (97, I, J, R)) rfl ?_
                        refine az_E.ret (v := some (.int (0 : Int32))) (σ' := (97, I, J, R)) rfl ?_
                        show az_E az_F ex 2 128 83 [.retAddr 0, .retAddr 0, .int v2, .retAddr 0, .int v4, .int v5, .ref 67, .ref 67] [.int (0 : Int32)] (97, I, J, R) _
                        refine az_E.br (c := (0 : Int32) = 0) (tt := 98) (ff := 86) (L' := [.retAddr 0, .retAddr 0, .int v2, .retAddr 0, .int v4, .int v5, .ref 67, .ref 67]) (S' := []) (σ' := (97, I, J, R)) rfl (fun _ => ?_) (fun hn => absurd (by decide) hn)
                        refine az_E.sn 1 (pc' := 100) (L' := [.retAddr 0, .retAddr 0, .int v2, .retAddr 0, .int v4, .int v5, .ref 67, .ref 67]) (S' := [.int (-13 : Int32)]) (σ' := (97, I, J, R)) rfl ?_
                        have h := Option.some.inj h
                        subst h
                        exact az_E.ret (v := some (.int (-13 : Int32))) (σ' := (97, I, J, R)) rfl hQ
                      · rw [if_neg hc_1154] at h
                        refine az_E.sn 2 (pc' := 31) (L' := [.ref 67, .int v2, .int v5]) (S' := [.int (1 : Int32)]) (σ' := (97, I, J, R)) rfl ?_
                        refine az_E.ret (v := some (.int (1 : Int32))) (σ' := (97, I, J, R)) rfl ?_
                        show az_E az_F ex 2 128 83 [.retAddr 0, .retAddr 0, .int v2, .retAddr 0, .int v4, .int v5, .ref 67, .ref 67] [.int (1 : Int32)] (97, I, J, R) _
                        refine az_E.br (c := (1 : Int32) = 0) (tt := 98) (ff := 86) (L' := [.retAddr 0, .retAddr 0, .int v2, .retAddr 0, .int v4, .int v5, .ref 67, .ref 67]) (S' := []) (σ' := (97, I, J, R)) rfl (fun hn => absurd hn (by decide)) (fun _ => ?_)
                        refine az_E.sn 3 (pc' := 92) (L' := [.retAddr 0, .retAddr 0, .int v2, .retAddr 0, .int v4, .int v5, .ref 67, .ref 67]) (S' := [.int v5, .int v4, .ref 67]) (σ' := (97, I, J, R)) rfl ?_
                        refine az_E.call (d := 1) (k' := 60) (vs := [.ref 67, .int v4, .int v5]) (pc' := 95) (S' := []) rfl ?_ (fun _ _ hq => hq)
                        show az_E az_F ex 1 60 0 [.ref 67, .int v4, .int v5] [] (97, I, J, R) _
                        refine az_E.sn 1 (pc' := 1) (L' := [.ref 67, .int v4, .int v5]) (S' := [.int v4]) (σ' := (97, I, J, R)) rfl ?_
                        refine az_E.br (c := v4 < 0) (tt := 30) (ff := 4) (L' := [.ref 67, .int v4, .int v5]) (S' := []) (σ' := (97, I, J, R)) rfl (fun hc_1155 => ?_) (fun hc_1155 => ?_)
                        · rw [if_pos hc_1155] at h
                          refine az_E.sn 1 (pc' := 31) (L' := [.ref 67, .int v4, .int v5]) (S' := [.int (0 : Int32)]) (σ' := (97, I, J, R)) rfl ?_
                          refine az_E.ret (v := some (.int (0 : Int32))) (σ' := (97, I, J, R)) rfl ?_
                          show az_E az_F ex 2 128 95 [.retAddr 0, .retAddr 0, .int v2, .retAddr 0, .int v4, .int v5, .ref 67, .ref 67] [.int (0 : Int32)] (97, I, J, R) _
                          refine az_E.br (c := (0 : Int32) = 0) (tt := 98) (ff := 101) (L' := [.retAddr 0, .retAddr 0, .int v2, .retAddr 0, .int v4, .int v5, .ref 67, .ref 67]) (S' := []) (σ' := (97, I, J, R)) rfl (fun _ => ?_) (fun hn => absurd (by decide) hn)
                          refine az_E.sn 1 (pc' := 100) (L' := [.retAddr 0, .retAddr 0, .int v2, .retAddr 0, .int v4, .int v5, .ref 67, .ref 67]) (S' := [.int (-13 : Int32)]) (σ' := (97, I, J, R)) rfl ?_
                          have h := Option.some.inj h
                          subst h
                          exact az_E.ret (v := some (.int (-13 : Int32))) (σ' := (97, I, J, R)) rfl hQ
                        · rw [if_neg hc_1155] at h
                          refine az_E.sn 1 (pc' := 5) (L' := [.ref 67, .int v4, .int v5]) (S' := [.int v5]) (σ' := (97, I, J, R)) rfl ?_
                          refine az_E.br (c := v5 < 0) (tt := 30) (ff := 8) (L' := [.ref 67, .int v4, .int v5]) (S' := []) (σ' := (97, I, J, R)) rfl (fun hc_1156 => ?_) (fun hc_1156 => ?_)
                          · rw [if_pos hc_1156] at h
                            refine az_E.sn 1 (pc' := 31) (L' := [.ref 67, .int v4, .int v5]) (S' := [.int (0 : Int32)]) (σ' := (97, I, J, R)) rfl ?_
                            refine az_E.ret (v := some (.int (0 : Int32))) (σ' := (97, I, J, R)) rfl ?_
                            show az_E az_F ex 2 128 95 [.retAddr 0, .retAddr 0, .int v2, .retAddr 0, .int v4, .int v5, .ref 67, .ref 67] [.int (0 : Int32)] (97, I, J, R) _
                            refine az_E.br (c := (0 : Int32) = 0) (tt := 98) (ff := 101) (L' := [.retAddr 0, .retAddr 0, .int v2, .retAddr 0, .int v4, .int v5, .ref 67, .ref 67]) (S' := []) (σ' := (97, I, J, R)) rfl (fun _ => ?_) (fun hn => absurd (by decide) hn)
                            refine az_E.sn 1 (pc' := 100) (L' := [.retAddr 0, .retAddr 0, .int v2, .retAddr 0, .int v4, .int v5, .ref 67, .ref 67]) (S' := [.int (-13 : Int32)]) (σ' := (97, I, J, R)) rfl ?_
                            have h := Option.some.inj h
                            subst h
                            exact az_E.ret (v := some (.int (-13 : Int32))) (σ' := (97, I, J, R)) rfl hQ
                          · rw [if_neg hc_1156] at h
                            refine az_E.sn 3 (pc' := 13) (L' := [.ref 67, .int v4, .int v5]) (S' := [.int (I 67 2), .int v4]) (σ' := (97, I, J, R)) rfl ?_
                            refine az_E.br (c := (I 67 2) < v4) (tt := 30) (ff := 16) (L' := [.ref 67, .int v4, .int v5]) (S' := []) (σ' := (97, I, J, R)) rfl (fun hc_1157 => ?_) (fun hc_1157 => ?_)
                            · rw [if_pos hc_1157] at h
                              refine az_E.sn 1 (pc' := 31) (L' := [.ref 67, .int v4, .int v5]) (S' := [.int (0 : Int32)]) (σ' := (97, I, J, R)) rfl ?_
                              refine az_E.ret (v := some (.int (0 : Int32))) (σ' := (97, I, J, R)) rfl ?_
                              show az_E az_F ex 2 128 95 [.retAddr 0, .retAddr 0, .int v2, .retAddr 0, .int v4, .int v5, .ref 67, .ref 67] [.int (0 : Int32)] (97, I, J, R) _
                              refine az_E.br (c := (0 : Int32) = 0) (tt := 98) (ff := 101) (L' := [.retAddr 0, .retAddr 0, .int v2, .retAddr 0, .int v4, .int v5, .ref 67, .ref 67]) (S' := []) (σ' := (97, I, J, R)) rfl (fun _ => ?_) (fun hn => absurd (by decide) hn)
                              refine az_E.sn 1 (pc' := 100) (L' := [.retAddr 0, .retAddr 0, .int v2, .retAddr 0, .int v4, .int v5, .ref 67, .ref 67]) (S' := [.int (-13 : Int32)]) (σ' := (97, I, J, R)) rfl ?_
                              have h := Option.some.inj h
                              subst h
                              exact az_E.ret (v := some (.int (-13 : Int32))) (σ' := (97, I, J, R)) rfl hQ
                            · rw [if_neg hc_1157] at h
                              refine az_E.sn 5 (pc' := 23) (L' := [.ref 67, .int v4, .int v5]) (S' := [.int ((I 67 2) - v4), .int v5]) (σ' := (97, I, J, R)) rfl ?_
                              refine az_E.br (c := ((I 67 2) - v4) < v5) (tt := 30) (ff := 26) (L' := [.ref 67, .int v4, .int v5]) (S' := []) (σ' := (97, I, J, R)) rfl (fun hc_1158 => ?_) (fun hc_1158 => ?_)
                              · rw [if_pos hc_1158] at h
                                refine az_E.sn 1 (pc' := 31) (L' := [.ref 67, .int v4, .int v5]) (S' := [.int (0 : Int32)]) (σ' := (97, I, J, R)) rfl ?_
                                refine az_E.ret (v := some (.int (0 : Int32))) (σ' := (97, I, J, R)) rfl ?_
                                show az_E az_F ex 2 128 95 [.retAddr 0, .retAddr 0, .int v2, .retAddr 0, .int v4, .int v5, .ref 67, .ref 67] [.int (0 : Int32)] (97, I, J, R) _
                                refine az_E.br (c := (0 : Int32) = 0) (tt := 98) (ff := 101) (L' := [.retAddr 0, .retAddr 0, .int v2, .retAddr 0, .int v4, .int v5, .ref 67, .ref 67]) (S' := []) (σ' := (97, I, J, R)) rfl (fun _ => ?_) (fun hn => absurd (by decide) hn)
                                refine az_E.sn 1 (pc' := 100) (L' := [.retAddr 0, .retAddr 0, .int v2, .retAddr 0, .int v4, .int v5, .ref 67, .ref 67]) (S' := [.int (-13 : Int32)]) (σ' := (97, I, J, R)) rfl ?_
                                have h := Option.some.inj h
                                subst h
                                exact az_E.ret (v := some (.int (-13 : Int32))) (σ' := (97, I, J, R)) rfl hQ
                              · rw [if_neg hc_1158] at h
                                refine az_E.sn 2 (pc' := 31) (L' := [.ref 67, .int v4, .int v5]) (S' := [.int (1 : Int32)]) (σ' := (97, I, J, R)) rfl ?_
                                refine az_E.ret (v := some (.int (1 : Int32))) (σ' := (97, I, J, R)) rfl ?_
                                show az_E az_F ex 2 128 95 [.retAddr 0, .retAddr 0, .int v2, .retAddr 0, .int v4, .int v5, .ref 67, .ref 67] [.int (1 : Int32)] (97, I, J, R) _
                                refine az_E.br (c := (1 : Int32) = 0) (tt := 98) (ff := 101) (L' := [.retAddr 0, .retAddr 0, .int v2, .retAddr 0, .int v4, .int v5, .ref 67, .ref 67]) (S' := []) (σ' := (97, I, J, R)) rfl (fun hn => absurd hn (by decide)) (fun _ => ?_)
                                refine az_E.sn 7 (pc' := 116) (L' := [.retAddr 0, .retAddr 0, .int v2, .retAddr 0, .int v4, .int v5, .ref 67, .ref 67]) (S' := [.int v5, .int v4, .ref (67 + 1), .int v2, .ref (67 + 1)]) (σ' := (97, I, J, R)) rfl ?_
                                by_cases hc_1159 : v2 < 0 ∨ v4 < 0 ∨ v5 < 0 ∨ 60 < v2.toNatClampNeg + v5.toNatClampNeg ∨ 60 < v4.toNatClampNeg + v5.toNatClampNeg
                                · rw [if_pos hc_1159] at h; cases h
                                · rw [if_neg hc_1159] at h
                                  refine az_E.o (o := az_cp az_F (97, I, J, R) (67 + 1) v2 (67 + 1) v4 v5) (pc' := 119) (L' := [.retAddr 0, .retAddr 0, .int v2, .retAddr 0, .int v4, .int v5, .ref 67, .ref 67]) (S' := []) (x := (97, I, (az_ur J (67 + 1) (va_cpy (J (67 + 1)) (J (67 + 1)) v2.toNatClampNeg v4.toNatClampNeg v5.toNatClampNeg)), R)) rfl (if_neg hc_1159) ?_
                                  refine az_E.sn 1 (pc' := 121) (L' := [.retAddr 0, .retAddr 0, .int v2, .retAddr 0, .int v4, .int v5, .ref 67, .ref 67]) (S' := [.int v5]) (σ' := (97, I, (az_ur J (67 + 1) (va_cpy (J (67 + 1)) (J (67 + 1)) v2.toNatClampNeg v4.toNatClampNeg v5.toNatClampNeg)), R)) rfl ?_
                                  have h := Option.some.inj h
                                  subst h
                                  exact az_E.ret (v := some (.int v5)) (σ' := (97, I, (az_ur J (67 + 1) (va_cpy (J (67 + 1)) (J (67 + 1)) v2.toNatClampNeg v4.toNatClampNeg v5.toNatClampNeg)), R)) rfl hQ
              · rw [if_neg hc_1150] at h
                refine az_E.sn 1 (pc' := 20) (L' := [.ref 67, .int (I 67 1)]) (S' := [.int (0 : Int32)]) (σ' := (97, I, J, R)) rfl ?_
                refine az_E.ret (v := some (.int (0 : Int32))) (σ' := (97, I, J, R)) rfl ?_
                show az_E az_F ex 2 128 69 [.retAddr 0, .retAddr 0, .int v2, .retAddr 0, .int v4, .int v5, .ref 67, .ref 67] [.int (0 : Int32)] (97, I, J, R) _
                refine az_E.br (c := (0 : Int32) = 0) (tt := 72) (ff := 75) (L' := [.retAddr 0, .retAddr 0, .int v2, .retAddr 0, .int v4, .int v5, .ref 67, .ref 67]) (S' := []) (σ' := (97, I, J, R)) rfl (fun _ => ?_) (fun hn => absurd (by decide) hn)
                refine az_E.sn 1 (pc' := 74) (L' := [.retAddr 0, .retAddr 0, .int v2, .retAddr 0, .int v4, .int v5, .ref 67, .ref 67]) (S' := [.int (-12 : Int32)]) (σ' := (97, I, J, R)) rfl ?_
                have h := Option.some.inj h
                subst h
                exact az_E.ret (v := some (.int (-12 : Int32))) (σ' := (97, I, J, R)) rfl hQ
      · rw [if_neg hc_1146] at h
        refine az_E.sn 1 (pc' := 21) (L' := [.ref 67]) (S' := [.int (0 : Int32)]) (σ' := (97, I, J, R)) rfl ?_
        refine az_E.ret (v := some (.int (0 : Int32))) (σ' := (97, I, J, R)) rfl ?_
        show az_E az_F ex 2 128 45 [.retAddr 0, .retAddr 0, .int v2, .retAddr 0, .int v4, .int v5, .ref 67, .ref 67] [.int (0 : Int32)] (97, I, J, R) _
        refine az_E.br (c := (0 : Int32) = 0) (tt := 51) (ff := 48) (L' := [.retAddr 0, .retAddr 0, .int v2, .retAddr 0, .int v4, .int v5, .ref 67, .ref 67]) (S' := []) (σ' := (97, I, J, R)) rfl (fun _ => ?_) (fun hn => absurd (by decide) hn)
        refine az_E.sn 1 (pc' := 53) (L' := [.retAddr 0, .retAddr 0, .int v2, .retAddr 0, .int v4, .int v5, .ref 67, .ref 67]) (S' := [.ref 67]) (σ' := (97, I, J, R)) rfl ?_
        refine az_E.call (d := 1) (k' := 55) (vs := [.ref 67]) (pc' := 56) (S' := []) rfl ?_ (fun _ _ hq => hq)
        show az_E az_F ex 1 55 0 [.ref 67] [] (97, I, J, R) _
        refine az_E.sn 3 (pc' := 5) (L' := [.ref 67]) (S' := [.int (-1 : Int32), .int (I 67 1)]) (σ' := (97, I, J, R)) rfl ?_
        refine az_E.br (c := (I 67 1) = (-1 : Int32)) (tt := 12) (ff := 8) (L' := [.ref 67]) (S' := []) (σ' := (97, I, J, R)) rfl (fun hc_1160 => ?_) (fun hc_1160 => ?_)
        · rw [if_pos hc_1160] at h
          refine az_E.sn 1 (pc' := 13) (L' := [.ref 67]) (S' := [.int (0 : Int32)]) (σ' := (97, I, J, R)) rfl ?_
          refine az_E.ret (v := some (.int (0 : Int32))) (σ' := (97, I, J, R)) rfl ?_
          show az_E az_F ex 2 128 56 [.retAddr 0, .retAddr 0, .int v2, .retAddr 0, .int v4, .int v5, .ref 67, .ref 67] [.int (0 : Int32)] (97, I, J, R) _
          refine az_E.br (c := (0 : Int32) = 0) (tt := 72) (ff := 59) (L' := [.retAddr 0, .retAddr 0, .int v2, .retAddr 0, .int v4, .int v5, .ref 67, .ref 67]) (S' := []) (σ' := (97, I, J, R)) rfl (fun _ => ?_) (fun hn => absurd (by decide) hn)
          refine az_E.sn 1 (pc' := 74) (L' := [.retAddr 0, .retAddr 0, .int v2, .retAddr 0, .int v4, .int v5, .ref 67, .ref 67]) (S' := [.int (-12 : Int32)]) (σ' := (97, I, J, R)) rfl ?_
          have h := Option.some.inj h
          subst h
          exact az_E.ret (v := some (.int (-12 : Int32))) (σ' := (97, I, J, R)) rfl hQ
        · rw [if_neg hc_1160] at h
          refine az_E.sn 2 (pc' := 13) (L' := [.ref 67]) (S' := [.int (1 : Int32)]) (σ' := (97, I, J, R)) rfl ?_
          refine az_E.ret (v := some (.int (1 : Int32))) (σ' := (97, I, J, R)) rfl ?_
          show az_E az_F ex 2 128 56 [.retAddr 0, .retAddr 0, .int v2, .retAddr 0, .int v4, .int v5, .ref 67, .ref 67] [.int (1 : Int32)] (97, I, J, R) _
          refine az_E.br (c := (1 : Int32) = 0) (tt := 72) (ff := 59) (L' := [.retAddr 0, .retAddr 0, .int v2, .retAddr 0, .int v4, .int v5, .ref 67, .ref 67]) (S' := []) (σ' := (97, I, J, R)) rfl (fun hn => absurd hn (by decide)) (fun _ => ?_)
          refine az_E.sn 3 (pc' := 66) (L' := [.retAddr 0, .retAddr 0, .int v2, .retAddr 0, .int v4, .int v5, .ref 67, .ref 67]) (S' := [.int (I 67 1), .ref 67]) (σ' := (97, I, J, R)) rfl ?_
          refine az_E.call (d := 1) (k' := 56) (vs := [.ref 67, .int (I 67 1)]) (pc' := 69) (S' := []) rfl ?_ (fun _ _ hq => hq)
          show az_E az_F ex 1 56 0 [.ref 67, .int (I 67 1)] [] (97, I, J, R) _
          refine az_E.sn 1 (pc' := 1) (L' := [.ref 67, .int (I 67 1)]) (S' := [.ref 67]) (σ' := (97, I, J, R)) rfl ?_
          refine az_E.call (d := 0) (k' := 55) (vs := [.ref 67]) (pc' := 4) (S' := []) rfl ?_ (fun _ _ hq => hq)
          show az_E az_F ex 0 55 0 [.ref 67] [] (97, I, J, R) _
          refine az_E.sn 3 (pc' := 5) (L' := [.ref 67]) (S' := [.int (-1 : Int32), .int (I 67 1)]) (σ' := (97, I, J, R)) rfl ?_
          refine az_E.br (c := (I 67 1) = (-1 : Int32)) (tt := 12) (ff := 8) (L' := [.ref 67]) (S' := []) (σ' := (97, I, J, R)) rfl (fun hc_1161 => ?_) (fun hc_1161 => ?_)
          · rw [if_pos hc_1161] at h
            refine az_E.sn 1 (pc' := 13) (L' := [.ref 67]) (S' := [.int (0 : Int32)]) (σ' := (97, I, J, R)) rfl ?_
            refine az_E.ret (v := some (.int (0 : Int32))) (σ' := (97, I, J, R)) rfl ?_
            show az_E az_F ex 1 56 4 [.ref 67, .int (I 67 1)] [.int (0 : Int32)] (97, I, J, R) _
            refine az_E.br (c := (0 : Int32) = 0) (tt := 19) (ff := 7) (L' := [.ref 67, .int (I 67 1)]) (S' := []) (σ' := (97, I, J, R)) rfl (fun _ => ?_) (fun hn => absurd (by decide) hn)
            refine az_E.sn 1 (pc' := 20) (L' := [.ref 67, .int (I 67 1)]) (S' := [.int (0 : Int32)]) (σ' := (97, I, J, R)) rfl ?_
            refine az_E.ret (v := some (.int (0 : Int32))) (σ' := (97, I, J, R)) rfl ?_
            show az_E az_F ex 2 128 69 [.retAddr 0, .retAddr 0, .int v2, .retAddr 0, .int v4, .int v5, .ref 67, .ref 67] [.int (0 : Int32)] (97, I, J, R) _
            refine az_E.br (c := (0 : Int32) = 0) (tt := 72) (ff := 75) (L' := [.retAddr 0, .retAddr 0, .int v2, .retAddr 0, .int v4, .int v5, .ref 67, .ref 67]) (S' := []) (σ' := (97, I, J, R)) rfl (fun _ => ?_) (fun hn => absurd (by decide) hn)
            refine az_E.sn 1 (pc' := 74) (L' := [.retAddr 0, .retAddr 0, .int v2, .retAddr 0, .int v4, .int v5, .ref 67, .ref 67]) (S' := [.int (-12 : Int32)]) (σ' := (97, I, J, R)) rfl ?_
            have h := Option.some.inj h
            subst h
            exact az_E.ret (v := some (.int (-12 : Int32))) (σ' := (97, I, J, R)) rfl hQ
          · rw [if_neg hc_1161] at h
            refine az_E.sn 2 (pc' := 13) (L' := [.ref 67]) (S' := [.int (1 : Int32)]) (σ' := (97, I, J, R)) rfl ?_
            refine az_E.ret (v := some (.int (1 : Int32))) (σ' := (97, I, J, R)) rfl ?_
            show az_E az_F ex 1 56 4 [.ref 67, .int (I 67 1)] [.int (1 : Int32)] (97, I, J, R) _
            refine az_E.br (c := (1 : Int32) = 0) (tt := 19) (ff := 7) (L' := [.ref 67, .int (I 67 1)]) (S' := []) (σ' := (97, I, J, R)) rfl (fun hn => absurd hn (by decide)) (fun _ => ?_)
            refine az_E.sn 3 (pc' := 12) (L' := [.ref 67, .int (I 67 1)]) (S' := [.int (I 67 1), .int (I 67 1)]) (σ' := (97, I, J, R)) rfl ?_
            refine az_E.br (c := (I 67 1) = (I 67 1)) (tt := 15) (ff := 19) (L' := [.ref 67, .int (I 67 1)]) (S' := []) (σ' := (97, I, J, R)) rfl (fun hc_1162 => ?_) (fun hc_1162 => ?_)
            · rw [if_pos hc_1162] at h
              refine az_E.sn 2 (pc' := 20) (L' := [.ref 67, .int (I 67 1)]) (S' := [.int (1 : Int32)]) (σ' := (97, I, J, R)) rfl ?_
              refine az_E.ret (v := some (.int (1 : Int32))) (σ' := (97, I, J, R)) rfl ?_
              show az_E az_F ex 2 128 69 [.retAddr 0, .retAddr 0, .int v2, .retAddr 0, .int v4, .int v5, .ref 67, .ref 67] [.int (1 : Int32)] (97, I, J, R) _
              refine az_E.br (c := (1 : Int32) = 0) (tt := 72) (ff := 75) (L' := [.retAddr 0, .retAddr 0, .int v2, .retAddr 0, .int v4, .int v5, .ref 67, .ref 67]) (S' := []) (σ' := (97, I, J, R)) rfl (fun hn => absurd hn (by decide)) (fun _ => ?_)
              refine az_E.sn 3 (pc' := 80) (L' := [.retAddr 0, .retAddr 0, .int v2, .retAddr 0, .int v4, .int v5, .ref 67, .ref 67]) (S' := [.int v5, .int v2, .ref 67]) (σ' := (97, I, J, R)) rfl ?_
              refine az_E.call (d := 1) (k' := 60) (vs := [.ref 67, .int v2, .int v5]) (pc' := 83) (S' := []) rfl ?_ (fun _ _ hq => hq)
              show az_E az_F ex 1 60 0 [.ref 67, .int v2, .int v5] [] (97, I, J, R) _
              refine az_E.sn 1 (pc' := 1) (L' := [.ref 67, .int v2, .int v5]) (S' := [.int v2]) (σ' := (97, I, J, R)) rfl ?_
              refine az_E.br (c := v2 < 0) (tt := 30) (ff := 4) (L' := [.ref 67, .int v2, .int v5]) (S' := []) (σ' := (97, I, J, R)) rfl (fun hc_1163 => ?_) (fun hc_1163 => ?_)
              · rw [if_pos hc_1163] at h
                refine az_E.sn 1 (pc' := 31) (L' := [.ref 67, .int v2, .int v5]) (S' := [.int (0 : Int32)]) (σ' := (97, I, J, R)) rfl ?_
                refine az_E.ret (v := some (.int (0 : Int32))) (σ' := (97, I, J, R)) rfl ?_
                show az_E az_F ex 2 128 83 [.retAddr 0, .retAddr 0, .int v2, .retAddr 0, .int v4, .int v5, .ref 67, .ref 67] [.int (0 : Int32)] (97, I, J, R) _
                refine az_E.br (c := (0 : Int32) = 0) (tt := 98) (ff := 86) (L' := [.retAddr 0, .retAddr 0, .int v2, .retAddr 0, .int v4, .int v5, .ref 67, .ref 67]) (S' := []) (σ' := (97, I, J, R)) rfl (fun _ => ?_) (fun hn => absurd (by decide) hn)
                refine az_E.sn 1 (pc' := 100) (L' := [.retAddr 0, .retAddr 0, .int v2, .retAddr 0, .int v4, .int v5, .ref 67, .ref 67]) (S' := [.int (-13 : Int32)]) (σ' := (97, I, J, R)) rfl ?_
                have h := Option.some.inj h
                subst h
                exact az_E.ret (v := some (.int (-13 : Int32))) (σ' := (97, I, J, R)) rfl hQ
              · rw [if_neg hc_1163] at h
                refine az_E.sn 1 (pc' := 5) (L' := [.ref 67, .int v2, .int v5]) (S' := [.int v5]) (σ' := (97, I, J, R)) rfl ?_
                refine az_E.br (c := v5 < 0) (tt := 30) (ff := 8) (L' := [.ref 67, .int v2, .int v5]) (S' := []) (σ' := (97, I, J, R)) rfl (fun hc_1164 => ?_) (fun hc_1164 => ?_)
                · rw [if_pos hc_1164] at h
                  refine az_E.sn 1 (pc' := 31) (L' := [.ref 67, .int v2, .int v5]) (S' := [.int (0 : Int32)]) (σ' := (97, I, J, R)) rfl ?_
                  refine az_E.ret (v := some (.int (0 : Int32))) (σ' := (97, I, J, R)) rfl ?_
                  show az_E az_F ex 2 128 83 [.retAddr 0, .retAddr 0, .int v2, .retAddr 0, .int v4, .int v5, .ref 67, .ref 67] [.int (0 : Int32)] (97, I, J, R) _
                  refine az_E.br (c := (0 : Int32) = 0) (tt := 98) (ff := 86) (L' := [.retAddr 0, .retAddr 0, .int v2, .retAddr 0, .int v4, .int v5, .ref 67, .ref 67]) (S' := []) (σ' := (97, I, J, R)) rfl (fun _ => ?_) (fun hn => absurd (by decide) hn)
                  refine az_E.sn 1 (pc' := 100) (L' := [.retAddr 0, .retAddr 0, .int v2, .retAddr 0, .int v4, .int v5, .ref 67, .ref 67]) (S' := [.int (-13 : Int32)]) (σ' := (97, I, J, R)) rfl ?_
                  have h := Option.some.inj h
                  subst h
                  exact az_E.ret (v := some (.int (-13 : Int32))) (σ' := (97, I, J, R)) rfl hQ
                · rw [if_neg hc_1164] at h
                  refine az_E.sn 3 (pc' := 13) (L' := [.ref 67, .int v2, .int v5]) (S' := [.int (I 67 2), .int v2]) (σ' := (97, I, J, R)) rfl ?_
                  refine az_E.br (c := (I 67 2) < v2) (tt := 30) (ff := 16) (L' := [.ref 67, .int v2, .int v5]) (S' := []) (σ' := (97, I, J, R)) rfl (fun hc_1165 => ?_) (fun hc_1165 => ?_)
                  · rw [if_pos hc_1165] at h
                    refine az_E.sn 1 (pc' := 31) (L' := [.ref 67, .int v2, .int v5]) (S' := [.int (0 : Int32)]) (σ' := (97, I, J, R)) rfl ?_
                    refine az_E.ret (v := some (.int (0 : Int32))) (σ' := (97, I, J, R)) rfl ?_
                    show az_E az_F ex 2 128 83 [.retAddr 0, .retAddr 0, .int v2, .retAddr 0, .int v4, .int v5, .ref 67, .ref 67] [.int (0 : Int32)] (97, I, J, R) _
                    refine az_E.br (c := (0 : Int32) = 0) (tt := 98) (ff := 86) (L' := [.retAddr 0, .retAddr 0, .int v2, .retAddr 0, .int v4, .int v5, .ref 67, .ref 67]) (S' := []) (σ' := (97, I, J, R)) rfl (fun _ => ?_) (fun hn => absurd (by decide) hn)
                    refine az_E.sn 1 (pc' := 100) (L' := [.retAddr 0, .retAddr 0, .int v2, .retAddr 0, .int v4, .int v5, .ref 67, .ref 67]) (S' := [.int (-13 : Int32)]) (σ' := (97, I, J, R)) rfl ?_
                    have h := Option.some.inj h
                    subst h
                    exact az_E.ret (v := some (.int (-13 : Int32))) (σ' := (97, I, J, R)) rfl hQ
                  · rw [if_neg hc_1165] at h
                    refine az_E.sn 5 (pc' := 23) (L' := [.ref 67, .int v2, .int v5]) (S' := [.int ((I 67 2) - v2), .int v5]) (σ' := (97, I, J, R)) rfl ?_
                    refine az_E.br (c := ((I 67 2) - v2) < v5) (tt := 30) (ff := 26) (L' := [.ref 67, .int v2, .int v5]) (S' := []) (σ' := (97, I, J, R)) rfl (fun hc_1166 => ?_) (fun hc_1166 => ?_)
                    · rw [if_pos hc_1166] at h
                      refine az_E.sn 1 (pc' := 31) (L' := [.ref 67, .int v2, .int v5]) (S' := [.int (0 : Int32)]) (σ' := (97, I, J, R)) rfl ?_
                      refine az_E.ret (v := some (.int (0 : Int32))) (σ' := (97, I, J, R)) rfl ?_
                      show az_E az_F ex 2 128 83 [.retAddr 0, .retAddr 0, .int v2, .retAddr 0, .int v4, .int v5, .ref 67, .ref 67] [.int (0 : Int32)] (97, I, J, R) _
                      refine az_E.br (c := (0 : Int32) = 0) (tt := 98) (ff := 86) (L' := [.retAddr 0, .retAddr 0, .int v2, .retAddr 0, .int v4, .int v5, .ref 67, .ref 67]) (S' := []) (σ' := (97, I, J, R)) rfl (fun _ => ?_) (fun hn => absurd (by decide) hn)
                      refine az_E.sn 1 (pc' := 100) (L' := [.retAddr 0, .retAddr 0, .int v2, .retAddr 0, .int v4, .int v5, .ref 67, .ref 67]) (S' := [.int (-13 : Int32)]) (σ' := (97, I, J, R)) rfl ?_
                      have h := Option.some.inj h
                      subst h
                      exact az_E.ret (v := some (.int (-13 : Int32))) (σ' := (97, I, J, R)) rfl hQ
                    · rw [if_neg hc_1166] at h
                      refine az_E.sn 2 (pc' := 31) (L' := [.ref 67, .int v2, .int v5]) (S' := [.int (1 : Int32)]) (σ' := (97, I, J, R)) rfl ?_
                      refine az_E.ret (v := some (.int (1 : Int32))) (σ' := (97, I, J, R)) rfl ?_
                      show az_E az_F ex 2 128 83 [.retAddr 0, .retAddr 0, .int v2, .retAddr 0, .int v4, .int v5, .ref 67, .ref 67] [.int (1 : Int32)] (97, I, J, R) _
                      refine az_E.br (c := (1 : Int32) = 0) (tt := 98) (ff := 86) (L' := [.retAddr 0, .retAddr 0, .int v2, .retAddr 0, .int v4, .int v5, .ref 67, .ref 67]) (S' := []) (σ' := (97, I, J, R)) rfl (fun hn => absurd hn (by decide)) (fun _ => ?_)
                      refine az_E.sn 3 (pc' := 92) (L' := [.retAddr 0, .retAddr 0, .int v2, .retAddr 0, .int v4, .int v5, .ref 67, .ref 67]) (S' := [.int v5, .int v4, .ref 67]) (σ' := (97, I, J, R)) rfl ?_
                      refine az_E.call (d := 1) (k' := 60) (vs := [.ref 67, .int v4, .int v5]) (pc' := 95) (S' := []) rfl ?_ (fun _ _ hq => hq)
                      show az_E az_F ex 1 60 0 [.ref 67, .int v4, .int v5] [] (97, I, J, R) _
                      refine az_E.sn 1 (pc' := 1) (L' := [.ref 67, .int v4, .int v5]) (S' := [.int v4]) (σ' := (97, I, J, R)) rfl ?_
                      refine az_E.br (c := v4 < 0) (tt := 30) (ff := 4) (L' := [.ref 67, .int v4, .int v5]) (S' := []) (σ' := (97, I, J, R)) rfl (fun hc_1167 => ?_) (fun hc_1167 => ?_)
                      · rw [if_pos hc_1167] at h
                        refine az_E.sn 1 (pc' := 31) (L' := [.ref 67, .int v4, .int v5]) (S' := [.int (0 : Int32)]) (σ' := (97, I, J, R)) rfl ?_
                        refine az_E.ret (v := some (.int (0 : Int32))) (σ' := (97, I, J, R)) rfl ?_
                        show az_E az_F ex 2 128 95 [.retAddr 0, .retAddr 0, .int v2, .retAddr 0, .int v4, .int v5, .ref 67, .ref 67] [.int (0 : Int32)] (97, I, J, R) _
                        refine az_E.br (c := (0 : Int32) = 0) (tt := 98) (ff := 101) (L' := [.retAddr 0, .retAddr 0, .int v2, .retAddr 0, .int v4, .int v5, .ref 67, .ref 67]) (S' := []) (σ' := (97, I, J, R)) rfl (fun _ => ?_) (fun hn => absurd (by decide) hn)
                        refine az_E.sn 1 (pc' := 100) (L' := [.retAddr 0, .retAddr 0, .int v2, .retAddr 0, .int v4, .int v5, .ref 67, .ref 67]) (S' := [.int (-13 : Int32)]) (σ' := (97, I, J, R)) rfl ?_
                        have h := Option.some.inj h
                        subst h
                        exact az_E.ret (v := some (.int (-13 : Int32))) (σ' := (97, I, J, R)) rfl hQ
                      · rw [if_neg hc_1167] at h
                        refine az_E.sn 1 (pc' := 5) (L' := [.ref 67, .int v4, .int v5]) (S' := [.int v5]) (σ' := (97, I, J, R)) rfl ?_
                        refine az_E.br (c := v5 < 0) (tt := 30) (ff := 8) (L' := [.ref 67, .int v4, .int v5]) (S' := []) (σ' := (97, I, J, R)) rfl (fun hc_1168 => ?_) (fun hc_1168 => ?_)
                        · rw [if_pos hc_1168] at h
                          refine az_E.sn 1 (pc' := 31) (L' := [.ref 67, .int v4, .int v5]) (S' := [.int (0 : Int32)]) (σ' := (97, I, J, R)) rfl ?_
                          refine az_E.ret (v := some (.int (0 : Int32))) (σ' := (97, I, J, R)) rfl ?_
                          show az_E az_F ex 2 128 95 [.retAddr 0, .retAddr 0, .int v2, .retAddr 0, .int v4, .int v5, .ref 67, .ref 67] [.int (0 : Int32)] (97, I, J, R) _
                          refine az_E.br (c := (0 : Int32) = 0) (tt := 98) (ff := 101) (L' := [.retAddr 0, .retAddr 0, .int v2, .retAddr 0, .int v4, .int v5, .ref 67, .ref 67]) (S' := []) (σ' := (97, I, J, R)) rfl (fun _ => ?_) (fun hn => absurd (by decide) hn)
                          refine az_E.sn 1 (pc' := 100) (L' := [.retAddr 0, .retAddr 0, .int v2, .retAddr 0, .int v4, .int v5, .ref 67, .ref 67]) (S' := [.int (-13 : Int32)]) (σ' := (97, I, J, R)) rfl ?_
                          have h := Option.some.inj h
                          subst h
                          exact az_E.ret (v := some (.int (-13 : Int32))) (σ' := (97, I, J, R)) rfl hQ
                        · rw [if_neg hc_1168] at h
                          refine az_E.sn 3 (pc' := 13) (L' := [.ref 67, .int v4, .int v5]) (S' := [.int (I 67 2), .int v4]) (σ' := (97, I, J, R)) rfl ?_
                          refine az_E.br (c := (I 67 2) < v4) (tt := 30) (ff := 16) (L' := [.ref 67, .int v4, .int v5]) (S' := []) (σ' := (97, I, J, R)) rfl (fun hc_1169 => ?_) (fun hc_1169 => ?_)
                          · rw [if_pos hc_1169] at h
                            refine az_E.sn 1 (pc' := 31) (L' := [.ref 67, .int v4, .int v5]) (S' := [.int (0 : Int32)]) (σ' := (97, I, J, R)) rfl ?_
                            refine az_E.ret (v := some (.int (0 : Int32))) (σ' := (97, I, J, R)) rfl ?_
                            show az_E az_F ex 2 128 95 [.retAddr 0, .retAddr 0, .int v2, .retAddr 0, .int v4, .int v5, .ref 67, .ref 67] [.int (0 : Int32)] (97, I, J, R) _
                            refine az_E.br (c := (0 : Int32) = 0) (tt := 98) (ff := 101) (L' := [.retAddr 0, .retAddr 0, .int v2, .retAddr 0, .int v4, .int v5, .ref 67, .ref 67]) (S' := []) (σ' := (97, I, J, R)) rfl (fun _ => ?_) (fun hn => absurd (by decide) hn)
                            refine az_E.sn 1 (pc' := 100) (L' := [.retAddr 0, .retAddr 0, .int v2, .retAddr 0, .int v4, .int v5, .ref 67, .ref 67]) (S' := [.int (-13 : Int32)]) (σ' := (97, I, J, R)) rfl ?_
                            have h := Option.some.inj h
                            subst h
                            exact az_E.ret (v := some (.int (-13 : Int32))) (σ' := (97, I, J, R)) rfl hQ
                          · rw [if_neg hc_1169] at h
                            refine az_E.sn 5 (pc' := 23) (L' := [.ref 67, .int v4, .int v5]) (S' := [.int ((I 67 2) - v4), .int v5]) (σ' := (97, I, J, R)) rfl ?_
                            refine az_E.br (c := ((I 67 2) - v4) < v5) (tt := 30) (ff := 26) (L' := [.ref 67, .int v4, .int v5]) (S' := []) (σ' := (97, I, J, R)) rfl (fun hc_1170 => ?_) (fun hc_1170 => ?_)
                            · rw [if_pos hc_1170] at h
                              refine az_E.sn 1 (pc' := 31) (L' := [.ref 67, .int v4, .int v5]) (S' := [.int (0 : Int32)]) (σ' := (97, I, J, R)) rfl ?_
                              refine az_E.ret (v := some (.int (0 : Int32))) (σ' := (97, I, J, R)) rfl ?_
                              show az_E az_F ex 2 128 95 [.retAddr 0, .retAddr 0, .int v2, .retAddr 0, .int v4, .int v5, .ref 67, .ref 67] [.int (0 : Int32)] (97, I, J, R) _
                              refine az_E.br (c := (0 : Int32) = 0) (tt := 98) (ff := 101) (L' := [.retAddr 0, .retAddr 0, .int v2, .retAddr 0, .int v4, .int v5, .ref 67, .ref 67]) (S' := []) (σ' := (97, I, J, R)) rfl (fun _ => ?_) (fun hn => absurd (by decide) hn)
                              refine az_E.sn 1 (pc' := 100) (L' := [.retAddr 0, .retAddr 0, .int v2, .retAddr 0, .int v4, .int v5, .ref 67, .ref 67]) (S' := [.int (-13 : Int32)]) (σ' := (97, I, J, R)) rfl ?_
                              have h := Option.some.inj h
                              subst h
                              exact az_E.ret (v := some (.int (-13 : Int32))) (σ' := (97, I, J, R)) rfl hQ
                            · rw [if_neg hc_1170] at h
                              refine az_E.sn 2 (pc' := 31) (L' := [.ref 67, .int v4, .int v5]) (S' := [.int (1 : Int32)]) (σ' := (97, I, J, R)) rfl ?_
                              refine az_E.ret (v := some (.int (1 : Int32))) (σ' := (97, I, J, R)) rfl ?_
                              show az_E az_F ex 2 128 95 [.retAddr 0, .retAddr 0, .int v2, .retAddr 0, .int v4, .int v5, .ref 67, .ref 67] [.int (1 : Int32)] (97, I, J, R) _
                              refine az_E.br (c := (1 : Int32) = 0) (tt := 98) (ff := 101) (L' := [.retAddr 0, .retAddr 0, .int v2, .retAddr 0, .int v4, .int v5, .ref 67, .ref 67]) (S' := []) (σ' := (97, I, J, R)) rfl (fun hn => absurd hn (by decide)) (fun _ => ?_)
                              refine az_E.sn 7 (pc' := 116) (L' := [.retAddr 0, .retAddr 0, .int v2, .retAddr 0, .int v4, .int v5, .ref 67, .ref 67]) (S' := [.int v5, .int v4, .ref (67 + 1), .int v2, .ref (67 + 1)]) (σ' := (97, I, J, R)) rfl ?_
                              by_cases hc_1171 : v2 < 0 ∨ v4 < 0 ∨ v5 < 0 ∨ 60 < v2.toNatClampNeg + v5.toNatClampNeg ∨ 60 < v4.toNatClampNeg + v5.toNatClampNeg
                              · rw [if_pos hc_1171] at h; cases h
                              · rw [if_neg hc_1171] at h
                                refine az_E.o (o := az_cp az_F (97, I, J, R) (67 + 1) v2 (67 + 1) v4 v5) (pc' := 119) (L' := [.retAddr 0, .retAddr 0, .int v2, .retAddr 0, .int v4, .int v5, .ref 67, .ref 67]) (S' := []) (x := (97, I, (az_ur J (67 + 1) (va_cpy (J (67 + 1)) (J (67 + 1)) v2.toNatClampNeg v4.toNatClampNeg v5.toNatClampNeg)), R)) rfl (if_neg hc_1171) ?_
                                refine az_E.sn 1 (pc' := 121) (L' := [.retAddr 0, .retAddr 0, .int v2, .retAddr 0, .int v4, .int v5, .ref 67, .ref 67]) (S' := [.int v5]) (σ' := (97, I, (az_ur J (67 + 1) (va_cpy (J (67 + 1)) (J (67 + 1)) v2.toNatClampNeg v4.toNatClampNeg v5.toNatClampNeg)), R)) rfl ?_
                                have h := Option.some.inj h
                                subst h
                                exact az_E.ret (v := some (.int v5)) (σ' := (97, I, (az_ur J (67 + 1) (va_cpy (J (67 + 1)) (J (67 + 1)) v2.toNatClampNeg v4.toNatClampNeg v5.toNatClampNeg)), R)) rfl hQ
            · rw [if_neg hc_1162] at h
              refine az_E.sn 1 (pc' := 20) (L' := [.ref 67, .int (I 67 1)]) (S' := [.int (0 : Int32)]) (σ' := (97, I, J, R)) rfl ?_
              refine az_E.ret (v := some (.int (0 : Int32))) (σ' := (97, I, J, R)) rfl ?_
              show az_E az_F ex 2 128 69 [.retAddr 0, .retAddr 0, .int v2, .retAddr 0, .int v4, .int v5, .ref 67, .ref 67] [.int (0 : Int32)] (97, I, J, R) _
              refine az_E.br (c := (0 : Int32) = 0) (tt := 72) (ff := 75) (L' := [.retAddr 0, .retAddr 0, .int v2, .retAddr 0, .int v4, .int v5, .ref 67, .ref 67]) (S' := []) (σ' := (97, I, J, R)) rfl (fun _ => ?_) (fun hn => absurd (by decide) hn)
              refine az_E.sn 1 (pc' := 74) (L' := [.retAddr 0, .retAddr 0, .int v2, .retAddr 0, .int v4, .int v5, .ref 67, .ref 67]) (S' := [.int (-12 : Int32)]) (σ' := (97, I, J, R)) rfl ?_
              have h := Option.some.inj h
              subst h
              exact az_E.ret (v := some (.int (-12 : Int32))) (σ' := (97, I, J, R)) rfl hQ
  · rw [if_neg hc_1144] at h
    refine az_E.sn 1 (pc' := 21) (L' := [.ref 67]) (S' := [.int (0 : Int32)]) (σ' := (97, I, J, R)) rfl ?_
    refine az_E.ret (v := some (.int (0 : Int32))) (σ' := (97, I, J, R)) rfl ?_
    show az_E az_F ex 2 128 37 [.retAddr 0, .retAddr 0, .int v2, .retAddr 0, .int v4, .int v5, .ref 67, .ref 67] [.int (0 : Int32)] (97, I, J, R) _
    refine az_E.br (c := (0 : Int32) = 0) (tt := 40) (ff := 48) (L' := [.retAddr 0, .retAddr 0, .int v2, .retAddr 0, .int v4, .int v5, .ref 67, .ref 67]) (S' := []) (σ' := (97, I, J, R)) rfl (fun _ => ?_) (fun hn => absurd (by decide) hn)
    refine az_E.sn 1 (pc' := 42) (L' := [.retAddr 0, .retAddr 0, .int v2, .retAddr 0, .int v4, .int v5, .ref 67, .ref 67]) (S' := [.ref 67]) (σ' := (97, I, J, R)) rfl ?_
    refine az_E.call (d := 1) (k' := 54) (vs := [.ref 67]) (pc' := 45) (S' := []) rfl ?_ (fun _ _ hq => hq)
    show az_E az_F ex 1 54 0 [.ref 67] [] (97, I, J, R) _
    refine az_E.sn 3 (pc' := 5) (L' := [.ref 67]) (S' := [.int (-1 : Int32), .int (I 67 0)]) (σ' := (97, I, J, R)) rfl ?_
    refine az_E.br (c := (I 67 0) = (-1 : Int32)) (tt := 8) (ff := 20) (L' := [.ref 67]) (S' := []) (σ' := (97, I, J, R)) rfl (fun hc_1172 => ?_) (fun hc_1172 => ?_)
    · rw [if_pos hc_1172] at h
      refine az_E.sn 3 (pc' := 13) (L' := [.ref 67]) (S' := [.int (-1 : Int32), .int (I 67 1)]) (σ' := (97, I, J, R)) rfl ?_
      refine az_E.br (c := (I 67 1) = (-1 : Int32)) (tt := 16) (ff := 20) (L' := [.ref 67]) (S' := []) (σ' := (97, I, J, R)) rfl (fun hc_1173 => ?_) (fun hc_1173 => ?_)
      · rw [if_pos hc_1173] at h
        refine az_E.sn 2 (pc' := 21) (L' := [.ref 67]) (S' := [.int (1 : Int32)]) (σ' := (97, I, J, R)) rfl ?_
        refine az_E.ret (v := some (.int (1 : Int32))) (σ' := (97, I, J, R)) rfl ?_
        show az_E az_F ex 2 128 45 [.retAddr 0, .retAddr 0, .int v2, .retAddr 0, .int v4, .int v5, .ref 67, .ref 67] [.int (1 : Int32)] (97, I, J, R) _
        refine az_E.br (c := (1 : Int32) = 0) (tt := 51) (ff := 48) (L' := [.retAddr 0, .retAddr 0, .int v2, .retAddr 0, .int v4, .int v5, .ref 67, .ref 67]) (S' := []) (σ' := (97, I, J, R)) rfl (fun hn => absurd hn (by decide)) (fun _ => ?_)
        refine az_E.sn 1 (pc' := 50) (L' := [.retAddr 0, .retAddr 0, .int v2, .retAddr 0, .int v4, .int v5, .ref 67, .ref 67]) (S' := [.int (-11 : Int32)]) (σ' := (97, I, J, R)) rfl ?_
        have h := Option.some.inj h
        subst h
        exact az_E.ret (v := some (.int (-11 : Int32))) (σ' := (97, I, J, R)) rfl hQ
      · rw [if_neg hc_1173] at h
        refine az_E.sn 1 (pc' := 21) (L' := [.ref 67]) (S' := [.int (0 : Int32)]) (σ' := (97, I, J, R)) rfl ?_
        refine az_E.ret (v := some (.int (0 : Int32))) (σ' := (97, I, J, R)) rfl ?_
        show az_E az_F ex 2 128 45 [.retAddr 0, .retAddr 0, .int v2, .retAddr 0, .int v4, .int v5, .ref 67, .ref 67] [.int (0 : Int32)] (97, I, J, R) _
        refine az_E.br (c := (0 : Int32) = 0) (tt := 51) (ff := 48) (L' := [.retAddr 0, .retAddr 0, .int v2, .retAddr 0, .int v4, .int v5, .ref 67, .ref 67]) (S' := []) (σ' := (97, I, J, R)) rfl (fun _ => ?_) (fun hn => absurd (by decide) hn)
        refine az_E.sn 1 (pc' := 53) (L' := [.retAddr 0, .retAddr 0, .int v2, .retAddr 0, .int v4, .int v5, .ref 67, .ref 67]) (S' := [.ref 67]) (σ' := (97, I, J, R)) rfl ?_
        refine az_E.call (d := 1) (k' := 55) (vs := [.ref 67]) (pc' := 56) (S' := []) rfl ?_ (fun _ _ hq => hq)
        show az_E az_F ex 1 55 0 [.ref 67] [] (97, I, J, R) _
        refine az_E.sn 3 (pc' := 5) (L' := [.ref 67]) (S' := [.int (-1 : Int32), .int (I 67 1)]) (σ' := (97, I, J, R)) rfl ?_
        refine az_E.br (c := (I 67 1) = (-1 : Int32)) (tt := 12) (ff := 8) (L' := [.ref 67]) (S' := []) (σ' := (97, I, J, R)) rfl (fun hc_1174 => ?_) (fun hc_1174 => ?_)
        · rw [if_pos hc_1174] at h
          refine az_E.sn 1 (pc' := 13) (L' := [.ref 67]) (S' := [.int (0 : Int32)]) (σ' := (97, I, J, R)) rfl ?_
          refine az_E.ret (v := some (.int (0 : Int32))) (σ' := (97, I, J, R)) rfl ?_
          show az_E az_F ex 2 128 56 [.retAddr 0, .retAddr 0, .int v2, .retAddr 0, .int v4, .int v5, .ref 67, .ref 67] [.int (0 : Int32)] (97, I, J, R) _
          refine az_E.br (c := (0 : Int32) = 0) (tt := 72) (ff := 59) (L' := [.retAddr 0, .retAddr 0, .int v2, .retAddr 0, .int v4, .int v5, .ref 67, .ref 67]) (S' := []) (σ' := (97, I, J, R)) rfl (fun _ => ?_) (fun hn => absurd (by decide) hn)
          refine az_E.sn 1 (pc' := 74) (L' := [.retAddr 0, .retAddr 0, .int v2, .retAddr 0, .int v4, .int v5, .ref 67, .ref 67]) (S' := [.int (-12 : Int32)]) (σ' := (97, I, J, R)) rfl ?_
          have h := Option.some.inj h
          subst h
          exact az_E.ret (v := some (.int (-12 : Int32))) (σ' := (97, I, J, R)) rfl hQ
        · rw [if_neg hc_1174] at h
          refine az_E.sn 2 (pc' := 13) (L' := [.ref 67]) (S' := [.int (1 : Int32)]) (σ' := (97, I, J, R)) rfl ?_
          refine az_E.ret (v := some (.int (1 : Int32))) (σ' := (97, I, J, R)) rfl ?_
          show az_E az_F ex 2 128 56 [.retAddr 0, .retAddr 0, .int v2, .retAddr 0, .int v4, .int v5, .ref 67, .ref 67] [.int (1 : Int32)] (97, I, J, R) _
          refine az_E.br (c := (1 : Int32) = 0) (tt := 72) (ff := 59) (L' := [.retAddr 0, .retAddr 0, .int v2, .retAddr 0, .int v4, .int v5, .ref 67, .ref 67]) (S' := []) (σ' := (97, I, J, R)) rfl (fun hn => absurd hn (by decide)) (fun _ => ?_)
          refine az_E.sn 3 (pc' := 66) (L' := [.retAddr 0, .retAddr 0, .int v2, .retAddr 0, .int v4, .int v5, .ref 67, .ref 67]) (S' := [.int (I 67 1), .ref 67]) (σ' := (97, I, J, R)) rfl ?_
          refine az_E.call (d := 1) (k' := 56) (vs := [.ref 67, .int (I 67 1)]) (pc' := 69) (S' := []) rfl ?_ (fun _ _ hq => hq)
          show az_E az_F ex 1 56 0 [.ref 67, .int (I 67 1)] [] (97, I, J, R) _
          refine az_E.sn 1 (pc' := 1) (L' := [.ref 67, .int (I 67 1)]) (S' := [.ref 67]) (σ' := (97, I, J, R)) rfl ?_
          refine az_E.call (d := 0) (k' := 55) (vs := [.ref 67]) (pc' := 4) (S' := []) rfl ?_ (fun _ _ hq => hq)
          show az_E az_F ex 0 55 0 [.ref 67] [] (97, I, J, R) _
          refine az_E.sn 3 (pc' := 5) (L' := [.ref 67]) (S' := [.int (-1 : Int32), .int (I 67 1)]) (σ' := (97, I, J, R)) rfl ?_
          refine az_E.br (c := (I 67 1) = (-1 : Int32)) (tt := 12) (ff := 8) (L' := [.ref 67]) (S' := []) (σ' := (97, I, J, R)) rfl (fun hc_1175 => ?_) (fun hc_1175 => ?_)
          · rw [if_pos hc_1175] at h
            refine az_E.sn 1 (pc' := 13) (L' := [.ref 67]) (S' := [.int (0 : Int32)]) (σ' := (97, I, J, R)) rfl ?_
            refine az_E.ret (v := some (.int (0 : Int32))) (σ' := (97, I, J, R)) rfl ?_
            show az_E az_F ex 1 56 4 [.ref 67, .int (I 67 1)] [.int (0 : Int32)] (97, I, J, R) _
            refine az_E.br (c := (0 : Int32) = 0) (tt := 19) (ff := 7) (L' := [.ref 67, .int (I 67 1)]) (S' := []) (σ' := (97, I, J, R)) rfl (fun _ => ?_) (fun hn => absurd (by decide) hn)
            refine az_E.sn 1 (pc' := 20) (L' := [.ref 67, .int (I 67 1)]) (S' := [.int (0 : Int32)]) (σ' := (97, I, J, R)) rfl ?_
            refine az_E.ret (v := some (.int (0 : Int32))) (σ' := (97, I, J, R)) rfl ?_
            show az_E az_F ex 2 128 69 [.retAddr 0, .retAddr 0, .int v2, .retAddr 0, .int v4, .int v5, .ref 67, .ref 67] [.int (0 : Int32)] (97, I, J, R) _
            refine az_E.br (c := (0 : Int32) = 0) (tt := 72) (ff := 75) (L' := [.retAddr 0, .retAddr 0, .int v2, .retAddr 0, .int v4, .int v5, .ref 67, .ref 67]) (S' := []) (σ' := (97, I, J, R)) rfl (fun _ => ?_) (fun hn => absurd (by decide) hn)
            refine az_E.sn 1 (pc' := 74) (L' := [.retAddr 0, .retAddr 0, .int v2, .retAddr 0, .int v4, .int v5, .ref 67, .ref 67]) (S' := [.int (-12 : Int32)]) (σ' := (97, I, J, R)) rfl ?_
            have h := Option.some.inj h
            subst h
            exact az_E.ret (v := some (.int (-12 : Int32))) (σ' := (97, I, J, R)) rfl hQ
          · rw [if_neg hc_1175] at h
            refine az_E.sn 2 (pc' := 13) (L' := [.ref 67]) (S' := [.int (1 : Int32)]) (σ' := (97, I, J, R)) rfl ?_
            refine az_E.ret (v := some (.int (1 : Int32))) (σ' := (97, I, J, R)) rfl ?_
            show az_E az_F ex 1 56 4 [.ref 67, .int (I 67 1)] [.int (1 : Int32)] (97, I, J, R) _
            refine az_E.br (c := (1 : Int32) = 0) (tt := 19) (ff := 7) (L' := [.ref 67, .int (I 67 1)]) (S' := []) (σ' := (97, I, J, R)) rfl (fun hn => absurd hn (by decide)) (fun _ => ?_)
            refine az_E.sn 3 (pc' := 12) (L' := [.ref 67, .int (I 67 1)]) (S' := [.int (I 67 1), .int (I 67 1)]) (σ' := (97, I, J, R)) rfl ?_
            refine az_E.br (c := (I 67 1) = (I 67 1)) (tt := 15) (ff := 19) (L' := [.ref 67, .int (I 67 1)]) (S' := []) (σ' := (97, I, J, R)) rfl (fun hc_1176 => ?_) (fun hc_1176 => ?_)
            · rw [if_pos hc_1176] at h
              refine az_E.sn 2 (pc' := 20) (L' := [.ref 67, .int (I 67 1)]) (S' := [.int (1 : Int32)]) (σ' := (97, I, J, R)) rfl ?_
              refine az_E.ret (v := some (.int (1 : Int32))) (σ' := (97, I, J, R)) rfl ?_
              show az_E az_F ex 2 128 69 [.retAddr 0, .retAddr 0, .int v2, .retAddr 0, .int v4, .int v5, .ref 67, .ref 67] [.int (1 : Int32)] (97, I, J, R) _
              refine az_E.br (c := (1 : Int32) = 0) (tt := 72) (ff := 75) (L' := [.retAddr 0, .retAddr 0, .int v2, .retAddr 0, .int v4, .int v5, .ref 67, .ref 67]) (S' := []) (σ' := (97, I, J, R)) rfl (fun hn => absurd hn (by decide)) (fun _ => ?_)
              refine az_E.sn 3 (pc' := 80) (L' := [.retAddr 0, .retAddr 0, .int v2, .retAddr 0, .int v4, .int v5, .ref 67, .ref 67]) (S' := [.int v5, .int v2, .ref 67]) (σ' := (97, I, J, R)) rfl ?_
              refine az_E.call (d := 1) (k' := 60) (vs := [.ref 67, .int v2, .int v5]) (pc' := 83) (S' := []) rfl ?_ (fun _ _ hq => hq)
              show az_E az_F ex 1 60 0 [.ref 67, .int v2, .int v5] [] (97, I, J, R) _
              refine az_E.sn 1 (pc' := 1) (L' := [.ref 67, .int v2, .int v5]) (S' := [.int v2]) (σ' := (97, I, J, R)) rfl ?_
              refine az_E.br (c := v2 < 0) (tt := 30) (ff := 4) (L' := [.ref 67, .int v2, .int v5]) (S' := []) (σ' := (97, I, J, R)) rfl (fun hc_1177 => ?_) (fun hc_1177 => ?_)
              · rw [if_pos hc_1177] at h
                refine az_E.sn 1 (pc' := 31) (L' := [.ref 67, .int v2, .int v5]) (S' := [.int (0 : Int32)]) (σ' := (97, I, J, R)) rfl ?_
                refine az_E.ret (v := some (.int (0 : Int32))) (σ' := (97, I, J, R)) rfl ?_
                show az_E az_F ex 2 128 83 [.retAddr 0, .retAddr 0, .int v2, .retAddr 0, .int v4, .int v5, .ref 67, .ref 67] [.int (0 : Int32)] (97, I, J, R) _
                refine az_E.br (c := (0 : Int32) = 0) (tt := 98) (ff := 86) (L' := [.retAddr 0, .retAddr 0, .int v2, .retAddr 0, .int v4, .int v5, .ref 67, .ref 67]) (S' := []) (σ' := (97, I, J, R)) rfl (fun _ => ?_) (fun hn => absurd (by decide) hn)
                refine az_E.sn 1 (pc' := 100) (L' := [.retAddr 0, .retAddr 0, .int v2, .retAddr 0, .int v4, .int v5, .ref 67, .ref 67]) (S' := [.int (-13 : Int32)]) (σ' := (97, I, J, R)) rfl ?_
                have h := Option.some.inj h
                subst h
                exact az_E.ret (v := some (.int (-13 : Int32))) (σ' := (97, I, J, R)) rfl hQ
              · rw [if_neg hc_1177] at h
                refine az_E.sn 1 (pc' := 5) (L' := [.ref 67, .int v2, .int v5]) (S' := [.int v5]) (σ' := (97, I, J, R)) rfl ?_
                refine az_E.br (c := v5 < 0) (tt := 30) (ff := 8) (L' := [.ref 67, .int v2, .int v5]) (S' := []) (σ' := (97, I, J, R)) rfl (fun hc_1178 => ?_) (fun hc_1178 => ?_)
                · rw [if_pos hc_1178] at h
                  refine az_E.sn 1 (pc' := 31) (L' := [.ref 67, .int v2, .int v5]) (S' := [.int (0 : Int32)]) (σ' := (97, I, J, R)) rfl ?_
                  refine az_E.ret (v := some (.int (0 : Int32))) (σ' := (97, I, J, R)) rfl ?_
                  show az_E az_F ex 2 128 83 [.retAddr 0, .retAddr 0, .int v2, .retAddr 0, .int v4, .int v5, .ref 67, .ref 67] [.int (0 : Int32)] (97, I, J, R) _
                  refine az_E.br (c := (0 : Int32) = 0) (tt := 98) (ff := 86) (L' := [.retAddr 0, .retAddr 0, .int v2, .retAddr 0, .int v4, .int v5, .ref 67, .ref 67]) (S' := []) (σ' := (97, I, J, R)) rfl (fun _ => ?_) (fun hn => absurd (by decide) hn)
                  refine az_E.sn 1 (pc' := 100) (L' := [.retAddr 0, .retAddr 0, .int v2, .retAddr 0, .int v4, .int v5, .ref 67, .ref 67]) (S' := [.int (-13 : Int32)]) (σ' := (97, I, J, R)) rfl ?_
                  have h := Option.some.inj h
                  subst h
                  exact az_E.ret (v := some (.int (-13 : Int32))) (σ' := (97, I, J, R)) rfl hQ
                · rw [if_neg hc_1178] at h
                  refine az_E.sn 3 (pc' := 13) (L' := [.ref 67, .int v2, .int v5]) (S' := [.int (I 67 2), .int v2]) (σ' := (97, I, J, R)) rfl ?_
                  refine az_E.br (c := (I 67 2) < v2) (tt := 30) (ff := 16) (L' := [.ref 67, .int v2, .int v5]) (S' := []) (σ' := (97, I, J, R)) rfl (fun hc_1179 => ?_) (fun hc_1179 => ?_)
                  · rw [if_pos hc_1179] at h
                    refine az_E.sn 1 (pc' := 31) (L' := [.ref 67, .int v2, .int v5]) (S' := [.int (0 : Int32)]) (σ' := (97, I, J, R)) rfl ?_
                    refine az_E.ret (v := some (.int (0 : Int32))) (σ' := (97, I, J, R)) rfl ?_
                    show az_E az_F ex 2 128 83 [.retAddr 0, .retAddr 0, .int v2, .retAddr 0, .int v4, .int v5, .ref 67, .ref 67] [.int (0 : Int32)] (97, I, J, R) _
                    refine az_E.br (c := (0 : Int32) = 0) (tt := 98) (ff := 86) (L' := [.retAddr 0, .retAddr 0, .int v2, .retAddr 0, .int v4, .int v5, .ref 67, .ref 67]) (S' := []) (σ' := (97, I, J, R)) rfl (fun _ => ?_) (fun hn => absurd (by decide) hn)
                    refine az_E.sn 1 (pc' := 100) (L' := [.retAddr 0, .retAddr 0, .int v2, .retAddr 0, .int v4, .int v5, .ref 67, .ref 67]) (S' := [.int (-13 : Int32)]) (σ' := (97, I, J, R)) rfl ?_
                    have h := Option.some.inj h
                    subst h
                    exact az_E.ret (v := some (.int (-13 : Int32))) (σ' := (97, I, J, R)) rfl hQ
                  · rw [if_neg hc_1179] at h
                    refine az_E.sn 5 (pc' := 23) (L' := [.ref 67, .int v2, .int v5]) (S' := [.int ((I 67 2) - v2), .int v5]) (σ' := (97, I, J, R)) rfl ?_
                    refine az_E.br (c := ((I 67 2) - v2) < v5) (tt := 30) (ff := 26) (L' := [.ref 67, .int v2, .int v5]) (S' := []) (σ' := (97, I, J, R)) rfl (fun hc_1180 => ?_) (fun hc_1180 => ?_)
                    · rw [if_pos hc_1180] at h
                      refine az_E.sn 1 (pc' := 31) (L' := [.ref 67, .int v2, .int v5]) (S' := [.int (0 : Int32)]) (σ' := (97, I, J, R)) rfl ?_
                      refine az_E.ret (v := some (.int (0 : Int32))) (σ' := (97, I, J, R)) rfl ?_
                      show az_E az_F ex 2 128 83 [.retAddr 0, .retAddr 0, .int v2, .retAddr 0, .int v4, .int v5, .ref 67, .ref 67] [.int (0 : Int32)] (97, I, J, R) _
                      refine az_E.br (c := (0 : Int32) = 0) (tt := 98) (ff := 86) (L' := [.retAddr 0, .retAddr 0, .int v2, .retAddr 0, .int v4, .int v5, .ref 67, .ref 67]) (S' := []) (σ' := (97, I, J, R)) rfl (fun _ => ?_) (fun hn => absurd (by decide) hn)
                      refine az_E.sn 1 (pc' := 100) (L' := [.retAddr 0, .retAddr 0, .int v2, .retAddr 0, .int v4, .int v5, .ref 67, .ref 67]) (S' := [.int (-13 : Int32)]) (σ' := (97, I, J, R)) rfl ?_
                      have h := Option.some.inj h
                      subst h
                      exact az_E.ret (v := some (.int (-13 : Int32))) (σ' := (97, I, J, R)) rfl hQ
                    · rw [if_neg hc_1180] at h
                      refine az_E.sn 2 (pc' := 31) (L' := [.ref 67, .int v2, .int v5]) (S' := [.int (1 : Int32)]) (σ' := (97, I, J, R)) rfl ?_
                      refine az_E.ret (v := some (.int (1 : Int32))) (σ' := (97, I, J, R)) rfl ?_
                      show az_E az_F ex 2 128 83 [.retAddr 0, .retAddr 0, .int v2, .retAddr 0, .int v4, .int v5, .ref 67, .ref 67] [.int (1 : Int32)] (97, I, J, R) _
                      refine az_E.br (c := (1 : Int32) = 0) (tt := 98) (ff := 86) (L' := [.retAddr 0, .retAddr 0, .int v2, .retAddr 0, .int v4, .int v5, .ref 67, .ref 67]) (S' := []) (σ' := (97, I, J, R)) rfl (fun hn => absurd hn (by decide)) (fun _ => ?_)
                      refine az_E.sn 3 (pc' := 92) (L' := [.retAddr 0, .retAddr 0, .int v2, .retAddr 0, .int v4, .int v5, .ref 67, .ref 67]) (S' := [.int v5, .int v4, .ref 67]) (σ' := (97, I, J, R)) rfl ?_
                      refine az_E.call (d := 1) (k' := 60) (vs := [.ref 67, .int v4, .int v5]) (pc' := 95) (S' := []) rfl ?_ (fun _ _ hq => hq)
                      show az_E az_F ex 1 60 0 [.ref 67, .int v4, .int v5] [] (97, I, J, R) _
                      refine az_E.sn 1 (pc' := 1) (L' := [.ref 67, .int v4, .int v5]) (S' := [.int v4]) (σ' := (97, I, J, R)) rfl ?_
                      refine az_E.br (c := v4 < 0) (tt := 30) (ff := 4) (L' := [.ref 67, .int v4, .int v5]) (S' := []) (σ' := (97, I, J, R)) rfl (fun hc_1181 => ?_) (fun hc_1181 => ?_)
                      · rw [if_pos hc_1181] at h
                        refine az_E.sn 1 (pc' := 31) (L' := [.ref 67, .int v4, .int v5]) (S' := [.int (0 : Int32)]) (σ' := (97, I, J, R)) rfl ?_
                        refine az_E.ret (v := some (.int (0 : Int32))) (σ' := (97, I, J, R)) rfl ?_
                        show az_E az_F ex 2 128 95 [.retAddr 0, .retAddr 0, .int v2, .retAddr 0, .int v4, .int v5, .ref 67, .ref 67] [.int (0 : Int32)] (97, I, J, R) _
                        refine az_E.br (c := (0 : Int32) = 0) (tt := 98) (ff := 101) (L' := [.retAddr 0, .retAddr 0, .int v2, .retAddr 0, .int v4, .int v5, .ref 67, .ref 67]) (S' := []) (σ' := (97, I, J, R)) rfl (fun _ => ?_) (fun hn => absurd (by decide) hn)
                        refine az_E.sn 1 (pc' := 100) (L' := [.retAddr 0, .retAddr 0, .int v2, .retAddr 0, .int v4, .int v5, .ref 67, .ref 67]) (S' := [.int (-13 : Int32)]) (σ' := (97, I, J, R)) rfl ?_
                        have h := Option.some.inj h
                        subst h
                        exact az_E.ret (v := some (.int (-13 : Int32))) (σ' := (97, I, J, R)) rfl hQ
                      · rw [if_neg hc_1181] at h
                        refine az_E.sn 1 (pc' := 5) (L' := [.ref 67, .int v4, .int v5]) (S' := [.int v5]) (σ' := (97, I, J, R)) rfl ?_
                        refine az_E.br (c := v5 < 0) (tt := 30) (ff := 8) (L' := [.ref 67, .int v4, .int v5]) (S' := []) (σ' := (97, I, J, R)) rfl (fun hc_1182 => ?_) (fun hc_1182 => ?_)
                        · rw [if_pos hc_1182] at h
                          refine az_E.sn 1 (pc' := 31) (L' := [.ref 67, .int v4, .int v5]) (S' := [.int (0 : Int32)]) (σ' := (97, I, J, R)) rfl ?_
                          refine az_E.ret (v := some (.int (0 : Int32))) (σ' := (97, I, J, R)) rfl ?_
                          show az_E az_F ex 2 128 95 [.retAddr 0, .retAddr 0, .int v2, .retAddr 0, .int v4, .int v5, .ref 67, .ref 67] [.int (0 : Int32)] (97, I, J, R) _
                          refine az_E.br (c := (0 : Int32) = 0) (tt := 98) (ff := 101) (L' := [.retAddr 0, .retAddr 0, .int v2, .retAddr 0, .int v4, .int v5, .ref 67, .ref 67]) (S' := []) (σ' := (97, I, J, R)) rfl (fun _ => ?_) (fun hn => absurd (by decide) hn)
                          refine az_E.sn 1 (pc' := 100) (L' := [.retAddr 0, .retAddr 0, .int v2, .retAddr 0, .int v4, .int v5, .ref 67, .ref 67]) (S' := [.int (-13 : Int32)]) (σ' := (97, I, J, R)) rfl ?_
                          have h := Option.some.inj h
                          subst h
                          exact az_E.ret (v := some (.int (-13 : Int32))) (σ' := (97, I, J, R)) rfl hQ
                        · rw [if_neg hc_1182] at h
                          refine az_E.sn 3 (pc' := 13) (L' := [.ref 67, .int v4, .int v5]) (S' := [.int (I 67 2), .int v4]) (σ' := (97, I, J, R)) rfl ?_
                          refine az_E.br (c := (I 67 2) < v4) (tt := 30) (ff := 16) (L' := [.ref 67, .int v4, .int v5]) (S' := []) (σ' := (97, I, J, R)) rfl (fun hc_1183 => ?_) (fun hc_1183 => ?_)
                          · rw [if_pos hc_1183] at h
                            refine az_E.sn 1 (pc' := 31) (L' := [.ref 67, .int v4, .int v5]) (S' := [.int (0 : Int32)]) (σ' := (97, I, J, R)) rfl ?_
                            refine az_E.ret (v := some (.int (0 : Int32))) (σ' := (97, I, J, R)) rfl ?_
                            show az_E az_F ex 2 128 95 [.retAddr 0, .retAddr 0, .int v2, .retAddr 0, .int v4, .int v5, .ref 67, .ref 67] [.int (0 : Int32)] (97, I, J, R) _
                            refine az_E.br (c := (0 : Int32) = 0) (tt := 98) (ff := 101) (L' := [.retAddr 0, .retAddr 0, .int v2, .retAddr 0, .int v4, .int v5, .ref 67, .ref 67]) (S' := []) (σ' := (97, I, J, R)) rfl (fun _ => ?_) (fun hn => absurd (by decide) hn)
                            refine az_E.sn 1 (pc' := 100) (L' := [.retAddr 0, .retAddr 0, .int v2, .retAddr 0, .int v4, .int v5, .ref 67, .ref 67]) (S' := [.int (-13 : Int32)]) (σ' := (97, I, J, R)) rfl ?_
                            have h := Option.some.inj h
                            subst h
                            exact az_E.ret (v := some (.int (-13 : Int32))) (σ' := (97, I, J, R)) rfl hQ
                          · rw [if_neg hc_1183] at h
                            refine az_E.sn 5 (pc' := 23) (L' := [.ref 67, .int v4, .int v5]) (S' := [.int ((I 67 2) - v4), .int v5]) (σ' := (97, I, J, R)) rfl ?_
                            refine az_E.br (c := ((I 67 2) - v4) < v5) (tt := 30) (ff := 26) (L' := [.ref 67, .int v4, .int v5]) (S' := []) (σ' := (97, I, J, R)) rfl (fun hc_1184 => ?_) (fun hc_1184 => ?_)
                            · rw [if_pos hc_1184] at h
                              refine az_E.sn 1 (pc' := 31) (L' := [.ref 67, .int v4, .int v5]) (S' := [.int (0 : Int32)]) (σ' := (97, I, J, R)) rfl ?_
                              refine az_E.ret (v := some (.int (0 : Int32))) (σ' := (97, I, J, R)) rfl ?_
                              show az_E az_F ex 2 128 95 [.retAddr 0, .retAddr 0, .int v2, .retAddr 0, .int v4, .int v5, .ref 67, .ref 67] [.int (0 : Int32)] (97, I, J, R) _
                              refine az_E.br (c := (0 : Int32) = 0) (tt := 98) (ff := 101) (L' := [.retAddr 0, .retAddr 0, .int v2, .retAddr 0, .int v4, .int v5, .ref 67, .ref 67]) (S' := []) (σ' := (97, I, J, R)) rfl (fun _ => ?_) (fun hn => absurd (by decide) hn)
                              refine az_E.sn 1 (pc' := 100) (L' := [.retAddr 0, .retAddr 0, .int v2, .retAddr 0, .int v4, .int v5, .ref 67, .ref 67]) (S' := [.int (-13 : Int32)]) (σ' := (97, I, J, R)) rfl ?_
                              have h := Option.some.inj h
                              subst h
                              exact az_E.ret (v := some (.int (-13 : Int32))) (σ' := (97, I, J, R)) rfl hQ
                            · rw [if_neg hc_1184] at h
                              refine az_E.sn 2 (pc' := 31) (L' := [.ref 67, .int v4, .int v5]) (S' := [.int (1 : Int32)]) (σ' := (97, I, J, R)) rfl ?_
                              refine az_E.ret (v := some (.int (1 : Int32))) (σ' := (97, I, J, R)) rfl ?_
                              show az_E az_F ex 2 128 95 [.retAddr 0, .retAddr 0, .int v2, .retAddr 0, .int v4, .int v5, .ref 67, .ref 67] [.int (1 : Int32)] (97, I, J, R) _
                              refine az_E.br (c := (1 : Int32) = 0) (tt := 98) (ff := 101) (L' := [.retAddr 0, .retAddr 0, .int v2, .retAddr 0, .int v4, .int v5, .ref 67, .ref 67]) (S' := []) (σ' := (97, I, J, R)) rfl (fun hn => absurd hn (by decide)) (fun _ => ?_)
                              refine az_E.sn 7 (pc' := 116) (L' := [.retAddr 0, .retAddr 0, .int v2, .retAddr 0, .int v4, .int v5, .ref 67, .ref 67]) (S' := [.int v5, .int v4, .ref (67 + 1), .int v2, .ref (67 + 1)]) (σ' := (97, I, J, R)) rfl ?_
                              by_cases hc_1185 : v2 < 0 ∨ v4 < 0 ∨ v5 < 0 ∨ 60 < v2.toNatClampNeg + v5.toNatClampNeg ∨ 60 < v4.toNatClampNeg + v5.toNatClampNeg
                              · rw [if_pos hc_1185] at h; cases h
                              · rw [if_neg hc_1185] at h
                                refine az_E.o (o := az_cp az_F (97, I, J, R) (67 + 1) v2 (67 + 1) v4 v5) (pc' := 119) (L' := [.retAddr 0, .retAddr 0, .int v2, .retAddr 0, .int v4, .int v5, .ref 67, .ref 67]) (S' := []) (x := (97, I, (az_ur J (67 + 1) (va_cpy (J (67 + 1)) (J (67 + 1)) v2.toNatClampNeg v4.toNatClampNeg v5.toNatClampNeg)), R)) rfl (if_neg hc_1185) ?_
                                refine az_E.sn 1 (pc' := 121) (L' := [.retAddr 0, .retAddr 0, .int v2, .retAddr 0, .int v4, .int v5, .ref 67, .ref 67]) (S' := [.int v5]) (σ' := (97, I, (az_ur J (67 + 1) (va_cpy (J (67 + 1)) (J (67 + 1)) v2.toNatClampNeg v4.toNatClampNeg v5.toNatClampNeg)), R)) rfl ?_
                                have h := Option.some.inj h
                                subst h
                                exact az_E.ret (v := some (.int v5)) (σ' := (97, I, (az_ur J (67 + 1) (va_cpy (J (67 + 1)) (J (67 + 1)) v2.toNatClampNeg v4.toNatClampNeg v5.toNatClampNeg)), R)) rfl hQ
            · rw [if_neg hc_1176] at h
              refine az_E.sn 1 (pc' := 20) (L' := [.ref 67, .int (I 67 1)]) (S' := [.int (0 : Int32)]) (σ' := (97, I, J, R)) rfl ?_
              refine az_E.ret (v := some (.int (0 : Int32))) (σ' := (97, I, J, R)) rfl ?_
              show az_E az_F ex 2 128 69 [.retAddr 0, .retAddr 0, .int v2, .retAddr 0, .int v4, .int v5, .ref 67, .ref 67] [.int (0 : Int32)] (97, I, J, R) _
              refine az_E.br (c := (0 : Int32) = 0) (tt := 72) (ff := 75) (L' := [.retAddr 0, .retAddr 0, .int v2, .retAddr 0, .int v4, .int v5, .ref 67, .ref 67]) (S' := []) (σ' := (97, I, J, R)) rfl (fun _ => ?_) (fun hn => absurd (by decide) hn)
              refine az_E.sn 1 (pc' := 74) (L' := [.retAddr 0, .retAddr 0, .int v2, .retAddr 0, .int v4, .int v5, .ref 67, .ref 67]) (S' := [.int (-12 : Int32)]) (σ' := (97, I, J, R)) rfl ?_
              have h := Option.some.inj h
              subst h
              exact az_E.ret (v := some (.int (-12 : Int32))) (σ' := (97, I, J, R)) rfl hQ
    · rw [if_neg hc_1172] at h
      refine az_E.sn 1 (pc' := 21) (L' := [.ref 67]) (S' := [.int (0 : Int32)]) (σ' := (97, I, J, R)) rfl ?_
      refine az_E.ret (v := some (.int (0 : Int32))) (σ' := (97, I, J, R)) rfl ?_
      show az_E az_F ex 2 128 45 [.retAddr 0, .retAddr 0, .int v2, .retAddr 0, .int v4, .int v5, .ref 67, .ref 67] [.int (0 : Int32)] (97, I, J, R) _
      refine az_E.br (c := (0 : Int32) = 0) (tt := 51) (ff := 48) (L' := [.retAddr 0, .retAddr 0, .int v2, .retAddr 0, .int v4, .int v5, .ref 67, .ref 67]) (S' := []) (σ' := (97, I, J, R)) rfl (fun _ => ?_) (fun hn => absurd (by decide) hn)
      refine az_E.sn 1 (pc' := 53) (L' := [.retAddr 0, .retAddr 0, .int v2, .retAddr 0, .int v4, .int v5, .ref 67, .ref 67]) (S' := [.ref 67]) (σ' := (97, I, J, R)) rfl ?_
      refine az_E.call (d := 1) (k' := 55) (vs := [.ref 67]) (pc' := 56) (S' := []) rfl ?_ (fun _ _ hq => hq)
      show az_E az_F ex 1 55 0 [.ref 67] [] (97, I, J, R) _
      refine az_E.sn 3 (pc' := 5) (L' := [.ref 67]) (S' := [.int (-1 : Int32), .int (I 67 1)]) (σ' := (97, I, J, R)) rfl ?_
      refine az_E.br (c := (I 67 1) = (-1 : Int32)) (tt := 12) (ff := 8) (L' := [.ref 67]) (S' := []) (σ' := (97, I, J, R)) rfl (fun hc_1186 => ?_) (fun hc_1186 => ?_)
      · rw [if_pos hc_1186] at h
        refine az_E.sn 1 (pc' := 13) (L' := [.ref 67]) (S' := [.int (0 : Int32)]) (σ' := (97, I, J, R)) rfl ?_
        refine az_E.ret (v := some (.int (0 : Int32))) (σ' := (97, I, J, R)) rfl ?_
        show az_E az_F ex 2 128 56 [.retAddr 0, .retAddr 0, .int v2, .retAddr 0, .int v4, .int v5, .ref 67, .ref 67] [.int (0 : Int32)] (97, I, J, R) _
        refine az_E.br (c := (0 : Int32) = 0) (tt := 72) (ff := 59) (L' := [.retAddr 0, .retAddr 0, .int v2, .retAddr 0, .int v4, .int v5, .ref 67, .ref 67]) (S' := []) (σ' := (97, I, J, R)) rfl (fun _ => ?_) (fun hn => absurd (by decide) hn)
        refine az_E.sn 1 (pc' := 74) (L' := [.retAddr 0, .retAddr 0, .int v2, .retAddr 0, .int v4, .int v5, .ref 67, .ref 67]) (S' := [.int (-12 : Int32)]) (σ' := (97, I, J, R)) rfl ?_
        have h := Option.some.inj h
        subst h
        exact az_E.ret (v := some (.int (-12 : Int32))) (σ' := (97, I, J, R)) rfl hQ
      · rw [if_neg hc_1186] at h
        refine az_E.sn 2 (pc' := 13) (L' := [.ref 67]) (S' := [.int (1 : Int32)]) (σ' := (97, I, J, R)) rfl ?_
        refine az_E.ret (v := some (.int (1 : Int32))) (σ' := (97, I, J, R)) rfl ?_
        show az_E az_F ex 2 128 56 [.retAddr 0, .retAddr 0, .int v2, .retAddr 0, .int v4, .int v5, .ref 67, .ref 67] [.int (1 : Int32)] (97, I, J, R) _
        refine az_E.br (c := (1 : Int32) = 0) (tt := 72) (ff := 59) (L' := [.retAddr 0, .retAddr 0, .int v2, .retAddr 0, .int v4, .int v5, .ref 67, .ref 67]) (S' := []) (σ' := (97, I, J, R)) rfl (fun hn => absurd hn (by decide)) (fun _ => ?_)
        refine az_E.sn 3 (pc' := 66) (L' := [.retAddr 0, .retAddr 0, .int v2, .retAddr 0, .int v4, .int v5, .ref 67, .ref 67]) (S' := [.int (I 67 1), .ref 67]) (σ' := (97, I, J, R)) rfl ?_
        refine az_E.call (d := 1) (k' := 56) (vs := [.ref 67, .int (I 67 1)]) (pc' := 69) (S' := []) rfl ?_ (fun _ _ hq => hq)
        show az_E az_F ex 1 56 0 [.ref 67, .int (I 67 1)] [] (97, I, J, R) _
        refine az_E.sn 1 (pc' := 1) (L' := [.ref 67, .int (I 67 1)]) (S' := [.ref 67]) (σ' := (97, I, J, R)) rfl ?_
        refine az_E.call (d := 0) (k' := 55) (vs := [.ref 67]) (pc' := 4) (S' := []) rfl ?_ (fun _ _ hq => hq)
        show az_E az_F ex 0 55 0 [.ref 67] [] (97, I, J, R) _
        refine az_E.sn 3 (pc' := 5) (L' := [.ref 67]) (S' := [.int (-1 : Int32), .int (I 67 1)]) (σ' := (97, I, J, R)) rfl ?_
        refine az_E.br (c := (I 67 1) = (-1 : Int32)) (tt := 12) (ff := 8) (L' := [.ref 67]) (S' := []) (σ' := (97, I, J, R)) rfl (fun hc_1187 => ?_) (fun hc_1187 => ?_)
        · rw [if_pos hc_1187] at h
          refine az_E.sn 1 (pc' := 13) (L' := [.ref 67]) (S' := [.int (0 : Int32)]) (σ' := (97, I, J, R)) rfl ?_
          refine az_E.ret (v := some (.int (0 : Int32))) (σ' := (97, I, J, R)) rfl ?_
          show az_E az_F ex 1 56 4 [.ref 67, .int (I 67 1)] [.int (0 : Int32)] (97, I, J, R) _
          refine az_E.br (c := (0 : Int32) = 0) (tt := 19) (ff := 7) (L' := [.ref 67, .int (I 67 1)]) (S' := []) (σ' := (97, I, J, R)) rfl (fun _ => ?_) (fun hn => absurd (by decide) hn)
          refine az_E.sn 1 (pc' := 20) (L' := [.ref 67, .int (I 67 1)]) (S' := [.int (0 : Int32)]) (σ' := (97, I, J, R)) rfl ?_
          refine az_E.ret (v := some (.int (0 : Int32))) (σ' := (97, I, J, R)) rfl ?_
          show az_E az_F ex 2 128 69 [.retAddr 0, .retAddr 0, .int v2, .retAddr 0, .int v4, .int v5, .ref 67, .ref 67] [.int (0 : Int32)] (97, I, J, R) _
          refine az_E.br (c := (0 : Int32) = 0) (tt := 72) (ff := 75) (L' := [.retAddr 0, .retAddr 0, .int v2, .retAddr 0, .int v4, .int v5, .ref 67, .ref 67]) (S' := []) (σ' := (97, I, J, R)) rfl (fun _ => ?_) (fun hn => absurd (by decide) hn)
          refine az_E.sn 1 (pc' := 74) (L' := [.retAddr 0, .retAddr 0, .int v2, .retAddr 0, .int v4, .int v5, .ref 67, .ref 67]) (S' := [.int (-12 : Int32)]) (σ' := (97, I, J, R)) rfl ?_
          have h := Option.some.inj h
          subst h
          exact az_E.ret (v := some (.int (-12 : Int32))) (σ' := (97, I, J, R)) rfl hQ
        · rw [if_neg hc_1187] at h
          refine az_E.sn 2 (pc' := 13) (L' := [.ref 67]) (S' := [.int (1 : Int32)]) (σ' := (97, I, J, R)) rfl ?_
          refine az_E.ret (v := some (.int (1 : Int32))) (σ' := (97, I, J, R)) rfl ?_
          show az_E az_F ex 1 56 4 [.ref 67, .int (I 67 1)] [.int (1 : Int32)] (97, I, J, R) _
          refine az_E.br (c := (1 : Int32) = 0) (tt := 19) (ff := 7) (L' := [.ref 67, .int (I 67 1)]) (S' := []) (σ' := (97, I, J, R)) rfl (fun hn => absurd hn (by decide)) (fun _ => ?_)
          refine az_E.sn 3 (pc' := 12) (L' := [.ref 67, .int (I 67 1)]) (S' := [.int (I 67 1), .int (I 67 1)]) (σ' := (97, I, J, R)) rfl ?_
          refine az_E.br (c := (I 67 1) = (I 67 1)) (tt := 15) (ff := 19) (L' := [.ref 67, .int (I 67 1)]) (S' := []) (σ' := (97, I, J, R)) rfl (fun hc_1188 => ?_) (fun hc_1188 => ?_)
          · rw [if_pos hc_1188] at h
            refine az_E.sn 2 (pc' := 20) (L' := [.ref 67, .int (I 67 1)]) (S' := [.int (1 : Int32)]) (σ' := (97, I, J, R)) rfl ?_
            refine az_E.ret (v := some (.int (1 : Int32))) (σ' := (97, I, J, R)) rfl ?_
            show az_E az_F ex 2 128 69 [.retAddr 0, .retAddr 0, .int v2, .retAddr 0, .int v4, .int v5, .ref 67, .ref 67] [.int (1 : Int32)] (97, I, J, R) _
            refine az_E.br (c := (1 : Int32) = 0) (tt := 72) (ff := 75) (L' := [.retAddr 0, .retAddr 0, .int v2, .retAddr 0, .int v4, .int v5, .ref 67, .ref 67]) (S' := []) (σ' := (97, I, J, R)) rfl (fun hn => absurd hn (by decide)) (fun _ => ?_)
            refine az_E.sn 3 (pc' := 80) (L' := [.retAddr 0, .retAddr 0, .int v2, .retAddr 0, .int v4, .int v5, .ref 67, .ref 67]) (S' := [.int v5, .int v2, .ref 67]) (σ' := (97, I, J, R)) rfl ?_
            refine az_E.call (d := 1) (k' := 60) (vs := [.ref 67, .int v2, .int v5]) (pc' := 83) (S' := []) rfl ?_ (fun _ _ hq => hq)
            show az_E az_F ex 1 60 0 [.ref 67, .int v2, .int v5] [] (97, I, J, R) _
            refine az_E.sn 1 (pc' := 1) (L' := [.ref 67, .int v2, .int v5]) (S' := [.int v2]) (σ' := (97, I, J, R)) rfl ?_
            refine az_E.br (c := v2 < 0) (tt := 30) (ff := 4) (L' := [.ref 67, .int v2, .int v5]) (S' := []) (σ' := (97, I, J, R)) rfl (fun hc_1189 => ?_) (fun hc_1189 => ?_)
            · rw [if_pos hc_1189] at h
              refine az_E.sn 1 (pc' := 31) (L' := [.ref 67, .int v2, .int v5]) (S' := [.int (0 : Int32)]) (σ' := (97, I, J, R)) rfl ?_
              refine az_E.ret (v := some (.int (0 : Int32))) (σ' := (97, I, J, R)) rfl ?_
              show az_E az_F ex 2 128 83 [.retAddr 0, .retAddr 0, .int v2, .retAddr 0, .int v4, .int v5, .ref 67, .ref 67] [.int (0 : Int32)] (97, I, J, R) _
              refine az_E.br (c := (0 : Int32) = 0) (tt := 98) (ff := 86) (L' := [.retAddr 0, .retAddr 0, .int v2, .retAddr 0, .int v4, .int v5, .ref 67, .ref 67]) (S' := []) (σ' := (97, I, J, R)) rfl (fun _ => ?_) (fun hn => absurd (by decide) hn)
              refine az_E.sn 1 (pc' := 100) (L' := [.retAddr 0, .retAddr 0, .int v2, .retAddr 0, .int v4, .int v5, .ref 67, .ref 67]) (S' := [.int (-13 : Int32)]) (σ' := (97, I, J, R)) rfl ?_
              have h := Option.some.inj h
              subst h
              exact az_E.ret (v := some (.int (-13 : Int32))) (σ' := (97, I, J, R)) rfl hQ
            · rw [if_neg hc_1189] at h
              refine az_E.sn 1 (pc' := 5) (L' := [.ref 67, .int v2, .int v5]) (S' := [.int v5]) (σ' := (97, I, J, R)) rfl ?_
              refine az_E.br (c := v5 < 0) (tt := 30) (ff := 8) (L' := [.ref 67, .int v2, .int v5]) (S' := []) (σ' := (97, I, J, R)) rfl (fun hc_1190 => ?_) (fun hc_1190 => ?_)
              · rw [if_pos hc_1190] at h
                refine az_E.sn 1 (pc' := 31) (L' := [.ref 67, .int v2, .int v5]) (S' := [.int (0 : Int32)]) (σ' := (97, I, J, R)) rfl ?_
                refine az_E.ret (v := some (.int (0 : Int32))) (σ' := (97, I, J, R)) rfl ?_
                show az_E az_F ex 2 128 83 [.retAddr 0, .retAddr 0, .int v2, .retAddr 0, .int v4, .int v5, .ref 67, .ref 67] [.int (0 : Int32)] (97, I, J, R) _
                refine az_E.br (c := (0 : Int32) = 0) (tt := 98) (ff := 86) (L' := [.retAddr 0, .retAddr 0, .int v2, .retAddr 0, .int v4, .int v5, .ref 67, .ref 67]) (S' := []) (σ' := (97, I, J, R)) rfl (fun _ => ?_) (fun hn => absurd (by decide) hn)
                refine az_E.sn 1 (pc' := 100) (L' := [.retAddr 0, .retAddr 0, .int v2, .retAddr 0, .int v4, .int v5, .ref 67, .ref 67]) (S' := [.int (-13 : Int32)]) (σ' := (97, I, J, R)) rfl ?_
                have h := Option.some.inj h
                subst h
                exact az_E.ret (v := some (.int (-13 : Int32))) (σ' := (97, I, J, R)) rfl hQ
              · rw [if_neg hc_1190] at h
                refine az_E.sn 3 (pc' := 13) (L' := [.ref 67, .int v2, .int v5]) (S' := [.int (I 67 2), .int v2]) (σ' := (97, I, J, R)) rfl ?_
                refine az_E.br (c := (I 67 2) < v2) (tt := 30) (ff := 16) (L' := [.ref 67, .int v2, .int v5]) (S' := []) (σ' := (97, I, J, R)) rfl (fun hc_1191 => ?_) (fun hc_1191 => ?_)
                · rw [if_pos hc_1191] at h
                  refine az_E.sn 1 (pc' := 31) (L' := [.ref 67, .int v2, .int v5]) (S' := [.int (0 : Int32)]) (σ' := (97, I, J, R)) rfl ?_
                  refine az_E.ret (v := some (.int (0 : Int32))) (σ' := (97, I, J, R)) rfl ?_
                  show az_E az_F ex 2 128 83 [.retAddr 0, .retAddr 0, .int v2, .retAddr 0, .int v4, .int v5, .ref 67, .ref 67] [.int (0 : Int32)] (97, I, J, R) _
                  refine az_E.br (c := (0 : Int32) = 0) (tt := 98) (ff := 86) (L' := [.retAddr 0, .retAddr 0, .int v2, .retAddr 0, .int v4, .int v5, .ref 67, .ref 67]) (S' := []) (σ' := (97, I, J, R)) rfl (fun _ => ?_) (fun hn => absurd (by decide) hn)
                  refine az_E.sn 1 (pc' := 100) (L' := [.retAddr 0, .retAddr 0, .int v2, .retAddr 0, .int v4, .int v5, .ref 67, .ref 67]) (S' := [.int (-13 : Int32)]) (σ' := (97, I, J, R)) rfl ?_
                  have h := Option.some.inj h
                  subst h
                  exact az_E.ret (v := some (.int (-13 : Int32))) (σ' := (97, I, J, R)) rfl hQ
                · rw [if_neg hc_1191] at h
                  refine az_E.sn 5 (pc' := 23) (L' := [.ref 67, .int v2, .int v5]) (S' := [.int ((I 67 2) - v2), .int v5]) (σ' := (97, I, J, R)) rfl ?_
                  refine az_E.br (c := ((I 67 2) - v2) < v5) (tt := 30) (ff := 26) (L' := [.ref 67, .int v2, .int v5]) (S' := []) (σ' := (97, I, J, R)) rfl (fun hc_1192 => ?_) (fun hc_1192 => ?_)
                  · rw [if_pos hc_1192] at h
                    refine az_E.sn 1 (pc' := 31) (L' := [.ref 67, .int v2, .int v5]) (S' := [.int (0 : Int32)]) (σ' := (97, I, J, R)) rfl ?_
                    refine az_E.ret (v := some (.int (0 : Int32))) (σ' := (97, I, J, R)) rfl ?_
                    show az_E az_F ex 2 128 83 [.retAddr 0, .retAddr 0, .int v2, .retAddr 0, .int v4, .int v5, .ref 67, .ref 67] [.int (0 : Int32)] (97, I, J, R) _
                    refine az_E.br (c := (0 : Int32) = 0) (tt := 98) (ff := 86) (L' := [.retAddr 0, .retAddr 0, .int v2, .retAddr 0, .int v4, .int v5, .ref 67, .ref 67]) (S' := []) (σ' := (97, I, J, R)) rfl (fun _ => ?_) (fun hn => absurd (by decide) hn)
                    refine az_E.sn 1 (pc' := 100) (L' := [.retAddr 0, .retAddr 0, .int v2, .retAddr 0, .int v4, .int v5, .ref 67, .ref 67]) (S' := [.int (-13 : Int32)]) (σ' := (97, I, J, R)) rfl ?_
                    have h := Option.some.inj h
                    subst h
                    exact az_E.ret (v := some (.int (-13 : Int32))) (σ' := (97, I, J, R)) rfl hQ
                  · rw [if_neg hc_1192] at h
                    refine az_E.sn 2 (pc' := 31) (L' := [.ref 67, .int v2, .int v5]) (S' := [.int (1 : Int32)]) (σ' := (97, I, J, R)) rfl ?_
                    refine az_E.ret (v := some (.int (1 : Int32))) (σ' := (97, I, J, R)) rfl ?_
                    show az_E az_F ex 2 128 83 [.retAddr 0, .retAddr 0, .int v2, .retAddr 0, .int v4, .int v5, .ref 67, .ref 67] [.int (1 : Int32)] (97, I, J, R) _
                    refine az_E.br (c := (1 : Int32) = 0) (tt := 98) (ff := 86) (L' := [.retAddr 0, .retAddr 0, .int v2, .retAddr 0, .int v4, .int v5, .ref 67, .ref 67]) (S' := []) (σ' := (97, I, J, R)) rfl (fun hn => absurd hn (by decide)) (fun _ => ?_)
                    refine az_E.sn 3 (pc' := 92) (L' := [.retAddr 0, .retAddr 0, .int v2, .retAddr 0, .int v4, .int v5, .ref 67, .ref 67]) (S' := [.int v5, .int v4, .ref 67]) (σ' := (97, I, J, R)) rfl ?_
                    refine az_E.call (d := 1) (k' := 60) (vs := [.ref 67, .int v4, .int v5]) (pc' := 95) (S' := []) rfl ?_ (fun _ _ hq => hq)
                    show az_E az_F ex 1 60 0 [.ref 67, .int v4, .int v5] [] (97, I, J, R) _
                    refine az_E.sn 1 (pc' := 1) (L' := [.ref 67, .int v4, .int v5]) (S' := [.int v4]) (σ' := (97, I, J, R)) rfl ?_
                    refine az_E.br (c := v4 < 0) (tt := 30) (ff := 4) (L' := [.ref 67, .int v4, .int v5]) (S' := []) (σ' := (97, I, J, R)) rfl (fun hc_1193 => ?_) (fun hc_1193 => ?_)
                    · rw [if_pos hc_1193] at h
                      refine az_E.sn 1 (pc' := 31) (L' := [.ref 67, .int v4, .int v5]) (S' := [.int (0 : Int32)]) (σ' := (97, I, J, R)) rfl ?_
                      refine az_E.ret (v := some (.int (0 : Int32))) (σ' := (97, I, J, R)) rfl ?_
                      show az_E az_F ex 2 128 95 [.retAddr 0, .retAddr 0, .int v2, .retAddr 0, .int v4, .int v5, .ref 67, .ref 67] [.int (0 : Int32)] (97, I, J, R) _
                      refine az_E.br (c := (0 : Int32) = 0) (tt := 98) (ff := 101) (L' := [.retAddr 0, .retAddr 0, .int v2, .retAddr 0, .int v4, .int v5, .ref 67, .ref 67]) (S' := []) (σ' := (97, I, J, R)) rfl (fun _ => ?_) (fun hn => absurd (by decide) hn)
                      refine az_E.sn 1 (pc' := 100) (L' := [.retAddr 0, .retAddr 0, .int v2, .retAddr 0, .int v4, .int v5, .ref 67, .ref 67]) (S' := [.int (-13 : Int32)]) (σ' := (97, I, J, R)) rfl ?_
                      have h := Option.some.inj h
                      subst h
                      exact az_E.ret (v := some (.int (-13 : Int32))) (σ' := (97, I, J, R)) rfl hQ
                    · rw [if_neg hc_1193] at h
                      refine az_E.sn 1 (pc' := 5) (L' := [.ref 67, .int v4, .int v5]) (S' := [.int v5]) (σ' := (97, I, J, R)) rfl ?_
                      refine az_E.br (c := v5 < 0) (tt := 30) (ff := 8) (L' := [.ref 67, .int v4, .int v5]) (S' := []) (σ' := (97, I, J, R)) rfl (fun hc_1194 => ?_) (fun hc_1194 => ?_)
                      · rw [if_pos hc_1194] at h
                        refine az_E.sn 1 (pc' := 31) (L' := [.ref 67, .int v4, .int v5]) (S' := [.int (0 : Int32)]) (σ' := (97, I, J, R)) rfl ?_
                        refine az_E.ret (v := some (.int (0 : Int32))) (σ' := (97, I, J, R)) rfl ?_
                        show az_E az_F ex 2 128 95 [.retAddr 0, .retAddr 0, .int v2, .retAddr 0, .int v4, .int v5, .ref 67, .ref 67] [.int (0 : Int32)] (97, I, J, R) _
                        refine az_E.br (c := (0 : Int32) = 0) (tt := 98) (ff := 101) (L' := [.retAddr 0, .retAddr 0, .int v2, .retAddr 0, .int v4, .int v5, .ref 67, .ref 67]) (S' := []) (σ' := (97, I, J, R)) rfl (fun _ => ?_) (fun hn => absurd (by decide) hn)
                        refine az_E.sn 1 (pc' := 100) (L' := [.retAddr 0, .retAddr 0, .int v2, .retAddr 0, .int v4, .int v5, .ref 67, .ref 67]) (S' := [.int (-13 : Int32)]) (σ' := (97, I, J, R)) rfl ?_
                        have h := Option.some.inj h
                        subst h
                        exact az_E.ret (v := some (.int (-13 : Int32))) (σ' := (97, I, J, R)) rfl hQ
                      · rw [if_neg hc_1194] at h
                        refine az_E.sn 3 (pc' := 13) (L' := [.ref 67, .int v4, .int v5]) (S' := [.int (I 67 2), .int v4]) (σ' := (97, I, J, R)) rfl ?_
                        refine az_E.br (c := (I 67 2) < v4) (tt := 30) (ff := 16) (L' := [.ref 67, .int v4, .int v5]) (S' := []) (σ' := (97, I, J, R)) rfl (fun hc_1195 => ?_) (fun hc_1195 => ?_)
                        · rw [if_pos hc_1195] at h
                          refine az_E.sn 1 (pc' := 31) (L' := [.ref 67, .int v4, .int v5]) (S' := [.int (0 : Int32)]) (σ' := (97, I, J, R)) rfl ?_
                          refine az_E.ret (v := some (.int (0 : Int32))) (σ' := (97, I, J, R)) rfl ?_
                          show az_E az_F ex 2 128 95 [.retAddr 0, .retAddr 0, .int v2, .retAddr 0, .int v4, .int v5, .ref 67, .ref 67] [.int (0 : Int32)] (97, I, J, R) _
                          refine az_E.br (c := (0 : Int32) = 0) (tt := 98) (ff := 101) (L' := [.retAddr 0, .retAddr 0, .int v2, .retAddr 0, .int v4, .int v5, .ref 67, .ref 67]) (S' := []) (σ' := (97, I, J, R)) rfl (fun _ => ?_) (fun hn => absurd (by decide) hn)
                          refine az_E.sn 1 (pc' := 100) (L' := [.retAddr 0, .retAddr 0, .int v2, .retAddr 0, .int v4, .int v5, .ref 67, .ref 67]) (S' := [.int (-13 : Int32)]) (σ' := (97, I, J, R)) rfl ?_
                          have h := Option.some.inj h
                          subst h
                          exact az_E.ret (v := some (.int (-13 : Int32))) (σ' := (97, I, J, R)) rfl hQ
                        · rw [if_neg hc_1195] at h
                          refine az_E.sn 5 (pc' := 23) (L' := [.ref 67, .int v4, .int v5]) (S' := [.int ((I 67 2) - v4), .int v5]) (σ' := (97, I, J, R)) rfl ?_
                          refine az_E.br (c := ((I 67 2) - v4) < v5) (tt := 30) (ff := 26) (L' := [.ref 67, .int v4, .int v5]) (S' := []) (σ' := (97, I, J, R)) rfl (fun hc_1196 => ?_) (fun hc_1196 => ?_)
                          · rw [if_pos hc_1196] at h
                            refine az_E.sn 1 (pc' := 31) (L' := [.ref 67, .int v4, .int v5]) (S' := [.int (0 : Int32)]) (σ' := (97, I, J, R)) rfl ?_
                            refine az_E.ret (v := some (.int (0 : Int32))) (σ' := (97, I, J, R)) rfl ?_
                            show az_E az_F ex 2 128 95 [.retAddr 0, .retAddr 0, .int v2, .retAddr 0, .int v4, .int v5, .ref 67, .ref 67] [.int (0 : Int32)] (97, I, J, R) _
                            refine az_E.br (c := (0 : Int32) = 0) (tt := 98) (ff := 101) (L' := [.retAddr 0, .retAddr 0, .int v2, .retAddr 0, .int v4, .int v5, .ref 67, .ref 67]) (S' := []) (σ' := (97, I, J, R)) rfl (fun _ => ?_) (fun hn => absurd (by decide) hn)
                            refine az_E.sn 1 (pc' := 100) (L' := [.retAddr 0, .retAddr 0, .int v2, .retAddr 0, .int v4, .int v5, .ref 67, .ref 67]) (S' := [.int (-13 : Int32)]) (σ' := (97, I, J, R)) rfl ?_
                            have h := Option.some.inj h
                            subst h
                            exact az_E.ret (v := some (.int (-13 : Int32))) (σ' := (97, I, J, R)) rfl hQ
                          · rw [if_neg hc_1196] at h
                            refine az_E.sn 2 (pc' := 31) (L' := [.ref 67, .int v4, .int v5]) (S' := [.int (1 : Int32)]) (σ' := (97, I, J, R)) rfl ?_
                            refine az_E.ret (v := some (.int (1 : Int32))) (σ' := (97, I, J, R)) rfl ?_
                            show az_E az_F ex 2 128 95 [.retAddr 0, .retAddr 0, .int v2, .retAddr 0, .int v4, .int v5, .ref 67, .ref 67] [.int (1 : Int32)] (97, I, J, R) _
                            refine az_E.br (c := (1 : Int32) = 0) (tt := 98) (ff := 101) (L' := [.retAddr 0, .retAddr 0, .int v2, .retAddr 0, .int v4, .int v5, .ref 67, .ref 67]) (S' := []) (σ' := (97, I, J, R)) rfl (fun hn => absurd hn (by decide)) (fun _ => ?_)
                            refine az_E.sn 7 (pc' := 116) (L' := [.retAddr 0, .retAddr 0, .int v2, .retAddr 0, .int v4, .int v5, .ref 67, .ref 67]) (S' := [.int v5, .int v4, .ref (67 + 1), .int v2, .ref (67 + 1)]) (σ' := (97, I, J, R)) rfl ?_
                            by_cases hc_1197 : v2 < 0 ∨ v4 < 0 ∨ v5 < 0 ∨ 60 < v2.toNatClampNeg + v5.toNatClampNeg ∨ 60 < v4.toNatClampNeg + v5.toNatClampNeg
                            · rw [if_pos hc_1197] at h; cases h
                            · rw [if_neg hc_1197] at h
                              refine az_E.o (o := az_cp az_F (97, I, J, R) (67 + 1) v2 (67 + 1) v4 v5) (pc' := 119) (L' := [.retAddr 0, .retAddr 0, .int v2, .retAddr 0, .int v4, .int v5, .ref 67, .ref 67]) (S' := []) (x := (97, I, (az_ur J (67 + 1) (va_cpy (J (67 + 1)) (J (67 + 1)) v2.toNatClampNeg v4.toNatClampNeg v5.toNatClampNeg)), R)) rfl (if_neg hc_1197) ?_
                              refine az_E.sn 1 (pc' := 121) (L' := [.retAddr 0, .retAddr 0, .int v2, .retAddr 0, .int v4, .int v5, .ref 67, .ref 67]) (S' := [.int v5]) (σ' := (97, I, (az_ur J (67 + 1) (va_cpy (J (67 + 1)) (J (67 + 1)) v2.toNatClampNeg v4.toNatClampNeg v5.toNatClampNeg)), R)) rfl ?_
                              have h := Option.some.inj h
                              subst h
                              exact az_E.ret (v := some (.int v5)) (σ' := (97, I, (az_ur J (67 + 1) (va_cpy (J (67 + 1)) (J (67 + 1)) v2.toNatClampNeg v4.toNatClampNeg v5.toNatClampNeg)), R)) rfl hQ
          · rw [if_neg hc_1188] at h
            refine az_E.sn 1 (pc' := 20) (L' := [.ref 67, .int (I 67 1)]) (S' := [.int (0 : Int32)]) (σ' := (97, I, J, R)) rfl ?_
            refine az_E.ret (v := some (.int (0 : Int32))) (σ' := (97, I, J, R)) rfl ?_
            show az_E az_F ex 2 128 69 [.retAddr 0, .retAddr 0, .int v2, .retAddr 0, .int v4, .int v5, .ref 67, .ref 67] [.int (0 : Int32)] (97, I, J, R) _
            refine az_E.br (c := (0 : Int32) = 0) (tt := 72) (ff := 75) (L' := [.retAddr 0, .retAddr 0, .int v2, .retAddr 0, .int v4, .int v5, .ref 67, .ref 67]) (S' := []) (σ' := (97, I, J, R)) rfl (fun _ => ?_) (fun hn => absurd (by decide) hn)
            refine az_E.sn 1 (pc' := 74) (L' := [.retAddr 0, .retAddr 0, .int v2, .retAddr 0, .int v4, .int v5, .ref 67, .ref 67]) (S' := [.int (-12 : Int32)]) (σ' := (97, I, J, R)) rfl ?_
            have h := Option.some.inj h
            subst h
            exact az_E.ret (v := some (.int (-12 : Int32))) (σ' := (97, I, J, R)) rfl hQ

def rs_Mo_addPost (I : (Nat → Nat → Int32)) (a1 : Int32) (a2 : Int32) : Option (Int32 × (Nat → Nat → Int32)) := (if (I 4 3) < (8 : Int32) then (if (I 4 3) < 0 ∨ 8 ≤ (I 4 3).toNatClampNeg then none else (if (I 4 3) < 0 ∨ 8 ≤ (I 4 3).toNatClampNeg then none else (some ((I 4 3), (az_u (az_u (az_u I 6 (I 4 3).toNatClampNeg a1) 7 (I 4 3).toNatClampNeg a2) 4 3 ((I 4 3) + (1 : Int32))))))) else (some ((-3 : Int32), I)))
def rs_Mo_isThere_57 (I : (Nat → Nat → Int32)) (v1 : Int32) : Option (Int32) := (if v1 < (0 : Int32) then (some (0 : Int32)) else (if ((I 4 3) - (1 : Int32)) < v1 then (some (0 : Int32)) else (some (1 : Int32))))
def rs_Mo_isThere_69 (I : (Nat → Nat → Int32)) (v1 : Int32) : Option (Int32) := (if v1 < (0 : Int32) then (some (0 : Int32)) else (if ((I 4 9) - (1 : Int32)) < v1 then (some (0 : Int32)) else (some (1 : Int32))))
def rs_Mo_isThere (I : (Nat → Nat → Int32)) (a1 : Int32) (a2 : Int32) : Option (Int32) := (if a2 = (0 : Int32) then (if a1 < (0 : Int32) then (some (0 : Int32)) else (if (143 : Int32) < a1 then (some (0 : Int32)) else (some (1 : Int32)))) else (if a2 = (1 : Int32) then (rs_Mo_isThere_57 I a1) else (if a2 = (2 : Int32) then (rs_Mo_isThere_57 I a1) else (if a2 = (3 : Int32) then (rs_Mo_isThere_69 I a1) else (if a2 = (4 : Int32) then (rs_Mo_isThere_69 I a1) else (if a2 = (5 : Int32) then (rs_Mo_isThere_69 I a1) else (if a2 = (6 : Int32) then (if a1 = 0 then (some (1 : Int32)) else (some (0 : Int32))) else (if a2 = (7 : Int32) then (rs_Mo_isThere_69 I a1) else (if a2 = (8 : Int32) then (rs_Mo_isThere_69 I a1) else (some (0 : Int32)))))))))))
def rs_X_count (I : (Nat → Nat → Int32)) (a1 : Int32) : Option (Int32) := (if a1 = (0 : Int32) then (some (I 4 3)) else (if a1 = (1 : Int32) then (some (I 4 9)) else (if a1 = (2 : Int32) then (some (I 14 1)) else (if a1 = (3 : Int32) then (some (I 44 4)) else (if a1 = (4 : Int32) then (some (I 55 1)) else (if a1 = (5 : Int32) then (some (I 55 3)) else (some (-1 : Int32))))))))
def rs_X_stumps_4_b (I : (Nat → Nat → Int32)) (v1 : Int32) (v2 : Int32)  : Option (((Int32 × Int32) ⊕ (Int32))) := (if (I 4 3) ≤ v2 then (some (.inr v1)) else (if v2 < 0 ∨ 8 ≤ v2.toNatClampNeg then none else (if v2 < 0 ∨ 8 ≤ v2.toNatClampNeg then none else (if (I 6 v2.toNatClampNeg) = (I 7 v2.toNatClampNeg) then (some (.inl ((v1 ||| ((1 : Int32) <<< (v2 &&& 31))), (v2 + (1 : Int32))))) else (some (.inl (v1, (v2 + (1 : Int32)))))))))
def rs_X_stumps_4 (I : (Nat → Nat → Int32)) (v1 : Int32) (v2 : Int32) : Option (Int32) := az_lp (fun s : (Int32 × Int32) => rs_X_stumps_4_b I s.1 s.2) 100000 (v1, v2)
def rs_X_stumps (I : (Nat → Nat → Int32))  : Option (Int32) := (rs_X_stumps_4 I (0 : Int32) (0 : Int32))
def rs_Sh_refusalAt (t : Nat) (I : (Nat → Nat → Int32)) (a1 : Int32) : Option (Int32) := (if (I t 0) = (-1 : Int32) then (if (I t 1) = (-1 : Int32) then (some (-11 : Int32)) else (if (I t 1) = (-1 : Int32) then (some (-12 : Int32)) else (if a1 < (0 : Int32) then (some (-13 : Int32)) else (if ((I t 2) - (1 : Int32)) < a1 then (some (-13 : Int32)) else (some (0 : Int32)))))) else (if (I t 1) = (-1 : Int32) then (some (-12 : Int32)) else (if a1 < (0 : Int32) then (some (-13 : Int32)) else (if ((I t 2) - (1 : Int32)) < a1 then (some (-13 : Int32)) else (some (0 : Int32))))))
def rs_Sh_becomeEmpty (t : Nat) (I : (Nat → Nat → Int32))  : Option ((Nat → Nat → Int32)) := (some (az_u (az_u (az_u I t 0 (-1 : Int32)) t 1 (-1 : Int32)) t 2 (0 : Int32)))
def rs_Sh_becomeHeart (t : Nat) (I : (Nat → Nat → Int32)) (a1 : Int32) : Option ((Nat → Nat → Int32)) := (match rs_Sh_becomeEmpty t I with | none => none | some I_1 => (some (az_u I_1 t 0 a1)))
def rs_X_keep_36 (y36 : Nat) (I : (Nat → Nat → Int32))  : Option (Int32 × (Nat → Nat → Int32)) := (match rs_Sh_becomeEmpty y36 I with | none => none | some I_6 => (some ((1 : Int32), I_6)))
def rs_X_keep_48 (y48 : Nat) (I : (Nat → Nat → Int32)) (v2 : Int32) : Option (Int32 × (Nat → Nat → Int32)) := (match rs_Sh_becomeHeart y48 I v2 with | none => none | some I_19 => (some ((1 : Int32), I_19)))
def rs_X_keep_25 (I : (Nat → Nat → Int32)) (v1 : Int32) (v2 : Int32) : Option (Int32 × (Nat → Nat → Int32)) := (if v2 = (-1 : Int32) then (if v1 < 0 ∨ 6 ≤ v1.toNatClampNeg then none else (rs_X_keep_36 (61 + 2 * v1.toNatClampNeg) I)) else (if v1 < 0 ∨ 6 ≤ v1.toNatClampNeg then none else (rs_X_keep_48 (61 + 2 * v1.toNatClampNeg) I v2)))
def rs_X_keep (I : (Nat → Nat → Int32)) (a1 : Int32) (a2 : Int32) : Option (Int32 × (Nat → Nat → Int32)) := (if a1 < (0 : Int32) then (some ((-1 : Int32), I)) else (if (5 : Int32) < a1 then (some ((-1 : Int32), I)) else (if a2 = (-1 : Int32) then (rs_X_keep_25 I a1 a2) else (if a2 < (0 : Int32) then (some ((-1 : Int32), I)) else (if ((I 55 1) - (1 : Int32)) < a2 then (some ((-1 : Int32), I)) else (rs_X_keep_25 I a1 a2))))))
def rs_X_sideCell  (a0 : Int32) (a1 : Int32) : Option (Int32) := (if a1 = (0 : Int32) then (if a0 < (12 : Int32) then (some (-1 : Int32)) else (some (a0 - (12 : Int32)))) else (if a1 = (1 : Int32) then (if (11 : Int32) ≤ (a0 - a0 / (12 : Int32) * (12 : Int32)) then (some (-1 : Int32)) else (some (a0 + (1 : Int32)))) else (if a1 = (2 : Int32) then (if (132 : Int32) ≤ a0 then (some (-1 : Int32)) else (some (a0 + (12 : Int32)))) else (if a1 = (3 : Int32) then (if (a0 - a0 / (12 : Int32) * (12 : Int32)) ≤ 0 then (some (-1 : Int32)) else (some (a0 - (1 : Int32)))) else (some (-1 : Int32))))))
def rs_X_areSideBySide_2_b  (v0 : Int32) (v1 : Int32) (v2 : Int32)  : Option (((Int32) ⊕ (Int32))) := (if (4 : Int32) ≤ v2 then (some (.inr (0 : Int32))) else (match rs_X_sideCell v0 v2 with | none => none | some x_2 => (if x_2 = v1 then (some (.inr (1 : Int32))) else (some (.inl (v2 + (1 : Int32)))))))
def rs_X_areSideBySide_2  (v0 : Int32) (v1 : Int32) (v2 : Int32) : Option (Int32) := az_lp (fun s : (Int32) => rs_X_areSideBySide_2_b v0 v1 s) 100000 v2
def rs_X_areSideBySide  (a0 : Int32) (a1 : Int32) : Option (Int32) := (rs_X_areSideBySide_2 a0 a1 (0 : Int32))
def rs_X_greatestCrowd_58 (I : (Nat → Nat → Int32)) (v1 : Int32) (v2 : Int32) (v3 : Int32) (v4 : Int32) : Option (((Int32 × Int32) ⊕ (Int32))) := (some (.inl ((if v2 < v4 then v4 else v2), (v3 + (1 : Int32)))))
def rs_X_greatestCrowd_16_b (I : (Nat → Nat → Int32)) (v1 : Int32) (v2 : Int32) (v3 : Int32) (v4 : Int32) (v5 : Int32)  : Option (((Int32 × Int32) ⊕ (((Int32 × Int32) ⊕ (Int32))))) := (if (19 : Int32) ≤ v5 then ((rs_X_greatestCrowd_58 I v1 v2 v3 v4).map fun x => .inr (x)) else (if ((v1 * (19 : Int32)) + v3) < 0 ∨ 152 ≤ ((v1 * (19 : Int32)) + v3).toNatClampNeg then none else (if ((v1 * (19 : Int32)) + v5) < 0 ∨ 152 ≤ ((v1 * (19 : Int32)) + v5).toNatClampNeg then none else (if (I 60 ((v1 * (19 : Int32)) + v3).toNatClampNeg) = (I 60 ((v1 * (19 : Int32)) + v5).toNatClampNeg) then (some (.inl ((v4 + (1 : Int32)), (v5 + (1 : Int32))))) else (some (.inl (v4, (v5 + (1 : Int32)))))))))
def rs_X_greatestCrowd_16 (I : (Nat → Nat → Int32)) (v1 : Int32) (v2 : Int32) (v3 : Int32) (v4 : Int32) (v5 : Int32) : Option (((Int32 × Int32) ⊕ (Int32))) := az_lp (fun s : (Int32 × Int32) => rs_X_greatestCrowd_16_b I v1 v2 v3 s.1 s.2) 100000 (v4, v5)
def rs_X_greatestCrowd_4_b (I : (Nat → Nat → Int32)) (v1 : Int32) (v2 : Int32) (v3 : Int32)  : Option (((Int32 × Int32) ⊕ (Int32))) := (if (19 : Int32) ≤ v3 then (some (.inr v2)) else (rs_X_greatestCrowd_16 I v1 v2 v3 (0 : Int32) (0 : Int32)))
def rs_X_greatestCrowd_4 (I : (Nat → Nat → Int32)) (v1 : Int32) (v2 : Int32) (v3 : Int32) : Option (Int32) := az_lp (fun s : (Int32 × Int32) => rs_X_greatestCrowd_4_b I v1 s.1 s.2) 100000 (v2, v3)
def rs_X_greatestCrowd (I : (Nat → Nat → Int32)) (a1 : Int32) : Option (Int32) := (rs_X_greatestCrowd_4 I a1 (0 : Int32) (0 : Int32))
set_option maxRecDepth 100000 in
set_option maxHeartbeats 4000000 in
theorem re_Mo_addPost {ex : az_X} {I : Nat → Nat → Int32} {J : Nat → Nat → Int64} {R : Nat → Nat → Option Nat} {a1 : Int32} {a2 : Int32} {o : Int32 × (Nat → Nat → Int32)} (h : rs_Mo_addPost I a1 a2 = some o) {Q : Option Value → az_S → Prop} (hQ : Q (some (.int o.1)) (97, o.2, J, R)) : az_E az_F ex 0 35 0 [.ref 4, .int a1, .int a2] [] (97, I, J, R) Q := by
  unfold rs_Mo_addPost at h
  refine az_E.sn 3 (pc' := 6) (L' := [.ref 4, .int a1, .int a2]) (S' := [.int (8 : Int32), .int (I 4 3)]) (σ' := (97, I, J, R)) rfl ?_
  refine az_E.br (c := (I 4 3) < (8 : Int32)) (tt := 12) (ff := 9) (L' := [.ref 4, .int a1, .int a2]) (S' := []) (σ' := (97, I, J, R)) rfl (fun hc_1 => ?_) (fun hc_1 => ?_)
  · rw [if_pos hc_1] at h
    refine az_E.sn 5 (pc' := 21) (L' := [.ref 4, .int a1, .int a2]) (S' := [.int a1, .int (I 4 3), .ref 6]) (σ' := (97, I, J, R)) rfl ?_
    by_cases hc_2 : (I 4 3) < 0 ∨ 8 ≤ (I 4 3).toNatClampNeg
    · rw [if_pos hc_2] at h; cases h
    · rw [if_neg hc_2] at h
      refine az_E.o (o := az_si az_F (97, I, J, R) 6 (I 4 3) a1) (pc' := 22) (L' := [.ref 4, .int a1, .int a2]) (S' := []) (x := (97, (az_u I 6 (I 4 3).toNatClampNeg a1), J, R)) rfl (if_neg hc_2) ?_
      refine az_E.sn 5 (pc' := 31) (L' := [.ref 4, .int a1, .int a2]) (S' := [.int a2, .int (I 4 3), .ref 7]) (σ' := (97, (az_u I 6 (I 4 3).toNatClampNeg a1), J, R)) rfl ?_
      by_cases hc_3 : (I 4 3) < 0 ∨ 8 ≤ (I 4 3).toNatClampNeg
      · rw [if_pos hc_3] at h; cases h
      · rw [if_neg hc_3] at h
        refine az_E.o (o := az_si az_F (97, (az_u I 6 (I 4 3).toNatClampNeg a1), J, R) 7 (I 4 3) a2) (pc' := 32) (L' := [.ref 4, .int a1, .int a2]) (S' := []) (x := (97, (az_u (az_u I 6 (I 4 3).toNatClampNeg a1) 7 (I 4 3).toNatClampNeg a2), J, R)) rfl (if_neg hc_3) ?_
        refine az_E.sn 7 (pc' := 43) (L' := [.ref 4, .int a1, .int a2]) (S' := [.int (I 4 3)]) (σ' := (97, (az_u (az_u (az_u I 6 (I 4 3).toNatClampNeg a1) 7 (I 4 3).toNatClampNeg a2) 4 3 ((I 4 3) + (1 : Int32))), J, R)) rfl ?_
        cases h
        exact az_E.ret (v := some (.int (I 4 3))) (σ' := (97, (az_u (az_u (az_u I 6 (I 4 3).toNatClampNeg a1) 7 (I 4 3).toNatClampNeg a2) 4 3 ((I 4 3) + (1 : Int32))), J, R)) rfl hQ
  · rw [if_neg hc_1] at h
    refine az_E.sn 1 (pc' := 11) (L' := [.ref 4, .int a1, .int a2]) (S' := [.int (-3 : Int32)]) (σ' := (97, I, J, R)) rfl ?_
    cases h
    exact az_E.ret (v := some (.int (-3 : Int32))) (σ' := (97, I, J, R)) rfl hQ
set_option maxRecDepth 100000 in
set_option maxHeartbeats 4000000 in
theorem re_Mo_isThere_57 {ex : az_X} {I : Nat → Nat → Int32} {J : Nat → Nat → Int64} {R : Nat → Nat → Option Nat} {v1 : Int32} {x : Int32} (h : rs_Mo_isThere_57 I v1 = some x) {Q : Option Value → az_S → Prop} (hQ : Q (some (.int x)) (97, I, J, R)) : az_E az_F ex 2 37 57 [.ref 4, .int v1, .retAddr 0] [] (97, I, J, R) Q := by
  unfold rs_Mo_isThere_57 at h
  refine az_E.sn 6 (pc' := 65) (L' := [.ref 4, .int v1, .retAddr 0]) (S' := [.int ((I 4 3) - (1 : Int32)), .int (0 : Int32), .int v1]) (σ' := (97, I, J, R)) rfl ?_
  refine az_E.call (d := 1) (k' := 131) (vs := [.int v1, .int (0 : Int32), .int ((I 4 3) - (1 : Int32))]) (pc' := 68) (S' := []) rfl ?_ (fun _ _ hq => hq)
  show az_E az_F ex 1 131 0 [.int v1, .int (0 : Int32), .int ((I 4 3) - (1 : Int32))] [] (97, I, J, R) _
  refine az_E.sn 2 (pc' := 2) (L' := [.int v1, .int (0 : Int32), .int ((I 4 3) - (1 : Int32))]) (S' := [.int (0 : Int32), .int v1]) (σ' := (97, I, J, R)) rfl ?_
  refine az_E.br (c := v1 < (0 : Int32)) (tt := 14) (ff := 5) (L' := [.int v1, .int (0 : Int32), .int ((I 4 3) - (1 : Int32))]) (S' := []) (σ' := (97, I, J, R)) rfl (fun hc_5 => ?_) (fun hc_5 => ?_)
  · rw [if_pos hc_5] at h
    refine az_E.sn 1 (pc' := 15) (L' := [.int v1, .int (0 : Int32), .int ((I 4 3) - (1 : Int32))]) (S' := [.int (0 : Int32)]) (σ' := (97, I, J, R)) rfl ?_
    refine az_E.ret (v := some (.int (0 : Int32))) (σ' := (97, I, J, R)) rfl ?_
    show az_E az_F ex 2 37 68 [.ref 4, .int v1, .retAddr 0] [.int (0 : Int32)] (97, I, J, R) _
    cases h
    exact az_E.ret (v := some (.int (0 : Int32))) (σ' := (97, I, J, R)) rfl hQ
  · rw [if_neg hc_5] at h
    refine az_E.sn 2 (pc' := 7) (L' := [.int v1, .int (0 : Int32), .int ((I 4 3) - (1 : Int32))]) (S' := [.int ((I 4 3) - (1 : Int32)), .int v1]) (σ' := (97, I, J, R)) rfl ?_
    refine az_E.br (c := ((I 4 3) - (1 : Int32)) < v1) (tt := 14) (ff := 10) (L' := [.int v1, .int (0 : Int32), .int ((I 4 3) - (1 : Int32))]) (S' := []) (σ' := (97, I, J, R)) rfl (fun hc_6 => ?_) (fun hc_6 => ?_)
    · rw [if_pos hc_6] at h
      refine az_E.sn 1 (pc' := 15) (L' := [.int v1, .int (0 : Int32), .int ((I 4 3) - (1 : Int32))]) (S' := [.int (0 : Int32)]) (σ' := (97, I, J, R)) rfl ?_
      refine az_E.ret (v := some (.int (0 : Int32))) (σ' := (97, I, J, R)) rfl ?_
      show az_E az_F ex 2 37 68 [.ref 4, .int v1, .retAddr 0] [.int (0 : Int32)] (97, I, J, R) _
      cases h
      exact az_E.ret (v := some (.int (0 : Int32))) (σ' := (97, I, J, R)) rfl hQ
    · rw [if_neg hc_6] at h
      refine az_E.sn 2 (pc' := 15) (L' := [.int v1, .int (0 : Int32), .int ((I 4 3) - (1 : Int32))]) (S' := [.int (1 : Int32)]) (σ' := (97, I, J, R)) rfl ?_
      refine az_E.ret (v := some (.int (1 : Int32))) (σ' := (97, I, J, R)) rfl ?_
      show az_E az_F ex 2 37 68 [.ref 4, .int v1, .retAddr 0] [.int (1 : Int32)] (97, I, J, R) _
      cases h
      exact az_E.ret (v := some (.int (1 : Int32))) (σ' := (97, I, J, R)) rfl hQ
set_option maxRecDepth 100000 in
set_option maxHeartbeats 4000000 in
theorem re_Mo_isThere_69 {ex : az_X} {I : Nat → Nat → Int32} {J : Nat → Nat → Int64} {R : Nat → Nat → Option Nat} {v1 : Int32} {x : Int32} (h : rs_Mo_isThere_69 I v1 = some x) {Q : Option Value → az_S → Prop} (hQ : Q (some (.int x)) (97, I, J, R)) : az_E az_F ex 2 37 69 [.ref 4, .int v1, .retAddr 0] [] (97, I, J, R) Q := by
  unfold rs_Mo_isThere_69 at h
  refine az_E.sn 6 (pc' := 77) (L' := [.ref 4, .int v1, .retAddr 0]) (S' := [.int ((I 4 9) - (1 : Int32)), .int (0 : Int32), .int v1]) (σ' := (97, I, J, R)) rfl ?_
  refine az_E.call (d := 1) (k' := 131) (vs := [.int v1, .int (0 : Int32), .int ((I 4 9) - (1 : Int32))]) (pc' := 80) (S' := []) rfl ?_ (fun _ _ hq => hq)
  show az_E az_F ex 1 131 0 [.int v1, .int (0 : Int32), .int ((I 4 9) - (1 : Int32))] [] (97, I, J, R) _
  refine az_E.sn 2 (pc' := 2) (L' := [.int v1, .int (0 : Int32), .int ((I 4 9) - (1 : Int32))]) (S' := [.int (0 : Int32), .int v1]) (σ' := (97, I, J, R)) rfl ?_
  refine az_E.br (c := v1 < (0 : Int32)) (tt := 14) (ff := 5) (L' := [.int v1, .int (0 : Int32), .int ((I 4 9) - (1 : Int32))]) (S' := []) (σ' := (97, I, J, R)) rfl (fun hc_9 => ?_) (fun hc_9 => ?_)
  · rw [if_pos hc_9] at h
    refine az_E.sn 1 (pc' := 15) (L' := [.int v1, .int (0 : Int32), .int ((I 4 9) - (1 : Int32))]) (S' := [.int (0 : Int32)]) (σ' := (97, I, J, R)) rfl ?_
    refine az_E.ret (v := some (.int (0 : Int32))) (σ' := (97, I, J, R)) rfl ?_
    show az_E az_F ex 2 37 80 [.ref 4, .int v1, .retAddr 0] [.int (0 : Int32)] (97, I, J, R) _
    cases h
    exact az_E.ret (v := some (.int (0 : Int32))) (σ' := (97, I, J, R)) rfl hQ
  · rw [if_neg hc_9] at h
    refine az_E.sn 2 (pc' := 7) (L' := [.int v1, .int (0 : Int32), .int ((I 4 9) - (1 : Int32))]) (S' := [.int ((I 4 9) - (1 : Int32)), .int v1]) (σ' := (97, I, J, R)) rfl ?_
    refine az_E.br (c := ((I 4 9) - (1 : Int32)) < v1) (tt := 14) (ff := 10) (L' := [.int v1, .int (0 : Int32), .int ((I 4 9) - (1 : Int32))]) (S' := []) (σ' := (97, I, J, R)) rfl (fun hc_10 => ?_) (fun hc_10 => ?_)
    · rw [if_pos hc_10] at h
      refine az_E.sn 1 (pc' := 15) (L' := [.int v1, .int (0 : Int32), .int ((I 4 9) - (1 : Int32))]) (S' := [.int (0 : Int32)]) (σ' := (97, I, J, R)) rfl ?_
      refine az_E.ret (v := some (.int (0 : Int32))) (σ' := (97, I, J, R)) rfl ?_
      show az_E az_F ex 2 37 80 [.ref 4, .int v1, .retAddr 0] [.int (0 : Int32)] (97, I, J, R) _
      cases h
      exact az_E.ret (v := some (.int (0 : Int32))) (σ' := (97, I, J, R)) rfl hQ
    · rw [if_neg hc_10] at h
      refine az_E.sn 2 (pc' := 15) (L' := [.int v1, .int (0 : Int32), .int ((I 4 9) - (1 : Int32))]) (S' := [.int (1 : Int32)]) (σ' := (97, I, J, R)) rfl ?_
      refine az_E.ret (v := some (.int (1 : Int32))) (σ' := (97, I, J, R)) rfl ?_
      show az_E az_F ex 2 37 80 [.ref 4, .int v1, .retAddr 0] [.int (1 : Int32)] (97, I, J, R) _
      cases h
      exact az_E.ret (v := some (.int (1 : Int32))) (σ' := (97, I, J, R)) rfl hQ
set_option maxRecDepth 100000 in
set_option maxHeartbeats 4000000 in
theorem re_Mo_isThere {ex : az_X} {I : Nat → Nat → Int32} {J : Nat → Nat → Int64} {R : Nat → Nat → Option Nat} {a1 : Int32} {a2 : Int32} {o : Int32} (h : rs_Mo_isThere I a1 a2 = some o) {Q : Option Value → az_S → Prop} (hQ : Q (some (.int o)) (97, I, J, R)) : az_E az_F ex 2 37 0 [.ref 4, .int a1, .int a2] [] (97, I, J, R) Q := by
  unfold rs_Mo_isThere at h
  refine az_E.sn 1 (pc' := 1) (L' := [.ref 4, .int a1, .int a2]) (S' := [.int a2]) (σ' := (97, I, J, R)) rfl ?_
  by_cases hc_1 : a2 = (0 : Int32)
  · rw [if_pos hc_1] at h
    refine az_E.sw hc_1 (pc' := 52) (L' := [.ref 4, .int a1, .int a2]) (S' := []) (σ' := (97, I, J, R)) rfl ?_
    refine az_E.sn 1 (pc' := 53) (L' := [.ref 4, .int a1, .int a2]) (S' := [.int a1]) (σ' := (97, I, J, R)) rfl ?_
    refine az_E.call (d := 1) (k' := 133) (vs := [.int a1]) (pc' := 56) (S' := []) rfl ?_ (fun _ _ hq => hq)
    show az_E az_F ex 1 133 0 [.int a1] [] (97, I, J, R) _
    refine az_E.sn 3 (pc' := 5) (L' := [.int a1]) (S' := [.int (143 : Int32), .int (0 : Int32), .int a1]) (σ' := (97, I, J, R)) rfl ?_
    refine az_E.call (d := 0) (k' := 131) (vs := [.int a1, .int (0 : Int32), .int (143 : Int32)]) (pc' := 8) (S' := []) rfl ?_ (fun _ _ hq => hq)
    show az_E az_F ex 0 131 0 [.int a1, .int (0 : Int32), .int (143 : Int32)] [] (97, I, J, R) _
    refine az_E.sn 2 (pc' := 2) (L' := [.int a1, .int (0 : Int32), .int (143 : Int32)]) (S' := [.int (0 : Int32), .int a1]) (σ' := (97, I, J, R)) rfl ?_
    refine az_E.br (c := a1 < (0 : Int32)) (tt := 14) (ff := 5) (L' := [.int a1, .int (0 : Int32), .int (143 : Int32)]) (S' := []) (σ' := (97, I, J, R)) rfl (fun hc_2 => ?_) (fun hc_2 => ?_)
    · rw [if_pos hc_2] at h
      refine az_E.sn 1 (pc' := 15) (L' := [.int a1, .int (0 : Int32), .int (143 : Int32)]) (S' := [.int (0 : Int32)]) (σ' := (97, I, J, R)) rfl ?_
      refine az_E.ret (v := some (.int (0 : Int32))) (σ' := (97, I, J, R)) rfl ?_
      show az_E az_F ex 1 133 8 [.int a1] [.int (0 : Int32)] (97, I, J, R) _
      refine az_E.ret (v := some (.int (0 : Int32))) (σ' := (97, I, J, R)) rfl ?_
      show az_E az_F ex 2 37 56 [.ref 4, .int a1, .int a2] [.int (0 : Int32)] (97, I, J, R) _
      cases h
      exact az_E.ret (v := some (.int (0 : Int32))) (σ' := (97, I, J, R)) rfl hQ
    · rw [if_neg hc_2] at h
      refine az_E.sn 2 (pc' := 7) (L' := [.int a1, .int (0 : Int32), .int (143 : Int32)]) (S' := [.int (143 : Int32), .int a1]) (σ' := (97, I, J, R)) rfl ?_
      refine az_E.br (c := (143 : Int32) < a1) (tt := 14) (ff := 10) (L' := [.int a1, .int (0 : Int32), .int (143 : Int32)]) (S' := []) (σ' := (97, I, J, R)) rfl (fun hc_3 => ?_) (fun hc_3 => ?_)
      · rw [if_pos hc_3] at h
        refine az_E.sn 1 (pc' := 15) (L' := [.int a1, .int (0 : Int32), .int (143 : Int32)]) (S' := [.int (0 : Int32)]) (σ' := (97, I, J, R)) rfl ?_
        refine az_E.ret (v := some (.int (0 : Int32))) (σ' := (97, I, J, R)) rfl ?_
        show az_E az_F ex 1 133 8 [.int a1] [.int (0 : Int32)] (97, I, J, R) _
        refine az_E.ret (v := some (.int (0 : Int32))) (σ' := (97, I, J, R)) rfl ?_
        show az_E az_F ex 2 37 56 [.ref 4, .int a1, .int a2] [.int (0 : Int32)] (97, I, J, R) _
        cases h
        exact az_E.ret (v := some (.int (0 : Int32))) (σ' := (97, I, J, R)) rfl hQ
      · rw [if_neg hc_3] at h
        refine az_E.sn 2 (pc' := 15) (L' := [.int a1, .int (0 : Int32), .int (143 : Int32)]) (S' := [.int (1 : Int32)]) (σ' := (97, I, J, R)) rfl ?_
        refine az_E.ret (v := some (.int (1 : Int32))) (σ' := (97, I, J, R)) rfl ?_
        show az_E az_F ex 1 133 8 [.int a1] [.int (1 : Int32)] (97, I, J, R) _
        refine az_E.ret (v := some (.int (1 : Int32))) (σ' := (97, I, J, R)) rfl ?_
        show az_E az_F ex 2 37 56 [.ref 4, .int a1, .int a2] [.int (1 : Int32)] (97, I, J, R) _
        cases h
        exact az_E.ret (v := some (.int (1 : Int32))) (σ' := (97, I, J, R)) rfl hQ
  · rw [if_neg hc_1] at h
    by_cases hc_4 : a2 = (1 : Int32)
    · rw [if_pos hc_4] at h
      refine az_E.sw hc_4 (pc' := 57) (L' := [.ref 4, .int a1, .int a2]) (S' := []) (σ' := (97, I, J, R)) rfl ?_
      exact az_E.forget (L := [.ref 4, .int a1, .retAddr 0]) ⟨rfl, rfl, trivial, trivial⟩ (re_Mo_isThere_57 (I := I) (J := J) (R := R)  h hQ)
    · rw [if_neg hc_4] at h
      by_cases hc_7 : a2 = (2 : Int32)
      · rw [if_pos hc_7] at h
        refine az_E.sw hc_7 (pc' := 57) (L' := [.ref 4, .int a1, .int a2]) (S' := []) (σ' := (97, I, J, R)) rfl ?_
        exact az_E.forget (L := [.ref 4, .int a1, .retAddr 0]) ⟨rfl, rfl, trivial, trivial⟩ (re_Mo_isThere_57 (I := I) (J := J) (R := R)  h hQ)
      · rw [if_neg hc_7] at h
        by_cases hc_8 : a2 = (3 : Int32)
        · rw [if_pos hc_8] at h
          refine az_E.sw hc_8 (pc' := 69) (L' := [.ref 4, .int a1, .int a2]) (S' := []) (σ' := (97, I, J, R)) rfl ?_
          exact az_E.forget (L := [.ref 4, .int a1, .retAddr 0]) ⟨rfl, rfl, trivial, trivial⟩ (re_Mo_isThere_69 (I := I) (J := J) (R := R)  h hQ)
        · rw [if_neg hc_8] at h
          by_cases hc_11 : a2 = (4 : Int32)
          · rw [if_pos hc_11] at h
            refine az_E.sw hc_11 (pc' := 69) (L' := [.ref 4, .int a1, .int a2]) (S' := []) (σ' := (97, I, J, R)) rfl ?_
            exact az_E.forget (L := [.ref 4, .int a1, .retAddr 0]) ⟨rfl, rfl, trivial, trivial⟩ (re_Mo_isThere_69 (I := I) (J := J) (R := R)  h hQ)
          · rw [if_neg hc_11] at h
            by_cases hc_12 : a2 = (5 : Int32)
            · rw [if_pos hc_12] at h
              refine az_E.sw hc_12 (pc' := 69) (L' := [.ref 4, .int a1, .int a2]) (S' := []) (σ' := (97, I, J, R)) rfl ?_
              exact az_E.forget (L := [.ref 4, .int a1, .retAddr 0]) ⟨rfl, rfl, trivial, trivial⟩ (re_Mo_isThere_69 (I := I) (J := J) (R := R)  h hQ)
            · rw [if_neg hc_12] at h
              by_cases hc_13 : a2 = (6 : Int32)
              · rw [if_pos hc_13] at h
                refine az_E.sw hc_13 (pc' := 81) (L' := [.ref 4, .int a1, .int a2]) (S' := []) (σ' := (97, I, J, R)) rfl ?_
                refine az_E.sn 1 (pc' := 82) (L' := [.ref 4, .int a1, .int a2]) (S' := [.int a1]) (σ' := (97, I, J, R)) rfl ?_
                refine az_E.br (c := a1 = 0) (tt := 85) (ff := 89) (L' := [.ref 4, .int a1, .int a2]) (S' := []) (σ' := (97, I, J, R)) rfl (fun hc_14 => ?_) (fun hc_14 => ?_)
                · rw [if_pos hc_14] at h
                  refine az_E.sn 2 (pc' := 90) (L' := [.ref 4, .int a1, .int a2]) (S' := [.int (1 : Int32)]) (σ' := (97, I, J, R)) rfl ?_
                  cases h
                  exact az_E.ret (v := some (.int (1 : Int32))) (σ' := (97, I, J, R)) rfl hQ
                · rw [if_neg hc_14] at h
                  refine az_E.sn 1 (pc' := 90) (L' := [.ref 4, .int a1, .int a2]) (S' := [.int (0 : Int32)]) (σ' := (97, I, J, R)) rfl ?_
                  cases h
                  exact az_E.ret (v := some (.int (0 : Int32))) (σ' := (97, I, J, R)) rfl hQ
              · rw [if_neg hc_13] at h
                by_cases hc_15 : a2 = (7 : Int32)
                · rw [if_pos hc_15] at h
                  refine az_E.sw hc_15 (pc' := 69) (L' := [.ref 4, .int a1, .int a2]) (S' := []) (σ' := (97, I, J, R)) rfl ?_
                  exact az_E.forget (L := [.ref 4, .int a1, .retAddr 0]) ⟨rfl, rfl, trivial, trivial⟩ (re_Mo_isThere_69 (I := I) (J := J) (R := R)  h hQ)
                · rw [if_neg hc_15] at h
                  by_cases hc_16 : a2 = (8 : Int32)
                  · rw [if_pos hc_16] at h
                    refine az_E.sw hc_16 (pc' := 69) (L' := [.ref 4, .int a1, .int a2]) (S' := []) (σ' := (97, I, J, R)) rfl ?_
                    exact az_E.forget (L := [.ref 4, .int a1, .retAddr 0]) ⟨rfl, rfl, trivial, trivial⟩ (re_Mo_isThere_69 (I := I) (J := J) (R := R)  h hQ)
                  · rw [if_neg hc_16] at h
                    have ehc_1 := az_nei hc_1 (z := 0) (by decide)
                    have ehc_4 := az_nei hc_4 (z := 1) (by decide)
                    have ehc_7 := az_nei hc_7 (z := 2) (by decide)
                    have ehc_8 := az_nei hc_8 (z := 3) (by decide)
                    have ehc_11 := az_nei hc_11 (z := 4) (by decide)
                    have ehc_12 := az_nei hc_12 (z := 5) (by decide)
                    have ehc_13 := az_nei hc_13 (z := 6) (by decide)
                    have ehc_15 := az_nei hc_15 (z := 7) (by decide)
                    have ehc_16 := az_nei hc_16 (z := 8) (by decide)
                    refine az_E.swd (a := 91) (lo := 0) (hi := 8) (offs := #[51, 56, 56, 68, 68, 68, 80, 68, 68]) rfl (by omega) ?_
                    refine az_E.sn 1 (pc' := 92) (L' := [.ref 4, .int a1, .int a2]) (S' := [.int (0 : Int32)]) (σ' := (97, I, J, R)) rfl ?_
                    cases h
                    exact az_E.ret (v := some (.int (0 : Int32))) (σ' := (97, I, J, R)) rfl hQ
set_option maxRecDepth 100000 in
set_option maxHeartbeats 4000000 in
theorem re_X_count {ex : az_X} {I : Nat → Nat → Int32} {J : Nat → Nat → Int64} {R : Nat → Nat → Option Nat} {a1 : Int32} {o : Int32} (h : rs_X_count I a1 = some o) {Q : Option Value → az_S → Prop} (hQ : Q (some (.int o)) (97, I, J, R)) : az_E az_F ex 0 130 0 [.ref 3, .int a1] [] (97, I, J, R) Q := by
  unfold rs_X_count at h
  refine az_E.sn 1 (pc' := 1) (L' := [.ref 3, .int a1]) (S' := [.int a1]) (σ' := (97, I, J, R)) rfl ?_
  by_cases hc_1 : a1 = (0 : Int32)
  · rw [if_pos hc_1] at h
    refine az_E.sw hc_1 (pc' := 40) (L' := [.ref 3, .int a1]) (S' := []) (σ' := (97, I, J, R)) rfl ?_
    refine az_E.sn 3 (pc' := 47) (L' := [.ref 3, .int a1]) (S' := [.int (I 4 3)]) (σ' := (97, I, J, R)) rfl ?_
    cases h
    exact az_E.ret (v := some (.int (I 4 3))) (σ' := (97, I, J, R)) rfl hQ
  · rw [if_neg hc_1] at h
    by_cases hc_2 : a1 = (1 : Int32)
    · rw [if_pos hc_2] at h
      refine az_E.sw hc_2 (pc' := 48) (L' := [.ref 3, .int a1]) (S' := []) (σ' := (97, I, J, R)) rfl ?_
      refine az_E.sn 3 (pc' := 55) (L' := [.ref 3, .int a1]) (S' := [.int (I 4 9)]) (σ' := (97, I, J, R)) rfl ?_
      cases h
      exact az_E.ret (v := some (.int (I 4 9))) (σ' := (97, I, J, R)) rfl hQ
    · rw [if_neg hc_2] at h
      by_cases hc_3 : a1 = (2 : Int32)
      · rw [if_pos hc_3] at h
        refine az_E.sw hc_3 (pc' := 56) (L' := [.ref 3, .int a1]) (S' := []) (σ' := (97, I, J, R)) rfl ?_
        refine az_E.sn 3 (pc' := 63) (L' := [.ref 3, .int a1]) (S' := [.int (I 14 1)]) (σ' := (97, I, J, R)) rfl ?_
        cases h
        exact az_E.ret (v := some (.int (I 14 1))) (σ' := (97, I, J, R)) rfl hQ
      · rw [if_neg hc_3] at h
        by_cases hc_4 : a1 = (3 : Int32)
        · rw [if_pos hc_4] at h
          refine az_E.sw hc_4 (pc' := 64) (L' := [.ref 3, .int a1]) (S' := []) (σ' := (97, I, J, R)) rfl ?_
          refine az_E.sn 3 (pc' := 71) (L' := [.ref 3, .int a1]) (S' := [.int (I 44 4)]) (σ' := (97, I, J, R)) rfl ?_
          cases h
          exact az_E.ret (v := some (.int (I 44 4))) (σ' := (97, I, J, R)) rfl hQ
        · rw [if_neg hc_4] at h
          by_cases hc_5 : a1 = (4 : Int32)
          · rw [if_pos hc_5] at h
            refine az_E.sw hc_5 (pc' := 72) (L' := [.ref 3, .int a1]) (S' := []) (σ' := (97, I, J, R)) rfl ?_
            refine az_E.sn 3 (pc' := 79) (L' := [.ref 3, .int a1]) (S' := [.int (I 55 1)]) (σ' := (97, I, J, R)) rfl ?_
            cases h
            exact az_E.ret (v := some (.int (I 55 1))) (σ' := (97, I, J, R)) rfl hQ
          · rw [if_neg hc_5] at h
            by_cases hc_6 : a1 = (5 : Int32)
            · rw [if_pos hc_6] at h
              refine az_E.sw hc_6 (pc' := 80) (L' := [.ref 3, .int a1]) (S' := []) (σ' := (97, I, J, R)) rfl ?_
              refine az_E.sn 3 (pc' := 87) (L' := [.ref 3, .int a1]) (S' := [.int (I 55 3)]) (σ' := (97, I, J, R)) rfl ?_
              cases h
              exact az_E.ret (v := some (.int (I 55 3))) (σ' := (97, I, J, R)) rfl hQ
            · rw [if_neg hc_6] at h
              have ehc_1 := az_nei hc_1 (z := 0) (by decide)
              have ehc_2 := az_nei hc_2 (z := 1) (by decide)
              have ehc_3 := az_nei hc_3 (z := 2) (by decide)
              have ehc_4 := az_nei hc_4 (z := 3) (by decide)
              have ehc_5 := az_nei hc_5 (z := 4) (by decide)
              have ehc_6 := az_nei hc_6 (z := 5) (by decide)
              refine az_E.swd (a := 88) (lo := 0) (hi := 5) (offs := #[39, 47, 55, 63, 71, 79]) rfl (by omega) ?_
              refine az_E.sn 1 (pc' := 89) (L' := [.ref 3, .int a1]) (S' := [.int (-1 : Int32)]) (σ' := (97, I, J, R)) rfl ?_
              cases h
              exact az_E.ret (v := some (.int (-1 : Int32))) (σ' := (97, I, J, R)) rfl hQ
set_option maxRecDepth 100000 in
set_option maxHeartbeats 4000000 in
theorem re_X_stumps_4_b {ex : az_X} {I : Nat → Nat → Int32} {J : Nat → Nat → Int64} {R : Nat → Nat → Option Nat} {v1 : Int32} {v2 : Int32} {x : ((Int32 × Int32) ⊕ (Int32))} (h : rs_X_stumps_4_b I v1 v2 = some x) {Q : Option Value → az_S → Prop} (hQ : Sum.elim (fun s => az_E az_F ex 0 109 4 [.ref 3, .int s.1, .int s.2] [] (97, I, J, R) Q) (fun x => Q (some (.int x)) (97, I, J, R)) x) : az_E az_F ex 0 109 4 [.ref 3, .int v1, .int v2] [] (97, I, J, R) Q := by
  unfold rs_X_stumps_4_b at h
  refine az_E.sn 4 (pc' := 12) (L' := [.ref 3, .int v1, .int v2]) (S' := [.int (I 4 3), .int v2]) (σ' := (97, I, J, R)) rfl ?_
  refine az_E.br (c := (I 4 3) ≤ v2) (tt := 48) (ff := 15) (L' := [.ref 3, .int v1, .int v2]) (S' := []) (σ' := (97, I, J, R)) rfl (fun hc_1 => ?_) (fun hc_1 => ?_)
  · rw [if_pos hc_1] at h
    refine az_E.sn 1 (pc' := 49) (L' := [.ref 3, .int v1, .int v2]) (S' := [.int v1]) (σ' := (97, I, J, R)) rfl ?_
    cases h
    exact az_E.ret (v := some (.int v1)) (σ' := (97, I, J, R)) rfl hQ
  · rw [if_neg hc_1] at h
    refine az_E.sn 4 (pc' := 23) (L' := [.ref 3, .int v1, .int v2]) (S' := [.int v2, .ref 6]) (σ' := (97, I, J, R)) rfl ?_
    by_cases hc_2 : v2 < 0 ∨ 8 ≤ v2.toNatClampNeg
    · rw [if_pos hc_2] at h; cases h
    · rw [if_neg hc_2] at h
      refine az_E.oi (o := az_ai az_F ex (97, I, J, R) 6 v2) (pc' := 24) (L' := [.ref 3, .int v1, .int v2]) (S' := []) (σ' := (97, I, J, R)) (x := (I 6 v2.toNatClampNeg)) rfl (if_neg hc_2) ?_
      refine az_E.sn 4 (pc' := 32) (L' := [.ref 3, .int v1, .int v2]) (S' := [.int v2, .ref 7, .int (I 6 v2.toNatClampNeg)]) (σ' := (97, I, J, R)) rfl ?_
      by_cases hc_3 : v2 < 0 ∨ 8 ≤ v2.toNatClampNeg
      · rw [if_pos hc_3] at h; cases h
      · rw [if_neg hc_3] at h
        refine az_E.oi (o := az_ai az_F ex (97, I, J, R) 7 v2) (pc' := 33) (L' := [.ref 3, .int v1, .int v2]) (S' := [.int (I 6 v2.toNatClampNeg)]) (σ' := (97, I, J, R)) (x := (I 7 v2.toNatClampNeg)) rfl (if_neg hc_3) ?_
        refine az_E.br (c := (I 6 v2.toNatClampNeg) = (I 7 v2.toNatClampNeg)) (tt := 36) (ff := 42) (L' := [.ref 3, .int v1, .int v2]) (S' := []) (σ' := (97, I, J, R)) rfl (fun hc_4 => ?_) (fun hc_4 => ?_)
        · rw [if_pos hc_4] at h
          refine az_E.sn 8 (pc' := 4) (L' := [.ref 3, .int (v1 ||| ((1 : Int32) <<< (v2 &&& 31))), .int (v2 + (1 : Int32))]) (S' := []) (σ' := (97, I, J, R)) rfl ?_
          cases h
          exact az_E.forget (L := [.ref 3, .int (v1 ||| ((1 : Int32) <<< (v2 &&& 31))), .int (v2 + (1 : Int32))]) ⟨rfl, rfl, rfl, trivial⟩ hQ
        · rw [if_neg hc_4] at h
          refine az_E.sn 2 (pc' := 4) (L' := [.ref 3, .int v1, .int (v2 + (1 : Int32))]) (S' := []) (σ' := (97, I, J, R)) rfl ?_
          cases h
          exact az_E.forget (L := [.ref 3, .int v1, .int (v2 + (1 : Int32))]) ⟨rfl, rfl, rfl, trivial⟩ hQ
set_option maxRecDepth 100000 in
set_option maxHeartbeats 4000000 in
theorem re_X_stumps_4 {ex : az_X} {I : Nat → Nat → Int32} {J : Nat → Nat → Int64} {R : Nat → Nat → Option Nat} {v1 : Int32} {v2 : Int32} {x : Int32} (h : rs_X_stumps_4 I v1 v2 = some x) {Q : Option Value → az_S → Prop} (hQ : Q (some (.int x)) (97, I, J, R)) : az_E az_F ex 0 109 4 [.ref 3, .int v1, .int v2] [] (97, I, J, R) Q := by
  unfold rs_X_stumps_4 at h
  exact az_lp_E (G := fun s => az_E az_F ex 0 109 4 [.ref 3, .int s.1, .int s.2] [] (97, I, J, R) Q) (H := fun x => Q (some (.int x)) (97, I, J, R)) (fun s o hb ho => re_X_stumps_4_b  hb ho) _ _ _ h hQ
set_option maxRecDepth 100000 in
set_option maxHeartbeats 4000000 in
theorem re_X_stumps {ex : az_X} {I : Nat → Nat → Int32} {J : Nat → Nat → Int64} {R : Nat → Nat → Option Nat} {o : Int32} (h : rs_X_stumps I = some o) {Q : Option Value → az_S → Prop} (hQ : Q (some (.int o)) (97, I, J, R)) : az_E az_F ex 0 109 0 [.ref 3, .retAddr 0, .retAddr 0] [] (97, I, J, R) Q := by
  unfold rs_X_stumps at h
  refine az_E.sn 4 (pc' := 4) (L' := [.ref 3, .int (0 : Int32), .int (0 : Int32)]) (S' := []) (σ' := (97, I, J, R)) rfl ?_
  exact az_E.forget (L := [.ref 3, .int (0 : Int32), .int (0 : Int32)]) ⟨rfl, rfl, rfl, trivial⟩ (re_X_stumps_4 (I := I) (J := J) (R := R)  h hQ)
set_option maxRecDepth 100000 in
set_option maxHeartbeats 4000000 in
theorem re_Sh_refusalAt_61 {ex : az_X} {I : Nat → Nat → Int32} {J : Nat → Nat → Int64} {R : Nat → Nat → Option Nat} {a1 : Int32} {o : Int32} (h : rs_Sh_refusalAt 61 I a1 = some o) {Q : Option Value → az_S → Prop} (hQ : Q (some (.int o)) (97, I, J, R)) : az_E az_F ex 1 61 0 [.ref 61, .int a1] [] (97, I, J, R) Q := by
  unfold rs_Sh_refusalAt at h
  refine az_E.sn 1 (pc' := 1) (L' := [.ref 61, .int a1]) (S' := [.ref 61]) (σ' := (97, I, J, R)) rfl ?_
  refine az_E.call (d := 0) (k' := 54) (vs := [.ref 61]) (pc' := 4) (S' := []) rfl ?_ (fun _ _ hq => hq)
  show az_E az_F ex 0 54 0 [.ref 61] [] (97, I, J, R) _
  refine az_E.sn 3 (pc' := 5) (L' := [.ref 61]) (S' := [.int (-1 : Int32), .int (I 61 0)]) (σ' := (97, I, J, R)) rfl ?_
  refine az_E.br (c := (I 61 0) = (-1 : Int32)) (tt := 8) (ff := 20) (L' := [.ref 61]) (S' := []) (σ' := (97, I, J, R)) rfl (fun hc_1 => ?_) (fun hc_1 => ?_)
  · rw [if_pos hc_1] at h
    refine az_E.sn 3 (pc' := 13) (L' := [.ref 61]) (S' := [.int (-1 : Int32), .int (I 61 1)]) (σ' := (97, I, J, R)) rfl ?_
    refine az_E.br (c := (I 61 1) = (-1 : Int32)) (tt := 16) (ff := 20) (L' := [.ref 61]) (S' := []) (σ' := (97, I, J, R)) rfl (fun hc_2 => ?_) (fun hc_2 => ?_)
    · rw [if_pos hc_2] at h
      refine az_E.sn 2 (pc' := 21) (L' := [.ref 61]) (S' := [.int (1 : Int32)]) (σ' := (97, I, J, R)) rfl ?_
      refine az_E.ret (v := some (.int (1 : Int32))) (σ' := (97, I, J, R)) rfl ?_
      show az_E az_F ex 1 61 4 [.ref 61, .int a1] [.int (1 : Int32)] (97, I, J, R) _
      refine az_E.br (c := (1 : Int32) = 0) (tt := 10) (ff := 7) (L' := [.ref 61, .int a1]) (S' := []) (σ' := (97, I, J, R)) rfl (fun hn => absurd hn (by decide)) (fun _ => ?_)
      refine az_E.sn 1 (pc' := 9) (L' := [.ref 61, .int a1]) (S' := [.int (-11 : Int32)]) (σ' := (97, I, J, R)) rfl ?_
      cases h
      exact az_E.ret (v := some (.int (-11 : Int32))) (σ' := (97, I, J, R)) rfl hQ
    · rw [if_neg hc_2] at h
      refine az_E.sn 1 (pc' := 21) (L' := [.ref 61]) (S' := [.int (0 : Int32)]) (σ' := (97, I, J, R)) rfl ?_
      refine az_E.ret (v := some (.int (0 : Int32))) (σ' := (97, I, J, R)) rfl ?_
      show az_E az_F ex 1 61 4 [.ref 61, .int a1] [.int (0 : Int32)] (97, I, J, R) _
      refine az_E.br (c := (0 : Int32) = 0) (tt := 10) (ff := 7) (L' := [.ref 61, .int a1]) (S' := []) (σ' := (97, I, J, R)) rfl (fun _ => ?_) (fun hn => absurd (by decide) hn)
      refine az_E.sn 1 (pc' := 11) (L' := [.ref 61, .int a1]) (S' := [.ref 61]) (σ' := (97, I, J, R)) rfl ?_
      refine az_E.call (d := 0) (k' := 55) (vs := [.ref 61]) (pc' := 14) (S' := []) rfl ?_ (fun _ _ hq => hq)
      show az_E az_F ex 0 55 0 [.ref 61] [] (97, I, J, R) _
      refine az_E.sn 3 (pc' := 5) (L' := [.ref 61]) (S' := [.int (-1 : Int32), .int (I 61 1)]) (σ' := (97, I, J, R)) rfl ?_
      refine az_E.br (c := (I 61 1) = (-1 : Int32)) (tt := 12) (ff := 8) (L' := [.ref 61]) (S' := []) (σ' := (97, I, J, R)) rfl (fun hc_3 => ?_) (fun hc_3 => ?_)
      · rw [if_pos hc_3] at h
        refine az_E.sn 1 (pc' := 13) (L' := [.ref 61]) (S' := [.int (0 : Int32)]) (σ' := (97, I, J, R)) rfl ?_
        refine az_E.ret (v := some (.int (0 : Int32))) (σ' := (97, I, J, R)) rfl ?_
        show az_E az_F ex 1 61 14 [.ref 61, .int a1] [.int (0 : Int32)] (97, I, J, R) _
        refine az_E.br (c := (0 : Int32) = 0) (tt := 17) (ff := 20) (L' := [.ref 61, .int a1]) (S' := []) (σ' := (97, I, J, R)) rfl (fun _ => ?_) (fun hn => absurd (by decide) hn)
        refine az_E.sn 1 (pc' := 19) (L' := [.ref 61, .int a1]) (S' := [.int (-12 : Int32)]) (σ' := (97, I, J, R)) rfl ?_
        cases h
        exact az_E.ret (v := some (.int (-12 : Int32))) (σ' := (97, I, J, R)) rfl hQ
      · rw [if_neg hc_3] at h
        refine az_E.sn 2 (pc' := 13) (L' := [.ref 61]) (S' := [.int (1 : Int32)]) (σ' := (97, I, J, R)) rfl ?_
        refine az_E.ret (v := some (.int (1 : Int32))) (σ' := (97, I, J, R)) rfl ?_
        show az_E az_F ex 1 61 14 [.ref 61, .int a1] [.int (1 : Int32)] (97, I, J, R) _
        refine az_E.br (c := (1 : Int32) = 0) (tt := 17) (ff := 20) (L' := [.ref 61, .int a1]) (S' := []) (σ' := (97, I, J, R)) rfl (fun hn => absurd hn (by decide)) (fun _ => ?_)
        refine az_E.sn 6 (pc' := 28) (L' := [.ref 61, .int a1]) (S' := [.int ((I 61 2) - (1 : Int32)), .int (0 : Int32), .int a1]) (σ' := (97, I, J, R)) rfl ?_
        refine az_E.call (d := 0) (k' := 131) (vs := [.int a1, .int (0 : Int32), .int ((I 61 2) - (1 : Int32))]) (pc' := 31) (S' := []) rfl ?_ (fun _ _ hq => hq)
        show az_E az_F ex 0 131 0 [.int a1, .int (0 : Int32), .int ((I 61 2) - (1 : Int32))] [] (97, I, J, R) _
        refine az_E.sn 2 (pc' := 2) (L' := [.int a1, .int (0 : Int32), .int ((I 61 2) - (1 : Int32))]) (S' := [.int (0 : Int32), .int a1]) (σ' := (97, I, J, R)) rfl ?_
        refine az_E.br (c := a1 < (0 : Int32)) (tt := 14) (ff := 5) (L' := [.int a1, .int (0 : Int32), .int ((I 61 2) - (1 : Int32))]) (S' := []) (σ' := (97, I, J, R)) rfl (fun hc_4 => ?_) (fun hc_4 => ?_)
        · rw [if_pos hc_4] at h
          refine az_E.sn 1 (pc' := 15) (L' := [.int a1, .int (0 : Int32), .int ((I 61 2) - (1 : Int32))]) (S' := [.int (0 : Int32)]) (σ' := (97, I, J, R)) rfl ?_
          refine az_E.ret (v := some (.int (0 : Int32))) (σ' := (97, I, J, R)) rfl ?_
          show az_E az_F ex 1 61 31 [.ref 61, .int a1] [.int (0 : Int32)] (97, I, J, R) _
          refine az_E.br (c := (0 : Int32) = 0) (tt := 38) (ff := 34) (L' := [.ref 61, .int a1]) (S' := []) (σ' := (97, I, J, R)) rfl (fun _ => ?_) (fun hn => absurd (by decide) hn)
          refine az_E.sn 1 (pc' := 40) (L' := [.ref 61, .int a1]) (S' := [.int (-13 : Int32)]) (σ' := (97, I, J, R)) rfl ?_
          cases h
          exact az_E.ret (v := some (.int (-13 : Int32))) (σ' := (97, I, J, R)) rfl hQ
        · rw [if_neg hc_4] at h
          refine az_E.sn 2 (pc' := 7) (L' := [.int a1, .int (0 : Int32), .int ((I 61 2) - (1 : Int32))]) (S' := [.int ((I 61 2) - (1 : Int32)), .int a1]) (σ' := (97, I, J, R)) rfl ?_
          refine az_E.br (c := ((I 61 2) - (1 : Int32)) < a1) (tt := 14) (ff := 10) (L' := [.int a1, .int (0 : Int32), .int ((I 61 2) - (1 : Int32))]) (S' := []) (σ' := (97, I, J, R)) rfl (fun hc_5 => ?_) (fun hc_5 => ?_)
          · rw [if_pos hc_5] at h
            refine az_E.sn 1 (pc' := 15) (L' := [.int a1, .int (0 : Int32), .int ((I 61 2) - (1 : Int32))]) (S' := [.int (0 : Int32)]) (σ' := (97, I, J, R)) rfl ?_
            refine az_E.ret (v := some (.int (0 : Int32))) (σ' := (97, I, J, R)) rfl ?_
            show az_E az_F ex 1 61 31 [.ref 61, .int a1] [.int (0 : Int32)] (97, I, J, R) _
            refine az_E.br (c := (0 : Int32) = 0) (tt := 38) (ff := 34) (L' := [.ref 61, .int a1]) (S' := []) (σ' := (97, I, J, R)) rfl (fun _ => ?_) (fun hn => absurd (by decide) hn)
            refine az_E.sn 1 (pc' := 40) (L' := [.ref 61, .int a1]) (S' := [.int (-13 : Int32)]) (σ' := (97, I, J, R)) rfl ?_
            cases h
            exact az_E.ret (v := some (.int (-13 : Int32))) (σ' := (97, I, J, R)) rfl hQ
          · rw [if_neg hc_5] at h
            refine az_E.sn 2 (pc' := 15) (L' := [.int a1, .int (0 : Int32), .int ((I 61 2) - (1 : Int32))]) (S' := [.int (1 : Int32)]) (σ' := (97, I, J, R)) rfl ?_
            refine az_E.ret (v := some (.int (1 : Int32))) (σ' := (97, I, J, R)) rfl ?_
            show az_E az_F ex 1 61 31 [.ref 61, .int a1] [.int (1 : Int32)] (97, I, J, R) _
            refine az_E.br (c := (1 : Int32) = 0) (tt := 38) (ff := 34) (L' := [.ref 61, .int a1]) (S' := []) (σ' := (97, I, J, R)) rfl (fun hn => absurd hn (by decide)) (fun _ => ?_)
            refine az_E.sn 2 (pc' := 40) (L' := [.ref 61, .int a1]) (S' := [.int (0 : Int32)]) (σ' := (97, I, J, R)) rfl ?_
            cases h
            exact az_E.ret (v := some (.int (0 : Int32))) (σ' := (97, I, J, R)) rfl hQ
  · rw [if_neg hc_1] at h
    refine az_E.sn 1 (pc' := 21) (L' := [.ref 61]) (S' := [.int (0 : Int32)]) (σ' := (97, I, J, R)) rfl ?_
    refine az_E.ret (v := some (.int (0 : Int32))) (σ' := (97, I, J, R)) rfl ?_
    show az_E az_F ex 1 61 4 [.ref 61, .int a1] [.int (0 : Int32)] (97, I, J, R) _
    refine az_E.br (c := (0 : Int32) = 0) (tt := 10) (ff := 7) (L' := [.ref 61, .int a1]) (S' := []) (σ' := (97, I, J, R)) rfl (fun _ => ?_) (fun hn => absurd (by decide) hn)
    refine az_E.sn 1 (pc' := 11) (L' := [.ref 61, .int a1]) (S' := [.ref 61]) (σ' := (97, I, J, R)) rfl ?_
    refine az_E.call (d := 0) (k' := 55) (vs := [.ref 61]) (pc' := 14) (S' := []) rfl ?_ (fun _ _ hq => hq)
    show az_E az_F ex 0 55 0 [.ref 61] [] (97, I, J, R) _
    refine az_E.sn 3 (pc' := 5) (L' := [.ref 61]) (S' := [.int (-1 : Int32), .int (I 61 1)]) (σ' := (97, I, J, R)) rfl ?_
    refine az_E.br (c := (I 61 1) = (-1 : Int32)) (tt := 12) (ff := 8) (L' := [.ref 61]) (S' := []) (σ' := (97, I, J, R)) rfl (fun hc_6 => ?_) (fun hc_6 => ?_)
    · rw [if_pos hc_6] at h
      refine az_E.sn 1 (pc' := 13) (L' := [.ref 61]) (S' := [.int (0 : Int32)]) (σ' := (97, I, J, R)) rfl ?_
      refine az_E.ret (v := some (.int (0 : Int32))) (σ' := (97, I, J, R)) rfl ?_
      show az_E az_F ex 1 61 14 [.ref 61, .int a1] [.int (0 : Int32)] (97, I, J, R) _
      refine az_E.br (c := (0 : Int32) = 0) (tt := 17) (ff := 20) (L' := [.ref 61, .int a1]) (S' := []) (σ' := (97, I, J, R)) rfl (fun _ => ?_) (fun hn => absurd (by decide) hn)
      refine az_E.sn 1 (pc' := 19) (L' := [.ref 61, .int a1]) (S' := [.int (-12 : Int32)]) (σ' := (97, I, J, R)) rfl ?_
      cases h
      exact az_E.ret (v := some (.int (-12 : Int32))) (σ' := (97, I, J, R)) rfl hQ
    · rw [if_neg hc_6] at h
      refine az_E.sn 2 (pc' := 13) (L' := [.ref 61]) (S' := [.int (1 : Int32)]) (σ' := (97, I, J, R)) rfl ?_
      refine az_E.ret (v := some (.int (1 : Int32))) (σ' := (97, I, J, R)) rfl ?_
      show az_E az_F ex 1 61 14 [.ref 61, .int a1] [.int (1 : Int32)] (97, I, J, R) _
      refine az_E.br (c := (1 : Int32) = 0) (tt := 17) (ff := 20) (L' := [.ref 61, .int a1]) (S' := []) (σ' := (97, I, J, R)) rfl (fun hn => absurd hn (by decide)) (fun _ => ?_)
      refine az_E.sn 6 (pc' := 28) (L' := [.ref 61, .int a1]) (S' := [.int ((I 61 2) - (1 : Int32)), .int (0 : Int32), .int a1]) (σ' := (97, I, J, R)) rfl ?_
      refine az_E.call (d := 0) (k' := 131) (vs := [.int a1, .int (0 : Int32), .int ((I 61 2) - (1 : Int32))]) (pc' := 31) (S' := []) rfl ?_ (fun _ _ hq => hq)
      show az_E az_F ex 0 131 0 [.int a1, .int (0 : Int32), .int ((I 61 2) - (1 : Int32))] [] (97, I, J, R) _
      refine az_E.sn 2 (pc' := 2) (L' := [.int a1, .int (0 : Int32), .int ((I 61 2) - (1 : Int32))]) (S' := [.int (0 : Int32), .int a1]) (σ' := (97, I, J, R)) rfl ?_
      refine az_E.br (c := a1 < (0 : Int32)) (tt := 14) (ff := 5) (L' := [.int a1, .int (0 : Int32), .int ((I 61 2) - (1 : Int32))]) (S' := []) (σ' := (97, I, J, R)) rfl (fun hc_7 => ?_) (fun hc_7 => ?_)
      · rw [if_pos hc_7] at h
        refine az_E.sn 1 (pc' := 15) (L' := [.int a1, .int (0 : Int32), .int ((I 61 2) - (1 : Int32))]) (S' := [.int (0 : Int32)]) (σ' := (97, I, J, R)) rfl ?_
        refine az_E.ret (v := some (.int (0 : Int32))) (σ' := (97, I, J, R)) rfl ?_
        show az_E az_F ex 1 61 31 [.ref 61, .int a1] [.int (0 : Int32)] (97, I, J, R) _
        refine az_E.br (c := (0 : Int32) = 0) (tt := 38) (ff := 34) (L' := [.ref 61, .int a1]) (S' := []) (σ' := (97, I, J, R)) rfl (fun _ => ?_) (fun hn => absurd (by decide) hn)
        refine az_E.sn 1 (pc' := 40) (L' := [.ref 61, .int a1]) (S' := [.int (-13 : Int32)]) (σ' := (97, I, J, R)) rfl ?_
        cases h
        exact az_E.ret (v := some (.int (-13 : Int32))) (σ' := (97, I, J, R)) rfl hQ
      · rw [if_neg hc_7] at h
        refine az_E.sn 2 (pc' := 7) (L' := [.int a1, .int (0 : Int32), .int ((I 61 2) - (1 : Int32))]) (S' := [.int ((I 61 2) - (1 : Int32)), .int a1]) (σ' := (97, I, J, R)) rfl ?_
        refine az_E.br (c := ((I 61 2) - (1 : Int32)) < a1) (tt := 14) (ff := 10) (L' := [.int a1, .int (0 : Int32), .int ((I 61 2) - (1 : Int32))]) (S' := []) (σ' := (97, I, J, R)) rfl (fun hc_8 => ?_) (fun hc_8 => ?_)
        · rw [if_pos hc_8] at h
          refine az_E.sn 1 (pc' := 15) (L' := [.int a1, .int (0 : Int32), .int ((I 61 2) - (1 : Int32))]) (S' := [.int (0 : Int32)]) (σ' := (97, I, J, R)) rfl ?_
          refine az_E.ret (v := some (.int (0 : Int32))) (σ' := (97, I, J, R)) rfl ?_
          show az_E az_F ex 1 61 31 [.ref 61, .int a1] [.int (0 : Int32)] (97, I, J, R) _
          refine az_E.br (c := (0 : Int32) = 0) (tt := 38) (ff := 34) (L' := [.ref 61, .int a1]) (S' := []) (σ' := (97, I, J, R)) rfl (fun _ => ?_) (fun hn => absurd (by decide) hn)
          refine az_E.sn 1 (pc' := 40) (L' := [.ref 61, .int a1]) (S' := [.int (-13 : Int32)]) (σ' := (97, I, J, R)) rfl ?_
          cases h
          exact az_E.ret (v := some (.int (-13 : Int32))) (σ' := (97, I, J, R)) rfl hQ
        · rw [if_neg hc_8] at h
          refine az_E.sn 2 (pc' := 15) (L' := [.int a1, .int (0 : Int32), .int ((I 61 2) - (1 : Int32))]) (S' := [.int (1 : Int32)]) (σ' := (97, I, J, R)) rfl ?_
          refine az_E.ret (v := some (.int (1 : Int32))) (σ' := (97, I, J, R)) rfl ?_
          show az_E az_F ex 1 61 31 [.ref 61, .int a1] [.int (1 : Int32)] (97, I, J, R) _
          refine az_E.br (c := (1 : Int32) = 0) (tt := 38) (ff := 34) (L' := [.ref 61, .int a1]) (S' := []) (σ' := (97, I, J, R)) rfl (fun hn => absurd hn (by decide)) (fun _ => ?_)
          refine az_E.sn 2 (pc' := 40) (L' := [.ref 61, .int a1]) (S' := [.int (0 : Int32)]) (σ' := (97, I, J, R)) rfl ?_
          cases h
          exact az_E.ret (v := some (.int (0 : Int32))) (σ' := (97, I, J, R)) rfl hQ
set_option maxRecDepth 100000 in
set_option maxHeartbeats 4000000 in
theorem re_Sh_becomeEmpty_61 {ex : az_X} {I : Nat → Nat → Int32} {J : Nat → Nat → Int64} {R : Nat → Nat → Option Nat} {o : (Nat → Nat → Int32)} (h : rs_Sh_becomeEmpty 61 I = some o) {Q : Option Value → az_S → Prop} (hQ : Q none (97, o, J, R)) : az_E az_F ex 0 57 0 [.ref 61] [] (97, I, J, R) Q := by
  unfold rs_Sh_becomeEmpty at h
  refine az_E.sn 9 (pc' := 15) (L' := [.ref 61]) (S' := []) (σ' := (97, (az_u (az_u (az_u I 61 0 (-1 : Int32)) 61 1 (-1 : Int32)) 61 2 (0 : Int32)), J, R)) rfl ?_
  cases h
  exact az_E.ret (v := none) (σ' := (97, (az_u (az_u (az_u I 61 0 (-1 : Int32)) 61 1 (-1 : Int32)) 61 2 (0 : Int32)), J, R)) rfl hQ
set_option maxRecDepth 100000 in
set_option maxHeartbeats 4000000 in
theorem re_Sh_becomeEmpty_63 {ex : az_X} {I : Nat → Nat → Int32} {J : Nat → Nat → Int64} {R : Nat → Nat → Option Nat} {o : (Nat → Nat → Int32)} (h : rs_Sh_becomeEmpty 63 I = some o) {Q : Option Value → az_S → Prop} (hQ : Q none (97, o, J, R)) : az_E az_F ex 0 57 0 [.ref 63] [] (97, I, J, R) Q := by
  unfold rs_Sh_becomeEmpty at h
  refine az_E.sn 9 (pc' := 15) (L' := [.ref 63]) (S' := []) (σ' := (97, (az_u (az_u (az_u I 63 0 (-1 : Int32)) 63 1 (-1 : Int32)) 63 2 (0 : Int32)), J, R)) rfl ?_
  cases h
  exact az_E.ret (v := none) (σ' := (97, (az_u (az_u (az_u I 63 0 (-1 : Int32)) 63 1 (-1 : Int32)) 63 2 (0 : Int32)), J, R)) rfl hQ
set_option maxRecDepth 100000 in
set_option maxHeartbeats 4000000 in
theorem re_Sh_becomeEmpty_65 {ex : az_X} {I : Nat → Nat → Int32} {J : Nat → Nat → Int64} {R : Nat → Nat → Option Nat} {o : (Nat → Nat → Int32)} (h : rs_Sh_becomeEmpty 65 I = some o) {Q : Option Value → az_S → Prop} (hQ : Q none (97, o, J, R)) : az_E az_F ex 0 57 0 [.ref 65] [] (97, I, J, R) Q := by
  unfold rs_Sh_becomeEmpty at h
  refine az_E.sn 9 (pc' := 15) (L' := [.ref 65]) (S' := []) (σ' := (97, (az_u (az_u (az_u I 65 0 (-1 : Int32)) 65 1 (-1 : Int32)) 65 2 (0 : Int32)), J, R)) rfl ?_
  cases h
  exact az_E.ret (v := none) (σ' := (97, (az_u (az_u (az_u I 65 0 (-1 : Int32)) 65 1 (-1 : Int32)) 65 2 (0 : Int32)), J, R)) rfl hQ
set_option maxRecDepth 100000 in
set_option maxHeartbeats 4000000 in
theorem re_Sh_becomeEmpty_67 {ex : az_X} {I : Nat → Nat → Int32} {J : Nat → Nat → Int64} {R : Nat → Nat → Option Nat} {o : (Nat → Nat → Int32)} (h : rs_Sh_becomeEmpty 67 I = some o) {Q : Option Value → az_S → Prop} (hQ : Q none (97, o, J, R)) : az_E az_F ex 0 57 0 [.ref 67] [] (97, I, J, R) Q := by
  unfold rs_Sh_becomeEmpty at h
  refine az_E.sn 9 (pc' := 15) (L' := [.ref 67]) (S' := []) (σ' := (97, (az_u (az_u (az_u I 67 0 (-1 : Int32)) 67 1 (-1 : Int32)) 67 2 (0 : Int32)), J, R)) rfl ?_
  cases h
  exact az_E.ret (v := none) (σ' := (97, (az_u (az_u (az_u I 67 0 (-1 : Int32)) 67 1 (-1 : Int32)) 67 2 (0 : Int32)), J, R)) rfl hQ
set_option maxRecDepth 100000 in
set_option maxHeartbeats 4000000 in
theorem re_Sh_becomeEmpty_69 {ex : az_X} {I : Nat → Nat → Int32} {J : Nat → Nat → Int64} {R : Nat → Nat → Option Nat} {o : (Nat → Nat → Int32)} (h : rs_Sh_becomeEmpty 69 I = some o) {Q : Option Value → az_S → Prop} (hQ : Q none (97, o, J, R)) : az_E az_F ex 0 57 0 [.ref 69] [] (97, I, J, R) Q := by
  unfold rs_Sh_becomeEmpty at h
  refine az_E.sn 9 (pc' := 15) (L' := [.ref 69]) (S' := []) (σ' := (97, (az_u (az_u (az_u I 69 0 (-1 : Int32)) 69 1 (-1 : Int32)) 69 2 (0 : Int32)), J, R)) rfl ?_
  cases h
  exact az_E.ret (v := none) (σ' := (97, (az_u (az_u (az_u I 69 0 (-1 : Int32)) 69 1 (-1 : Int32)) 69 2 (0 : Int32)), J, R)) rfl hQ
set_option maxRecDepth 100000 in
set_option maxHeartbeats 4000000 in
theorem re_Sh_becomeEmpty_71 {ex : az_X} {I : Nat → Nat → Int32} {J : Nat → Nat → Int64} {R : Nat → Nat → Option Nat} {o : (Nat → Nat → Int32)} (h : rs_Sh_becomeEmpty 71 I = some o) {Q : Option Value → az_S → Prop} (hQ : Q none (97, o, J, R)) : az_E az_F ex 0 57 0 [.ref 71] [] (97, I, J, R) Q := by
  unfold rs_Sh_becomeEmpty at h
  refine az_E.sn 9 (pc' := 15) (L' := [.ref 71]) (S' := []) (σ' := (97, (az_u (az_u (az_u I 71 0 (-1 : Int32)) 71 1 (-1 : Int32)) 71 2 (0 : Int32)), J, R)) rfl ?_
  cases h
  exact az_E.ret (v := none) (σ' := (97, (az_u (az_u (az_u I 71 0 (-1 : Int32)) 71 1 (-1 : Int32)) 71 2 (0 : Int32)), J, R)) rfl hQ
set_option maxRecDepth 100000 in
set_option maxHeartbeats 4000000 in
theorem re_Sh_becomeHeart_61 {ex : az_X} {I : Nat → Nat → Int32} {J : Nat → Nat → Int64} {R : Nat → Nat → Option Nat} {a1 : Int32} {o : (Nat → Nat → Int32)} (h : rs_Sh_becomeHeart 61 I a1 = some o) {Q : Option Value → az_S → Prop} (hQ : Q none (97, o, J, R)) : az_E az_F ex 1 58 0 [.ref 61, .int a1] [] (97, I, J, R) Q := by
  unfold rs_Sh_becomeHeart at h
  refine az_E.sn 1 (pc' := 1) (L' := [.ref 61, .int a1]) (S' := [.ref 61]) (σ' := (97, I, J, R)) rfl ?_
  cases hx_2 : rs_Sh_becomeEmpty 61 I with
  | none => rw [hx_2] at h; cases h
  | some o =>
    rw [hx_2] at h
    obtain ⟨I_1, rfl⟩ : ∃ z, z = o := ⟨_, rfl⟩
    dsimp only at h
    refine az_E.call (d := 0) (k' := 57) (vs := [.ref 61]) (pc' := 4) (S' := []) (Q1 := fun v s => v = none ∧ s = (97, I_1, J, R)) rfl (az_E.deep (by decide) (re_Sh_becomeEmpty_61 (J := J) (R := R)  hx_2 ⟨rfl, rfl⟩)) (fun v s hq => ?_)
    obtain ⟨rfl, rfl⟩ := hq
    show az_E az_F ex 1 58 4 [.ref 61, .int a1] [] (97, I_1, J, R) _
    refine az_E.sn 3 (pc' := 9) (L' := [.ref 61, .int a1]) (S' := []) (σ' := (97, (az_u I_1 61 0 a1), J, R)) rfl ?_
    cases h
    exact az_E.ret (v := none) (σ' := (97, (az_u I_1 61 0 a1), J, R)) rfl hQ
set_option maxRecDepth 100000 in
set_option maxHeartbeats 4000000 in
theorem re_Sh_becomeHeart_63 {ex : az_X} {I : Nat → Nat → Int32} {J : Nat → Nat → Int64} {R : Nat → Nat → Option Nat} {a1 : Int32} {o : (Nat → Nat → Int32)} (h : rs_Sh_becomeHeart 63 I a1 = some o) {Q : Option Value → az_S → Prop} (hQ : Q none (97, o, J, R)) : az_E az_F ex 1 58 0 [.ref 63, .int a1] [] (97, I, J, R) Q := by
  unfold rs_Sh_becomeHeart at h
  refine az_E.sn 1 (pc' := 1) (L' := [.ref 63, .int a1]) (S' := [.ref 63]) (σ' := (97, I, J, R)) rfl ?_
  cases hx_2 : rs_Sh_becomeEmpty 63 I with
  | none => rw [hx_2] at h; cases h
  | some o =>
    rw [hx_2] at h
    obtain ⟨I_1, rfl⟩ : ∃ z, z = o := ⟨_, rfl⟩
    dsimp only at h
    refine az_E.call (d := 0) (k' := 57) (vs := [.ref 63]) (pc' := 4) (S' := []) (Q1 := fun v s => v = none ∧ s = (97, I_1, J, R)) rfl (az_E.deep (by decide) (re_Sh_becomeEmpty_63 (J := J) (R := R)  hx_2 ⟨rfl, rfl⟩)) (fun v s hq => ?_)
    obtain ⟨rfl, rfl⟩ := hq
    show az_E az_F ex 1 58 4 [.ref 63, .int a1] [] (97, I_1, J, R) _
    refine az_E.sn 3 (pc' := 9) (L' := [.ref 63, .int a1]) (S' := []) (σ' := (97, (az_u I_1 63 0 a1), J, R)) rfl ?_
    cases h
    exact az_E.ret (v := none) (σ' := (97, (az_u I_1 63 0 a1), J, R)) rfl hQ
set_option maxRecDepth 100000 in
set_option maxHeartbeats 4000000 in
theorem re_Sh_becomeHeart_65 {ex : az_X} {I : Nat → Nat → Int32} {J : Nat → Nat → Int64} {R : Nat → Nat → Option Nat} {a1 : Int32} {o : (Nat → Nat → Int32)} (h : rs_Sh_becomeHeart 65 I a1 = some o) {Q : Option Value → az_S → Prop} (hQ : Q none (97, o, J, R)) : az_E az_F ex 1 58 0 [.ref 65, .int a1] [] (97, I, J, R) Q := by
  unfold rs_Sh_becomeHeart at h
  refine az_E.sn 1 (pc' := 1) (L' := [.ref 65, .int a1]) (S' := [.ref 65]) (σ' := (97, I, J, R)) rfl ?_
  cases hx_2 : rs_Sh_becomeEmpty 65 I with
  | none => rw [hx_2] at h; cases h
  | some o =>
    rw [hx_2] at h
    obtain ⟨I_1, rfl⟩ : ∃ z, z = o := ⟨_, rfl⟩
    dsimp only at h
    refine az_E.call (d := 0) (k' := 57) (vs := [.ref 65]) (pc' := 4) (S' := []) (Q1 := fun v s => v = none ∧ s = (97, I_1, J, R)) rfl (az_E.deep (by decide) (re_Sh_becomeEmpty_65 (J := J) (R := R)  hx_2 ⟨rfl, rfl⟩)) (fun v s hq => ?_)
    obtain ⟨rfl, rfl⟩ := hq
    show az_E az_F ex 1 58 4 [.ref 65, .int a1] [] (97, I_1, J, R) _
    refine az_E.sn 3 (pc' := 9) (L' := [.ref 65, .int a1]) (S' := []) (σ' := (97, (az_u I_1 65 0 a1), J, R)) rfl ?_
    cases h
    exact az_E.ret (v := none) (σ' := (97, (az_u I_1 65 0 a1), J, R)) rfl hQ
set_option maxRecDepth 100000 in
set_option maxHeartbeats 4000000 in
theorem re_Sh_becomeHeart_67 {ex : az_X} {I : Nat → Nat → Int32} {J : Nat → Nat → Int64} {R : Nat → Nat → Option Nat} {a1 : Int32} {o : (Nat → Nat → Int32)} (h : rs_Sh_becomeHeart 67 I a1 = some o) {Q : Option Value → az_S → Prop} (hQ : Q none (97, o, J, R)) : az_E az_F ex 1 58 0 [.ref 67, .int a1] [] (97, I, J, R) Q := by
  unfold rs_Sh_becomeHeart at h
  refine az_E.sn 1 (pc' := 1) (L' := [.ref 67, .int a1]) (S' := [.ref 67]) (σ' := (97, I, J, R)) rfl ?_
  cases hx_2 : rs_Sh_becomeEmpty 67 I with
  | none => rw [hx_2] at h; cases h
  | some o =>
    rw [hx_2] at h
    obtain ⟨I_1, rfl⟩ : ∃ z, z = o := ⟨_, rfl⟩
    dsimp only at h
    refine az_E.call (d := 0) (k' := 57) (vs := [.ref 67]) (pc' := 4) (S' := []) (Q1 := fun v s => v = none ∧ s = (97, I_1, J, R)) rfl (az_E.deep (by decide) (re_Sh_becomeEmpty_67 (J := J) (R := R)  hx_2 ⟨rfl, rfl⟩)) (fun v s hq => ?_)
    obtain ⟨rfl, rfl⟩ := hq
    show az_E az_F ex 1 58 4 [.ref 67, .int a1] [] (97, I_1, J, R) _
    refine az_E.sn 3 (pc' := 9) (L' := [.ref 67, .int a1]) (S' := []) (σ' := (97, (az_u I_1 67 0 a1), J, R)) rfl ?_
    cases h
    exact az_E.ret (v := none) (σ' := (97, (az_u I_1 67 0 a1), J, R)) rfl hQ
set_option maxRecDepth 100000 in
set_option maxHeartbeats 4000000 in
theorem re_Sh_becomeHeart_69 {ex : az_X} {I : Nat → Nat → Int32} {J : Nat → Nat → Int64} {R : Nat → Nat → Option Nat} {a1 : Int32} {o : (Nat → Nat → Int32)} (h : rs_Sh_becomeHeart 69 I a1 = some o) {Q : Option Value → az_S → Prop} (hQ : Q none (97, o, J, R)) : az_E az_F ex 1 58 0 [.ref 69, .int a1] [] (97, I, J, R) Q := by
  unfold rs_Sh_becomeHeart at h
  refine az_E.sn 1 (pc' := 1) (L' := [.ref 69, .int a1]) (S' := [.ref 69]) (σ' := (97, I, J, R)) rfl ?_
  cases hx_2 : rs_Sh_becomeEmpty 69 I with
  | none => rw [hx_2] at h; cases h
  | some o =>
    rw [hx_2] at h
    obtain ⟨I_1, rfl⟩ : ∃ z, z = o := ⟨_, rfl⟩
    dsimp only at h
    refine az_E.call (d := 0) (k' := 57) (vs := [.ref 69]) (pc' := 4) (S' := []) (Q1 := fun v s => v = none ∧ s = (97, I_1, J, R)) rfl (az_E.deep (by decide) (re_Sh_becomeEmpty_69 (J := J) (R := R)  hx_2 ⟨rfl, rfl⟩)) (fun v s hq => ?_)
    obtain ⟨rfl, rfl⟩ := hq
    show az_E az_F ex 1 58 4 [.ref 69, .int a1] [] (97, I_1, J, R) _
    refine az_E.sn 3 (pc' := 9) (L' := [.ref 69, .int a1]) (S' := []) (σ' := (97, (az_u I_1 69 0 a1), J, R)) rfl ?_
    cases h
    exact az_E.ret (v := none) (σ' := (97, (az_u I_1 69 0 a1), J, R)) rfl hQ
set_option maxRecDepth 100000 in
set_option maxHeartbeats 4000000 in
theorem re_Sh_becomeHeart_71 {ex : az_X} {I : Nat → Nat → Int32} {J : Nat → Nat → Int64} {R : Nat → Nat → Option Nat} {a1 : Int32} {o : (Nat → Nat → Int32)} (h : rs_Sh_becomeHeart 71 I a1 = some o) {Q : Option Value → az_S → Prop} (hQ : Q none (97, o, J, R)) : az_E az_F ex 1 58 0 [.ref 71, .int a1] [] (97, I, J, R) Q := by
  unfold rs_Sh_becomeHeart at h
  refine az_E.sn 1 (pc' := 1) (L' := [.ref 71, .int a1]) (S' := [.ref 71]) (σ' := (97, I, J, R)) rfl ?_
  cases hx_2 : rs_Sh_becomeEmpty 71 I with
  | none => rw [hx_2] at h; cases h
  | some o =>
    rw [hx_2] at h
    obtain ⟨I_1, rfl⟩ : ∃ z, z = o := ⟨_, rfl⟩
    dsimp only at h
    refine az_E.call (d := 0) (k' := 57) (vs := [.ref 71]) (pc' := 4) (S' := []) (Q1 := fun v s => v = none ∧ s = (97, I_1, J, R)) rfl (az_E.deep (by decide) (re_Sh_becomeEmpty_71 (J := J) (R := R)  hx_2 ⟨rfl, rfl⟩)) (fun v s hq => ?_)
    obtain ⟨rfl, rfl⟩ := hq
    show az_E az_F ex 1 58 4 [.ref 71, .int a1] [] (97, I_1, J, R) _
    refine az_E.sn 3 (pc' := 9) (L' := [.ref 71, .int a1]) (S' := []) (σ' := (97, (az_u I_1 71 0 a1), J, R)) rfl ?_
    cases h
    exact az_E.ret (v := none) (σ' := (97, (az_u I_1 71 0 a1), J, R)) rfl hQ
set_option maxRecDepth 100000 in
set_option maxHeartbeats 4000000 in
theorem re_X_keep_36_61 {ex : az_X} {I : Nat → Nat → Int32} {J : Nat → Nat → Int64} {R : Nat → Nat → Option Nat} {x : Int32 × (Nat → Nat → Int32)} (h : rs_X_keep_36 61 I = some x) {Q : Option Value → az_S → Prop} (hQ : Q (some (.int x.1)) (97, x.2, J, R)) : az_E az_F ex 2 124 36 [.retAddr 0, .retAddr 0, .retAddr 0] [.ref 61] (97, I, J, R) Q := by
  unfold rs_X_keep_36 at h
  cases hx_7 : rs_Sh_becomeEmpty 61 I with
  | none => rw [hx_7] at h; cases h
  | some o =>
    rw [hx_7] at h
    obtain ⟨I_6, rfl⟩ : ∃ z, z = o := ⟨_, rfl⟩
    dsimp only at h
    refine az_E.call (d := 1) (k' := 57) (vs := [.ref 61]) (pc' := 39) (S' := []) (Q1 := fun v s => v = none ∧ s = (97, I_6, J, R)) rfl (az_E.deep (by decide) (re_Sh_becomeEmpty_61 (J := J) (R := R)  hx_7 ⟨rfl, rfl⟩)) (fun v s hq => ?_)
    obtain ⟨rfl, rfl⟩ := hq
    show az_E az_F ex 2 124 39 [.retAddr 0, .retAddr 0, .retAddr 0] [] (97, I_6, J, R) _
    refine az_E.sn 2 (pc' := 53) (L' := [.retAddr 0, .retAddr 0, .retAddr 0]) (S' := [.int (1 : Int32)]) (σ' := (97, I_6, J, R)) rfl ?_
    cases h
    exact az_E.ret (v := some (.int (1 : Int32))) (σ' := (97, I_6, J, R)) rfl hQ
set_option maxRecDepth 100000 in
set_option maxHeartbeats 4000000 in
theorem re_X_keep_36_63 {ex : az_X} {I : Nat → Nat → Int32} {J : Nat → Nat → Int64} {R : Nat → Nat → Option Nat} {x : Int32 × (Nat → Nat → Int32)} (h : rs_X_keep_36 63 I = some x) {Q : Option Value → az_S → Prop} (hQ : Q (some (.int x.1)) (97, x.2, J, R)) : az_E az_F ex 2 124 36 [.retAddr 0, .retAddr 0, .retAddr 0] [.ref 63] (97, I, J, R) Q := by
  unfold rs_X_keep_36 at h
  cases hx_9 : rs_Sh_becomeEmpty 63 I with
  | none => rw [hx_9] at h; cases h
  | some o =>
    rw [hx_9] at h
    obtain ⟨I_8, rfl⟩ : ∃ z, z = o := ⟨_, rfl⟩
    dsimp only at h
    refine az_E.call (d := 1) (k' := 57) (vs := [.ref 63]) (pc' := 39) (S' := []) (Q1 := fun v s => v = none ∧ s = (97, I_8, J, R)) rfl (az_E.deep (by decide) (re_Sh_becomeEmpty_63 (J := J) (R := R)  hx_9 ⟨rfl, rfl⟩)) (fun v s hq => ?_)
    obtain ⟨rfl, rfl⟩ := hq
    show az_E az_F ex 2 124 39 [.retAddr 0, .retAddr 0, .retAddr 0] [] (97, I_8, J, R) _
    refine az_E.sn 2 (pc' := 53) (L' := [.retAddr 0, .retAddr 0, .retAddr 0]) (S' := [.int (1 : Int32)]) (σ' := (97, I_8, J, R)) rfl ?_
    cases h
    exact az_E.ret (v := some (.int (1 : Int32))) (σ' := (97, I_8, J, R)) rfl hQ
set_option maxRecDepth 100000 in
set_option maxHeartbeats 4000000 in
theorem re_X_keep_36_65 {ex : az_X} {I : Nat → Nat → Int32} {J : Nat → Nat → Int64} {R : Nat → Nat → Option Nat} {x : Int32 × (Nat → Nat → Int32)} (h : rs_X_keep_36 65 I = some x) {Q : Option Value → az_S → Prop} (hQ : Q (some (.int x.1)) (97, x.2, J, R)) : az_E az_F ex 2 124 36 [.retAddr 0, .retAddr 0, .retAddr 0] [.ref 65] (97, I, J, R) Q := by
  unfold rs_X_keep_36 at h
  cases hx_11 : rs_Sh_becomeEmpty 65 I with
  | none => rw [hx_11] at h; cases h
  | some o =>
    rw [hx_11] at h
    obtain ⟨I_10, rfl⟩ : ∃ z, z = o := ⟨_, rfl⟩
    dsimp only at h
    refine az_E.call (d := 1) (k' := 57) (vs := [.ref 65]) (pc' := 39) (S' := []) (Q1 := fun v s => v = none ∧ s = (97, I_10, J, R)) rfl (az_E.deep (by decide) (re_Sh_becomeEmpty_65 (J := J) (R := R)  hx_11 ⟨rfl, rfl⟩)) (fun v s hq => ?_)
    obtain ⟨rfl, rfl⟩ := hq
    show az_E az_F ex 2 124 39 [.retAddr 0, .retAddr 0, .retAddr 0] [] (97, I_10, J, R) _
    refine az_E.sn 2 (pc' := 53) (L' := [.retAddr 0, .retAddr 0, .retAddr 0]) (S' := [.int (1 : Int32)]) (σ' := (97, I_10, J, R)) rfl ?_
    cases h
    exact az_E.ret (v := some (.int (1 : Int32))) (σ' := (97, I_10, J, R)) rfl hQ
set_option maxRecDepth 100000 in
set_option maxHeartbeats 4000000 in
theorem re_X_keep_36_67 {ex : az_X} {I : Nat → Nat → Int32} {J : Nat → Nat → Int64} {R : Nat → Nat → Option Nat} {x : Int32 × (Nat → Nat → Int32)} (h : rs_X_keep_36 67 I = some x) {Q : Option Value → az_S → Prop} (hQ : Q (some (.int x.1)) (97, x.2, J, R)) : az_E az_F ex 2 124 36 [.retAddr 0, .retAddr 0, .retAddr 0] [.ref 67] (97, I, J, R) Q := by
  unfold rs_X_keep_36 at h
  cases hx_13 : rs_Sh_becomeEmpty 67 I with
  | none => rw [hx_13] at h; cases h
  | some o =>
    rw [hx_13] at h
    obtain ⟨I_12, rfl⟩ : ∃ z, z = o := ⟨_, rfl⟩
    dsimp only at h
    refine az_E.call (d := 1) (k' := 57) (vs := [.ref 67]) (pc' := 39) (S' := []) (Q1 := fun v s => v = none ∧ s = (97, I_12, J, R)) rfl (az_E.deep (by decide) (re_Sh_becomeEmpty_67 (J := J) (R := R)  hx_13 ⟨rfl, rfl⟩)) (fun v s hq => ?_)
    obtain ⟨rfl, rfl⟩ := hq
    show az_E az_F ex 2 124 39 [.retAddr 0, .retAddr 0, .retAddr 0] [] (97, I_12, J, R) _
    refine az_E.sn 2 (pc' := 53) (L' := [.retAddr 0, .retAddr 0, .retAddr 0]) (S' := [.int (1 : Int32)]) (σ' := (97, I_12, J, R)) rfl ?_
    cases h
    exact az_E.ret (v := some (.int (1 : Int32))) (σ' := (97, I_12, J, R)) rfl hQ
set_option maxRecDepth 100000 in
set_option maxHeartbeats 4000000 in
theorem re_X_keep_36_69 {ex : az_X} {I : Nat → Nat → Int32} {J : Nat → Nat → Int64} {R : Nat → Nat → Option Nat} {x : Int32 × (Nat → Nat → Int32)} (h : rs_X_keep_36 69 I = some x) {Q : Option Value → az_S → Prop} (hQ : Q (some (.int x.1)) (97, x.2, J, R)) : az_E az_F ex 2 124 36 [.retAddr 0, .retAddr 0, .retAddr 0] [.ref 69] (97, I, J, R) Q := by
  unfold rs_X_keep_36 at h
  cases hx_15 : rs_Sh_becomeEmpty 69 I with
  | none => rw [hx_15] at h; cases h
  | some o =>
    rw [hx_15] at h
    obtain ⟨I_14, rfl⟩ : ∃ z, z = o := ⟨_, rfl⟩
    dsimp only at h
    refine az_E.call (d := 1) (k' := 57) (vs := [.ref 69]) (pc' := 39) (S' := []) (Q1 := fun v s => v = none ∧ s = (97, I_14, J, R)) rfl (az_E.deep (by decide) (re_Sh_becomeEmpty_69 (J := J) (R := R)  hx_15 ⟨rfl, rfl⟩)) (fun v s hq => ?_)
    obtain ⟨rfl, rfl⟩ := hq
    show az_E az_F ex 2 124 39 [.retAddr 0, .retAddr 0, .retAddr 0] [] (97, I_14, J, R) _
    refine az_E.sn 2 (pc' := 53) (L' := [.retAddr 0, .retAddr 0, .retAddr 0]) (S' := [.int (1 : Int32)]) (σ' := (97, I_14, J, R)) rfl ?_
    cases h
    exact az_E.ret (v := some (.int (1 : Int32))) (σ' := (97, I_14, J, R)) rfl hQ
set_option maxRecDepth 100000 in
set_option maxHeartbeats 4000000 in
theorem re_X_keep_36_71 {ex : az_X} {I : Nat → Nat → Int32} {J : Nat → Nat → Int64} {R : Nat → Nat → Option Nat} {x : Int32 × (Nat → Nat → Int32)} (h : rs_X_keep_36 71 I = some x) {Q : Option Value → az_S → Prop} (hQ : Q (some (.int x.1)) (97, x.2, J, R)) : az_E az_F ex 2 124 36 [.retAddr 0, .retAddr 0, .retAddr 0] [.ref 71] (97, I, J, R) Q := by
  unfold rs_X_keep_36 at h
  cases hx_17 : rs_Sh_becomeEmpty 71 I with
  | none => rw [hx_17] at h; cases h
  | some o =>
    rw [hx_17] at h
    obtain ⟨I_16, rfl⟩ : ∃ z, z = o := ⟨_, rfl⟩
    dsimp only at h
    refine az_E.call (d := 1) (k' := 57) (vs := [.ref 71]) (pc' := 39) (S' := []) (Q1 := fun v s => v = none ∧ s = (97, I_16, J, R)) rfl (az_E.deep (by decide) (re_Sh_becomeEmpty_71 (J := J) (R := R)  hx_17 ⟨rfl, rfl⟩)) (fun v s hq => ?_)
    obtain ⟨rfl, rfl⟩ := hq
    show az_E az_F ex 2 124 39 [.retAddr 0, .retAddr 0, .retAddr 0] [] (97, I_16, J, R) _
    refine az_E.sn 2 (pc' := 53) (L' := [.retAddr 0, .retAddr 0, .retAddr 0]) (S' := [.int (1 : Int32)]) (σ' := (97, I_16, J, R)) rfl ?_
    cases h
    exact az_E.ret (v := some (.int (1 : Int32))) (σ' := (97, I_16, J, R)) rfl hQ
set_option maxRecDepth 100000 in
set_option maxHeartbeats 4000000 in
theorem re_X_keep_48_61 {ex : az_X} {I : Nat → Nat → Int32} {J : Nat → Nat → Int64} {R : Nat → Nat → Option Nat} {v2 : Int32} {x : Int32 × (Nat → Nat → Int32)} (h : rs_X_keep_48 61 I v2 = some x) {Q : Option Value → az_S → Prop} (hQ : Q (some (.int x.1)) (97, x.2, J, R)) : az_E az_F ex 2 124 48 [.retAddr 0, .retAddr 0, .int v2] [.ref 61] (97, I, J, R) Q := by
  unfold rs_X_keep_48 at h
  refine az_E.sn 1 (pc' := 49) (L' := [.retAddr 0, .retAddr 0, .int v2]) (S' := [.int v2, .ref 61]) (σ' := (97, I, J, R)) rfl ?_
  cases hx_20 : rs_Sh_becomeHeart 61 I v2 with
  | none => rw [hx_20] at h; cases h
  | some o =>
    rw [hx_20] at h
    obtain ⟨I_19, rfl⟩ : ∃ z, z = o := ⟨_, rfl⟩
    dsimp only at h
    refine az_E.call (d := 1) (k' := 58) (vs := [.ref 61, .int v2]) (pc' := 52) (S' := []) (Q1 := fun v s => v = none ∧ s = (97, I_19, J, R)) rfl (az_E.deep (by decide) (re_Sh_becomeHeart_61 (J := J) (R := R)  hx_20 ⟨rfl, rfl⟩)) (fun v s hq => ?_)
    obtain ⟨rfl, rfl⟩ := hq
    show az_E az_F ex 2 124 52 [.retAddr 0, .retAddr 0, .int v2] [] (97, I_19, J, R) _
    refine az_E.sn 1 (pc' := 53) (L' := [.retAddr 0, .retAddr 0, .int v2]) (S' := [.int (1 : Int32)]) (σ' := (97, I_19, J, R)) rfl ?_
    cases h
    exact az_E.ret (v := some (.int (1 : Int32))) (σ' := (97, I_19, J, R)) rfl hQ
set_option maxRecDepth 100000 in
set_option maxHeartbeats 4000000 in
theorem re_X_keep_48_63 {ex : az_X} {I : Nat → Nat → Int32} {J : Nat → Nat → Int64} {R : Nat → Nat → Option Nat} {v2 : Int32} {x : Int32 × (Nat → Nat → Int32)} (h : rs_X_keep_48 63 I v2 = some x) {Q : Option Value → az_S → Prop} (hQ : Q (some (.int x.1)) (97, x.2, J, R)) : az_E az_F ex 2 124 48 [.retAddr 0, .retAddr 0, .int v2] [.ref 63] (97, I, J, R) Q := by
  unfold rs_X_keep_48 at h
  refine az_E.sn 1 (pc' := 49) (L' := [.retAddr 0, .retAddr 0, .int v2]) (S' := [.int v2, .ref 63]) (σ' := (97, I, J, R)) rfl ?_
  cases hx_22 : rs_Sh_becomeHeart 63 I v2 with
  | none => rw [hx_22] at h; cases h
  | some o =>
    rw [hx_22] at h
    obtain ⟨I_21, rfl⟩ : ∃ z, z = o := ⟨_, rfl⟩
    dsimp only at h
    refine az_E.call (d := 1) (k' := 58) (vs := [.ref 63, .int v2]) (pc' := 52) (S' := []) (Q1 := fun v s => v = none ∧ s = (97, I_21, J, R)) rfl (az_E.deep (by decide) (re_Sh_becomeHeart_63 (J := J) (R := R)  hx_22 ⟨rfl, rfl⟩)) (fun v s hq => ?_)
    obtain ⟨rfl, rfl⟩ := hq
    show az_E az_F ex 2 124 52 [.retAddr 0, .retAddr 0, .int v2] [] (97, I_21, J, R) _
    refine az_E.sn 1 (pc' := 53) (L' := [.retAddr 0, .retAddr 0, .int v2]) (S' := [.int (1 : Int32)]) (σ' := (97, I_21, J, R)) rfl ?_
    cases h
    exact az_E.ret (v := some (.int (1 : Int32))) (σ' := (97, I_21, J, R)) rfl hQ
set_option maxRecDepth 100000 in
set_option maxHeartbeats 4000000 in
theorem re_X_keep_48_65 {ex : az_X} {I : Nat → Nat → Int32} {J : Nat → Nat → Int64} {R : Nat → Nat → Option Nat} {v2 : Int32} {x : Int32 × (Nat → Nat → Int32)} (h : rs_X_keep_48 65 I v2 = some x) {Q : Option Value → az_S → Prop} (hQ : Q (some (.int x.1)) (97, x.2, J, R)) : az_E az_F ex 2 124 48 [.retAddr 0, .retAddr 0, .int v2] [.ref 65] (97, I, J, R) Q := by
  unfold rs_X_keep_48 at h
  refine az_E.sn 1 (pc' := 49) (L' := [.retAddr 0, .retAddr 0, .int v2]) (S' := [.int v2, .ref 65]) (σ' := (97, I, J, R)) rfl ?_
  cases hx_24 : rs_Sh_becomeHeart 65 I v2 with
  | none => rw [hx_24] at h; cases h
  | some o =>
    rw [hx_24] at h
    obtain ⟨I_23, rfl⟩ : ∃ z, z = o := ⟨_, rfl⟩
    dsimp only at h
    refine az_E.call (d := 1) (k' := 58) (vs := [.ref 65, .int v2]) (pc' := 52) (S' := []) (Q1 := fun v s => v = none ∧ s = (97, I_23, J, R)) rfl (az_E.deep (by decide) (re_Sh_becomeHeart_65 (J := J) (R := R)  hx_24 ⟨rfl, rfl⟩)) (fun v s hq => ?_)
    obtain ⟨rfl, rfl⟩ := hq
    show az_E az_F ex 2 124 52 [.retAddr 0, .retAddr 0, .int v2] [] (97, I_23, J, R) _
    refine az_E.sn 1 (pc' := 53) (L' := [.retAddr 0, .retAddr 0, .int v2]) (S' := [.int (1 : Int32)]) (σ' := (97, I_23, J, R)) rfl ?_
    cases h
    exact az_E.ret (v := some (.int (1 : Int32))) (σ' := (97, I_23, J, R)) rfl hQ
set_option maxRecDepth 100000 in
set_option maxHeartbeats 4000000 in
theorem re_X_keep_48_67 {ex : az_X} {I : Nat → Nat → Int32} {J : Nat → Nat → Int64} {R : Nat → Nat → Option Nat} {v2 : Int32} {x : Int32 × (Nat → Nat → Int32)} (h : rs_X_keep_48 67 I v2 = some x) {Q : Option Value → az_S → Prop} (hQ : Q (some (.int x.1)) (97, x.2, J, R)) : az_E az_F ex 2 124 48 [.retAddr 0, .retAddr 0, .int v2] [.ref 67] (97, I, J, R) Q := by
  unfold rs_X_keep_48 at h
  refine az_E.sn 1 (pc' := 49) (L' := [.retAddr 0, .retAddr 0, .int v2]) (S' := [.int v2, .ref 67]) (σ' := (97, I, J, R)) rfl ?_
  cases hx_26 : rs_Sh_becomeHeart 67 I v2 with
  | none => rw [hx_26] at h; cases h
  | some o =>
    rw [hx_26] at h
    obtain ⟨I_25, rfl⟩ : ∃ z, z = o := ⟨_, rfl⟩
    dsimp only at h
    refine az_E.call (d := 1) (k' := 58) (vs := [.ref 67, .int v2]) (pc' := 52) (S' := []) (Q1 := fun v s => v = none ∧ s = (97, I_25, J, R)) rfl (az_E.deep (by decide) (re_Sh_becomeHeart_67 (J := J) (R := R)  hx_26 ⟨rfl, rfl⟩)) (fun v s hq => ?_)
    obtain ⟨rfl, rfl⟩ := hq
    show az_E az_F ex 2 124 52 [.retAddr 0, .retAddr 0, .int v2] [] (97, I_25, J, R) _
    refine az_E.sn 1 (pc' := 53) (L' := [.retAddr 0, .retAddr 0, .int v2]) (S' := [.int (1 : Int32)]) (σ' := (97, I_25, J, R)) rfl ?_
    cases h
    exact az_E.ret (v := some (.int (1 : Int32))) (σ' := (97, I_25, J, R)) rfl hQ
set_option maxRecDepth 100000 in
set_option maxHeartbeats 4000000 in
theorem re_X_keep_48_69 {ex : az_X} {I : Nat → Nat → Int32} {J : Nat → Nat → Int64} {R : Nat → Nat → Option Nat} {v2 : Int32} {x : Int32 × (Nat → Nat → Int32)} (h : rs_X_keep_48 69 I v2 = some x) {Q : Option Value → az_S → Prop} (hQ : Q (some (.int x.1)) (97, x.2, J, R)) : az_E az_F ex 2 124 48 [.retAddr 0, .retAddr 0, .int v2] [.ref 69] (97, I, J, R) Q := by
  unfold rs_X_keep_48 at h
  refine az_E.sn 1 (pc' := 49) (L' := [.retAddr 0, .retAddr 0, .int v2]) (S' := [.int v2, .ref 69]) (σ' := (97, I, J, R)) rfl ?_
  cases hx_28 : rs_Sh_becomeHeart 69 I v2 with
  | none => rw [hx_28] at h; cases h
  | some o =>
    rw [hx_28] at h
    obtain ⟨I_27, rfl⟩ : ∃ z, z = o := ⟨_, rfl⟩
    dsimp only at h
    refine az_E.call (d := 1) (k' := 58) (vs := [.ref 69, .int v2]) (pc' := 52) (S' := []) (Q1 := fun v s => v = none ∧ s = (97, I_27, J, R)) rfl (az_E.deep (by decide) (re_Sh_becomeHeart_69 (J := J) (R := R)  hx_28 ⟨rfl, rfl⟩)) (fun v s hq => ?_)
    obtain ⟨rfl, rfl⟩ := hq
    show az_E az_F ex 2 124 52 [.retAddr 0, .retAddr 0, .int v2] [] (97, I_27, J, R) _
    refine az_E.sn 1 (pc' := 53) (L' := [.retAddr 0, .retAddr 0, .int v2]) (S' := [.int (1 : Int32)]) (σ' := (97, I_27, J, R)) rfl ?_
    cases h
    exact az_E.ret (v := some (.int (1 : Int32))) (σ' := (97, I_27, J, R)) rfl hQ
set_option maxRecDepth 100000 in
set_option maxHeartbeats 4000000 in
theorem re_X_keep_48_71 {ex : az_X} {I : Nat → Nat → Int32} {J : Nat → Nat → Int64} {R : Nat → Nat → Option Nat} {v2 : Int32} {x : Int32 × (Nat → Nat → Int32)} (h : rs_X_keep_48 71 I v2 = some x) {Q : Option Value → az_S → Prop} (hQ : Q (some (.int x.1)) (97, x.2, J, R)) : az_E az_F ex 2 124 48 [.retAddr 0, .retAddr 0, .int v2] [.ref 71] (97, I, J, R) Q := by
  unfold rs_X_keep_48 at h
  refine az_E.sn 1 (pc' := 49) (L' := [.retAddr 0, .retAddr 0, .int v2]) (S' := [.int v2, .ref 71]) (σ' := (97, I, J, R)) rfl ?_
  cases hx_30 : rs_Sh_becomeHeart 71 I v2 with
  | none => rw [hx_30] at h; cases h
  | some o =>
    rw [hx_30] at h
    obtain ⟨I_29, rfl⟩ : ∃ z, z = o := ⟨_, rfl⟩
    dsimp only at h
    refine az_E.call (d := 1) (k' := 58) (vs := [.ref 71, .int v2]) (pc' := 52) (S' := []) (Q1 := fun v s => v = none ∧ s = (97, I_29, J, R)) rfl (az_E.deep (by decide) (re_Sh_becomeHeart_71 (J := J) (R := R)  hx_30 ⟨rfl, rfl⟩)) (fun v s hq => ?_)
    obtain ⟨rfl, rfl⟩ := hq
    show az_E az_F ex 2 124 52 [.retAddr 0, .retAddr 0, .int v2] [] (97, I_29, J, R) _
    refine az_E.sn 1 (pc' := 53) (L' := [.retAddr 0, .retAddr 0, .int v2]) (S' := [.int (1 : Int32)]) (σ' := (97, I_29, J, R)) rfl ?_
    cases h
    exact az_E.ret (v := some (.int (1 : Int32))) (σ' := (97, I_29, J, R)) rfl hQ
set_option maxRecDepth 100000 in
set_option maxHeartbeats 4000000 in
theorem re_X_keep_25 {ex : az_X} {I : Nat → Nat → Int32} {J : Nat → Nat → Int64} {R : Nat → Nat → Option Nat} {v1 : Int32} {v2 : Int32} {x : Int32 × (Nat → Nat → Int32)} (h : rs_X_keep_25 I v1 v2 = some x) {Q : Option Value → az_S → Prop} (hQ : Q (some (.int x.1)) (97, x.2, J, R)) : az_E az_F ex 2 124 25 [.ref 3, .int v1, .int v2] [] (97, I, J, R) Q := by
  unfold rs_X_keep_25 at h
  refine az_E.sn 2 (pc' := 27) (L' := [.ref 3, .int v1, .int v2]) (S' := [.int (-1 : Int32), .int v2]) (σ' := (97, I, J, R)) rfl ?_
  refine az_E.br (c := v2 = (-1 : Int32)) (tt := 30) (ff := 42) (L' := [.ref 3, .int v1, .int v2]) (S' := []) (σ' := (97, I, J, R)) rfl (fun hc_4 => ?_) (fun hc_4 => ?_)
  · rw [if_pos hc_4] at h
    refine az_E.sn 3 (pc' := 35) (L' := [.ref 3, .int v1, .int v2]) (S' := [.int v1, .ref 58]) (σ' := (97, I, J, R)) rfl ?_
    by_cases hc_5 : v1 < 0 ∨ 6 ≤ v1.toNatClampNeg
    · rw [if_pos hc_5] at h; cases h
    · rw [if_neg hc_5] at h
      rcases az_six hc_5 with ehc_5 | ehc_5 | ehc_5 | ehc_5 | ehc_5 | ehc_5
      · rw [ehc_5] at h ⊢
        refine az_E.ov (pc' := 36) (L' := [.ref 3, .int (0 : Int32), .int v2]) (S' := []) (σ' := (97, I, J, R)) (x := .ref 61) (o := az_aa az_F (97, I, J, R) 58 (0 : Int32)) rfl rfl ?_
        exact az_E.forget (L := [.retAddr 0, .retAddr 0, .retAddr 0]) ⟨trivial, trivial, trivial, trivial⟩ (re_X_keep_36_61 (I := I) (J := J) (R := R)  h hQ)
      · rw [ehc_5] at h ⊢
        refine az_E.ov (pc' := 36) (L' := [.ref 3, .int (1 : Int32), .int v2]) (S' := []) (σ' := (97, I, J, R)) (x := .ref 63) (o := az_aa az_F (97, I, J, R) 58 (1 : Int32)) rfl rfl ?_
        exact az_E.forget (L := [.retAddr 0, .retAddr 0, .retAddr 0]) ⟨trivial, trivial, trivial, trivial⟩ (re_X_keep_36_63 (I := I) (J := J) (R := R)  h hQ)
      · rw [ehc_5] at h ⊢
        refine az_E.ov (pc' := 36) (L' := [.ref 3, .int (2 : Int32), .int v2]) (S' := []) (σ' := (97, I, J, R)) (x := .ref 65) (o := az_aa az_F (97, I, J, R) 58 (2 : Int32)) rfl rfl ?_
        exact az_E.forget (L := [.retAddr 0, .retAddr 0, .retAddr 0]) ⟨trivial, trivial, trivial, trivial⟩ (re_X_keep_36_65 (I := I) (J := J) (R := R)  h hQ)
      · rw [ehc_5] at h ⊢
        refine az_E.ov (pc' := 36) (L' := [.ref 3, .int (3 : Int32), .int v2]) (S' := []) (σ' := (97, I, J, R)) (x := .ref 67) (o := az_aa az_F (97, I, J, R) 58 (3 : Int32)) rfl rfl ?_
        exact az_E.forget (L := [.retAddr 0, .retAddr 0, .retAddr 0]) ⟨trivial, trivial, trivial, trivial⟩ (re_X_keep_36_67 (I := I) (J := J) (R := R)  h hQ)
      · rw [ehc_5] at h ⊢
        refine az_E.ov (pc' := 36) (L' := [.ref 3, .int (4 : Int32), .int v2]) (S' := []) (σ' := (97, I, J, R)) (x := .ref 69) (o := az_aa az_F (97, I, J, R) 58 (4 : Int32)) rfl rfl ?_
        exact az_E.forget (L := [.retAddr 0, .retAddr 0, .retAddr 0]) ⟨trivial, trivial, trivial, trivial⟩ (re_X_keep_36_69 (I := I) (J := J) (R := R)  h hQ)
      · rw [ehc_5] at h ⊢
        refine az_E.ov (pc' := 36) (L' := [.ref 3, .int (5 : Int32), .int v2]) (S' := []) (σ' := (97, I, J, R)) (x := .ref 71) (o := az_aa az_F (97, I, J, R) 58 (5 : Int32)) rfl rfl ?_
        exact az_E.forget (L := [.retAddr 0, .retAddr 0, .retAddr 0]) ⟨trivial, trivial, trivial, trivial⟩ (re_X_keep_36_71 (I := I) (J := J) (R := R)  h hQ)
  · rw [if_neg hc_4] at h
    refine az_E.sn 3 (pc' := 47) (L' := [.ref 3, .int v1, .int v2]) (S' := [.int v1, .ref 58]) (σ' := (97, I, J, R)) rfl ?_
    by_cases hc_18 : v1 < 0 ∨ 6 ≤ v1.toNatClampNeg
    · rw [if_pos hc_18] at h; cases h
    · rw [if_neg hc_18] at h
      rcases az_six hc_18 with ehc_18 | ehc_18 | ehc_18 | ehc_18 | ehc_18 | ehc_18
      · rw [ehc_18] at h ⊢
        refine az_E.ov (pc' := 48) (L' := [.ref 3, .int (0 : Int32), .int v2]) (S' := []) (σ' := (97, I, J, R)) (x := .ref 61) (o := az_aa az_F (97, I, J, R) 58 (0 : Int32)) rfl rfl ?_
        exact az_E.forget (L := [.retAddr 0, .retAddr 0, .int v2]) ⟨trivial, trivial, rfl, trivial⟩ (re_X_keep_48_61 (I := I) (J := J) (R := R)  h hQ)
      · rw [ehc_18] at h ⊢
        refine az_E.ov (pc' := 48) (L' := [.ref 3, .int (1 : Int32), .int v2]) (S' := []) (σ' := (97, I, J, R)) (x := .ref 63) (o := az_aa az_F (97, I, J, R) 58 (1 : Int32)) rfl rfl ?_
        exact az_E.forget (L := [.retAddr 0, .retAddr 0, .int v2]) ⟨trivial, trivial, rfl, trivial⟩ (re_X_keep_48_63 (I := I) (J := J) (R := R)  h hQ)
      · rw [ehc_18] at h ⊢
        refine az_E.ov (pc' := 48) (L' := [.ref 3, .int (2 : Int32), .int v2]) (S' := []) (σ' := (97, I, J, R)) (x := .ref 65) (o := az_aa az_F (97, I, J, R) 58 (2 : Int32)) rfl rfl ?_
        exact az_E.forget (L := [.retAddr 0, .retAddr 0, .int v2]) ⟨trivial, trivial, rfl, trivial⟩ (re_X_keep_48_65 (I := I) (J := J) (R := R)  h hQ)
      · rw [ehc_18] at h ⊢
        refine az_E.ov (pc' := 48) (L' := [.ref 3, .int (3 : Int32), .int v2]) (S' := []) (σ' := (97, I, J, R)) (x := .ref 67) (o := az_aa az_F (97, I, J, R) 58 (3 : Int32)) rfl rfl ?_
        exact az_E.forget (L := [.retAddr 0, .retAddr 0, .int v2]) ⟨trivial, trivial, rfl, trivial⟩ (re_X_keep_48_67 (I := I) (J := J) (R := R)  h hQ)
      · rw [ehc_18] at h ⊢
        refine az_E.ov (pc' := 48) (L' := [.ref 3, .int (4 : Int32), .int v2]) (S' := []) (σ' := (97, I, J, R)) (x := .ref 69) (o := az_aa az_F (97, I, J, R) 58 (4 : Int32)) rfl rfl ?_
        exact az_E.forget (L := [.retAddr 0, .retAddr 0, .int v2]) ⟨trivial, trivial, rfl, trivial⟩ (re_X_keep_48_69 (I := I) (J := J) (R := R)  h hQ)
      · rw [ehc_18] at h ⊢
        refine az_E.ov (pc' := 48) (L' := [.ref 3, .int (5 : Int32), .int v2]) (S' := []) (σ' := (97, I, J, R)) (x := .ref 71) (o := az_aa az_F (97, I, J, R) 58 (5 : Int32)) rfl rfl ?_
        exact az_E.forget (L := [.retAddr 0, .retAddr 0, .int v2]) ⟨trivial, trivial, rfl, trivial⟩ (re_X_keep_48_71 (I := I) (J := J) (R := R)  h hQ)
set_option maxRecDepth 100000 in
set_option maxHeartbeats 4000000 in
theorem re_X_keep {ex : az_X} {I : Nat → Nat → Int32} {J : Nat → Nat → Int64} {R : Nat → Nat → Option Nat} {a1 : Int32} {a2 : Int32} {o : Int32 × (Nat → Nat → Int32)} (h : rs_X_keep I a1 a2 = some o) {Q : Option Value → az_S → Prop} (hQ : Q (some (.int o.1)) (97, o.2, J, R)) : az_E az_F ex 2 124 0 [.ref 3, .int a1, .int a2] [] (97, I, J, R) Q := by
  unfold rs_X_keep at h
  refine az_E.sn 1 (pc' := 1) (L' := [.ref 3, .int a1, .int a2]) (S' := [.int a1]) (σ' := (97, I, J, R)) rfl ?_
  refine az_E.call (d := 1) (k' := 137) (vs := [.int a1]) (pc' := 4) (S' := []) rfl ?_ (fun _ _ hq => hq)
  show az_E az_F ex 1 137 0 [.int a1] [] (97, I, J, R) _
  refine az_E.sn 3 (pc' := 3) (L' := [.int a1]) (S' := [.int (5 : Int32), .int (0 : Int32), .int a1]) (σ' := (97, I, J, R)) rfl ?_
  refine az_E.call (d := 0) (k' := 131) (vs := [.int a1, .int (0 : Int32), .int (5 : Int32)]) (pc' := 6) (S' := []) rfl ?_ (fun _ _ hq => hq)
  show az_E az_F ex 0 131 0 [.int a1, .int (0 : Int32), .int (5 : Int32)] [] (97, I, J, R) _
  refine az_E.sn 2 (pc' := 2) (L' := [.int a1, .int (0 : Int32), .int (5 : Int32)]) (S' := [.int (0 : Int32), .int a1]) (σ' := (97, I, J, R)) rfl ?_
  refine az_E.br (c := a1 < (0 : Int32)) (tt := 14) (ff := 5) (L' := [.int a1, .int (0 : Int32), .int (5 : Int32)]) (S' := []) (σ' := (97, I, J, R)) rfl (fun hc_1 => ?_) (fun hc_1 => ?_)
  · rw [if_pos hc_1] at h
    refine az_E.sn 1 (pc' := 15) (L' := [.int a1, .int (0 : Int32), .int (5 : Int32)]) (S' := [.int (0 : Int32)]) (σ' := (97, I, J, R)) rfl ?_
    refine az_E.ret (v := some (.int (0 : Int32))) (σ' := (97, I, J, R)) rfl ?_
    show az_E az_F ex 1 137 6 [.int a1] [.int (0 : Int32)] (97, I, J, R) _
    refine az_E.ret (v := some (.int (0 : Int32))) (σ' := (97, I, J, R)) rfl ?_
    show az_E az_F ex 2 124 4 [.ref 3, .int a1, .int a2] [.int (0 : Int32)] (97, I, J, R) _
    refine az_E.br (c := (0 : Int32) = 0) (tt := 23) (ff := 7) (L' := [.ref 3, .int a1, .int a2]) (S' := []) (σ' := (97, I, J, R)) rfl (fun _ => ?_) (fun hn => absurd (by decide) hn)
    refine az_E.sn 1 (pc' := 24) (L' := [.ref 3, .int a1, .int a2]) (S' := [.int (-1 : Int32)]) (σ' := (97, I, J, R)) rfl ?_
    cases h
    exact az_E.ret (v := some (.int (-1 : Int32))) (σ' := (97, I, J, R)) rfl hQ
  · rw [if_neg hc_1] at h
    refine az_E.sn 2 (pc' := 7) (L' := [.int a1, .int (0 : Int32), .int (5 : Int32)]) (S' := [.int (5 : Int32), .int a1]) (σ' := (97, I, J, R)) rfl ?_
    refine az_E.br (c := (5 : Int32) < a1) (tt := 14) (ff := 10) (L' := [.int a1, .int (0 : Int32), .int (5 : Int32)]) (S' := []) (σ' := (97, I, J, R)) rfl (fun hc_2 => ?_) (fun hc_2 => ?_)
    · rw [if_pos hc_2] at h
      refine az_E.sn 1 (pc' := 15) (L' := [.int a1, .int (0 : Int32), .int (5 : Int32)]) (S' := [.int (0 : Int32)]) (σ' := (97, I, J, R)) rfl ?_
      refine az_E.ret (v := some (.int (0 : Int32))) (σ' := (97, I, J, R)) rfl ?_
      show az_E az_F ex 1 137 6 [.int a1] [.int (0 : Int32)] (97, I, J, R) _
      refine az_E.ret (v := some (.int (0 : Int32))) (σ' := (97, I, J, R)) rfl ?_
      show az_E az_F ex 2 124 4 [.ref 3, .int a1, .int a2] [.int (0 : Int32)] (97, I, J, R) _
      refine az_E.br (c := (0 : Int32) = 0) (tt := 23) (ff := 7) (L' := [.ref 3, .int a1, .int a2]) (S' := []) (σ' := (97, I, J, R)) rfl (fun _ => ?_) (fun hn => absurd (by decide) hn)
      refine az_E.sn 1 (pc' := 24) (L' := [.ref 3, .int a1, .int a2]) (S' := [.int (-1 : Int32)]) (σ' := (97, I, J, R)) rfl ?_
      cases h
      exact az_E.ret (v := some (.int (-1 : Int32))) (σ' := (97, I, J, R)) rfl hQ
    · rw [if_neg hc_2] at h
      refine az_E.sn 2 (pc' := 15) (L' := [.int a1, .int (0 : Int32), .int (5 : Int32)]) (S' := [.int (1 : Int32)]) (σ' := (97, I, J, R)) rfl ?_
      refine az_E.ret (v := some (.int (1 : Int32))) (σ' := (97, I, J, R)) rfl ?_
      show az_E az_F ex 1 137 6 [.int a1] [.int (1 : Int32)] (97, I, J, R) _
      refine az_E.ret (v := some (.int (1 : Int32))) (σ' := (97, I, J, R)) rfl ?_
      show az_E az_F ex 2 124 4 [.ref 3, .int a1, .int a2] [.int (1 : Int32)] (97, I, J, R) _
      refine az_E.br (c := (1 : Int32) = 0) (tt := 23) (ff := 7) (L' := [.ref 3, .int a1, .int a2]) (S' := []) (σ' := (97, I, J, R)) rfl (fun hn => absurd hn (by decide)) (fun _ => ?_)
      refine az_E.sn 2 (pc' := 9) (L' := [.ref 3, .int a1, .int a2]) (S' := [.int (-1 : Int32), .int a2]) (σ' := (97, I, J, R)) rfl ?_
      refine az_E.br (c := a2 = (-1 : Int32)) (tt := 25) (ff := 12) (L' := [.ref 3, .int a1, .int a2]) (S' := []) (σ' := (97, I, J, R)) rfl (fun hc_3 => ?_) (fun hc_3 => ?_)
      · rw [if_pos hc_3] at h
        exact az_E.forget (L := [.ref 3, .int a1, .int a2]) ⟨rfl, rfl, rfl, trivial⟩ (re_X_keep_25 (I := I) (J := J) (R := R)  h hQ)
      · rw [if_neg hc_3] at h
        refine az_E.sn 3 (pc' := 17) (L' := [.ref 3, .int a1, .int a2]) (S' := [.int a2, .ref 55]) (σ' := (97, I, J, R)) rfl ?_
        refine az_E.call (d := 1) (k' := 2) (vs := [.ref 55, .int a2]) (pc' := 20) (S' := []) rfl ?_ (fun _ _ hq => hq)
        show az_E az_F ex 1 2 0 [.ref 55, .int a2] [] (97, I, J, R) _
        refine az_E.sn 6 (pc' := 8) (L' := [.ref 55, .int a2]) (S' := [.int ((I 55 1) - (1 : Int32)), .int (0 : Int32), .int a2]) (σ' := (97, I, J, R)) rfl ?_
        refine az_E.call (d := 0) (k' := 131) (vs := [.int a2, .int (0 : Int32), .int ((I 55 1) - (1 : Int32))]) (pc' := 11) (S' := []) rfl ?_ (fun _ _ hq => hq)
        show az_E az_F ex 0 131 0 [.int a2, .int (0 : Int32), .int ((I 55 1) - (1 : Int32))] [] (97, I, J, R) _
        refine az_E.sn 2 (pc' := 2) (L' := [.int a2, .int (0 : Int32), .int ((I 55 1) - (1 : Int32))]) (S' := [.int (0 : Int32), .int a2]) (σ' := (97, I, J, R)) rfl ?_
        refine az_E.br (c := a2 < (0 : Int32)) (tt := 14) (ff := 5) (L' := [.int a2, .int (0 : Int32), .int ((I 55 1) - (1 : Int32))]) (S' := []) (σ' := (97, I, J, R)) rfl (fun hc_31 => ?_) (fun hc_31 => ?_)
        · rw [if_pos hc_31] at h
          refine az_E.sn 1 (pc' := 15) (L' := [.int a2, .int (0 : Int32), .int ((I 55 1) - (1 : Int32))]) (S' := [.int (0 : Int32)]) (σ' := (97, I, J, R)) rfl ?_
          refine az_E.ret (v := some (.int (0 : Int32))) (σ' := (97, I, J, R)) rfl ?_
          show az_E az_F ex 1 2 11 [.ref 55, .int a2] [.int (0 : Int32)] (97, I, J, R) _
          refine az_E.ret (v := some (.int (0 : Int32))) (σ' := (97, I, J, R)) rfl ?_
          show az_E az_F ex 2 124 20 [.ref 3, .int a1, .int a2] [.int (0 : Int32)] (97, I, J, R) _
          refine az_E.br (c := (0 : Int32) = 0) (tt := 23) (ff := 25) (L' := [.ref 3, .int a1, .int a2]) (S' := []) (σ' := (97, I, J, R)) rfl (fun _ => ?_) (fun hn => absurd (by decide) hn)
          refine az_E.sn 1 (pc' := 24) (L' := [.ref 3, .int a1, .int a2]) (S' := [.int (-1 : Int32)]) (σ' := (97, I, J, R)) rfl ?_
          cases h
          exact az_E.ret (v := some (.int (-1 : Int32))) (σ' := (97, I, J, R)) rfl hQ
        · rw [if_neg hc_31] at h
          refine az_E.sn 2 (pc' := 7) (L' := [.int a2, .int (0 : Int32), .int ((I 55 1) - (1 : Int32))]) (S' := [.int ((I 55 1) - (1 : Int32)), .int a2]) (σ' := (97, I, J, R)) rfl ?_
          refine az_E.br (c := ((I 55 1) - (1 : Int32)) < a2) (tt := 14) (ff := 10) (L' := [.int a2, .int (0 : Int32), .int ((I 55 1) - (1 : Int32))]) (S' := []) (σ' := (97, I, J, R)) rfl (fun hc_32 => ?_) (fun hc_32 => ?_)
          · rw [if_pos hc_32] at h
            refine az_E.sn 1 (pc' := 15) (L' := [.int a2, .int (0 : Int32), .int ((I 55 1) - (1 : Int32))]) (S' := [.int (0 : Int32)]) (σ' := (97, I, J, R)) rfl ?_
            refine az_E.ret (v := some (.int (0 : Int32))) (σ' := (97, I, J, R)) rfl ?_
            show az_E az_F ex 1 2 11 [.ref 55, .int a2] [.int (0 : Int32)] (97, I, J, R) _
            refine az_E.ret (v := some (.int (0 : Int32))) (σ' := (97, I, J, R)) rfl ?_
            show az_E az_F ex 2 124 20 [.ref 3, .int a1, .int a2] [.int (0 : Int32)] (97, I, J, R) _
            refine az_E.br (c := (0 : Int32) = 0) (tt := 23) (ff := 25) (L' := [.ref 3, .int a1, .int a2]) (S' := []) (σ' := (97, I, J, R)) rfl (fun _ => ?_) (fun hn => absurd (by decide) hn)
            refine az_E.sn 1 (pc' := 24) (L' := [.ref 3, .int a1, .int a2]) (S' := [.int (-1 : Int32)]) (σ' := (97, I, J, R)) rfl ?_
            cases h
            exact az_E.ret (v := some (.int (-1 : Int32))) (σ' := (97, I, J, R)) rfl hQ
          · rw [if_neg hc_32] at h
            refine az_E.sn 2 (pc' := 15) (L' := [.int a2, .int (0 : Int32), .int ((I 55 1) - (1 : Int32))]) (S' := [.int (1 : Int32)]) (σ' := (97, I, J, R)) rfl ?_
            refine az_E.ret (v := some (.int (1 : Int32))) (σ' := (97, I, J, R)) rfl ?_
            show az_E az_F ex 1 2 11 [.ref 55, .int a2] [.int (1 : Int32)] (97, I, J, R) _
            refine az_E.ret (v := some (.int (1 : Int32))) (σ' := (97, I, J, R)) rfl ?_
            show az_E az_F ex 2 124 20 [.ref 3, .int a1, .int a2] [.int (1 : Int32)] (97, I, J, R) _
            refine az_E.br (c := (1 : Int32) = 0) (tt := 23) (ff := 25) (L' := [.ref 3, .int a1, .int a2]) (S' := []) (σ' := (97, I, J, R)) rfl (fun hn => absurd hn (by decide)) (fun _ => ?_)
            exact az_E.forget (L := [.ref 3, .int a1, .int a2]) ⟨rfl, rfl, rfl, trivial⟩ (re_X_keep_25 (I := I) (J := J) (R := R)  h hQ)
set_option maxRecDepth 100000 in
set_option maxHeartbeats 4000000 in
theorem re_X_sideCell {ex : az_X} {I : Nat → Nat → Int32} {J : Nat → Nat → Int64} {R : Nat → Nat → Option Nat} {a0 : Int32} {a1 : Int32} {o : Int32} (h : rs_X_sideCell a0 a1 = some o) {Q : Option Value → az_S → Prop} (hQ : Q (some (.int o)) (97, I, J, R)) : az_E az_F ex 0 141 0 [.int a0, .int a1] [] (97, I, J, R) Q := by
  unfold rs_X_sideCell at h
  refine az_E.sn 1 (pc' := 1) (L' := [.int a0, .int a1]) (S' := [.int a1]) (σ' := (97, I, J, R)) rfl ?_
  by_cases hc_1 : a1 = (0 : Int32)
  · rw [if_pos hc_1] at h
    refine az_E.sw hc_1 (pc' := 32) (L' := [.int a0, .int a1]) (S' := []) (σ' := (97, I, J, R)) rfl ?_
    refine az_E.sn 2 (pc' := 35) (L' := [.int a0, .int a1]) (S' := [.int (12 : Int32), .int a0]) (σ' := (97, I, J, R)) rfl ?_
    refine az_E.br (c := a0 < (12 : Int32)) (tt := 45) (ff := 38) (L' := [.int a0, .int a1]) (S' := []) (σ' := (97, I, J, R)) rfl (fun hc_2 => ?_) (fun hc_2 => ?_)
    · rw [if_pos hc_2] at h
      refine az_E.sn 1 (pc' := 46) (L' := [.int a0, .int a1]) (S' := [.int (-1 : Int32)]) (σ' := (97, I, J, R)) rfl ?_
      cases h
      exact az_E.ret (v := some (.int (-1 : Int32))) (σ' := (97, I, J, R)) rfl hQ
    · rw [if_neg hc_2] at h
      refine az_E.sn 4 (pc' := 46) (L' := [.int a0, .int a1]) (S' := [.int (a0 - (12 : Int32))]) (σ' := (97, I, J, R)) rfl ?_
      cases h
      exact az_E.ret (v := some (.int (a0 - (12 : Int32)))) (σ' := (97, I, J, R)) rfl hQ
  · rw [if_neg hc_1] at h
    by_cases hc_3 : a1 = (1 : Int32)
    · rw [if_pos hc_3] at h
      refine az_E.sw hc_3 (pc' := 47) (L' := [.int a0, .int a1]) (S' := []) (σ' := (97, I, J, R)) rfl ?_
      refine az_E.sn 2 (pc' := 50) (L' := [.int a0, .int a1]) (S' := [.int (12 : Int32), .int a0]) (σ' := (97, I, J, R)) rfl ?_
      have hd_4 : ¬ ((12 : Int32) = 0) := by decide
      refine az_E.dv (c := (12 : Int32) = 0) (pc' := 51) (L' := [.int a0, .int a1]) (S' := [.int (a0 - a0 / (12 : Int32) * (12 : Int32))]) (σ' := (97, I, J, R)) rfl hd_4 ?_
      refine az_E.sn 1 (pc' := 53) (L' := [.int a0, .int a1]) (S' := [.int (11 : Int32), .int (a0 - a0 / (12 : Int32) * (12 : Int32))]) (σ' := (97, I, J, R)) rfl ?_
      refine az_E.br (c := (11 : Int32) ≤ (a0 - a0 / (12 : Int32) * (12 : Int32))) (tt := 62) (ff := 56) (L' := [.int a0, .int a1]) (S' := []) (σ' := (97, I, J, R)) rfl (fun hc_5 => ?_) (fun hc_5 => ?_)
      · rw [if_pos hc_5] at h
        refine az_E.sn 1 (pc' := 63) (L' := [.int a0, .int a1]) (S' := [.int (-1 : Int32)]) (σ' := (97, I, J, R)) rfl ?_
        cases h
        exact az_E.ret (v := some (.int (-1 : Int32))) (σ' := (97, I, J, R)) rfl hQ
      · rw [if_neg hc_5] at h
        refine az_E.sn 4 (pc' := 63) (L' := [.int a0, .int a1]) (S' := [.int (a0 + (1 : Int32))]) (σ' := (97, I, J, R)) rfl ?_
        cases h
        exact az_E.ret (v := some (.int (a0 + (1 : Int32)))) (σ' := (97, I, J, R)) rfl hQ
    · rw [if_neg hc_3] at h
      by_cases hc_6 : a1 = (2 : Int32)
      · rw [if_pos hc_6] at h
        refine az_E.sw hc_6 (pc' := 64) (L' := [.int a0, .int a1]) (S' := []) (σ' := (97, I, J, R)) rfl ?_
        refine az_E.sn 2 (pc' := 68) (L' := [.int a0, .int a1]) (S' := [.int (132 : Int32), .int a0]) (σ' := (97, I, J, R)) rfl ?_
        refine az_E.br (c := (132 : Int32) ≤ a0) (tt := 78) (ff := 71) (L' := [.int a0, .int a1]) (S' := []) (σ' := (97, I, J, R)) rfl (fun hc_7 => ?_) (fun hc_7 => ?_)
        · rw [if_pos hc_7] at h
          refine az_E.sn 1 (pc' := 79) (L' := [.int a0, .int a1]) (S' := [.int (-1 : Int32)]) (σ' := (97, I, J, R)) rfl ?_
          cases h
          exact az_E.ret (v := some (.int (-1 : Int32))) (σ' := (97, I, J, R)) rfl hQ
        · rw [if_neg hc_7] at h
          refine az_E.sn 4 (pc' := 79) (L' := [.int a0, .int a1]) (S' := [.int (a0 + (12 : Int32))]) (σ' := (97, I, J, R)) rfl ?_
          cases h
          exact az_E.ret (v := some (.int (a0 + (12 : Int32)))) (σ' := (97, I, J, R)) rfl hQ
      · rw [if_neg hc_6] at h
        by_cases hc_8 : a1 = (3 : Int32)
        · rw [if_pos hc_8] at h
          refine az_E.sw hc_8 (pc' := 80) (L' := [.int a0, .int a1]) (S' := []) (σ' := (97, I, J, R)) rfl ?_
          refine az_E.sn 2 (pc' := 83) (L' := [.int a0, .int a1]) (S' := [.int (12 : Int32), .int a0]) (σ' := (97, I, J, R)) rfl ?_
          have hd_9 : ¬ ((12 : Int32) = 0) := by decide
          refine az_E.dv (c := (12 : Int32) = 0) (pc' := 84) (L' := [.int a0, .int a1]) (S' := [.int (a0 - a0 / (12 : Int32) * (12 : Int32))]) (σ' := (97, I, J, R)) rfl hd_9 ?_
          refine az_E.br (c := (a0 - a0 / (12 : Int32) * (12 : Int32)) ≤ 0) (tt := 93) (ff := 87) (L' := [.int a0, .int a1]) (S' := []) (σ' := (97, I, J, R)) rfl (fun hc_10 => ?_) (fun hc_10 => ?_)
          · rw [if_pos hc_10] at h
            refine az_E.sn 1 (pc' := 94) (L' := [.int a0, .int a1]) (S' := [.int (-1 : Int32)]) (σ' := (97, I, J, R)) rfl ?_
            cases h
            exact az_E.ret (v := some (.int (-1 : Int32))) (σ' := (97, I, J, R)) rfl hQ
          · rw [if_neg hc_10] at h
            refine az_E.sn 4 (pc' := 94) (L' := [.int a0, .int a1]) (S' := [.int (a0 - (1 : Int32))]) (σ' := (97, I, J, R)) rfl ?_
            cases h
            exact az_E.ret (v := some (.int (a0 - (1 : Int32)))) (σ' := (97, I, J, R)) rfl hQ
        · rw [if_neg hc_8] at h
          have ehc_1 := az_nei hc_1 (z := 0) (by decide)
          have ehc_3 := az_nei hc_3 (z := 1) (by decide)
          have ehc_6 := az_nei hc_6 (z := 2) (by decide)
          have ehc_8 := az_nei hc_8 (z := 3) (by decide)
          refine az_E.swd (a := 95) (lo := 0) (hi := 3) (offs := #[31, 46, 63, 79]) rfl (by omega) ?_
          refine az_E.sn 1 (pc' := 96) (L' := [.int a0, .int a1]) (S' := [.int (-1 : Int32)]) (σ' := (97, I, J, R)) rfl ?_
          cases h
          exact az_E.ret (v := some (.int (-1 : Int32))) (σ' := (97, I, J, R)) rfl hQ
set_option maxRecDepth 100000 in
set_option maxHeartbeats 4000000 in
theorem re_X_areSideBySide_2_b {ex : az_X} {I : Nat → Nat → Int32} {J : Nat → Nat → Int64} {R : Nat → Nat → Option Nat} {v0 : Int32} {v1 : Int32} {v2 : Int32} {x : ((Int32) ⊕ (Int32))} (h : rs_X_areSideBySide_2_b v0 v1 v2 = some x) {Q : Option Value → az_S → Prop} (hQ : Sum.elim (fun s => az_E az_F ex 1 142 2 [.int v0, .int v1, .int s] [] (97, I, J, R) Q) (fun x => Q (some (.int x)) (97, I, J, R)) x) : az_E az_F ex 1 142 2 [.int v0, .int v1, .int v2] [] (97, I, J, R) Q := by
  unfold rs_X_areSideBySide_2_b at h
  refine az_E.sn 2 (pc' := 4) (L' := [.int v0, .int v1, .int v2]) (S' := [.int (4 : Int32), .int v2]) (σ' := (97, I, J, R)) rfl ?_
  refine az_E.br (c := (4 : Int32) ≤ v2) (tt := 24) (ff := 7) (L' := [.int v0, .int v1, .int v2]) (S' := []) (σ' := (97, I, J, R)) rfl (fun hc_1 => ?_) (fun hc_1 => ?_)
  · rw [if_pos hc_1] at h
    refine az_E.sn 1 (pc' := 25) (L' := [.int v0, .int v1, .int v2]) (S' := [.int (0 : Int32)]) (σ' := (97, I, J, R)) rfl ?_
    cases h
    exact az_E.ret (v := some (.int (0 : Int32))) (σ' := (97, I, J, R)) rfl hQ
  · rw [if_neg hc_1] at h
    refine az_E.sn 2 (pc' := 9) (L' := [.int v0, .int v1, .int v2]) (S' := [.int v2, .int v0]) (σ' := (97, I, J, R)) rfl ?_
    cases hx_3 : rs_X_sideCell v0 v2 with
    | none => rw [hx_3] at h; cases h
    | some o =>
      rw [hx_3] at h
      obtain ⟨x_2, rfl⟩ : ∃ z, z = o := ⟨_, rfl⟩
      dsimp only at h
      refine az_E.call (d := 0) (k' := 141) (vs := [.int v0, .int v2]) (pc' := 12) (S' := []) (Q1 := fun v s => v = some (.int x_2) ∧ s = (97, I, J, R)) rfl (az_E.deep (by decide) (re_X_sideCell (J := J) (R := R)  hx_3 ⟨rfl, rfl⟩)) (fun v s hq => ?_)
      obtain ⟨rfl, rfl⟩ := hq
      show az_E az_F ex 1 142 12 [.int v0, .int v1, .int v2] [.int x_2] (97, I, J, R) _
      refine az_E.sn 1 (pc' := 13) (L' := [.int v0, .int v1, .int v2]) (S' := [.int v1, .int x_2]) (σ' := (97, I, J, R)) rfl ?_
      refine az_E.br (c := x_2 = v1) (tt := 16) (ff := 18) (L' := [.int v0, .int v1, .int v2]) (S' := []) (σ' := (97, I, J, R)) rfl (fun hc_4 => ?_) (fun hc_4 => ?_)
      · rw [if_pos hc_4] at h
        refine az_E.sn 1 (pc' := 17) (L' := [.int v0, .int v1, .int v2]) (S' := [.int (1 : Int32)]) (σ' := (97, I, J, R)) rfl ?_
        cases h
        exact az_E.ret (v := some (.int (1 : Int32))) (σ' := (97, I, J, R)) rfl hQ
      · rw [if_neg hc_4] at h
        refine az_E.sn 2 (pc' := 2) (L' := [.int v0, .int v1, .int (v2 + (1 : Int32))]) (S' := []) (σ' := (97, I, J, R)) rfl ?_
        cases h
        exact az_E.forget (L := [.int v0, .int v1, .int (v2 + (1 : Int32))]) ⟨rfl, rfl, rfl, trivial⟩ hQ
set_option maxRecDepth 100000 in
set_option maxHeartbeats 4000000 in
theorem re_X_areSideBySide_2 {ex : az_X} {I : Nat → Nat → Int32} {J : Nat → Nat → Int64} {R : Nat → Nat → Option Nat} {v0 : Int32} {v1 : Int32} {v2 : Int32} {x : Int32} (h : rs_X_areSideBySide_2 v0 v1 v2 = some x) {Q : Option Value → az_S → Prop} (hQ : Q (some (.int x)) (97, I, J, R)) : az_E az_F ex 1 142 2 [.int v0, .int v1, .int v2] [] (97, I, J, R) Q := by
  unfold rs_X_areSideBySide_2 at h
  exact az_lp_E (G := fun s => az_E az_F ex 1 142 2 [.int v0, .int v1, .int s] [] (97, I, J, R) Q) (H := fun x => Q (some (.int x)) (97, I, J, R)) (fun s o hb ho => re_X_areSideBySide_2_b  hb ho) _ _ _ h hQ
set_option maxRecDepth 100000 in
set_option maxHeartbeats 4000000 in
theorem re_X_areSideBySide {ex : az_X} {I : Nat → Nat → Int32} {J : Nat → Nat → Int64} {R : Nat → Nat → Option Nat} {a0 : Int32} {a1 : Int32} {o : Int32} (h : rs_X_areSideBySide a0 a1 = some o) {Q : Option Value → az_S → Prop} (hQ : Q (some (.int o)) (97, I, J, R)) : az_E az_F ex 1 142 0 [.int a0, .int a1, .retAddr 0] [] (97, I, J, R) Q := by
  unfold rs_X_areSideBySide at h
  refine az_E.sn 2 (pc' := 2) (L' := [.int a0, .int a1, .int (0 : Int32)]) (S' := []) (σ' := (97, I, J, R)) rfl ?_
  exact az_E.forget (L := [.int a0, .int a1, .int (0 : Int32)]) ⟨rfl, rfl, rfl, trivial⟩ (re_X_areSideBySide_2 (I := I) (J := J) (R := R)  h hQ)
set_option maxRecDepth 100000 in
set_option maxHeartbeats 4000000 in
theorem re_X_greatestCrowd_58 {ex : az_X} {I : Nat → Nat → Int32} {J : Nat → Nat → Int64} {R : Nat → Nat → Option Nat} {v1 : Int32} {v2 : Int32} {v3 : Int32} {v4 : Int32} {x : ((Int32 × Int32) ⊕ (Int32))} (h : rs_X_greatestCrowd_58 I v1 v2 v3 v4 = some x) {Q : Option Value → az_S → Prop} (hQ : Sum.elim (fun s => az_E az_F ex 1 149 4 [.ref 3, .int v1, .int s.1, .int s.2, .retAddr 0, .retAddr 0] [] (97, I, J, R) Q) (fun x => Q (some (.int x)) (97, I, J, R)) x) : az_E az_F ex 1 149 58 [.ref 3, .int v1, .int v2, .int v3, .int v4, .retAddr 0] [] (97, I, J, R) Q := by
  unfold rs_X_greatestCrowd_58 at h
  refine az_E.sn 6 (pc' := 4) (L' := [.ref 3, .int v1, .int (if v2 < v4 then v4 else v2), .int (v3 + (1 : Int32)), .int v4, .retAddr 0]) (S' := []) (σ' := (97, I, J, R)) rfl ?_
  cases h
  exact az_E.forget (L := [.ref 3, .int v1, .int (if v2 < v4 then v4 else v2), .int (v3 + (1 : Int32)), .retAddr 0, .retAddr 0]) ⟨rfl, rfl, rfl, rfl, trivial, trivial, trivial⟩ hQ
set_option maxRecDepth 100000 in
set_option maxHeartbeats 4000000 in
theorem re_X_greatestCrowd_16_b {ex : az_X} {I : Nat → Nat → Int32} {J : Nat → Nat → Int64} {R : Nat → Nat → Option Nat} {v1 : Int32} {v2 : Int32} {v3 : Int32} {v4 : Int32} {v5 : Int32} {x : ((Int32 × Int32) ⊕ (((Int32 × Int32) ⊕ (Int32))))} (h : rs_X_greatestCrowd_16_b I v1 v2 v3 v4 v5 = some x) {Q : Option Value → az_S → Prop} (hQ : Sum.elim (fun s => az_E az_F ex 1 149 16 [.ref 3, .int v1, .int v2, .int v3, .int s.1, .int s.2] [] (97, I, J, R) Q) (fun x => Sum.elim (fun s => az_E az_F ex 1 149 4 [.ref 3, .int v1, .int s.1, .int s.2, .retAddr 0, .retAddr 0] [] (97, I, J, R) Q) (fun x => Q (some (.int x)) (97, I, J, R)) x) x) : az_E az_F ex 1 149 16 [.ref 3, .int v1, .int v2, .int v3, .int v4, .int v5] [] (97, I, J, R) Q := by
  unfold rs_X_greatestCrowd_16_b at h
  refine az_E.sn 2 (pc' := 20) (L' := [.ref 3, .int v1, .int v2, .int v3, .int v4, .int v5]) (S' := [.int (19 : Int32), .int v5]) (σ' := (97, I, J, R)) rfl ?_
  refine az_E.br (c := (19 : Int32) ≤ v5) (tt := 58) (ff := 23) (L' := [.ref 3, .int v1, .int v2, .int v3, .int v4, .int v5]) (S' := []) (σ' := (97, I, J, R)) rfl (fun hc_2 => ?_) (fun hc_2 => ?_)
  · rw [if_pos hc_2] at h
    obtain ⟨x, hx, rfl⟩ := Option.map_eq_some_iff.mp h
    exact az_E.forget (L := [.ref 3, .int v1, .int v2, .int v3, .int v4, .retAddr 0]) ⟨rfl, rfl, rfl, rfl, rfl, trivial, trivial⟩ (re_X_greatestCrowd_58 (I := I) (J := J) (R := R)  hx hQ)
  · rw [if_neg hc_2] at h
    refine az_E.sn 7 (pc' := 33) (L' := [.ref 3, .int v1, .int v2, .int v3, .int v4, .int v5]) (S' := [.int ((v1 * (19 : Int32)) + v3), .ref 60]) (σ' := (97, I, J, R)) rfl ?_
    by_cases hc_3 : ((v1 * (19 : Int32)) + v3) < 0 ∨ 152 ≤ ((v1 * (19 : Int32)) + v3).toNatClampNeg
    · rw [if_pos hc_3] at h; cases h
    · rw [if_neg hc_3] at h
      refine az_E.oi (o := az_ai az_F ex (97, I, J, R) 60 ((v1 * (19 : Int32)) + v3)) (pc' := 34) (L' := [.ref 3, .int v1, .int v2, .int v3, .int v4, .int v5]) (S' := []) (σ' := (97, I, J, R)) (x := (I 60 ((v1 * (19 : Int32)) + v3).toNatClampNeg)) rfl (if_neg hc_3) ?_
      refine az_E.sn 7 (pc' := 45) (L' := [.ref 3, .int v1, .int v2, .int v3, .int v4, .int v5]) (S' := [.int ((v1 * (19 : Int32)) + v5), .ref 60, .int (I 60 ((v1 * (19 : Int32)) + v3).toNatClampNeg)]) (σ' := (97, I, J, R)) rfl ?_
      by_cases hc_4 : ((v1 * (19 : Int32)) + v5) < 0 ∨ 152 ≤ ((v1 * (19 : Int32)) + v5).toNatClampNeg
      · rw [if_pos hc_4] at h; cases h
      · rw [if_neg hc_4] at h
        refine az_E.oi (o := az_ai az_F ex (97, I, J, R) 60 ((v1 * (19 : Int32)) + v5)) (pc' := 46) (L' := [.ref 3, .int v1, .int v2, .int v3, .int v4, .int v5]) (S' := [.int (I 60 ((v1 * (19 : Int32)) + v3).toNatClampNeg)]) (σ' := (97, I, J, R)) (x := (I 60 ((v1 * (19 : Int32)) + v5).toNatClampNeg)) rfl (if_neg hc_4) ?_
        refine az_E.br (c := (I 60 ((v1 * (19 : Int32)) + v3).toNatClampNeg) = (I 60 ((v1 * (19 : Int32)) + v5).toNatClampNeg)) (tt := 49) (ff := 52) (L' := [.ref 3, .int v1, .int v2, .int v3, .int v4, .int v5]) (S' := []) (σ' := (97, I, J, R)) rfl (fun hc_5 => ?_) (fun hc_5 => ?_)
        · rw [if_pos hc_5] at h
          refine az_E.sn 3 (pc' := 16) (L' := [.ref 3, .int v1, .int v2, .int v3, .int (v4 + (1 : Int32)), .int (v5 + (1 : Int32))]) (S' := []) (σ' := (97, I, J, R)) rfl ?_
          cases h
          exact az_E.forget (L := [.ref 3, .int v1, .int v2, .int v3, .int (v4 + (1 : Int32)), .int (v5 + (1 : Int32))]) ⟨rfl, rfl, rfl, rfl, rfl, rfl, trivial⟩ hQ
        · rw [if_neg hc_5] at h
          refine az_E.sn 2 (pc' := 16) (L' := [.ref 3, .int v1, .int v2, .int v3, .int v4, .int (v5 + (1 : Int32))]) (S' := []) (σ' := (97, I, J, R)) rfl ?_
          cases h
          exact az_E.forget (L := [.ref 3, .int v1, .int v2, .int v3, .int v4, .int (v5 + (1 : Int32))]) ⟨rfl, rfl, rfl, rfl, rfl, rfl, trivial⟩ hQ
set_option maxRecDepth 100000 in
set_option maxHeartbeats 4000000 in
theorem re_X_greatestCrowd_16 {ex : az_X} {I : Nat → Nat → Int32} {J : Nat → Nat → Int64} {R : Nat → Nat → Option Nat} {v1 : Int32} {v2 : Int32} {v3 : Int32} {v4 : Int32} {v5 : Int32} {x : ((Int32 × Int32) ⊕ (Int32))} (h : rs_X_greatestCrowd_16 I v1 v2 v3 v4 v5 = some x) {Q : Option Value → az_S → Prop} (hQ : Sum.elim (fun s => az_E az_F ex 1 149 4 [.ref 3, .int v1, .int s.1, .int s.2, .retAddr 0, .retAddr 0] [] (97, I, J, R) Q) (fun x => Q (some (.int x)) (97, I, J, R)) x) : az_E az_F ex 1 149 16 [.ref 3, .int v1, .int v2, .int v3, .int v4, .int v5] [] (97, I, J, R) Q := by
  unfold rs_X_greatestCrowd_16 at h
  exact az_lp_E (G := fun s => az_E az_F ex 1 149 16 [.ref 3, .int v1, .int v2, .int v3, .int s.1, .int s.2] [] (97, I, J, R) Q) (H := fun x => Sum.elim (fun s => az_E az_F ex 1 149 4 [.ref 3, .int v1, .int s.1, .int s.2, .retAddr 0, .retAddr 0] [] (97, I, J, R) Q) (fun x => Q (some (.int x)) (97, I, J, R)) x) (fun s o hb ho => re_X_greatestCrowd_16_b  hb ho) _ _ _ h hQ
set_option maxRecDepth 100000 in
set_option maxHeartbeats 4000000 in
theorem re_X_greatestCrowd_4_b {ex : az_X} {I : Nat → Nat → Int32} {J : Nat → Nat → Int64} {R : Nat → Nat → Option Nat} {v1 : Int32} {v2 : Int32} {v3 : Int32} {x : ((Int32 × Int32) ⊕ (Int32))} (h : rs_X_greatestCrowd_4_b I v1 v2 v3 = some x) {Q : Option Value → az_S → Prop} (hQ : Sum.elim (fun s => az_E az_F ex 1 149 4 [.ref 3, .int v1, .int s.1, .int s.2, .retAddr 0, .retAddr 0] [] (97, I, J, R) Q) (fun x => Q (some (.int x)) (97, I, J, R)) x) : az_E az_F ex 1 149 4 [.ref 3, .int v1, .int v2, .int v3, .retAddr 0, .retAddr 0] [] (97, I, J, R) Q := by
  unfold rs_X_greatestCrowd_4_b at h
  refine az_E.sn 2 (pc' := 7) (L' := [.ref 3, .int v1, .int v2, .int v3, .retAddr 0, .retAddr 0]) (S' := [.int (19 : Int32), .int v3]) (σ' := (97, I, J, R)) rfl ?_
  refine az_E.br (c := (19 : Int32) ≤ v3) (tt := 71) (ff := 10) (L' := [.ref 3, .int v1, .int v2, .int v3, .retAddr 0, .retAddr 0]) (S' := []) (σ' := (97, I, J, R)) rfl (fun hc_1 => ?_) (fun hc_1 => ?_)
  · rw [if_pos hc_1] at h
    refine az_E.sn 1 (pc' := 72) (L' := [.ref 3, .int v1, .int v2, .int v3, .retAddr 0, .retAddr 0]) (S' := [.int v2]) (σ' := (97, I, J, R)) rfl ?_
    cases h
    exact az_E.ret (v := some (.int v2)) (σ' := (97, I, J, R)) rfl hQ
  · rw [if_neg hc_1] at h
    refine az_E.sn 4 (pc' := 16) (L' := [.ref 3, .int v1, .int v2, .int v3, .int (0 : Int32), .int (0 : Int32)]) (S' := []) (σ' := (97, I, J, R)) rfl ?_
    exact az_E.forget (L := [.ref 3, .int v1, .int v2, .int v3, .int (0 : Int32), .int (0 : Int32)]) ⟨rfl, rfl, rfl, rfl, rfl, rfl, trivial⟩ (re_X_greatestCrowd_16 (I := I) (J := J) (R := R)  h hQ)
set_option maxRecDepth 100000 in
set_option maxHeartbeats 4000000 in
theorem re_X_greatestCrowd_4 {ex : az_X} {I : Nat → Nat → Int32} {J : Nat → Nat → Int64} {R : Nat → Nat → Option Nat} {v1 : Int32} {v2 : Int32} {v3 : Int32} {x : Int32} (h : rs_X_greatestCrowd_4 I v1 v2 v3 = some x) {Q : Option Value → az_S → Prop} (hQ : Q (some (.int x)) (97, I, J, R)) : az_E az_F ex 1 149 4 [.ref 3, .int v1, .int v2, .int v3, .retAddr 0, .retAddr 0] [] (97, I, J, R) Q := by
  unfold rs_X_greatestCrowd_4 at h
  exact az_lp_E (G := fun s => az_E az_F ex 1 149 4 [.ref 3, .int v1, .int s.1, .int s.2, .retAddr 0, .retAddr 0] [] (97, I, J, R) Q) (H := fun x => Q (some (.int x)) (97, I, J, R)) (fun s o hb ho => re_X_greatestCrowd_4_b  hb ho) _ _ _ h hQ
set_option maxRecDepth 100000 in
set_option maxHeartbeats 4000000 in
theorem re_X_greatestCrowd {ex : az_X} {I : Nat → Nat → Int32} {J : Nat → Nat → Int64} {R : Nat → Nat → Option Nat} {a1 : Int32} {o : Int32} (h : rs_X_greatestCrowd I a1 = some o) {Q : Option Value → az_S → Prop} (hQ : Q (some (.int o)) (97, I, J, R)) : az_E az_F ex 1 149 0 [.ref 3, .int a1, .retAddr 0, .retAddr 0, .retAddr 0, .retAddr 0] [] (97, I, J, R) Q := by
  unfold rs_X_greatestCrowd at h
  refine az_E.sn 4 (pc' := 4) (L' := [.ref 3, .int a1, .int (0 : Int32), .int (0 : Int32), .retAddr 0, .retAddr 0]) (S' := []) (σ' := (97, I, J, R)) rfl ?_
  exact az_E.forget (L := [.ref 3, .int a1, .int (0 : Int32), .int (0 : Int32), .retAddr 0, .retAddr 0]) ⟨rfl, rfl, rfl, rfl, trivial, trivial, trivial⟩ (re_X_greatestCrowd_4 (I := I) (J := J) (R := R)  h hQ)

/-! Arrays.fill, by hand -/
theorem az_F_small : az_F.all (fun q => decide (q.2.1 < 1000)) = true := by decide +kernel
theorem az_F_lt {r tg n : Nat} {l : List Nat} (h : az_k az_F 97 r = some (tg, n, l)) : 3 ≤ r ∧ n < 1000 := by
  obtain ⟨h1, -, h3⟩ := az_k_sh h
  have := List.all_eq_true.mp az_F_small _ (List.mem_of_getElem? h3)
  exact ⟨h1, of_decide_eq_true this⟩
theorem az_fill_0 {α : Type} {f : Nat → Nat → α} {r : Nat} {x : α} : az_ur f r (az_fill 0 x (f r)) = f := by
  funext a b
  unfold az_ur az_fill
  by_cases h : a = r
  · subst h; simp
  · simp [h]
theorem az_fill_1 {α : Type} {f : Nat → Nat → α} {r i : Nat} {x : α} : az_u (az_ur f r (az_fill i x (f r))) r i x = az_ur f r (az_fill (i + 1) x (f r)) := by
  funext a b
  unfold az_u az_ur az_fill
  by_cases h : a = r
  · subst h
    by_cases h2 : b = i
    · subst h2; simp
    · by_cases h3 : b < i
      · simp [h2, h3, Nat.lt_succ_of_lt h3]
      · have : ¬ b < i + 1 := by omega
        simp [h2, h3, this]
  · simp [h]
theorem re_fillI {ex : az_X} {I : Nat → Nat → Int32} {J : Nat → Nat → Int64} {R : Nat → Nat → Option Nat} {r n : Nat} {l : List Nat} {x : Int32} (hk : az_k az_F 97 r = some (1, n, l)) {Q : Option Value → az_S → Prop} (hQ : Q none (97, az_ur I r (az_fill n x (I r)), J, R)) : az_E az_F ex 0 257 0 [.ref r, .int x, .retAddr 0, .retAddr 0] [] (97, I, J, R) Q := by
  obtain ⟨h3, hn⟩ := az_F_lt hk
  have hr : ¬ r < 3 := by omega
  refine az_E.sn 3 (pc' := 3) (L' := [.ref r, .int x, .int 0, .retAddr 0]) (S' := [.ref r]) (σ' := (97, I, J, R)) rfl ?_
  refine az_E.oi (o := az_len az_F ex (97, I, J, R) r) (pc' := 4) (L' := [.ref r, .int x, .int 0, .retAddr 0]) (S' := []) (σ' := (97, I, J, R)) (x := nI n) rfl (by unfold az_len; rw [if_neg hr]; show (match az_k az_F 97 r with | _ => _) = _; rw [hk]; rfl) ?_
  refine az_E.sn 1 (pc' := 5) (L' := [.ref r, .int x, .int 0, .int (nI n)]) (S' := []) (σ' := (97, I, J, R)) rfl ?_
  have key : ∀ (m i : Nat), i + m = n → az_E az_F ex 0 257 5 [.ref r, .int x, .int (nI i), .int (nI n)] [] (97, az_ur I r (az_fill i x (I r)), J, R) Q := by
    intro m
    induction m with
    | zero =>
      intro i hi
      have : i = n := by omega
      subst this
      refine az_E.sn 2 (pc' := 7) (L' := [.ref r, .int x, .int (nI i), .int (nI i)]) (S' := [.int (nI i), .int (nI i)]) (σ' := (97, az_ur I r (az_fill i x (I r)), J, R)) rfl ?_
      refine az_E.br (c := nI i ≤ nI i) (tt := 20) (ff := 10) (L' := [.ref r, .int x, .int (nI i), .int (nI i)]) (S' := []) (σ' := (97, az_ur I r (az_fill i x (I r)), J, R)) rfl (fun _ => ?_) (fun h => absurd (nI_le (Nat.le_refl _) (by omega)) h)
      exact az_E.ret (v := none) (σ' := (97, az_ur I r (az_fill i x (I r)), J, R)) rfl hQ
    | succ m ih =>
      intro i hi
      have hin : ¬ (nI i < 0 ∨ n ≤ (nI i).toNatClampNeg) := nI_in (by omega) (by omega)
      refine az_E.sn 2 (pc' := 7) (L' := [.ref r, .int x, .int (nI i), .int (nI n)]) (S' := [.int (nI n), .int (nI i)]) (σ' := (97, az_ur I r (az_fill i x (I r)), J, R)) rfl ?_
      refine az_E.br (c := nI n ≤ nI i) (tt := 20) (ff := 10) (L' := [.ref r, .int x, .int (nI i), .int (nI n)]) (S' := []) (σ' := (97, az_ur I r (az_fill i x (I r)), J, R)) rfl (fun h => absurd h (nI_ge (by omega) (by omega))) (fun _ => ?_)
      refine az_E.sn 3 (pc' := 13) (L' := [.ref r, .int x, .int (nI i), .int (nI n)]) (S' := [.int x, .int (nI i), .ref r]) (σ' := (97, az_ur I r (az_fill i x (I r)), J, R)) rfl ?_
      refine az_E.o (o := az_si az_F (97, az_ur I r (az_fill i x (I r)), J, R) r (nI i) x) (pc' := 14) (L' := [.ref r, .int x, .int (nI i), .int (nI n)]) (S' := []) (x := (97, az_ur I r (az_fill (i + 1) x (I r)), J, R)) rfl ?_ ?_
      · unfold az_si
        show (match az_k az_F 97 r with | _ => _) = _
        rw [hk]
        show (if nI i < 0 ∨ n ≤ (nI i).toNatClampNeg then none else some (97, az_u (az_ur I r (az_fill i x (I r))) r (nI i).toNatClampNeg x, J, R)) = _
        rw [if_neg hin, nI_clamp (by omega), az_fill_1]
      · refine az_E.sn 2 (pc' := 5) (L' := [.ref r, .int x, .int (nI i + 1), .int (nI n)]) (S' := []) (σ' := (97, az_ur I r (az_fill (i + 1) x (I r)), J, R)) rfl ?_
        rw [nI_1]
        exact ih (i + 1) (by omega)
  have := key n 0 (by omega)
  rw [az_fill_0] at this
  exact this
theorem re_fillJ {ex : az_X} {I : Nat → Nat → Int32} {J : Nat → Nat → Int64} {R : Nat → Nat → Option Nat} {r n : Nat} {l : List Nat} {x : Int64} (hk : az_k az_F 97 r = some (2, n, l)) {Q : Option Value → az_S → Prop} (hQ : Q none (97, I, az_ur J r (az_fill n x (J r)), R)) : az_E az_F ex 0 256 0 [.ref r, .long x, .retAddr 0, .retAddr 0, .retAddr 0] [] (97, I, J, R) Q := by
  obtain ⟨h3, hn⟩ := az_F_lt hk
  have hr : ¬ r < 3 := by omega
  refine az_E.sn 3 (pc' := 3) (L' := [.ref r, .long x, .retAddr 0, .int 0, .retAddr 0]) (S' := [.ref r]) (σ' := (97, I, J, R)) rfl ?_
  refine az_E.oi (o := az_len az_F ex (97, I, J, R) r) (pc' := 4) (L' := [.ref r, .long x, .retAddr 0, .int 0, .retAddr 0]) (S' := []) (σ' := (97, I, J, R)) (x := nI n) rfl (by unfold az_len; rw [if_neg hr]; show (match az_k az_F 97 r with | _ => _) = _; rw [hk]; rfl) ?_
  refine az_E.sn 1 (pc' := 6) (L' := [.ref r, .long x, .retAddr 0, .int 0, .int (nI n)]) (S' := []) (σ' := (97, I, J, R)) rfl ?_
  have key : ∀ (m i : Nat), i + m = n → az_E az_F ex 0 256 6 [.ref r, .long x, .retAddr 0, .int (nI i), .int (nI n)] [] (97, I, az_ur J r (az_fill i x (J r)), R) Q := by
    intro m
    induction m with
    | zero =>
      intro i hi
      have : i = n := by omega
      subst this
      refine az_E.sn 2 (pc' := 9) (L' := [.ref r, .long x, .retAddr 0, .int (nI i), .int (nI i)]) (S' := [.int (nI i), .int (nI i)]) (σ' := (97, I, az_ur J r (az_fill i x (J r)), R)) rfl ?_
      refine az_E.br (c := nI i ≤ nI i) (tt := 22) (ff := 12) (L' := [.ref r, .long x, .retAddr 0, .int (nI i), .int (nI i)]) (S' := []) (σ' := (97, I, az_ur J r (az_fill i x (J r)), R)) rfl (fun _ => ?_) (fun h => absurd (nI_le (Nat.le_refl _) (by omega)) h)
      exact az_E.ret (v := none) (σ' := (97, I, az_ur J r (az_fill i x (J r)), R)) rfl hQ
    | succ m ih =>
      intro i hi
      have hin : ¬ (nI i < 0 ∨ n ≤ (nI i).toNatClampNeg) := nI_in (by omega) (by omega)
      refine az_E.sn 2 (pc' := 9) (L' := [.ref r, .long x, .retAddr 0, .int (nI i), .int (nI n)]) (S' := [.int (nI n), .int (nI i)]) (σ' := (97, I, az_ur J r (az_fill i x (J r)), R)) rfl ?_
      refine az_E.br (c := nI n ≤ nI i) (tt := 22) (ff := 12) (L' := [.ref r, .long x, .retAddr 0, .int (nI i), .int (nI n)]) (S' := []) (σ' := (97, I, az_ur J r (az_fill i x (J r)), R)) rfl (fun h => absurd h (nI_ge (by omega) (by omega))) (fun _ => ?_)
      refine az_E.sn 3 (pc' := 15) (L' := [.ref r, .long x, .retAddr 0, .int (nI i), .int (nI n)]) (S' := [.long x, .int (nI i), .ref r]) (σ' := (97, I, az_ur J r (az_fill i x (J r)), R)) rfl ?_
      refine az_E.o (o := az_sl az_F (97, I, az_ur J r (az_fill i x (J r)), R) r (nI i) x) (pc' := 16) (L' := [.ref r, .long x, .retAddr 0, .int (nI i), .int (nI n)]) (S' := []) (x := (97, I, az_ur J r (az_fill (i + 1) x (J r)), R)) rfl ?_ ?_
      · unfold az_sl
        show (match az_k az_F 97 r with | _ => _) = _
        rw [hk]
        show (if nI i < 0 ∨ n ≤ (nI i).toNatClampNeg then none else some (97, I, az_u (az_ur J r (az_fill i x (J r))) r (nI i).toNatClampNeg x, R)) = _
        rw [if_neg hin, nI_clamp (by omega), az_fill_1]
      · refine az_E.sn 2 (pc' := 6) (L' := [.ref r, .long x, .retAddr 0, .int (nI i + 1), .int (nI n)]) (S' := []) (σ' := (97, I, az_ur J r (az_fill (i + 1) x (J r)), R)) rfl ?_
        rw [nI_1]
        exact ih (i + 1) (by omega)
  have := key n 0 (by omega)
  rw [az_fill_0] at this
  exact this

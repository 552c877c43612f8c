/-! THE LAW'S LOOP, by program (wip/whole/mkloop.py) -/
theorem lo_rl {I : Nat → Nat → Int32} {J : Nat → Nat → Int64} {rl rd : Nat} (h : Rel I J rl rd) : (rl = 16 ∧ rd = 21) ∨ (rl = 21 ∧ rd = 16) := by
  obtain ⟨-, -, -, -, -, -, -, h8, -⟩ := h
  exact h8.1
theorem lo_cmp (v : Int64) : lg_cmp v v = 0 := by
  unfold lg_cmp
  rw [if_neg (fun hh => absurd hh (Int64.lt_irrefl)), if_pos rfl]
theorem lo_ai {σ : az_S} {L i c : Nat} {xs : Nat → Int32} (hc : c ≤ 5) (hi : i + 6 ≤ L) (hL : L ≤ 3072) : az_ai az_F (az_ex L xs) σ 0 (nI i + OfNat.ofNat c) = some (xs (i + c)) := by
  rw [bz_lit, nI_add]
  unfold az_ai
  rw [if_pos (by decide), if_neg]
  · show some (xs (nI (i + c)).toNatClampNeg) = _
    rw [nI_clamp (by omega)]
  · rintro (hh | hh)
    · rw [Int32.lt_iff_toInt_lt, nI_toInt (by omega)] at hh
      have : (0 : Int32).toInt = 0 := rfl
      omega
    · have hh : L ≤ (nI (i + c)).toNatClampNeg := hh
      rw [nI_clamp (by omega)] at hh
      omega
/-- what is left of the run behind one call -/
def lo_K (L : Nat) (xs : Nat → Int32) (Q : Option Value → az_S → Prop) (i : Nat) : Prop := ∀ (I : Nat → Nat → Int32) (J : Nat → Nat → Int64) (R : Nat → Nat → Option Nat) (rl rd : Nat), Rel I J rl rd → R 3 2 = some rl → R 3 3 = some rd → az_E az_F (az_ex L xs) 1300 258 1778 [.ref 0, .ref 3, .ref 73, .int (nI i)] [] (97, I, J, R) Q
theorem lo_cond {L i : Nat} (hL : L ≤ 3072) (hi : i ≤ 4000) : nI L - (6 : Int32) < nI i ↔ L < i + 6 := by
  show nI L - nI 6 < nI i ↔ L < i + 6
  rw [Int32.lt_iff_toInt_lt, pk_sub_toInt (by omega) (by omega), nI_toInt (by omega)]
  omega
theorem lo_ai0 {σ : az_S} {L i : Nat} {xs : Nat → Int32} (hi : i + 6 ≤ L) (hL : L ≤ 3072) : az_ai az_F (az_ex L xs) σ 0 (nI i) = some (xs i) := by
  have := lo_ai (σ := σ) (xs := xs) (c := 0) (by decide) hi hL
  rw [bz_lit, nI_add] at this
  exact this
set_option maxRecDepth 100000 in
set_option maxHeartbeats 4000000 in
theorem lo_post {L i : Nat} {xs : Nat → Int32} {I : Nat → Nat → Int32} {J : Nat → Nat → Int64} {R : Nat → Nat → Option Nat} {rl rd : Nat} {Q : Option Value → az_S → Prop} (hi : i + 6 ≤ L) (hL : L ≤ 3072) (h : Rel I J rl rd) (h2 : R 3 2 = some rl) (h3 : R 3 3 = some rd) (k : lo_K L xs Q i) : az_E az_F (az_ex L xs) 1300 258 236 [.ref 0, .ref 3, .ref 73, .int (nI i)] [] (97, I, J, R) Q := by
  obtain ⟨v, I1, I2, x, m, hr⟩ := mt_post h (xs (i + 1))
  have hY : ∀ R' : Nat → Nat → Option Nat, R' 3 2 = some rl → R' 3 3 = some rd → az_E az_F (az_ex L xs) 1300 258 245 [.ref 0, .ref 3, .ref 73, .int (nI i)] [.int v] (97, I1, J, R') Q := by
    intro R' g2 g3
    refine az_E.sn 5 (pc' := 250) (L' := [.ref 0, .ref 3, .ref 73, .int (nI i)]) (S' := [.int (nI i + (1 : Int32)), .ref 0, .ref 73, .int v]) (σ' := (97, I1, J, R')) rfl ?_
    refine az_E.oi (pc' := 251) (L' := [.ref 0, .ref 3, .ref 73, .int (nI i)]) (S' := [.ref 73, .int v]) (σ' := (97, I1, J, R')) rfl (lo_ai (c := 1) (by decide) hi hL) ?_
    refine az_E.call (d := 1299) (k' := 166) (vs := [.ref 73, .int (xs (i + 1))]) (pc' := 254) (S' := [.int v]) rfl ?_ (fun _ _ hq => hq)
    show az_E az_F (az_ex L xs) 1299 166 0 [.ref 73, .int (xs (i + 1))] [] (97, I1, J, R') _
    refine az_E.deep (by decide) (re_M_post m ?_)
    show az_E az_F (az_ex L xs) 1300 258 254 [.ref 0, .ref 3, .ref 73, .int (nI i)] [.int v, .int v] (97, I2, J, R') Q
    refine az_E.br (c := v = v) (tt := 1778) (ff := 257) (L' := [.ref 0, .ref 3, .ref 73, .int (nI i)]) (S' := []) (σ' := (97, I2, J, R')) rfl (fun _ => k _ _ _ _ _ hr g2 g3) (fun hc => absurd rfl hc)
  refine az_E.sn 5 (pc' := 241) (L' := [.ref 0, .ref 3, .ref 73, .int (nI i)]) (S' := [.int (nI i + (1 : Int32)), .ref 0, .ref 3]) (σ' := (97, I, J, R)) rfl ?_
  refine az_E.oi (pc' := 242) (L' := [.ref 0, .ref 3, .ref 73, .int (nI i)]) (S' := [.ref 3]) (σ' := (97, I, J, R)) rfl (lo_ai (c := 1) (by decide) hi hL) ?_
  refine az_E.call (d := 1299) (k' := 84) (vs := [.ref 3, .int (xs (i + 1))]) (pc' := 245) (S' := []) rfl ?_ (fun _ _ hq => hq)
  show az_E az_F (az_ex L xs) 1299 84 0 [.ref 3, .int (xs (i + 1))] [] (97, I, J, R) _
  exact az_E.deep (by decide) (re_X_post x (hY R h2 h3))
set_option maxRecDepth 100000 in
set_option maxHeartbeats 4000000 in
theorem lo_walker {L i : Nat} {xs : Nat → Int32} {I : Nat → Nat → Int32} {J : Nat → Nat → Int64} {R : Nat → Nat → Option Nat} {rl rd : Nat} {Q : Option Value → az_S → Prop} (hi : i + 6 ≤ L) (hL : L ≤ 3072) (h : Rel I J rl rd) (h2 : R 3 2 = some rl) (h3 : R 3 3 = some rd) (k : lo_K L xs Q i) : az_E az_F (az_ex L xs) 1300 258 259 [.ref 0, .ref 3, .ref 73, .int (nI i)] [] (97, I, J, R) Q := by
  obtain ⟨v, I1, I2, x, m, hr⟩ := mt_walker h (xs (i + 1))
  have hY : ∀ R' : Nat → Nat → Option Nat, R' 3 2 = some rl → R' 3 3 = some rd → az_E az_F (az_ex L xs) 1300 258 268 [.ref 0, .ref 3, .ref 73, .int (nI i)] [.int v] (97, I1, J, R') Q := by
    intro R' g2 g3
    refine az_E.sn 5 (pc' := 273) (L' := [.ref 0, .ref 3, .ref 73, .int (nI i)]) (S' := [.int (nI i + (1 : Int32)), .ref 0, .ref 73, .int v]) (σ' := (97, I1, J, R')) rfl ?_
    refine az_E.oi (pc' := 274) (L' := [.ref 0, .ref 3, .ref 73, .int (nI i)]) (S' := [.ref 73, .int v]) (σ' := (97, I1, J, R')) rfl (lo_ai (c := 1) (by decide) hi hL) ?_
    refine az_E.call (d := 1299) (k' := 169) (vs := [.ref 73, .int (xs (i + 1))]) (pc' := 277) (S' := [.int v]) rfl ?_ (fun _ _ hq => hq)
    show az_E az_F (az_ex L xs) 1299 169 0 [.ref 73, .int (xs (i + 1))] [] (97, I1, J, R') _
    refine az_E.deep (by decide) (re_M_walker m ?_)
    show az_E az_F (az_ex L xs) 1300 258 277 [.ref 0, .ref 3, .ref 73, .int (nI i)] [.int v, .int v] (97, I2, J, R') Q
    refine az_E.br (c := v = v) (tt := 1778) (ff := 280) (L' := [.ref 0, .ref 3, .ref 73, .int (nI i)]) (S' := []) (σ' := (97, I2, J, R')) rfl (fun _ => k _ _ _ _ _ hr g2 g3) (fun hc => absurd rfl hc)
  refine az_E.sn 5 (pc' := 264) (L' := [.ref 0, .ref 3, .ref 73, .int (nI i)]) (S' := [.int (nI i + (1 : Int32)), .ref 0, .ref 3]) (σ' := (97, I, J, R)) rfl ?_
  refine az_E.oi (pc' := 265) (L' := [.ref 0, .ref 3, .ref 73, .int (nI i)]) (S' := [.ref 3]) (σ' := (97, I, J, R)) rfl (lo_ai (c := 1) (by decide) hi hL) ?_
  refine az_E.call (d := 1299) (k' := 85) (vs := [.ref 3, .int (xs (i + 1))]) (pc' := 268) (S' := []) rfl ?_ (fun _ _ hq => hq)
  show az_E az_F (az_ex L xs) 1299 85 0 [.ref 3, .int (xs (i + 1))] [] (97, I, J, R) _
  exact az_E.deep (by decide) (re_X_walker x (hY R h2 h3))
set_option maxRecDepth 100000 in
set_option maxHeartbeats 4000000 in
theorem lo_walkers {L i : Nat} {xs : Nat → Int32} {I : Nat → Nat → Int32} {J : Nat → Nat → Int64} {R : Nat → Nat → Option Nat} {rl rd : Nat} {Q : Option Value → az_S → Prop} (hi : i + 6 ≤ L) (hL : L ≤ 3072) (h : Rel I J rl rd) (h2 : R 3 2 = some rl) (h3 : R 3 3 = some rd) (k : lo_K L xs Q i) : az_E az_F (az_ex L xs) 1300 258 282 [.ref 0, .ref 3, .ref 73, .int (nI i)] [] (97, I, J, R) Q := by
  obtain ⟨v, I1, I2, x, m, hr⟩ := mt_walkers h (xs (i + 1)) (xs (i + 2)) (xs (i + 3))
  have hY : ∀ R' : Nat → Nat → Option Nat, R' 3 2 = some rl → R' 3 3 = some rd → az_E az_F (az_ex L xs) 1300 258 301 [.ref 0, .ref 3, .ref 73, .int (nI i)] [.int v] (97, I1, J, R') Q := by
    intro R' g2 g3
    refine az_E.sn 5 (pc' := 306) (L' := [.ref 0, .ref 3, .ref 73, .int (nI i)]) (S' := [.int (nI i + (1 : Int32)), .ref 0, .ref 73, .int v]) (σ' := (97, I1, J, R')) rfl ?_
    refine az_E.oi (pc' := 307) (L' := [.ref 0, .ref 3, .ref 73, .int (nI i)]) (S' := [.ref 73, .int v]) (σ' := (97, I1, J, R')) rfl (lo_ai (c := 1) (by decide) hi hL) ?_
    refine az_E.sn 4 (pc' := 311) (L' := [.ref 0, .ref 3, .ref 73, .int (nI i)]) (S' := [.int (nI i + (2 : Int32)), .ref 0, .int (xs (i + 1)), .ref 73, .int v]) (σ' := (97, I1, J, R')) rfl ?_
    refine az_E.oi (pc' := 312) (L' := [.ref 0, .ref 3, .ref 73, .int (nI i)]) (S' := [.int (xs (i + 1)), .ref 73, .int v]) (σ' := (97, I1, J, R')) rfl (lo_ai (c := 2) (by decide) hi hL) ?_
    refine az_E.sn 4 (pc' := 316) (L' := [.ref 0, .ref 3, .ref 73, .int (nI i)]) (S' := [.int (nI i + (3 : Int32)), .ref 0, .int (xs (i + 2)), .int (xs (i + 1)), .ref 73, .int v]) (σ' := (97, I1, J, R')) rfl ?_
    refine az_E.oi (pc' := 317) (L' := [.ref 0, .ref 3, .ref 73, .int (nI i)]) (S' := [.int (xs (i + 2)), .int (xs (i + 1)), .ref 73, .int v]) (σ' := (97, I1, J, R')) rfl (lo_ai (c := 3) (by decide) hi hL) ?_
    refine az_E.call (d := 1299) (k' := 170) (vs := [.ref 73, .int (xs (i + 1)), .int (xs (i + 2)), .int (xs (i + 3))]) (pc' := 320) (S' := [.int v]) rfl ?_ (fun _ _ hq => hq)
    show az_E az_F (az_ex L xs) 1299 170 0 [.ref 73, .int (xs (i + 1)), .int (xs (i + 2)), .int (xs (i + 3)), .retAddr 0, .retAddr 0, .retAddr 0] [] (97, I1, J, R') _
    refine az_E.deep (by decide) (re_M_walkers m ?_)
    show az_E az_F (az_ex L xs) 1300 258 320 [.ref 0, .ref 3, .ref 73, .int (nI i)] [.int v, .int v] (97, I2, J, R') Q
    refine az_E.br (c := v = v) (tt := 1778) (ff := 323) (L' := [.ref 0, .ref 3, .ref 73, .int (nI i)]) (S' := []) (σ' := (97, I2, J, R')) rfl (fun _ => k _ _ _ _ _ hr g2 g3) (fun hc => absurd rfl hc)
  refine az_E.sn 5 (pc' := 287) (L' := [.ref 0, .ref 3, .ref 73, .int (nI i)]) (S' := [.int (nI i + (1 : Int32)), .ref 0, .ref 3]) (σ' := (97, I, J, R)) rfl ?_
  refine az_E.oi (pc' := 288) (L' := [.ref 0, .ref 3, .ref 73, .int (nI i)]) (S' := [.ref 3]) (σ' := (97, I, J, R)) rfl (lo_ai (c := 1) (by decide) hi hL) ?_
  refine az_E.sn 4 (pc' := 292) (L' := [.ref 0, .ref 3, .ref 73, .int (nI i)]) (S' := [.int (nI i + (2 : Int32)), .ref 0, .int (xs (i + 1)), .ref 3]) (σ' := (97, I, J, R)) rfl ?_
  refine az_E.oi (pc' := 293) (L' := [.ref 0, .ref 3, .ref 73, .int (nI i)]) (S' := [.int (xs (i + 1)), .ref 3]) (σ' := (97, I, J, R)) rfl (lo_ai (c := 2) (by decide) hi hL) ?_
  refine az_E.sn 4 (pc' := 297) (L' := [.ref 0, .ref 3, .ref 73, .int (nI i)]) (S' := [.int (nI i + (3 : Int32)), .ref 0, .int (xs (i + 2)), .int (xs (i + 1)), .ref 3]) (σ' := (97, I, J, R)) rfl ?_
  refine az_E.oi (pc' := 298) (L' := [.ref 0, .ref 3, .ref 73, .int (nI i)]) (S' := [.int (xs (i + 2)), .int (xs (i + 1)), .ref 3]) (σ' := (97, I, J, R)) rfl (lo_ai (c := 3) (by decide) hi hL) ?_
  refine az_E.call (d := 1299) (k' := 86) (vs := [.ref 3, .int (xs (i + 1)), .int (xs (i + 2)), .int (xs (i + 3))]) (pc' := 301) (S' := []) rfl ?_ (fun _ _ hq => hq)
  show az_E az_F (az_ex L xs) 1299 86 0 [.ref 3, .int (xs (i + 1)), .int (xs (i + 2)), .int (xs (i + 3)), .retAddr 0, .retAddr 0] [] (97, I, J, R) _
  exact az_E.deep (by decide) (re_X_walkers x (hY R h2 h3))
set_option maxRecDepth 100000 in
set_option maxHeartbeats 4000000 in
theorem lo_mend {L i : Nat} {xs : Nat → Int32} {I : Nat → Nat → Int32} {J : Nat → Nat → Int64} {R : Nat → Nat → Option Nat} {rl rd : Nat} {Q : Option Value → az_S → Prop} (hi : i + 6 ≤ L) (hL : L ≤ 3072) (h : Rel I J rl rd) (h2 : R 3 2 = some rl) (h3 : R 3 3 = some rd) (k : lo_K L xs Q i) : az_E az_F (az_ex L xs) 1300 258 325 [.ref 0, .ref 3, .ref 73, .int (nI i)] [] (97, I, J, R) Q := by
  obtain ⟨v, I1, I2, x, m, hr⟩ := mt_mend h (xs (i + 1)) (xs (i + 2)) (xs (i + 3))
  have hY : ∀ R' : Nat → Nat → Option Nat, R' 3 2 = some rl → R' 3 3 = some rd → az_E az_F (az_ex L xs) 1300 258 344 [.ref 0, .ref 3, .ref 73, .int (nI i)] [.int v] (97, I1, J, R') Q := by
    intro R' g2 g3
    refine az_E.sn 5 (pc' := 349) (L' := [.ref 0, .ref 3, .ref 73, .int (nI i)]) (S' := [.int (nI i + (1 : Int32)), .ref 0, .ref 73, .int v]) (σ' := (97, I1, J, R')) rfl ?_
    refine az_E.oi (pc' := 350) (L' := [.ref 0, .ref 3, .ref 73, .int (nI i)]) (S' := [.ref 73, .int v]) (σ' := (97, I1, J, R')) rfl (lo_ai (c := 1) (by decide) hi hL) ?_
    refine az_E.sn 4 (pc' := 354) (L' := [.ref 0, .ref 3, .ref 73, .int (nI i)]) (S' := [.int (nI i + (2 : Int32)), .ref 0, .int (xs (i + 1)), .ref 73, .int v]) (σ' := (97, I1, J, R')) rfl ?_
    refine az_E.oi (pc' := 355) (L' := [.ref 0, .ref 3, .ref 73, .int (nI i)]) (S' := [.int (xs (i + 1)), .ref 73, .int v]) (σ' := (97, I1, J, R')) rfl (lo_ai (c := 2) (by decide) hi hL) ?_
    refine az_E.sn 4 (pc' := 359) (L' := [.ref 0, .ref 3, .ref 73, .int (nI i)]) (S' := [.int (nI i + (3 : Int32)), .ref 0, .int (xs (i + 2)), .int (xs (i + 1)), .ref 73, .int v]) (σ' := (97, I1, J, R')) rfl ?_
    refine az_E.oi (pc' := 360) (L' := [.ref 0, .ref 3, .ref 73, .int (nI i)]) (S' := [.int (xs (i + 2)), .int (xs (i + 1)), .ref 73, .int v]) (σ' := (97, I1, J, R')) rfl (lo_ai (c := 3) (by decide) hi hL) ?_
    refine az_E.call (d := 1299) (k' := 173) (vs := [.ref 73, .int (xs (i + 1)), .int (xs (i + 2)), .int (xs (i + 3))]) (pc' := 363) (S' := [.int v]) rfl ?_ (fun _ _ hq => hq)
    show az_E az_F (az_ex L xs) 1299 173 0 [.ref 73, .int (xs (i + 1)), .int (xs (i + 2)), .int (xs (i + 3)), .retAddr 0] [] (97, I1, J, R') _
    refine az_E.deep (by decide) (re_M_mend m ?_)
    show az_E az_F (az_ex L xs) 1300 258 363 [.ref 0, .ref 3, .ref 73, .int (nI i)] [.int v, .int v] (97, I2, J, R') Q
    refine az_E.br (c := v = v) (tt := 1778) (ff := 366) (L' := [.ref 0, .ref 3, .ref 73, .int (nI i)]) (S' := []) (σ' := (97, I2, J, R')) rfl (fun _ => k _ _ _ _ _ hr g2 g3) (fun hc => absurd rfl hc)
  refine az_E.sn 5 (pc' := 330) (L' := [.ref 0, .ref 3, .ref 73, .int (nI i)]) (S' := [.int (nI i + (1 : Int32)), .ref 0, .ref 3]) (σ' := (97, I, J, R)) rfl ?_
  refine az_E.oi (pc' := 331) (L' := [.ref 0, .ref 3, .ref 73, .int (nI i)]) (S' := [.ref 3]) (σ' := (97, I, J, R)) rfl (lo_ai (c := 1) (by decide) hi hL) ?_
  refine az_E.sn 4 (pc' := 335) (L' := [.ref 0, .ref 3, .ref 73, .int (nI i)]) (S' := [.int (nI i + (2 : Int32)), .ref 0, .int (xs (i + 1)), .ref 3]) (σ' := (97, I, J, R)) rfl ?_
  refine az_E.oi (pc' := 336) (L' := [.ref 0, .ref 3, .ref 73, .int (nI i)]) (S' := [.int (xs (i + 1)), .ref 3]) (σ' := (97, I, J, R)) rfl (lo_ai (c := 2) (by decide) hi hL) ?_
  refine az_E.sn 4 (pc' := 340) (L' := [.ref 0, .ref 3, .ref 73, .int (nI i)]) (S' := [.int (nI i + (3 : Int32)), .ref 0, .int (xs (i + 2)), .int (xs (i + 1)), .ref 3]) (σ' := (97, I, J, R)) rfl ?_
  refine az_E.oi (pc' := 341) (L' := [.ref 0, .ref 3, .ref 73, .int (nI i)]) (S' := [.int (xs (i + 2)), .int (xs (i + 1)), .ref 3]) (σ' := (97, I, J, R)) rfl (lo_ai (c := 3) (by decide) hi hL) ?_
  refine az_E.call (d := 1299) (k' := 87) (vs := [.ref 3, .int (xs (i + 1)), .int (xs (i + 2)), .int (xs (i + 3))]) (pc' := 344) (S' := []) rfl ?_ (fun _ _ hq => hq)
  show az_E az_F (az_ex L xs) 1299 87 0 [.ref 3, .int (xs (i + 1)), .int (xs (i + 2)), .int (xs (i + 3)), .retAddr 0] [] (97, I, J, R) _
  exact az_E.deep (by decide) (re_X_mend x (hY R h2 h3))
set_option maxRecDepth 100000 in
set_option maxHeartbeats 4000000 in
theorem lo_of {L i : Nat} {xs : Nat → Int32} {I : Nat → Nat → Int32} {J : Nat → Nat → Int64} {R : Nat → Nat → Option Nat} {rl rd : Nat} {Q : Option Value → az_S → Prop} (hi : i + 6 ≤ L) (hL : L ≤ 3072) (h : Rel I J rl rd) (h2 : R 3 2 = some rl) (h3 : R 3 3 = some rd) (k : lo_K L xs Q i) : az_E az_F (az_ex L xs) 1300 258 368 [.ref 0, .ref 3, .ref 73, .int (nI i)] [] (97, I, J, R) Q := by
  obtain ⟨v, x, m⟩ := mt_of h (xs (i + 1)) (xs (i + 2))
  have hY : ∀ R' : Nat → Nat → Option Nat, R' 3 2 = some rl → R' 3 3 = some rd → az_E az_F (az_ex L xs) 1300 258 382 [.ref 0, .ref 3, .ref 73, .int (nI i)] [.int v] (97, I, J, R') Q := by
    intro R' g2 g3
    refine az_E.sn 5 (pc' := 387) (L' := [.ref 0, .ref 3, .ref 73, .int (nI i)]) (S' := [.int (nI i + (1 : Int32)), .ref 0, .ref 73, .int v]) (σ' := (97, I, J, R')) rfl ?_
    refine az_E.oi (pc' := 388) (L' := [.ref 0, .ref 3, .ref 73, .int (nI i)]) (S' := [.ref 73, .int v]) (σ' := (97, I, J, R')) rfl (lo_ai (c := 1) (by decide) hi hL) ?_
    refine az_E.sn 4 (pc' := 392) (L' := [.ref 0, .ref 3, .ref 73, .int (nI i)]) (S' := [.int (nI i + (2 : Int32)), .ref 0, .int (xs (i + 1)), .ref 73, .int v]) (σ' := (97, I, J, R')) rfl ?_
    refine az_E.oi (pc' := 393) (L' := [.ref 0, .ref 3, .ref 73, .int (nI i)]) (S' := [.int (xs (i + 1)), .ref 73, .int v]) (σ' := (97, I, J, R')) rfl (lo_ai (c := 2) (by decide) hi hL) ?_
    refine az_E.call (d := 1299) (k' := 174) (vs := [.ref 73, .int (xs (i + 1)), .int (xs (i + 2))]) (pc' := 396) (S' := [.int v]) rfl ?_ (fun _ _ hq => hq)
    show az_E az_F (az_ex L xs) 1299 174 0 [.ref 73, .int (xs (i + 1)), .int (xs (i + 2)), .retAddr 0] [] (97, I, J, R') _
    refine az_E.deep (by decide) (re_M_of m ?_)
    show az_E az_F (az_ex L xs) 1300 258 396 [.ref 0, .ref 3, .ref 73, .int (nI i)] [.int v, .int v] (97, I, J, R') Q
    refine az_E.br (c := v = v) (tt := 1778) (ff := 399) (L' := [.ref 0, .ref 3, .ref 73, .int (nI i)]) (S' := []) (σ' := (97, I, J, R')) rfl (fun _ => k _ _ _ _ _ h g2 g3) (fun hc => absurd rfl hc)
  refine az_E.sn 5 (pc' := 373) (L' := [.ref 0, .ref 3, .ref 73, .int (nI i)]) (S' := [.int (nI i + (1 : Int32)), .ref 0, .ref 3]) (σ' := (97, I, J, R)) rfl ?_
  refine az_E.oi (pc' := 374) (L' := [.ref 0, .ref 3, .ref 73, .int (nI i)]) (S' := [.ref 3]) (σ' := (97, I, J, R)) rfl (lo_ai (c := 1) (by decide) hi hL) ?_
  refine az_E.sn 4 (pc' := 378) (L' := [.ref 0, .ref 3, .ref 73, .int (nI i)]) (S' := [.int (nI i + (2 : Int32)), .ref 0, .int (xs (i + 1)), .ref 3]) (σ' := (97, I, J, R)) rfl ?_
  refine az_E.oi (pc' := 379) (L' := [.ref 0, .ref 3, .ref 73, .int (nI i)]) (S' := [.int (xs (i + 1)), .ref 3]) (σ' := (97, I, J, R)) rfl (lo_ai (c := 2) (by decide) hi hL) ?_
  refine az_E.call (d := 1299) (k' := 88) (vs := [.ref 3, .int (xs (i + 1)), .int (xs (i + 2))]) (pc' := 382) (S' := []) rfl ?_ (fun _ _ hq => hq)
  show az_E az_F (az_ex L xs) 1299 88 0 [.ref 3, .int (xs (i + 1)), .int (xs (i + 2))] [] (97, I, J, R) _
  exact az_E.deep (by decide) (re_X_of x (hY R h2 h3))
set_option maxRecDepth 100000 in
set_option maxHeartbeats 4000000 in
theorem lo_feed {L i : Nat} {xs : Nat → Int32} {I : Nat → Nat → Int32} {J : Nat → Nat → Int64} {R : Nat → Nat → Option Nat} {rl rd : Nat} {Q : Option Value → az_S → Prop} (hi : i + 6 ≤ L) (hL : L ≤ 3072) (h : Rel I J rl rd) (h2 : R 3 2 = some rl) (h3 : R 3 3 = some rd) (k : lo_K L xs Q i) : az_E az_F (az_ex L xs) 1300 258 401 [.ref 0, .ref 3, .ref 73, .int (nI i)] [] (97, I, J, R) Q := by
  obtain ⟨v, I1, I2, x, m, hr⟩ := mt_feed h (xs (i + 1))
  have hY : ∀ R' : Nat → Nat → Option Nat, R' 3 2 = some rl → R' 3 3 = some rd → az_E az_F (az_ex L xs) 1300 258 410 [.ref 0, .ref 3, .ref 73, .int (nI i)] [.int v] (97, I1, J, R') Q := by
    intro R' g2 g3
    refine az_E.sn 5 (pc' := 415) (L' := [.ref 0, .ref 3, .ref 73, .int (nI i)]) (S' := [.int (nI i + (1 : Int32)), .ref 0, .ref 73, .int v]) (σ' := (97, I1, J, R')) rfl ?_
    refine az_E.oi (pc' := 416) (L' := [.ref 0, .ref 3, .ref 73, .int (nI i)]) (S' := [.ref 73, .int v]) (σ' := (97, I1, J, R')) rfl (lo_ai (c := 1) (by decide) hi hL) ?_
    refine az_E.call (d := 1299) (k' := 175) (vs := [.ref 73, .int (xs (i + 1))]) (pc' := 419) (S' := [.int v]) rfl ?_ (fun _ _ hq => hq)
    show az_E az_F (az_ex L xs) 1299 175 0 [.ref 73, .int (xs (i + 1))] [] (97, I1, J, R') _
    refine az_E.deep (by decide) (re_M_feed m ?_)
    show az_E az_F (az_ex L xs) 1300 258 419 [.ref 0, .ref 3, .ref 73, .int (nI i)] [.int v, .int v] (97, I2, J, R') Q
    refine az_E.br (c := v = v) (tt := 1778) (ff := 422) (L' := [.ref 0, .ref 3, .ref 73, .int (nI i)]) (S' := []) (σ' := (97, I2, J, R')) rfl (fun _ => k _ _ _ _ _ hr g2 g3) (fun hc => absurd rfl hc)
  refine az_E.sn 5 (pc' := 406) (L' := [.ref 0, .ref 3, .ref 73, .int (nI i)]) (S' := [.int (nI i + (1 : Int32)), .ref 0, .ref 3]) (σ' := (97, I, J, R)) rfl ?_
  refine az_E.oi (pc' := 407) (L' := [.ref 0, .ref 3, .ref 73, .int (nI i)]) (S' := [.ref 3]) (σ' := (97, I, J, R)) rfl (lo_ai (c := 1) (by decide) hi hL) ?_
  refine az_E.call (d := 1299) (k' := 89) (vs := [.ref 3, .int (xs (i + 1))]) (pc' := 410) (S' := []) rfl ?_ (fun _ _ hq => hq)
  show az_E az_F (az_ex L xs) 1299 89 0 [.ref 3, .int (xs (i + 1))] [] (97, I, J, R) _
  exact az_E.deep (by decide) (re_X_feed x (hY R h2 h3))
set_option maxRecDepth 100000 in
set_option maxHeartbeats 4000000 in
theorem lo_law {L i : Nat} {xs : Nat → Int32} {I : Nat → Nat → Int32} {J : Nat → Nat → Int64} {R : Nat → Nat → Option Nat} {rl rd : Nat} {Q : Option Value → az_S → Prop} (hi : i + 6 ≤ L) (hL : L ≤ 3072) (h : Rel I J rl rd) (h2 : R 3 2 = some rl) (h3 : R 3 3 = some rd) (k : lo_K L xs Q i) : az_E az_F (az_ex L xs) 1300 258 424 [.ref 0, .ref 3, .ref 73, .int (nI i)] [] (97, I, J, R) Q := by
  obtain ⟨v, I1, rl', rd', I2, x, m, hr⟩ := mt_law h 
  have hY : ∀ R' : Nat → Nat → Option Nat, R' 3 2 = some rl' → R' 3 3 = some rd' → az_E az_F (az_ex L xs) 1300 258 428 [.ref 0, .ref 3, .ref 73, .int (nI i)] [.int v] (97, I1, J, R') Q := by
    intro R' g2 g3
    refine az_E.sn 1 (pc' := 429) (L' := [.ref 0, .ref 3, .ref 73, .int (nI i)]) (S' := [.ref 73, .int v]) (σ' := (97, I1, J, R')) rfl ?_
    refine az_E.call (d := 1299) (k' := 187) (vs := [.ref 73]) (pc' := 432) (S' := [.int v]) rfl ?_ (fun _ _ hq => hq)
    show az_E az_F (az_ex L xs) 1299 187 0 [.ref 73, .retAddr 0, .retAddr 0, .retAddr 0] [] (97, I1, J, R') _
    refine az_E.deep (by decide) (re_M_law m ?_)
    show az_E az_F (az_ex L xs) 1300 258 432 [.ref 0, .ref 3, .ref 73, .int (nI i)] [.int v, .int v] (97, I2, J, R') Q
    refine az_E.br (c := v = v) (tt := 1778) (ff := 435) (L' := [.ref 0, .ref 3, .ref 73, .int (nI i)]) (S' := []) (σ' := (97, I2, J, R')) rfl (fun _ => k _ _ _ _ _ hr g2 g3) (fun hc => absurd rfl hc)
  refine az_E.sn 1 (pc' := 425) (L' := [.ref 0, .ref 3, .ref 73, .int (nI i)]) (S' := [.ref 3]) (σ' := (97, I, J, R)) rfl ?_
  refine az_E.call (d := 1299) (k' := 90) (vs := [.ref 3]) (pc' := 428) (S' := []) rfl ?_ (fun _ _ hq => hq)
  show az_E az_F (az_ex L xs) 1299 90 0 [.ref 3, .retAddr 0, .retAddr 0] [] (97, I, J, R) _
  rcases lo_rl h with ⟨rfl, rfl⟩ | ⟨rfl, rfl⟩
  · exact az_E.deep (by decide) (re_X_law_16_21 h2 h3 x (fun R' g2 g3 => hY R' g2 g3))
  · exact az_E.deep (by decide) (re_X_law_21_16 h2 h3 x (fun R' g2 g3 => hY R' g2 g3))
set_option maxRecDepth 100000 in
set_option maxHeartbeats 4000000 in
theorem lo_step {L i : Nat} {xs : Nat → Int32} {I : Nat → Nat → Int32} {J : Nat → Nat → Int64} {R : Nat → Nat → Option Nat} {rl rd : Nat} {Q : Option Value → az_S → Prop} (hi : i + 6 ≤ L) (hL : L ≤ 3072) (h : Rel I J rl rd) (h2 : R 3 2 = some rl) (h3 : R 3 3 = some rd) (k : lo_K L xs Q i) : az_E az_F (az_ex L xs) 1300 258 437 [.ref 0, .ref 3, .ref 73, .int (nI i)] [] (97, I, J, R) Q := by
  obtain ⟨v, I1, I2, x, m, hr⟩ := mt_step h (xs (i + 1)) (xs (i + 2))
  have hY : ∀ R' : Nat → Nat → Option Nat, R' 3 2 = some rl → R' 3 3 = some rd → az_E az_F (az_ex L xs) 1300 258 451 [.ref 0, .ref 3, .ref 73, .int (nI i)] [.int v] (97, I1, J, R') Q := by
    intro R' g2 g3
    refine az_E.sn 5 (pc' := 456) (L' := [.ref 0, .ref 3, .ref 73, .int (nI i)]) (S' := [.int (nI i + (1 : Int32)), .ref 0, .ref 73, .int v]) (σ' := (97, I1, J, R')) rfl ?_
    refine az_E.oi (pc' := 457) (L' := [.ref 0, .ref 3, .ref 73, .int (nI i)]) (S' := [.ref 73, .int v]) (σ' := (97, I1, J, R')) rfl (lo_ai (c := 1) (by decide) hi hL) ?_
    refine az_E.sn 4 (pc' := 461) (L' := [.ref 0, .ref 3, .ref 73, .int (nI i)]) (S' := [.int (nI i + (2 : Int32)), .ref 0, .int (xs (i + 1)), .ref 73, .int v]) (σ' := (97, I1, J, R')) rfl ?_
    refine az_E.oi (pc' := 462) (L' := [.ref 0, .ref 3, .ref 73, .int (nI i)]) (S' := [.int (xs (i + 1)), .ref 73, .int v]) (σ' := (97, I1, J, R')) rfl (lo_ai (c := 2) (by decide) hi hL) ?_
    refine az_E.call (d := 1299) (k' := 196) (vs := [.ref 73, .int (xs (i + 1)), .int (xs (i + 2))]) (pc' := 465) (S' := [.int v]) rfl ?_ (fun _ _ hq => hq)
    show az_E az_F (az_ex L xs) 1299 196 0 [.ref 73, .int (xs (i + 1)), .int (xs (i + 2)), .retAddr 0, .retAddr 0] [] (97, I1, J, R') _
    refine az_E.deep (by decide) (re_M_step m ?_)
    show az_E az_F (az_ex L xs) 1300 258 465 [.ref 0, .ref 3, .ref 73, .int (nI i)] [.int v, .int v] (97, I2, J, R') Q
    refine az_E.br (c := v = v) (tt := 1778) (ff := 468) (L' := [.ref 0, .ref 3, .ref 73, .int (nI i)]) (S' := []) (σ' := (97, I2, J, R')) rfl (fun _ => k _ _ _ _ _ hr g2 g3) (fun hc => absurd rfl hc)
  refine az_E.sn 5 (pc' := 442) (L' := [.ref 0, .ref 3, .ref 73, .int (nI i)]) (S' := [.int (nI i + (1 : Int32)), .ref 0, .ref 3]) (σ' := (97, I, J, R)) rfl ?_
  refine az_E.oi (pc' := 443) (L' := [.ref 0, .ref 3, .ref 73, .int (nI i)]) (S' := [.ref 3]) (σ' := (97, I, J, R)) rfl (lo_ai (c := 1) (by decide) hi hL) ?_
  refine az_E.sn 4 (pc' := 447) (L' := [.ref 0, .ref 3, .ref 73, .int (nI i)]) (S' := [.int (nI i + (2 : Int32)), .ref 0, .int (xs (i + 1)), .ref 3]) (σ' := (97, I, J, R)) rfl ?_
  refine az_E.oi (pc' := 448) (L' := [.ref 0, .ref 3, .ref 73, .int (nI i)]) (S' := [.int (xs (i + 1)), .ref 3]) (σ' := (97, I, J, R)) rfl (lo_ai (c := 2) (by decide) hi hL) ?_
  refine az_E.call (d := 1299) (k' := 91) (vs := [.ref 3, .int (xs (i + 1)), .int (xs (i + 2))]) (pc' := 451) (S' := []) rfl ?_ (fun _ _ hq => hq)
  show az_E az_F (az_ex L xs) 1299 91 0 [.ref 3, .int (xs (i + 1)), .int (xs (i + 2))] [] (97, I, J, R) _
  rcases lo_rl h with ⟨rfl, rfl⟩ | ⟨rfl, rfl⟩
  · exact az_E.deep (by decide) (re_X_step_16 h2 x (hY R h2 h3))
  · exact az_E.deep (by decide) (re_X_step_21 h2 x (hY R h2 h3))
set_option maxRecDepth 100000 in
set_option maxHeartbeats 4000000 in
theorem lo_arm {L i : Nat} {xs : Nat → Int32} {I : Nat → Nat → Int32} {J : Nat → Nat → Int64} {R : Nat → Nat → Option Nat} {rl rd : Nat} {Q : Option Value → az_S → Prop} (hi : i + 6 ≤ L) (hL : L ≤ 3072) (h : Rel I J rl rd) (h2 : R 3 2 = some rl) (h3 : R 3 3 = some rd) (k : lo_K L xs Q i) : az_E az_F (az_ex L xs) 1300 258 470 [.ref 0, .ref 3, .ref 73, .int (nI i)] [] (97, I, J, R) Q := by
  obtain ⟨v, I1, I2, x, m, hr⟩ := mt_arm h (xs (i + 1))
  have hY : ∀ R' : Nat → Nat → Option Nat, R' 3 2 = some rl → R' 3 3 = some rd → az_E az_F (az_ex L xs) 1300 258 479 [.ref 0, .ref 3, .ref 73, .int (nI i)] [.int v] (97, I1, J, R') Q := by
    intro R' g2 g3
    refine az_E.sn 5 (pc' := 484) (L' := [.ref 0, .ref 3, .ref 73, .int (nI i)]) (S' := [.int (nI i + (1 : Int32)), .ref 0, .ref 73, .int v]) (σ' := (97, I1, J, R')) rfl ?_
    refine az_E.oi (pc' := 485) (L' := [.ref 0, .ref 3, .ref 73, .int (nI i)]) (S' := [.ref 73, .int v]) (σ' := (97, I1, J, R')) rfl (lo_ai (c := 1) (by decide) hi hL) ?_
    refine az_E.call (d := 1299) (k' := 198) (vs := [.ref 73, .int (xs (i + 1))]) (pc' := 488) (S' := [.int v]) rfl ?_ (fun _ _ hq => hq)
    show az_E az_F (az_ex L xs) 1299 198 0 [.ref 73, .int (xs (i + 1))] [] (97, I1, J, R') _
    refine az_E.deep (by decide) (re_M_arm m ?_)
    show az_E az_F (az_ex L xs) 1300 258 488 [.ref 0, .ref 3, .ref 73, .int (nI i)] [.int v, .int v] (97, I2, J, R') Q
    refine az_E.br (c := v = v) (tt := 1778) (ff := 491) (L' := [.ref 0, .ref 3, .ref 73, .int (nI i)]) (S' := []) (σ' := (97, I2, J, R')) rfl (fun _ => k _ _ _ _ _ hr g2 g3) (fun hc => absurd rfl hc)
  refine az_E.sn 5 (pc' := 475) (L' := [.ref 0, .ref 3, .ref 73, .int (nI i)]) (S' := [.int (nI i + (1 : Int32)), .ref 0, .ref 3]) (σ' := (97, I, J, R)) rfl ?_
  refine az_E.oi (pc' := 476) (L' := [.ref 0, .ref 3, .ref 73, .int (nI i)]) (S' := [.ref 3]) (σ' := (97, I, J, R)) rfl (lo_ai (c := 1) (by decide) hi hL) ?_
  refine az_E.call (d := 1299) (k' := 92) (vs := [.ref 3, .int (xs (i + 1))]) (pc' := 479) (S' := []) rfl ?_ (fun _ _ hq => hq)
  show az_E az_F (az_ex L xs) 1299 92 0 [.ref 3, .int (xs (i + 1))] [] (97, I, J, R) _
  rcases lo_rl h with ⟨rfl, rfl⟩ | ⟨rfl, rfl⟩
  · exact az_E.deep (by decide) (re_X_arm_16_21 h2 h3 x (fun R' g2 g3 => hY R' g2 g3))
  · exact az_E.deep (by decide) (re_X_arm_21_16 h2 h3 x (fun R' g2 g3 => hY R' g2 g3))
set_option maxRecDepth 100000 in
set_option maxHeartbeats 4000000 in
theorem lo_way {L i : Nat} {xs : Nat → Int32} {I : Nat → Nat → Int32} {J : Nat → Nat → Int64} {R : Nat → Nat → Option Nat} {rl rd : Nat} {Q : Option Value → az_S → Prop} (hi : i + 6 ≤ L) (hL : L ≤ 3072) (h : Rel I J rl rd) (h2 : R 3 2 = some rl) (h3 : R 3 3 = some rd) (k : lo_K L xs Q i) : az_E az_F (az_ex L xs) 1300 258 493 [.ref 0, .ref 3, .ref 73, .int (nI i)] [] (97, I, J, R) Q := by
  obtain ⟨v, I1, I2, x, m, hr⟩ := mt_way h (xs (i + 1)) (xs (i + 2)) (xs (i + 3))
  have hY : ∀ R' : Nat → Nat → Option Nat, R' 3 2 = some rl → R' 3 3 = some rd → az_E az_F (az_ex L xs) 1300 258 512 [.ref 0, .ref 3, .ref 73, .int (nI i)] [.int v] (97, I1, J, R') Q := by
    intro R' g2 g3
    refine az_E.sn 5 (pc' := 517) (L' := [.ref 0, .ref 3, .ref 73, .int (nI i)]) (S' := [.int (nI i + (1 : Int32)), .ref 0, .ref 73, .int v]) (σ' := (97, I1, J, R')) rfl ?_
    refine az_E.oi (pc' := 518) (L' := [.ref 0, .ref 3, .ref 73, .int (nI i)]) (S' := [.ref 73, .int v]) (σ' := (97, I1, J, R')) rfl (lo_ai (c := 1) (by decide) hi hL) ?_
    refine az_E.sn 4 (pc' := 522) (L' := [.ref 0, .ref 3, .ref 73, .int (nI i)]) (S' := [.int (nI i + (2 : Int32)), .ref 0, .int (xs (i + 1)), .ref 73, .int v]) (σ' := (97, I1, J, R')) rfl ?_
    refine az_E.oi (pc' := 523) (L' := [.ref 0, .ref 3, .ref 73, .int (nI i)]) (S' := [.int (xs (i + 1)), .ref 73, .int v]) (σ' := (97, I1, J, R')) rfl (lo_ai (c := 2) (by decide) hi hL) ?_
    refine az_E.sn 4 (pc' := 527) (L' := [.ref 0, .ref 3, .ref 73, .int (nI i)]) (S' := [.int (nI i + (3 : Int32)), .ref 0, .int (xs (i + 2)), .int (xs (i + 1)), .ref 73, .int v]) (σ' := (97, I1, J, R')) rfl ?_
    refine az_E.oi (pc' := 528) (L' := [.ref 0, .ref 3, .ref 73, .int (nI i)]) (S' := [.int (xs (i + 2)), .int (xs (i + 1)), .ref 73, .int v]) (σ' := (97, I1, J, R')) rfl (lo_ai (c := 3) (by decide) hi hL) ?_
    refine az_E.call (d := 1299) (k' := 200) (vs := [.ref 73, .int (xs (i + 1)), .int (xs (i + 2)), .int (xs (i + 3))]) (pc' := 531) (S' := [.int v]) rfl ?_ (fun _ _ hq => hq)
    show az_E az_F (az_ex L xs) 1299 200 0 [.ref 73, .int (xs (i + 1)), .int (xs (i + 2)), .int (xs (i + 3)), .retAddr 0, .retAddr 0, .retAddr 0, .retAddr 0] [] (97, I1, J, R') _
    refine az_E.deep (by decide) (re_M_way m ?_)
    show az_E az_F (az_ex L xs) 1300 258 531 [.ref 0, .ref 3, .ref 73, .int (nI i)] [.int v, .int v] (97, I2, J, R') Q
    refine az_E.br (c := v = v) (tt := 1778) (ff := 534) (L' := [.ref 0, .ref 3, .ref 73, .int (nI i)]) (S' := []) (σ' := (97, I2, J, R')) rfl (fun _ => k _ _ _ _ _ hr g2 g3) (fun hc => absurd rfl hc)
  refine az_E.sn 5 (pc' := 498) (L' := [.ref 0, .ref 3, .ref 73, .int (nI i)]) (S' := [.int (nI i + (1 : Int32)), .ref 0, .ref 3]) (σ' := (97, I, J, R)) rfl ?_
  refine az_E.oi (pc' := 499) (L' := [.ref 0, .ref 3, .ref 73, .int (nI i)]) (S' := [.ref 3]) (σ' := (97, I, J, R)) rfl (lo_ai (c := 1) (by decide) hi hL) ?_
  refine az_E.sn 4 (pc' := 503) (L' := [.ref 0, .ref 3, .ref 73, .int (nI i)]) (S' := [.int (nI i + (2 : Int32)), .ref 0, .int (xs (i + 1)), .ref 3]) (σ' := (97, I, J, R)) rfl ?_
  refine az_E.oi (pc' := 504) (L' := [.ref 0, .ref 3, .ref 73, .int (nI i)]) (S' := [.int (xs (i + 1)), .ref 3]) (σ' := (97, I, J, R)) rfl (lo_ai (c := 2) (by decide) hi hL) ?_
  refine az_E.sn 4 (pc' := 508) (L' := [.ref 0, .ref 3, .ref 73, .int (nI i)]) (S' := [.int (nI i + (3 : Int32)), .ref 0, .int (xs (i + 2)), .int (xs (i + 1)), .ref 3]) (σ' := (97, I, J, R)) rfl ?_
  refine az_E.oi (pc' := 509) (L' := [.ref 0, .ref 3, .ref 73, .int (nI i)]) (S' := [.int (xs (i + 2)), .int (xs (i + 1)), .ref 3]) (σ' := (97, I, J, R)) rfl (lo_ai (c := 3) (by decide) hi hL) ?_
  refine az_E.call (d := 1299) (k' := 93) (vs := [.ref 3, .int (xs (i + 1)), .int (xs (i + 2)), .int (xs (i + 3))]) (pc' := 512) (S' := []) rfl ?_ (fun _ _ hq => hq)
  show az_E az_F (az_ex L xs) 1299 93 0 [.ref 3, .int (xs (i + 1)), .int (xs (i + 2)), .int (xs (i + 3))] [] (97, I, J, R) _
  rcases lo_rl h with ⟨rfl, rfl⟩ | ⟨rfl, rfl⟩
  · exact az_E.deep (by decide) (re_X_way_16_21 h2 h3 x (fun R' g2 g3 => hY R' g2 g3))
  · exact az_E.deep (by decide) (re_X_way_21_16 h2 h3 x (fun R' g2 g3 => hY R' g2 g3))
set_option maxRecDepth 100000 in
set_option maxHeartbeats 4000000 in
theorem lo_reach {L i : Nat} {xs : Nat → Int32} {I : Nat → Nat → Int32} {J : Nat → Nat → Int64} {R : Nat → Nat → Option Nat} {rl rd : Nat} {Q : Option Value → az_S → Prop} (hi : i + 6 ≤ L) (hL : L ≤ 3072) (h : Rel I J rl rd) (h2 : R 3 2 = some rl) (h3 : R 3 3 = some rd) (k : lo_K L xs Q i) : az_E az_F (az_ex L xs) 1300 258 536 [.ref 0, .ref 3, .ref 73, .int (nI i)] [] (97, I, J, R) Q := by
  obtain ⟨v, I1, I2, x, m, hr⟩ := mt_reach h (xs (i + 1)) (xs (i + 2)) (xs (i + 3)) (xs (i + 4))
  have hY : ∀ R' : Nat → Nat → Option Nat, R' 3 2 = some rl → R' 3 3 = some rd → az_E az_F (az_ex L xs) 1300 258 560 [.ref 0, .ref 3, .ref 73, .int (nI i)] [.int v] (97, I1, J, R') Q := by
    intro R' g2 g3
    refine az_E.sn 5 (pc' := 565) (L' := [.ref 0, .ref 3, .ref 73, .int (nI i)]) (S' := [.int (nI i + (1 : Int32)), .ref 0, .ref 73, .int v]) (σ' := (97, I1, J, R')) rfl ?_
    refine az_E.oi (pc' := 566) (L' := [.ref 0, .ref 3, .ref 73, .int (nI i)]) (S' := [.ref 73, .int v]) (σ' := (97, I1, J, R')) rfl (lo_ai (c := 1) (by decide) hi hL) ?_
    refine az_E.sn 4 (pc' := 570) (L' := [.ref 0, .ref 3, .ref 73, .int (nI i)]) (S' := [.int (nI i + (2 : Int32)), .ref 0, .int (xs (i + 1)), .ref 73, .int v]) (σ' := (97, I1, J, R')) rfl ?_
    refine az_E.oi (pc' := 571) (L' := [.ref 0, .ref 3, .ref 73, .int (nI i)]) (S' := [.int (xs (i + 1)), .ref 73, .int v]) (σ' := (97, I1, J, R')) rfl (lo_ai (c := 2) (by decide) hi hL) ?_
    refine az_E.sn 4 (pc' := 575) (L' := [.ref 0, .ref 3, .ref 73, .int (nI i)]) (S' := [.int (nI i + (3 : Int32)), .ref 0, .int (xs (i + 2)), .int (xs (i + 1)), .ref 73, .int v]) (σ' := (97, I1, J, R')) rfl ?_
    refine az_E.oi (pc' := 576) (L' := [.ref 0, .ref 3, .ref 73, .int (nI i)]) (S' := [.int (xs (i + 2)), .int (xs (i + 1)), .ref 73, .int v]) (σ' := (97, I1, J, R')) rfl (lo_ai (c := 3) (by decide) hi hL) ?_
    refine az_E.sn 4 (pc' := 580) (L' := [.ref 0, .ref 3, .ref 73, .int (nI i)]) (S' := [.int (nI i + (4 : Int32)), .ref 0, .int (xs (i + 3)), .int (xs (i + 2)), .int (xs (i + 1)), .ref 73, .int v]) (σ' := (97, I1, J, R')) rfl ?_
    refine az_E.oi (pc' := 581) (L' := [.ref 0, .ref 3, .ref 73, .int (nI i)]) (S' := [.int (xs (i + 3)), .int (xs (i + 2)), .int (xs (i + 1)), .ref 73, .int v]) (σ' := (97, I1, J, R')) rfl (lo_ai (c := 4) (by decide) hi hL) ?_
    refine az_E.call (d := 1299) (k' := 201) (vs := [.ref 73, .int (xs (i + 1)), .int (xs (i + 2)), .int (xs (i + 3)), .int (xs (i + 4))]) (pc' := 584) (S' := [.int v]) rfl ?_ (fun _ _ hq => hq)
    show az_E az_F (az_ex L xs) 1299 201 0 [.ref 73, .int (xs (i + 1)), .int (xs (i + 2)), .int (xs (i + 3)), .int (xs (i + 4)), .retAddr 0, .retAddr 0, .retAddr 0] [] (97, I1, J, R') _
    refine az_E.deep (by decide) (re_M_reach m ?_)
    show az_E az_F (az_ex L xs) 1300 258 584 [.ref 0, .ref 3, .ref 73, .int (nI i)] [.int v, .int v] (97, I2, J, R') Q
    refine az_E.br (c := v = v) (tt := 1778) (ff := 587) (L' := [.ref 0, .ref 3, .ref 73, .int (nI i)]) (S' := []) (σ' := (97, I2, J, R')) rfl (fun _ => k _ _ _ _ _ hr g2 g3) (fun hc => absurd rfl hc)
  refine az_E.sn 5 (pc' := 541) (L' := [.ref 0, .ref 3, .ref 73, .int (nI i)]) (S' := [.int (nI i + (1 : Int32)), .ref 0, .ref 3]) (σ' := (97, I, J, R)) rfl ?_
  refine az_E.oi (pc' := 542) (L' := [.ref 0, .ref 3, .ref 73, .int (nI i)]) (S' := [.ref 3]) (σ' := (97, I, J, R)) rfl (lo_ai (c := 1) (by decide) hi hL) ?_
  refine az_E.sn 4 (pc' := 546) (L' := [.ref 0, .ref 3, .ref 73, .int (nI i)]) (S' := [.int (nI i + (2 : Int32)), .ref 0, .int (xs (i + 1)), .ref 3]) (σ' := (97, I, J, R)) rfl ?_
  refine az_E.oi (pc' := 547) (L' := [.ref 0, .ref 3, .ref 73, .int (nI i)]) (S' := [.int (xs (i + 1)), .ref 3]) (σ' := (97, I, J, R)) rfl (lo_ai (c := 2) (by decide) hi hL) ?_
  refine az_E.sn 4 (pc' := 551) (L' := [.ref 0, .ref 3, .ref 73, .int (nI i)]) (S' := [.int (nI i + (3 : Int32)), .ref 0, .int (xs (i + 2)), .int (xs (i + 1)), .ref 3]) (σ' := (97, I, J, R)) rfl ?_
  refine az_E.oi (pc' := 552) (L' := [.ref 0, .ref 3, .ref 73, .int (nI i)]) (S' := [.int (xs (i + 2)), .int (xs (i + 1)), .ref 3]) (σ' := (97, I, J, R)) rfl (lo_ai (c := 3) (by decide) hi hL) ?_
  refine az_E.sn 4 (pc' := 556) (L' := [.ref 0, .ref 3, .ref 73, .int (nI i)]) (S' := [.int (nI i + (4 : Int32)), .ref 0, .int (xs (i + 3)), .int (xs (i + 2)), .int (xs (i + 1)), .ref 3]) (σ' := (97, I, J, R)) rfl ?_
  refine az_E.oi (pc' := 557) (L' := [.ref 0, .ref 3, .ref 73, .int (nI i)]) (S' := [.int (xs (i + 3)), .int (xs (i + 2)), .int (xs (i + 1)), .ref 3]) (σ' := (97, I, J, R)) rfl (lo_ai (c := 4) (by decide) hi hL) ?_
  refine az_E.call (d := 1299) (k' := 94) (vs := [.ref 3, .int (xs (i + 1)), .int (xs (i + 2)), .int (xs (i + 3)), .int (xs (i + 4))]) (pc' := 560) (S' := []) rfl ?_ (fun _ _ hq => hq)
  show az_E az_F (az_ex L xs) 1299 94 0 [.ref 3, .int (xs (i + 1)), .int (xs (i + 2)), .int (xs (i + 3)), .int (xs (i + 4)), .retAddr 0, .retAddr 0, .retAddr 0] [] (97, I, J, R) _
  rcases lo_rl h with ⟨rfl, rfl⟩ | ⟨rfl, rfl⟩
  · exact az_E.deep (by decide) (re_X_reach_16_21 h2 h3 x (fun R' g2 g3 => hY R' g2 g3))
  · exact az_E.deep (by decide) (re_X_reach_21_16 h2 h3 x (fun R' g2 g3 => hY R' g2 g3))
set_option maxRecDepth 100000 in
set_option maxHeartbeats 4000000 in
theorem lo_together {L i : Nat} {xs : Nat → Int32} {I : Nat → Nat → Int32} {J : Nat → Nat → Int64} {R : Nat → Nat → Option Nat} {rl rd : Nat} {Q : Option Value → az_S → Prop} (hi : i + 6 ≤ L) (hL : L ≤ 3072) (h : Rel I J rl rd) (h2 : R 3 2 = some rl) (h3 : R 3 3 = some rd) (k : lo_K L xs Q i) : az_E az_F (az_ex L xs) 1300 258 589 [.ref 0, .ref 3, .ref 73, .int (nI i)] [] (97, I, J, R) Q := by
  obtain ⟨v, I1, I2, x, m, hr⟩ := mt_together h (xs (i + 1)) (xs (i + 2))
  have hY : ∀ R' : Nat → Nat → Option Nat, R' 3 2 = some rl → R' 3 3 = some rd → az_E az_F (az_ex L xs) 1300 258 603 [.ref 0, .ref 3, .ref 73, .int (nI i)] [.int v] (97, I1, J, R') Q := by
    intro R' g2 g3
    refine az_E.sn 5 (pc' := 608) (L' := [.ref 0, .ref 3, .ref 73, .int (nI i)]) (S' := [.int (nI i + (1 : Int32)), .ref 0, .ref 73, .int v]) (σ' := (97, I1, J, R')) rfl ?_
    refine az_E.oi (pc' := 609) (L' := [.ref 0, .ref 3, .ref 73, .int (nI i)]) (S' := [.ref 73, .int v]) (σ' := (97, I1, J, R')) rfl (lo_ai (c := 1) (by decide) hi hL) ?_
    refine az_E.sn 4 (pc' := 613) (L' := [.ref 0, .ref 3, .ref 73, .int (nI i)]) (S' := [.int (nI i + (2 : Int32)), .ref 0, .int (xs (i + 1)), .ref 73, .int v]) (σ' := (97, I1, J, R')) rfl ?_
    refine az_E.oi (pc' := 614) (L' := [.ref 0, .ref 3, .ref 73, .int (nI i)]) (S' := [.int (xs (i + 1)), .ref 73, .int v]) (σ' := (97, I1, J, R')) rfl (lo_ai (c := 2) (by decide) hi hL) ?_
    refine az_E.call (d := 1299) (k' := 203) (vs := [.ref 73, .int (xs (i + 1)), .int (xs (i + 2))]) (pc' := 617) (S' := [.int v]) rfl ?_ (fun _ _ hq => hq)
    show az_E az_F (az_ex L xs) 1299 203 0 [.ref 73, .int (xs (i + 1)), .int (xs (i + 2))] [] (97, I1, J, R') _
    refine az_E.deep (by decide) (re_M_together m ?_)
    show az_E az_F (az_ex L xs) 1300 258 617 [.ref 0, .ref 3, .ref 73, .int (nI i)] [.int v, .int v] (97, I2, J, R') Q
    refine az_E.br (c := v = v) (tt := 1778) (ff := 620) (L' := [.ref 0, .ref 3, .ref 73, .int (nI i)]) (S' := []) (σ' := (97, I2, J, R')) rfl (fun _ => k _ _ _ _ _ hr g2 g3) (fun hc => absurd rfl hc)
  refine az_E.sn 5 (pc' := 594) (L' := [.ref 0, .ref 3, .ref 73, .int (nI i)]) (S' := [.int (nI i + (1 : Int32)), .ref 0, .ref 3]) (σ' := (97, I, J, R)) rfl ?_
  refine az_E.oi (pc' := 595) (L' := [.ref 0, .ref 3, .ref 73, .int (nI i)]) (S' := [.ref 3]) (σ' := (97, I, J, R)) rfl (lo_ai (c := 1) (by decide) hi hL) ?_
  refine az_E.sn 4 (pc' := 599) (L' := [.ref 0, .ref 3, .ref 73, .int (nI i)]) (S' := [.int (nI i + (2 : Int32)), .ref 0, .int (xs (i + 1)), .ref 3]) (σ' := (97, I, J, R)) rfl ?_
  refine az_E.oi (pc' := 600) (L' := [.ref 0, .ref 3, .ref 73, .int (nI i)]) (S' := [.int (xs (i + 1)), .ref 3]) (σ' := (97, I, J, R)) rfl (lo_ai (c := 2) (by decide) hi hL) ?_
  refine az_E.call (d := 1299) (k' := 95) (vs := [.ref 3, .int (xs (i + 1)), .int (xs (i + 2))]) (pc' := 603) (S' := []) rfl ?_ (fun _ _ hq => hq)
  show az_E az_F (az_ex L xs) 1299 95 0 [.ref 3, .int (xs (i + 1)), .int (xs (i + 2))] [] (97, I, J, R) _
  rcases lo_rl h with ⟨rfl, rfl⟩ | ⟨rfl, rfl⟩
  · exact az_E.deep (by decide) (re_X_together_16_21 h2 h3 x (fun R' g2 g3 => hY R' g2 g3))
  · exact az_E.deep (by decide) (re_X_together_21_16 h2 h3 x (fun R' g2 g3 => hY R' g2 g3))
set_option maxRecDepth 100000 in
set_option maxHeartbeats 4000000 in
theorem lo_withWhom {L i : Nat} {xs : Nat → Int32} {I : Nat → Nat → Int32} {J : Nat → Nat → Int64} {R : Nat → Nat → Option Nat} {rl rd : Nat} {Q : Option Value → az_S → Prop} (hi : i + 6 ≤ L) (hL : L ≤ 3072) (h : Rel I J rl rd) (h2 : R 3 2 = some rl) (h3 : R 3 3 = some rd) (k : lo_K L xs Q i) : az_E az_F (az_ex L xs) 1300 258 622 [.ref 0, .ref 3, .ref 73, .int (nI i)] [] (97, I, J, R) Q := by
  obtain ⟨v, I1, I2, x, m, hr⟩ := mt_withWhom h (xs (i + 1)) (xs (i + 2))
  have hY : ∀ R' : Nat → Nat → Option Nat, R' 3 2 = some rl → R' 3 3 = some rd → az_E az_F (az_ex L xs) 1300 258 636 [.ref 0, .ref 3, .ref 73, .int (nI i)] [.int v] (97, I1, J, R') Q := by
    intro R' g2 g3
    refine az_E.sn 5 (pc' := 641) (L' := [.ref 0, .ref 3, .ref 73, .int (nI i)]) (S' := [.int (nI i + (1 : Int32)), .ref 0, .ref 73, .int v]) (σ' := (97, I1, J, R')) rfl ?_
    refine az_E.oi (pc' := 642) (L' := [.ref 0, .ref 3, .ref 73, .int (nI i)]) (S' := [.ref 73, .int v]) (σ' := (97, I1, J, R')) rfl (lo_ai (c := 1) (by decide) hi hL) ?_
    refine az_E.sn 4 (pc' := 646) (L' := [.ref 0, .ref 3, .ref 73, .int (nI i)]) (S' := [.int (nI i + (2 : Int32)), .ref 0, .int (xs (i + 1)), .ref 73, .int v]) (σ' := (97, I1, J, R')) rfl ?_
    refine az_E.oi (pc' := 647) (L' := [.ref 0, .ref 3, .ref 73, .int (nI i)]) (S' := [.int (xs (i + 1)), .ref 73, .int v]) (σ' := (97, I1, J, R')) rfl (lo_ai (c := 2) (by decide) hi hL) ?_
    refine az_E.call (d := 1299) (k' := 204) (vs := [.ref 73, .int (xs (i + 1)), .int (xs (i + 2))]) (pc' := 650) (S' := [.int v]) rfl ?_ (fun _ _ hq => hq)
    show az_E az_F (az_ex L xs) 1299 204 0 [.ref 73, .int (xs (i + 1)), .int (xs (i + 2)), .retAddr 0, .retAddr 0, .retAddr 0, .retAddr 0] [] (97, I1, J, R') _
    refine az_E.deep (by decide) (re_M_withWhom m ?_)
    show az_E az_F (az_ex L xs) 1300 258 650 [.ref 0, .ref 3, .ref 73, .int (nI i)] [.int v, .int v] (97, I2, J, R') Q
    refine az_E.br (c := v = v) (tt := 1778) (ff := 653) (L' := [.ref 0, .ref 3, .ref 73, .int (nI i)]) (S' := []) (σ' := (97, I2, J, R')) rfl (fun _ => k _ _ _ _ _ hr g2 g3) (fun hc => absurd rfl hc)
  refine az_E.sn 5 (pc' := 627) (L' := [.ref 0, .ref 3, .ref 73, .int (nI i)]) (S' := [.int (nI i + (1 : Int32)), .ref 0, .ref 3]) (σ' := (97, I, J, R)) rfl ?_
  refine az_E.oi (pc' := 628) (L' := [.ref 0, .ref 3, .ref 73, .int (nI i)]) (S' := [.ref 3]) (σ' := (97, I, J, R)) rfl (lo_ai (c := 1) (by decide) hi hL) ?_
  refine az_E.sn 4 (pc' := 632) (L' := [.ref 0, .ref 3, .ref 73, .int (nI i)]) (S' := [.int (nI i + (2 : Int32)), .ref 0, .int (xs (i + 1)), .ref 3]) (σ' := (97, I, J, R)) rfl ?_
  refine az_E.oi (pc' := 633) (L' := [.ref 0, .ref 3, .ref 73, .int (nI i)]) (S' := [.int (xs (i + 1)), .ref 3]) (σ' := (97, I, J, R)) rfl (lo_ai (c := 2) (by decide) hi hL) ?_
  refine az_E.call (d := 1299) (k' := 96) (vs := [.ref 3, .int (xs (i + 1)), .int (xs (i + 2))]) (pc' := 636) (S' := []) rfl ?_ (fun _ _ hq => hq)
  show az_E az_F (az_ex L xs) 1299 96 0 [.ref 3, .int (xs (i + 1)), .int (xs (i + 2)), .retAddr 0, .retAddr 0, .retAddr 0, .retAddr 0] [] (97, I, J, R) _
  rcases lo_rl h with ⟨rfl, rfl⟩ | ⟨rfl, rfl⟩
  · exact az_E.deep (by decide) (re_X_withWhom_16_21 h2 h3 x (fun R' g2 g3 => hY R' g2 g3))
  · exact az_E.deep (by decide) (re_X_withWhom_21_16 h2 h3 x (fun R' g2 g3 => hY R' g2 g3))
set_option maxRecDepth 100000 in
set_option maxHeartbeats 4000000 in
theorem lo_meet {L i : Nat} {xs : Nat → Int32} {I : Nat → Nat → Int32} {J : Nat → Nat → Int64} {R : Nat → Nat → Option Nat} {rl rd : Nat} {Q : Option Value → az_S → Prop} (hi : i + 6 ≤ L) (hL : L ≤ 3072) (h : Rel I J rl rd) (h2 : R 3 2 = some rl) (h3 : R 3 3 = some rd) (k : lo_K L xs Q i) : az_E az_F (az_ex L xs) 1300 258 655 [.ref 0, .ref 3, .ref 73, .int (nI i)] [] (97, I, J, R) Q := by
  obtain ⟨v, I1, I2, x, m, hr⟩ := mt_meet h (xs (i + 1)) (xs (i + 2)) (xs (i + 3))
  have hY : ∀ R' : Nat → Nat → Option Nat, R' 3 2 = some rl → R' 3 3 = some rd → az_E az_F (az_ex L xs) 1300 258 674 [.ref 0, .ref 3, .ref 73, .int (nI i)] [.int v] (97, I1, J, R') Q := by
    intro R' g2 g3
    refine az_E.sn 5 (pc' := 679) (L' := [.ref 0, .ref 3, .ref 73, .int (nI i)]) (S' := [.int (nI i + (1 : Int32)), .ref 0, .ref 73, .int v]) (σ' := (97, I1, J, R')) rfl ?_
    refine az_E.oi (pc' := 680) (L' := [.ref 0, .ref 3, .ref 73, .int (nI i)]) (S' := [.ref 73, .int v]) (σ' := (97, I1, J, R')) rfl (lo_ai (c := 1) (by decide) hi hL) ?_
    refine az_E.sn 4 (pc' := 684) (L' := [.ref 0, .ref 3, .ref 73, .int (nI i)]) (S' := [.int (nI i + (2 : Int32)), .ref 0, .int (xs (i + 1)), .ref 73, .int v]) (σ' := (97, I1, J, R')) rfl ?_
    refine az_E.oi (pc' := 685) (L' := [.ref 0, .ref 3, .ref 73, .int (nI i)]) (S' := [.int (xs (i + 1)), .ref 73, .int v]) (σ' := (97, I1, J, R')) rfl (lo_ai (c := 2) (by decide) hi hL) ?_
    refine az_E.sn 4 (pc' := 689) (L' := [.ref 0, .ref 3, .ref 73, .int (nI i)]) (S' := [.int (nI i + (3 : Int32)), .ref 0, .int (xs (i + 2)), .int (xs (i + 1)), .ref 73, .int v]) (σ' := (97, I1, J, R')) rfl ?_
    refine az_E.oi (pc' := 690) (L' := [.ref 0, .ref 3, .ref 73, .int (nI i)]) (S' := [.int (xs (i + 2)), .int (xs (i + 1)), .ref 73, .int v]) (σ' := (97, I1, J, R')) rfl (lo_ai (c := 3) (by decide) hi hL) ?_
    refine az_E.call (d := 1299) (k' := 205) (vs := [.ref 73, .int (xs (i + 1)), .int (xs (i + 2)), .int (xs (i + 3))]) (pc' := 693) (S' := [.int v]) rfl ?_ (fun _ _ hq => hq)
    show az_E az_F (az_ex L xs) 1299 205 0 [.ref 73, .int (xs (i + 1)), .int (xs (i + 2)), .int (xs (i + 3)), .retAddr 0, .retAddr 0, .retAddr 0, .retAddr 0] [] (97, I1, J, R') _
    refine az_E.deep (by decide) (re_M_meet m ?_)
    show az_E az_F (az_ex L xs) 1300 258 693 [.ref 0, .ref 3, .ref 73, .int (nI i)] [.int v, .int v] (97, I2, J, R') Q
    refine az_E.br (c := v = v) (tt := 1778) (ff := 696) (L' := [.ref 0, .ref 3, .ref 73, .int (nI i)]) (S' := []) (σ' := (97, I2, J, R')) rfl (fun _ => k _ _ _ _ _ hr g2 g3) (fun hc => absurd rfl hc)
  refine az_E.sn 5 (pc' := 660) (L' := [.ref 0, .ref 3, .ref 73, .int (nI i)]) (S' := [.int (nI i + (1 : Int32)), .ref 0, .ref 3]) (σ' := (97, I, J, R)) rfl ?_
  refine az_E.oi (pc' := 661) (L' := [.ref 0, .ref 3, .ref 73, .int (nI i)]) (S' := [.ref 3]) (σ' := (97, I, J, R)) rfl (lo_ai (c := 1) (by decide) hi hL) ?_
  refine az_E.sn 4 (pc' := 665) (L' := [.ref 0, .ref 3, .ref 73, .int (nI i)]) (S' := [.int (nI i + (2 : Int32)), .ref 0, .int (xs (i + 1)), .ref 3]) (σ' := (97, I, J, R)) rfl ?_
  refine az_E.oi (pc' := 666) (L' := [.ref 0, .ref 3, .ref 73, .int (nI i)]) (S' := [.int (xs (i + 1)), .ref 3]) (σ' := (97, I, J, R)) rfl (lo_ai (c := 2) (by decide) hi hL) ?_
  refine az_E.sn 4 (pc' := 670) (L' := [.ref 0, .ref 3, .ref 73, .int (nI i)]) (S' := [.int (nI i + (3 : Int32)), .ref 0, .int (xs (i + 2)), .int (xs (i + 1)), .ref 3]) (σ' := (97, I, J, R)) rfl ?_
  refine az_E.oi (pc' := 671) (L' := [.ref 0, .ref 3, .ref 73, .int (nI i)]) (S' := [.int (xs (i + 2)), .int (xs (i + 1)), .ref 3]) (σ' := (97, I, J, R)) rfl (lo_ai (c := 3) (by decide) hi hL) ?_
  refine az_E.call (d := 1299) (k' := 97) (vs := [.ref 3, .int (xs (i + 1)), .int (xs (i + 2)), .int (xs (i + 3))]) (pc' := 674) (S' := []) rfl ?_ (fun _ _ hq => hq)
  show az_E az_F (az_ex L xs) 1299 97 0 [.ref 3, .int (xs (i + 1)), .int (xs (i + 2)), .int (xs (i + 3)), .retAddr 0, .retAddr 0, .retAddr 0, .retAddr 0] [] (97, I, J, R) _
  rcases lo_rl h with ⟨rfl, rfl⟩ | ⟨rfl, rfl⟩
  · exact az_E.deep (by decide) (re_X_meet_16_21 h2 h3 x (fun R' g2 g3 => hY R' g2 g3))
  · exact az_E.deep (by decide) (re_X_meet_21_16 h2 h3 x (fun R' g2 g3 => hY R' g2 g3))
set_option maxRecDepth 100000 in
set_option maxHeartbeats 4000000 in
theorem lo_carry {L i : Nat} {xs : Nat → Int32} {I : Nat → Nat → Int32} {J : Nat → Nat → Int64} {R : Nat → Nat → Option Nat} {rl rd : Nat} {Q : Option Value → az_S → Prop} (hi : i + 6 ≤ L) (hL : L ≤ 3072) (h : Rel I J rl rd) (h2 : R 3 2 = some rl) (h3 : R 3 3 = some rd) (k : lo_K L xs Q i) : az_E az_F (az_ex L xs) 1300 258 698 [.ref 0, .ref 3, .ref 73, .int (nI i)] [] (97, I, J, R) Q := by
  obtain ⟨v, I1, I2, x, m, hr⟩ := mt_carry h (xs (i + 1)) (xs (i + 2)) (xs (i + 3))
  have hY : ∀ R' : Nat → Nat → Option Nat, R' 3 2 = some rl → R' 3 3 = some rd → az_E az_F (az_ex L xs) 1300 258 717 [.ref 0, .ref 3, .ref 73, .int (nI i)] [.int v] (97, I1, J, R') Q := by
    intro R' g2 g3
    refine az_E.sn 5 (pc' := 722) (L' := [.ref 0, .ref 3, .ref 73, .int (nI i)]) (S' := [.int (nI i + (1 : Int32)), .ref 0, .ref 73, .int v]) (σ' := (97, I1, J, R')) rfl ?_
    refine az_E.oi (pc' := 723) (L' := [.ref 0, .ref 3, .ref 73, .int (nI i)]) (S' := [.ref 73, .int v]) (σ' := (97, I1, J, R')) rfl (lo_ai (c := 1) (by decide) hi hL) ?_
    refine az_E.sn 4 (pc' := 727) (L' := [.ref 0, .ref 3, .ref 73, .int (nI i)]) (S' := [.int (nI i + (2 : Int32)), .ref 0, .int (xs (i + 1)), .ref 73, .int v]) (σ' := (97, I1, J, R')) rfl ?_
    refine az_E.oi (pc' := 728) (L' := [.ref 0, .ref 3, .ref 73, .int (nI i)]) (S' := [.int (xs (i + 1)), .ref 73, .int v]) (σ' := (97, I1, J, R')) rfl (lo_ai (c := 2) (by decide) hi hL) ?_
    refine az_E.sn 4 (pc' := 732) (L' := [.ref 0, .ref 3, .ref 73, .int (nI i)]) (S' := [.int (nI i + (3 : Int32)), .ref 0, .int (xs (i + 2)), .int (xs (i + 1)), .ref 73, .int v]) (σ' := (97, I1, J, R')) rfl ?_
    refine az_E.oi (pc' := 733) (L' := [.ref 0, .ref 3, .ref 73, .int (nI i)]) (S' := [.int (xs (i + 2)), .int (xs (i + 1)), .ref 73, .int v]) (σ' := (97, I1, J, R')) rfl (lo_ai (c := 3) (by decide) hi hL) ?_
    refine az_E.call (d := 1299) (k' := 206) (vs := [.ref 73, .int (xs (i + 1)), .int (xs (i + 2)), .int (xs (i + 3))]) (pc' := 736) (S' := [.int v]) rfl ?_ (fun _ _ hq => hq)
    show az_E az_F (az_ex L xs) 1299 206 0 [.ref 73, .int (xs (i + 1)), .int (xs (i + 2)), .int (xs (i + 3)), .retAddr 0] [] (97, I1, J, R') _
    refine az_E.deep (by decide) (re_M_carry m ?_)
    show az_E az_F (az_ex L xs) 1300 258 736 [.ref 0, .ref 3, .ref 73, .int (nI i)] [.int v, .int v] (97, I2, J, R') Q
    refine az_E.br (c := v = v) (tt := 1778) (ff := 739) (L' := [.ref 0, .ref 3, .ref 73, .int (nI i)]) (S' := []) (σ' := (97, I2, J, R')) rfl (fun _ => k _ _ _ _ _ hr g2 g3) (fun hc => absurd rfl hc)
  refine az_E.sn 5 (pc' := 703) (L' := [.ref 0, .ref 3, .ref 73, .int (nI i)]) (S' := [.int (nI i + (1 : Int32)), .ref 0, .ref 3]) (σ' := (97, I, J, R)) rfl ?_
  refine az_E.oi (pc' := 704) (L' := [.ref 0, .ref 3, .ref 73, .int (nI i)]) (S' := [.ref 3]) (σ' := (97, I, J, R)) rfl (lo_ai (c := 1) (by decide) hi hL) ?_
  refine az_E.sn 4 (pc' := 708) (L' := [.ref 0, .ref 3, .ref 73, .int (nI i)]) (S' := [.int (nI i + (2 : Int32)), .ref 0, .int (xs (i + 1)), .ref 3]) (σ' := (97, I, J, R)) rfl ?_
  refine az_E.oi (pc' := 709) (L' := [.ref 0, .ref 3, .ref 73, .int (nI i)]) (S' := [.int (xs (i + 1)), .ref 3]) (σ' := (97, I, J, R)) rfl (lo_ai (c := 2) (by decide) hi hL) ?_
  refine az_E.sn 4 (pc' := 713) (L' := [.ref 0, .ref 3, .ref 73, .int (nI i)]) (S' := [.int (nI i + (3 : Int32)), .ref 0, .int (xs (i + 2)), .int (xs (i + 1)), .ref 3]) (σ' := (97, I, J, R)) rfl ?_
  refine az_E.oi (pc' := 714) (L' := [.ref 0, .ref 3, .ref 73, .int (nI i)]) (S' := [.int (xs (i + 2)), .int (xs (i + 1)), .ref 3]) (σ' := (97, I, J, R)) rfl (lo_ai (c := 3) (by decide) hi hL) ?_
  refine az_E.call (d := 1299) (k' := 98) (vs := [.ref 3, .int (xs (i + 1)), .int (xs (i + 2)), .int (xs (i + 3))]) (pc' := 717) (S' := []) rfl ?_ (fun _ _ hq => hq)
  show az_E az_F (az_ex L xs) 1299 98 0 [.ref 3, .int (xs (i + 1)), .int (xs (i + 2)), .int (xs (i + 3)), .retAddr 0] [] (97, I, J, R) _
  rcases lo_rl h with ⟨rfl, rfl⟩ | ⟨rfl, rfl⟩
  · exact az_E.deep (by decide) (re_X_carry_16_21 h2 h3 x (fun R' g2 g3 => hY R' g2 g3))
  · exact az_E.deep (by decide) (re_X_carry_21_16 h2 h3 x (fun R' g2 g3 => hY R' g2 g3))
set_option maxRecDepth 100000 in
set_option maxHeartbeats 4000000 in
theorem lo_light {L i : Nat} {xs : Nat → Int32} {I : Nat → Nat → Int32} {J : Nat → Nat → Int64} {R : Nat → Nat → Option Nat} {rl rd : Nat} {Q : Option Value → az_S → Prop} (hi : i + 6 ≤ L) (hL : L ≤ 3072) (h : Rel I J rl rd) (h2 : R 3 2 = some rl) (h3 : R 3 3 = some rd) (k : lo_K L xs Q i) : az_E az_F (az_ex L xs) 1300 258 741 [.ref 0, .ref 3, .ref 73, .int (nI i)] [] (97, I, J, R) Q := by
  obtain ⟨v, I1, I2, x, m, hr⟩ := mt_light h (xs (i + 1)) (xs (i + 2)) (xs (i + 3))
  have hY : ∀ R' : Nat → Nat → Option Nat, R' 3 2 = some rl → R' 3 3 = some rd → az_E az_F (az_ex L xs) 1300 258 760 [.ref 0, .ref 3, .ref 73, .int (nI i)] [.int v] (97, I1, J, R') Q := by
    intro R' g2 g3
    refine az_E.sn 5 (pc' := 765) (L' := [.ref 0, .ref 3, .ref 73, .int (nI i)]) (S' := [.int (nI i + (1 : Int32)), .ref 0, .ref 73, .int v]) (σ' := (97, I1, J, R')) rfl ?_
    refine az_E.oi (pc' := 766) (L' := [.ref 0, .ref 3, .ref 73, .int (nI i)]) (S' := [.ref 73, .int v]) (σ' := (97, I1, J, R')) rfl (lo_ai (c := 1) (by decide) hi hL) ?_
    refine az_E.sn 4 (pc' := 770) (L' := [.ref 0, .ref 3, .ref 73, .int (nI i)]) (S' := [.int (nI i + (2 : Int32)), .ref 0, .int (xs (i + 1)), .ref 73, .int v]) (σ' := (97, I1, J, R')) rfl ?_
    refine az_E.oi (pc' := 771) (L' := [.ref 0, .ref 3, .ref 73, .int (nI i)]) (S' := [.int (xs (i + 1)), .ref 73, .int v]) (σ' := (97, I1, J, R')) rfl (lo_ai (c := 2) (by decide) hi hL) ?_
    refine az_E.sn 4 (pc' := 775) (L' := [.ref 0, .ref 3, .ref 73, .int (nI i)]) (S' := [.int (nI i + (3 : Int32)), .ref 0, .int (xs (i + 2)), .int (xs (i + 1)), .ref 73, .int v]) (σ' := (97, I1, J, R')) rfl ?_
    refine az_E.oi (pc' := 776) (L' := [.ref 0, .ref 3, .ref 73, .int (nI i)]) (S' := [.int (xs (i + 2)), .int (xs (i + 1)), .ref 73, .int v]) (σ' := (97, I1, J, R')) rfl (lo_ai (c := 3) (by decide) hi hL) ?_
    refine az_E.call (d := 1299) (k' := 207) (vs := [.ref 73, .int (xs (i + 1)), .int (xs (i + 2)), .int (xs (i + 3))]) (pc' := 779) (S' := [.int v]) rfl ?_ (fun _ _ hq => hq)
    show az_E az_F (az_ex L xs) 1299 207 0 [.ref 73, .int (xs (i + 1)), .int (xs (i + 2)), .int (xs (i + 3)), .retAddr 0] [] (97, I1, J, R') _
    refine az_E.deep (by decide) (re_M_light m ?_)
    show az_E az_F (az_ex L xs) 1300 258 779 [.ref 0, .ref 3, .ref 73, .int (nI i)] [.int v, .int v] (97, I2, J, R') Q
    refine az_E.br (c := v = v) (tt := 1778) (ff := 782) (L' := [.ref 0, .ref 3, .ref 73, .int (nI i)]) (S' := []) (σ' := (97, I2, J, R')) rfl (fun _ => k _ _ _ _ _ hr g2 g3) (fun hc => absurd rfl hc)
  refine az_E.sn 5 (pc' := 746) (L' := [.ref 0, .ref 3, .ref 73, .int (nI i)]) (S' := [.int (nI i + (1 : Int32)), .ref 0, .ref 3]) (σ' := (97, I, J, R)) rfl ?_
  refine az_E.oi (pc' := 747) (L' := [.ref 0, .ref 3, .ref 73, .int (nI i)]) (S' := [.ref 3]) (σ' := (97, I, J, R)) rfl (lo_ai (c := 1) (by decide) hi hL) ?_
  refine az_E.sn 4 (pc' := 751) (L' := [.ref 0, .ref 3, .ref 73, .int (nI i)]) (S' := [.int (nI i + (2 : Int32)), .ref 0, .int (xs (i + 1)), .ref 3]) (σ' := (97, I, J, R)) rfl ?_
  refine az_E.oi (pc' := 752) (L' := [.ref 0, .ref 3, .ref 73, .int (nI i)]) (S' := [.int (xs (i + 1)), .ref 3]) (σ' := (97, I, J, R)) rfl (lo_ai (c := 2) (by decide) hi hL) ?_
  refine az_E.sn 4 (pc' := 756) (L' := [.ref 0, .ref 3, .ref 73, .int (nI i)]) (S' := [.int (nI i + (3 : Int32)), .ref 0, .int (xs (i + 2)), .int (xs (i + 1)), .ref 3]) (σ' := (97, I, J, R)) rfl ?_
  refine az_E.oi (pc' := 757) (L' := [.ref 0, .ref 3, .ref 73, .int (nI i)]) (S' := [.int (xs (i + 2)), .int (xs (i + 1)), .ref 3]) (σ' := (97, I, J, R)) rfl (lo_ai (c := 3) (by decide) hi hL) ?_
  refine az_E.call (d := 1299) (k' := 99) (vs := [.ref 3, .int (xs (i + 1)), .int (xs (i + 2)), .int (xs (i + 3))]) (pc' := 760) (S' := []) rfl ?_ (fun _ _ hq => hq)
  show az_E az_F (az_ex L xs) 1299 99 0 [.ref 3, .int (xs (i + 1)), .int (xs (i + 2)), .int (xs (i + 3)), .retAddr 0] [] (97, I, J, R) _
  rcases lo_rl h with ⟨rfl, rfl⟩ | ⟨rfl, rfl⟩
  · exact az_E.deep (by decide) (re_X_light_16_21 h2 h3 x (fun R' g2 g3 => hY R' g2 g3))
  · exact az_E.deep (by decide) (re_X_light_21_16 h2 h3 x (fun R' g2 g3 => hY R' g2 g3))
set_option maxRecDepth 100000 in
set_option maxHeartbeats 4000000 in
theorem lo_backFrom {L i : Nat} {xs : Nat → Int32} {I : Nat → Nat → Int32} {J : Nat → Nat → Int64} {R : Nat → Nat → Option Nat} {rl rd : Nat} {Q : Option Value → az_S → Prop} (hi : i + 6 ≤ L) (hL : L ≤ 3072) (h : Rel I J rl rd) (h2 : R 3 2 = some rl) (h3 : R 3 3 = some rd) (k : lo_K L xs Q i) : az_E az_F (az_ex L xs) 1300 258 784 [.ref 0, .ref 3, .ref 73, .int (nI i)] [] (97, I, J, R) Q := by
  obtain ⟨v, I1, I2, x, m, hr⟩ := mt_backFrom h (xs (i + 1)) (xs (i + 2)) (xs (i + 3))
  have hY : ∀ R' : Nat → Nat → Option Nat, R' 3 2 = some rl → R' 3 3 = some rd → az_E az_F (az_ex L xs) 1300 258 803 [.ref 0, .ref 3, .ref 73, .int (nI i)] [.int v] (97, I1, J, R') Q := by
    intro R' g2 g3
    refine az_E.sn 5 (pc' := 808) (L' := [.ref 0, .ref 3, .ref 73, .int (nI i)]) (S' := [.int (nI i + (1 : Int32)), .ref 0, .ref 73, .int v]) (σ' := (97, I1, J, R')) rfl ?_
    refine az_E.oi (pc' := 809) (L' := [.ref 0, .ref 3, .ref 73, .int (nI i)]) (S' := [.ref 73, .int v]) (σ' := (97, I1, J, R')) rfl (lo_ai (c := 1) (by decide) hi hL) ?_
    refine az_E.sn 4 (pc' := 813) (L' := [.ref 0, .ref 3, .ref 73, .int (nI i)]) (S' := [.int (nI i + (2 : Int32)), .ref 0, .int (xs (i + 1)), .ref 73, .int v]) (σ' := (97, I1, J, R')) rfl ?_
    refine az_E.oi (pc' := 814) (L' := [.ref 0, .ref 3, .ref 73, .int (nI i)]) (S' := [.int (xs (i + 1)), .ref 73, .int v]) (σ' := (97, I1, J, R')) rfl (lo_ai (c := 2) (by decide) hi hL) ?_
    refine az_E.sn 4 (pc' := 818) (L' := [.ref 0, .ref 3, .ref 73, .int (nI i)]) (S' := [.int (nI i + (3 : Int32)), .ref 0, .int (xs (i + 2)), .int (xs (i + 1)), .ref 73, .int v]) (σ' := (97, I1, J, R')) rfl ?_
    refine az_E.oi (pc' := 819) (L' := [.ref 0, .ref 3, .ref 73, .int (nI i)]) (S' := [.int (xs (i + 2)), .int (xs (i + 1)), .ref 73, .int v]) (σ' := (97, I1, J, R')) rfl (lo_ai (c := 3) (by decide) hi hL) ?_
    refine az_E.call (d := 1299) (k' := 208) (vs := [.ref 73, .int (xs (i + 1)), .int (xs (i + 2)), .int (xs (i + 3))]) (pc' := 822) (S' := [.int v]) rfl ?_ (fun _ _ hq => hq)
    show az_E az_F (az_ex L xs) 1299 208 0 [.ref 73, .int (xs (i + 1)), .int (xs (i + 2)), .int (xs (i + 3)), .retAddr 0, .retAddr 0, .retAddr 0] [] (97, I1, J, R') _
    refine az_E.deep (by decide) (re_M_backFrom m ?_)
    show az_E az_F (az_ex L xs) 1300 258 822 [.ref 0, .ref 3, .ref 73, .int (nI i)] [.int v, .int v] (97, I2, J, R') Q
    refine az_E.br (c := v = v) (tt := 1778) (ff := 825) (L' := [.ref 0, .ref 3, .ref 73, .int (nI i)]) (S' := []) (σ' := (97, I2, J, R')) rfl (fun _ => k _ _ _ _ _ hr g2 g3) (fun hc => absurd rfl hc)
  refine az_E.sn 5 (pc' := 789) (L' := [.ref 0, .ref 3, .ref 73, .int (nI i)]) (S' := [.int (nI i + (1 : Int32)), .ref 0, .ref 3]) (σ' := (97, I, J, R)) rfl ?_
  refine az_E.oi (pc' := 790) (L' := [.ref 0, .ref 3, .ref 73, .int (nI i)]) (S' := [.ref 3]) (σ' := (97, I, J, R)) rfl (lo_ai (c := 1) (by decide) hi hL) ?_
  refine az_E.sn 4 (pc' := 794) (L' := [.ref 0, .ref 3, .ref 73, .int (nI i)]) (S' := [.int (nI i + (2 : Int32)), .ref 0, .int (xs (i + 1)), .ref 3]) (σ' := (97, I, J, R)) rfl ?_
  refine az_E.oi (pc' := 795) (L' := [.ref 0, .ref 3, .ref 73, .int (nI i)]) (S' := [.int (xs (i + 1)), .ref 3]) (σ' := (97, I, J, R)) rfl (lo_ai (c := 2) (by decide) hi hL) ?_
  refine az_E.sn 4 (pc' := 799) (L' := [.ref 0, .ref 3, .ref 73, .int (nI i)]) (S' := [.int (nI i + (3 : Int32)), .ref 0, .int (xs (i + 2)), .int (xs (i + 1)), .ref 3]) (σ' := (97, I, J, R)) rfl ?_
  refine az_E.oi (pc' := 800) (L' := [.ref 0, .ref 3, .ref 73, .int (nI i)]) (S' := [.int (xs (i + 2)), .int (xs (i + 1)), .ref 3]) (σ' := (97, I, J, R)) rfl (lo_ai (c := 3) (by decide) hi hL) ?_
  refine az_E.call (d := 1299) (k' := 100) (vs := [.ref 3, .int (xs (i + 1)), .int (xs (i + 2)), .int (xs (i + 3))]) (pc' := 803) (S' := []) rfl ?_ (fun _ _ hq => hq)
  show az_E az_F (az_ex L xs) 1299 100 0 [.ref 3, .int (xs (i + 1)), .int (xs (i + 2)), .int (xs (i + 3)), .retAddr 0, .retAddr 0] [] (97, I, J, R) _
  rcases lo_rl h with ⟨rfl, rfl⟩ | ⟨rfl, rfl⟩
  · exact az_E.deep (by decide) (re_X_backFrom_16_21 h2 h3 x (fun R' g2 g3 => hY R' g2 g3))
  · exact az_E.deep (by decide) (re_X_backFrom_21_16 h2 h3 x (fun R' g2 g3 => hY R' g2 g3))
set_option maxRecDepth 100000 in
set_option maxHeartbeats 4000000 in
theorem lo_round {L i : Nat} {xs : Nat → Int32} {I : Nat → Nat → Int32} {J : Nat → Nat → Int64} {R : Nat → Nat → Option Nat} {rl rd : Nat} {Q : Option Value → az_S → Prop} (hi : i + 6 ≤ L) (hL : L ≤ 3072) (h : Rel I J rl rd) (h2 : R 3 2 = some rl) (h3 : R 3 3 = some rd) (k : lo_K L xs Q i) : az_E az_F (az_ex L xs) 1300 258 827 [.ref 0, .ref 3, .ref 73, .int (nI i)] [] (97, I, J, R) Q := by
  obtain ⟨v, I1, I2, x, m, hr⟩ := mt_round h (xs (i + 1)) (xs (i + 2)) (xs (i + 3))
  have hY : ∀ R' : Nat → Nat → Option Nat, R' 3 2 = some rl → R' 3 3 = some rd → az_E az_F (az_ex L xs) 1300 258 846 [.ref 0, .ref 3, .ref 73, .int (nI i)] [.int v] (97, I1, J, R') Q := by
    intro R' g2 g3
    refine az_E.sn 5 (pc' := 851) (L' := [.ref 0, .ref 3, .ref 73, .int (nI i)]) (S' := [.int (nI i + (1 : Int32)), .ref 0, .ref 73, .int v]) (σ' := (97, I1, J, R')) rfl ?_
    refine az_E.oi (pc' := 852) (L' := [.ref 0, .ref 3, .ref 73, .int (nI i)]) (S' := [.ref 73, .int v]) (σ' := (97, I1, J, R')) rfl (lo_ai (c := 1) (by decide) hi hL) ?_
    refine az_E.sn 4 (pc' := 856) (L' := [.ref 0, .ref 3, .ref 73, .int (nI i)]) (S' := [.int (nI i + (2 : Int32)), .ref 0, .int (xs (i + 1)), .ref 73, .int v]) (σ' := (97, I1, J, R')) rfl ?_
    refine az_E.oi (pc' := 857) (L' := [.ref 0, .ref 3, .ref 73, .int (nI i)]) (S' := [.int (xs (i + 1)), .ref 73, .int v]) (σ' := (97, I1, J, R')) rfl (lo_ai (c := 2) (by decide) hi hL) ?_
    refine az_E.sn 4 (pc' := 861) (L' := [.ref 0, .ref 3, .ref 73, .int (nI i)]) (S' := [.int (nI i + (3 : Int32)), .ref 0, .int (xs (i + 2)), .int (xs (i + 1)), .ref 73, .int v]) (σ' := (97, I1, J, R')) rfl ?_
    refine az_E.oi (pc' := 862) (L' := [.ref 0, .ref 3, .ref 73, .int (nI i)]) (S' := [.int (xs (i + 2)), .int (xs (i + 1)), .ref 73, .int v]) (σ' := (97, I1, J, R')) rfl (lo_ai (c := 3) (by decide) hi hL) ?_
    refine az_E.call (d := 1299) (k' := 212) (vs := [.ref 73, .int (xs (i + 1)), .int (xs (i + 2)), .int (xs (i + 3))]) (pc' := 865) (S' := [.int v]) rfl ?_ (fun _ _ hq => hq)
    show az_E az_F (az_ex L xs) 1299 212 0 [.ref 73, .int (xs (i + 1)), .int (xs (i + 2)), .int (xs (i + 3)), .retAddr 0, .retAddr 0, .retAddr 0, .retAddr 0, .retAddr 0] [] (97, I1, J, R') _
    refine az_E.deep (by decide) (re_M_round m ?_)
    show az_E az_F (az_ex L xs) 1300 258 865 [.ref 0, .ref 3, .ref 73, .int (nI i)] [.int v, .int v] (97, I2, J, R') Q
    refine az_E.br (c := v = v) (tt := 1778) (ff := 868) (L' := [.ref 0, .ref 3, .ref 73, .int (nI i)]) (S' := []) (σ' := (97, I2, J, R')) rfl (fun _ => k _ _ _ _ _ hr g2 g3) (fun hc => absurd rfl hc)
  refine az_E.sn 5 (pc' := 832) (L' := [.ref 0, .ref 3, .ref 73, .int (nI i)]) (S' := [.int (nI i + (1 : Int32)), .ref 0, .ref 3]) (σ' := (97, I, J, R)) rfl ?_
  refine az_E.oi (pc' := 833) (L' := [.ref 0, .ref 3, .ref 73, .int (nI i)]) (S' := [.ref 3]) (σ' := (97, I, J, R)) rfl (lo_ai (c := 1) (by decide) hi hL) ?_
  refine az_E.sn 4 (pc' := 837) (L' := [.ref 0, .ref 3, .ref 73, .int (nI i)]) (S' := [.int (nI i + (2 : Int32)), .ref 0, .int (xs (i + 1)), .ref 3]) (σ' := (97, I, J, R)) rfl ?_
  refine az_E.oi (pc' := 838) (L' := [.ref 0, .ref 3, .ref 73, .int (nI i)]) (S' := [.int (xs (i + 1)), .ref 3]) (σ' := (97, I, J, R)) rfl (lo_ai (c := 2) (by decide) hi hL) ?_
  refine az_E.sn 4 (pc' := 842) (L' := [.ref 0, .ref 3, .ref 73, .int (nI i)]) (S' := [.int (nI i + (3 : Int32)), .ref 0, .int (xs (i + 2)), .int (xs (i + 1)), .ref 3]) (σ' := (97, I, J, R)) rfl ?_
  refine az_E.oi (pc' := 843) (L' := [.ref 0, .ref 3, .ref 73, .int (nI i)]) (S' := [.int (xs (i + 2)), .int (xs (i + 1)), .ref 3]) (σ' := (97, I, J, R)) rfl (lo_ai (c := 3) (by decide) hi hL) ?_
  refine az_E.call (d := 1299) (k' := 101) (vs := [.ref 3, .int (xs (i + 1)), .int (xs (i + 2)), .int (xs (i + 3))]) (pc' := 846) (S' := []) rfl ?_ (fun _ _ hq => hq)
  show az_E az_F (az_ex L xs) 1299 101 0 [.ref 3, .int (xs (i + 1)), .int (xs (i + 2)), .int (xs (i + 3)), .retAddr 0] [] (97, I, J, R) _
  rcases lo_rl h with ⟨rfl, rfl⟩ | ⟨rfl, rfl⟩
  · exact az_E.deep (by decide) (re_X_round_16_21 h2 h3 x (fun R' g2 g3 => hY R' g2 g3))
  · exact az_E.deep (by decide) (re_X_round_21_16 h2 h3 x (fun R' g2 g3 => hY R' g2 g3))
set_option maxRecDepth 100000 in
set_option maxHeartbeats 4000000 in
theorem lo_hearts {L i : Nat} {xs : Nat → Int32} {I : Nat → Nat → Int32} {J : Nat → Nat → Int64} {R : Nat → Nat → Option Nat} {rl rd : Nat} {Q : Option Value → az_S → Prop} (hi : i + 6 ≤ L) (hL : L ≤ 3072) (h : Rel I J rl rd) (h2 : R 3 2 = some rl) (h3 : R 3 3 = some rd) (k : lo_K L xs Q i) : az_E az_F (az_ex L xs) 1300 258 870 [.ref 0, .ref 3, .ref 73, .int (nI i)] [] (97, I, J, R) Q := by
  obtain ⟨v, I1, I2, x, m, hr⟩ := mt_hearts h (xs (i + 1)) (xs (i + 2)) (xs (i + 3))
  have hY : ∀ R' : Nat → Nat → Option Nat, R' 3 2 = some rl → R' 3 3 = some rd → az_E az_F (az_ex L xs) 1300 258 889 [.ref 0, .ref 3, .ref 73, .int (nI i)] [.int v] (97, I1, J, R') Q := by
    intro R' g2 g3
    refine az_E.sn 5 (pc' := 894) (L' := [.ref 0, .ref 3, .ref 73, .int (nI i)]) (S' := [.int (nI i + (1 : Int32)), .ref 0, .ref 73, .int v]) (σ' := (97, I1, J, R')) rfl ?_
    refine az_E.oi (pc' := 895) (L' := [.ref 0, .ref 3, .ref 73, .int (nI i)]) (S' := [.ref 73, .int v]) (σ' := (97, I1, J, R')) rfl (lo_ai (c := 1) (by decide) hi hL) ?_
    refine az_E.sn 4 (pc' := 899) (L' := [.ref 0, .ref 3, .ref 73, .int (nI i)]) (S' := [.int (nI i + (2 : Int32)), .ref 0, .int (xs (i + 1)), .ref 73, .int v]) (σ' := (97, I1, J, R')) rfl ?_
    refine az_E.oi (pc' := 900) (L' := [.ref 0, .ref 3, .ref 73, .int (nI i)]) (S' := [.int (xs (i + 1)), .ref 73, .int v]) (σ' := (97, I1, J, R')) rfl (lo_ai (c := 2) (by decide) hi hL) ?_
    refine az_E.sn 4 (pc' := 904) (L' := [.ref 0, .ref 3, .ref 73, .int (nI i)]) (S' := [.int (nI i + (3 : Int32)), .ref 0, .int (xs (i + 2)), .int (xs (i + 1)), .ref 73, .int v]) (σ' := (97, I1, J, R')) rfl ?_
    refine az_E.oi (pc' := 905) (L' := [.ref 0, .ref 3, .ref 73, .int (nI i)]) (S' := [.int (xs (i + 2)), .int (xs (i + 1)), .ref 73, .int v]) (σ' := (97, I1, J, R')) rfl (lo_ai (c := 3) (by decide) hi hL) ?_
    refine az_E.call (d := 1299) (k' := 215) (vs := [.ref 73, .int (xs (i + 1)), .int (xs (i + 2)), .int (xs (i + 3))]) (pc' := 908) (S' := [.int v]) rfl ?_ (fun _ _ hq => hq)
    show az_E az_F (az_ex L xs) 1299 215 0 [.ref 73, .int (xs (i + 1)), .int (xs (i + 2)), .int (xs (i + 3)), .retAddr 0, .retAddr 0, .retAddr 0] [] (97, I1, J, R') _
    refine az_E.deep (by decide) (re_M_hearts m ?_)
    show az_E az_F (az_ex L xs) 1300 258 908 [.ref 0, .ref 3, .ref 73, .int (nI i)] [.int v, .int v] (97, I2, J, R') Q
    refine az_E.br (c := v = v) (tt := 1778) (ff := 911) (L' := [.ref 0, .ref 3, .ref 73, .int (nI i)]) (S' := []) (σ' := (97, I2, J, R')) rfl (fun _ => k _ _ _ _ _ hr g2 g3) (fun hc => absurd rfl hc)
  refine az_E.sn 5 (pc' := 875) (L' := [.ref 0, .ref 3, .ref 73, .int (nI i)]) (S' := [.int (nI i + (1 : Int32)), .ref 0, .ref 3]) (σ' := (97, I, J, R)) rfl ?_
  refine az_E.oi (pc' := 876) (L' := [.ref 0, .ref 3, .ref 73, .int (nI i)]) (S' := [.ref 3]) (σ' := (97, I, J, R)) rfl (lo_ai (c := 1) (by decide) hi hL) ?_
  refine az_E.sn 4 (pc' := 880) (L' := [.ref 0, .ref 3, .ref 73, .int (nI i)]) (S' := [.int (nI i + (2 : Int32)), .ref 0, .int (xs (i + 1)), .ref 3]) (σ' := (97, I, J, R)) rfl ?_
  refine az_E.oi (pc' := 881) (L' := [.ref 0, .ref 3, .ref 73, .int (nI i)]) (S' := [.int (xs (i + 1)), .ref 3]) (σ' := (97, I, J, R)) rfl (lo_ai (c := 2) (by decide) hi hL) ?_
  refine az_E.sn 4 (pc' := 885) (L' := [.ref 0, .ref 3, .ref 73, .int (nI i)]) (S' := [.int (nI i + (3 : Int32)), .ref 0, .int (xs (i + 2)), .int (xs (i + 1)), .ref 3]) (σ' := (97, I, J, R)) rfl ?_
  refine az_E.oi (pc' := 886) (L' := [.ref 0, .ref 3, .ref 73, .int (nI i)]) (S' := [.int (xs (i + 2)), .int (xs (i + 1)), .ref 3]) (σ' := (97, I, J, R)) rfl (lo_ai (c := 3) (by decide) hi hL) ?_
  refine az_E.call (d := 1299) (k' := 102) (vs := [.ref 3, .int (xs (i + 1)), .int (xs (i + 2)), .int (xs (i + 3))]) (pc' := 889) (S' := []) rfl ?_ (fun _ _ hq => hq)
  show az_E az_F (az_ex L xs) 1299 102 0 [.ref 3, .int (xs (i + 1)), .int (xs (i + 2)), .int (xs (i + 3)), .retAddr 0, .retAddr 0, .retAddr 0] [] (97, I, J, R) _
  rcases lo_rl h with ⟨rfl, rfl⟩ | ⟨rfl, rfl⟩
  · exact az_E.deep (by decide) (re_X_hearts_16_21 h2 h3 x (fun R' g2 g3 => hY R' g2 g3))
  · exact az_E.deep (by decide) (re_X_hearts_21_16 h2 h3 x (fun R' g2 g3 => hY R' g2 g3))
set_option maxRecDepth 100000 in
set_option maxHeartbeats 4000000 in
theorem lo_pairs {L i : Nat} {xs : Nat → Int32} {I : Nat → Nat → Int32} {J : Nat → Nat → Int64} {R : Nat → Nat → Option Nat} {rl rd : Nat} {Q : Option Value → az_S → Prop} (hi : i + 6 ≤ L) (hL : L ≤ 3072) (h : Rel I J rl rd) (h2 : R 3 2 = some rl) (h3 : R 3 3 = some rd) (k : lo_K L xs Q i) : az_E az_F (az_ex L xs) 1300 258 913 [.ref 0, .ref 3, .ref 73, .int (nI i)] [] (97, I, J, R) Q := by
  obtain ⟨v, I1, I2, x, m, hr⟩ := mt_pairs h (xs (i + 1)) (xs (i + 2))
  have hY : ∀ R' : Nat → Nat → Option Nat, R' 3 2 = some rl → R' 3 3 = some rd → az_E az_F (az_ex L xs) 1300 258 927 [.ref 0, .ref 3, .ref 73, .int (nI i)] [.int v] (97, I1, J, R') Q := by
    intro R' g2 g3
    refine az_E.sn 5 (pc' := 932) (L' := [.ref 0, .ref 3, .ref 73, .int (nI i)]) (S' := [.int (nI i + (1 : Int32)), .ref 0, .ref 73, .int v]) (σ' := (97, I1, J, R')) rfl ?_
    refine az_E.oi (pc' := 933) (L' := [.ref 0, .ref 3, .ref 73, .int (nI i)]) (S' := [.ref 73, .int v]) (σ' := (97, I1, J, R')) rfl (lo_ai (c := 1) (by decide) hi hL) ?_
    refine az_E.sn 4 (pc' := 937) (L' := [.ref 0, .ref 3, .ref 73, .int (nI i)]) (S' := [.int (nI i + (2 : Int32)), .ref 0, .int (xs (i + 1)), .ref 73, .int v]) (σ' := (97, I1, J, R')) rfl ?_
    refine az_E.oi (pc' := 938) (L' := [.ref 0, .ref 3, .ref 73, .int (nI i)]) (S' := [.int (xs (i + 1)), .ref 73, .int v]) (σ' := (97, I1, J, R')) rfl (lo_ai (c := 2) (by decide) hi hL) ?_
    refine az_E.call (d := 1299) (k' := 216) (vs := [.ref 73, .int (xs (i + 1)), .int (xs (i + 2))]) (pc' := 941) (S' := [.int v]) rfl ?_ (fun _ _ hq => hq)
    show az_E az_F (az_ex L xs) 1299 216 0 [.ref 73, .int (xs (i + 1)), .int (xs (i + 2)), .retAddr 0, .retAddr 0, .retAddr 0] [] (97, I1, J, R') _
    refine az_E.deep (by decide) (re_M_pairs m ?_)
    show az_E az_F (az_ex L xs) 1300 258 941 [.ref 0, .ref 3, .ref 73, .int (nI i)] [.int v, .int v] (97, I2, J, R') Q
    refine az_E.br (c := v = v) (tt := 1778) (ff := 944) (L' := [.ref 0, .ref 3, .ref 73, .int (nI i)]) (S' := []) (σ' := (97, I2, J, R')) rfl (fun _ => k _ _ _ _ _ hr g2 g3) (fun hc => absurd rfl hc)
  refine az_E.sn 5 (pc' := 918) (L' := [.ref 0, .ref 3, .ref 73, .int (nI i)]) (S' := [.int (nI i + (1 : Int32)), .ref 0, .ref 3]) (σ' := (97, I, J, R)) rfl ?_
  refine az_E.oi (pc' := 919) (L' := [.ref 0, .ref 3, .ref 73, .int (nI i)]) (S' := [.ref 3]) (σ' := (97, I, J, R)) rfl (lo_ai (c := 1) (by decide) hi hL) ?_
  refine az_E.sn 4 (pc' := 923) (L' := [.ref 0, .ref 3, .ref 73, .int (nI i)]) (S' := [.int (nI i + (2 : Int32)), .ref 0, .int (xs (i + 1)), .ref 3]) (σ' := (97, I, J, R)) rfl ?_
  refine az_E.oi (pc' := 924) (L' := [.ref 0, .ref 3, .ref 73, .int (nI i)]) (S' := [.int (xs (i + 1)), .ref 3]) (σ' := (97, I, J, R)) rfl (lo_ai (c := 2) (by decide) hi hL) ?_
  refine az_E.call (d := 1299) (k' := 103) (vs := [.ref 3, .int (xs (i + 1)), .int (xs (i + 2))]) (pc' := 927) (S' := []) rfl ?_ (fun _ _ hq => hq)
  show az_E az_F (az_ex L xs) 1299 103 0 [.ref 3, .int (xs (i + 1)), .int (xs (i + 2)), .retAddr 0, .retAddr 0, .retAddr 0] [] (97, I, J, R) _
  rcases lo_rl h with ⟨rfl, rfl⟩ | ⟨rfl, rfl⟩
  · exact az_E.deep (by decide) (re_X_pairs_16_21 h2 h3 x (fun R' g2 g3 => hY R' g2 g3))
  · exact az_E.deep (by decide) (re_X_pairs_21_16 h2 h3 x (fun R' g2 g3 => hY R' g2 g3))
set_option maxRecDepth 100000 in
set_option maxHeartbeats 4000000 in
theorem lo_next {L i : Nat} {xs : Nat → Int32} {I : Nat → Nat → Int32} {J : Nat → Nat → Int64} {R : Nat → Nat → Option Nat} {rl rd : Nat} {Q : Option Value → az_S → Prop} (hi : i + 6 ≤ L) (hL : L ≤ 3072) (h : Rel I J rl rd) (h2 : R 3 2 = some rl) (h3 : R 3 3 = some rd) (k : lo_K L xs Q i) : az_E az_F (az_ex L xs) 1300 258 946 [.ref 0, .ref 3, .ref 73, .int (nI i)] [] (97, I, J, R) Q := by
  obtain ⟨v, I1, I2, x, m, hr⟩ := mt_next h (xs (i + 1)) (xs (i + 2))
  have hY : ∀ R' : Nat → Nat → Option Nat, R' 3 2 = some rl → R' 3 3 = some rd → az_E az_F (az_ex L xs) 1300 258 960 [.ref 0, .ref 3, .ref 73, .int (nI i)] [.int v] (97, I1, J, R') Q := by
    intro R' g2 g3
    refine az_E.sn 5 (pc' := 965) (L' := [.ref 0, .ref 3, .ref 73, .int (nI i)]) (S' := [.int (nI i + (1 : Int32)), .ref 0, .ref 73, .int v]) (σ' := (97, I1, J, R')) rfl ?_
    refine az_E.oi (pc' := 966) (L' := [.ref 0, .ref 3, .ref 73, .int (nI i)]) (S' := [.ref 73, .int v]) (σ' := (97, I1, J, R')) rfl (lo_ai (c := 1) (by decide) hi hL) ?_
    refine az_E.sn 4 (pc' := 970) (L' := [.ref 0, .ref 3, .ref 73, .int (nI i)]) (S' := [.int (nI i + (2 : Int32)), .ref 0, .int (xs (i + 1)), .ref 73, .int v]) (σ' := (97, I1, J, R')) rfl ?_
    refine az_E.oi (pc' := 971) (L' := [.ref 0, .ref 3, .ref 73, .int (nI i)]) (S' := [.int (xs (i + 1)), .ref 73, .int v]) (σ' := (97, I1, J, R')) rfl (lo_ai (c := 2) (by decide) hi hL) ?_
    refine az_E.call (d := 1299) (k' := 217) (vs := [.ref 73, .int (xs (i + 1)), .int (xs (i + 2))]) (pc' := 974) (S' := [.int v]) rfl ?_ (fun _ _ hq => hq)
    show az_E az_F (az_ex L xs) 1299 217 0 [.ref 73, .int (xs (i + 1)), .int (xs (i + 2)), .retAddr 0, .retAddr 0, .retAddr 0, .retAddr 0, .retAddr 0, .retAddr 0, .retAddr 0] [] (97, I1, J, R') _
    refine az_E.deep (by decide) (re_M_next m ?_)
    show az_E az_F (az_ex L xs) 1300 258 974 [.ref 0, .ref 3, .ref 73, .int (nI i)] [.int v, .int v] (97, I2, J, R') Q
    refine az_E.br (c := v = v) (tt := 1778) (ff := 977) (L' := [.ref 0, .ref 3, .ref 73, .int (nI i)]) (S' := []) (σ' := (97, I2, J, R')) rfl (fun _ => k _ _ _ _ _ hr g2 g3) (fun hc => absurd rfl hc)
  refine az_E.sn 5 (pc' := 951) (L' := [.ref 0, .ref 3, .ref 73, .int (nI i)]) (S' := [.int (nI i + (1 : Int32)), .ref 0, .ref 3]) (σ' := (97, I, J, R)) rfl ?_
  refine az_E.oi (pc' := 952) (L' := [.ref 0, .ref 3, .ref 73, .int (nI i)]) (S' := [.ref 3]) (σ' := (97, I, J, R)) rfl (lo_ai (c := 1) (by decide) hi hL) ?_
  refine az_E.sn 4 (pc' := 956) (L' := [.ref 0, .ref 3, .ref 73, .int (nI i)]) (S' := [.int (nI i + (2 : Int32)), .ref 0, .int (xs (i + 1)), .ref 3]) (σ' := (97, I, J, R)) rfl ?_
  refine az_E.oi (pc' := 957) (L' := [.ref 0, .ref 3, .ref 73, .int (nI i)]) (S' := [.int (xs (i + 1)), .ref 3]) (σ' := (97, I, J, R)) rfl (lo_ai (c := 2) (by decide) hi hL) ?_
  refine az_E.call (d := 1299) (k' := 104) (vs := [.ref 3, .int (xs (i + 1)), .int (xs (i + 2))]) (pc' := 960) (S' := []) rfl ?_ (fun _ _ hq => hq)
  show az_E az_F (az_ex L xs) 1299 104 0 [.ref 3, .int (xs (i + 1)), .int (xs (i + 2)), .retAddr 0, .retAddr 0, .retAddr 0, .retAddr 0] [] (97, I, J, R) _
  rcases lo_rl h with ⟨rfl, rfl⟩ | ⟨rfl, rfl⟩
  · exact az_E.deep (by decide) (re_X_next_16_21 h2 h3 x (fun R' g2 g3 => hY R' g2 g3))
  · exact az_E.deep (by decide) (re_X_next_21_16 h2 h3 x (fun R' g2 g3 => hY R' g2 g3))
set_option maxRecDepth 100000 in
set_option maxHeartbeats 4000000 in
theorem lo_weathers {L i : Nat} {xs : Nat → Int32} {I : Nat → Nat → Int32} {J : Nat → Nat → Int64} {R : Nat → Nat → Option Nat} {rl rd : Nat} {Q : Option Value → az_S → Prop} (hi : i + 6 ≤ L) (hL : L ≤ 3072) (h : Rel I J rl rd) (h2 : R 3 2 = some rl) (h3 : R 3 3 = some rd) (k : lo_K L xs Q i) : az_E az_F (az_ex L xs) 1300 258 979 [.ref 0, .ref 3, .ref 73, .int (nI i)] [] (97, I, J, R) Q := by
  obtain ⟨v, I1, I2, x, m, hr⟩ := mt_weathers h (xs (i + 1)) (xs (i + 2))
  have hY : ∀ R' : Nat → Nat → Option Nat, R' 3 2 = some rl → R' 3 3 = some rd → az_E az_F (az_ex L xs) 1300 258 993 [.ref 0, .ref 3, .ref 73, .int (nI i)] [.int v] (97, I1, J, R') Q := by
    intro R' g2 g3
    refine az_E.sn 5 (pc' := 998) (L' := [.ref 0, .ref 3, .ref 73, .int (nI i)]) (S' := [.int (nI i + (1 : Int32)), .ref 0, .ref 73, .int v]) (σ' := (97, I1, J, R')) rfl ?_
    refine az_E.oi (pc' := 999) (L' := [.ref 0, .ref 3, .ref 73, .int (nI i)]) (S' := [.ref 73, .int v]) (σ' := (97, I1, J, R')) rfl (lo_ai (c := 1) (by decide) hi hL) ?_
    refine az_E.sn 4 (pc' := 1003) (L' := [.ref 0, .ref 3, .ref 73, .int (nI i)]) (S' := [.int (nI i + (2 : Int32)), .ref 0, .int (xs (i + 1)), .ref 73, .int v]) (σ' := (97, I1, J, R')) rfl ?_
    refine az_E.oi (pc' := 1004) (L' := [.ref 0, .ref 3, .ref 73, .int (nI i)]) (S' := [.int (xs (i + 1)), .ref 73, .int v]) (σ' := (97, I1, J, R')) rfl (lo_ai (c := 2) (by decide) hi hL) ?_
    refine az_E.call (d := 1299) (k' := 218) (vs := [.ref 73, .int (xs (i + 1)), .int (xs (i + 2))]) (pc' := 1007) (S' := [.int v]) rfl ?_ (fun _ _ hq => hq)
    show az_E az_F (az_ex L xs) 1299 218 0 [.ref 73, .int (xs (i + 1)), .int (xs (i + 2)), .retAddr 0, .retAddr 0, .retAddr 0] [] (97, I1, J, R') _
    refine az_E.deep (by decide) (re_M_weathers m ?_)
    show az_E az_F (az_ex L xs) 1300 258 1007 [.ref 0, .ref 3, .ref 73, .int (nI i)] [.int v, .int v] (97, I2, J, R') Q
    refine az_E.br (c := v = v) (tt := 1778) (ff := 1010) (L' := [.ref 0, .ref 3, .ref 73, .int (nI i)]) (S' := []) (σ' := (97, I2, J, R')) rfl (fun _ => k _ _ _ _ _ hr g2 g3) (fun hc => absurd rfl hc)
  refine az_E.sn 5 (pc' := 984) (L' := [.ref 0, .ref 3, .ref 73, .int (nI i)]) (S' := [.int (nI i + (1 : Int32)), .ref 0, .ref 3]) (σ' := (97, I, J, R)) rfl ?_
  refine az_E.oi (pc' := 985) (L' := [.ref 0, .ref 3, .ref 73, .int (nI i)]) (S' := [.ref 3]) (σ' := (97, I, J, R)) rfl (lo_ai (c := 1) (by decide) hi hL) ?_
  refine az_E.sn 4 (pc' := 989) (L' := [.ref 0, .ref 3, .ref 73, .int (nI i)]) (S' := [.int (nI i + (2 : Int32)), .ref 0, .int (xs (i + 1)), .ref 3]) (σ' := (97, I, J, R)) rfl ?_
  refine az_E.oi (pc' := 990) (L' := [.ref 0, .ref 3, .ref 73, .int (nI i)]) (S' := [.int (xs (i + 1)), .ref 3]) (σ' := (97, I, J, R)) rfl (lo_ai (c := 2) (by decide) hi hL) ?_
  refine az_E.call (d := 1299) (k' := 105) (vs := [.ref 3, .int (xs (i + 1)), .int (xs (i + 2))]) (pc' := 993) (S' := []) rfl ?_ (fun _ _ hq => hq)
  show az_E az_F (az_ex L xs) 1299 105 0 [.ref 3, .int (xs (i + 1)), .int (xs (i + 2)), .retAddr 0, .retAddr 0] [] (97, I, J, R) _
  rcases lo_rl h with ⟨rfl, rfl⟩ | ⟨rfl, rfl⟩
  · exact az_E.deep (by decide) (re_X_weathers_16_21 h2 h3 x (fun R' g2 g3 => hY R' g2 g3))
  · exact az_E.deep (by decide) (re_X_weathers_21_16 h2 h3 x (fun R' g2 g3 => hY R' g2 g3))
set_option maxRecDepth 100000 in
set_option maxHeartbeats 4000000 in
theorem lo_judge {L i : Nat} {xs : Nat → Int32} {I : Nat → Nat → Int32} {J : Nat → Nat → Int64} {R : Nat → Nat → Option Nat} {rl rd : Nat} {Q : Option Value → az_S → Prop} (hi : i + 6 ≤ L) (hL : L ≤ 3072) (h : Rel I J rl rd) (h2 : R 3 2 = some rl) (h3 : R 3 3 = some rd) (k : lo_K L xs Q i) : az_E az_F (az_ex L xs) 1300 258 1012 [.ref 0, .ref 3, .ref 73, .int (nI i)] [] (97, I, J, R) Q := by
  obtain ⟨v, I1, I2, x, m, hr⟩ := mt_judge h (xs (i + 1)) (xs (i + 2))
  have hY : ∀ R' : Nat → Nat → Option Nat, R' 3 2 = some rl → R' 3 3 = some rd → az_E az_F (az_ex L xs) 1300 258 1026 [.ref 0, .ref 3, .ref 73, .int (nI i)] [.int v] (97, I1, J, R') Q := by
    intro R' g2 g3
    refine az_E.sn 5 (pc' := 1031) (L' := [.ref 0, .ref 3, .ref 73, .int (nI i)]) (S' := [.int (nI i + (1 : Int32)), .ref 0, .ref 73, .int v]) (σ' := (97, I1, J, R')) rfl ?_
    refine az_E.oi (pc' := 1032) (L' := [.ref 0, .ref 3, .ref 73, .int (nI i)]) (S' := [.ref 73, .int v]) (σ' := (97, I1, J, R')) rfl (lo_ai (c := 1) (by decide) hi hL) ?_
    refine az_E.sn 4 (pc' := 1036) (L' := [.ref 0, .ref 3, .ref 73, .int (nI i)]) (S' := [.int (nI i + (2 : Int32)), .ref 0, .int (xs (i + 1)), .ref 73, .int v]) (σ' := (97, I1, J, R')) rfl ?_
    refine az_E.oi (pc' := 1037) (L' := [.ref 0, .ref 3, .ref 73, .int (nI i)]) (S' := [.int (xs (i + 1)), .ref 73, .int v]) (σ' := (97, I1, J, R')) rfl (lo_ai (c := 2) (by decide) hi hL) ?_
    refine az_E.call (d := 1299) (k' := 221) (vs := [.ref 73, .int (xs (i + 1)), .int (xs (i + 2))]) (pc' := 1040) (S' := [.int v]) rfl ?_ (fun _ _ hq => hq)
    show az_E az_F (az_ex L xs) 1299 221 0 [.ref 73, .int (xs (i + 1)), .int (xs (i + 2))] [] (97, I1, J, R') _
    refine az_E.deep (by decide) (re_M_judge m ?_)
    show az_E az_F (az_ex L xs) 1300 258 1040 [.ref 0, .ref 3, .ref 73, .int (nI i)] [.int v, .int v] (97, I2, J, R') Q
    refine az_E.br (c := v = v) (tt := 1778) (ff := 1043) (L' := [.ref 0, .ref 3, .ref 73, .int (nI i)]) (S' := []) (σ' := (97, I2, J, R')) rfl (fun _ => k _ _ _ _ _ hr g2 g3) (fun hc => absurd rfl hc)
  refine az_E.sn 5 (pc' := 1017) (L' := [.ref 0, .ref 3, .ref 73, .int (nI i)]) (S' := [.int (nI i + (1 : Int32)), .ref 0, .ref 3]) (σ' := (97, I, J, R)) rfl ?_
  refine az_E.oi (pc' := 1018) (L' := [.ref 0, .ref 3, .ref 73, .int (nI i)]) (S' := [.ref 3]) (σ' := (97, I, J, R)) rfl (lo_ai (c := 1) (by decide) hi hL) ?_
  refine az_E.sn 4 (pc' := 1022) (L' := [.ref 0, .ref 3, .ref 73, .int (nI i)]) (S' := [.int (nI i + (2 : Int32)), .ref 0, .int (xs (i + 1)), .ref 3]) (σ' := (97, I, J, R)) rfl ?_
  refine az_E.oi (pc' := 1023) (L' := [.ref 0, .ref 3, .ref 73, .int (nI i)]) (S' := [.int (xs (i + 1)), .ref 3]) (σ' := (97, I, J, R)) rfl (lo_ai (c := 2) (by decide) hi hL) ?_
  refine az_E.call (d := 1299) (k' := 106) (vs := [.ref 3, .int (xs (i + 1)), .int (xs (i + 2))]) (pc' := 1026) (S' := []) rfl ?_ (fun _ _ hq => hq)
  show az_E az_F (az_ex L xs) 1299 106 0 [.ref 3, .int (xs (i + 1)), .int (xs (i + 2)), .retAddr 0] [] (97, I, J, R) _
  rcases lo_rl h with ⟨rfl, rfl⟩ | ⟨rfl, rfl⟩
  · exact az_E.deep (by decide) (re_X_judge_16_21 h2 h3 x (fun R' g2 g3 => hY R' g2 g3))
  · exact az_E.deep (by decide) (re_X_judge_21_16 h2 h3 x (fun R' g2 g3 => hY R' g2 g3))
set_option maxRecDepth 100000 in
set_option maxHeartbeats 4000000 in
theorem lo_byHeart {L i : Nat} {xs : Nat → Int32} {I : Nat → Nat → Int32} {J : Nat → Nat → Int64} {R : Nat → Nat → Option Nat} {rl rd : Nat} {Q : Option Value → az_S → Prop} (hi : i + 6 ≤ L) (hL : L ≤ 3072) (h : Rel I J rl rd) (h2 : R 3 2 = some rl) (h3 : R 3 3 = some rd) (k : lo_K L xs Q i) : az_E az_F (az_ex L xs) 1300 258 1045 [.ref 0, .ref 3, .ref 73, .int (nI i)] [] (97, I, J, R) Q := by
  obtain ⟨v, I1, I2, x, m, hr⟩ := mt_byHeart h (xs (i + 1)) (xs (i + 2)) (xs (i + 3))
  have hY : ∀ R' : Nat → Nat → Option Nat, R' 3 2 = some rl → R' 3 3 = some rd → az_E az_F (az_ex L xs) 1300 258 1064 [.ref 0, .ref 3, .ref 73, .int (nI i)] [.int v] (97, I1, J, R') Q := by
    intro R' g2 g3
    refine az_E.sn 5 (pc' := 1069) (L' := [.ref 0, .ref 3, .ref 73, .int (nI i)]) (S' := [.int (nI i + (1 : Int32)), .ref 0, .ref 73, .int v]) (σ' := (97, I1, J, R')) rfl ?_
    refine az_E.oi (pc' := 1070) (L' := [.ref 0, .ref 3, .ref 73, .int (nI i)]) (S' := [.ref 73, .int v]) (σ' := (97, I1, J, R')) rfl (lo_ai (c := 1) (by decide) hi hL) ?_
    refine az_E.sn 4 (pc' := 1074) (L' := [.ref 0, .ref 3, .ref 73, .int (nI i)]) (S' := [.int (nI i + (2 : Int32)), .ref 0, .int (xs (i + 1)), .ref 73, .int v]) (σ' := (97, I1, J, R')) rfl ?_
    refine az_E.oi (pc' := 1075) (L' := [.ref 0, .ref 3, .ref 73, .int (nI i)]) (S' := [.int (xs (i + 1)), .ref 73, .int v]) (σ' := (97, I1, J, R')) rfl (lo_ai (c := 2) (by decide) hi hL) ?_
    refine az_E.sn 4 (pc' := 1079) (L' := [.ref 0, .ref 3, .ref 73, .int (nI i)]) (S' := [.int (nI i + (3 : Int32)), .ref 0, .int (xs (i + 2)), .int (xs (i + 1)), .ref 73, .int v]) (σ' := (97, I1, J, R')) rfl ?_
    refine az_E.oi (pc' := 1080) (L' := [.ref 0, .ref 3, .ref 73, .int (nI i)]) (S' := [.int (xs (i + 2)), .int (xs (i + 1)), .ref 73, .int v]) (σ' := (97, I1, J, R')) rfl (lo_ai (c := 3) (by decide) hi hL) ?_
    refine az_E.call (d := 1299) (k' := 222) (vs := [.ref 73, .int (xs (i + 1)), .int (xs (i + 2)), .int (xs (i + 3))]) (pc' := 1083) (S' := [.int v]) rfl ?_ (fun _ _ hq => hq)
    show az_E az_F (az_ex L xs) 1299 222 0 [.ref 73, .int (xs (i + 1)), .int (xs (i + 2)), .int (xs (i + 3)), .retAddr 0, .retAddr 0, .retAddr 0] [] (97, I1, J, R') _
    refine az_E.deep (by decide) (re_M_byHeart m ?_)
    show az_E az_F (az_ex L xs) 1300 258 1083 [.ref 0, .ref 3, .ref 73, .int (nI i)] [.int v, .int v] (97, I2, J, R') Q
    refine az_E.br (c := v = v) (tt := 1778) (ff := 1086) (L' := [.ref 0, .ref 3, .ref 73, .int (nI i)]) (S' := []) (σ' := (97, I2, J, R')) rfl (fun _ => k _ _ _ _ _ hr g2 g3) (fun hc => absurd rfl hc)
  refine az_E.sn 5 (pc' := 1050) (L' := [.ref 0, .ref 3, .ref 73, .int (nI i)]) (S' := [.int (nI i + (1 : Int32)), .ref 0, .ref 3]) (σ' := (97, I, J, R)) rfl ?_
  refine az_E.oi (pc' := 1051) (L' := [.ref 0, .ref 3, .ref 73, .int (nI i)]) (S' := [.ref 3]) (σ' := (97, I, J, R)) rfl (lo_ai (c := 1) (by decide) hi hL) ?_
  refine az_E.sn 4 (pc' := 1055) (L' := [.ref 0, .ref 3, .ref 73, .int (nI i)]) (S' := [.int (nI i + (2 : Int32)), .ref 0, .int (xs (i + 1)), .ref 3]) (σ' := (97, I, J, R)) rfl ?_
  refine az_E.oi (pc' := 1056) (L' := [.ref 0, .ref 3, .ref 73, .int (nI i)]) (S' := [.int (xs (i + 1)), .ref 3]) (σ' := (97, I, J, R)) rfl (lo_ai (c := 2) (by decide) hi hL) ?_
  refine az_E.sn 4 (pc' := 1060) (L' := [.ref 0, .ref 3, .ref 73, .int (nI i)]) (S' := [.int (nI i + (3 : Int32)), .ref 0, .int (xs (i + 2)), .int (xs (i + 1)), .ref 3]) (σ' := (97, I, J, R)) rfl ?_
  refine az_E.oi (pc' := 1061) (L' := [.ref 0, .ref 3, .ref 73, .int (nI i)]) (S' := [.int (xs (i + 2)), .int (xs (i + 1)), .ref 3]) (σ' := (97, I, J, R)) rfl (lo_ai (c := 3) (by decide) hi hL) ?_
  refine az_E.call (d := 1299) (k' := 107) (vs := [.ref 3, .int (xs (i + 1)), .int (xs (i + 2)), .int (xs (i + 3))]) (pc' := 1064) (S' := []) rfl ?_ (fun _ _ hq => hq)
  show az_E az_F (az_ex L xs) 1299 107 0 [.ref 3, .int (xs (i + 1)), .int (xs (i + 2)), .int (xs (i + 3)), .retAddr 0, .retAddr 0, .retAddr 0] [] (97, I, J, R) _
  rcases lo_rl h with ⟨rfl, rfl⟩ | ⟨rfl, rfl⟩
  · exact az_E.deep (by decide) (re_X_byHeart_16_21 h2 h3 x (fun R' g2 g3 => hY R' g2 g3))
  · exact az_E.deep (by decide) (re_X_byHeart_21_16 h2 h3 x (fun R' g2 g3 => hY R' g2 g3))

/-! NUMBERS AND CELLS, for the pure part -/
theorem bz_0 : (0 : Int32).toInt = 0 := by decide
theorem bz_lit (n : Nat) : (OfNat.ofNat n : Int32) = nI n := rfl
theorem bz_nlit (n : Nat) : (-(OfNat.ofNat n) : Int32) = -nI n := rfl
theorem bz_c (x : Int32) : x.toNatClampNeg = x.toInt.toNat := rfl
theorem bz_lcl {x y : Int64} : (lg_cmp x y < 0) ↔ x < y := by
  unfold lg_cmp
  rw [Int64.lt_iff_toInt_lt]
  by_cases h : x > y
  · rw [if_pos h]
    have := Int64.lt_iff_toInt_lt.mp h
    exact ⟨fun q => absurd q (by decide), fun q => by omega⟩
  · rw [if_neg h]
    have h' : ¬ y.toInt < x.toInt := fun q => h (Int64.lt_iff_toInt_lt.mpr q)
    by_cases e : x = y
    · rw [if_pos e]
      subst e
      exact ⟨fun q => absurd q (by decide), fun q => by omega⟩
    · rw [if_neg e]
      have : x.toInt ≠ y.toInt := fun q => e (Int64.toInt_inj.mp q)
      exact ⟨fun _ => by omega, fun _ => by decide⟩
theorem bz_lcg {x y : Int64} : (0 < lg_cmp x y) ↔ y < x := by
  unfold lg_cmp
  by_cases h : x > y
  · rw [if_pos h]
    exact ⟨fun _ => h, fun _ => by decide⟩
  · rw [if_neg h]
    by_cases e : x = y
    · rw [if_pos e]
      exact ⟨fun q => absurd q (by decide), fun q => absurd q h⟩
    · rw [if_neg e]
      exact ⟨fun q => absurd q (by decide), fun q => absurd q h⟩
theorem bz_lt64 {x : Int32} {y : Int64} : x.toInt64 < y ↔ x.toInt < y.toInt := by
  rw [Int64.lt_iff_toInt_lt, Int32.toInt_toInt64]
theorem bz_gt64 {x : Int32} {y : Int64} : y < x.toInt64 ↔ y.toInt < x.toInt := by
  rw [Int64.lt_iff_toInt_lt, Int32.toInt_toInt64]
theorem bz_lt64' {x y : Int32} : x.toInt64 < y.toInt64 ↔ x.toInt < y.toInt := by
  rw [Int64.lt_iff_toInt_lt, Int32.toInt_toInt64, Int32.toInt_toInt64]
theorem bz_add {x y : Int32} (h1 : -2147483648 ≤ x.toInt + y.toInt) (h2 : x.toInt + y.toInt < 2147483648) : (x + y).toInt = x.toInt + y.toInt := by
  rw [Int32.toInt_add]
  exact Int.bmod_eq_of_le (by omega) (by omega)
theorem bz_sub {x y : Int32} (h1 : -2147483648 ≤ x.toInt - y.toInt) (h2 : x.toInt - y.toInt < 2147483648) : (x - y).toInt = x.toInt - y.toInt := by
  rw [Int32.toInt_sub]
  exact Int.bmod_eq_of_le (by omega) (by omega)
theorem bz_mul {x y : Int32} (h1 : -2147483648 ≤ x.toInt * y.toInt) (h2 : x.toInt * y.toInt < 2147483648) : (x * y).toInt = x.toInt * y.toInt := by
  rw [Int32.toInt_mul]
  exact Int.bmod_eq_of_le (by omega) (by omega)
theorem bz_rng (x : Int32) : -2147483648 ≤ x.toInt ∧ x.toInt < 2147483648 := ⟨Int32.le_toInt x, Int32.toInt_lt x⟩
theorem bz_ne {x y : Int32} : x ≠ y ↔ x.toInt ≠ y.toInt := by
  rw [ne_eq, ne_eq, Int32.toInt_inj]
theorem bz_eq {x y : Int32} : x = y ↔ x.toInt = y.toInt := Int32.toInt_inj.symm
theorem bz_in {x : Int32} {n : Nat} : (x < 0 ∨ n ≤ x.toNatClampNeg) ↔ (x.toInt < 0 ∨ (n : Int) ≤ x.toInt) := by
  rw [bz_c, Int32.lt_iff_toInt_lt, bz_0]
  omega
/-- a number that is one of the first n -/
theorem bz_nat {x : Int32} {n : Nat} (h0 : 0 ≤ x.toInt) (h1 : x.toInt < n) : ∃ j : Nat, j < n ∧ x = nI j := by
  have := bz_rng x
  refine ⟨x.toInt.toNat, by omega, Int32.toInt_inj.mp ?_⟩
  rw [nI_toInt (by omega)]
  omega
/-! cells -/
theorem az_ue {α : Type} {f : Nat → Nat → α} {r k r' k' : Nat} {v : α} (h : r' = r ∧ k' = k) : az_u f r k v r' k' = v := if_pos h
theorem az_un {α : Type} {f : Nat → Nat → α} {r k r' k' : Nat} {v : α} (h : r' ≠ r ∨ k' ≠ k) : az_u f r k v r' k' = f r' k' := if_neg (by omega)
theorem az_us {α : Type} {f : Nat → Nat → α} {r k : Nat} {v : α} : az_u f r k v r k = v := if_pos ⟨rfl, rfl⟩
theorem az_ure {α : Type} {f : Nat → Nat → α} {r r' : Nat} {g : Nat → α} (h : r' = r) : az_ur f r g r' = g := if_pos h
theorem az_urn {α : Type} {f : Nat → Nat → α} {r r' : Nat} {g : Nat → α} (h : r' ≠ r) : az_ur f r g r' = f r' := if_neg h
/-- only cells of S differ -/
def az_fr (S : Nat → Nat → Prop) {α : Type} (f g : Nat → Nat → α) : Prop := ∀ r k, ¬ S r k → g r k = f r k
theorem az_fr.refl {S : Nat → Nat → Prop} {α : Type} {f : Nat → Nat → α} : az_fr S f f := fun _ _ _ => rfl
theorem az_fr.trans {S : Nat → Nat → Prop} {α : Type} {f g h : Nat → Nat → α} (a : az_fr S f g) (b : az_fr S g h) : az_fr S f h := fun r k q => (b r k q).trans (a r k q)
theorem az_fr.mono {S T : Nat → Nat → Prop} {α : Type} {f g : Nat → Nat → α} (a : az_fr S f g) (h : ∀ r k, S r k → T r k) : az_fr T f g := fun r k q => a r k (fun s => q (h r k s))
theorem az_fr.u {S : Nat → Nat → Prop} {α : Type} {f g : Nat → Nat → α} {r k : Nat} {v : α} (a : az_fr S f g) (h : S r k) : az_fr S f (az_u g r k v) := fun r' k' q => by
  by_cases e : r' = r ∧ k' = k
  · obtain ⟨rfl, rfl⟩ := e; exact absurd h q
  · exact (if_neg e).trans (a r' k' q)
theorem az_fr.ur {S : Nat → Nat → Prop} {α : Type} {f g : Nat → Nat → α} {r : Nat} {v : Nat → α} (a : az_fr S f g) (h : ∀ k, S r k ∨ v k = g r k) : az_fr S f (az_ur g r v) := fun r' k' q => by
  by_cases e : r' = r
  · subst e
    show az_ur g r' v r' k' = _
    rw [az_ure rfl]
    rcases h k' with s | s
    · exact absurd s q
    · exact s.trans (a r' k' q)
  · show az_ur g r v r' k' = _
    rw [az_urn e]
    exact a r' k' q
/-! loops -/
/-- a loop that counts up to n, or leaves before: 'Inv k' holds at its k-th turn -/
theorem az_for {S X : Type} {body : S → Option (S ⊕ X)} {Inv : Nat → S → Prop} {P : X → Prop} (n : Nat)
    (hs : ∀ k s, k < n → Inv k s → ∃ o, body s = some o ∧ Sum.elim (Inv (k + 1)) P o)
    (he : ∀ s, Inv n s → ∃ x, body s = some (.inr x) ∧ P x) :
    ∀ m k s, k ≤ n → n < m + k → Inv k s → ∃ x, az_lp body m s = some x ∧ P x := by
  intro m
  induction m with
  | zero => intro k s h1 h2; omega
  | succ m ih =>
    intro k s h1 h2 hi
    rcases Nat.lt_or_ge k n with hk | hk
    · obtain ⟨o, ho, hp⟩ := hs k s hk hi
      cases o with
      | inl s' =>
        obtain ⟨x, hx, hpx⟩ := ih (k + 1) s' hk (by omega) hp
        exact ⟨x, by unfold az_lp; rw [ho]; exact hx, hpx⟩
      | inr x => exact ⟨x, by unfold az_lp; rw [ho], hp⟩
    · have : k = n := by omega
      subst this
      obtain ⟨x, hx, hp⟩ := he s hi
      exact ⟨x, by unfold az_lp; rw [hx], hp⟩
/-- .. from its beginning, with the fuel that all loops have -/
theorem az_for0 {S X : Type} {body : S → Option (S ⊕ X)} (Inv : Nat → S → Prop) {P : X → Prop} (n : Nat) (hn : n < 100000) {s : S} (h0 : Inv 0 s)
    (hs : ∀ k s, k < n → Inv k s → ∃ o, body s = some o ∧ Sum.elim (Inv (k + 1)) P o)
    (he : ∀ s, Inv n s → ∃ x, body s = some (.inr x) ∧ P x) : ∃ x, az_lp body 100000 s = some x ∧ P x :=
  az_for n hs he 100000 0 s (Nat.zero_le n) (by omega) h0
/-- a loop with a measure -/
theorem az_whl {S X : Type} {body : S → Option (S ⊕ X)} {Inv : S → Prop} {P : X → Prop} (μ : S → Nat)
    (hs : ∀ s, Inv s → ∃ o, body s = some o ∧ Sum.elim (fun s' => Inv s' ∧ μ s' < μ s) P o) :
    ∀ m s, μ s < m → Inv s → ∃ x, az_lp body m s = some x ∧ P x := by
  intro m
  induction m with
  | zero => intro s h; omega
  | succ m ih =>
    intro s h hi
    obtain ⟨o, ho, hp⟩ := hs s hi
    cases o with
    | inl s' =>
      obtain ⟨x, hx, hpx⟩ := ih s' (by have := hp.2; omega) hp.1
      exact ⟨x, by unfold az_lp; rw [ho]; exact hx, hpx⟩
    | inr x => exact ⟨x, by unfold az_lp; rw [ho], hp⟩
/-! negative ones -/
theorem bz_ng {a : Nat} (h : a < 2 ^ 31) : (-nI a).toInt = -(a : Int) := by
  rw [Int32.toInt_neg, nI_toInt h]
  exact Int.bmod_eq_of_le (by omega) (by omega)
theorem bz_nlt {a b : Nat} (ha : a < 2 ^ 31) (hb : b < 2 ^ 31) : (-nI a < nI b) ↔ 0 < a + b := by
  rw [Int32.lt_iff_toInt_lt, bz_ng ha, nI_toInt hb]; omega
theorem bz_nle {a b : Nat} (ha : a < 2 ^ 31) (hb : b < 2 ^ 31) : (-nI a ≤ nI b) ↔ True := by
  rw [Int32.le_iff_toInt_le, bz_ng ha, nI_toInt hb]
  exact ⟨fun _ => trivial, fun _ => by omega⟩
theorem bz_ltn {a b : Nat} (ha : a < 2 ^ 31) (hb : b < 2 ^ 31) : (nI b < -nI a) ↔ False := by
  rw [Int32.lt_iff_toInt_lt, bz_ng ha, nI_toInt hb]
  exact ⟨fun h => by omega, fun h => h.elim⟩
theorem bz_len {a b : Nat} (ha : a < 2 ^ 31) (hb : b < 2 ^ 31) : (nI b ≤ -nI a) ↔ a + b = 0 := by
  rw [Int32.le_iff_toInt_le, bz_ng ha, nI_toInt hb]; omega
theorem bz_neq {a b : Nat} (ha : a < 2 ^ 31) (hb : b < 2 ^ 31) : (-nI a = nI b) ↔ a + b = 0 := by
  rw [← Int32.toInt_inj, bz_ng ha, nI_toInt hb]; omega
theorem bz_eqn {a b : Nat} (ha : a < 2 ^ 31) (hb : b < 2 ^ 31) : (nI b = -nI a) ↔ a + b = 0 := by
  rw [← Int32.toInt_inj, bz_ng ha, nI_toInt hb]; omega
theorem bz_nn {a b : Nat} (ha : a < 2 ^ 31) (hb : b < 2 ^ 31) : (-nI a = -nI b) ↔ a = b := by
  rw [← Int32.toInt_inj, bz_ng ha, bz_ng hb]; omega
theorem az_nxt {S X : Type} {b : Option (S ⊕ X)} {P : S → Prop} {Q : X → Prop} (s' : S) (e : b = some (.inl s')) (h : P s') : ∃ o, b = some o ∧ Sum.elim P Q o := ⟨_, e, h⟩
theorem az_out {S X : Type} {b : Option (S ⊕ X)} {P : S → Prop} {Q : X → Prop} (x : X) (e : b = some (.inr x)) (h : Q x) : ∃ o, b = some o ∧ Sum.elim P Q o := ⟨_, e, h⟩

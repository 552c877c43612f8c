/-! THE SMALL MACHINE: what the bytecode does to cells that are numbers. A pure function; part 06 ties it to the machine. -/
/-- how many cells there are; ints by cell and place; longs; references -/
abbrev az_S : Type := Nat × (Nat → Nat → Int32) × (Nat → Nat → Int64) × (Nat → Nat → Option Nat)
/-- what the cells are: (0, its class, a code a field: 0 int, 1 boolean, 2 a reference that moves, r a reference that stays), (1, length, ..) ints, 2 longs, 3 booleans, 4 references, 5 references that stay -/
abbrev az_H : Type := List (Nat × Nat × List Nat)
abbrev az_T : Type := (Nat × List Value × List Value × az_S) ⊕ ((Option Value × az_S) ⊕ (Nat × List Value × Nat × List Value))
/-- the kind of a cell that is there -/
def az_k (sh : az_H) (n r : Nat) : Option (Nat × Nat × List Nat) := if 3 ≤ r ∧ r - 3 < n then sh[r - 3]? else none
def az_gf (sh : az_H) (σ : az_S) (r ci k : Nat) : Option Value := match az_k sh σ.1 r with
  | some (0, c, cs) => if c = ci then (match cs[k]? with
    | some 0 => some (.int (σ.2.1 r k))
    | some 1 => some (.int (σ.2.1 r k))
    | some 2 => some (va_rf (σ.2.2.2 r k))
    | some q => some (.ref q)
    | none => none) else none
  | _ => none
def az_pf (sh : az_H) (σ : az_S) (r ci k : Nat) (v : Value) : Option az_S := match az_k sh σ.1 r with
  | some (0, c, cs) => if c = ci then (match cs[k]? with
    | some 0 => (match v with | .int x => some (σ.1, az_u σ.2.1 r k x, σ.2.2) | _ => none)
    | some 1 => (match v with | .int x => if x = 0 ∨ x = 1 then some (σ.1, az_u σ.2.1 r k x, σ.2.2) else none | _ => none)
    | some 2 => (match v with | .ref q => some (σ.1, σ.2.1, σ.2.2.1, az_u σ.2.2.2 r k (some q)) | .null => some (σ.1, σ.2.1, σ.2.2.1, az_u σ.2.2.2 r k none) | _ => none)
    | _ => none) else none
  | _ => none
def az_ai (sh : az_H) (ex : az_X) (σ : az_S) (r : Nat) (i : Int32) : Option Int32 :=
  if r < 3 then (if i < 0 ∨ (ex r).1 ≤ i.toNatClampNeg then none else some ((ex r).2 i.toNatClampNeg))
  else match az_k sh σ.1 r with
  | some (1, n, _) => if i < 0 ∨ n ≤ i.toNatClampNeg then none else some (σ.2.1 r i.toNatClampNeg)
  | _ => none
def az_az (sh : az_H) (σ : az_S) (r : Nat) (i : Int32) : Option Int32 := match az_k sh σ.1 r with
  | some (3, n, _) => if i < 0 ∨ n ≤ i.toNatClampNeg then none else some (σ.2.1 r i.toNatClampNeg)
  | _ => none
def az_al (sh : az_H) (σ : az_S) (r : Nat) (i : Int32) : Option Int64 := match az_k sh σ.1 r with
  | some (2, n, _) => if i < 0 ∨ n ≤ i.toNatClampNeg then none else some (σ.2.2.1 r i.toNatClampNeg)
  | _ => none
def az_aa (sh : az_H) (σ : az_S) (r : Nat) (i : Int32) : Option Value := match az_k sh σ.1 r with
  | some (4, n, _) => if i < 0 ∨ n ≤ i.toNatClampNeg then none else some (va_rf (σ.2.2.2 r i.toNatClampNeg))
  | some (5, n, cs) => if i < 0 ∨ n ≤ i.toNatClampNeg then none else some (va_rf (cs[i.toNatClampNeg]?))
  | _ => none
def az_si (sh : az_H) (σ : az_S) (r : Nat) (i x : Int32) : Option az_S := match az_k sh σ.1 r with
  | some (1, n, _) => if i < 0 ∨ n ≤ i.toNatClampNeg then none else some (σ.1, az_u σ.2.1 r i.toNatClampNeg x, σ.2.2)
  | _ => none
def az_sz (sh : az_H) (σ : az_S) (r : Nat) (i x : Int32) : Option az_S := match az_k sh σ.1 r with
  | some (3, n, _) => if i < 0 ∨ n ≤ i.toNatClampNeg then none else if x = 0 ∨ x = 1 then some (σ.1, az_u σ.2.1 r i.toNatClampNeg x, σ.2.2) else none
  | _ => none
def az_sl (sh : az_H) (σ : az_S) (r : Nat) (i : Int32) (x : Int64) : Option az_S := match az_k sh σ.1 r with
  | some (2, n, _) => if i < 0 ∨ n ≤ i.toNatClampNeg then none else some (σ.1, σ.2.1, az_u σ.2.2.1 r i.toNatClampNeg x, σ.2.2.2)
  | _ => none
/-- into a row of references of class c -/
def az_sa (sh : az_H) (σ : az_S) (r : Nat) (i : Int32) (q : Nat) : Option az_S := match az_k sh σ.1 r with
  | some (4, n, _) => (match az_k sh σ.1 q with
    | some (0, c, _) => if c = 7 then (if i < 0 ∨ n ≤ i.toNatClampNeg then none else some (σ.1, σ.2.1, σ.2.2.1, az_u σ.2.2.2 r i.toNatClampNeg (some q))) else none
    | _ => none)
  | _ => none
def az_len (sh : az_H) (ex : az_X) (σ : az_S) (r : Nat) : Option Int32 :=
  if r < 3 then some (nI (ex r).1)
  else match az_k sh σ.1 r with
  | some (0, _, _) => none
  | some (t, n, _) => if t = 1 ∨ t = 2 then some (nI n) else none
  | _ => none
def az_cp (sh : az_H) (σ : az_S) (a : Nat) (sp : Int32) (b : Nat) (dp n : Int32) : Option az_S := match az_k sh σ.1 a with
  | some (1, n0, _) => (match az_k sh σ.1 b with
    | some (1, n1, _) => if sp < 0 ∨ dp < 0 ∨ n < 0 ∨ n0 < sp.toNatClampNeg + n.toNatClampNeg ∨ n1 < dp.toNatClampNeg + n.toNatClampNeg then none
      else some (σ.1, az_ur σ.2.1 b (va_cpy (σ.2.1 a) (σ.2.1 b) sp.toNatClampNeg dp.toNatClampNeg n.toNatClampNeg), σ.2.2)
    | _ => none)
  | some (2, n0, _) => (match az_k sh σ.1 b with
    | some (2, n1, _) => if sp < 0 ∨ dp < 0 ∨ n < 0 ∨ n0 < sp.toNatClampNeg + n.toNatClampNeg ∨ n1 < dp.toNatClampNeg + n.toNatClampNeg then none
      else some (σ.1, σ.2.1, az_ur σ.2.2.1 b (va_cpy (σ.2.2.1 a) (σ.2.2.1 b) sp.toNatClampNeg dp.toNatClampNeg n.toNatClampNeg), σ.2.2.2)
    | _ => none)
  | _ => none
/-- a new cell, as the table of cells has it next -/
def az_nw (sh : az_H) (σ : az_S) (t c : Nat) : Option az_S := match sh[σ.1]? with
  | some (t', c', cs) => if t' = t ∧ c' = c ∧ cs.all (fun x => decide (x ≤ 2)) = true then some (σ.1 + 1, az_ur σ.2.1 (σ.1 + 3) (fun _ => 0), az_ur σ.2.2.1 (σ.1 + 3) (fun _ => 0), az_ur σ.2.2.2 (σ.1 + 3) (fun _ => none)) else none
  | _ => none
/-- a value of one word into the place i of the locals -/
def az_st (L : List Value) (i : Nat) (v : Value) : Option (List Value) :=
  if i < L.length then (match i with
    | 0 => some (L.set 0 v)
    | j + 1 => (match L[j]? with
      | some (.long _) => none
      | some (.double _) => none
      | _ => some (L.set (j + 1) v))) else none
def az_nx (pc : Nat) (L S : List Value) (σ : az_S) : Option az_T := some (.inl (pc, L, S, σ))
def az_lay : List Value → List Value
  | [] => []
  | v :: vs => if v.category = 2 then v :: .retAddr 0 :: az_lay vs else v :: az_lay vs
def az_ent (vs : List Value) (m : Nat) : List Value := az_lay vs ++ List.replicate (m - (az_lay vs).length) (.retAddr 0)
def az_cat (S : List Value) : Nat := (S.map fun v => v.category).sum
/-- loads -/
def az_li (L : List Value) (i n : Nat) (pc : Nat) (S : List Value) (σ : az_S) : Option az_T := match L[i]? with
  | some (.int x) => az_nx (pc + n) L (.int x :: S) σ
  | _ => none
def az_ll (L : List Value) (i n : Nat) (pc : Nat) (S : List Value) (σ : az_S) : Option az_T := match L[i]? with
  | some (.long x) => az_nx (pc + n) L (.long x :: S) σ
  | _ => none
def az_la (L : List Value) (i n : Nat) (pc : Nat) (S : List Value) (σ : az_S) : Option az_T := match L[i]? with
  | some (.ref x) => az_nx (pc + n) L (.ref x :: S) σ
  | some .null => az_nx (pc + n) L (.null :: S) σ
  | _ => none
/-- stores -/
def az_wi (L : List Value) (i n : Nat) (pc : Nat) (S : List Value) (σ : az_S) : Option az_T := match S with
  | .int x :: S => (match az_st L i (.int x) with | some L' => az_nx (pc + n) L' S σ | none => none)
  | _ => none
def az_wa (L : List Value) (i n : Nat) (pc : Nat) (S : List Value) (σ : az_S) : Option az_T := match S with
  | .ref x :: S => (match az_st L i (.ref x) with | some L' => az_nx (pc + n) L' S σ | none => none)
  | .null :: S => (match az_st L i .null with | some L' => az_nx (pc + n) L' S σ | none => none)
  | _ => none
def az_b2 (f : Int32 → Int32 → Int32) (L : List Value) (pc : Nat) (S : List Value) (σ : az_S) : Option az_T := match S with
  | .int y :: .int x :: S => az_nx (pc + 1) L (.int (f x y) :: S) σ
  | _ => none
def az_b2l (f : Int64 → Int64 → Int64) (L : List Value) (pc : Nat) (S : List Value) (σ : az_S) : Option az_T := match S with
  | .long y :: .long x :: S => az_nx (pc + 1) L (.long (f x y) :: S) σ
  | _ => none
def az_b1 (f : Int32 → Int32) (L : List Value) (pc : Nat) (S : List Value) (σ : az_S) : Option az_T := match S with
  | .int x :: S => az_nx (pc + 1) L (.int (f x) :: S) σ
  | _ => none
def az_o (r : Option az_S) (pc : Nat) (L S : List Value) : Option az_T := match r with
  | some σ => az_nx pc L S σ
  | none => none
def az_oi (r : Option Int32) (pc : Nat) (L S : List Value) (σ : az_S) : Option az_T := match r with
  | some x => az_nx pc L (.int x :: S) σ
  | none => none
def az_ol (r : Option Int64) (pc : Nat) (L S : List Value) (σ : az_S) : Option az_T := match r with
  | some x => az_nx pc L (.long x :: S) σ
  | none => none
def az_ov (r : Option Value) (pc : Nat) (L S : List Value) (σ : az_S) : Option az_T := match r with
  | some x => az_nx pc L (x :: S) σ
  | none => none
def az_br (c : Prop) [Decidable c] (t f : Nat) (L S : List Value) (σ : az_S) : Option az_T := if c then az_nx t L S σ else az_nx f L S σ
def az_jp (pc : Nat) (off : Int) (L S : List Value) (σ : az_S) : Option az_T := if 0 ≤ (pc : Int) + off then az_nx ((pc : Int) + off).toNat L S σ else none
/-- a call of method k: kind 0 static, 1 of an object, 2 a constructor -/
def az_cl (sh : az_H) (kind k pc : Nat) (S : List Value) (σ : az_S) : Option az_T :=
  let np := (az_m k).2.2.2.2.1
  let n := if kind = 0 then np else np + 1
  let vs := (S.take n).reverse
  if n ≤ S.length ∧ az_cat (S.drop n) ≤ 8 ∧ (az_lay vs).length ≤ (az_m k).2.2.1 then (
    if kind = 0 then some (.inr (.inr (k, vs, pc + 3, S.drop n)))
    else match vs with
    | .ref r :: _ => if kind = 2 then some (.inr (.inr (k, vs, pc + 3, S.drop n)))
      else (match az_k sh σ.1 r with
      | some (0, c, _) => if c = (az_m k).2.2.2.2.2.1 then some (.inr (.inr (k, vs, pc + 3, S.drop n))) else none
      | _ => none)
    | _ => none)
  else none
def az_inc (i : Nat) (z : Int) (pc : Nat) (L S : List Value) (σ : az_S) : Option az_T := match L[i]? with
  | some (.int x) => (match az_st L i (.int (x + Int32.ofInt z)) with | some L' => az_nx (pc + 3) L' S σ | none => none)
  | _ => none
def az_div (pc : Nat) (L S : List Value) (σ : az_S) : Option az_T := match S with
  | .int y :: .int x :: S => if y = 0 then none else az_nx (pc + 1) L (.int (x / y) :: S) σ
  | _ => none
def az_rem (pc : Nat) (L S : List Value) (σ : az_S) : Option az_T := match S with
  | .int y :: .int x :: S => if y = 0 then none else az_nx (pc + 1) L (.int (x - x / y * y) :: S) σ
  | _ => none
def az_lsh (pc : Nat) (L S : List Value) (σ : az_S) : Option az_T := match S with
  | .int y :: .long x :: S => az_nx (pc + 1) L (.long (x <<< (y.toInt64 &&& 63)) :: S) σ
  | _ => none
def az_lcm (pc : Nat) (L S : List Value) (σ : az_S) : Option az_T := match S with
  | .long y :: .long x :: S => az_nx (pc + 1) L (.int (lg_cmp x y) :: S) σ
  | _ => none
def az_i2l (pc : Nat) (L S : List Value) (σ : az_S) : Option az_T := match S with
  | .int x :: S => az_nx (pc + 1) L (.long x.toInt64 :: S) σ
  | _ => none
def az_l2i (pc : Nat) (L S : List Value) (σ : az_S) : Option az_T := match S with
  | .long x :: S => az_nx (pc + 1) L (.int x.toInt32 :: S) σ
  | _ => none
def az_dup (pc : Nat) (L S : List Value) (σ : az_S) : Option az_T := match S with
  | v :: S => if v.category = 1 then az_nx (pc + 1) L (v :: v :: S) σ else none
  | [] => none
def az_pop (pc : Nat) (L S : List Value) (σ : az_S) : Option az_T := match S with
  | v :: S => if v.category = 1 then az_nx (pc + 1) L S σ else none
  | [] => none
def az_dx1 (pc : Nat) (L S : List Value) (σ : az_S) : Option az_T := match S with
  | v :: w :: S => if v.category = 1 ∧ w.category = 1 then az_nx (pc + 1) L (v :: w :: v :: S) σ else none
  | _ => none
def az_dp2 (pc : Nat) (L S : List Value) (σ : az_S) : Option az_T := match S with
  | v :: w :: S => if v.category = 1 ∧ w.category = 1 then az_nx (pc + 1) L (v :: w :: v :: w :: S) σ else none
  | _ => none
def az_if_eq (a : Nat) (pc : Nat) (L S : List Value) (σ : az_S) : Option az_T := match S with
  | .int x :: S => az_br (x = 0) a (pc + 3) L S σ
  | _ => none
def az_if_ne (a : Nat) (pc : Nat) (L S : List Value) (σ : az_S) : Option az_T := match S with
  | .int x :: S => az_br (x = 0) (pc + 3) a L S σ
  | _ => none
def az_if_lt (a : Nat) (pc : Nat) (L S : List Value) (σ : az_S) : Option az_T := match S with
  | .int x :: S => az_br (x < 0) a (pc + 3) L S σ
  | _ => none
def az_if_ge (a : Nat) (pc : Nat) (L S : List Value) (σ : az_S) : Option az_T := match S with
  | .int x :: S => az_br (0 ≤ x) a (pc + 3) L S σ
  | _ => none
def az_if_gt (a : Nat) (pc : Nat) (L S : List Value) (σ : az_S) : Option az_T := match S with
  | .int x :: S => az_br (0 < x) a (pc + 3) L S σ
  | _ => none
def az_if_le (a : Nat) (pc : Nat) (L S : List Value) (σ : az_S) : Option az_T := match S with
  | .int x :: S => az_br (x ≤ 0) a (pc + 3) L S σ
  | _ => none
def az_ic_eq (a : Nat) (pc : Nat) (L S : List Value) (σ : az_S) : Option az_T := match S with
  | .int y :: .int x :: S => az_br (x = y) a (pc + 3) L S σ
  | _ => none
def az_ic_ne (a : Nat) (pc : Nat) (L S : List Value) (σ : az_S) : Option az_T := match S with
  | .int y :: .int x :: S => az_br (x = y) (pc + 3) a L S σ
  | _ => none
def az_ic_lt (a : Nat) (pc : Nat) (L S : List Value) (σ : az_S) : Option az_T := match S with
  | .int y :: .int x :: S => az_br (x < y) a (pc + 3) L S σ
  | _ => none
def az_ic_ge (a : Nat) (pc : Nat) (L S : List Value) (σ : az_S) : Option az_T := match S with
  | .int y :: .int x :: S => az_br (y ≤ x) a (pc + 3) L S σ
  | _ => none
def az_ic_gt (a : Nat) (pc : Nat) (L S : List Value) (σ : az_S) : Option az_T := match S with
  | .int y :: .int x :: S => az_br (y < x) a (pc + 3) L S σ
  | _ => none
def az_ic_le (a : Nat) (pc : Nat) (L S : List Value) (σ : az_S) : Option az_T := match S with
  | .int y :: .int x :: S => az_br (x ≤ y) a (pc + 3) L S σ
  | _ => none
def az_nul (a : Nat) (pc : Nat) (L S : List Value) (σ : az_S) : Option az_T := match S with
  | .ref _ :: S => az_nx (pc + 3) L S σ
  | .null :: S => az_nx a L S σ
  | _ => none
def az_nnl (a : Nat) (pc : Nat) (L S : List Value) (σ : az_S) : Option az_T := match S with
  | .ref _ :: S => az_nx a L S σ
  | .null :: S => az_nx (pc + 3) L S σ
  | _ => none
def az_tsw (a : Nat) (lo hi : Int) (offs : Array Int) (pc : Nat) (L S : List Value) (σ : az_S) : Option az_T := match S with
  | .int x :: S => if x.toInt < lo ∨ hi < x.toInt then az_nx a L S σ else (match offs[(x.toInt - lo).toNat]? with
    | some off => az_jp pc off L S σ
    | none => none)
  | _ => none
def az_lsw (dflt : Int) (ps : Array (Int × Int)) (pc : Nat) (L S : List Value) (σ : az_S) : Option az_T := match S with
  | .int x :: S => az_jp pc (Op.lookupswitch.offset ps.toList dflt x.toInt) L S σ
  | _ => none
def az_get (sh : az_H) (a b : Nat) (pc : Nat) (L S : List Value) (σ : az_S) : Option az_T := match S with
  | .ref r :: S => az_ov (az_gf sh σ r a b) (pc + 3) L S σ
  | _ => none
def az_put (sh : az_H) (a b : Nat) (pc : Nat) (L S : List Value) (σ : az_S) : Option az_T := match S with
  | v :: .ref r :: S => az_o (az_pf sh σ r a b v) (pc + 3) L S
  | _ => none
def az_ild (sh : az_H) (ex : az_X) (pc : Nat) (L S : List Value) (σ : az_S) : Option az_T := match S with
  | .int i :: .ref r :: S => az_oi (az_ai sh ex σ r i) (pc + 1) L S σ
  | _ => none
def az_bld (sh : az_H) (pc : Nat) (L S : List Value) (σ : az_S) : Option az_T := match S with
  | .int i :: .ref r :: S => az_oi (az_az sh σ r i) (pc + 1) L S σ
  | _ => none
def az_lld (sh : az_H) (pc : Nat) (L S : List Value) (σ : az_S) : Option az_T := match S with
  | .int i :: .ref r :: S => az_ol (az_al sh σ r i) (pc + 1) L S σ
  | _ => none
def az_rld (sh : az_H) (pc : Nat) (L S : List Value) (σ : az_S) : Option az_T := match S with
  | .int i :: .ref r :: S => az_ov (az_aa sh σ r i) (pc + 1) L S σ
  | _ => none
def az_ist (sh : az_H) (pc : Nat) (L S : List Value) (σ : az_S) : Option az_T := match S with
  | .int x :: .int i :: .ref r :: S => az_o (az_si sh σ r i x) (pc + 1) L S
  | _ => none
def az_bst (sh : az_H) (pc : Nat) (L S : List Value) (σ : az_S) : Option az_T := match S with
  | .int x :: .int i :: .ref r :: S => az_o (az_sz sh σ r i x) (pc + 1) L S
  | _ => none
def az_lst (sh : az_H) (pc : Nat) (L S : List Value) (σ : az_S) : Option az_T := match S with
  | .long x :: .int i :: .ref r :: S => az_o (az_sl sh σ r i x) (pc + 1) L S
  | _ => none
def az_rst (sh : az_H) (pc : Nat) (L S : List Value) (σ : az_S) : Option az_T := match S with
  | .ref q :: .int i :: .ref r :: S => az_o (az_sa sh σ r i q) (pc + 1) L S
  | _ => none
def az_aln (sh : az_H) (ex : az_X) (pc : Nat) (L S : List Value) (σ : az_S) : Option az_T := match S with
  | .ref r :: S => az_oi (az_len sh ex σ r) (pc + 1) L S σ
  | _ => none
def az_nwo (sh : az_H) (a : Nat) (pc : Nat) (L S : List Value) (σ : az_S) : Option az_T := az_o (az_nw sh σ 0 a) (pc + 3) L (.ref (σ.1 + 3) :: S)
def az_nwa (sh : az_H) (a n2 : Nat) (pc : Nat) (L S : List Value) (σ : az_S) : Option az_T := match S with
  | .int n :: S => if n < 0 then none else az_o (az_nw sh σ a n.toNatClampNeg) (pc + n2) L (.ref (σ.1 + 3) :: S)
  | _ => none
def az_cpi (sh : az_H) (d : Nat) (pc : Nat) (L S : List Value) (σ : az_S) : Option az_T := match S with
  | .int n :: .int dp :: .ref b :: .int sp :: .ref a :: S => if 0 < d ∧ az_cat S ≤ 8 then az_o (az_cp sh σ a sp b dp n) (pc + 3) L S else none
  | _ => none
def az_max (d : Nat) (pc : Nat) (L S : List Value) (σ : az_S) : Option az_T := match S with
  | .int y :: .int x :: S => if 0 < d ∧ az_cat S ≤ 8 then az_nx (pc + 3) L (.int (if x < y then y else x) :: S) σ else none
  | _ => none
def az_min (d : Nat) (pc : Nat) (L S : List Value) (σ : az_S) : Option az_T := match S with
  | .int y :: .int x :: S => if 0 < d ∧ az_cat S ≤ 8 then az_nx (pc + 3) L (.int (if y < x then y else x) :: S) σ else none
  | _ => none
def az_obj (d : Nat) (pc : Nat) (L S : List Value) (σ : az_S) : Option az_T := match S with
  | .ref _ :: S => if 0 < d ∧ az_cat S ≤ 8 then az_nx (pc + 3) L S σ else none
  | _ => none
def az_rv (S : List Value) (σ : az_S) : Option az_T := match S with
  | [] => some (.inr (.inl (none, σ)))
  | _ => none
def az_ri (rt : Option FieldType) (S : List Value) (σ : az_S) : Option az_T := match S with
  | [.int x] => if rt = some .boolean then (if x = 0 ∨ x = 1 then some (.inr (.inl (some (.int x), σ))) else none) else some (.inr (.inl (some (.int x), σ)))
  | _ => none
def az_rl (S : List Value) (σ : az_S) : Option az_T := match S with
  | [.long x] => some (.inr (.inl (some (.long x), σ)))
  | _ => none
def az_ra (S : List Value) (σ : az_S) : Option az_T := match S with
  | [.ref x] => some (.inr (.inl (some (.ref x), σ)))
  | [.null] => some (.inr (.inl (some .null, σ)))
  | _ => none
def az_i (sh : az_H) (ex : az_X) (d : Nat) (rt : Option FieldType) (e : az_I) (pc : Nat) (L S : List Value) (σ : az_S) : Option az_T :=
  match e.1 with
  | .iconst _ => az_nx (pc + 1) L (.int (az_z e.2.2.1) :: S) σ
  | .bipush _ => az_nx (pc + 2) L (.int (az_z e.2.2.1) :: S) σ
  | .sipush _ => az_nx (pc + 3) L (.int (az_z e.2.2.1) :: S) σ
  | .lconst _ => az_nx (pc + 1) L (.long (az_zl e.2.2.1) :: S) σ
  | .ldc _ => az_nx (pc + 2) L (.int (az_z e.2.2.1) :: S) σ
  | .ldc_w _ => az_nx (pc + 3) L (.int (az_z e.2.2.1) :: S) σ
  | .ldc2_w _ => az_nx (pc + 3) L (.long (az_zl e.2.2.1) :: S) σ
  | .aconst_null => az_nx (pc + 1) L (.null :: S) σ
  | .iload_n i => az_li L i.val 1 pc S σ
  | .iload i => az_li L i 2 pc S σ
  | .lload_n i => az_ll L i.val 1 pc S σ
  | .lload i => az_ll L i 2 pc S σ
  | .aload_n i => az_la L i.val 1 pc S σ
  | .aload i => az_la L i 2 pc S σ
  | .istore_n i => az_wi L i.val 1 pc S σ
  | .istore i => az_wi L i 2 pc S σ
  | .astore_n i => az_wa L i.val 1 pc S σ
  | .astore i => az_wa L i 2 pc S σ
  | .iinc i z => az_inc i z pc L S σ
  | .iadd => az_b2 (fun x y => x + y) L pc S σ
  | .isub => az_b2 (fun x y => x - y) L pc S σ
  | .imul => az_b2 (fun x y => x * y) L pc S σ
  | .iand => az_b2 (fun x y => x &&& y) L pc S σ
  | .ior => az_b2 (fun x y => x ||| y) L pc S σ
  | .ixor => az_b2 (fun x y => x ^^^ y) L pc S σ
  | .ishl => az_b2 (fun x y => x <<< (y &&& 31)) L pc S σ
  | .ishr => az_b2 (fun x y => x >>> (y &&& 31)) L pc S σ
  | .iushr => az_b2 (fun x y => (x.toUInt32 >>> (y.toUInt32 &&& Int32.toUInt32 31)).toInt32) L pc S σ
  | .idiv => az_div pc L S σ
  | .irem => az_rem pc L S σ
  | .ineg => az_b1 (fun x => -x) L pc S σ
  | .i2b => az_b1 (fun x => x.toInt8.toInt32) L pc S σ
  | .i2s => az_b1 (fun x => x.toInt16.toInt32) L pc S σ
  | .land => az_b2l (fun x y => x &&& y) L pc S σ
  | .lor => az_b2l (fun x y => x ||| y) L pc S σ
  | .lshl => az_lsh pc L S σ
  | .lcmp => az_lcm pc L S σ
  | .i2l => az_i2l pc L S σ
  | .l2i => az_l2i pc L S σ
  | .dup => az_dup pc L S σ
  | .pop => az_pop pc L S σ
  | .dup_x1 => az_dx1 pc L S σ
  | .dup2 => az_dp2 pc L S σ
  | .ifCond .eq _ => az_if_eq e.2.1 pc L S σ
  | .ifCond .ne _ => az_if_ne e.2.1 pc L S σ
  | .ifCond .lt _ => az_if_lt e.2.1 pc L S σ
  | .ifCond .ge _ => az_if_ge e.2.1 pc L S σ
  | .ifCond .gt _ => az_if_gt e.2.1 pc L S σ
  | .ifCond .le _ => az_if_le e.2.1 pc L S σ
  | .if_icmp .eq _ => az_ic_eq e.2.1 pc L S σ
  | .if_icmp .ne _ => az_ic_ne e.2.1 pc L S σ
  | .if_icmp .lt _ => az_ic_lt e.2.1 pc L S σ
  | .if_icmp .ge _ => az_ic_ge e.2.1 pc L S σ
  | .if_icmp .gt _ => az_ic_gt e.2.1 pc L S σ
  | .if_icmp .le _ => az_ic_le e.2.1 pc L S σ
  | .ifnull _ => az_nul e.2.1 pc L S σ
  | .ifnonnull _ => az_nnl e.2.1 pc L S σ
  | .goto _ => az_nx e.2.1 L S σ
  | .tableswitch _ lo hi offs => az_tsw e.2.1 lo hi offs pc L S σ
  | .lookupswitch dflt ps => az_lsw dflt ps pc L S σ
  | .getfield _ => az_get sh e.2.1 e.2.2.1 pc L S σ
  | .putfield _ => az_put sh e.2.1 e.2.2.1 pc L S σ
  | .getstatic _ => az_nx (pc + 3) L (.ref e.2.1 :: S) σ
  | .iaload => az_ild sh ex pc L S σ
  | .baload => az_bld sh pc L S σ
  | .laload => az_lld sh pc L S σ
  | .aaload => az_rld sh pc L S σ
  | .iastore => az_ist sh pc L S σ
  | .bastore => az_bst sh pc L S σ
  | .lastore => az_lst sh pc L S σ
  | .aastore => az_rst sh pc L S σ
  | .arraylength => az_aln sh ex pc L S σ
  | .new _ => az_nwo sh e.2.1 pc L S σ
  | .newarray _ => az_nwa sh e.2.1 2 pc L S σ
  | .anewarray _ => az_nwa sh 4 3 pc L S σ
  | .invokestatic _ => if e.2.1 = 9999 then az_cpi sh d pc L S σ else if e.2.1 = 9997 then az_max d pc L S σ else if e.2.1 = 9996 then az_min d pc L S σ else az_cl sh 0 e.2.1 pc S σ
  | .invokespecial _ => if e.2.1 = 9998 then az_obj d pc L S σ else az_cl sh 2 e.2.1 pc S σ
  | .invokevirtual _ => az_cl sh 1 e.2.1 pc S σ
  | .return_ => az_rv S σ
  | .ireturn => az_ri rt S σ
  | .lreturn => az_rl S σ
  | .areturn => az_ra S σ
  | _ => none
def az_step (sh : az_H) (ex : az_X) (d k pc : Nat) (L S : List Value) (σ : az_S) : Option az_T := match az_look (az_code k) pc with
  | some e => az_i sh ex d (az_m k).2.2.2.1 e pc L S σ
  | none => none
/-- n steps at most, calls d deep at most -/
def az_run (sh : az_H) (ex : az_X) : Nat → Nat → Nat → Nat → List Value → List Value → az_S → Option (Option Value × az_S)
  | 0, _, _, _, _, _, _ => none
  | n + 1, d, k, pc, L, S, σ => match az_step sh ex d k pc L S σ with
    | none => none
    | some (.inl (pc', L', S', σ')) => az_run sh ex n d k pc' L' S' σ'
    | some (.inr (.inl r)) => some r
    | some (.inr (.inr (k', vs, pc', S'))) => (match d with
      | 0 => none
      | d + 1 => (match az_run sh ex n d k' 0 (az_ent vs (az_m k').2.2.1) [] σ with
        | none => none
        | some (v, σ') => az_run sh ex n (d + 1) k pc' L (v.toList ++ S') σ'))

/-! CELLS, LOOPS: the words of the pure part -/
def az_u {α : Type} (f : Nat → Nat → α) (r k : Nat) (v : α) : Nat → Nat → α := fun r' k' => if r' = r ∧ k' = k then v else f r' k'
def az_ur {α : Type} (f : Nat → Nat → α) (r : Nat) (g : Nat → α) : Nat → Nat → α := fun r' => if r' = r then g else f r'
/-- rows of ints that nobody writes, at the references 0, 1, 2: length, contents -/
abbrev az_X : Type := Nat → Nat × (Nat → Int32)
/-- a loop: its body tells the next state, or what comes out -/
def az_lp {S X : Type} (body : S → Option (S ⊕ X)) : Nat → S → Option X
  | 0, _ => none
  | n + 1, s => match body s with
    | none => none
    | some (.inl s') => az_lp body n s'
    | some (.inr x) => some x
/-- a row filled -/
def az_fill {α : Type} (n : Nat) (x : α) (f : Nat → α) : Nat → α := fun j => if j < n then x else f j
abbrev az_GT : Type := Nat → Int32 → Int32 → Int32 → Int32 → (Nat → Nat → Int32) → Option (Int32 × (Nat → Nat → Int32))

def az_m (k : Nat) : az_M := (((az_ms[k / 16]?).getD [])[k % 16]?).getD (yL_law, cL_law, 0, none, 0, 99, 0, 0, 0, 0, 9)
def az_code (k : Nat) : List (List (Option az_I)) := (((az_cs[k / 16]?).getD [])[k % 16]?).getD []
def az_look (c : List (List (Option az_I))) (pc : Nat) : Option az_I := (((c[pc / 16]?).getD [])[pc % 16]?).getD none
def az_z (b : Nat) : Int32 := if b < 2147483648 then nI b else -(nI (4294967296 - b))
def az_zl (b : Nat) : Int64 := if b < 9223372036854775808 then lN b else -(lN (18446744073709551616 - b))

/-! THE TABLES ARE THE BYTECODE: each entry is what decode says, each link stands among the words -/
def az_ln (i : Instr) (b : Nat) : Nat := match i with
  | .tableswitch _ _ _ _ => b
  | .lookupswitch _ _ => b
  | .bipush _ => 2
  | .ldc _ => 2
  | .iload _ => 2
  | .lload _ => 2
  | .aload _ => 2
  | .istore _ => 2
  | .astore _ => 2
  | .newarray _ => 2
  | .sipush _ => 3
  | .ldc_w _ => 3
  | .ldc2_w _ => 3
  | .iinc _ _ => 3
  | .ifCond _ _ => 3
  | .if_icmp _ _ => 3
  | .ifnull _ => 3
  | .ifnonnull _ => 3
  | .goto _ => 3
  | .getfield _ => 3
  | .putfield _ => 3
  | .getstatic _ => 3
  | .new _ => 3
  | .anewarray _ => 3
  | .invokestatic _ => 3
  | .invokespecial _ => 3
  | .invokevirtual _ => 3
  | _ => 1
/-- a word that stays, by its place -/
def az_w (z : Nat) (c : Cond) : Bool := goodWord c && decide (lw_tbl[z]? = some c)
/-- a nest mate's word, by its place -/
def az_wn (z : Nat) (c : Cond) : Bool := decide (lw_tbl[z]? = some c)
/-- a call's link -/
def az_cok (own : String) (i kind k nest z : Nat) : Bool := decide (k < 258) && decide ((az_m k).2.2.2.2.2.2.2.2.2.2 = kind) && (if nest = 1 then az_wn z (.methodLinkNest own i (az_m k).1 "FingerSaysFar") else az_w z (.methodLink own i (az_m k).1))
def az_ok2 (k pc : Nat) (e : az_I) : Bool := match e.1 with
  | .iconst z => decide (Int32.ofInt z = az_z e.2.2.1)
  | .bipush z => decide ((Int8.ofInt z).toInt32 = az_z e.2.2.1)
  | .sipush z => decide ((Int16.ofInt z).toInt32 = az_z e.2.2.1)
  | .lconst n => decide (Int64.ofNat n.val = az_zl e.2.2.1)
  | .ldc i => az_w e.2.2.2 (.constant (az_m k).1.cls i (az_z e.2.2.1))
  | .ldc_w i => az_w e.2.2.2 (.constant (az_m k).1.cls i (az_z e.2.2.1))
  | .ldc2_w i => az_w e.2.2.2 (.constantLong (az_m k).1.cls i (az_zl e.2.2.1))
  | .ifCond _ off => decide ((pc : Int) + off = (e.2.1 : Int))
  | .if_icmp _ off => decide ((pc : Int) + off = (e.2.1 : Int))
  | .ifnull off => decide ((pc : Int) + off = (e.2.1 : Int))
  | .ifnonnull off => decide ((pc : Int) + off = (e.2.1 : Int))
  | .goto off => decide ((pc : Int) + off = (e.2.1 : Int))
  | .tableswitch off _ _ _ => decide ((pc : Int) + off = (e.2.1 : Int))
  | .lookupswitch _ ps => (ps.toList.zip (ps.toList.drop 1)).all (fun (a, next) => a.1 < next.1)
  | .getfield i => (match vwCl[e.2.1]? with
    | some q => decide (e.2.2.1 < q.2.2) && az_w e.2.2.2 (.fieldLink (az_m k).1.cls i (q.2.1 e.2.2.1).1 (q.2.1 e.2.2.1).2.1 (q.2.1 e.2.2.1).2.2.1)
    | none => false)
  | .putfield i => (match vwCl[e.2.1]? with
    | some q => decide (e.2.2.1 < q.2.2) && az_w e.2.2.2 (.fieldLink (az_m k).1.cls i (q.2.1 e.2.2.1).1 (q.2.1 e.2.2.1).2.1 (q.2.1 e.2.2.1).2.2.1) && (!(q.2.1 e.2.2.1).2.2.2 || (decide ((az_m k).1.name = "<init>") && decide ((q.2.1 e.2.2.1).1 = (az_m k).1.cls)))
    | none => false)
  | .getstatic i => if e.2.1 = 1 then az_w e.2.2.2 (.fieldLink (az_m k).1.cls i RX0 "OWN" "[I") else decide (e.2.1 = 2) && az_w e.2.2.2 (.fieldLink (az_m k).1.cls i RX0 "ABOVE" "[I")
  | .new i => (match vwCl[e.2.1]? with
    | some q => az_w e.2.2.2 (.classLink (az_m k).1.cls i q.1)
    | none => false)
  | .newarray ty => decide ((ty = .int ∧ e.2.1 = 1) ∨ (ty = .long ∧ e.2.1 = 2) ∨ (ty = .boolean ∧ e.2.1 = 3))
  | .anewarray i => az_w e.2.2.2 (.classLink (az_m k).1.cls i RX7)
  | .invokestatic i => if e.2.1 = 9999 then az_w e.2.2.2 (.methodLink (az_m k).1.cls i arraycopyName) else if e.2.1 = 9997 then az_w e.2.2.2 (.methodLink (az_m k).1.cls i Lib.Math.max.name) else if e.2.1 = 9996 then az_w e.2.2.2 (.methodLink (az_m k).1.cls i Lib.Math.min.name) else az_cok (az_m k).1.cls i 0 e.2.1 e.2.2.1 e.2.2.2
  | .invokespecial i => if e.2.1 = 9998 then az_w e.2.2.2 (.methodLink (az_m k).1.cls i objectInit) else az_cok (az_m k).1.cls i 2 e.2.1 e.2.2.1 e.2.2.2
  | .invokevirtual i => az_cok (az_m k).1.cls i 1 e.2.1 e.2.2.1 e.2.2.2
  | .ireturn => decide ((az_m k).2.2.2.1 = some .int ∨ (az_m k).2.2.2.1 = some .boolean)
  | .lreturn => decide ((az_m k).2.2.2.1 = some .long)
  | .areturn => decide ((az_m k).2.2.2.1 = some (.array .int))
  | .return_ => decide ((az_m k).2.2.2.1 = none)
  | _ => true
def az_ok (k pc : Nat) (e : az_I) : Bool := decide (decode (az_m k).2.1 pc = .ok (e.1, az_ln e.1 e.2.2.1)) && az_ok2 k pc e
/-- n places from lo on -/
def az_ckr (k lo n : Nat) : Bool := (List.range n).all fun j => match az_look (az_code k) (lo + j) with
  | none => true
  | some e => az_ok k (lo + j) e
def az_ckc (k : Nat) : Bool := az_ckr k 0 (16 * (az_code k).length)
/-- a method's own words -/
def az_mok (m : az_M) : Bool :=
  az_w m.2.2.2.2.2.2.1 (.code m.1 m.2.1 m.2.2.1 m.2.2.2.1) && az_w m.2.2.2.2.2.2.2.2.2.1 (.initialized m.1.cls) && plainName m.1.cls && decide (m.2.2.1 ≤ 40) && decide (m.1.cls ≠ "java/lang/invoke/MethodHandle" ∧ m.1.cls ≠ "java/lang/invoke/VarHandle" ∧ (parseMethodDescriptor m.1.desc).map (fun d => d.parameters.length) = some m.2.2.2.2.1) &&
  (match m.2.2.2.2.2.2.2.2.2.2 with
  | 0 => az_w m.2.2.2.2.2.2.2.1 (.static m.1)
  | 1 => az_w m.2.2.2.2.2.2.2.1 (.instanceMethod m.1) && az_w m.2.2.2.2.2.2.2.2.1 (.selects m.1.cls m.1 m.1) && decide ((vwCl[m.2.2.2.2.2.1]?).map (fun q => q.1) = some m.1.cls)
  | _ => az_w m.2.2.2.2.2.2.2.1 (.instanceMethod m.1) && decide (m.1.name = "<init>" ∧ m.2.2.2.1 = none))

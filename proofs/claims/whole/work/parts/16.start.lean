def R_law : String := "FingerSaysFarLaw"
def lw_P (b : Addr) (xs : List Int32) (args : Array Value) (s : State) : Prop := args = #[.ref b] ∧ s.IntsAt b xs ∧ xs.length ≤ 3072 ∧ (Jvm.Cond.and given_1 narrow_1).before args s = true
def lw_Q (_ : Array Value) (s : State) (o : Outcome) (t : State) : Prop := o = .returned (some (.int 1)) ∧ Framed s o t [] 600000 7302250
def lw_Z (below : List Frame) (a : Array Value) (s : State) : State → Prop := fun t => ∃ o, t.status = .running ∧ Ended t below o ∧ lw_Q a s o t
/-- the law's own end, with 1 on the stack, nothing written that was there before, its room as the claim has it -/
theorem lw_ret {p : Program} {l : Launch} {e : Env} {s : State} {m : MethodId} {below : List Frame} {meth : Method} {c : Code} {b : Nat} (hx : p.tables.exec = Jvm.exec) (hb : c.code = code) (hr : meth.sig.returnType = ret) (hlocks : meth.locks = false) {pc : Nat} {H : Heap} {ls : Array Slot} (hdg : decode code pc = .ok (.ireturn, 1)) : W p l e room_1 s m #[Value.ref b] below meth c H [] 600000 7302250 (lw_Z below #[Value.ref b] s) (F0 m pc ls [.int 1]) := by
  intro T hT X
  obtain ⟨fs, hret, hrun, hended, hW, hframe⟩ := X.leave (v := some (.int 1)) (hlocks := hlocks) (fun h => by rw [hr] at h; cases h)
  have hmeth' : T.vm.method? m = some meth := X.method'
  refine ⟨T.setFrames fs, ?_, .returned (some (.int 1)), hrun, hended, rfl, ⟨_, rfl⟩, hW, hframe⟩
  jvm_step X.here [X.here.top, hx, hb, hdg, hmeth', hr, ret, narrow_b1]
  (try refine ⟨rfl, ?_⟩); (try refine ⟨rfl, ?_⟩)
  first | (intro acts; rw [hret _ acts rfl rfl rfl]) | rw [hret _ _ rfl rfl rfl]
  exact Steps.refl _
/-- what holds at the law's entry: the machine, the code, the tables' words (any of lw_tbl by 'hts w (by decide +kernel)'), the script of L ints xs at the cell b, what the Statement gives of the start (any of its parts by flat_of_before) -/
def lw_At (p : Program) (s : State) (m : MethodId) (meth : Method) (c : Code) (b L : Nat) (xs : Nat → Int32) : Prop :=
  p.tables.exec = Jvm.exec ∧ c.code = code ∧ meth.sig.returnType = ret ∧ c.maxLocals = 4 ∧ s.vm.findClass R_law = some m.cls ∧ (∀ w ∈ lw_tbl, w.before #[Value.ref b] s = true) ∧ va_X b L xs s s.heap ∧ b < s.heap.size ∧ meth.locks = false ∧ (Jvm.Cond.and given_1 narrow_1).before #[Value.ref b] s = true

/-! THE START: what the law finds -/
theorem az_own_ck : ((List.range 32).all fun j => decide (Cond.eq (.elem (.static RX0 "OWN" "[I") (.int (Int32.ofNat j))) (.int (az_own j)) ∈ flatC (Jvm.Cond.and given_1 narrow_1))) = true := by decide +kernel
theorem az_abv_ck : ((List.range 8).all fun j => decide (Cond.eq (.elem (.static RX0 "ABOVE" "[I") (.int (Int32.ofNat j))) (.int (az_abv j)) ∈ flatC (Jvm.Cond.and given_1 narrow_1))) = true := by decide +kernel
theorem az_start {p : Program} {s : State} {m : MethodId} {meth : Method} {c : Code} {b L : Nat} {xs : Nat → Int32} (C0 : lw_At p s m meth c b L xs) : ∃ (t : Nat → Nat) (D : va_G) (cA : Nat → ClassId), t 0 = b ∧ az_En (az_ex L xs) s.heap.size t D cA s := by
  obtain ⟨hx, hb, hr, hml, hown, hts, hX, hbl, hlocks, hgv⟩ := C0
  have hfl := flat_of_before _ hgv
  have hA : ∀ a : Nat, a < s.heap.size → ¬ (s.heap.size ≤ a) := fun a h => Nat.not_le.mpr h
  have hg : ∀ w ∈ lw_g, w.before #[Value.ref b] s = true := fun w hw => hts w (List.mem_filter.mp hw).1
  -- the classes
  have hcl : ∀ k : Nat, ∃ (cC : ClassId) (iS : Nat → Nat), ∀ q, vwCl[k]? = some q → u_Kn s q.1 q.2.1 q.2.2 cC iS := by
    intro k
    cases hq : vwCl[k]? with
    | none => exact ⟨0, fun _ => 0, fun q h => by cases h⟩
    | some q =>
      obtain ⟨c1, -, -, c4, -⟩ := az_cl_ok hq
      obtain ⟨cC, iS, h⟩ := u_known (C := q.1) (T := q.2.1) (N := q.2.2) (n := q.2.2) hg c1 (hg _ c4)
      exact ⟨cC, iS, fun q' h' => by cases h'; exact h⟩
  obtain ⟨aI, kI, mI, i1, i2, i3⟩ := Cond.arrayClass_spec (hg _ az_fx_10)
  obtain ⟨aJ, kJ, mJ, j1, j2, j3⟩ := Cond.arrayClass_spec (hg _ az_fx_11)
  obtain ⟨aZ, kZ, mZ, z1, z2, z3⟩ := Cond.arrayClass_spec (hg _ az_fx_12)
  have hover : (Cond.arrayOver (.object RX7)).before #[Value.ref b] s = true := hts _ (by decide +kernel)
  obtain ⟨mR, aR, kR, r1, -, r3, r4, r5⟩ := Cond.arrayOver_spec hover
  -- the rows that nobody writes
  obtain ⟨tO, eO, hO⟩ := va_Tof (N := 32) (f := fun j => .int (az_own j)) (A := fun q => s.heap.size ≤ q) (by decide) (hfl (.arrayOf (.static RX0 "OWN" "[I") .int) (by decide +kernel)) (va_eqt (hfl (.eq (.length (.static RX0 "OWN" "[I")) (.int 32)) (by decide +kernel))) (fun j hj => va_eqt (hfl _ (of_decide_eq_true (List.all_eq_true.mp az_own_ck j (List.mem_range.mpr hj))))) hA
  obtain ⟨tA, eA, hAb⟩ := va_Tof (N := 8) (f := fun j => .int (az_abv j)) (A := fun q => s.heap.size ≤ q) (by decide) (hfl (.arrayOf (.static RX0 "ABOVE" "[I") .int) (by decide +kernel)) (va_eqt (hfl (.eq (.length (.static RX0 "ABOVE" "[I")) (.int 8)) (by decide +kernel))) (fun j hj => va_eqt (hfl _ (of_decide_eq_true (List.all_eq_true.mp az_abv_ck j (List.mem_range.mpr hj))))) hA
  have hini : (Cond.initialized RX0).before #[Value.ref b] s = true := hts _ (by decide +kernel)
  refine ⟨fun r => if r = 0 then b else if r = 1 then tO else tA, (fun k => Classical.choose (hcl k), fun k => Classical.choose (Classical.choose_spec (hcl k))), fun k => if k = 1 then aI else if k = 2 then aJ else if k = 3 then aZ else aR, rfl, ⟨fun k q hq => Classical.choose_spec (Classical.choose_spec (hcl k)) q hq, ?_⟩, ?_, va_Zref (hts _ (by decide +kernel)) hini eO hA, va_Zref (hts _ (by decide +kernel)) hini eA hA, va_AO.of hover, fun a i x h hm => va_Nw.of rfl (hts _ hm)⟩
  · intro k q hk
    match k, hk with
    | 0, hk => cases hk; exact ⟨fun n z => ⟨fun k h => (by cases h), kI, i2, mI, i3⟩, i1⟩
    | 1, hk => cases hk; exact ⟨fun n z => ⟨fun k h => (by cases h), kJ, j2, mJ, j3⟩, j1⟩
    | 2, hk => cases hk; exact ⟨fun n z => ⟨fun k h => (by cases h), kZ, z2, mZ, z3⟩, z1⟩
    | 3, hk => cases hk; exact ⟨fun n z => ⟨fun k h => (by cases h), kR, r3, mR, r4⟩, kR, mR, r3, r4, r1, r5⟩
    | k + 4, hk => simp [az_ty] at hk
  · intro r hr
    match r, hr with
    | 0, _ =>
      obtain ⟨scr, g1, g2, g3, g4, g5⟩ := hX
      exact ⟨scr, g1, g2, g3, by rw [g4]; exact Nat.le_refl _, by rw [g4]; rfl, fun j hj => g5 j hj, hA b hbl⟩
    | 1, _ => exact hO
    | 2, _ => exact hAb
    | r + 3, h => exact absurd h (by omega)

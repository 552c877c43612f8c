/-! THE LAW: the text, its orders, its value -/
abbrev pv_T : Type := (Nat → Int32) → Int32
abbrev pc_T : Type := List (Int32 × Int32)
abbrev pr_T : Type := Except Nat (Nat × pc_T × pv_T)
def jl (lv : Nat) (c : Int32) : Bool := if lv = 0 then c == 124 else if lv = 1 then c == 38 else if lv = 2 then c == 60 || c == 61 || c == 62 else if lv = 3 then c == 43 || c == 45 else if lv = 4 then c == 42 || c == 47 || c == 37 else false
def jn (a op b : Int32) : Int32 := (rs_La_joined a op b).getD 0
theorem jn_ok (a op b : Int32) : rs_La_joined a op b = some (jn a op b) := by
  unfold jn
  cases e : rs_La_joined a op b with
  | some x => rfl
  | none =>
    exfalso
    unfold rs_La_joined at e
    repeat' split at e
    all_goals first | cases e | contradiction
def nmo (c : Int32) : Option Nat := if c = 104 then some 5 else if c = 107 then some 1 else if c = 108 then some 2 else if c = 115 then some 3 else if c = 117 then some 0 else if c = 119 then some 4 else none
theorem nmo_X (c : Int32) : rs_Ta_nameOf c = some (match nmo c with | some i => nI i | none => -nI 1) := by
  unfold rs_Ta_nameOf nmo
  by_cases h1 : c = 104
  · subst h1; rfl
  by_cases h2 : c = 107
  · subst h2; rfl
  by_cases h3 : c = 108
  · subst h3; rfl
  by_cases h4 : c = 115
  · subst h4; rfl
  by_cases h5 : c = 117
  · subst h5; rfl
  by_cases h6 : c = 119
  · subst h6; rfl
  simp only [h1, h2, h3, h4, h5, h6, if_false, ite_self]
  rfl
theorem nmo_M (c : Int32) : rs_M_nameOf c = some (match nmo c with | some i => nI i | none => -nI 1) := nmo_X c
theorem nmo_lt {c : Int32} {i : Nat} (h : nmo c = some i) : i < 6 ∧ (57 : Int32) < c := by
  unfold nmo at h
  repeat' split at h
  all_goals first | (cases h; done) | (cases h; subst_vars; decide)
theorem jl_X {lv : Nat} (h : lv < 5) (c : Int32) : rs_Ta_joinsAt (nI lv) c = some (nI (if jl lv c then 1 else 0)) := by
  have hl : lv = 0 ∨ lv = 1 ∨ lv = 2 ∨ lv = 3 ∨ lv = 4 := by omega
  unfold rs_Ta_joinsAt rs_Ta_joinsAt_135 rs_Ta_joinsAt_124 rs_Ta_joinsAt_113 jl
  by_cases h1 : c = 37
  · subst h1; rcases hl with rfl | rfl | rfl | rfl | rfl <;> decide
  by_cases h2 : c = 38
  · subst h2; rcases hl with rfl | rfl | rfl | rfl | rfl <;> decide
  by_cases h3 : c = 42
  · subst h3; rcases hl with rfl | rfl | rfl | rfl | rfl <;> decide
  by_cases h4 : c = 43
  · subst h4; rcases hl with rfl | rfl | rfl | rfl | rfl <;> decide
  by_cases h5 : c = 45
  · subst h5; rcases hl with rfl | rfl | rfl | rfl | rfl <;> decide
  by_cases h6 : c = 47
  · subst h6; rcases hl with rfl | rfl | rfl | rfl | rfl <;> decide
  by_cases h7 : c = 60
  · subst h7; rcases hl with rfl | rfl | rfl | rfl | rfl <;> decide
  by_cases h8 : c = 61
  · subst h8; rcases hl with rfl | rfl | rfl | rfl | rfl <;> decide
  by_cases h9 : c = 62
  · subst h9; rcases hl with rfl | rfl | rfl | rfl | rfl <;> decide
  by_cases h10 : c = 124
  · subst h10; rcases hl with rfl | rfl | rfl | rfl | rfl <;> decide
  simp only [h1, h2, h3, h4, h5, h6, h7, h8, h9, h10, if_false, beq_iff_eq, Bool.or_eq_true, beq_eq_false_iff_ne, ne_eq, not_false_eq_true, Bool.or_false]
  have b1 : (c == 37) = false := beq_eq_false_iff_ne.mpr h1
  have b2 : (c == 38) = false := beq_eq_false_iff_ne.mpr h2
  have b3 : (c == 42) = false := beq_eq_false_iff_ne.mpr h3
  have b4 : (c == 43) = false := beq_eq_false_iff_ne.mpr h4
  have b5 : (c == 45) = false := beq_eq_false_iff_ne.mpr h5
  have b6 : (c == 47) = false := beq_eq_false_iff_ne.mpr h6
  have b7 : (c == 60) = false := beq_eq_false_iff_ne.mpr h7
  have b8 : (c == 61) = false := beq_eq_false_iff_ne.mpr h8
  have b9 : (c == 62) = false := beq_eq_false_iff_ne.mpr h9
  have b10 : (c == 124) = false := beq_eq_false_iff_ne.mpr h10
  simp only [b1, b2, b3, b4, b5, b6, b7, b8, b9, b10, Bool.or_false, ite_self, Bool.false_eq_true, if_false]
  rfl
/-- orders in their cells -/
def cc (I : Nat → Nat → Int32) (t i : Nat) (c : pc_T) : Prop := ∀ j x, c[j]? = some x → I (t + 1) (i + j) = x.1 ∧ I (t + 2) (i + j) = x.2
theorem cc_l {I : Nat → Nat → Int32} {t i : Nat} {a b : pc_T} (h : cc I t i (a ++ b)) : cc I t i a := fun j x hx => h j x (by
  obtain ⟨hl, _⟩ := List.getElem?_eq_some_iff.mp hx
  rw [List.getElem?_append_left hl]; exact hx)
theorem cc_r {I : Nat → Nat → Int32} {t i : Nat} {a b : pc_T} (h : cc I t i (a ++ b)) : cc I t (i + a.length) b := fun j x hx => by
  have := h (a.length + j) x (by rw [List.getElem?_append_right (by omega), Nat.add_sub_cancel_left]; exact hx)
  rw [Nat.add_assoc]
  exact this
theorem cc.fr {I I' : Nat → Nat → Int32} {t i : Nat} {c : pc_T} (h : cc I t i c) (f : ∀ j, I' (t + 1) j = I (t + 1) j ∧ I' (t + 2) j = I (t + 2) j) : cc I' t i c := fun j x hx => by
  rw [(f _).1, (f _).2]; exact h j x hx
abbrev wk (t : Nat) : Int32 × Int32 × (Nat → Nat → Int32) → Option ((Int32 × Int32 × (Nat → Nat → Int32)) ⊕ (Int32 × (Nat → Nat → Int32))) := fun s => rs_La_work_4_b t s.1 s.2.1 s.2.2
/-- six numbers -/
def f6 (g : Nat → Int32) : Nat → Int32 := fun j => if j < 6 then g j else 0
/-- the class's machine goes over the orders and leaves the value -/
def rn (H : Nat) (c : pc_T) (v : pv_T) : Prop := ∀ (t : Nat) (I : Nat → Nat → Int32) (z i s N : Nat), I t 4 = nI z → z ≤ 121 → i + c.length ≤ z → cc I t i c → s + H ≤ 64 →
  ∃ I', az_lp (wk t) (N + c.length) (nI s, nI i, I) = az_lp (wk t) N (nI (s + 1), nI (i + c.length), I') ∧ az_fr (fun r k => r = t + 4 ∧ s ≤ k) I I' ∧ I' (t + 4) s = v (f6 (I (t + 3)))
theorem rn.mono {H H' : Nat} {c : pc_T} {v : pv_T} (h : rn H c v) (q : H ≤ H') : rn H' c v := fun t I z i s N a b d e f => h t I z i s N a b d e (by omega)
theorem rn_num (x : Int32) : rn 1 [(35, x)] (fun _ => x) := by
  intro t I z i s N a b d e f
  obtain ⟨e1, e2⟩ := e 0 _ rfl
  replace d : i + 1 ≤ z := d
  replace e1 : I (t + 1) i = nI 35 := e1
  replace e2 : I (t + 2) i = x := e2
  refine ⟨az_u I (t + 4) s x, ?_, (az_fr.refl (S := fun r k => r = t + 4 ∧ s ≤ k)).u ⟨rfl, Nat.le_refl s⟩, az_us⟩
  refine az_lp_l ?_
  show rs_La_work_4_b t (nI s) (nI i) I = _
  unfold rs_La_work_4_b rs_La_work_31 rs_La_work_69
  simp (disch := omega) only [bl_lit, lgl, lgg, lgl0, lgg0, lglm, lggm, az_us, az_un, az_ue, az_urn, az_ure, bz_lit, nI_leI, nI_ltI, nI_eq, nI_clamp, nI_add, pk_sub, pk_mul, bz_nlt, bz_nle, bz_ltn, bz_len, bz_neq, bz_eqn, bz_nn, ↓reduceIte, Bool.false_eq_true, if_pos, if_neg, a, e1, e2]
  rfl
theorem rn_nm {j : Nat} (hj : j < 6) : rn 1 [(110, nI j)] (fun f => f j) := by
  intro t I z i s N a b d e f
  obtain ⟨e1, e2⟩ := e 0 _ rfl
  replace d : i + 1 ≤ z := d
  replace e1 : I (t + 1) i = nI 110 := e1
  replace e2 : I (t + 2) i = nI j := e2
  refine ⟨az_u I (t + 4) s (I (t + 3) j), ?_, (az_fr.refl (S := fun r k => r = t + 4 ∧ s ≤ k)).u ⟨rfl, Nat.le_refl s⟩, by rw [az_us]; exact (if_pos hj).symm⟩
  refine az_lp_l ?_
  show rs_La_work_4_b t (nI s) (nI i) I = _
  unfold rs_La_work_4_b rs_La_work_31 rs_La_work_69
  simp (disch := omega) only [bl_lit, lgl, lgg, lgl0, lgg0, lglm, lggm, az_us, az_un, az_ue, az_urn, az_ure, bz_lit, nI_leI, nI_ltI, nI_eq, nI_clamp, nI_add, pk_sub, pk_mul, bz_nlt, bz_nle, bz_ltn, bz_len, bz_neq, bz_eqn, bz_nn, ↓reduceIte, Bool.false_eq_true, if_pos, if_neg, a, e1, e2]
  rfl
/-- one more order at the end -/
theorem rn_un {H : Nat} {c : pc_T} {v : pv_T} (h : rn H c v) (op : Int32) (g : Int32 → Int32) (hg : ∀ (t : Nat) (I : Nat → Nat → Int32) (z i s : Nat), I t 4 = nI z → z ≤ 121 → i < z → I (t + 1) i = op → s < 64 → rs_La_work_4_b t (nI (s + 1)) (nI i) I = some (.inl (nI (s + 1), nI (i + 1), az_u I (t + 4) s (g (I (t + 4) s))))) (hH : 1 ≤ H) : rn H (c ++ [(op, 0)]) (fun f => g (v f)) := by
  intro t I z i s N a b d e f
  rw [List.length_append] at d ⊢
  replace d : i + (c.length + 1) ≤ z := d
  obtain ⟨I1, r1, f1, v1⟩ := h t I z i s (N + 1) a b (by omega) (cc_l e) f
  obtain ⟨e1, _⟩ := cc_r e 0 _ rfl
  replace e1 : I (t + 1) (i + c.length) = op := e1
  have a1 : I1 t 4 = nI z := by rw [f1 t 4 (by omega)]; exact a
  have e1' : I1 (t + 1) (i + c.length) = op := by rw [f1 (t + 1) _ (by omega)]; exact e1
  have st := hg t I1 z (i + c.length) s a1 b (by omega) e1' (by omega)
  refine ⟨az_u I1 (t + 4) s (g (I1 (t + 4) s)), ?_, f1.u ⟨rfl, Nat.le_refl s⟩, by rw [az_us, v1]⟩
  rw [show N + (c.length + [(op, (0 : Int32))].length) = N + 1 + c.length by show N + (c.length + 1) = _; omega, r1, az_lp_l (b := wk t) st]
  rfl
theorem rn_neg {H : Nat} {c : pc_T} {v : pv_T} (h : rn H c v) (hH : 1 ≤ H) : rn H (c ++ [(126, 0)]) (fun f => -(v f)) := rn_un h 126 (fun x => -x) (by
  intro t I z i s a b d e f
  replace e : I (t + 1) i = nI 126 := e
  unfold rs_La_work_4_b
  simp (disch := omega) only [bl_lit, lgl, lgg, lgl0, lgg0, lglm, lggm, az_us, az_un, az_ue, az_urn, az_ure, bz_lit, nI_leI, nI_ltI, nI_eq, nI_clamp, nI_add, pk_sub, pk_mul, bz_nlt, bz_nle, bz_ltn, bz_len, bz_neq, bz_eqn, bz_nn, ↓reduceIte, Bool.false_eq_true, if_pos, if_neg, a, e, Nat.add_sub_cancel]) hH
theorem rn_not {H : Nat} {c : pc_T} {v : pv_T} (h : rn H c v) (hH : 1 ≤ H) : rn H (c ++ [(33, 0)]) (fun f => if v f = 0 then 1 else 0) := rn_un h 33 (fun x => if x = 0 then 1 else 0) (by
  intro t I z i s a b d e f
  replace e : I (t + 1) i = nI 33 := e
  unfold rs_La_work_4_b rs_La_work_176
  by_cases q : I (t + 4) s = nI 0
  · simp (disch := omega) only [bl_lit, lgl, lgg, lgl0, lgg0, lglm, lggm, az_us, az_un, az_ue, az_urn, az_ure, bz_lit, nI_leI, nI_ltI, nI_eq, nI_clamp, nI_add, pk_sub, pk_mul, bz_nlt, bz_nle, bz_ltn, bz_len, bz_neq, bz_eqn, bz_nn, ↓reduceIte, Bool.false_eq_true, if_pos, if_neg, a, e, q, Nat.add_sub_cancel]
  · simp (disch := omega) only [bl_lit, lgl, lgg, lgl0, lgg0, lglm, lggm, az_us, az_un, az_ue, az_urn, az_ure, bz_lit, nI_leI, nI_ltI, nI_eq, nI_clamp, nI_add, pk_sub, pk_mul, bz_nlt, bz_nle, bz_ltn, bz_len, bz_neq, bz_eqn, bz_nn, ↓reduceIte, Bool.false_eq_true, if_pos, if_neg, a, e, q, Nat.add_sub_cancel]) hH
theorem rn_bin {H : Nat} {c c' : pc_T} {v v' : pv_T} (h : rn (H + 1) c v) (h' : rn H c' v') {op : Int32} (ho : op ≠ 35 ∧ op ≠ 110 ∧ op ≠ 59 ∧ op ≠ 63 ∧ op ≠ 126 ∧ op ≠ 33) (hH : 1 ≤ H) : rn (H + 1) (c ++ c' ++ [(op, 0)]) (fun f => jn (v f) op (v' f)) := by
  intro t I z i s N a b d e f
  rw [List.length_append, List.length_append] at d ⊢
  replace d : i + (c.length + c'.length + 1) ≤ z := d
  obtain ⟨I1, r1, f1, v1⟩ := h t I z i s (N + 1 + c'.length) a b (by omega) (cc_l (cc_l e)) (by omega)
  have a1 : I1 t 4 = nI z := by rw [f1 t 4 (by omega)]; exact a
  obtain ⟨I2, r2, f2, v2⟩ := h' t I1 z (i + c.length) (s + 1) (N + 1) a1 b (by omega) ((cc_r (cc_l e)).fr (fun j => ⟨f1 _ _ (by omega), f1 _ _ (by omega)⟩)) (by omega)
  obtain ⟨e1, _⟩ := cc_r e 0 _ rfl
  rw [List.length_append] at e1
  replace e1 : I (t + 1) (i + (c.length + c'.length)) = op := e1
  have a2 : I2 t 4 = nI z := by rw [f2 t 4 (by omega)]; exact a1
  have e1' : I2 (t + 1) (i + c.length + c'.length) = op := by rw [f2 (t + 1) _ (by omega), f1 (t + 1) _ (by omega), Nat.add_assoc]; exact e1
  have x1 : I2 (t + 4) s = v (f6 (I (t + 3))) := by rw [f2 (t + 4) s (by omega)]; exact v1
  have x2 : I2 (t + 4) (s + 1) = v' (f6 (I (t + 3))) := by rw [v2, show I1 (t + 3) = I (t + 3) from funext (fun j => f1 _ _ (by omega))]
  have j := jn_ok (v (f6 (I (t + 3)))) op (v' (f6 (I (t + 3))))
  refine ⟨az_u I2 (t + 4) s (jn (v (f6 (I (t + 3)))) op (v' (f6 (I (t + 3))))), ?_, (f1.trans (f2.mono (fun r k q => by (try dsimp only at q ⊢); omega))).u ⟨rfl, Nat.le_refl s⟩, az_us⟩
  rw [show N + (c.length + c'.length + [(op, (0 : Int32))].length) = N + 1 + c'.length + c.length by show N + (c.length + c'.length + 1) = _; omega, r1, r2]
  rw [show i + (c.length + c'.length + [(op, (0 : Int32))].length) = i + c.length + c'.length + 1 by show i + (c.length + c'.length + 1) = _; omega]
  refine az_lp_l ?_
  show rs_La_work_4_b t (nI (s + 1 + 1)) (nI (i + c.length + c'.length)) I2 = _
  obtain ⟨o1, o2, o3, o4, o5, o6⟩ := ho
  replace o1 : ¬ op = nI 35 := o1
  replace o2 : ¬ op = nI 110 := o2
  replace o3 : ¬ op = nI 59 := o3
  replace o4 : ¬ op = nI 63 := o4
  replace o5 : ¬ op = nI 126 := o5
  replace o6 : ¬ op = nI 33 := o6
  have m1 : nI (s + 1 + 1) + -nI 1 = nI (s + 1) := pk_m1 (s + 1)
  unfold rs_La_work_4_b
  simp (disch := omega) only [bl_lit, lgl, lgg, lgl0, lgg0, lglm, lggm, az_us, az_un, az_ue, az_urn, az_ure, bz_lit, nI_leI, nI_ltI, nI_eq, nI_clamp, nI_add, pk_sub, pk_mul, bz_nlt, bz_nle, bz_ltn, bz_len, bz_neq, bz_eqn, bz_nn, ↓reduceIte, Bool.false_eq_true, if_pos, if_neg, a2, e1', m1, Nat.add_sub_cancel, x1, x2, j, o1, o2, o3, o4, o5, o6]

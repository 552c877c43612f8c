/-! WHAT A STATE OF THE SMALL MACHINE IS ON THE HEAP -/
def az_ad (t : Nat → Nat) (base r : Nat) : Nat := if r < 3 then t r else base + (r - 3)
def az_v (ad : Nat → Nat) : Value → Value
  | .ref r => .ref (ad r)
  | v => v
theorem az_v_cat (ad : Nat → Nat) (v : Value) : (az_v ad v).category = v.category := by cases v <;> rfl
def az_fv (ad : Nat → Nat) (σ : az_S) (r k c : Nat) : Value := match c with
  | 0 => .int (σ.2.1 r k)
  | 1 => .int (σ.2.1 r k)
  | 2 => va_rf ((σ.2.2.2 r k).map ad)
  | q => .ref (ad q)
def az_e (ad : Nat → Nat) (cA : Nat → ClassId) (σ : az_S) (r : Nat) (q : Nat × Nat × List Nat) : va_E := match q with
  | (0, ci, cs) => .inr (ci, cs.mapIdx fun k c => az_fv ad σ r k c)
  | (1, n, _) => .inl (cA 1, n, .inl (σ.2.1 r))
  | (2, n, _) => .inl (cA 2, n, .inr (.inl (σ.2.2.1 r)))
  | (3, n, _) => .inl (cA 3, n, .inl (σ.2.1 r))
  | (4, n, _) => .inl (cA 4, n, .inr (.inr (.inr (.inr fun k => (σ.2.2.2 r k).map ad))))
  | (_, n, cs) => .inl (cA 4, n, .inr (.inr (.inr (.inr fun k => (cs[k]?).map ad))))
def az_ws (sh : az_H) (ad : Nat → Nat) (cA : Nat → ClassId) (σ : az_S) : va_W := (List.range σ.1).map fun i => (ad (i + 3), az_e ad cA σ (i + 3) ((sh[i]?).getD (1, 0, [])))
theorem az_ws_at {sh : az_H} {ad : Nat → Nat} {cA : Nat → ClassId} {σ : az_S} {r : Nat} {q : Nat × Nat × List Nat} (h : az_k sh σ.1 r = some q) : (az_ws sh ad cA σ)[r - 3]? = some (ad r, az_e ad cA σ r q) := by
  unfold az_k at h
  split at h
  · rename_i hc
    obtain ⟨h1, h2⟩ := hc
    have h3 : r - 3 + 3 = r := by omega
    unfold az_ws
    rw [List.getElem?_map, List.getElem?_range h2]
    simp only [Option.map_some, h, Option.getD_some, h3]
  · cases h
theorem az_ws_set {sh : az_H} {ad : Nat → Nat} {cA : Nat → ClassId} {σ σ' : az_S} {r : Nat} {q : Nat × Nat × List Nat} (h : az_k sh σ.1 r = some q) (hn : σ'.1 = σ.1) (ho : ∀ (j : Nat) (q : Nat × Nat × List Nat), j ≠ r → az_e ad cA σ' j q = az_e ad cA σ j q) :
    (az_ws sh ad cA σ).set (r - 3) (ad r, az_e ad cA σ' r q) = az_ws sh ad cA σ' := by
  have h0 := h
  unfold az_k at h
  split at h
  · rename_i hc
    obtain ⟨h1, h2⟩ := hc
    have h3 : r - 3 + 3 = r := by omega
    apply List.ext_getElem?
    intro i
    rw [List.getElem?_set]
    by_cases hi : r - 3 = i
    · subst hi
      have h4 := az_ws_at (sh := sh) (ad := ad) (cA := cA) (σ := σ') (r := r) (q := q) (by rw [hn]; exact h0)
      rw [h4]
      simp [az_ws, h2]
    · rw [if_neg hi]
      unfold az_ws
      rw [hn, List.getElem?_map, List.getElem?_map]
      cases hr : (List.range σ.1)[i]? with
      | none => rfl
      | some j =>
        have hj : j = i := by
          have := List.getElem?_eq_some_iff.mp hr
          obtain ⟨g1, g2⟩ := this
          simpa using g2.symm
        subst hj
        simp only [Option.map_some]
        rw [ho (j + 3) _ (by omega)]
  · cases h
theorem az_ws_D {sh : az_H} {t : Nat → Nat} {base : Nat} {cA : Nat → ClassId} {σ : az_S} : va_D (fun q => base ≤ q) (az_ws sh (az_ad t base) cA σ) := by
  have key : ∀ (k : Nat) (q : Nat × va_E), (az_ws sh (az_ad t base) cA σ)[k]? = some q → q.1 = base + k := by
    intro k q hq
    unfold az_ws at hq
    rw [List.getElem?_map] at hq
    cases hr : (List.range σ.1)[k]? with
    | none => rw [hr] at hq; cases hq
    | some j =>
      obtain ⟨g1, g2⟩ := List.getElem?_eq_some_iff.mp hr
      have hj : j = k := by simpa using g2.symm
      subst hj
      rw [hr] at hq
      simp only [Option.map_some, Option.some.injEq] at hq
      rw [← hq]
      show az_ad t base (j + 3) = base + j
      unfold az_ad
      rw [if_neg (by omega)]
      omega
  refine ⟨fun i j a b hi hj hab => ?_, fun k q hq => ?_⟩
  · have h1 := key i a hi
    have h2 := key j b hj
    omega
  · rw [key k q hq]
    exact Nat.le_add_right _ _
/-- slots of the first n cells -/
def az_size (q : Nat × Nat × List Nat) : Nat := if q.1 = 0 then q.2.2.length else q.2.1
def az_slots (sh : az_H) (n : Nat) : Nat := ((sh.take n).map az_size).sum
theorem az_slots_succ {sh : az_H} {n : Nat} {q : Nat × Nat × List Nat} (h : sh[n]? = some q) : az_slots sh (n + 1) = az_slots sh n + az_size q := by
  obtain ⟨h1, h2⟩ := List.getElem?_eq_some_iff.mp h
  unfold az_slots
  rw [List.take_succ, h]
  simp
/-- a cell's kind is as its class has it -/
def az_fk (ty : Option FieldType) (c : Option Nat) : Bool := match ty with
  | some .int => c == some 0
  | some .boolean => c == some 1
  | some (.array _) => match c with | some (_ + 2) => true | _ => false
  | some (.object _) => match c with | some (_ + 2) => true | _ => false
  | _ => false
def az_shc (q : Nat × Nat × List Nat) : Bool := if q.1 = 0 then (match vwCl[q.2.1]? with
    | some c => decide (q.2.2.length = c.2.2) && (List.range c.2.2).all fun k => az_fk (parseFieldDescriptor (c.2.1 k).2.2.1) q.2.2[k]?
    | none => false)
  else decide (q.2.1 ≤ 100000)
def az_Pw (sh : az_H) (base : Nat) (t : Nat → Nat) (D : va_G) (cA : Nat → ClassId) (σ : az_S) (H : Heap) : Prop := va_P D vwCl (az_ws sh (az_ad t base) cA σ) H ∧ σ.1 ≤ sh.length
abbrev az_ty (cA : Nat → ClassId) : List (ClassId × FieldType) := [(cA 1, .int), (cA 2, .long), (cA 3, .boolean), (cA 4, .object RX7)]
/-- what a state holds beside the cells: classes, nest mates' words, the rows that nobody writes -/
def az_En (ex : az_X) (base : Nat) (t : Nat → Nat) (D : va_G) (cA : Nat → ClassId) (U : State) : Prop :=
  va_K D vwCl (az_ty cA) U ∧ (∀ r, r < 3 → va_T .int (t r) (ex r).1 (fun j => .int ((ex r).2 j)) (fun q => base ≤ q) U U.heap) ∧ va_Z RX0 "OWN" "[I" (.ref (t 1)) (fun q => base ≤ q) U U.heap ∧ va_Z RX0 "ABOVE" "[I" (.ref (t 2)) (fun q => base ≤ q) U U.heap ∧
  va_AO RX7 U ∧ ∀ (a : String) (i : Nat) (x : MethodName) (h : String), Cond.methodLinkNest a i x h ∈ lw_tbl → va_Nw (.methodLinkNest a i x h) U
theorem az_En.to {ex : az_X} {base : Nat} {t : Nat → Nat} {D : va_G} {cA : Nat → ClassId} {s U : State} {H : Heap} {locs : List Loc} (h : az_En ex base t D cA s) (hS : va_S (fun q => base ≤ q) s.heap H locs) (hU : U.heap = H) (hW : s.WarmedH U.vm) : az_En ex base t D cA U := by
  obtain ⟨h1, h2, h3, h4, h5, h6⟩ := h
  have hq : ∀ a : Nat, a < s.heap.size → ¬ (base ≤ a) → U.heap[a]? = s.heap[a]? := fun a g1 g2 => by rw [hU]; exact hS.2.1 a g1 g2
  exact ⟨va_K.moved hW.alike h1, fun r hr => ((h2 r hr).kept hq).moved hW.alike, (h3.kept hq).moved hW.alike, (h4.kept hq).moved hW.alike, h5.moved hW.alike, fun a i x h hm => (h6 a i x h hm).warmM hW⟩
/-- the locals: those that are known -/
def az_loc (ad : Nat → Nat) (nL : Nat) (ls : Array Slot) (L : List Value) : Prop := L.length = nL ∧ ls.size = nL ∧ lv_wf ls ∧ ∀ (i : Nat) (v : Value), L[i]? = some v → (∀ q, v ≠ .retAddr q) → ls[i]? = some (.val (az_v ad v))
def az_as1 (ad : Nat → Nat) (i : Nat) (o : Option Value) : Option (Nat × Value) := match o with
  | some (.retAddr _) => none
  | some v => some (i, az_v ad v)
  | none => none
def az_as (ad : Nat → Nat) (L : List Value) : List (Nat × Value) := (List.range L.length).filterMap fun i => az_as1 ad i L[i]?
theorem az_as_mem {ad : Nat → Nat} {L : List Value} {j : Nat} {v : Value} (h : L[j]? = some v) (hv : ∀ q, v ≠ .retAddr q) : (j, az_v ad v) ∈ az_as ad L := by
  unfold az_as
  rw [List.mem_filterMap]
  refine ⟨j, List.mem_range.mpr (List.getElem?_eq_some_iff.mp h).1, ?_⟩
  rw [h]
  cases v <;> first | rfl | exact absurd rfl (hv _)
theorem az_loc.has {ad : Nat → Nat} {nL : Nat} {ls : Array Slot} {L : List Value} (h : az_loc ad nL ls L) : lv_has ls nL (az_as ad L) := by
  obtain ⟨h1, h2, h3, h4⟩ := h
  refine ⟨h2, h3, fun q hq => ?_⟩
  unfold az_as at hq
  rw [List.mem_filterMap] at hq
  obtain ⟨i, -, hi⟩ := hq
  cases hL : L[i]? with
  | none => rw [hL] at hi; cases hi
  | some v =>
    rw [hL] at hi
    cases v <;> first | (cases hi; exact h4 i _ hL (fun _ e => by cases e)) | cases hi
theorem az_loc.at {ad : Nat → Nat} {nL : Nat} {ls : Array Slot} {L : List Value} (h : az_loc ad nL ls L) {i : Nat} {v : Value} (hi : L[i]? = some v) (hv : ∀ q, v ≠ .retAddr q) : ls[i]? = some (.val (az_v ad v)) := h.2.2.2 i v hi hv
theorem az_loc.put {ad : Nat → Nat} {nL : Nat} {ls : Array Slot} {L L' : List Value} {i : Nat} {v : Value} (hL : L.length = nL) (h : az_st L i v = some L')
    (hs : lv_has ls nL ((i, az_v ad v) :: (az_as ad L).filter (fun q => !(q.1 == i) && !(q.1 + 1 == i && q.2.category == 2)))) : az_loc ad nL ls L' := by
  obtain ⟨s1, s2, s3⟩ := hs
  have hi : i < L.length ∧ L' = L.set i v ∧ ∀ j w, j + 1 = i → L[j]? = some w → w.category ≠ 2 := by
    unfold az_st at h
    split at h
    · rename_i hlt
      cases i with
      | zero => cases h; exact ⟨hlt, rfl, fun j w e _ => by omega⟩
      | succ j =>
        dsimp only at h
        split at h
        · cases h
        · cases h
        · rename_i h1 h2
          cases h
          refine ⟨hlt, rfl, fun j' w e hw => ?_⟩
          have : j' = j := by omega
          subst this
          intro hc
          cases w <;> simp [Value.category] at hc
          · exact h1 _ hw
          · exact h2 _ hw
    · cases h
  obtain ⟨hlt, rfl, hk⟩ := hi
  refine ⟨by simpa using hL, s1, s2, fun j w hj hw => ?_⟩
  rw [List.getElem?_set] at hj
  by_cases e : i = j
  · subst e
    rw [if_pos rfl, if_pos hlt] at hj
    cases hj
    exact s3 (i, az_v ad v) List.mem_cons_self
  · rw [if_neg e] at hj
    refine s3 (j, az_v ad w) (List.mem_cons_of_mem _ (List.mem_filter.mpr ⟨az_as_mem hj hw, ?_⟩))
    have e2 : ¬ j = i := fun x => e x.symm
    by_cases e3 : j + 1 = i
    · have := hk j w e3 hj
      simp [e2, az_v_cat, this]
    · simp [e2, e3]
theorem az_lay_len {ad : Nat → Nat} (vs : List Value) : (lg_sl (vs.map (az_v ad))).length = (az_lay vs).length := by
  induction vs with
  | nil => rfl
  | cons v vs ih =>
    have e : lg_sl ((v :: vs).map (az_v ad)) = (if (az_v ad v).category = 2 then [Slot.val (az_v ad v), .second] else [.val (az_v ad v)]) ++ lg_sl (vs.map (az_v ad)) := by simp [lg_sl]
    rw [e, az_v_cat]
    unfold az_lay
    by_cases h : v.category = 2
    · simp [h, ih]
    · simp [h, ih]
theorem az_lay_at {ad : Nat → Nat} (vs : List Value) : ∀ (o i : Nat) (v : Value), (az_lay vs)[i]? = some v → (∀ q, v ≠ .retAddr q) → (o + i, az_v ad v) ∈ lv_args o (vs.map (az_v ad)) := by
  induction vs with
  | nil => intro o i v h _; simp [az_lay] at h
  | cons w vs ih =>
    intro o i v h hv
    unfold az_lay at h
    by_cases hc : w.category = 2
    · rw [if_pos hc] at h
      simp only [List.map_cons, lv_args, az_v_cat, if_pos hc]
      match i, h with
      | 0, h => simp only [List.getElem?_cons_zero, Option.some.injEq] at h; subst h; exact List.mem_cons_self
      | 1, h => simp only [List.getElem?_cons_succ, List.getElem?_cons_zero, Option.some.injEq] at h; exact absurd h.symm (hv _)
      | i + 2, h =>
        simp only [List.getElem?_cons_succ] at h
        have := ih (o + 2) i v h hv
        rw [show o + 2 + i = o + (i + 2) by omega] at this
        exact List.mem_cons_of_mem _ this
    · rw [if_neg hc] at h
      simp only [List.map_cons, lv_args, az_v_cat, if_neg hc]
      match i, h with
      | 0, h => simp only [List.getElem?_cons_zero, Option.some.injEq] at h; subst h; exact List.mem_cons_self
      | i + 1, h =>
        simp only [List.getElem?_cons_succ] at h
        have := ih (o + 1) i v h hv
        rw [show o + 1 + i = o + (i + 1) by omega] at this
        exact List.mem_cons_of_mem _ this
/-- the locals at a method's entry -/
theorem az_loc.ent {ad : Nat → Nat} (vs : List Value) {n : Nat} (h : (az_lay vs).length ≤ n) {ls : Array Slot} (hs : lv_has ls n (lv_args 0 (vs.map (az_v ad)))) : az_loc ad n ls (az_ent vs n) := by
  obtain ⟨h1, h2, h3⟩ := hs
  refine ⟨by simp [az_ent]; omega, h1, h2, fun i v hi hv => ?_⟩
  unfold az_ent at hi
  by_cases hl : i < (az_lay vs).length
  · rw [List.getElem?_append_left hl] at hi
    have := az_lay_at (ad := ad) vs 0 i v hi hv
    rw [Nat.zero_add] at this
    exact h3 _ this
  · rw [List.getElem?_append_right (by omega)] at hi
    have hm := List.mem_of_getElem? hi
    have := (List.mem_replicate.mp hm).2
    exact absurd this (hv _)
theorem az_st_lt {L L' : List Value} {i : Nat} {v : Value} (h : az_st L i v = some L') : i < L.length := by
  unfold az_st at h
  split at h
  · assumption
  · cases h
theorem az_rf (ad : Nat → Nat) (o : Option Nat) : az_v ad (va_rf o) = va_rf (o.map ad) := by cases o <;> rfl
theorem az_cat_map (ad : Nat → Nat) (S : List Value) : ((S.map (az_v ad)).map fun v => v.category).sum = az_cat S := by
  unfold az_cat
  rw [List.map_map]
  congr 1
  apply List.map_congr_left
  intro v _
  exact az_v_cat ad v
theorem az_gf_spec {sh : az_H} {σ : az_S} {r ci k : Nat} {v : Value} (ad : Nat → Nat) (h : az_gf sh σ r ci k = some v) : ∃ cs cd, az_k sh σ.1 r = some (0, ci, cs) ∧ cs[k]? = some cd ∧ az_v ad v = az_fv ad σ r k cd := by
  unfold az_gf at h
  split at h
  · rename_i c cs hk
    split at h
    · rename_i hc
      subst hc
      split at h
      · rename_i h1; cases h; exact ⟨cs, _, hk, h1, rfl⟩
      · rename_i h1; cases h; exact ⟨cs, _, hk, h1, rfl⟩
      · rename_i h1; cases h; exact ⟨cs, _, hk, h1, az_rf ad _⟩
      · rename_i q h2 h3 h4 h1
        cases h
        refine ⟨cs, q, hk, h1, ?_⟩
        match q, h2, h3, h4 with
        | 0, h2, _, _ => exact absurd rfl h2
        | 1, _, h3, _ => exact absurd rfl h3
        | 2, _, _, h4 => exact absurd rfl h4
        | q + 3, _, _, _ => rfl
      · cases h
    · cases h
  · cases h
theorem az_u_ne {α : Type} {f : Nat → Nat → α} {r k j : Nat} {v : α} (h : j ≠ r) : az_u f r k v j = f j := by
  funext x
  simp [az_u, h]
theorem az_ur_ne {α : Type} {f : Nat → Nat → α} {r j : Nat} {g : Nat → α} (h : j ≠ r) : az_ur f r g j = f j := by simp [az_ur, h]
theorem az_ur_eq {α : Type} {f : Nat → Nat → α} {r : Nat} {g : Nat → α} : az_ur f r g r = g := by simp [az_ur]
theorem az_u_eq {α : Type} {f : Nat → Nat → α} {r k : Nat} {v : α} : az_u f r k v r = fun j => if j = k then v else f r j := by
  funext x
  simp [az_u]
theorem az_fv_at {ad : Nat → Nat} {σ σ' : az_S} {r k c : Nat} (h1 : σ'.2.1 r k = σ.2.1 r k) (h2 : σ'.2.2.2 r k = σ.2.2.2 r k) : az_fv ad σ' r k c = az_fv ad σ r k c := by
  unfold az_fv
  rw [h1, h2]
theorem az_e_at {ad : Nat → Nat} {cA : Nat → ClassId} {σ σ' : az_S} {r : Nat} {q : Nat × Nat × List Nat} (h1 : σ'.2.1 r = σ.2.1 r) (h2 : σ'.2.2.1 r = σ.2.2.1 r) (h3 : σ'.2.2.2 r = σ.2.2.2 r) : az_e ad cA σ' r q = az_e ad cA σ r q := by
  have e : ∀ k c, az_fv ad σ' r k c = az_fv ad σ r k c := fun k c => az_fv_at (by rw [h1]) (by rw [h3])
  unfold az_e
  split <;> simp only [e, h1, h2, h3]
/-- writing a field -/
theorem az_pf_spec {sh : az_H} {σ σ' : az_S} {r ci k : Nat} {v : Value} (ad : Nat → Nat) (cA : Nat → ClassId) (h : az_pf sh σ r ci k v = some σ') : ∃ cs cd, az_k sh σ.1 r = some (0, ci, cs) ∧ cs[k]? = some cd ∧ σ'.1 = σ.1 ∧ (∀ (j : Nat) (q : Nat × Nat × List Nat), j ≠ r → az_e ad cA σ' j q = az_e ad cA σ j q) ∧
    az_e ad cA σ' r (0, ci, cs) = .inr (ci, (cs.mapIdx fun k c => az_fv ad σ r k c).set k (az_v ad v)) ∧ ((cd = 0 ∧ ∃ x, v = .int x) ∨ (cd = 1 ∧ ∃ x, v = .int x ∧ (x = 0 ∨ x = 1)) ∨ (cd = 2 ∧ (v = .null ∨ ∃ q, v = .ref q))) := by
  have key : ∀ (cs : List Nat) (cd : Nat) (σ' : az_S), cs[k]? = some cd → (∀ j, j ≠ k → σ'.2.1 r j = σ.2.1 r j ∧ σ'.2.2.2 r j = σ.2.2.2 r j) → az_fv ad σ' r k cd = az_v ad v → az_e ad cA σ' r (0, ci, cs) = .inr (ci, (cs.mapIdx fun k c => az_fv ad σ r k c).set k (az_v ad v)) := by
    intro cs cd σ' hcd ho hv
    show Sum.inr (ci, cs.mapIdx fun k c => az_fv ad σ' r k c) = _
    congr 2
    apply List.ext_getElem?
    intro j
    rw [List.getElem?_set, List.getElem?_mapIdx, List.getElem?_mapIdx]
    by_cases e : k = j
    · subst e
      have hl := (List.getElem?_eq_some_iff.mp hcd).1
      rw [if_pos rfl, if_pos (by simpa using hl), hcd, Option.map_some, hv]
    · rw [if_neg e]
      have := ho j (fun x => e x.symm)
      cases cs[j]? with
      | none => rfl
      | some c => simp only [Option.map_some]; rw [az_fv_at this.1 this.2]
  unfold az_pf at h
  split at h
  · rename_i c cs hk
    split at h
    · rename_i hc
      subst hc
      split at h
      · rename_i h1
        split at h
        · cases h
          exact ⟨cs, 0, hk, h1, rfl, fun j q hj => az_e_at (az_u_ne hj) rfl rfl, key cs 0 _ h1 (fun j hj => ⟨by simp [az_u, hj], rfl⟩) (by simp [az_fv, az_u, az_v]), Or.inl ⟨rfl, _, rfl⟩⟩
        · cases h
      · rename_i h1
        split at h
        · split at h
          · rename_i hx
            cases h
            exact ⟨cs, 1, hk, h1, rfl, fun j q hj => az_e_at (az_u_ne hj) rfl rfl, key cs 1 _ h1 (fun j hj => ⟨by simp [az_u, hj], rfl⟩) (by simp [az_fv, az_u, az_v]), Or.inr (Or.inl ⟨rfl, _, rfl, hx⟩)⟩
          · cases h
        · cases h
      · rename_i h1
        split at h
        · cases h
          exact ⟨cs, 2, hk, h1, rfl, fun j q hj => az_e_at rfl rfl (az_u_ne hj), key cs 2 _ h1 (fun j hj => ⟨rfl, by simp [az_u, hj]⟩) (by simp [az_fv, az_u, az_v, va_rf]), Or.inr (Or.inr ⟨rfl, Or.inr ⟨_, rfl⟩⟩)⟩
        · cases h
          exact ⟨cs, 2, hk, h1, rfl, fun j q hj => az_e_at rfl rfl (az_u_ne hj), key cs 2 _ h1 (fun j hj => ⟨rfl, by simp [az_u, hj]⟩) (by simp [az_fv, az_u, az_v, va_rf]), Or.inr (Or.inr ⟨rfl, Or.inl rfl⟩)⟩
        · cases h
      · cases h
    · cases h
  · cases h
theorem az_k_sh {sh : az_H} {n r : Nat} {q : Nat × Nat × List Nat} (h : az_k sh n r = some q) : 3 ≤ r ∧ r - 3 < n ∧ sh[r - 3]? = some q := by
  unfold az_k at h
  split at h
  · rename_i hc; exact ⟨hc.1, hc.2, h⟩
  · cases h
/-- what a field may hold, by its class -/
theorem az_fld {sh : az_H} (hsh : sh.all az_shc = true) {n r ci k cd : Nat} {cs : List Nat} {q : vw_C} (h : az_k sh n r = some (0, ci, cs)) (hq : vwCl[ci]? = some q) (hcd : cs[k]? = some cd) : k < q.2.2 ∧ cs.length = q.2.2 ∧ az_fk (parseFieldDescriptor (q.2.1 k).2.2.1) (some cd) = true := by
  have h1 := List.all_eq_true.mp hsh _ (List.mem_of_getElem? (az_k_sh h).2.2)
  unfold az_shc at h1
  rw [if_pos rfl] at h1
  dsimp only at h1
  rw [hq] at h1
  simp only [Bool.and_eq_true, decide_eq_true_eq, List.all_eq_true, List.mem_range] at h1
  have hl := (List.getElem?_eq_some_iff.mp hcd).1
  have hk : k < q.2.2 := by omega
  have := h1.2 k hk
  rw [hcd] at this
  exact ⟨hk, h1.1, this⟩
theorem az_fit {ad : Nat → Nat} {ty : Option FieldType} {cd : Nat} {v : Value} (h : az_fk ty (some cd) = true) (hv : (cd = 0 ∧ ∃ x, v = .int x) ∨ (cd = 1 ∧ ∃ x, v = .int x ∧ (x = 0 ∨ x = 1)) ∨ (cd = 2 ∧ (v = .null ∨ ∃ q, v = .ref q))) : ∃ ty', ty = some ty' ∧ narrow ty' (az_v ad v) = az_v ad v ∧ fits ty' (az_v ad v) = true := by
  unfold az_fk at h
  split at h
  · have h0 : cd = 0 := by simpa using h
    subst h0
    rcases hv with ⟨-, x, rfl⟩ | ⟨e, -⟩ | ⟨e, -⟩
    · exact ⟨_, rfl, rfl, rfl⟩
    · cases e
    · cases e
  · have h0 : cd = 1 := by simpa using h
    subst h0
    rcases hv with ⟨e, -⟩ | ⟨-, x, rfl, hx⟩ | ⟨e, -⟩
    · cases e
    · rcases hx with rfl | rfl
      · exact ⟨_, rfl, (show narrow FieldType.boolean (Value.int 0) = Value.int 0 by decide), (show fits FieldType.boolean (Value.int 0) = true by decide)⟩
      · exact ⟨_, rfl, (show narrow FieldType.boolean (Value.int 1) = Value.int 1 by decide), (show fits FieldType.boolean (Value.int 1) = true by decide)⟩
    · cases e
  · rcases hv with ⟨e, -⟩ | ⟨e, -⟩ | ⟨-, rfl | ⟨q, rfl⟩⟩
    · subst e; cases h
    · subst e; cases h
    · exact ⟨_, rfl, rfl, rfl⟩
    · exact ⟨_, rfl, rfl, rfl⟩
  · rcases hv with ⟨e, -⟩ | ⟨e, -⟩ | ⟨-, rfl | ⟨q, rfl⟩⟩
    · subst e; cases h
    · subst e; cases h
    · exact ⟨_, rfl, rfl, rfl⟩
    · exact ⟨_, rfl, rfl, rfl⟩
  · cases h

/-! THE LAW: the reading, pure -/
section
variable (n : Nat) (B : Nat → Int32)
abbrev pdg (p : Nat) : Prop := p < n ∧ ¬ B p < nI 48 ∧ ¬ nI 57 < B p
def pn : Nat → Nat → Int32 → Nat × Int32
  | 0, p, v => (p, v)
  | k + 1, p, v => if pdg n B p then pn k (p + 1) (v * nI 10 + B p - nI 48) else (p, v)
def p0 (p : Nat) : pr_T :=
  if pdg n B p then .ok ((pn n B 4 p (nI 0)).1, [(35, (pn n B 4 p (nI 0)).2)], fun _ => (pn n B 4 p (nI 0)).2)
  else if p < n then (match nmo (B p) with
    | some i => .ok (p + 1, [(110, nI i)], fun f => f i)
    | none => .error p) else .error p
def plp (lv : Nat) (sub : Nat → pr_T) : Nat → Nat → pc_T → pv_T → pr_T
  | 0, p, c, v => .ok (p, c, v)
  | k + 1, p, c, v => if p < n ∧ jl lv (B p) = true then (match sub (p + 1) with
      | .error e => .error e
      | .ok (q, c', v') => if lv = 2 then .ok (q, c ++ c' ++ [(B p, 0)], fun f => jn (v f) (B p) (v' f)) else plp lv sub k q (c ++ c' ++ [(B p, 0)]) (fun f => jn (v f) (B p) (v' f)))
    else .ok (p, c, v)
def plv (lv : Nat) (sub : Nat → pr_T) (p : Nat) : pr_T := match sub p with
  | .error e => .error e
  | .ok (q, c, v) => plp n B lv sub 120 q c v
def pex (op : Nat → pr_T) : Nat → pr_T := plv n B 0 (plv n B 1 (plv n B 2 (plv n B 3 (plv n B 4 op))))
def pop : Nat → Nat → pr_T
  | 0, p => p0 n B p
  | m + 1, p => if p < n ∧ B p = nI 33 then (match pop m (p + 1) with
      | .error e => .error e
      | .ok (q, c, v) => .ok (q, c ++ [(33, 0)], fun f => if v f = 0 then 1 else 0))
    else if p < n ∧ B p = nI 45 then (match pop m (p + 1) with
      | .error e => .error e
      | .ok (q, c, v) => .ok (q, c ++ [(126, 0)], fun f => -(v f)))
    else if p < n ∧ B p = nI 40 then (match pex n B (pop m) (p + 1) with
      | .error e => .error e
      | .ok (q, c, v) => if q < n ∧ B q = nI 41 then .ok (q + 1, c, v) else .error q)
    else p0 n B p
/-- what is good about a reading -/
def pg1 (H p : Nat) (r : pr_T) : Prop := match r with
  | .error e => e ≤ n
  | .ok (q, c, v) => p < q ∧ q ≤ n ∧ c.length ≤ q - p ∧ rn H c v
def pg (H : Nat) (sub : Nat → pr_T) : Prop := ∀ p, p ≤ n → pg1 n H p (sub p)
end
section
variable {n : Nat} {B : Nat → Int32}
theorem pn_le : ∀ k p v, p ≤ n → p ≤ (pn n B k p v).1 ∧ (pn n B k p v).1 ≤ n := by
  intro k
  induction k with
  | zero => intro p v h; exact ⟨Nat.le_refl p, h⟩
  | succ k ih =>
    intro p v h
    unfold pn
    split
    · rename_i q
      have := ih (p + 1) (v * nI 10 + B p - nI 48) (by unfold pdg at q; omega)
      exact ⟨by omega, this.2⟩
    · exact ⟨Nat.le_refl p, h⟩
theorem pn_lt {p : Nat} {v : Int32} (h : pdg n B p) : p < (pn n B 4 p v).1 ∧ (pn n B 4 p v).1 ≤ n := by
  have := pn_le (n := n) (B := B) 3 (p + 1) (v * nI 10 + B p - nI 48) (by unfold pdg at h; omega)
  rw [show pn n B 4 p v = pn n B 3 (p + 1) (v * nI 10 + B p - nI 48) from if_pos h]
  omega
theorem p0_g : pg n 1 (p0 n B) := by
  intro p hp
  unfold p0
  split
  · rename_i q
    have := pn_lt (v := nI 0) q
    exact ⟨this.1, this.2, by show 1 ≤ _; omega, rn_num _⟩
  · split
    · split
      · rename_i i e
        exact ⟨by omega, by omega, by show 1 ≤ _; omega, rn_nm (nmo_lt e).1⟩
      · exact hp
    · exact hp
theorem jl_op {lv : Nat} {c : Int32} (h : jl lv c = true) : c ≠ 35 ∧ c ≠ 110 ∧ c ≠ 59 ∧ c ≠ 63 ∧ c ≠ 126 ∧ c ≠ 33 := by
  have key : c = 124 ∨ c = 38 ∨ c = 60 ∨ c = 61 ∨ c = 62 ∨ c = 43 ∨ c = 45 ∨ c = 42 ∨ c = 47 ∨ c = 37 := by
    unfold jl at h
    repeat' split at h
    all_goals (try simp only [Bool.or_eq_true, beq_iff_eq] at h)
    all_goals first | (cases h; done) | (rcases h with (h | h) | h <;> simp [h]; done) | (rcases h with h | h <;> simp [h]; done) | simp [h]
  rcases key with h | h | h | h | h | h | h | h | h | h <;> subst h <;> decide
theorem plp_g {H lv : Nat} {sub : Nat → pr_T} (hH : 1 ≤ H) (hs : pg n H sub) : ∀ k p0 p c v, p0 < p → p ≤ n → c.length ≤ p - p0 → rn (H + 1) c v → pg1 n (H + 1) p0 (plp n B lv sub k p c v) := by
  intro k
  induction k with
  | zero => intro p0 p c v h1 h2 h3 h4; exact ⟨h1, h2, h3, h4⟩
  | succ k ih =>
    intro p0 p c v h1 h2 h3 h4
    unfold plp
    split
    · rename_i hj
      have g := hs (p + 1) (by omega)
      cases e : sub (p + 1) with
      | error x => rw [e] at g; exact g
      | ok r =>
        obtain ⟨q, c', v'⟩ := r
        rw [e] at g
        obtain ⟨g1, g2, g3, g4⟩ := g
        have r5 := rn_bin h4 g4 (jl_op hj.2) hH
        have l5 : (c ++ c' ++ [(B p, (0 : Int32))]).length ≤ q - p0 := by
          rw [List.length_append, List.length_append]
          show c.length + c'.length + 1 ≤ _
          omega
        (try dsimp only)
        split
        · exact ⟨by omega, g2, l5, r5⟩
        · exact ih p0 q _ _ (by omega) g2 l5 r5
    · exact ⟨h1, h2, h3, h4⟩
theorem plv_g {H : Nat} {sub : Nat → pr_T} (lv : Nat) (hH : 1 ≤ H) (hs : pg n H sub) : pg n (H + 1) (plv n B lv sub) := by
  intro p hp
  have g := hs p hp
  unfold plv
  cases e : sub p with
  | error x => rw [e] at g; exact g
  | ok r =>
    obtain ⟨q, c, v⟩ := r
    rw [e] at g
    obtain ⟨g1, g2, g3, g4⟩ := g
    exact plp_g hH hs 120 p q c v g1 g2 g3 (g4.mono (by omega))
theorem pex_g {H : Nat} {op : Nat → pr_T} (hH : 1 ≤ H) (hs : pg n H op) : pg n (H + 5) (pex n B op) :=
  plv_g 0 (by omega) (plv_g 1 (by omega) (plv_g 2 (by omega) (plv_g 3 (by omega) (plv_g 4 hH hs))))
theorem pg1.mono {H H' p : Nat} {r : pr_T} (h : pg1 n H p r) (q : H ≤ H') : pg1 n H' p r := by
  cases r with
  | error e => exact h
  | ok r => exact ⟨h.1, h.2.1, h.2.2.1, h.2.2.2.mono q⟩
theorem pop_g : ∀ m, pg n (1 + 5 * m) (pop n B m) := by
  intro m
  induction m with
  | zero => exact p0_g
  | succ m ih =>
    intro p hp
    unfold pop
    split
    · rename_i z
      have g := ih (p + 1) (by omega)
      cases e : pop n B m (p + 1) with
      | error x => rw [e] at g; exact g
      | ok r =>
        obtain ⟨q, c, v⟩ := r
        rw [e] at g
        obtain ⟨g1, g2, g3, g4⟩ := g
        exact ⟨by omega, g2, by rw [List.length_append]; show c.length + 1 ≤ _; omega, rn_not (g4.mono (by omega)) (by omega)⟩
    · split
      · rename_i z
        have g := ih (p + 1) (by omega)
        cases e : pop n B m (p + 1) with
        | error x => rw [e] at g; exact g
        | ok r =>
          obtain ⟨q, c, v⟩ := r
          rw [e] at g
          obtain ⟨g1, g2, g3, g4⟩ := g
          exact ⟨by omega, g2, by rw [List.length_append]; show c.length + 1 ≤ _; omega, rn_neg (g4.mono (by omega)) (by omega)⟩
      · split
        · rename_i z
          have g := pex_g (n := n) (B := B) (by omega) ih (p + 1) (by omega)
          cases e : pex n B (pop n B m) (p + 1) with
          | error x => rw [e] at g; exact g
          | ok r =>
            obtain ⟨q, c, v⟩ := r
            rw [e] at g
            obtain ⟨g1, g2, g3, g4⟩ := g
            (try dsimp only)
            split
            · rename_i y
              exact ⟨by omega, by omega, by omega, g4.mono (by omega)⟩
            · exact g2
        · exact (p0_g p hp).mono (by omega)
theorem pe_g : pg n 36 (pex n B (pop n B 6)) := pex_g (by omega) (pop_g 6)
end

/-! THE MOOR AS A GRAPH: cells 0 .. 143, four ways; shortest minutes -/
def gd_s (c w : Nat) : Option Nat :=
  if w = 0 then (if 12 ≤ c then some (c - 12) else none)
  else if w = 1 then (if c % 12 < 11 then some (c + 1) else none)
  else if w = 2 then (if c < 132 then some (c + 12) else none)
  else (if 0 < c % 12 then some (c - 1) else none)
def gd_o (o : Option Nat) : Int32 := match o with | some c => nI c | none => -1
theorem gd_X : ∀ c, c < 144 → ∀ w, w < 4 → rs_X_sideCell (nI c) (nI w) = some (gd_o (gd_s c w)) := by decide +kernel
theorem gd_M : ∀ c, c < 144 → ∀ w, w < 4 → rs_M_beside (nI c) (nI w) = some (gd_o (gd_s c w)) := by decide +kernel
theorem gd_lt {c w o : Nat} (hc : c < 144) (h : gd_s c w = some o) : o < 144 := by
  unfold gd_s at h
  repeat' split at h
  all_goals first | (cases h; done) | (injection h with h; omega)
theorem gd_ne {c w o : Nat} (h : gd_s c w = some o) : o ≠ c := by
  unfold gd_s at h
  repeat' split at h
  all_goals first | (cases h; done) | (injection h with h; omega)
/-- o lies beside c -/
def gd_e (c o : Nat) : Prop := ∃ w, w < 4 ∧ gd_s c w = some o
theorem gd_sym {c o : Nat} (hc : c < 144) (h : gd_e c o) : gd_e o c := by
  obtain ⟨w, hw, h⟩ := h
  unfold gd_s at h
  split at h
  · split at h
    · injection h with h
      exact ⟨2, by omega, by unfold gd_s; rw [if_neg (by omega), if_neg (by omega), if_pos rfl, if_pos (by omega)]; exact congrArg some (by omega)⟩
    · cases h
  · split at h
    · split at h
      · injection h with h
        exact ⟨3, by omega, by unfold gd_s; rw [if_neg (by omega), if_neg (by omega), if_neg (by omega), if_pos (by omega)]; exact congrArg some (by omega)⟩
      · cases h
    · split at h
      · split at h
        · injection h with h
          exact ⟨0, by omega, by unfold gd_s; rw [if_pos rfl, if_pos (by omega)]; exact congrArg some (by omega)⟩
        · cases h
      · split at h
        · injection h with h
          exact ⟨1, by omega, by unfold gd_s; rw [if_neg (by omega), if_pos rfl, if_pos (by omega)]; exact congrArg some (by omega)⟩
        · cases h
theorem gd_elt {c o : Nat} (hc : c < 144) (h : gd_e c o) : o < 144 := by
  obtain ⟨w, _, h⟩ := h
  exact gd_lt hc h
theorem gd_r {c : Nat} (h : c % 12 < 11) : gd_e c (c + 1) := ⟨1, by omega, by unfold gd_s; rw [if_neg (by omega), if_pos rfl, if_pos h]⟩
theorem gd_d {c : Nat} (h : c < 132) : gd_e c (c + 12) := ⟨2, by omega, by unfold gd_s; rw [if_neg (by omega), if_neg (by omega), if_pos rfl, if_pos h]⟩
/-- what goes from cell to cell goes everywhere -/
theorem gd_all {P : Nat → Prop} {s : Nat} (hs : s < 144) (h0 : P s) (h : ∀ c o, c < 144 → gd_e c o → P c → P o) : ∀ c, c < 144 → P c := by
  have row : ∀ n x y, y < 12 → x + n < 12 → (P (12 * y + x) ↔ P (12 * y + (x + n))) := by
    intro n
    induction n with
    | zero => intro x y _ _; exact Iff.rfl
    | succ n ih =>
      intro x y hy hx
      rw [ih x y hy (by omega)]
      have e : gd_e (12 * y + (x + n)) (12 * y + (x + n) + 1) := gd_r (by omega)
      exact ⟨h _ _ (by omega) e, h _ _ (by omega) (gd_sym (by omega) e)⟩
  have col : ∀ n x y, x < 12 → y + n < 12 → (P (12 * y + x) ↔ P (12 * (y + n) + x)) := by
    intro n
    induction n with
    | zero => intro x y _ _; exact Iff.rfl
    | succ n ih =>
      intro x y hx hy
      rw [ih x y hx (by omega)]
      have e : gd_e (12 * (y + n) + x) (12 * (y + n) + x + 12) := gd_d (by omega)
      rw [show 12 * (y + (n + 1)) + x = 12 * (y + n) + x + 12 from by omega]
      exact ⟨h _ _ (by omega) e, h _ _ (by omega) (gd_sym (by omega) e)⟩
  have z : ∀ c, c < 144 → (P c ↔ P 0) := by
    intro c hc
    have a := row (c % 12) 0 (c / 12) (by omega) (by omega)
    have b := col (c / 12) 0 0 (by omega) (by omega)
    rw [show 12 * (c / 12) + (0 + c % 12) = c from by omega] at a
    rw [show 12 * (0 + c / 12) + 0 = 12 * (c / 12) + 0 from by omega] at b
    rw [← a, ← b]
  intro c hc
  rw [z c hc, ← z s hs]
  exact h0
/-- D: the shortest minutes from s, a step from c to o taking W c o -/
def gd_D (W : Nat → Nat → Nat) (s : Nat) (D : Nat → Nat) : Prop :=
  D s = 0 ∧ (∀ c o, c < 144 → gd_e c o → D o ≤ D c + W c o) ∧ (∀ o, o < 144 → o ≠ s → ∃ c, c < 144 ∧ gd_e c o ∧ D o = D c + W c o)
def gd_W (W : Nat → Nat → Nat) : Prop := ∀ c o, c < 144 → gd_e c o → 1 ≤ W c o ∧ W c o ≤ 99
theorem gd_D.le {W : Nat → Nat → Nat} {s : Nat} {D E : Nat → Nat} (hW : gd_W W) (h : gd_D W s D) (k : gd_D W s E) : ∀ n o, D o = n → o < 144 → E o ≤ D o := by
  intro n
  induction n using Nat.strongRecOn with
  | _ n ih =>
    intro o ho hl
    by_cases e : o = s
    · subst e
      have := k.1
      omega
    · obtain ⟨c, hc, he, hd⟩ := h.2.2 o hl e
      have w := hW c o hc he
      have := ih (D c) (by omega) c rfl hc
      have := k.2.1 c o hc he
      omega
theorem gd_D.eq {W : Nat → Nat → Nat} {s : Nat} {D E : Nat → Nat} (hW : gd_W W) (h : gd_D W s D) (k : gd_D W s E) {o : Nat} (ho : o < 144) : D o = E o := by
  have a := gd_D.le hW h k _ o rfl ho
  have b := gd_D.le hW k h _ o rfl ho
  omega
/-- the way back takes as long, all steps being turned -/
theorem gd_D.tri {W : Nat → Nat → Nat} {s t : Nat} {F R : Nat → Nat} (hW : gd_W W) (f : gd_D W s F) (r : gd_D (fun c o => W o c) t R) (_ht : t < 144) : ∀ n x, R x = n → x < 144 → F t ≤ F x + R x := by
  intro n
  induction n using Nat.strongRecOn with
  | _ n ih =>
    intro x hx hl
    by_cases e : x = t
    · subst e; omega
    · obtain ⟨c, hc, he, hd⟩ := r.2.2 x hl e
      have he' := gd_sym hc he
      have w := hW x c hl he'
      have h1 := ih (R c) (by (try dsimp only at hd); omega) c rfl hc
      have h2 := f.2.1 x c hl he'
      (try dsimp only at hd)
      omega
theorem gd_Wr {W : Nat → Nat → Nat} (hW : gd_W W) : gd_W (fun c o => W o c) := fun c o hc he => hW o c (gd_elt hc he) (gd_sym hc he)
theorem gd_D.turn {W : Nat → Nat → Nat} {s t : Nat} {F R : Nat → Nat} (hW : gd_W W) (f : gd_D W s F) (r : gd_D (fun c o => W o c) t R) (hs : s < 144) (ht : t < 144) : F t = R s := by
  have a := gd_D.tri hW f r ht _ s rfl hs
  have b := gd_D.tri (gd_Wr hW) r (show gd_D (fun c o => W c o) s F from f) hs _ t rfl ht
  have := f.1
  have := r.1
  omega
/-- no cell is far -/
theorem gd_D.lt {W : Nat → Nat → Nat} {s : Nat} {D : Nat → Nat} (hW : gd_W W) (h : gd_D W s D) (hs : s < 144) : ∀ c, c < 144 → D c ≤ 2178 := by
  have row : ∀ n x y, y < 12 → x + n < 12 → (D (12 * y + x) ≤ D (12 * y + (x + n)) + 99 * n ∧ D (12 * y + (x + n)) ≤ D (12 * y + x) + 99 * n) := by
    intro n
    induction n with
    | zero => intro x y _ _; exact ⟨Nat.le_refl _, Nat.le_refl _⟩
    | succ n ih =>
      intro x y hy hx
      have i := ih x y hy (by omega)
      have e : gd_e (12 * y + (x + n)) (12 * y + (x + n) + 1) := gd_r (by omega)
      have e' := gd_sym (by omega) e
      have a := h.2.1 _ _ (by omega) e
      have b := h.2.1 _ _ (by omega) e'
      have wa := hW _ _ (by omega) e
      have wb := hW _ _ (by omega) e'
      rw [show 12 * y + (x + (n + 1)) = 12 * y + (x + n) + 1 from by omega]
      omega
  have col : ∀ n x y, x < 12 → y + n < 12 → (D (12 * y + x) ≤ D (12 * (y + n) + x) + 99 * n ∧ D (12 * (y + n) + x) ≤ D (12 * y + x) + 99 * n) := by
    intro n
    induction n with
    | zero => intro x y _ _; exact ⟨Nat.le_refl _, Nat.le_refl _⟩
    | succ n ih =>
      intro x y hx hy
      have i := ih x y hx (by omega)
      have e : gd_e (12 * (y + n) + x) (12 * (y + n) + x + 12) := gd_d (by omega)
      have e' := gd_sym (by omega) e
      have a := h.2.1 _ _ (by omega) e
      have b := h.2.1 _ _ (by omega) e'
      have wa := hW _ _ (by omega) e
      have wb := hW _ _ (by omega) e'
      rw [show 12 * (y + (n + 1)) + x = 12 * (y + n) + x + 12 from by omega]
      omega
  have rw2 : ∀ x z y, y < 12 → x < 12 → z < 12 → D (12 * y + x) ≤ D (12 * y + z) + 99 * 11 := by
    intro x z y hy hx hz
    rcases Nat.lt_or_ge x z with q | q
    · have a := (row (z - x) x y hy (by omega)).1
      rw [show x + (z - x) = z from by omega] at a
      omega
    · have a := (row (x - z) z y hy (by omega)).2
      rw [show z + (x - z) = x from by omega] at a
      omega
  have cl2 : ∀ x y z, x < 12 → y < 12 → z < 12 → D (12 * y + x) ≤ D (12 * z + x) + 99 * 11 := by
    intro x y z hx hy hz
    rcases Nat.lt_or_ge y z with q | q
    · have a := (col (z - y) x y hx (by omega)).1
      rw [show y + (z - y) = z from by omega] at a
      omega
    · have a := (col (y - z) x z hx (by omega)).2
      rw [show z + (y - z) = y from by omega] at a
      omega
  intro c hc
  have a := rw2 (c % 12) (s % 12) (c / 12) (by omega) (by omega) (by omega)
  have b := cl2 (s % 12) (c / 12) (s / 12) (by omega) (by omega) (by omega)
  rw [show 12 * (c / 12) + c % 12 = c from by omega] at a
  rw [show 12 * (s / 12) + s % 12 = s from by omega] at b
  have := h.1
  omega
/-- how many of the first n -/
def gd_n (u : Nat → Bool) : Nat → Nat
  | 0 => 0
  | n + 1 => gd_n u n + (if u n then 1 else 0)
theorem gd_n_le (u : Nat → Bool) : ∀ n, gd_n u n ≤ n
  | 0 => Nat.le_refl 0
  | n + 1 => by
    have := gd_n_le u n
    unfold gd_n
    split <;> omega
theorem gd_n_all {u : Nat → Bool} : ∀ n, gd_n u n = n → ∀ c, c < n → u c = true
  | 0, _, c, hc => absurd hc (Nat.not_lt_zero c)
  | n + 1, h, c, hc => by
    have l := gd_n_le u n
    unfold gd_n at h
    cases hu : u n with
    | false => rw [hu, if_neg (by decide)] at h; omega
    | true =>
      rw [hu, if_pos rfl] at h
      rcases Nat.lt_or_ge c n with q | q
      · exact gd_n_all n (by omega) c q
      · have : c = n := by omega
        subst this
        exact hu
theorem gd_n_cg {u v : Nat → Bool} : ∀ n, (∀ c, c < n → u c = v c) → gd_n u n = gd_n v n
  | 0, _ => rfl
  | n + 1, h => by
    unfold gd_n
    rw [gd_n_cg n (fun c hc => h c (by omega)), h n (by omega)]
theorem gd_n_set {u : Nat → Bool} {c : Nat} (hu : u c = false) : ∀ n, c < n → gd_n (fun x => if x = c then true else u x) n = gd_n u n + 1
  | 0, h => absurd h (Nat.not_lt_zero c)
  | n + 1, h => by
    unfold gd_n
    rcases Nat.lt_or_ge c n with q | q
    · rw [gd_n_set hu n q, if_neg (show ¬ n = c by omega)]
      omega
    · have : c = n := by omega
      subst this
      rw [gd_n_cg c (u := fun x => if x = c then true else u x) (v := u) (fun x hx => if_neg (by omega)), if_pos (show c = c from rfl), hu, if_pos rfl, if_neg (by decide)]
theorem gd_n_false : ∀ n, gd_n (fun _ => false) n = 0
  | 0 => rfl
  | n + 1 => by
    unfold gd_n
    rw [gd_n_false n]
    rfl

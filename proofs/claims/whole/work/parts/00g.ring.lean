/-! THE CLASS'S SEARCH: a ring of lists -/
def sp_lk (I : Nat → Nat → Int32) (E : Nat) : Int32 → List Nat → Prop
  | x, [] => x = -nI 1
  | x, c :: l => ∃ e, e < E ∧ x = nI e ∧ I 38 e = nI c ∧ sp_lk I E (I 37 e) l
theorem sp_lk.mono {I I' : Nat → Nat → Int32} {E E' : Nat} (hE : E ≤ E') (h : ∀ e, e < E → I' 38 e = I 38 e ∧ I' 37 e = I 37 e) : ∀ (l : List Nat) (x : Int32), sp_lk I E x l → sp_lk I' E' x l
  | [], _, q => q
  | _ :: l, _, ⟨e, he, h1, h2, h3⟩ => ⟨e, by omega, h1, by rw [(h e he).1]; exact h2, by rw [(h e he).2]; exact sp_lk.mono hE h l _ h3⟩
def sp_sm (f : Nat → Nat) : Nat → Nat
  | 0 => 0
  | n + 1 => sp_sm f n + f n
theorem sp_sm_cg {f g : Nat → Nat} : ∀ n, (∀ j, j < n → f j = g j) → sp_sm f n = sp_sm g n
  | 0, _ => rfl
  | n + 1, h => by
    unfold sp_sm
    rw [sp_sm_cg n (fun j hj => h j (by omega)), h n (by omega)]
theorem sp_sm_up {f : Nat → Nat} {j v : Nat} : ∀ n, j < n → sp_sm (fun x => if x = j then v else f x) n + f j = sp_sm f n + v
  | 0, h => absurd h (Nat.not_lt_zero j)
  | n + 1, h => by
    unfold sp_sm
    (try dsimp only)
    rcases Nat.lt_or_ge j n with q | q
    · have := sp_sm_up (f := f) (v := v) n q
      rw [if_neg (show ¬ n = j by omega)]
      omega
    · have : j = n := by omega
      subst this
      rw [if_pos rfl, sp_sm_cg j (f := fun x => if x = j then v else f x) (g := f) (fun x hx => if_neg (by omega))]
      omega
theorem sp_sm_0 {f : Nat → Nat} : ∀ n, sp_sm f n = 0 → ∀ j, j < n → f j = 0
  | 0, _, j, hj => absurd hj (Nat.not_lt_zero j)
  | n + 1, h, j, hj => by
    unfold sp_sm at h
    rcases Nat.lt_or_ge j n with q | q
    · exact sp_sm_0 n (by omega) j q
    · have : j = n := by omega
      subst this
      omega
/-- the lengths of the lists, and how they change -/
def sp_w (Q : Nat → List Nat) : Nat := sp_sm (fun j => (Q j).length) 100
theorem sp_w_up {Q : Nat → List Nat} {j : Nat} {l : List Nat} (hj : j < 100) : sp_w (fun x => if x = j then l else Q x) + (Q j).length = sp_w Q + l.length := by
  have h := sp_sm_up (f := fun x => (Q x).length) (v := l.length) 100 hj
  have e : sp_w (fun x => if x = j then l else Q x) = sp_sm (fun x => if x = j then l.length else (Q x).length) 100 := by
    unfold sp_w
    apply sp_sm_cg
    intro x _
    (try dsimp only)
    by_cases e : x = j
    · rw [if_pos e, if_pos e]
    · rw [if_neg e, if_neg e]
  rw [e]
  exact h
/-- the ring in the cells: E entries, lists Q (but the one at sk), minutes m -/
def sp_J (I : Nat → Nat → Int32) (q E : Nat) (Q : Nat → List Nat) (m : Nat → Nat) (sk : Nat) : Prop :=
  I 32 7 = nI E ∧ E ≤ 577 ∧ I 32 8 = nI (sp_w Q) ∧ sp_w Q ≤ E ∧ (∀ j, j < 100 → j ≠ sk → sp_lk I E (I 36 j) (Q j)) ∧ (∀ c, c < 144 → I q c = nI (m c) ∧ m c ≤ 14256)
def sp_F (q : Nat) : Nat → Nat → Prop := fun r k => r = q ∨ r = 36 ∨ r = 37 ∨ r = 38 ∨ (r = 32 ∧ (k = 7 ∨ k = 8))
theorem sp_enter {I : Nat → Nat → Int32} {q E : Nat} {Q : Nat → List Nat} {m : Nat → Nat} {sk o v : Nat} (h : sp_J I q E Q m sk) (hE : E < 577) (hq : q = 33 ∨ q = 34) (hv : v < 20000) :
    ∃ I', rs_Fi_enter I (nI o) (nI v) = some I' ∧ sp_J I' q (E + 1) (fun j => if j = v % 100 then o :: Q j else Q j) m sk ∧ az_fr (sp_F q) I I' ∧ ∀ l x, sp_lk I E x l → sp_lk I' (E + 1) x l := by
  obtain ⟨h1, h2, h3, h4, h5, h6⟩ := h
  have e1 : nI v - nI v / 100 * 100 = nI (v % 100) := pk_rem (a := v) (d := 100) (by omega) (by omega) (by omega)
  have hj : v % 100 < 100 := by omega
  have hw := sp_w_up (Q := Q) (l := o :: Q (v % 100)) hj
  rw [List.length_cons] at hw
  have hQ : (fun j => if j = v % 100 then o :: Q j else Q j) = (fun j => if j = v % 100 then o :: Q (v % 100) else Q j) := by
    funext j
    by_cases e : j = v % 100
    · rw [if_pos e, if_pos e, e]
    · rw [if_neg e, if_neg e]
  have hw' : sp_w (fun j => if j = v % 100 then o :: Q (v % 100) else Q j) = sp_w Q + 1 := by omega
  refine ⟨az_u (az_u (az_u (az_u (az_u I 38 E (nI o)) 37 E (I 36 (v % 100))) 36 (v % 100) (nI E)) 32 7 (nI (E + 1))) 32 8 (nI (sp_w Q + 1)), ?_, ?_, ?_, ?_⟩
  · unfold rs_Fi_enter
    rw [h1, h3, e1]
    simp (disch := omega) only [bz_lit, nI_leI, nI_ltI, nI_eq, nI_clamp, nI_add, pk_sub, pk_mul, bz_nlt, bz_nle, bz_ltn, bz_len, bz_neq, bz_eqn, bz_nn, ↓reduceIte, Bool.false_eq_true, if_pos, if_neg]
  · have mono : ∀ l x, sp_lk I E x l → sp_lk (az_u (az_u (az_u (az_u (az_u I 38 E (nI o)) 37 E (I 36 (v % 100))) 36 (v % 100) (nI E)) 32 7 (nI (E + 1))) 32 8 (nI (sp_w Q + 1))) (E + 1) x l := by
      refine sp_lk.mono (by omega) (fun e he => ⟨?_, ?_⟩)
      · rw [az_un (by omega), az_un (by omega), az_un (by omega), az_un (by omega), az_un (by omega)]
      · rw [az_un (by omega), az_un (by omega), az_un (by omega), az_un (by omega), az_un (by omega)]
    refine ⟨?_, by omega, ?_, ?_, ?_, ?_⟩
    · rw [az_un (by omega), az_us]
    · rw [az_us, hQ, hw']
    · rw [hQ]
      omega
    · intro j hj' hs
      (try dsimp only)
      by_cases e : j = v % 100
      · rw [if_pos e]
        subst e
        rw [az_un (by omega), az_un (by omega), az_us]
        refine ⟨E, by omega, rfl, ?_, ?_⟩
        · rw [az_un (by omega), az_un (by omega), az_un (by omega), az_un (by omega), az_us]
        · have : az_u (az_u (az_u (az_u (az_u I 38 E (nI o)) 37 E (I 36 (v % 100))) 36 (v % 100) (nI E)) 32 7 (nI (E + 1))) 32 8 (nI (sp_w Q + 1)) 37 E = I 36 (v % 100) := by
            rw [az_un (by omega), az_un (by omega), az_un (by omega), az_us]
          rw [this]
          exact mono _ _ (h5 _ hj hs)
      · rw [if_neg e]
        have : az_u (az_u (az_u (az_u (az_u I 38 E (nI o)) 37 E (I 36 (v % 100))) 36 (v % 100) (nI E)) 32 7 (nI (E + 1))) 32 8 (nI (sp_w Q + 1)) 36 j = I 36 j := by
          rw [az_un (by omega), az_un (by omega), az_un (by omega), az_un (by omega), az_un (by omega)]
        rw [this]
        exact mono _ _ (h5 _ hj' hs)
    · intro c hc
      rw [az_un (by omega), az_un (by omega), az_un (by omega), az_un (by omega), az_un (by omega)]
      exact h6 c hc
  · exact ((((az_fr.refl.u (Or.inr (Or.inr (Or.inr (Or.inl rfl))))).u (Or.inr (Or.inr (Or.inl rfl)))).u (Or.inr (Or.inl rfl))).u (Or.inr (Or.inr (Or.inr (Or.inr ⟨rfl, Or.inl rfl⟩))))).u (Or.inr (Or.inr (Or.inr (Or.inr ⟨rfl, Or.inr rfl⟩))))
  · refine sp_lk.mono (by omega) (fun e he => ⟨?_, ?_⟩)
    · rw [az_un (by omega), az_un (by omega), az_un (by omega), az_un (by omega), az_un (by omega)]
    · rw [az_un (by omega), az_un (by omega), az_un (by omega), az_un (by omega), az_un (by omega)]
/-- the heights, the step minutes of the pace at p: what the class's search reads -/
def sp_in (I : Nat → Nat → Int32) (p : Nat) (h t : Nat → Nat) : Prop :=
  (∀ c, c < 144 → I 5 c = nI (h c) ∧ h c < 10) ∧ (∀ c o, c < 144 → gd_e c o → I (p + 1) (10 * h c + h o) = nI (t (10 * h c + h o)) ∧ 1 ≤ t (10 * h c + h o) ∧ t (10 * h c + h o) ≤ 99)
theorem sp_in.fr {I I' : Nat → Nat → Int32} {p q : Nat} {h t : Nat → Nat} (hin : sp_in I p h t) (hp : p = 26 ∨ p = 29) (hq : q = 33 ∨ q = 34) (f : az_fr (sp_F q) I I') : sp_in I' p h t :=
  ⟨fun c hc => by rw [f 5 c (by unfold sp_F; omega)]; exact hin.1 c hc, fun c o hc he => by rw [f (p + 1) _ (by unfold sp_F; omega)]; exact hin.2 c o hc he⟩
theorem sp_Wb {I : Nat → Nat → Int32} {p : Nat} {h t : Nat → Nat} (hin : sp_in I p h t) (fw : Bool) : gd_W (dk_W h t fw) := fun c o hc he => by
  unfold dk_W
  split
  · exact (hin.2 c o hc he).2
  · exact (hin.2 o c (gd_elt hc he) (gd_sym hc he)).2
/-- one cell's four ways -/
theorem sp_relax {I : Nat → Nat → Int32} {p q E k c : Nat} {Q : Nat → List Nat} {h t m : Nat → Nat} {fw : Bool} (hp : p = 26 ∨ p = 29) (hq : q = 33 ∨ q = 34) (hin : sp_in I p h t) (hJ : sp_J I q E Q m (k % 100)) (hE : E + 3 < 577) (hc : c < 144) (hk : m c = k) (hk2 : k < 14256)
    (h6 : ∀ i, i < 100 → ∀ x, x ∈ Q ((k + i) % 100) → x < 144 ∧ m x ≤ k + i) (h7 : ∀ j, j < 100 → (Q j).Nodup) :
    ∃ I', rs_Fi_relax p q I (nI c) (nI (if fw then 0 else 1)) = some I' ∧ az_fr (sp_F q) I I' ∧ ∃ E' Q' m', sp_J I' q E' Q' m' (k % 100) ∧ E' ≤ E + 4 ∧
      (∀ o, o < 144 → m' o = m o ∨ (m' o < m o ∧ gd_e c o ∧ m' o = m c + dk_W h t fw c o ∧ o ∈ Q' (m' o % 100))) ∧ (∀ o, gd_e c o → m' o ≤ m c + dk_W h t fw c o) ∧
      (∀ j, j < 100 → ∀ x, x ∈ Q j → x ∈ Q' j) ∧ (∀ i, i < 100 → ∀ x, x ∈ Q' ((k + i) % 100) → x < 144 ∧ m' x ≤ k + i) ∧ (∀ j, j < 100 → (Q' j).Nodup) ∧ Q' (k % 100) = Q (k % 100) ∧
      (∀ l x, sp_lk I E x l → sp_lk I' E' x l) := by
  unfold rs_Fi_relax rs_Fi_relax_3
  refine az_for0 (fun w (s : Int32 × (Nat → Nat → Int32)) => s.1 = nI w ∧ az_fr (sp_F q) I s.2 ∧ ∃ E' Q' m', sp_J s.2 q E' Q' m' (k % 100) ∧ E' ≤ E + w ∧
      (∀ o, o < 144 → m' o = m o ∨ (m' o < m o ∧ gd_e c o ∧ m' o = m c + dk_W h t fw c o ∧ o ∈ Q' (m' o % 100))) ∧ (∀ w', w' < w → ∀ o, gd_s c w' = some o → m' o ≤ m c + dk_W h t fw c o) ∧
      (∀ j, j < 100 → ∀ x, x ∈ Q j → x ∈ Q' j) ∧ (∀ i, i < 100 → ∀ x, x ∈ Q' ((k + i) % 100) → x < 144 ∧ m' x ≤ k + i) ∧ (∀ j, j < 100 → (Q' j).Nodup) ∧ Q' (k % 100) = Q (k % 100) ∧
      (∀ l x, sp_lk I E x l → sp_lk s.2 E' x l)) 4 (by omega)
    ⟨rfl, az_fr.refl, E, Q, m, hJ, by omega, fun o _ => Or.inl rfl, fun w hw => absurd hw (Nat.not_lt_zero w), fun j _ x hx => hx, h6, h7, rfl, fun l x hx => hx⟩ ?_ ?_
  · intro w s hw hi
    obtain ⟨v5, I1⟩ := s
    obtain ⟨e, hf, E1, Q1, m1, hJ1, hE1, hA, hB, hQ5, hQ6, hQ7, hQ8, hL⟩ := hi
    (try dsimp only at e hf hJ1 hL)
    subst e
    show ∃ o, rs_Fi_relax_3_b p q (nI c) (nI (if fw then 0 else 1)) (nI w) I1 = some o ∧ _
    unfold rs_Fi_relax_3_b
    rw [gd_X c hc w hw]
    (try dsimp only)
    have hmc1 : m1 c = m c := by
      rcases hA c hc with z | ⟨_, ⟨w, _, z⟩, _⟩
      · exact z
      · exact absurd rfl (gd_ne z)
    cases hs : gd_s c w with
    | none =>
      refine az_nxt (nI (w + 1), I1) (by simp (disch := omega) only [bz_lit, nI_leI, nI_ltI, nI_eq, nI_clamp, nI_add, pk_sub, pk_mul, bz_nlt, bz_nle, bz_ltn, bz_len, bz_neq, bz_eqn, bz_nn, ↓reduceIte, Bool.false_eq_true, if_pos, if_neg, gd_o]) ⟨rfl, hf, E1, Q1, m1, hJ1, by omega, hA, fun w' hw' o ho => ?_, hQ5, hQ6, hQ7, hQ8, hL⟩
      rcases Nat.lt_or_ge w' w with z | z
      · exact hB w' z o ho
      · have : w' = w := by omega
        subst this
        rw [hs] at ho
        cases ho
    | some o =>
      have ho := gd_lt hc hs
      have hco : gd_e c o := ⟨w, hw, hs⟩
      have hoc := gd_sym hc hco
      have hin1 := hin.fr hp hq hf
      obtain ⟨a1, a2⟩ := hin1.1 c hc
      obtain ⟨b1, b2⟩ := hin1.1 o ho
      obtain ⟨d1, d2⟩ := hJ1.2.2.2.2.2 c hc
      obtain ⟨e1, e2⟩ := hJ1.2.2.2.2.2 o ho
      obtain ⟨f1, f2, f3⟩ := hin1.2 c o hc hco
      obtain ⟨g1, g2, g3⟩ := hin1.2 o c ho hoc
      have w1 := sp_Wb hin fw c o hc hco
      have hBs : ∀ m2 : Nat → Nat, (∀ x, m2 x ≤ m1 x) → m2 o ≤ m c + dk_W h t fw c o → ∀ w', w' < w + 1 → ∀ o', gd_s c w' = some o' → m2 o' ≤ m c + dk_W h t fw c o' := by
        intro m2 hm2 hmo w' hw' o' ho'
        rcases Nat.lt_or_ge w' w with z | z
        · have := hB w' z o' ho'
          have := hm2 o'
          omega
        · have : w' = w := by omega
          subst this
          rw [hs] at ho'
          injection ho' with ho'
          subst ho'
          exact hmo
      by_cases hle : m1 o ≤ m1 c
      · refine az_nxt (nI (w + 1), I1) (by simp (disch := omega) only [bz_lit, nI_leI, nI_ltI, nI_eq, nI_clamp, nI_add, pk_sub, pk_mul, bz_nlt, bz_nle, bz_ltn, bz_len, bz_neq, bz_eqn, bz_nn, ↓reduceIte, Bool.false_eq_true, if_pos, if_neg, gd_o, d1, e1]) ⟨rfl, hf, E1, Q1, m1, hJ1, by omega, hA, hBs m1 (fun _ => Nat.le_refl _) (by omega), hQ5, hQ6, hQ7, hQ8, hL⟩
      · have key : ∃ s0, s0 = nI (dk_W h t fw c o) ∧ ∀ (Z : Option ((Int32 × (Nat → Nat → Int32)) ⊕ (Nat → Nat → Int32))), rs_Fi_relax_55 p q I1 (nI c) (nI (if fw then 0 else 1)) (nI w) (nI o) s0 = Z → rs_Fi_relax_3_b p q (nI c) (nI (if fw then 0 else 1)) (nI w) I1 = Z := by
          cases fw with
          | true =>
            refine ⟨I1 (p + 1) (10 * h c + h o), f1, fun Z hZ => ?_⟩
            unfold rs_Fi_relax_3_b
            rw [gd_X c hc w hw, hs]
            rw [← hZ]
            rw [Nat.mul_comm 10 (h c)]
            simp (disch := omega) only [bz_lit, nI_leI, nI_ltI, nI_eq, nI_clamp, nI_add, pk_sub, pk_mul, bz_nlt, bz_nle, bz_ltn, bz_len, bz_neq, bz_eqn, bz_nn, ↓reduceIte, Bool.false_eq_true, if_pos, if_neg, gd_o, d1, e1, a1, b1]
          | false =>
            refine ⟨I1 (p + 1) (10 * h o + h c), g1, fun Z hZ => ?_⟩
            unfold rs_Fi_relax_3_b
            rw [gd_X c hc w hw, hs]
            rw [← hZ]
            rw [Nat.mul_comm 10 (h o)]
            simp (disch := omega) only [bz_lit, nI_leI, nI_ltI, nI_eq, nI_clamp, nI_add, pk_sub, pk_mul, bz_nlt, bz_nle, bz_ltn, bz_len, bz_neq, bz_eqn, bz_nn, ↓reduceIte, Bool.false_eq_true, if_pos, if_neg, gd_o, d1, e1, a1, b1]
        obtain ⟨s0, rfl, key⟩ := key
        by_cases hl : m1 o ≤ m1 c + dk_W h t fw c o
        · have r := key (some (.inl (nI (w + 1), I1))) (by unfold rs_Fi_relax_55; simp (disch := omega) only [bz_lit, nI_leI, nI_ltI, nI_eq, nI_clamp, nI_add, pk_sub, pk_mul, bz_nlt, bz_nle, bz_ltn, bz_len, bz_neq, bz_eqn, bz_nn, ↓reduceIte, Bool.false_eq_true, if_pos, if_neg, d1, e1])
          unfold rs_Fi_relax_3_b at r
          rw [gd_X c hc w hw, hs] at r
          exact az_nxt (nI (w + 1), I1) r ⟨rfl, hf, E1, Q1, m1, hJ1, by omega, hA, hBs m1 (fun _ => Nat.le_refl _) (by omega), hQ5, hQ6, hQ7, hQ8, hL⟩
        · have hv : m1 c + dk_W h t fw c o < 20000 := by omega
          have hJ2 : sp_J (az_u I1 q o (nI (m1 c + dk_W h t fw c o))) q E1 Q1 (fun x => if x = o then m1 c + dk_W h t fw c o else m1 x) (k % 100) := by
            obtain ⟨j1, j2, j3, j4, j5, j6⟩ := hJ1
            refine ⟨by rw [az_un (by omega)]; exact j1, j2, by rw [az_un (by omega)]; exact j3, j4, fun j hj hjs => ?_, fun x hx => ?_⟩
            · rw [az_un (by omega)]
              exact sp_lk.mono (Nat.le_refl _) (fun e _ => ⟨az_un (by omega), az_un (by omega)⟩) _ _ (j5 j hj hjs)
            · (try dsimp only)
              by_cases z : x = o
              · subst z
                rw [if_pos rfl]
                exact ⟨az_us, by omega⟩
              · rw [if_neg z, az_un (by omega)]
                exact j6 x hx
          obtain ⟨I2, r2, hJ3, hf3, hL3⟩ := sp_enter (o := o) (v := m1 c + dk_W h t fw c o) hJ2 (by omega) hq hv
          have r := key (some (.inl (nI (w + 1), I2))) (by
            unfold rs_Fi_relax_55
            have u : az_u I1 q o (nI (m1 c + dk_W h t fw c o)) q o = nI (m1 c + dk_W h t fw c o) := az_us
            simp (disch := omega) only [bz_lit, nI_leI, nI_ltI, nI_eq, nI_clamp, nI_add, pk_sub, pk_mul, bz_nlt, bz_nle, bz_ltn, bz_len, bz_neq, bz_eqn, bz_nn, ↓reduceIte, Bool.false_eq_true, if_pos, if_neg, d1, e1, u, r2])
          unfold rs_Fi_relax_3_b at r
          rw [gd_X c hc w hw, hs] at r
          have hko : (m1 c + dk_W h t fw c o) % 100 ≠ k % 100 := by omega
          have hoQ : o ∉ Q1 ((m1 c + dk_W h t fw c o) % 100) := by
            intro hmem
            have := (hQ6 (dk_W h t fw c o) (by omega) o (by rw [show k + dk_W h t fw c o = m1 c + dk_W h t fw c o from by omega]; exact hmem)).2
            omega
          refine az_nxt (nI (w + 1), I2) r ⟨rfl, (hf.u (Or.inl rfl)).trans hf3, E1 + 1, _, _, hJ3, by omega, ?_, hBs _ ?_ ?_, ?_, ?_, ?_, ?_, ?_⟩
          · intro x hx
            (try dsimp only)
            by_cases z : x = o
            · subst z
              refine Or.inr ?_
              rw [if_pos rfl, if_pos rfl]
              refine ⟨?_, hco, by omega, List.mem_cons_self⟩
              rcases hA x hx with y | y <;> omega
            · rw [if_neg z]
              rcases hA x hx with y | ⟨y1, y2, y3, y4⟩
              · exact Or.inl y
              · refine Or.inr ⟨y1, y2, y3, ?_⟩
                by_cases u : m1 x % 100 = (m1 c + dk_W h t fw c o) % 100
                · rw [if_pos u]
                  exact List.mem_cons_of_mem _ y4
                · rw [if_neg u]
                  exact y4
          · intro x
            (try dsimp only)
            by_cases z : x = o
            · subst z
              rw [if_pos rfl]
              omega
            · rw [if_neg z]
              exact Nat.le_refl _
          · (try dsimp only)
            rw [if_pos rfl]
            omega
          · intro j hj x hx
            (try dsimp only)
            by_cases u : j = (m1 c + dk_W h t fw c o) % 100
            · rw [if_pos u]
              exact List.mem_cons_of_mem _ (hQ5 j hj x hx)
            · rw [if_neg u]
              exact hQ5 j hj x hx
          · intro i hi x hx
            (try dsimp only at hx ⊢)
            by_cases u : (k + i) % 100 = (m1 c + dk_W h t fw c o) % 100
            · rw [if_pos u] at hx
              rcases List.mem_cons.mp hx with z | z
              · subst z
                rw [if_pos rfl]
                exact ⟨ho, by omega⟩
              · obtain ⟨y1, y2⟩ := hQ6 i hi x z
                refine ⟨y1, ?_⟩
                by_cases z2 : x = o
                · subst z2; rw [if_pos rfl]; omega
                · rw [if_neg z2]; exact y2
            · rw [if_neg u] at hx
              obtain ⟨y1, y2⟩ := hQ6 i hi x hx
              refine ⟨y1, ?_⟩
              by_cases z2 : x = o
              · subst z2; rw [if_pos rfl]; omega
              · rw [if_neg z2]; exact y2
          · intro j hj
            (try dsimp only)
            by_cases u : j = (m1 c + dk_W h t fw c o) % 100
            · rw [if_pos u]
              subst u
              exact List.nodup_cons.mpr ⟨hoQ, hQ7 _ hj⟩
            · rw [if_neg u]
              exact hQ7 j hj
          · (try dsimp only)
            rw [if_neg (fun z => hko z.symm)]
            exact hQ8
          · intro l x hx
            refine hL3 l x ?_
            exact sp_lk.mono (Nat.le_refl _) (fun e _ => ⟨az_un (by omega), az_un (by omega)⟩) _ _ (hL l x hx)
  · intro s hi
    obtain ⟨v5, I1⟩ := s
    obtain ⟨e, hf, E1, Q1, m1, hJ1, hE1, hA, hB, hQ5, hQ6, hQ7, hQ8, hL⟩ := hi
    (try dsimp only at e hf hJ1 hL)
    subst e
    refine ⟨I1, ?_, hf, E1, Q1, m1, hJ1, hE1, hA, fun o ⟨w, hw, ho⟩ => hB w hw o ho, hQ5, hQ6, hQ7, hQ8, hL⟩
    show rs_Fi_relax_3_b p q (nI c) (nI (if fw then 0 else 1)) (nI 4) I1 = _
    unfold rs_Fi_relax_3_b
    rw [if_pos (by decide)]

/-! THE CLASS'S SEARCH, WHOLE -/
def sp_K (W : Nat → Nat → Nat) (s k : Nat) (Q : Nat → List Nat) (m : Nat → Nat) (st : Nat → Bool) : Prop :=
  m s = 0 ∧
  (∀ c, c < 144 → st c = true → m c ≤ k ∧ m c + 99 ≤ 99 * gd_n st 144 ∧ ∀ o, gd_e c o → m o ≤ m c + W c o) ∧
  (∀ o, o < 144 → o ≠ s → m o < 14256 → ∃ c, c < 144 ∧ st c = true ∧ gd_e c o ∧ m o = m c + W c o) ∧
  (∀ c, c < 144 → st c = false → k ≤ m c ∧ (m c < 14256 → m c ≤ k + 99 ∧ m c ≤ 99 * gd_n st 144 ∧ c ∈ Q (m c % 100))) ∧
  (∀ i, i < 100 → ∀ c, c ∈ Q ((k + i) % 100) → c < 144 ∧ m c ≤ k + i) ∧
  (∀ j, j < 100 → (Q j).Nodup) ∧
  (∀ c, c ∈ Q (k % 100) → st c = true → m c < k)
/-- when nothing waits, all is found -/
theorem sp_all {W : Nat → Nat → Nat} {s k : Nat} {Q : Nat → List Nat} {m : Nat → Nat} {st : Nat → Bool} (hW : gd_W W) (hs : s < 144) (h : sp_K W s k Q m st) (hu : ∀ c, c < 144 → st c = false → 14256 ≤ m c) : gd_D W s m := by
  obtain ⟨h1, h2, h3, h4, h5, h6, h7⟩ := h
  have all : ∀ c, c < 144 → st c = true := by
    refine gd_all hs ?_ ?_
    · cases e : st s with
      | true => rfl
      | false => have := hu s hs e; omega
    · intro c o hc hco hst
      cases e : st o with
      | true => rfl
      | false =>
        have ho := gd_elt hc hco
        obtain ⟨a, b, d⟩ := h2 c hc hst
        have := d o hco
        have w := hW c o hc hco
        have := hu o ho e
        have n1 := gd_n_set e 144 ho
        have n2 := gd_n_le (fun x => if x = o then true else st x) 144
        omega
  refine ⟨h1, fun c o hc hco => (h2 c hc (all c hc)).2.2 o hco, fun o ho hne => ?_⟩
  obtain ⟨a, b, d⟩ := h2 o ho (all o ho)
  have n2 := gd_n_le st 144
  obtain ⟨c, a, _, b, d⟩ := h3 o ho hne (by omega)
  exact ⟨c, a, b, d⟩
/-- what comes out of the ring is right -/
theorem sp_goal {W : Nat → Nat → Nat} {s k g : Nat} {Q : Nat → List Nat} {m : Nat → Nat} {st : Nat → Bool} (hW : gd_W W) (hs : s < 144) (h : sp_K W s k Q m st) (hg : g < 144) (hm : m g = k) (hk : k < 14256) {D : Nat → Nat} (hD : gd_D W s D) : D g = m g := by
  obtain ⟨h1, h2, h3, h4, h5, h6, h7⟩ := h
  have le : ∀ n o, m o = n → o < 144 → m o < 14256 → D o ≤ m o := by
    intro n
    induction n using Nat.strongRecOn with
    | _ n ih =>
      intro o ho hl hlt
      by_cases e : o = s
      · subst e
        have := hD.1
        omega
      · obtain ⟨c, hc, hst, hco, hmo⟩ := h3 o hl e hlt
        have w := hW c o hc hco
        have := ih (m c) (by omega) c rfl hc (by omega)
        have := hD.2.1 c o hc hco
        omega
  have ge : ∀ n o, D o = n → o < 144 → D o < k → st o = true ∧ m o ≤ D o := by
    intro n
    induction n using Nat.strongRecOn with
    | _ n ih =>
      intro o ho hl hlt
      have key : m o ≤ D o → st o = true ∧ m o ≤ D o := by
        intro hmo
        refine ⟨?_, hmo⟩
        cases e : st o with
        | true => rfl
        | false =>
          have := (h4 o hl e).1
          omega
      by_cases e : o = s
      · subst e
        exact key (by omega)
      · obtain ⟨c, hc, hco, hd⟩ := hD.2.2 o hl e
        have w := hW c o hc hco
        obtain ⟨a, b⟩ := ih (D c) (by omega) c rfl hc (by omega)
        have := (h2 c hc a).2.2 o hco
        exact key (by omega)
  have a := le _ g rfl hg (by omega)
  rcases Nat.lt_or_ge (D g) k with q | q
  · have := (ge _ g rfl hg q).2
    omega
  · omega
def sp_out (W : Nat → Nat → Nat) (q s : Nat) (goal : Int32) (I' : Nat → Nat → Int32) : Prop :=
  (∃ D, gd_D W s D ∧ ∀ c, c < 144 → I' q c = nI (D c)) ∨ (∃ g, g < 144 ∧ goal = nI g ∧ ∀ D, gd_D W s D → I' q g = nI (D g))
/-- one minute's list -/
theorem sp_slot {I : Nat → Nat → Int32} {p q E k s : Nat} {Q : Nat → List Nat} {h t m : Nat → Nat} {st : Nat → Bool} {fw : Bool} {goal v : Int32} (hp : p = 26 ∨ p = 29) (hq : q = 33 ∨ q = 34) (hin : sp_in I p h t) (hs : s < 144) (hk : k < 14256)
    (hJ : sp_J I q E Q m (k % 100)) (hE : E ≤ 1 + 4 * gd_n st 144) (hK : sp_K (dk_W h t fw) s k Q m st) (hL : sp_lk I E v (Q (k % 100))) :
    ∃ y, rs_Fi_spread_74 p q I (nI (if fw then 0 else 1)) goal (nI k) (nI (k % 100)) v (nI 0) = some y ∧
      ((∃ I', y = .inl (nI (k + 1), I') ∧ az_fr (sp_F q) I I' ∧ ∃ E' Q' m' st', sp_J I' q E' Q' m' 100 ∧ E' ≤ 1 + 4 * gd_n st' 144 ∧ sp_K (dk_W h t fw) s (k + 1) Q' m' st') ∨
       (∃ I', y = .inr I' ∧ az_fr (sp_F q) I I' ∧ sp_out (dk_W h t fw) q s goal I')) := by
  have hW := sp_Wb hin fw
  have hwle : (Q (k % 100)).length ≤ sp_w Q := by
    have a := sp_w_up (Q := Q) (j := k % 100) (l := []) (by omega)
    rw [List.length_nil] at a
    omega
  have hE577 : E ≤ 577 := hJ.2.1
  have hwE := hJ.2.2.2.1
  unfold rs_Fi_spread_74
  refine az_for0 (fun i (z : Int32 × Int32 × (Nat → Nat → Int32)) => z.2.1 = nI i ∧ az_fr (sp_F q) I z.2.2 ∧ ∃ E' Q' m' st', (Q' (k % 100)).length + i = (Q (k % 100)).length ∧ sp_J z.2.2 q E' Q' m' (k % 100) ∧ E' ≤ 1 + 4 * gd_n st' 144 ∧ sp_K (dk_W h t fw) s k Q' m' st' ∧ sp_lk z.2.2 E' z.1 (Q' (k % 100)))
    (Q (k % 100)).length (by omega) ⟨rfl, az_fr.refl, E, Q, m, st, rfl, hJ, hE, hK, hL⟩ ?_ ?_
  · intro i z hi hinv
    obtain ⟨v8, v9, I1⟩ := z
    obtain ⟨h9, hf, E1, Q1, m1, st1, hlen, hJ1, hE1, hK1, hL1⟩ := hinv
    (try dsimp only at h9 hf hJ1 hL1)
    subst h9
    show ∃ o, rs_Fi_spread_74_b p q (nI (if fw then 0 else 1)) goal (nI k) (nI (k % 100)) v8 (nI i) I1 = some o ∧ _
    cases hrem : Q1 (k % 100) with
    | nil =>
      rw [hrem, List.length_nil] at hlen
      omega
    | cons c rest =>
      rw [hrem] at hL1
      obtain ⟨e, he, rfl, hce, hLr⟩ := hL1
      obtain ⟨j1, j2, j3, j4, j5, j6⟩ := hJ1
      obtain ⟨k1, k2, k3, k4, k5, k6, k7⟩ := hK1
      obtain ⟨hc, hmc⟩ := k5 0 (by omega) c (by rw [Nat.add_zero, hrem]; exact List.mem_cons_self)
      rw [Nat.add_zero] at hmc
      have hnd := k6 (k % 100) (by omega)
      rw [hrem] at hnd
      obtain ⟨hcr, hndr⟩ := List.nodup_cons.mp hnd
      have hw := sp_w_up (Q := Q1) (j := k % 100) (l := rest) (by omega)
      rw [hrem, List.length_cons] at hw
      -- the list without its first
      have hJ2 : sp_J (az_u I1 32 8 (nI (sp_w Q1 - 1))) q E1 (fun j => if j = k % 100 then rest else Q1 j) m1 (k % 100) := by
        refine ⟨by rw [az_un (by omega)]; exact j1, j2, ?_, by omega, fun j hj hjs => ?_, fun x hx => ?_⟩
        · rw [az_us, show sp_w Q1 - 1 = sp_w (fun j => if j = k % 100 then rest else Q1 j) from by omega]
        · (try dsimp only)
          rw [if_neg hjs, az_un (by omega)]
          exact sp_lk.mono (Nat.le_refl _) (fun e _ => ⟨az_un (by omega), az_un (by omega)⟩) _ _ (j5 j hj hjs)
        · rw [az_un (by omega)]
          exact j6 x hx
      have hL2 : sp_lk (az_u I1 32 8 (nI (sp_w Q1 - 1))) E1 (I1 37 e) rest := sp_lk.mono (Nat.le_refl _) (fun e _ => ⟨az_un (by omega), az_un (by omega)⟩) _ _ hLr
      have hin1 := hin.fr hp hq hf
      obtain ⟨f1, f2⟩ := j6 c hc
      -- the cells that wait, without the first
      have q5 : ∀ i, i < 100 → ∀ x, x ∈ (fun j => if j = k % 100 then rest else Q1 j) ((k + i) % 100) → x < 144 ∧ m1 x ≤ k + i := by
        intro i hi x hx
        (try dsimp only at hx)
        by_cases u : (k + i) % 100 = k % 100
        · rw [if_pos u] at hx
          exact k5 i hi x (by rw [u, hrem]; exact List.mem_cons_of_mem _ hx)
        · rw [if_neg u] at hx
          exact k5 i hi x hx
      have q6 : ∀ j, j < 100 → ((fun j => if j = k % 100 then rest else Q1 j) j).Nodup := by
        intro j hj
        (try dsimp only)
        by_cases u : j = k % 100
        · rw [if_pos u]; exact hndr
        · rw [if_neg u]; exact k6 j hj
      have q4 : ∀ x, x < 144 → st1 x = false → m1 x < 14256 → x ≠ c ∨ m1 c ≠ k → x ∈ (fun j => if j = k % 100 then rest else Q1 j) (m1 x % 100) := by
        intro x hx hsx hlt hne
        obtain ⟨a1, a2⟩ := k4 x hx hsx
        obtain ⟨a3, a4, a5⟩ := a2 hlt
        (try dsimp only)
        by_cases u : m1 x % 100 = k % 100
        · rw [if_pos u]
          rw [u, hrem] at a5
          rcases List.mem_cons.mp a5 with z | z
          · subst z
            rcases hne with y | y
            · exact absurd rfl y
            · omega
          · exact z
        · rw [if_neg u]
          exact a5
      by_cases hmk : m1 c = k
      · by_cases hgo : goal = nI c
        · -- the goal
          refine az_out (.inr (az_u I1 32 8 (nI (sp_w Q1 - 1)))) ?_ (Or.inr ⟨_, rfl, hf.u (Or.inr (Or.inr (Or.inr (Or.inr ⟨rfl, Or.inr rfl⟩)))), Or.inr ⟨c, hc, hgo, fun D hD => ?_⟩⟩)
          · unfold rs_Fi_spread_74_b
            rw [hgo]
            simp (disch := omega) only [bz_lit, nI_leI, nI_ltI, nI_eq, nI_clamp, nI_add, pk_sub, pk_mul, bz_nlt, bz_nle, bz_ltn, bz_len, bz_neq, bz_eqn, bz_nn, ↓reduceIte, Bool.false_eq_true, if_pos, if_neg, hce, f1, hmk, j3]
          · rw [az_un (by omega), f1, sp_goal hW hs ⟨k1, k2, k3, k4, k5, k6, k7⟩ hc hmk hk hD]
        · have hstc : st1 c = false := by
            cases u : st1 c with
            | false => rfl
            | true =>
              have := k7 c (by rw [hrem]; exact List.mem_cons_self) u
              omega
          have n1 := gd_n_set hstc 144 hc
          have n2 := gd_n_le (fun x => if x = c then true else st1 x) 144
          obtain ⟨I3, r3, hf3, E3, Q3, m3, hJ3, hE3, hA, hB, hQ5, hQ6, hQ7, hQ8, hL3⟩ := sp_relax (fw := fw) hp hq (hin1.fr hp hq (az_fr.refl.u (Or.inr (Or.inr (Or.inr (Or.inr ⟨rfl, Or.inr rfl⟩)))))) hJ2 (by omega) hc hmk hk q5 q6
          have hL4 := hL3 _ _ hL2
          have hmc3 : m3 c = m1 c := by
            rcases hA c hc with z | ⟨_, ⟨w, _, z⟩, _⟩
            · exact z
            · exact absurd rfl (gd_ne z)
          have hset : ∀ o, o < 144 → st1 o = true → m3 o = m1 o := by
            intro o ho hso
            rcases hA o ho with z | ⟨z1, z2, z3, _⟩
            · exact z
            · have := (k2 o ho hso).1
              omega
          have hle : ∀ o, o < 144 → m3 o ≤ m1 o := by
            intro o ho
            rcases hA o ho with z | ⟨z1, z2, z3, _⟩ <;> omega
          have hrest : Q3 (k % 100) = rest := by rw [hQ8, if_pos rfl]
          refine az_nxt (I1 37 e, nI (i + 1), I3) ?_ ⟨rfl, (hf.u (Or.inr (Or.inr (Or.inr (Or.inr ⟨rfl, Or.inr rfl⟩))))).trans hf3, E3, Q3, m3, (fun x => if x = c then true else st1 x), ?_, hJ3, by omega, ⟨?_, ?_, ?_, ?_, hQ6, hQ7, ?_⟩, ?_⟩
          · unfold rs_Fi_spread_74_b
            have : ¬ nI c = goal := fun u => hgo u.symm
            simp (disch := omega) only [bz_lit, nI_leI, nI_ltI, nI_eq, nI_clamp, nI_add, pk_sub, pk_mul, bz_nlt, bz_nle, bz_ltn, bz_len, bz_neq, bz_eqn, bz_nn, ↓reduceIte, Bool.false_eq_true, if_pos, if_neg, hce, f1, hmk, j3, r3, this]
          · rw [hrest]
            rw [hrem, List.length_cons] at hlen
            omega
          · have := hle s hs
            omega
          · intro x hx hsx
            (try dsimp only at hsx)
            rw [n1]
            by_cases u : x = c
            · subst u
              have a4 := ((k4 x hx hstc).2 (by omega)).2.1
              exact ⟨by omega, by omega, fun o ho => by rw [hmc3]; exact hB o ho⟩
            · rw [if_neg u] at hsx
              obtain ⟨a1, a2, a3⟩ := k2 x hx hsx
              rw [hset x hx hsx]
              refine ⟨a1, by omega, fun o ho => ?_⟩
              have := a3 o ho
              have := hle o (gd_elt hx ho)
              omega
          · intro o ho hne hlt
            rcases hA o ho with z | ⟨z1, z2, z3, _⟩
            · rw [z] at hlt
              obtain ⟨d, hd, hd1, hd2, hd3⟩ := k3 o ho hne hlt
              have hdc : d ≠ c := by
                intro u
                rw [u, hstc] at hd1
                cases hd1
              exact ⟨d, hd, by (try dsimp only); rw [if_neg hdc]; exact hd1, hd2, by rw [z, hset d hd hd1]; exact hd3⟩
            · exact ⟨c, hc, if_pos rfl, z2, by rw [hmc3]; exact z3⟩
          · intro x hx hsx
            (try dsimp only at hsx)
            by_cases u : x = c
            · rw [if_pos u] at hsx; cases hsx
            · rw [if_neg u] at hsx
              obtain ⟨a1, a2⟩ := k4 x hx hsx
              rw [n1]
              rcases hA x hx with z | ⟨z1, z2, z3, z4⟩
              · rw [z]
                refine ⟨a1, fun hlt => ?_⟩
                obtain ⟨b1, b2, b3⟩ := a2 hlt
                exact ⟨b1, by omega, hQ5 _ (by omega) x (q4 x hx hsx hlt (Or.inl u))⟩
              · have w := hW c x hc z2
                have a4 := ((k4 c hc hstc).2 (by omega)).2.1
                exact ⟨by omega, fun _ => ⟨by omega, by omega, z4⟩⟩
          · intro x hx hsx
            (try dsimp only at hsx)
            rw [hrest] at hx
            have hxc : x ≠ c := fun u => hcr (u ▸ hx)
            rw [if_neg hxc] at hsx
            have a := k7 x (by rw [hrem]; exact List.mem_cons_of_mem _ hx) hsx
            have hx144 := (k5 0 (by omega) x (by rw [Nat.add_zero, hrem]; exact List.mem_cons_of_mem _ hx)).1
            rw [hset x hx144 hsx]
            exact a
          · (try dsimp only)
            rw [hrest]
            exact hL4
      · -- one that came nearer since
        refine az_nxt (I1 37 e, nI (i + 1), az_u I1 32 8 (nI (sp_w Q1 - 1))) ?_ ⟨rfl, hf.u (Or.inr (Or.inr (Or.inr (Or.inr ⟨rfl, Or.inr rfl⟩)))), E1, _, m1, st1, ?_, hJ2, hE1, ⟨k1, k2, k3, ?_, q5, q6, ?_⟩, ?_⟩
        · unfold rs_Fi_spread_74_b
          simp (disch := omega) only [bz_lit, nI_leI, nI_ltI, nI_eq, nI_clamp, nI_add, pk_sub, pk_mul, bz_nlt, bz_nle, bz_ltn, bz_len, bz_neq, bz_eqn, bz_nn, ↓reduceIte, Bool.false_eq_true, if_pos, if_neg, hce, f1, hmk, j3]
        · rw [hrem, List.length_cons] at hlen
          (try dsimp only)
          rw [if_pos rfl]
          omega
        · intro x hx hsx
          obtain ⟨a1, a2⟩ := k4 x hx hsx
          refine ⟨a1, fun hlt => ?_⟩
          obtain ⟨b1, b2, b3⟩ := a2 hlt
          exact ⟨b1, b2, q4 x hx hsx hlt (Or.inr hmk)⟩
        · intro x hx hsx
          (try dsimp only at hx)
          rw [if_pos rfl] at hx
          exact k7 x (by rw [hrem]; exact List.mem_cons_of_mem _ hx) hsx
        · (try dsimp only)
          rw [if_pos rfl]
          exact hL2
  · intro z hinv
    obtain ⟨v8, v9, I1⟩ := z
    obtain ⟨h9, hf, E1, Q1, m1, st1, hlen, hJ1, hE1, hK1, hL1⟩ := hinv
    (try dsimp only at h9 hf hJ1 hL1)
    subst h9
    have hnil : Q1 (k % 100) = [] := List.eq_nil_of_length_eq_zero (by omega)
    rw [hnil] at hL1
    have hv : v8 = -nI 1 := hL1
    subst hv
    obtain ⟨j1, j2, j3, j4, j5, j6⟩ := hJ1
    obtain ⟨k1, k2, k3, k4, k5, k6, k7⟩ := hK1
    refine ⟨.inl (nI (k + 1), az_u I1 36 (k % 100) (-nI 1)), ?_, Or.inl ⟨_, rfl, hf.u (Or.inr (Or.inl rfl)), E1, Q1, m1, st1, ⟨by rw [az_un (by omega)]; exact j1, j2, by rw [az_un (by omega)]; exact j3, j4, ?_, ?_⟩, hE1, k1, ?_, k3, ?_, ?_, k6, ?_⟩⟩
    · show rs_Fi_spread_74_b p q (nI (if fw then 0 else 1)) goal (nI k) (nI (k % 100)) (-nI 1) (nI (Q (k % 100)).length) I1 = _
      unfold rs_Fi_spread_74_b rs_Fi_spread_149
      by_cases h577 : 577 ≤ (Q (k % 100)).length
      · simp (disch := omega) only [bz_lit, nI_leI, nI_ltI, nI_eq, nI_clamp, nI_add, pk_sub, pk_mul, bz_nlt, bz_nle, bz_ltn, bz_len, bz_neq, bz_eqn, bz_nn, ↓reduceIte, Bool.false_eq_true, if_pos, if_neg, Option.map_some, h577]
      · simp (disch := omega) only [bz_lit, nI_leI, nI_ltI, nI_eq, nI_clamp, nI_add, pk_sub, pk_mul, bz_nlt, bz_nle, bz_ltn, bz_len, bz_neq, bz_eqn, bz_nn, ↓reduceIte, Bool.false_eq_true, if_pos, if_neg, Option.map_some, h577]
    · intro j hj _
      by_cases u : j = k % 100
      · subst u
        rw [az_us, hnil]
        rfl
      · rw [az_un (by omega)]
        exact sp_lk.mono (Nat.le_refl _) (fun e _ => ⟨az_un (by omega), az_un (by omega)⟩) _ _ (j5 j hj u)
    · intro x hx
      rw [az_un (by omega)]
      exact j6 x hx
    · intro c hc hsc
      obtain ⟨a1, a2, a3⟩ := k2 c hc hsc
      exact ⟨by omega, a2, a3⟩
    · intro c hc hsc
      obtain ⟨a1, a2⟩ := k4 c hc hsc
      refine ⟨?_, fun hlt => ?_⟩
      · rcases Nat.lt_or_ge k (m1 c) with z | z
        · omega
        · have hmk : m1 c = k := by omega
          have := (a2 (by omega)).2.2
          rw [hmk, hnil] at this
          cases this
      · obtain ⟨b1, b2, b3⟩ := a2 hlt
        exact ⟨by omega, b2, b3⟩
    · intro i hi c hci
      by_cases u : i = 99
      · subst u
        rw [show (k + 1 + 99) % 100 = k % 100 from by omega, hnil] at hci
        cases hci
      · have := k5 (i + 1) (by omega) c (by rw [show k + (i + 1) = k + 1 + i from by omega]; exact hci)
        exact ⟨this.1, by omega⟩
    · intro c hci hsc
      have hc := (k5 1 (by omega) c hci).1
      have := (k2 c hc hsc).1
      omega
/-- MINUTES FROM A CELL TO EACH (OR, TURNED, FROM EACH TO IT) -/
theorem sp_spread {I : Nat → Nat → Int32} {p q s : Nat} {h t : Nat → Nat} (fw : Bool) {goal : Int32} (hp : p = 26 ∨ p = 29) (hq : q = 33 ∨ q = 34) (hin : sp_in I p h t) (hs : s < 144) :
    ∃ I', rs_Fi_spread p q I (nI s) (nI (if fw then 0 else 1)) goal = some I' ∧ az_fr (sp_F q) I I' ∧ sp_out (dk_W h t fw) q s goal I' := by
  have hW := sp_Wb hin fw
  unfold rs_Fi_spread
  rw [if_neg (nI_in hs (by decide)), nI_clamp (by omega)]
  have g36 : az_ur (az_ur I q (az_fill 144 (14256 : Int32) (I q))) 36 (az_fill 100 (-1 : Int32) ((az_ur I q (az_fill 144 (14256 : Int32) (I q))) 36)) 36 = az_fill 100 (-1 : Int32) (I 36) := by
    rw [az_ure rfl, az_urn (by omega)]
  have hJ0 : sp_J (az_u (az_u (az_u (az_ur (az_ur I q (az_fill 144 (14256 : Int32) (I q))) 36 (az_fill 100 (-1 : Int32) ((az_ur I q (az_fill 144 (14256 : Int32) (I q))) 36))) 32 7 (0 : Int32)) 32 8 (0 : Int32)) q s (0 : Int32)) q 0 (fun _ => []) (fun c => if c = s then 0 else 14256) 100 := by
    refine ⟨?_, by omega, ?_, by exact Nat.le_refl 0, fun j hj _ => ?_, fun c hc => ?_⟩
    · rw [az_un (by omega), az_un (by omega), az_us]; rfl
    · rw [az_un (by omega), az_us]; rfl
    · rw [az_un (by omega), az_un (by omega), az_un (by omega)]
      show az_ur (az_ur I q (az_fill 144 (14256 : Int32) (I q))) 36 (az_fill 100 (-1 : Int32) ((az_ur I q (az_fill 144 (14256 : Int32) (I q))) 36)) 36 j = _
      rw [g36]
      exact if_pos hj
    · (try dsimp only)
      by_cases u : c = s
      · subst u
        rw [if_pos rfl, az_us]
        exact ⟨rfl, by omega⟩
      · rw [if_neg u, az_un (by omega), az_un (by omega), az_un (by omega)]
        refine ⟨?_, Nat.le_refl _⟩
        show az_ur (az_ur I q (az_fill 144 (14256 : Int32) (I q))) 36 _ q c = _
        rw [az_urn (by omega), az_ure rfl]
        exact if_pos hc
  have hf0 : az_fr (sp_F q) I (az_u (az_u (az_u (az_ur (az_ur I q (az_fill 144 (14256 : Int32) (I q))) 36 (az_fill 100 (-1 : Int32) ((az_ur I q (az_fill 144 (14256 : Int32) (I q))) 36))) 32 7 (0 : Int32)) 32 8 (0 : Int32)) q s (0 : Int32)) :=
    ((((az_fr.refl.ur (fun _ => Or.inl (Or.inl rfl))).ur (fun _ => Or.inl (Or.inr (Or.inl rfl)))).u (Or.inr (Or.inr (Or.inr (Or.inr ⟨rfl, Or.inl rfl⟩))))).u (Or.inr (Or.inr (Or.inr (Or.inr ⟨rfl, Or.inr rfl⟩))))).u (Or.inl rfl)
  obtain ⟨I1, r1, hJ1, hf1, _⟩ := sp_enter (o := s) (v := 0) hJ0 (by omega) hq (by omega)
  rw [show (0 : Int32) = nI 0 from rfl] at r1 ⊢
  rw [r1]
  (try dsimp only)
  have hf01 := hf0.trans hf1
  unfold rs_Fi_spread_40
  refine az_for0 (fun k (z : Int32 × (Nat → Nat → Int32)) => z.1 = nI k ∧ az_fr (sp_F q) I z.2 ∧ ∃ E Q m st, sp_J z.2 q E Q m 100 ∧ E ≤ 1 + 4 * gd_n st 144 ∧ sp_K (dk_W h t fw) s k Q m st) 14256 (by omega)
    ⟨rfl, hf01, 0 + 1, _, _, fun _ => false, hJ1, by omega, if_pos rfl, fun c _ u => (by cases u), fun o ho hne hlt => ?_, fun c hc _ => ⟨Nat.zero_le _, fun hlt => ?_⟩, fun i hi c hci => ?_, fun j hj => ?_, fun c _ u => (by cases u)⟩ ?_ ?_
  · (try dsimp only at hlt)
    rw [if_neg hne] at hlt
    omega
  · (try dsimp only at hlt ⊢)
    by_cases u : c = s
    · subst u
      simp
    · rw [if_neg u] at hlt
      omega
  · (try dsimp only at hci ⊢)
    by_cases u : (0 + i) % 100 = 0 % 100
    · rw [if_pos u] at hci
      rcases List.mem_cons.mp hci with z | z
      · subst z
        rw [if_pos rfl]
        exact ⟨hs, by omega⟩
      · cases z
    · rw [if_neg u] at hci
      cases hci
  · (try dsimp only)
    by_cases u : j = 0 % 100
    · rw [if_pos u]
      exact List.nodup_cons.mpr ⟨List.not_mem_nil, List.nodup_nil⟩
    · rw [if_neg u]
      exact List.nodup_nil
  · intro k z hk hi
    obtain ⟨v6, I2⟩ := z
    obtain ⟨e, hf, E, Q, m, st, hJ, hE, hK⟩ := hi
    (try dsimp only at e hf hJ)
    subst e
    show ∃ o, rs_Fi_spread_40_b p q (nI (if fw then 0 else 1)) goal (nI k) I2 = some o ∧ _
    unfold rs_Fi_spread_40_b
    have e1 : nI k - nI k / 100 * 100 = nI (k % 100) := pk_rem (a := k) (d := 100) (by omega) (by omega) (by omega)
    have h8 := hJ.2.2.1
    have hw1 := hJ.2.1
    have hw2 := hJ.2.2.2.1
    have hj6 := hJ.2.2.2.2.2
    by_cases h0 : sp_w Q = 0
    · refine az_out I2 (by rw [h8, h0]; simp (disch := omega) only [bz_lit, nI_leI, nI_ltI, nI_eq, nI_clamp, nI_add, pk_sub, pk_mul, bz_nlt, bz_nle, bz_ltn, bz_len, bz_neq, bz_eqn, bz_nn, ↓reduceIte, Bool.false_eq_true, if_pos, if_neg]) ⟨hf, Or.inl ⟨m, sp_all hW hs hK (fun c hc hst => ?_), fun c hc => (hj6 c hc).1⟩⟩
      rcases Nat.lt_or_ge (m c) 14256 with z | z
      · have mem := ((hK.2.2.2.1 c hc hst).2 z).2.2
        have l0 := sp_sm_0 100 h0 (m c % 100) (by omega)
        rw [List.eq_nil_of_length_eq_zero l0] at mem
        cases mem
      · exact z
    · have hin2 := hin.fr hp hq hf
      obtain ⟨y, hy, hor⟩ := sp_slot (fw := fw) (goal := goal) (v := I2 36 (k % 100)) hp hq hin2 hs hk ⟨hJ.1, hJ.2.1, hJ.2.2.1, hJ.2.2.2.1, fun j hj _ => hJ.2.2.2.2.1 j hj (by omega), hj6⟩ hE hK (hJ.2.2.2.2.1 (k % 100) (by omega) (by omega))
      refine ⟨y, ?_, ?_⟩
      · rw [e1, h8]
        simp (disch := omega) only [bz_lit, nI_leI, nI_ltI, nI_eq, nI_clamp, nI_add, pk_sub, pk_mul, bz_nlt, bz_nle, bz_ltn, bz_len, bz_neq, bz_eqn, bz_nn, ↓reduceIte, Bool.false_eq_true, if_pos, if_neg, hy]
      · rcases hor with ⟨I3, rfl, hf3, rest⟩ | ⟨I3, rfl, hf3, rest⟩
        · exact ⟨rfl, hf.trans hf3, rest⟩
        · exact ⟨hf.trans hf3, rest⟩
  · intro z hi
    obtain ⟨v6, I2⟩ := z
    obtain ⟨e, hf, E, Q, m, st, hJ, hE, hK⟩ := hi
    (try dsimp only at e hf hJ)
    subst e
    refine ⟨I2, ?_, hf, Or.inl ⟨m, sp_all hW hs hK (fun c hc hst => ?_), fun c hc => (hJ.2.2.2.2.2 c hc).1⟩⟩
    · show rs_Fi_spread_40_b p q (nI (if fw then 0 else 1)) goal (nI 14256) I2 = _
      unfold rs_Fi_spread_40_b
      rw [if_pos (by decide)]
    · exact (hK.2.2.2.1 c hc hst).1

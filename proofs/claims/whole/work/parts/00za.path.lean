/-! THE WAY: its next cells -/
def nx_c (h t D : Nat → Nat) (c o : Nat) : Prop := D o + t (10 * h c + h o) = D c
def nx_ok (h t D : Nat → Nat) (c o : Nat) : Prop := gd_e c o ∧ nx_c h t D c o ∧ ∀ o', gd_e c o' → nx_c h t D c o' → o ≤ o'
noncomputable def nx (h t D : Nat → Nat) (c : Nat) : Nat := Classical.epsilon (nx_ok h t D c)
theorem nx_un {h t D : Nat → Nat} {c o o' : Nat} (a : nx_ok h t D c o) (b : nx_ok h t D c o') : o = o' := by
  have x := a.2.2 o' b.1 b.2.1
  have y := b.2.2 o a.1 a.2.1
  omega
theorem nx_is {h t D : Nat → Nat} {c o : Nat} (a : nx_ok h t D c o) : nx h t D c = o := nx_un (Classical.epsilon_spec ⟨o, a⟩) a
/-- the best of the first k ways -/
def nx_b (h t D : Nat → Nat) (c k : Nat) (x : Int32) : Prop :=
  (x = -nI 1 ∧ ∀ w, w < k → ∀ o, gd_s c w = some o → ¬ nx_c h t D c o) ∨ (∃ o, o < 144 ∧ x = nI o ∧ gd_e c o ∧ nx_c h t D c o ∧ ∀ w, w < k → ∀ o', gd_s c w = some o' → nx_c h t D c o' → o ≤ o')
theorem nx_keep {h t D : Nat → Nat} {c k : Nat} {x : Int32} (hb : nx_b h t D c k x) (hk : ∀ o, gd_s c k = some o → nx_c h t D c o → ∃ b, x = nI b ∧ b < 144 ∧ b ≤ o) : nx_b h t D c (k + 1) x := by
  rcases hb with ⟨e, hb⟩ | ⟨o, ho, e, g1, g2, g3⟩
  · refine Or.inl ⟨e, fun w hw o ho hc => ?_⟩
    by_cases q : w = k
    · subst q
      obtain ⟨b, e2, b2, _⟩ := hk o ho hc
      rw [e] at e2
      have := (bz_neq (a := 1) (b := b) (by omega) (by omega)).mp e2
      omega
    · exact hb w (by omega) o ho hc
  · refine Or.inr ⟨o, ho, e, g1, g2, fun w hw o' ho' hc => ?_⟩
    by_cases q : w = k
    · subst q
      obtain ⟨b, e2, b2, b3⟩ := hk o' ho' hc
      rw [e] at e2
      have := (nI_eq (by omega) (by omega)).mp e2
      omega
    · exact g3 w (by omega) o' ho' hc
theorem nx_take {h t D : Nat → Nat} {c k o : Nat} {x : Int32} (hc : c < 144) (hb : nx_b h t D c k x) (hk : k < 4) (hs : gd_s c k = some o) (hcd : nx_c h t D c o) (hx : x = -nI 1 ∨ ∃ b, x = nI b ∧ b < 144 ∧ o < b) : nx_b h t D c (k + 1) (nI o) := by
  refine Or.inr ⟨o, gd_lt hc hs, rfl, ⟨k, hk, hs⟩, hcd, fun w hw o' ho' hc' => ?_⟩
  by_cases q : w = k
  · subst q
    rw [hs] at ho'
    injection ho' with ho'
    omega
  · rcases hb with ⟨e, hb⟩ | ⟨p, hp, e, g1, g2, g3⟩
    · exact absurd hc' (hb w (by omega) o' ho')
    · rcases hx with e2 | ⟨b, e2, b2, b3⟩
      · rw [e] at e2
        have := (bz_eqn (a := 1) (b := p) (by omega) (by omega)).mp e2
        omega
      · rw [e] at e2
        have := (nI_eq (by omega) (by omega)).mp e2
        have := g3 w (by omega) o' ho' hc'
        omega
theorem nx_end {h t D : Nat → Nat} {c : Nat} {x : Int32} (hb : nx_b h t D c 4 x) (hex : ∃ o, gd_e c o ∧ nx_c h t D c o) : x = nI (nx h t D c) ∧ nx_ok h t D c (nx h t D c) ∧ nx h t D c < 144 := by
  rcases hb with ⟨e, hb⟩ | ⟨o, ho, e, g1, g2, g3⟩
  · obtain ⟨o, ⟨w, hw, hs⟩, hc⟩ := hex
    exact absurd hc (hb w hw o hs)
  · have ok : nx_ok h t D c o := ⟨g1, g2, fun o' ⟨w, hw, hs⟩ hc => g3 w hw o' hs hc⟩
    rw [nx_is ok]
    exact ⟨e, ok, ho⟩
/-- what both read: heights, step minutes, minutes to the end -/
theorem nx_X {I : Nat → Nat → Int32} {h t D : Nat → Nat} {c : Nat} (hin : sp_in I 26 h t) (hD : ∀ c, c < 144 → I 33 c = nI (D c) ∧ D c ≤ 2178) (hc : c < 144) (hex : ∃ o, gd_e c o ∧ nx_c h t D c o) : rs_Fi_onward 26 I (nI c) = some (nI (nx h t D c)) := by
  unfold rs_Fi_onward rs_Fi_onward_5
  have main : ∃ x, az_lp (fun s : (Int32 × Int32) => rs_Fi_onward_5_b 26 I (nI c) s.1 s.2) 100000 (-1, 0) = some x ∧ x = nI (nx h t D c) := by
    refine az_for0 (fun k (s : Int32 × Int32) => s.2 = nI k ∧ nx_b h t D c k s.1) 4 (by omega) ⟨rfl, Or.inl ⟨rfl, fun w hw => absurd hw (Nat.not_lt_zero w)⟩⟩ ?_ ?_
    · intro k s hk hs
      obtain ⟨v3, v4⟩ := s
      obtain ⟨e, hb⟩ := hs
      (try dsimp only at e hb)
      subst e
      show ∃ o, rs_Fi_onward_5_b 26 I (nI c) v3 (nI k) = some o ∧ _
      unfold rs_Fi_onward_5_b rs_Fi_onward_38 rs_Fi_onward_34 rs_Fi_onward_39
      rw [gd_X c hc k hk]
      (try dsimp only)
      cases hs : gd_s c k with
      | none => exact az_nxt (v3, nI (k + 1)) (by simp (disch := omega) only [bl_lit, lgl, lgg, lgl0, lgg0, lglm, lggm, az_us, az_un, az_ue, az_urn, az_ure, bz_lit, nI_leI, nI_ltI, nI_eq, nI_clamp, nI_add, pk_sub, pk_mul, bz_nlt, bz_nle, bz_ltn, bz_len, bz_neq, bz_eqn, bz_nn, ↓reduceIte, Bool.false_eq_true, if_pos, if_neg, gd_o]) ⟨rfl, nx_keep hb (fun o ho => by rw [hs] at ho; cases ho)⟩
      | some o =>
        have ho := gd_lt hc hs
        obtain ⟨a1, a2⟩ := hin.1 c hc
        obtain ⟨b1, b2⟩ := hin.1 o ho
        obtain ⟨t1, t2, t3⟩ := hin.2 c o hc ⟨k, hk, hs⟩
        obtain ⟨d1, d2⟩ := hD c hc
        obtain ⟨e1, e2⟩ := hD o ho
        rw [Nat.mul_comm 10 (h c)] at t1
        have key : ∀ x : Int32, (x = -nI 1 ∨ ∃ b, x = nI b ∧ b < 144 ∧ o < b) → v3 = x → nx_c h t D c o → nx_b h t D c (k + 1) (nI o) := fun x hx e hcd => nx_take hc hb hk hs hcd (e ▸ hx)
        have hcd : (t (10 * h c + h o) + D o = D c) ↔ nx_c h t D c o := by unfold nx_c; omega
        have t1' : I (26 + 1) (h c * 10 + h o) = nI (t (10 * h c + h o)) := by rw [t1, Nat.mul_comm (h c) 10]
        have hb' := hb
        rcases hb' with ⟨rfl, hb0⟩ | ⟨p, hp, rfl, g1, g2, g3⟩
        · by_cases q : t (10 * h c + h o) + D o = D c
          · exact az_nxt (nI o, nI (k + 1)) (by simp (disch := omega) only [bl_lit, lgl, lgg, lgl0, lgg0, lglm, lggm, az_us, az_un, az_ue, az_urn, az_ure, bz_lit, nI_leI, nI_ltI, nI_eq, nI_clamp, nI_add, pk_sub, pk_mul, bz_nlt, bz_nle, bz_ltn, bz_len, bz_neq, bz_eqn, bz_nn, ↓reduceIte, Bool.false_eq_true, if_pos, if_neg, gd_o, a1, b1, t1', d1, e1, q]) ⟨rfl, key _ (Or.inl rfl) rfl (hcd.mp q)⟩
          · exact az_nxt (-nI 1, nI (k + 1)) (by simp (disch := omega) only [bl_lit, lgl, lgg, lgl0, lgg0, lglm, lggm, az_us, az_un, az_ue, az_urn, az_ure, bz_lit, nI_leI, nI_ltI, nI_eq, nI_clamp, nI_add, pk_sub, pk_mul, bz_nlt, bz_nle, bz_ltn, bz_len, bz_neq, bz_eqn, bz_nn, ↓reduceIte, Bool.false_eq_true, if_pos, if_neg, gd_o, a1, b1, t1', d1, e1, q]) ⟨rfl, nx_keep hb (fun o' ho' hc' => by rw [hs] at ho'; injection ho' with ho'; subst ho'; exact absurd (hcd.mpr hc') q)⟩
        · by_cases le : p ≤ o
          · exact az_nxt (nI p, nI (k + 1)) (by simp (disch := omega) only [bl_lit, lgl, lgg, lgl0, lgg0, lglm, lggm, az_us, az_un, az_ue, az_urn, az_ure, bz_lit, nI_leI, nI_ltI, nI_eq, nI_clamp, nI_add, pk_sub, pk_mul, bz_nlt, bz_nle, bz_ltn, bz_len, bz_neq, bz_eqn, bz_nn, ↓reduceIte, Bool.false_eq_true, if_pos, if_neg, gd_o]) ⟨rfl, nx_keep hb (fun o' ho' hc' => by rw [hs] at ho'; injection ho' with ho'; subst ho'; exact ⟨p, rfl, hp, le⟩)⟩
          · by_cases q : t (10 * h c + h o) + D o = D c
            · exact az_nxt (nI o, nI (k + 1)) (by simp (disch := omega) only [bl_lit, lgl, lgg, lgl0, lgg0, lglm, lggm, az_us, az_un, az_ue, az_urn, az_ure, bz_lit, nI_leI, nI_ltI, nI_eq, nI_clamp, nI_add, pk_sub, pk_mul, bz_nlt, bz_nle, bz_ltn, bz_len, bz_neq, bz_eqn, bz_nn, ↓reduceIte, Bool.false_eq_true, if_pos, if_neg, gd_o, a1, b1, t1', d1, e1, q]) ⟨rfl, key _ (Or.inr ⟨p, rfl, hp, by omega⟩) rfl (hcd.mp q)⟩
            · exact az_nxt (nI p, nI (k + 1)) (by simp (disch := omega) only [bl_lit, lgl, lgg, lgl0, lgg0, lglm, lggm, az_us, az_un, az_ue, az_urn, az_ure, bz_lit, nI_leI, nI_ltI, nI_eq, nI_clamp, nI_add, pk_sub, pk_mul, bz_nlt, bz_nle, bz_ltn, bz_len, bz_neq, bz_eqn, bz_nn, ↓reduceIte, Bool.false_eq_true, if_pos, if_neg, gd_o, a1, b1, t1', d1, e1, q]) ⟨rfl, nx_keep hb (fun o' ho' hc' => by rw [hs] at ho'; injection ho' with ho'; subst ho'; exact absurd (hcd.mpr hc') q)⟩
    · intro s hs
      obtain ⟨v3, v4⟩ := s
      obtain ⟨e, hb⟩ := hs
      (try dsimp only at e hb)
      subst e
      obtain ⟨e, _, hl⟩ := nx_end hb hex
      subst e
      refine ⟨_, ?_, rfl⟩
      show rs_Fi_onward_5_b 26 I (nI c) _ (nI 4) = _
      unfold rs_Fi_onward_5_b rs_Fi_onward_79
      simp (disch := omega) only [bl_lit, lgl, lgg, lgl0, lgg0, lglm, lggm, az_us, az_un, az_ue, az_urn, az_ure, bz_lit, nI_leI, nI_ltI, nI_eq, nI_clamp, nI_add, pk_sub, pk_mul, bz_nlt, bz_nle, bz_ltn, bz_len, bz_neq, bz_eqn, bz_nn, ↓reduceIte, Bool.false_eq_true, if_pos, if_neg, Option.map_some]
  obtain ⟨x, hx, rfl⟩ := main
  exact hx
theorem nx_M {I : Nat → Nat → Int32} {h t D : Nat → Nat} {c : Nat} (hin : dk_in I h t) (hD : ∀ c, c < 144 → I 84 c = nI (D c) ∧ D c ≤ 2178) (hc : c < 144) (hex : ∃ o, gd_e c o ∧ nx_c h t D c o) : rs_M_nextOf I (nI c) = some (nI (nx h t D c)) := by
  unfold rs_M_nextOf rs_M_nextOf_4
  have main : ∃ x, az_lp (fun s : (Int32 × Int32) => rs_M_nextOf_4_b I (nI c) s.1 s.2) 100000 (-1, 0) = some x ∧ x = nI (nx h t D c) := by
    refine az_for0 (fun k (s : Int32 × Int32) => s.2 = nI k ∧ nx_b h t D c k s.1) 4 (by omega) ⟨rfl, Or.inl ⟨rfl, fun w hw => absurd hw (Nat.not_lt_zero w)⟩⟩ ?_ ?_
    · intro k s hk hs
      obtain ⟨v3, v4⟩ := s
      obtain ⟨e, hb⟩ := hs
      (try dsimp only at e hb)
      subst e
      show ∃ o, rs_M_nextOf_4_b I (nI c) v3 (nI k) = some o ∧ _
      unfold rs_M_nextOf_4_b
      rw [gd_M c hc k hk]
      (try dsimp only)
      cases hs : gd_s c k with
      | none => exact az_nxt (v3, nI (k + 1)) (by simp (disch := omega) only [bl_lit, lgl, lgg, lgl0, lgg0, lglm, lggm, az_us, az_un, az_ue, az_urn, az_ure, bz_lit, nI_leI, nI_ltI, nI_eq, nI_clamp, nI_add, pk_sub, pk_mul, bz_nlt, bz_nle, bz_ltn, bz_len, bz_neq, bz_eqn, bz_nn, ↓reduceIte, Bool.false_eq_true, if_pos, if_neg, gd_o]) ⟨rfl, nx_keep hb (fun o ho => by rw [hs] at ho; cases ho)⟩
      | some o =>
        have ho := gd_lt hc hs
        obtain ⟨a1, a2⟩ := hin.1 c hc
        obtain ⟨b1, b2⟩ := hin.1 o ho
        obtain ⟨t1, t2, t3⟩ := hin.2 (10 * h c + h o) (by omega)
        obtain ⟨d1, d2⟩ := hD c hc
        obtain ⟨e1, e2⟩ := hD o ho
        have key : ∀ x : Int32, (x = -nI 1 ∨ ∃ b, x = nI b ∧ b < 144 ∧ o < b) → v3 = x → nx_c h t D c o → nx_b h t D c (k + 1) (nI o) := fun x hx e hcd => nx_take hc hb hk hs hcd (e ▸ hx)
        have hb' := hb
        by_cases q : D o + t (10 * h c + h o) = D c
        · rcases hb' with ⟨rfl, hb0⟩ | ⟨p, hp, rfl, g1, g2, g3⟩
          · exact az_nxt (nI o, nI (k + 1)) (by simp (disch := omega) only [bl_lit, lgl, lgg, lgl0, lgg0, lglm, lggm, az_us, az_un, az_ue, az_urn, az_ure, bz_lit, nI_leI, nI_ltI, nI_eq, nI_clamp, nI_add, pk_sub, pk_mul, bz_nlt, bz_nle, bz_ltn, bz_len, bz_neq, bz_eqn, bz_nn, ↓reduceIte, Bool.false_eq_true, if_pos, if_neg, gd_o, a1, b1, t1, d1, e1, q]) ⟨rfl, key _ (Or.inl rfl) rfl q⟩
          · by_cases le : p ≤ o
            · exact az_nxt (nI p, nI (k + 1)) (by simp (disch := omega) only [bl_lit, lgl, lgg, lgl0, lgg0, lglm, lggm, az_us, az_un, az_ue, az_urn, az_ure, bz_lit, nI_leI, nI_ltI, nI_eq, nI_clamp, nI_add, pk_sub, pk_mul, bz_nlt, bz_nle, bz_ltn, bz_len, bz_neq, bz_eqn, bz_nn, ↓reduceIte, Bool.false_eq_true, if_pos, if_neg, gd_o, a1, b1, t1, d1, e1, q]) ⟨rfl, nx_keep hb (fun o' ho' hc' => by rw [hs] at ho'; injection ho' with ho'; subst ho'; exact ⟨p, rfl, hp, le⟩)⟩
            · exact az_nxt (nI o, nI (k + 1)) (by simp (disch := omega) only [bl_lit, lgl, lgg, lgl0, lgg0, lglm, lggm, az_us, az_un, az_ue, az_urn, az_ure, bz_lit, nI_leI, nI_ltI, nI_eq, nI_clamp, nI_add, pk_sub, pk_mul, bz_nlt, bz_nle, bz_ltn, bz_len, bz_neq, bz_eqn, bz_nn, ↓reduceIte, Bool.false_eq_true, if_pos, if_neg, gd_o, a1, b1, t1, d1, e1, q]) ⟨rfl, key _ (Or.inr ⟨p, rfl, hp, by omega⟩) rfl q⟩
        · exact az_nxt (v3, nI (k + 1)) (by simp (disch := omega) only [bl_lit, lgl, lgg, lgl0, lgg0, lglm, lggm, az_us, az_un, az_ue, az_urn, az_ure, bz_lit, nI_leI, nI_ltI, nI_eq, nI_clamp, nI_add, pk_sub, pk_mul, bz_nlt, bz_nle, bz_ltn, bz_len, bz_neq, bz_eqn, bz_nn, ↓reduceIte, Bool.false_eq_true, if_pos, if_neg, gd_o, a1, b1, t1, d1, e1, q]) ⟨rfl, nx_keep hb (fun o' ho' hc' => by rw [hs] at ho'; injection ho' with ho'; subst ho'; exact absurd hc' q)⟩
    · intro s hs
      obtain ⟨v3, v4⟩ := s
      obtain ⟨e, hb⟩ := hs
      (try dsimp only at e hb)
      subst e
      obtain ⟨e, _, hl⟩ := nx_end hb hex
      subst e
      refine ⟨_, ?_, rfl⟩
      show rs_M_nextOf_4_b I (nI c) _ (nI 4) = _
      unfold rs_M_nextOf_4_b
      simp (disch := omega) only [bl_lit, lgl, lgg, lgl0, lgg0, lglm, lggm, az_us, az_un, az_ue, az_urn, az_ure, bz_lit, nI_leI, nI_ltI, nI_eq, nI_clamp, nI_add, pk_sub, pk_mul, bz_nlt, bz_nle, bz_ltn, bz_len, bz_neq, bz_eqn, bz_nn, ↓reduceIte, Bool.false_eq_true, if_pos, if_neg]
  obtain ⟨x, hx, rfl⟩ := main
  exact hx
/-! the whole way -/
noncomputable def pth (h t D : Nat → Nat) (a : Nat) : Nat → Nat
  | 0 => a
  | k + 1 => nx h t D (pth h t D a k)
theorem gd_n_mono {u v : Nat → Bool} : ∀ n, (∀ c, c < n → u c = true → v c = true) → gd_n u n ≤ gd_n v n
  | 0, _ => Nat.le_refl 0
  | n + 1, h => by
    unfold gd_n
    have a := gd_n_mono n (fun c hc => h c (by omega))
    have b := h n (by omega)
    cases hu : u n with
    | false => rw [if_neg (by decide)]; omega
    | true => rw [b hu, if_pos rfl]; omega
def nx_rk (D : Nat → Nat) (c : Nat) : Nat := gd_n (fun x => decide (D x < D c)) 144
theorem nx_rk_lt {D : Nat → Nat} {c o : Nat} (ho : o < 144) (h : D o < D c) : nx_rk D o < nx_rk D c := by
  unfold nx_rk
  have e : (fun x => decide (D x < D o)) o = false := by (try dsimp only); exact decide_eq_false (by omega)
  have a := gd_n_set (u := fun x => decide (D x < D o)) e 144 ho
  have b := gd_n_mono (u := fun x => if x = o then true else decide (D x < D o)) (v := fun x => decide (D x < D c)) 144 (fun x _ q => by
    (try dsimp only at q ⊢)
    by_cases z : x = o
    · subst z; exact decide_eq_true h
    · rw [if_neg z] at q
      have := of_decide_eq_true q
      exact decide_eq_true (by omega))
  omega
theorem nx_rk_le {D : Nat → Nat} {c : Nat} (hc : c < 144) : nx_rk D c ≤ 143 := by
  unfold nx_rk
  have e : (fun x => decide (D x < D c)) c = false := by (try dsimp only); exact decide_eq_false (by omega)
  have a := gd_n_set (u := fun x => decide (D x < D c)) e 144 hc
  have b := gd_n_le (fun x => if x = c then true else decide (D x < D c)) 144
  omega
section
variable {h t : Nat → Nat} {a b : Nat}
/-- minutes to the end -/
theorem nx_ex (ok : th_ok h t) (hb : b < 144) {c : Nat} (hc : c < 144) (hne : c ≠ b) : ∃ o, gd_e c o ∧ nx_c h t (ds_d (dk_W h t false) b) c o := by
  obtain ⟨o, ho, hco, hd⟩ := (gd_is ok false hb).2.2 c hc hne
  refine ⟨o, gd_sym ho hco, ?_⟩
  unfold nx_c
  rw [hd]
  rfl
theorem nx_all (ok : th_ok h t) (hb : b < 144) {c : Nat} (hc : c < 144) (hne : c ≠ b) : nx_ok h t (ds_d (dk_W h t false) b) c (nx h t (ds_d (dk_W h t false) b) c) ∧ nx h t (ds_d (dk_W h t false) b) c < 144 := by
  obtain ⟨o, ho, hcd⟩ := nx_ex ok hb hc hne
  have key : ∀ k, k ≤ 4 → ∃ x, nx_b h t (ds_d (dk_W h t false) b) c k x := by
    intro k
    induction k with
    | zero => exact fun _ => ⟨-nI 1, Or.inl ⟨rfl, fun w hw => absurd hw (Nat.not_lt_zero w)⟩⟩
    | succ k ih =>
      intro hk
      obtain ⟨x, hx⟩ := ih (by omega)
      cases hs : gd_s c k with
      | none => exact ⟨x, nx_keep hx (fun o ho => by rw [hs] at ho; cases ho)⟩
      | some o =>
        by_cases q : nx_c h t (ds_d (dk_W h t false) b) c o
        · have hx' := hx
          rcases hx' with ⟨rfl, _⟩ | ⟨p, hp, rfl, _⟩
          · exact ⟨_, nx_take hc hx (by omega) hs q (Or.inl rfl)⟩
          · by_cases le : p ≤ o
            · exact ⟨_, nx_keep hx (fun o' ho' hc' => by rw [hs] at ho'; injection ho' with ho'; subst ho'; exact ⟨p, rfl, hp, le⟩)⟩
            · exact ⟨_, nx_take hc hx (by omega) hs q (Or.inr ⟨p, rfl, hp, by omega⟩)⟩
        · exact ⟨x, nx_keep hx (fun o' ho' hc' => by rw [hs] at ho'; injection ho' with ho'; subst ho'; exact absurd hc' q)⟩
  obtain ⟨x, hx⟩ := key 4 (by omega)
  exact (nx_end hx ⟨o, ho, hcd⟩).2
theorem pth_ex (ok : th_ok h t) (ha : a < 144) (hb : b < 144) : ∃ n, n ≤ 143 ∧ pth h t (ds_d (dk_W h t false) b) a n = b ∧ (∀ k, k < n → pth h t (ds_d (dk_W h t false) b) a k ≠ b) ∧ ∀ k, k ≤ n → pth h t (ds_d (dk_W h t false) b) a k < 144 := by
  have key : ∀ m c, nx_rk (ds_d (dk_W h t false) b) c = m → c < 144 → ∃ n, n ≤ m ∧ pth h t (ds_d (dk_W h t false) b) c n = b ∧ (∀ k, k < n → pth h t (ds_d (dk_W h t false) b) c k ≠ b) ∧ ∀ k, k ≤ n → pth h t (ds_d (dk_W h t false) b) c k < 144 := by
    intro m
    induction m using Nat.strongRecOn with
    | _ m ih =>
      intro c hm hc
      by_cases e : c = b
      · exact ⟨0, Nat.zero_le _, e, fun k hk => absurd hk (Nat.not_lt_zero k), fun k hk => by have : k = 0 := by omega
                                                                                              subst this; exact hc⟩
      · obtain ⟨ok1, hl⟩ := nx_all ok hb hc e
        have w := th_W ok true c _ hc ok1.1
        have hd := ok1.2.1
        unfold nx_c at hd
        have hlt : ds_d (dk_W h t false) b (nx h t (ds_d (dk_W h t false) b) c) < ds_d (dk_W h t false) b c := by
          have : dk_W h t true c (nx h t (ds_d (dk_W h t false) b) c) = t (10 * h c + h (nx h t (ds_d (dk_W h t false) b) c)) := rfl
          omega
        have hr := nx_rk_lt hl hlt
        obtain ⟨n, n1, n2, n3, n4⟩ := ih _ (by omega) _ rfl hl
        have sh : ∀ k, pth h t (ds_d (dk_W h t false) b) c (k + 1) = pth h t (ds_d (dk_W h t false) b) (nx h t (ds_d (dk_W h t false) b) c) k := by
          intro k
          induction k with
          | zero => rfl
          | succ k ihk =>
            show nx h t _ (pth h t _ c (k + 1)) = nx h t _ (pth h t _ _ k)
            rw [ihk]
        refine ⟨n + 1, by omega, by rw [sh]; exact n2, fun k hk => ?_, fun k hk => ?_⟩
        · cases k with
          | zero => exact e
          | succ k => rw [sh]; exact n3 k (by omega)
        · cases k with
          | zero => exact hc
          | succ k => rw [sh]; exact n4 k (by omega)
  obtain ⟨n, n1, n2, n3, n4⟩ := key _ a rfl ha
  exact ⟨n, by have := nx_rk_le (D := ds_d (dk_W h t false) b) ha; omega, n2, n3, n4⟩
end

/-! RUNS OF THE SMALL MACHINE, by rules: from here on nothing speaks of the machine -/
def az_E (sh : az_H) (ex : az_X) (d k pc : Nat) (L S : List Value) (σ : az_S) (Q : Option Value → az_S → Prop) : Prop := ∃ n v σ', az_run sh ex n d k pc L S σ = some (v, σ') ∧ Q v σ'
theorem az_i_mono {sh : az_H} {ex : az_X} {d d' : Nat} {rt : Option FieldType} {e : az_I} {pc : Nat} {L S : List Value} {σ : az_S} {r : az_T} (hd : d ≤ d') (h : az_i sh ex d rt e pc L S σ = some r) : az_i sh ex d' rt e pc L S σ = some r := by
  obtain ⟨i, a, b, z⟩ := e
  have g : ∀ c : Prop, 0 < d ∧ c → 0 < d' ∧ c := fun c h => ⟨by omega, h.2⟩
  cases i
  case invokestatic q =>
    replace h : (if a = 9999 then az_cpi sh d pc L S σ else if a = 9997 then az_max d pc L S σ else if a = 9996 then az_min d pc L S σ else az_cl sh 0 a pc S σ) = _ := h
    show (if a = 9999 then az_cpi sh d' pc L S σ else if a = 9997 then az_max d' pc L S σ else if a = 9996 then az_min d' pc L S σ else az_cl sh 0 a pc S σ) = _
    by_cases h1 : a = 9999
    · rw [if_pos h1] at h ⊢
      unfold az_cpi at h ⊢
      split at h
      · split at h
        · rename_i hc
          rw [if_pos (g _ hc)]
          exact h
        · cases h
      · cases h
    · rw [if_neg h1] at h ⊢
      by_cases h2 : a = 9997
      · rw [if_pos h2] at h ⊢
        unfold az_max at h ⊢
        split at h
        · split at h
          · rename_i hc
            rw [if_pos (g _ hc)]
            exact h
          · cases h
        · cases h
      · rw [if_neg h2] at h ⊢
        by_cases h3 : a = 9996
        · rw [if_pos h3] at h ⊢
          unfold az_min at h ⊢
          split at h
          · split at h
            · rename_i hc
              rw [if_pos (g _ hc)]
              exact h
            · cases h
          · cases h
        · rw [if_neg h3] at h ⊢
          exact h
  case invokespecial q =>
    replace h : (if a = 9998 then az_obj d pc L S σ else az_cl sh 2 a pc S σ) = _ := h
    show (if a = 9998 then az_obj d' pc L S σ else az_cl sh 2 a pc S σ) = _
    by_cases h1 : a = 9998
    · rw [if_pos h1] at h ⊢
      unfold az_obj at h ⊢
      split at h
      · split at h
        · rename_i hc
          rw [if_pos (g _ hc)]
          exact h
        · cases h
      · cases h
    · rw [if_neg h1] at h ⊢
      exact h
  case if_icmp cnd off => cases cnd <;> exact h
  case ifCond cnd off => cases cnd <;> exact h
  all_goals exact h
theorem az_step_mono {sh : az_H} {ex : az_X} {d d' k pc : Nat} {L S : List Value} {σ : az_S} {r : az_T} (hd : d ≤ d') (h : az_step sh ex d k pc L S σ = some r) : az_step sh ex d' k pc L S σ = some r := by
  unfold az_step at h ⊢
  split at h
  · exact az_i_mono hd h
  · cases h
theorem az_run_mono {sh : az_H} {ex : az_X} : ∀ (n n' d d' k pc : Nat) (L S : List Value) (σ : az_S) (r : Option Value × az_S), n ≤ n' → d ≤ d' → az_run sh ex n d k pc L S σ = some r → az_run sh ex n' d' k pc L S σ = some r := by
  intro n
  induction n with
  | zero => intro n' d d' k pc L S σ r _ _ h; simp [az_run] at h
  | succ n ih =>
    intro n' d d' k pc L S σ r hn hd h
    obtain ⟨n', rfl⟩ : ∃ q, n' = q + 1 := ⟨n' - 1, by omega⟩
    unfold az_run at h ⊢
    split at h
    · cases h
    · rename_i hst
      rw [az_step_mono hd hst]
      exact ih _ _ _ _ _ _ _ _ _ (by omega) hd h
    · rename_i hst
      rw [az_step_mono hd hst]
      exact h
    · rename_i hst
      rw [az_step_mono hd hst]
      split at h
      · cases h
      · rename_i d0
        obtain ⟨d', rfl⟩ : ∃ q, d' = q + 1 := ⟨d' - 1, by omega⟩
        split at h
        · cases h
        · rename_i hc
          dsimp only
          rw [ih _ _ d' _ _ _ _ _ _ (by omega : n ≤ n') (by omega) hc]
          exact ih _ _ _ _ _ _ _ _ _ (by omega) (by omega) h
section EV
variable {sh : az_H} {ex : az_X} {d k pc pc' : Nat} {L L' S S' : List Value} {σ σ' : az_S} {Q : Option Value → az_S → Prop}
theorem az_E.deep {d' : Nat} (hd : d ≤ d') (h : az_E sh ex d k pc L S σ Q) : az_E sh ex d' k pc L S σ Q := by
  obtain ⟨n, v, s, h1, h2⟩ := h
  exact ⟨n, v, s, az_run_mono _ _ _ _ _ _ _ _ _ _ (Nat.le_refl _) hd h1, h2⟩
theorem az_E.imp {Q' : Option Value → az_S → Prop} (hq : ∀ v s, Q v s → Q' v s) (h : az_E sh ex d k pc L S σ Q) : az_E sh ex d k pc L S σ Q' := by
  obtain ⟨n, v, s, h1, h2⟩ := h
  exact ⟨n, v, s, h1, hq _ _ h2⟩
theorem az_E.s1 (h : az_step sh ex d k pc L S σ = some (.inl (pc', L', S', σ'))) (g : az_E sh ex d k pc' L' S' σ' Q) : az_E sh ex d k pc L S σ Q := by
  obtain ⟨n, v, s, h1, h2⟩ := g
  refine ⟨n + 1, v, s, ?_, h2⟩
  unfold az_run
  rw [h]
  exact h1
/-- n steps in a row -/
def az_sn (sh : az_H) (ex : az_X) (d k : Nat) : Nat → Nat → List Value → List Value → az_S → Option (Nat × List Value × List Value × az_S)
  | 0, pc, L, S, σ => some (pc, L, S, σ)
  | n + 1, pc, L, S, σ => match az_step sh ex d k pc L S σ with
    | some (.inl (pc', L', S', σ')) => az_sn sh ex d k n pc' L' S' σ'
    | _ => none
theorem az_sn_E (n : Nat) : ∀ {pc : Nat} {L S : List Value} {σ : az_S}, az_sn sh ex d k n pc L S σ = some (pc', L', S', σ') → az_E sh ex d k pc' L' S' σ' Q → az_E sh ex d k pc L S σ Q := by
  induction n with
  | zero => intro pc L S σ h g; cases h; exact g
  | succ n ih =>
    intro pc L S σ h g
    unfold az_sn at h
    split at h
    · rename_i hst
      exact az_E.s1 hst (ih h g)
    · cases h
theorem az_E.sn (n : Nat) (h : az_sn sh ex d k n pc L S σ = some (pc', L', S', σ')) (g : az_E sh ex d k pc' L' S' σ' Q) : az_E sh ex d k pc L S σ Q := az_sn_E n h g
theorem az_E.br {c : Prop} {hc : Decidable c} {tt ff : Nat} (h : az_step sh ex d k pc L S σ = @az_br c hc tt ff L' S' σ') (g1 : c → az_E sh ex d k tt L' S' σ' Q) (g2 : ¬ c → az_E sh ex d k ff L' S' σ' Q) : az_E sh ex d k pc L S σ Q := by
  unfold az_br at h
  by_cases hh : c
  · rw [if_pos hh] at h; exact az_E.s1 h (g1 hh)
  · rw [if_neg hh] at h; exact az_E.s1 h (g2 hh)
theorem az_E.oi {o : Option Int32} {x : Int32} (h : az_step sh ex d k pc L S σ = az_oi o pc' L' S' σ') (ho : o = some x) (g : az_E sh ex d k pc' L' (.int x :: S') σ' Q) : az_E sh ex d k pc L S σ Q := by
  rw [ho] at h; exact az_E.s1 h g
theorem az_E.ol {o : Option Int64} {x : Int64} (h : az_step sh ex d k pc L S σ = az_ol o pc' L' S' σ') (ho : o = some x) (g : az_E sh ex d k pc' L' (.long x :: S') σ' Q) : az_E sh ex d k pc L S σ Q := by
  rw [ho] at h; exact az_E.s1 h g
theorem az_E.ov {o : Option Value} {x : Value} (h : az_step sh ex d k pc L S σ = az_ov o pc' L' S' σ') (ho : o = some x) (g : az_E sh ex d k pc' L' (x :: S') σ' Q) : az_E sh ex d k pc L S σ Q := by
  rw [ho] at h; exact az_E.s1 h g
theorem az_E.o {o : Option az_S} {x : az_S} (h : az_step sh ex d k pc L S σ = az_o o pc' L' S') (ho : o = some x) (g : az_E sh ex d k pc' L' S' x Q) : az_E sh ex d k pc L S σ Q := by
  rw [ho] at h; exact az_E.s1 h g
/-- a divisor -/
theorem az_E.dv {c : Prop} {hc : Decidable c} (h : az_step sh ex d k pc L S σ = @ite _ c hc none (az_nx pc' L' S' σ')) (hn : ¬ c) (g : az_E sh ex d k pc' L' S' σ' Q) : az_E sh ex d k pc L S σ Q := by
  rw [if_neg hn] at h; exact az_E.s1 h g
theorem az_E.ret {v : Option Value} (h : az_step sh ex d k pc L S σ = some (.inr (.inl (v, σ')))) (hq : Q v σ') : az_E sh ex d k pc L S σ Q := by
  refine ⟨1, v, σ', ?_, hq⟩
  unfold az_run
  rw [h]
theorem az_E.call {k' : Nat} {vs : List Value} {Q1 : Option Value → az_S → Prop} (h : az_step sh ex (d + 1) k pc L S σ = some (.inr (.inr (k', vs, pc', S')))) (g1 : az_E sh ex d k' 0 (az_ent vs (az_m k').2.2.1) [] σ Q1) (g2 : ∀ v s, Q1 v s → az_E sh ex (d + 1) k pc' L (v.toList ++ S') s Q) : az_E sh ex (d + 1) k pc L S σ Q := by
  obtain ⟨n, v, s, h1, h2⟩ := g1
  obtain ⟨n2, v2, s2, h3, h4⟩ := g2 v s h2
  refine ⟨n + n2 + 1, v2, s2, ?_, h4⟩
  unfold az_run
  rw [h]
  dsimp only
  rw [az_run_mono _ (n + n2) _ d _ _ _ _ _ _ (by omega) (Nat.le_refl _) h1]
  exact az_run_mono _ _ _ _ _ _ _ _ _ _ (by omega) (Nat.le_refl _) h3
end EV

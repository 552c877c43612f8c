section AZM
variable {p : Program} {l : Launch} {e : Env} {R : Room} {s : State} {m : MethodId} {args : Array Value} {below : List Frame} {meth : Method} {c : Code} {Q : State → Prop}
variable {sh : az_H} {ex : az_X} {base n0 d k : Nat} {t : Nat → Nat} {D : va_G} {cA : Nat → ClassId}
theorem az_body (hmk : ∀ k, k < 258 → az_mok (az_m k) = true) (hgd : az_gd k) (hC : az_Cx k p s m args meth c) (hE : az_En ex base t D cA s) (hsh : sh.all az_shc = true) (hdR : d ≤ R.frames ∧ 64 * d ≤ R.locals) (hn0 : s.heap.size = base + n0) {v : Option Value} {σe : az_S} (hrc : σe.1 ≤ n0 + R.cells) (hrs : az_slots sh σe.1 ≤ az_slots sh n0 + R.slots)
    (IH : ∀ d', d = d' + 1 → ∀ (k n : Nat) (vs : List Value) (σ : az_S) (v : Option Value) (σ' : az_S), k < 258 → az_run sh ex n d' k 0 (az_ent vs (az_m k).2.2.1) [] σ = some (v, σ') → (az_lay vs).length ≤ (az_m k).2.2.1 → az_Met l sh ex base t D cA d' k vs σ v σ')
    (hret : ∀ (pc : Nat) (L S : List Value) (σ : az_S), az_step sh ex d k pc L S σ = some (.inr (.inl (v, σe))) → az_G (az_Wf p l e R s m args below meth c Q) s m sh base t D cA n0 (az_m k).2.2.1 pc L S σ) :
    ∀ (n pc : Nat) (L S : List Value) (σ : az_S), az_run sh ex n d k pc L S σ = some (v, σe) → az_G (az_Wf p l e R s m args below meth c Q) s m sh base t D cA n0 (az_m k).2.2.1 pc L S σ := by
  intro n
  induction n with
  | zero => intro pc L S σ h; simp [az_run] at h
  | succ n ih =>
    intro pc L S σ h
    have h0 := h
    unfold az_run at h
    split at h
    · cases h
    · rename_i pc' L' S' σ' hst
      obtain ⟨i, a, b, z, g1, g2⟩ := az_step_e hst
      have g3 := hgd pc _ g1
      unfold az_ok at g3
      rw [Bool.and_eq_true] at g3
      have hge := az_run_ge _ _ _ _ _ _ _ _ _ h
      exact az_step_1 hC hE hsh hdR hn0 (Nat.le_trans hge hrc) (Nat.le_trans (az_slots_mono sh hge) hrs) (of_decide_eq_true g3.1) g3.2 g2 (ih _ _ _ _ h)
    · rename_i r hst
      cases h
      exact hret pc L S σ hst
    · rename_i k' vs pc' S' hst
      obtain ⟨i, a, b, z, g1, g2⟩ := az_step_e hst
      have g3 := hgd pc _ g1
      unfold az_ok at g3
      rw [Bool.and_eq_true] at g3
      split at h
      · cases h
      · rename_i d'
        split at h
        · cases h
        · rename_i v1 σ1 hcall
          have hge1 := az_run_ge _ _ _ _ _ _ _ _ _ hcall
          have hge := az_run_ge _ _ _ _ _ _ _ _ _ h
          exact az_call_ok hmk hC hE hdR hn0 (of_decide_eq_true g3.1) g3.2 g2 hge1 (Nat.le_trans hge hrc) (Nat.le_trans (az_slots_mono sh hge) hrs) (fun hl hk => IH d' rfl k' n vs σ v1 σ1 hk hcall hl) (ih _ _ _ _ h)
theorem az_ret (hgd : az_gd k) (hC : az_Cx k p s m args meth c) (hr : meth.sig.returnType = (az_m k).2.2.2.1) (hlocks : meth.locks = false) {v : Option Value} {σe : az_S} {pc : Nat} {L S : List Value} {σ : az_S} (hst : az_step sh ex d k pc L S σ = some (.inr (.inl (v, σe)))) :
    az_G (az_Wf p l e R s m args below meth c (MQ below (az_Qc sh base t D cA v σe) args s (σe.1 - n0) (az_slots sh σe.1 - az_slots sh n0) (fun q => base ≤ q))) s m sh base t D cA n0 (az_m k).2.2.1 pc L S σ := by
  obtain ⟨hx, hb, hml, hown, hts, hnm⟩ := hC
  obtain ⟨i, a, b, z, g1, g2⟩ := az_step_e hst
  have g3 := hgd pc _ g1
  unfold az_ok at g3
  rw [Bool.and_eq_true] at g3
  have hd := of_decide_eq_true g3.1
  have hok := g3.2
  intro H locs ls cells slots hP hS hl hc hs
  obtain ⟨h1, h2⟩ := az_i_ret g2
  dsimp only at h1 h2
  subst h1
  have e1 : cells = σe.1 - n0 := by omega
  have e2 : slots = az_slots sh σe.1 - az_slots sh n0 := by omega
  subst e1
  subst e2
  rcases h2 with ⟨rfl, rfl, rfl⟩ | ⟨rfl, x, rfl, rfl, hx01⟩ | ⟨rfl, x, rfl, rfl⟩ | ⟨rfl, h2⟩
  · have hrt : (az_m k).2.2.2.1 = none := of_decide_eq_true hok
    exact W.vret hx hb (hr.trans hrt) (fun u hu hW => ⟨rfl, by rw [hu]; exact hP, hS.F hu⟩) hS.2.2 hd hlocks
  · have hrt : (az_m k).2.2.2.1 = some .int ∨ (az_m k).2.2.2.1 = some .boolean := of_decide_eq_true hok
    rcases hrt with hrt | hrt
    · exact W.zret hx hb (hr.trans hrt) rfl (fun u hu hW => ⟨rfl, by rw [hu]; exact hP, hS.F hu⟩) hS.2.2 hd hlocks
    · refine W.zret hx hb (hr.trans hrt) ?_ (fun u hu hW => ⟨rfl, by rw [hu]; exact hP, hS.F hu⟩) hS.2.2 hd hlocks
      rcases hx01 hrt with rfl | rfl
      · decide
      · decide
  · have hrt : (az_m k).2.2.2.1 = some .long := of_decide_eq_true hok
    exact W.lret hx hb (hr.trans hrt) (fun u hu hW => ⟨rfl, by rw [hu]; exact hP, hS.F hu⟩) hS.2.2 hd hlocks
  · have hrt : (az_m k).2.2.2.1 = some (.array .int) := of_decide_eq_true hok
    rcases h2 with ⟨x, rfl, rfl⟩ | ⟨rfl, rfl⟩
    · exact W.aret hx hb (hr.trans hrt) (Or.inr ⟨_, rfl⟩) (Or.inr ⟨_, rfl⟩) (fun u hu hW => ⟨rfl, by rw [hu]; exact hP, hS.F hu⟩) hS.2.2 hd hlocks
    · exact W.aret hx hb (hr.trans hrt) (Or.inr ⟨_, rfl⟩) (Or.inl rfl) (fun u hu hW => ⟨rfl, by rw [hu]; exact hP, hS.F hu⟩) hS.2.2 hd hlocks
end AZM
theorem az_all1 {l : Launch} {sh : az_H} {ex : az_X} {base : Nat} {t : Nat → Nat} {D : va_G} {cA : Nat → ClassId} (hmk : ∀ k, k < 258 → az_mok (az_m k) = true) (hgd : ∀ k, k < 258 → az_gd k) (hsh : sh.all az_shc = true) {d k n : Nat} {vs : List Value} {σ : az_S} {v : Option Value} {σ' : az_S} (hk : k < 258) (hrun : az_run sh ex n d k 0 (az_ent vs (az_m k).2.2.1) [] σ = some (v, σ')) (hlay : (az_lay vs).length ≤ (az_m k).2.2.1)
    (IH : ∀ d', d = d' + 1 → ∀ (k n : Nat) (vs : List Value) (σ : az_S) (v : Option Value) (σ' : az_S), k < 258 → az_run sh ex n d' k 0 (az_ent vs (az_m k).2.2.1) [] σ = some (v, σ') → (az_lay vs).length ≤ (az_m k).2.2.1 → az_Met l sh ex base t D cA d' k vs σ v σ') : az_Met l sh ex base t D cA d k vs σ v σ' := by
  obtain ⟨m1, m2, m3, m4, m5, -⟩ := az_mok_spec (hmk k hk)
  have hge := az_run_ge _ _ _ _ _ _ _ _ _ hrun
  have hsm := az_slots_mono sh hge
  refine Met.ofW (cc := (az_m k).2.1) (maxL := (az_m k).2.2.1) (ret := (az_m k).2.2.2.1) m3 rfl ?_
  intro p e s m args below meth c s₁ B hml hv
  obtain ⟨rfl, hsz, hP, hE⟩ := hv
  have hts := atoms_spec (ws := az_wk k) B.pre
  have hC : az_Cx k p s m (vs.map (az_v (az_ad t base))).toArray meth c := ⟨B.exec, B.bytes, hml, findClass_of_methodNamed B.named, fun w hw => hts w (List.mem_cons_of_mem _ hw), fun e => ((name_of_methodNamed B.named B.method).1).trans e⟩
  have hG := az_body (l := l) (e := e) (below := below) (R := az_rm d (σ'.1 - σ.1) (az_slots sh σ'.1 - az_slots sh σ.1)) (n0 := σ.1) hmk (hgd k hk) hC hE hsh (d := d) ⟨Nat.le_refl _, Nat.le_refl _⟩ hsz (by show _ ≤ σ.1 + (σ'.1 - σ.1); omega) (by show _ ≤ _ + (az_slots sh σ'.1 - az_slots sh σ.1); omega) IH (fun pc L S σ0 hst => az_ret (hgd k hk) hC B.returns B.notSynchronized hst) n 0 _ _ σ hrun
  rw [lg_entry_eq]
  have hlen : (lg_sl (vs.map (az_v (az_ad t base)))).length ≤ (az_m k).2.2.1 := by rw [az_lay_len]; exact hlay
  have hl := lv_entry (vs.map (az_v (az_ad t base))) hlen
  exact hG s.heap [] _ 0 0 hP va_S.rf (az_loc.ent vs hlay hl) (by omega) (by omega)
theorem az_all {l : Launch} {sh : az_H} {ex : az_X} {base : Nat} {t : Nat → Nat} {D : va_G} {cA : Nat → ClassId} (hmk : ∀ k, k < 258 → az_mok (az_m k) = true) (hgd : ∀ k, k < 258 → az_gd k) (hsh : sh.all az_shc = true) :
    ∀ (d k n : Nat) (vs : List Value) (σ : az_S) (v : Option Value) (σ' : az_S), k < 258 → az_run sh ex n d k 0 (az_ent vs (az_m k).2.2.1) [] σ = some (v, σ') → (az_lay vs).length ≤ (az_m k).2.2.1 → az_Met l sh ex base t D cA d k vs σ v σ' := by
  intro d
  induction d with
  | zero =>
    intro k n vs σ v σ' hk hrun hlay
    exact az_all1 hmk hgd hsh hk hrun hlay (fun d' h => absurd h (by omega))
  | succ d ih =>
    intro k n vs σ v σ' hk hrun hlay
    exact az_all1 hmk hgd hsh hk hrun hlay (fun d' h => by
      have : d' = d := by omega
      subst this
      exact ih)

/-! A RUN OF THE SMALL MACHINE IS A RUN OF THE MACHINE -/
def az_wk (k : Nat) : List Cond := .code (az_m k).1 (az_m k).2.1 (az_m k).2.2.1 (az_m k).2.2.2.1 :: lw_g
def az_rm (d mc ms : Nat) : Room := { frames := d, cells := mc, slots := ms, locals := 64 * d }
def az_Pc (sh : az_H) (ex : az_X) (base : Nat) (t : Nat → Nat) (D : va_G) (cA : Nat → ClassId) (vs : List Value) (σ : az_S) : Array Value → State → Prop := fun a U => a = (vs.map (az_v (az_ad t base))).toArray ∧ U.heap.size = base + σ.1 ∧ az_Pw sh base t D cA σ U.heap ∧ az_En ex base t D cA U
def az_Qc (sh : az_H) (base : Nat) (t : Nat → Nat) (D : va_G) (cA : Nat → ClassId) (v : Option Value) (σ' : az_S) : Array Value → State → Outcome → State → Prop := fun _ st o u => o = .returned (v.map (az_v (az_ad t base))) ∧ az_Pw sh base t D cA σ' u.heap ∧ va_F (fun q => base ≤ q) st u
def az_Met (l : Launch) (sh : az_H) (ex : az_X) (base : Nat) (t : Nat → Nat) (D : va_G) (cA : Nat → ClassId) (d k : Nat) (vs : List Value) (σ : az_S) (v : Option Value) (σ' : az_S) : Prop :=
  Met l (az_m k).1 (az_wk k) (az_rm d (σ'.1 - σ.1) (az_slots sh σ'.1 - az_slots sh σ.1)) (az_Pc sh ex base t D cA vs σ) (az_Qc sh base t D cA v σ') (σ'.1 - σ.1) (az_slots sh σ'.1 - az_slots sh σ.1) (fun q => base ≤ q)
/-- the entries of a method are what decode says -/
def az_gd (k : Nat) : Prop := ∀ (pc : Nat) (e : az_I), az_look (az_code k) pc = some e → az_ok k pc e = true
theorem az_slots_mono (sh : az_H) {a b : Nat} (h : a ≤ b) : az_slots sh a ≤ az_slots sh b := by
  obtain ⟨c, rfl⟩ := Nat.exists_eq_add_of_le h
  induction c with
  | zero => exact Nat.le_refl _
  | succ c ih =>
    refine Nat.le_trans (ih (Nat.le_add_right _ _)) ?_
    unfold az_slots
    rw [← Nat.add_assoc, List.take_succ, List.map_append, List.sum_append]
    omega
theorem az_step_e {sh : az_H} {ex : az_X} {d k pc : Nat} {L S : List Value} {σ : az_S} {r : az_T} (h : az_step sh ex d k pc L S σ = some r) : ∃ i a b z, az_look (az_code k) pc = some (i, a, b, z) ∧ az_i sh ex d (az_m k).2.2.2.1 (i, a, b, z) pc L S σ = some r := by
  unfold az_step at h
  split at h
  · rename_i e he
    exact ⟨e.1, e.2.1, e.2.2.1, e.2.2.2, he, h⟩
  · cases h
theorem az_run_ge {sh : az_H} {ex : az_X} : ∀ (n d k pc : Nat) (L S : List Value) (σ : az_S) (v : Option Value) (σ' : az_S), az_run sh ex n d k pc L S σ = some (v, σ') → σ.1 ≤ σ'.1 := by
  intro n
  induction n with
  | zero => intro d k pc L S σ v σ' h; simp [az_run] at h
  | succ n ih =>
    intro d k pc L S σ v σ' h
    unfold az_run at h
    split at h
    · cases h
    · rename_i hst
      obtain ⟨i, a, b, z, -, h1⟩ := az_step_e hst
      exact Nat.le_trans (az_i_ge h1) (ih _ _ _ _ _ _ _ _ h)
    · rename_i hst
      obtain ⟨i, a, b, z, -, h1⟩ := az_step_e hst
      cases h
      have := (az_i_ret h1).1
      dsimp only at this
      rw [this]
      exact Nat.le_refl _
    · split at h
      · cases h
      · split at h
        · cases h
        · rename_i h2
          exact Nat.le_trans (ih _ _ _ _ _ _ _ _ h2) (ih _ _ _ _ _ _ _ _ h)
theorem az_En.calling {ex : az_X} {base : Nat} {t : Nat → Nat} {D : va_G} {cA : Nat → ClassId} {U : State} {g : JFrame} {mk : MethodId} {a : Array Value} (h : az_En ex base t D cA U) : az_En ex base t D cA (U.calling g mk a) := by
  obtain ⟨h1, h2, h3, h4, h5, h6⟩ := h
  exact ⟨va_K.moved (u := U) (U := U.calling g mk a) (Vm.Alike.refl U.vm) h1, fun r hr => va_T.moved (u := U) (U := U.calling g mk a) (Vm.Alike.refl U.vm) (h2 r hr), va_Z.moved (u := U) (U := U.calling g mk a) (Vm.Alike.refl U.vm) h3, va_Z.moved (u := U) (U := U.calling g mk a) (Vm.Alike.refl U.vm) h4, va_AO.moved (u := U) (U := U.calling g mk a) (Vm.Alike.refl U.vm) h5, fun a i x h hm => va_Nw.same rfl rfl (h6 a i x h hm)⟩
theorem az_blind {sh : az_H} {ex : az_X} {base : Nat} {t : Nat → Nat} {D : va_G} {cA : Nat → ClassId} {vs : List Value} {σ : az_S} : FrameBlind (az_Pc sh ex base t D cA vs σ) := by
  intro a U g mk h
  obtain ⟨h1, h2, h3, h4⟩ := h
  exact ⟨h1, h2, h3, h4.calling⟩
theorem az_mok_spec {m : az_M} (h : az_mok m = true) : Cond.code m.1 m.2.1 m.2.2.1 m.2.2.2.1 ∈ lw_g ∧ Cond.initialized m.1.cls ∈ lw_g ∧ plainName m.1.cls = true ∧ m.2.2.1 ≤ 40 ∧ (m.1.cls ≠ "java/lang/invoke/MethodHandle" ∧ m.1.cls ≠ "java/lang/invoke/VarHandle" ∧ (parseMethodDescriptor m.1.desc).map (fun d => d.parameters.length) = some m.2.2.2.2.1) ∧
    (m.2.2.2.2.2.2.2.2.2.2 = 0 → Cond.static m.1 ∈ lw_g) ∧ (m.2.2.2.2.2.2.2.2.2.2 = 1 → Cond.instanceMethod m.1 ∈ lw_g ∧ Cond.selects m.1.cls m.1 m.1 ∈ lw_g ∧ (vwCl[m.2.2.2.2.2.1]?).map (fun q => q.1) = some m.1.cls) ∧ (m.2.2.2.2.2.2.2.2.2.2 = 2 → Cond.instanceMethod m.1 ∈ lw_g ∧ m.1.name = "<init>" ∧ m.2.2.2.1 = none) := by
  unfold az_mok at h
  simp only [Bool.and_eq_true] at h
  obtain ⟨⟨⟨⟨⟨h1, h2⟩, h3⟩, h4⟩, h5⟩, h6⟩ := h
  refine ⟨az_w_in h1, az_w_in h2, h3, of_decide_eq_true h4, of_decide_eq_true h5, fun e => ?_, fun e => ?_, fun e => ?_⟩
  · rw [e] at h6; exact az_w_in h6
  · rw [e] at h6
    simp only [Bool.and_eq_true] at h6
    exact ⟨az_w_in h6.1.1, az_w_in h6.1.2, of_decide_eq_true h6.2⟩
  · rw [e] at h6
    simp only [Bool.and_eq_true] at h6
    exact ⟨az_w_in h6.1, of_decide_eq_true h6.2⟩
theorem az_gi {k : Nat} (h : Cond.code (az_m k).1 (az_m k).2.1 (az_m k).2.2.1 (az_m k).2.2.2.1 ∈ lw_g) : GoodIn lw_g (az_wk k) := by
  intro w hw
  have hm : w ∈ lw_g := by
    rcases List.mem_cons.mp hw with rfl | hw
    · exact h
    · exact hw
  exact ⟨hm, good_of_word (List.mem_filter.mp hm).2⟩
theorem az_cl_spec {sh : az_H} {kind k pc : Nat} {S : List Value} {σ : az_S} {k' pc' : Nat} {vs S' : List Value} (h : az_cl sh kind k pc S σ = some (.inr (.inr (k', vs, pc', S')))) :
    k' = k ∧ pc' = pc + 3 ∧ S = vs.reverse ++ S' ∧ az_cat S' ≤ 8 ∧ (az_lay vs).length ≤ (az_m k).2.2.1 ∧ (kind = 0 → vs.length = (az_m k).2.2.2.2.1) ∧ (¬ kind = 0 → ∃ r As, vs = .ref r :: As ∧ As.length = (az_m k).2.2.2.2.1 ∧ (¬ kind = 2 → ∃ cs, az_k sh σ.1 r = some (0, (az_m k).2.2.2.2.2.1, cs))) := by
  unfold az_cl at h
  dsimp only at h
  have key : ∀ n : Nat, n ≤ S.length → S = (S.take n).reverse.reverse ++ S.drop n ∧ (S.take n).reverse.length = n := by
    intro n hn
    rw [List.reverse_reverse, List.take_append_drop, List.length_reverse, List.length_take]
    exact ⟨rfl, Nat.min_eq_left hn⟩
  by_cases h0 : kind = 0
  · simp only [if_pos h0] at h
    split at h
    · rename_i hc
      cases h
      obtain ⟨g1, g2⟩ := key _ hc.1
      exact ⟨rfl, rfl, g1, hc.2.1, hc.2.2, fun _ => g2, fun e => absurd h0 e⟩
    · cases h
  · simp only [if_neg h0] at h
    split at h
    · rename_i hc
      obtain ⟨g1, g2⟩ := key _ hc.1
      split at h
      · rename_i r As hvs
        split at h
        · rename_i h2
          cases h
          rw [hvs] at g2
          simp only [List.length_cons] at g2
          exact ⟨rfl, rfl, g1, hc.2.1, hc.2.2, fun e => absurd e h0, fun _ => ⟨r, As, hvs, by omega, fun e => absurd h2 e⟩⟩
        · split at h
          · rename_i ci cs hk
            split at h
            · rename_i hci
              cases h
              rw [hvs] at g2
              simp only [List.length_cons] at g2
              exact ⟨rfl, rfl, g1, hc.2.1, hc.2.2, fun e => absurd e h0, fun _ => ⟨r, As, hvs, by omega, fun _ => ⟨cs, by rw [hk, hci]⟩⟩⟩
            · cases h
          · cases h
      · cases h
    · cases h
section AZR
variable {p : Program} {l : Launch} {e : Env} {R : Room} {s : State} {m : MethodId} {args : Array Value} {below : List Frame} {meth : Method} {c : Code} {Q : State → Prop}
variable {sh : az_H} {ex : az_X} {base n0 d k pc pc' : Nat} {t : Nat → Nat} {D : va_G} {cA : Nat → ClassId} {L L' S S' : List Value} {σ σ' : az_S}
/-- behind a call -/
theorem az_fin {H : Heap} {locs : List Loc} {ls : Array Slot} {cells slots mc ms : Nat} {As : Array Value} {v1 : Option Value} {σ1 : az_S} (hrun : va_Run p l e R s m args below meth c H locs cells slots mc ms (F0 m pc ls (S.map (az_v (az_ad t base)))) (S'.map (az_v (az_ad t base))) (az_Qc sh base t D cA v1 σ1 As) (fun q => base ≤ q))
    (hS : va_S (fun q => base ≤ q) s.heap H locs) (hl : az_loc (az_ad t base) (az_m k).2.2.1 ls L) (hc : cells + mc + n0 = σ1.1) (hs : slots + ms + az_slots sh n0 = az_slots sh σ1.1)
    (kk : az_G (az_Wf p l e R s m args below meth c Q) s m sh base t D cA n0 (az_m k).2.2.1 (pc + 3) L (v1.toList ++ S') σ1) : W p l e R s m args below meth c H locs cells slots Q (F0 m pc ls (S.map (az_v (az_ad t base)))) := by
  intro T hT X
  obtain ⟨v, st0, u, T', L1, h0, X', hL, e1, e2, ⟨ho, hP1, hF⟩, st⟩ := hrun T hT X
  have hv : v = v1.map (az_v (az_ad t base)) := Outcome.returned.inj ho
  subst hv
  have hS1 : va_S (fun q => base ≤ q) s.heap T'.heap (locs ++ L1) := by
    rw [e1]
    refine ⟨Nat.le_trans hS.1 (by rw [← h0]; exact hF.1), fun q h1 h2 => ?_, fun q hq => ?_⟩
    · rw [hF.2 q (by rw [h0]; exact Nat.lt_of_lt_of_le h1 hS.1) h2, h0]
      exact hS.2.1 q h1 h2
    · rcases List.mem_append.mp hq with h | h
      · exact hS.2.2 q h
      · exact hL q h
  obtain ⟨t2, a1, b1⟩ := kk T'.heap (locs ++ L1) ls (cells + mc) (slots + ms) (by rw [e1]; exact hP1) hS1 hl hc hs T' rfl X'
  refine ⟨t2, st t2 ?_, b1⟩
  have e3 : (v1.toList ++ S').map (az_v (az_ad t base)) = (v1.map (az_v (az_ad t base))).toList ++ S'.map (az_v (az_ad t base)) := by cases v1 <;> rfl
  rw [e3] at a1
  exact a1
set_option maxHeartbeats 4000000 in
theorem az_call_ok (hmk : ∀ k, k < 258 → az_mok (az_m k) = true) (hC : az_Cx k p s m args meth c) (hE : az_En ex base t D cA s) (hdR : d + 1 ≤ R.frames ∧ 64 * (d + 1) ≤ R.locals) (hn0 : s.heap.size = base + n0) {i : Instr} {a b z : Nat} (hd : decode (az_m k).2.1 pc = .ok (i, az_ln i b)) (hok : az_ok2 k pc (i, a, b, z) = true)
    {rt : Option FieldType} {k' : Nat} {vs : List Value} {v1 : Option Value} {σ1 : az_S} {d0 : Nat} (hst : az_i sh ex d0 rt (i, a, b, z) pc L S σ = some (.inr (.inr (k', vs, pc', S')))) (hge : σ.1 ≤ σ1.1) (hrc : σ1.1 ≤ n0 + R.cells) (hrs : az_slots sh σ1.1 ≤ az_slots sh n0 + R.slots)
    (hM : (az_lay vs).length ≤ (az_m k').2.2.1 → k' < 258 → az_Met l sh ex base t D cA d k' vs σ v1 σ1)
    (kk : az_G (az_Wf p l e R s m args below meth c Q) s m sh base t D cA n0 (az_m k).2.2.1 pc' L (v1.toList ++ S') σ1) : az_G (az_Wf p l e R s m args below meth c Q) s m sh base t D cA n0 (az_m k).2.2.1 pc L S σ := by
  obtain ⟨hx, hb, hml, hown, hts, hnm⟩ := hC
  intro H locs ls cells slots hP hS hl hc hs
  show W p l e R s m args below meth c H locs cells slots Q _
  refine az_szW fun hsz => ?_
  have hge2 := az_size_ge hP hS hn0
  have hHs : H.size = base + σ.1 := by omega
  have hsm := az_slots_mono sh hge
  have hPc : ∀ U : State, U.heap = H → s.WarmedH U.vm → az_Pc sh ex base t D cA vs σ (vs.map (az_v (az_ad t base))).toArray U := fun U hU hW => ⟨rfl, by rw [hU]; exact hHs, by rw [hU]; exact hP, hE.to hS hU hW⟩
  have hf : cells + (σ1.1 - σ.1) ≤ R.cells ∧ slots + (az_slots sh σ1.1 - az_slots sh σ.1) ≤ R.slots := ⟨by omega, by omega⟩
  have hc2 : cells + (σ1.1 - σ.1) + n0 = σ1.1 := by omega
  have hs2 : slots + (az_slots sh σ1.1 - az_slots sh σ.1) + az_slots sh n0 = az_slots sh σ1.1 := by omega
  have S0 : CallFix p m c (az_m k).2.1 (az_m k).2.2.1 s args lw_g (az_m k).1.cls := ⟨hx, hb, hml, hown, hts⟩
  have nestw : ∀ {q : Nat}, az_wn z (.methodLinkNest (az_m k).1.cls q (az_m a).1 "FingerSaysFar") = true → va_Nw (.methodLinkNest (az_m k).1.cls q (az_m a).1 "FingerSaysFar") s := fun h => hE.2.2.2.2.2 _ _ _ _ (List.mem_of_getElem? (of_decide_eq_true h))
  rcases az_i_call hst with ⟨q, rfl, a1, a2, a3, hcl⟩ | ⟨q, rfl, a1, hcl⟩ | ⟨q, rfl, hcl⟩
  · obtain ⟨rfl, rfl, g3, g4, g5, g6, -⟩ := az_cl_spec hcl
    replace hok : (if k' = 9999 then az_w z (.methodLink (az_m k).1.cls q arraycopyName) else if k' = 9997 then az_w z (.methodLink (az_m k).1.cls q Lib.Math.max.name) else if k' = 9996 then az_w z (.methodLink (az_m k).1.cls q Lib.Math.min.name) else az_cok (az_m k).1.cls q 0 k' b z) = true := hok
    rw [if_neg a1, if_neg a2, if_neg a3] at hok
    unfold az_cok at hok
    simp only [Bool.and_eq_true, decide_eq_true_eq] at hok
    obtain ⟨⟨o1, o2⟩, o3⟩ := hok
    obtain ⟨m1, m2, m3, m4, m5, m6, -⟩ := az_mok_spec (hmk k' o1)
    have hM := hM g5 o1
    have hroom : (az_rm d (σ1.1 - σ.1) (az_slots sh σ1.1 - az_slots sh σ.1)).frames + 1 ≤ R.frames ∧ 8 + ((az_m k').2.2.1 + 11) + (az_rm d (σ1.1 - σ.1) (az_slots sh σ1.1 - az_slots sh σ.1)).locals ≤ R.locals := ⟨hdR.1, by show 8 + _ + 64 * d ≤ _; omega⟩
    have hstk : S.map (az_v (az_ad t base)) = (vs.map (az_v (az_ad t base))).reverse ++ S'.map (az_v (az_ad t base)) := by rw [g3, List.map_append, List.map_reverse]
    have hlen : (vs.map (az_v (az_ad t base))).length = (az_m k').2.2.2.2.1 := by rw [List.length_map]; exact g6 rfl
    split at o3
    · exact az_fin (va_runSN S0 hM ⟨va_cnB _ hts (az_gi m1) rfl rfl rfl (nestw o3) (hts _ m2) m5 hroom, hts _ (m6 o2), trivial⟩ ⟨az_blind, hPc⟩ rfl hlen hl.2.1 hstk (lv_room (by rw [az_cat_map]; exact g4)) hd hf) hS hl hc2 hs2 kk
    · exact az_fin (va_runS S0 hM ⟨callB_of _ hts (az_gi m1) rfl rfl rfl (hts _ m2) (hts _ (az_w_in o3)) m5 hroom, hts _ (m6 o2)⟩ ⟨az_blind, hPc⟩ rfl hlen hl.2.1 hstk (lv_room (by rw [az_cat_map]; exact g4)) hd hf) hS hl hc2 hs2 kk
  · obtain ⟨rfl, rfl, g3, g4, g5, -, g7⟩ := az_cl_spec hcl
    obtain ⟨r, As, rfl, g8, -⟩ := g7 (by decide)
    replace hok : (if k' = 9998 then az_w z (.methodLink (az_m k).1.cls q objectInit) else az_cok (az_m k).1.cls q 2 k' b z) = true := hok
    rw [if_neg a1] at hok
    unfold az_cok at hok
    simp only [Bool.and_eq_true, decide_eq_true_eq] at hok
    obtain ⟨⟨o1, o2⟩, o3⟩ := hok
    obtain ⟨m1, m2, m3, m4, m5, -, -, m8⟩ := az_mok_spec (hmk k' o1)
    obtain ⟨n1, n2, n3⟩ := m8 o2
    have hM := hM g5 o1
    have hroom : (az_rm d (σ1.1 - σ.1) (az_slots sh σ1.1 - az_slots sh σ.1)).frames + 1 ≤ R.frames ∧ 8 + ((az_m k').2.2.1 + 11) + (az_rm d (σ1.1 - σ.1) (az_slots sh σ1.1 - az_slots sh σ.1)).locals ≤ R.locals := ⟨hdR.1, by show 8 + _ + 64 * d ≤ _; omega⟩
    have hstk : S.map (az_v (az_ad t base)) = (As.map (az_v (az_ad t base))).reverse ++ .ref (az_ad t base r) :: S'.map (az_v (az_ad t base)) := by
      rw [g3, List.reverse_cons, List.append_assoc, List.map_append, List.map_reverse]
      rfl
    have hlen : (As.map (az_v (az_ad t base))).length = (az_m k').2.2.2.2.1 := by rw [List.length_map]; exact g8
    have hw : az_wk k' = Cond.code (az_m k').1 (az_m k').2.1 (az_m k').2.2.1 none :: lw_g := by unfold az_wk; rw [n3]
    split at o3
    · exact az_fin (va_runIN S0 hM ⟨va_cnB _ hts (az_gi m1) hw rfl rfl (nestw o3) (hts _ m2) m5 hroom, n2, hts _ n1⟩ ⟨az_blind, hPc⟩ rfl hlen hl.2.1 hstk (lv_room (by rw [az_cat_map]; exact g4)) hd hf) hS hl hc2 hs2 kk
    · exact az_fin (va_runI S0 hM ⟨callB_of _ hts (az_gi m1) hw rfl rfl (hts _ m2) (hts _ (az_w_in o3)) m5 hroom, n2, hts _ n1⟩ ⟨az_blind, hPc⟩ rfl hlen hl.2.1 hstk (lv_room (by rw [az_cat_map]; exact g4)) hd hf) hS hl hc2 hs2 kk
  · obtain ⟨rfl, rfl, g3, g4, g5, -, g7⟩ := az_cl_spec hcl
    obtain ⟨r, As, rfl, g8, g9⟩ := g7 (by decide)
    obtain ⟨cs, g9⟩ := g9 (by decide)
    replace hok : az_cok (az_m k).1.cls q 1 k' b z = true := hok
    unfold az_cok at hok
    simp only [Bool.and_eq_true, decide_eq_true_eq] at hok
    obtain ⟨⟨o1, o2⟩, o3⟩ := hok
    obtain ⟨m1, m2, m3, m4, m5, -, m7, -⟩ := az_mok_spec (hmk k' o1)
    obtain ⟨n1, n2, n3⟩ := m7 o2
    have hM := hM g5 o1
    have hroom : (az_rm d (σ1.1 - σ.1) (az_slots sh σ1.1 - az_slots sh σ.1)).frames + 1 ≤ R.frames ∧ 8 + ((az_m k').2.2.1 + 11) + (az_rm d (σ1.1 - σ.1) (az_slots sh σ1.1 - az_slots sh σ.1)).locals ≤ R.locals := ⟨hdR.1, by show 8 + _ + 64 * d ≤ _; omega⟩
    have hstk : S.map (az_v (az_ad t base)) = (As.map (az_v (az_ad t base))).reverse ++ .ref (az_ad t base r) :: S'.map (az_v (az_ad t base)) := by
      rw [g3, List.reverse_cons, List.append_assoc, List.map_append, List.map_reverse]
      rfl
    have hlen : (As.map (az_v (az_ad t base))).length = (az_m k').2.2.2.2.1 := by rw [List.length_map]; exact g8
    obtain ⟨qc, hq1, hq2⟩ : ∃ qc, vwCl[(az_m k').2.2.2.2.2.1]? = some qc ∧ qc.1 = (az_m k').1.cls := by
      cases hv : vwCl[(az_m k').2.2.2.2.2.1]? with
      | none => rw [hv] at n3; cases n3
      | some qc => rw [hv] at n3; exact ⟨qc, rfl, Option.some.inj n3⟩
    have hrecv := va_recv hE.1 hP.1 hq1 (az_ws_at g9)
    rw [hq2] at hrecv
    split at o3
    · exact az_fin (va_runVN S0 hM ⟨va_cnB _ hts (az_gi m1) rfl rfl rfl (nestw o3) (hts _ m2) m5 hroom, hts _ n1, hts _ n2⟩ ⟨az_blind, hrecv, hPc⟩ rfl hlen hl.2.1 hstk (lv_room (by rw [az_cat_map]; exact g4)) hd hf) hS hl hc2 hs2 kk
    · exact az_fin (va_runV S0 hM ⟨callB_of _ hts (az_gi m1) rfl rfl rfl (hts _ m2) (hts _ (az_w_in o3)) m5 hroom, hts _ n1, hts _ n2⟩ ⟨az_blind, hrecv, hPc⟩ rfl hlen hl.2.1 hstk (lv_room (by rw [az_cat_map]; exact g4)) hd hf) hS hl hc2 hs2 kk
end AZR

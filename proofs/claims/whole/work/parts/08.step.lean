/-! ONE STEP OF THE SMALL MACHINE IS A STEP OF THE MACHINE -/
abbrev az_Wf (p : Program) (l : Launch) (e : Env) (R : Room) (s : State) (m : MethodId) (args : Array Value) (below : List Frame) (meth : Method) (c : Code) (Q : State → Prop) : Heap → List Loc → Nat → Nat → JFrame → Prop := fun H locs cells slots g => W p l e R s m args below meth c H locs cells slots Q g
def az_G (Wf : Heap → List Loc → Nat → Nat → JFrame → Prop) (s : State) (m : MethodId) (sh : az_H) (base : Nat) (t : Nat → Nat) (D : va_G) (cA : Nat → ClassId) (n0 nL pc : Nat) (L S : List Value) (σ : az_S) : Prop :=
  ∀ (H : Heap) (locs : List Loc) (ls : Array Slot) (cells slots : Nat), az_Pw sh base t D cA σ H → va_S (fun q => base ≤ q) s.heap H locs → az_loc (az_ad t base) nL ls L → cells + n0 = σ.1 → slots + az_slots sh n0 = az_slots sh σ.1 → Wf H locs cells slots (F0 m pc ls (S.map (az_v (az_ad t base))))
/-- a method's body runs: the machine, its code, the words -/
def az_Cx (k : Nat) (p : Program) (s : State) (m : MethodId) (args : Array Value) (meth : Method) (c : Code) : Prop :=
  p.tables.exec = Jvm.exec ∧ c.code = (az_m k).2.1 ∧ c.maxLocals = (az_m k).2.2.1 ∧ s.vm.findClass (az_m k).1.cls = some m.cls ∧ (∀ w ∈ lw_g, w.before args s = true) ∧ ((az_m k).1.name = "<init>" → meth.name = "<init>")
theorem az_ok_f {k pc q a b z : Nat} (h : az_ok2 k pc (.getfield q, a, b, z) = true) : ∃ qc, vwCl[a]? = some qc ∧ b < qc.2.2 ∧ az_w z (.fieldLink (az_m k).1.cls q (qc.2.1 b).1 (qc.2.1 b).2.1 (qc.2.1 b).2.2.1) = true := by
  unfold az_ok2 at h
  dsimp only at h
  split at h
  · rename_i qc hq
    rw [Bool.and_eq_true] at h
    exact ⟨qc, hq, of_decide_eq_true h.1, h.2⟩
  · cases h
theorem az_ok_p {k pc q a b z : Nat} (h : az_ok2 k pc (.putfield q, a, b, z) = true) : ∃ qc, vwCl[a]? = some qc ∧ b < qc.2.2 ∧ az_w z (.fieldLink (az_m k).1.cls q (qc.2.1 b).1 (qc.2.1 b).2.1 (qc.2.1 b).2.2.1) = true ∧ ((qc.2.1 b).2.2.2 = true → (az_m k).1.name = "<init>" ∧ (qc.2.1 b).1 = (az_m k).1.cls) := by
  unfold az_ok2 at h
  dsimp only at h
  split at h
  · rename_i qc hq
    simp only [Bool.and_eq_true, Bool.or_eq_true, decide_eq_true_eq, Bool.not_eq_true'] at h
    refine ⟨qc, hq, h.1.1, h.1.2, fun ht => ?_⟩
    rcases h.2 with e | e
    · rw [ht] at e; cases e
    · exact e
  · cases h
theorem az_ok_n {k pc q a b z : Nat} (h : az_ok2 k pc (.new q, a, b, z) = true) : ∃ qc, vwCl[a]? = some qc ∧ az_w z (.classLink (az_m k).1.cls q qc.1) = true := by
  unfold az_ok2 at h
  dsimp only at h
  split at h
  · rename_i qc hq
    exact ⟨qc, hq, h⟩
  · cases h
theorem az_nw_spec {sh : az_H} {σ σ' : az_S} {tg c : Nat} (h : az_nw sh σ tg c = some σ') : ∃ cs, sh[σ.1]? = some (tg, c, cs) ∧ (∀ x ∈ cs, x ≤ 2) ∧ σ' = (σ.1 + 1, az_ur σ.2.1 (σ.1 + 3) (fun _ => 0), az_ur σ.2.2.1 (σ.1 + 3) (fun _ => 0), az_ur σ.2.2.2 (σ.1 + 3) (fun _ => none)) := by
  unfold az_nw at h
  split at h
  · rename_i t' c' cs hk
    split at h
    · rename_i hc
      obtain ⟨rfl, rfl, hcs⟩ := hc
      cases h
      exact ⟨cs, hk, fun x hx => by have := List.all_eq_true.mp hcs x hx; simpa using this, rfl⟩
    · cases h
  · cases h
theorem az_shn {sh : az_H} (hsh : sh.all az_shc = true) {i ci : Nat} {cs : List Nat} {q : vw_C} (h : sh[i]? = some (0, ci, cs)) (hq : vwCl[ci]? = some q) : cs.length = q.2.2 ∧ ∀ j, j < q.2.2 → ∀ (ad : Nat → Nat) (σ : az_S), σ.2.1 (i + 3) = (fun _ => 0) → σ.2.2.2 (i + 3) = (fun _ => none) → (∀ x ∈ cs, x ≤ 2) → defaultValue (az_tyf q.2.1 j) = vp_V (cs.mapIdx fun k c => az_fv ad σ (i + 3) k c) j := by
  have h1 := List.all_eq_true.mp hsh _ (List.mem_of_getElem? h)
  unfold az_shc at h1
  rw [if_pos rfl] at h1
  dsimp only at h1
  rw [hq] at h1
  simp only [Bool.and_eq_true, decide_eq_true_eq, List.all_eq_true, List.mem_range] at h1
  refine ⟨h1.1, fun j hj ad σ e1 e2 hx => ?_⟩
  have hjl : j < cs.length := by omega
  have hf := h1.2 j hj
  have hcd : cs[j]? = some cs[j] := List.getElem?_eq_getElem hjl
  rw [hcd] at hf
  have hle := hx _ (List.mem_of_getElem? hcd)
  have hV : vp_V (cs.mapIdx fun k c => az_fv ad σ (i + 3) k c) j = az_fv ad σ (i + 3) j cs[j] := by
    unfold vp_V
    simp [List.getD, List.getElem?_mapIdx, hcd]
  rw [hV]
  generalize cs[j] = cd at hf hle
  unfold az_fk at hf
  unfold az_tyf
  split at hf
  · rename_i hp; rw [hp]; have : cd = 0 := by simpa using hf
    subst this; simp [az_fv, e1, defaultValue]
  · rename_i hp; rw [hp]; have : cd = 1 := by simpa using hf
    subst this; simp [az_fv, e1, defaultValue]
  · rename_i hp; rw [hp]
    have : cd = 2 := by
      match cd, hf, hle with
      | 2, _, _ => rfl
      | 0, hf, _ => cases hf
      | 1, hf, _ => cases hf
    subst this; simp [az_fv, e2, defaultValue, va_rf]
  · rename_i hp; rw [hp]
    have : cd = 2 := by
      match cd, hf, hle with
      | 2, _, _ => rfl
      | 0, hf, _ => cases hf
      | 1, hf, _ => cases hf
    subst this; simp [az_fv, e2, defaultValue, va_rf]
  · cases hf
theorem az_push {sh : az_H} {base : Nat} {t : Nat → Nat} {D : va_G} {cA : Nat → ClassId} {σ σ' : az_S} {q : Nat × Nat × List Nat} {H H1 : Heap} (hq : sh[σ.1]? = some q) (hn : σ'.1 = σ.1 + 1) (ho : ∀ (j : Nat) (q : Nat × Nat × List Nat), j ≠ σ.1 + 3 → az_e (az_ad t base) cA σ' j q = az_e (az_ad t base) cA σ j q)
    (hP : az_Pw sh base t D cA σ H) (hz : H1.size = H.size + 1) (hk : ∀ q : Nat, q < H.size → H1[q]? = H[q]?) (hat : va_at D vwCl (az_ad t base (σ.1 + 3), az_e (az_ad t base) cA σ' (σ.1 + 3) q) H1) : az_Pw sh base t D cA σ' H1 := by
  refine ⟨?_, by rw [hn]; exact (List.getElem?_eq_some_iff.mp hq).1⟩
  have e : az_ws sh (az_ad t base) cA σ' = az_ws sh (az_ad t base) cA σ ++ [(az_ad t base (σ.1 + 3), az_e (az_ad t base) cA σ' (σ.1 + 3) q)] := by
    unfold az_ws
    rw [hn, List.range_succ, List.map_append]
    congr 1
    · apply List.map_congr_left
      intro i hi
      have := List.mem_range.mp hi
      rw [ho (i + 3) _ (by omega)]
    · simp [hq]
  rw [e]
  refine (hP.1.kept (fun k x hx => hk x.1 ((hP.1 k x hx).lt))).app (fun k x hx => ?_)
  have hz : k < 1 := (List.getElem?_eq_some_iff.mp hx).1
  rw [show k = 0 by omega] at hx
  cases hx
  exact hat
theorem az_size_ge {s : State} {sh : az_H} {base n0 : Nat} {t : Nat → Nat} {D : va_G} {cA : Nat → ClassId} {σ : az_S} {H : Heap} {locs : List Loc} (hP : az_Pw sh base t D cA σ H) (hS : va_S (fun q => base ≤ q) s.heap H locs) (hn0 : s.heap.size = base + n0) : base + σ.1 ≤ H.size := by
  by_cases h0 : σ.1 = 0
  · have := hS.1
    omega
  · have hk : az_k sh σ.1 (σ.1 - 1 + 3) = sh[σ.1 - 1]? := by
      unfold az_k
      rw [if_pos ⟨by omega, by omega⟩]
      congr 1
    have hl : σ.1 - 1 < sh.length := by have := hP.2; omega
    rw [List.getElem?_eq_getElem hl] at hk
    have := (hP.1 _ _ (az_ws_at hk)).lt
    have e : az_ad t base (σ.1 - 1 + 3) = base + (σ.1 - 1) := by unfold az_ad; rw [if_neg (by omega)]; omega
    rw [e] at this
    omega
theorem az_sha {sh : az_H} (hsh : sh.all az_shc = true) {i tg n : Nat} {cs : List Nat} (h : sh[i]? = some (tg + 1, n, cs)) : n ≤ 100000 := by
  have h1 := List.all_eq_true.mp hsh _ (List.mem_of_getElem? h)
  unfold az_shc at h1
  rw [if_neg (by simp)] at h1
  simpa using h1
theorem az_by {n m : Nat} (h : m ≤ 8) (hn : n ≤ 100000) : n * m ≤ 536870912 := by
  have := Nat.mul_le_mul hn h
  omega
theorem az_cl_no {sh : az_H} {kind k pc : Nat} {S : List Value} {σ : az_S} {x : Nat × List Value × List Value × az_S} : ¬ az_cl sh kind k pc S σ = some (.inl x) := by
  intro h
  unfold az_cl at h
  dsimp only at h
  by_cases h0 : kind = 0
  · simp only [if_pos h0] at h
    split at h <;> cases h
  · simp only [if_neg h0] at h
    split at h
    · split at h
      · split at h
        · cases h
        · split at h
          · split at h <;> cases h
          · cases h
      · cases h
    · cases h
section AZ
variable {p : Program} {l : Launch} {e : Env} {R : Room} {s : State} {m : MethodId} {args : Array Value} {below : List Frame} {meth : Method} {c : Code} {Q : State → Prop}
variable {sh : az_H} {ex : az_X} {base n0 d k pc pc' : Nat} {t : Nat → Nat} {D : va_G} {cA : Nat → ClassId} {L L' S S' : List Value} {σ σ' : az_S}
theorem az_szW {H : Heap} {locs : List Loc} {cells slots : Nat} {g : JFrame} (h : H.size ≤ s.heap.size + cells → W p l e R s m args below meth c H locs cells slots Q g) : W p l e R s m args below meth c H locs cells slots Q g := fun T hT X => h (by have h1 := X.same.2.2.1; rw [← hT]; exact h1) T hT X
set_option maxHeartbeats 4000000 in
theorem az_step_1 (hC : az_Cx k p s m args meth c) (hE : az_En ex base t D cA s) (hsh : sh.all az_shc = true) (hdR : d ≤ R.frames ∧ 64 * d ≤ R.locals) (hn0 : s.heap.size = base + n0) (hrc : σ'.1 ≤ n0 + R.cells) (hrs : az_slots sh σ'.1 ≤ az_slots sh n0 + R.slots) {rt : Option FieldType} {i : Instr} {a b z : Nat} (hd : decode (az_m k).2.1 pc = .ok (i, az_ln i b)) (hok : az_ok2 k pc (i, a, b, z) = true)
    (hst : az_i sh ex d rt (i, a, b, z) pc L S σ = some (.inl (pc', L', S', σ')))
    (kk : az_G (az_Wf p l e R s m args below meth c Q) s m sh base t D cA n0 (az_m k).2.2.1 pc' L' S' σ') : az_G (az_Wf p l e R s m args below meth c Q) s m sh base t D cA n0 (az_m k).2.2.1 pc L S σ := by
  obtain ⟨hx, hb, hml, hown, hts, hnm⟩ := hC
  have hK := hE.1
  intro H locs ls cells slots hP hS hl hc hs
  show W p l e R s m args below meth c H locs cells slots Q _
  cases i
  case iconst q =>
    have h2 : Int32.ofInt q = az_z b := of_decide_eq_true hok
    cases hst
    exact lv_iconst hx hb hd h2 (kk H locs ls cells slots hP hS hl hc hs)
  case bipush q =>
    have h2 : (Int8.ofInt q).toInt32 = az_z b := of_decide_eq_true hok
    cases hst
    exact lv_bipush hx hb hd h2 (kk H locs ls cells slots hP hS hl hc hs)
  case sipush q =>
    have h2 : (Int16.ofInt q).toInt32 = az_z b := of_decide_eq_true hok
    cases hst
    exact lv_sipush hx hb hd h2 (kk H locs ls cells slots hP hS hl hc hs)
  case lconst q =>
    have h2 : Int64.ofNat q.val = az_zl b := of_decide_eq_true hok
    cases hst
    exact lv_lconst hx hb hd h2 (kk H locs ls cells slots hP hS hl hc hs)
  case ldc q =>
    have h2 := az_w_in (show az_w z (.constant (az_m k).1.cls q (az_z b)) = true from hok)
    cases hst
    exact lv_ldc hx hb hown (hts _ h2) hd (kk H locs ls cells slots hP hS hl hc hs)
  case ldc_w q =>
    have h2 := az_w_in (show az_w z (.constant (az_m k).1.cls q (az_z b)) = true from hok)
    cases hst
    exact lv_ldcw hx hb hown (hts _ h2) hd (kk H locs ls cells slots hP hS hl hc hs)
  case ldc2_w q =>
    have h2 := az_w_in (show az_w z (.constantLong (az_m k).1.cls q (az_zl b)) = true from hok)
    cases hst
    exact lv_ldc2 hx hb hown (hts _ h2) hd (kk H locs ls cells slots hP hS hl hc hs)
  case aconst_null =>
    cases hst
    exact lv_null hx hb hd (kk H locs ls cells slots hP hS hl hc hs)
  case iload_n q =>
    replace hst : az_li L q.val 1 pc S σ = _ := hst
    unfold az_li at hst
    split at hst
    · rename_i h
      cases hst
      exact lv_iload_n hx hb hd rfl (hl.at h (fun _ e => by cases e)) (kk H locs ls cells slots hP hS hl hc hs)
    · cases hst
  case iload q =>
    replace hst : az_li L q 2 pc S σ = _ := hst
    unfold az_li at hst
    split at hst
    · rename_i h
      cases hst
      exact lv_iload hx hb hd (hl.at h (fun _ e => by cases e)) (kk H locs ls cells slots hP hS hl hc hs)
    · cases hst
  case lload_n q =>
    replace hst : az_ll L q.val 1 pc S σ = _ := hst
    unfold az_ll at hst
    split at hst
    · rename_i h
      cases hst
      exact lv_lload_n hx hb hd rfl (hl.at h (fun _ e => by cases e)) (kk H locs ls cells slots hP hS hl hc hs)
    · cases hst
  case lload q =>
    replace hst : az_ll L q 2 pc S σ = _ := hst
    unfold az_ll at hst
    split at hst
    · rename_i h
      cases hst
      exact lv_lload hx hb hd (hl.at h (fun _ e => by cases e)) (kk H locs ls cells slots hP hS hl hc hs)
    · cases hst
  case aload_n q =>
    replace hst : az_la L q.val 1 pc S σ = _ := hst
    unfold az_la at hst
    split at hst
    · rename_i h
      cases hst
      exact lv_aload_n hx hb hd rfl (hl.at h (fun _ e => by cases e)) (kk H locs ls cells slots hP hS hl hc hs)
    · rename_i h
      cases hst
      exact lv_aload_nN hx hb hd rfl (hl.at h (fun _ e => by cases e)) (kk H locs ls cells slots hP hS hl hc hs)
    · cases hst
  case aload q =>
    replace hst : az_la L q 2 pc S σ = _ := hst
    unfold az_la at hst
    split at hst
    · rename_i h
      cases hst
      exact lv_aload hx hb hd (hl.at h (fun _ e => by cases e)) (kk H locs ls cells slots hP hS hl hc hs)
    · rename_i h
      cases hst
      exact lv_aloadN hx hb hd (hl.at h (fun _ e => by cases e)) (kk H locs ls cells slots hP hS hl hc hs)
    · cases hst
  case istore_n q =>
    replace hst : az_wi L q.val 1 pc S σ = _ := hst
    unfold az_wi at hst
    split at hst
    · split at hst
      · rename_i h
        cases hst
        exact lv_istore_n hx hb hd rfl hl.has (by rw [← hl.1]; exact az_st_lt h) rfl (fun ls' hl' => kk H locs ls' cells slots hP hS (az_loc.put hl.1 h hl') hc hs)
      · cases hst
    · cases hst
  case istore q =>
    replace hst : az_wi L q 2 pc S σ = _ := hst
    unfold az_wi at hst
    split at hst
    · split at hst
      · rename_i h
        cases hst
        exact lv_istore hx hb hd hl.has (by rw [← hl.1]; exact az_st_lt h) rfl (fun ls' hl' => kk H locs ls' cells slots hP hS (az_loc.put hl.1 h hl') hc hs)
      · cases hst
    · cases hst
  case astore_n q =>
    replace hst : az_wa L q.val 1 pc S σ = _ := hst
    unfold az_wa at hst
    split at hst
    · split at hst
      · rename_i h
        cases hst
        exact lv_astore_n hx hb hd rfl hl.has (by rw [← hl.1]; exact az_st_lt h) rfl (fun ls' hl' => kk H locs ls' cells slots hP hS (az_loc.put hl.1 h hl') hc hs)
      · cases hst
    · split at hst
      · rename_i h
        cases hst
        exact lv_astore_nN hx hb hd rfl hl.has (by rw [← hl.1]; exact az_st_lt h) rfl (fun ls' hl' => kk H locs ls' cells slots hP hS (az_loc.put hl.1 h hl') hc hs)
      · cases hst
    · cases hst
  case astore q =>
    replace hst : az_wa L q 2 pc S σ = _ := hst
    unfold az_wa at hst
    split at hst
    · split at hst
      · rename_i h
        cases hst
        exact lv_astore hx hb hd hl.has (by rw [← hl.1]; exact az_st_lt h) rfl (fun ls' hl' => kk H locs ls' cells slots hP hS (az_loc.put hl.1 h hl') hc hs)
      · cases hst
    · split at hst
      · rename_i h
        cases hst
        exact lv_astoreN hx hb hd hl.has (by rw [← hl.1]; exact az_st_lt h) rfl (fun ls' hl' => kk H locs ls' cells slots hP hS (az_loc.put hl.1 h hl') hc hs)
      · cases hst
    · cases hst
  case iinc q w =>
    replace hst : az_inc q w pc L S σ = _ := hst
    unfold az_inc at hst
    split at hst
    · rename_i h1
      split at hst
      · rename_i h
        cases hst
        obtain ⟨j, hj⟩ := List.getElem?_of_mem (az_as_mem (ad := az_ad t base) h1 (fun _ e => by cases e))
        exact lv_iinc hx hb hd hl.has hj rfl (by rw [← hl.1]; exact az_st_lt h) rfl (fun ls' hl' => kk H locs ls' cells slots hP hS (az_loc.put hl.1 h hl') hc hs)
      · cases hst
    · cases hst
  case iadd =>
    replace hst : az_b2 (fun x y => x + y) L pc S σ = _ := hst
    unfold az_b2 at hst
    split at hst
    · cases hst
      exact lv_iadd hx hb hd (kk H locs ls cells slots hP hS hl hc hs)
    · cases hst
  case isub =>
    replace hst : az_b2 (fun x y => x - y) L pc S σ = _ := hst
    unfold az_b2 at hst
    split at hst
    · cases hst
      exact lv_isub hx hb hd (kk H locs ls cells slots hP hS hl hc hs)
    · cases hst
  case imul =>
    replace hst : az_b2 (fun x y => x * y) L pc S σ = _ := hst
    unfold az_b2 at hst
    split at hst
    · cases hst
      exact lv_imul hx hb hd (kk H locs ls cells slots hP hS hl hc hs)
    · cases hst
  case iand =>
    replace hst : az_b2 (fun x y => x &&& y) L pc S σ = _ := hst
    unfold az_b2 at hst
    split at hst
    · cases hst
      exact lv_iand hx hb hd (kk H locs ls cells slots hP hS hl hc hs)
    · cases hst
  case ior =>
    replace hst : az_b2 (fun x y => x ||| y) L pc S σ = _ := hst
    unfold az_b2 at hst
    split at hst
    · cases hst
      exact lv_ior hx hb hd (kk H locs ls cells slots hP hS hl hc hs)
    · cases hst
  case ixor =>
    replace hst : az_b2 (fun x y => x ^^^ y) L pc S σ = _ := hst
    unfold az_b2 at hst
    split at hst
    · cases hst
      exact lv_ixor hx hb hd (kk H locs ls cells slots hP hS hl hc hs)
    · cases hst
  case ishl =>
    replace hst : az_b2 (fun x y => x <<< (y &&& 31)) L pc S σ = _ := hst
    unfold az_b2 at hst
    split at hst
    · cases hst
      exact lv_ishl hx hb hd (kk H locs ls cells slots hP hS hl hc hs)
    · cases hst
  case ishr =>
    replace hst : az_b2 (fun x y => x >>> (y &&& 31)) L pc S σ = _ := hst
    unfold az_b2 at hst
    split at hst
    · cases hst
      exact lv_ishr hx hb hd (kk H locs ls cells slots hP hS hl hc hs)
    · cases hst
  case iushr =>
    replace hst : az_b2 (fun x y => (x.toUInt32 >>> (y.toUInt32 &&& Int32.toUInt32 31)).toInt32) L pc S σ = _ := hst
    unfold az_b2 at hst
    split at hst
    · cases hst
      exact lv_iushr hx hb hd rfl (kk H locs ls cells slots hP hS hl hc hs)
    · cases hst
  case ineg =>
    replace hst : az_b1 (fun x => -x) L pc S σ = _ := hst
    unfold az_b1 at hst
    split at hst
    · cases hst
      exact lv_ineg hx hb hd (kk H locs ls cells slots hP hS hl hc hs)
    · cases hst
  case i2b =>
    replace hst : az_b1 (fun x => x.toInt8.toInt32) L pc S σ = _ := hst
    unfold az_b1 at hst
    split at hst
    · cases hst
      exact lv_i2b hx hb hd rfl (kk H locs ls cells slots hP hS hl hc hs)
    · cases hst
  case i2s =>
    replace hst : az_b1 (fun x => x.toInt16.toInt32) L pc S σ = _ := hst
    unfold az_b1 at hst
    split at hst
    · cases hst
      exact lv_i2s hx hb hd rfl (kk H locs ls cells slots hP hS hl hc hs)
    · cases hst
  case land =>
    replace hst : az_b2l (fun x y => x &&& y) L pc S σ = _ := hst
    unfold az_b2l at hst
    split at hst
    · cases hst
      exact lv_land hx hb hd (kk H locs ls cells slots hP hS hl hc hs)
    · cases hst
  case lor =>
    replace hst : az_b2l (fun x y => x ||| y) L pc S σ = _ := hst
    unfold az_b2l at hst
    split at hst
    · cases hst
      exact lv_lor hx hb hd (kk H locs ls cells slots hP hS hl hc hs)
    · cases hst
  case lshl =>
    replace hst : az_lsh pc L S σ = _ := hst
    unfold az_lsh at hst
    split at hst
    · cases hst
      exact lv_lshl hx hb hd rfl (kk H locs ls cells slots hP hS hl hc hs)
    · cases hst
  case lcmp =>
    replace hst : az_lcm pc L S σ = _ := hst
    unfold az_lcm at hst
    split at hst
    · cases hst
      exact W.lcmp hx hb hd (kk H locs ls cells slots hP hS hl hc hs)
    · cases hst
  case i2l =>
    replace hst : az_i2l pc L S σ = _ := hst
    unfold az_i2l at hst
    split at hst
    · cases hst
      exact lv_i2l hx hb hd rfl (kk H locs ls cells slots hP hS hl hc hs)
    · cases hst
  case l2i =>
    replace hst : az_l2i pc L S σ = _ := hst
    unfold az_l2i at hst
    split at hst
    · cases hst
      exact lv_l2i hx hb hd rfl (kk H locs ls cells slots hP hS hl hc hs)
    · cases hst
  case idiv =>
    replace hst : az_div pc L S σ = _ := hst
    unfold az_div at hst
    split at hst
    · split at hst
      · cases hst
      · rename_i h
        cases hst
        exact lv_idiv hx hb hd h (kk H locs ls cells slots hP hS hl hc hs)
    · cases hst
  case irem =>
    replace hst : az_rem pc L S σ = _ := hst
    unfold az_rem at hst
    split at hst
    · split at hst
      · cases hst
      · rename_i h
        cases hst
        exact lv_irem hx hb hd h (kk H locs ls cells slots hP hS hl hc hs)
    · cases hst
  case dup =>
    replace hst : az_dup pc L S σ = _ := hst
    unfold az_dup at hst
    split at hst
    · split at hst
      · rename_i h
        cases hst
        exact lv_dup hx hb hd ((az_v_cat _ _).trans h) (kk H locs ls cells slots hP hS hl hc hs)
      · cases hst
    · cases hst
  case pop =>
    replace hst : az_pop pc L S σ = _ := hst
    unfold az_pop at hst
    split at hst
    · split at hst
      · rename_i h
        cases hst
        exact lv_pop hx hb hd ((az_v_cat _ _).trans h) (kk H locs ls cells slots hP hS hl hc hs)
      · cases hst
    · cases hst
  case dup_x1 =>
    replace hst : az_dx1 pc L S σ = _ := hst
    unfold az_dx1 at hst
    split at hst
    · split at hst
      · rename_i h
        cases hst
        exact lv_dup_x1 hx hb hd ((az_v_cat _ _).trans h.1) ((az_v_cat _ _).trans h.2) (kk H locs ls cells slots hP hS hl hc hs)
      · cases hst
    · cases hst
  case dup2 =>
    replace hst : az_dp2 pc L S σ = _ := hst
    unfold az_dp2 at hst
    split at hst
    · split at hst
      · rename_i h
        cases hst
        exact lv_dup2_11 hx hb hd ((az_v_cat _ _).trans h.1) ((az_v_cat _ _).trans h.2) (kk H locs ls cells slots hP hS hl hc hs)
      · cases hst
    · cases hst
  case ifCond cnd off =>
    have ht : (pc : Int) + off = (a : Int) := of_decide_eq_true hok
    cases cnd
    case eq =>
      replace hst : az_if_eq a pc L S σ = _ := hst
      unfold az_if_eq at hst
      split at hst
      · unfold az_br at hst
        split at hst
        · rename_i h
          cases hst
          exact lv_if_eq hx hb hd ht (fun _ => kk H locs ls cells slots hP hS hl hc hs) (fun g => absurd h g)
        · rename_i h
          cases hst
          exact lv_if_eq hx hb hd ht (fun g => absurd g h) (fun _ => kk H locs ls cells slots hP hS hl hc hs)
      · cases hst
    case ne =>
      replace hst : az_if_ne a pc L S σ = _ := hst
      unfold az_if_ne at hst
      split at hst
      · unfold az_br at hst
        split at hst
        · rename_i h
          cases hst
          exact lv_if_ne hx hb hd ht (fun g => absurd h g) (fun _ => kk H locs ls cells slots hP hS hl hc hs)
        · rename_i h
          cases hst
          exact lv_if_ne hx hb hd ht (fun _ => kk H locs ls cells slots hP hS hl hc hs) (fun g => absurd g h)
      · cases hst
    case lt =>
      replace hst : az_if_lt a pc L S σ = _ := hst
      unfold az_if_lt at hst
      split at hst
      · unfold az_br at hst
        split at hst
        · rename_i h
          cases hst
          exact lv_if_lt hx hb hd ht (fun _ => kk H locs ls cells slots hP hS hl hc hs) (fun g => absurd h g)
        · rename_i h
          cases hst
          exact lv_if_lt hx hb hd ht (fun g => absurd g h) (fun _ => kk H locs ls cells slots hP hS hl hc hs)
      · cases hst
    case ge =>
      replace hst : az_if_ge a pc L S σ = _ := hst
      unfold az_if_ge at hst
      split at hst
      · unfold az_br at hst
        split at hst
        · rename_i h
          cases hst
          exact lv_if_ge hx hb hd ht (fun _ => kk H locs ls cells slots hP hS hl hc hs) (fun g => absurd h g)
        · rename_i h
          cases hst
          exact lv_if_ge hx hb hd ht (fun g => absurd g h) (fun _ => kk H locs ls cells slots hP hS hl hc hs)
      · cases hst
    case gt =>
      replace hst : az_if_gt a pc L S σ = _ := hst
      unfold az_if_gt at hst
      split at hst
      · unfold az_br at hst
        split at hst
        · rename_i h
          cases hst
          exact lv_if_gt hx hb hd ht (fun _ => kk H locs ls cells slots hP hS hl hc hs) (fun g => absurd h g)
        · rename_i h
          cases hst
          exact lv_if_gt hx hb hd ht (fun g => absurd g h) (fun _ => kk H locs ls cells slots hP hS hl hc hs)
      · cases hst
    case le =>
      replace hst : az_if_le a pc L S σ = _ := hst
      unfold az_if_le at hst
      split at hst
      · unfold az_br at hst
        split at hst
        · rename_i h
          cases hst
          exact lv_if_le hx hb hd ht (fun _ => kk H locs ls cells slots hP hS hl hc hs) (fun g => absurd h g)
        · rename_i h
          cases hst
          exact lv_if_le hx hb hd ht (fun g => absurd g h) (fun _ => kk H locs ls cells slots hP hS hl hc hs)
      · cases hst
  case if_icmp cnd off =>
    have ht : (pc : Int) + off = (a : Int) := of_decide_eq_true hok
    cases cnd
    case eq =>
      replace hst : az_ic_eq a pc L S σ = _ := hst
      unfold az_ic_eq at hst
      split at hst
      · unfold az_br at hst
        split at hst
        · rename_i h
          cases hst
          exact lv_icmp_eq hx hb hd ht (fun _ => kk H locs ls cells slots hP hS hl hc hs) (fun g => absurd h g)
        · rename_i h
          cases hst
          exact lv_icmp_eq hx hb hd ht (fun g => absurd g h) (fun _ => kk H locs ls cells slots hP hS hl hc hs)
      · cases hst
    case ne =>
      replace hst : az_ic_ne a pc L S σ = _ := hst
      unfold az_ic_ne at hst
      split at hst
      · unfold az_br at hst
        split at hst
        · rename_i h
          cases hst
          exact lv_icmp_ne hx hb hd ht (fun g => absurd h g) (fun _ => kk H locs ls cells slots hP hS hl hc hs)
        · rename_i h
          cases hst
          exact lv_icmp_ne hx hb hd ht (fun _ => kk H locs ls cells slots hP hS hl hc hs) (fun g => absurd g h)
      · cases hst
    case lt =>
      replace hst : az_ic_lt a pc L S σ = _ := hst
      unfold az_ic_lt at hst
      split at hst
      · unfold az_br at hst
        split at hst
        · rename_i h
          cases hst
          exact lv_icmp_lt hx hb hd ht (fun _ => kk H locs ls cells slots hP hS hl hc hs) (fun g => absurd h g)
        · rename_i h
          cases hst
          exact lv_icmp_lt hx hb hd ht (fun g => absurd g h) (fun _ => kk H locs ls cells slots hP hS hl hc hs)
      · cases hst
    case ge =>
      replace hst : az_ic_ge a pc L S σ = _ := hst
      unfold az_ic_ge at hst
      split at hst
      · unfold az_br at hst
        split at hst
        · rename_i h
          cases hst
          exact lv_icmp_ge hx hb hd ht (fun _ => kk H locs ls cells slots hP hS hl hc hs) (fun g => absurd h g)
        · rename_i h
          cases hst
          exact lv_icmp_ge hx hb hd ht (fun g => absurd g h) (fun _ => kk H locs ls cells slots hP hS hl hc hs)
      · cases hst
    case gt =>
      replace hst : az_ic_gt a pc L S σ = _ := hst
      unfold az_ic_gt at hst
      split at hst
      · unfold az_br at hst
        split at hst
        · rename_i h
          cases hst
          exact lv_icmp_gt hx hb hd ht (fun _ => kk H locs ls cells slots hP hS hl hc hs) (fun g => absurd h g)
        · rename_i h
          cases hst
          exact lv_icmp_gt hx hb hd ht (fun g => absurd g h) (fun _ => kk H locs ls cells slots hP hS hl hc hs)
      · cases hst
    case le =>
      replace hst : az_ic_le a pc L S σ = _ := hst
      unfold az_ic_le at hst
      split at hst
      · unfold az_br at hst
        split at hst
        · rename_i h
          cases hst
          exact lv_icmp_le hx hb hd ht (fun _ => kk H locs ls cells slots hP hS hl hc hs) (fun g => absurd h g)
        · rename_i h
          cases hst
          exact lv_icmp_le hx hb hd ht (fun g => absurd g h) (fun _ => kk H locs ls cells slots hP hS hl hc hs)
      · cases hst
  case ifnull off =>
    have ht : (pc : Int) + off = (a : Int) := of_decide_eq_true hok
    replace hst : az_nul a pc L S σ = _ := hst
    unfold az_nul at hst
    split at hst
    · cases hst
      exact lv_ifnull hx hb hd (kk H locs ls cells slots hP hS hl hc hs)
    · cases hst
      exact lv_ifnullN hx hb hd ht (kk H locs ls cells slots hP hS hl hc hs)
    · cases hst
  case ifnonnull off =>
    have ht : (pc : Int) + off = (a : Int) := of_decide_eq_true hok
    replace hst : az_nnl a pc L S σ = _ := hst
    unfold az_nnl at hst
    split at hst
    · cases hst
      exact lv_ifnonnull hx hb hd ht (kk H locs ls cells slots hP hS hl hc hs)
    · cases hst
      exact lv_ifnonnullN hx hb hd (kk H locs ls cells slots hP hS hl hc hs)
    · cases hst
  case goto off =>
    have ht : (pc : Int) + off = (a : Int) := of_decide_eq_true hok
    cases hst
    exact lv_goto hx hb hd ht (kk H locs ls cells slots hP hS hl hc hs)
  case tableswitch df lo hi offs =>
    have ht : (pc : Int) + df = (a : Int) := of_decide_eq_true hok
    replace hst : az_tsw a lo hi offs pc L S σ = _ := hst
    unfold az_tsw at hst
    split at hst
    · split at hst
      · rename_i h
        cases hst
        exact lv_tableOut hx hb hd h ht (kk H locs ls cells slots hP hS hl hc hs)
      · rename_i h
        split at hst
        · rename_i ho
          unfold az_jp at hst
          split at hst
          · rename_i hj
            cases hst
            exact lv_tableIn hx hb hd (fun g => h (Or.inl g)) (fun g => h (Or.inr g)) ho (Int.toNat_of_nonneg hj).symm (kk H locs ls cells slots hP hS hl hc hs)
          · cases hst
        · cases hst
    · cases hst
  case lookupswitch df ps =>
    replace hst : az_lsw df ps pc L S σ = _ := hst
    unfold az_lsw at hst
    split at hst
    · unfold az_jp at hst
      split at hst
      · rename_i hj
        cases hst
        exact lv_lookup hx hb hd hok rfl (Int.toNat_of_nonneg hj).symm (kk H locs ls cells slots hP hS hl hc hs)
      · cases hst
    · cases hst
  case getfield q =>
    replace hst : az_get sh a b pc L S σ = _ := hst
    unfold az_get at hst
    split at hst
    · unfold az_ov at hst
      split at hst
      · rename_i r S0 _ v hv
        cases hst
        obtain ⟨cs, cd, g1, g2, g3⟩ := az_gf_spec (az_ad t base) hv
        obtain ⟨qc, hq, hbN, hw⟩ := az_ok_f hok
        obtain ⟨c1, -⟩ := az_cl_ok hq
        refine va_get (D := D) (v := az_v (az_ad t base) v) hx hb hts c1 hown hK hP.1 (r - 3) (az_ws_at g1) hq b hbN (hts _ (az_w_in hw)) (fun _ h9 => h9) ?_ hd (kk H locs ls cells slots hP hS hl hc hs)
        rw [List.getElem?_mapIdx, g2, g3]
        rfl
      · cases hst
    · cases hst
  case putfield q =>
    replace hst : az_put sh a b pc L S σ = _ := hst
    unfold az_put at hst
    split at hst
    · unfold az_o at hst
      split at hst
      · rename_i v r S0 _ σ2 hv
        cases hst
        obtain ⟨cs, cd, g1, g2, g3, g4, g5, g6⟩ := az_pf_spec (az_ad t base) cA hv
        obtain ⟨qc, hq, hbN, hw, hfin⟩ := az_ok_p hok
        obtain ⟨c1, c2, c3, -⟩ := az_cl_ok hq
        obtain ⟨f1, f2, f3⟩ := az_fld hsh g1 hq g2
        obtain ⟨ty', f4, f5, f6⟩ := az_fit (ad := az_ad t base) f3 g6
        have hset := az_ws_set (sh := sh) (ad := az_ad t base) (cA := cA) g1 g3 g4
        rw [g5] at hset
        have kk' : ∀ (H1 : Heap) (locs1 : List Loc), va_P D vwCl ((az_ws sh (az_ad t base) cA σ).set (r - 3) (az_ad t base r, .inr (a, (cs.mapIdx fun k c => az_fv (az_ad t base) σ r k c).set b (az_v (az_ad t base) v)))) H1 → va_D (fun q => base ≤ q) ((az_ws sh (az_ad t base) cA σ).set (r - 3) (az_ad t base r, .inr (a, (cs.mapIdx fun k c => az_fv (az_ad t base) σ r k c).set b (az_v (az_ad t base) v)))) → va_S (fun q => base ≤ q) s.heap H1 locs1 → W p l e R s m args below meth c H1 locs1 cells slots Q (F0 m (pc + 3) ls (S'.map (az_v (az_ad t base)))) := by
          intro H1 locs1 hP1 _ hS1
          rw [hset] at hP1
          exact kk H1 locs1 ls cells slots ⟨hP1, by rw [g3]; exact hP.2⟩ hS1 hl (by rw [g3]; exact hc) (by rw [g3]; exact hs)
        have hlen : b < (cs.mapIdx fun k c => az_fv (az_ad t base) σ r k c).length := by rw [List.length_mapIdx]; omega
        cases hfl : (qc.2.1 b).2.2.2 with
        | false => exact va_put (D := D) hx hb hts c1 (az_tyf qc.2.1) c2 c3 hown hK hP.1 az_ws_D hS (r - 3) (az_ws_at g1) hq b hbN (hts _ (az_w_in hw)) (fun _ h9 => h9) hfl f4 f5 f6 hlen hd kk'
        | true =>
          obtain ⟨g7, g8⟩ := hfin hfl
          exact va_putF (D := D) hx hb hts c1 (az_tyf qc.2.1) c2 c3 hown hK hP.1 az_ws_D hS (r - 3) (az_ws_at g1) hq b hbN (hts _ (az_w_in hw)) (fun _ h9 => h9) hfl (hnm g7) g8 f4 f5 f6 hlen hd kk'
      · cases hst
    · cases hst
  case getstatic q =>
    replace hok : (if a = 1 then az_w z (.fieldLink (az_m k).1.cls q RX0 "OWN" "[I") else decide (a = 2) && az_w z (.fieldLink (az_m k).1.cls q RX0 "ABOVE" "[I")) = true := hok
    cases hst
    split at hok
    · rename_i h1
      subst h1
      exact va_gets hx hb hE.2.2.1 hS hown (hts _ (az_w_in hok)) (fun _ h9 => h9) hd (kk H locs ls cells slots hP hS hl hc hs)
    · rw [Bool.and_eq_true] at hok
      have h2 := of_decide_eq_true hok.1
      subst h2
      exact va_gets hx hb hE.2.2.2.1 hS hown (hts _ (az_w_in hok.2)) (fun _ h9 => h9) hd (kk H locs ls cells slots hP hS hl hc hs)
  case iaload =>
    replace hst : az_ild sh ex pc L S σ = _ := hst
    unfold az_ild at hst
    split at hst
    · unfold az_oi at hst
      split at hst
      · rename_i i r S0 _ x hv
        cases hst
        unfold az_ai at hv
        split at hv
        · rename_i hr
          split at hv
          · cases hv
          · rename_i hin
            cases hv
            show W p l e R s m args below meth c H locs cells slots Q (F0 m pc ls (.int i :: .ref (az_ad t base r) :: S0.map (az_v (az_ad t base))))
            rw [show az_ad t base r = t r from if_pos hr]
            exact va_ti hx hb (hE.2.1 r hr) hS hin rfl hd (kk H locs ls cells slots hP hS hl hc hs)
        · split at hv
          · rename_i n x0 g1
            split at hv
            · cases hv
            · rename_i hin
              cases hv
              exact va_iald hx hb hK hP.1 (r - 3) 0 (az_ws_at g1) rfl hin hd (kk H locs ls cells slots hP hS hl hc hs)
          · cases hv
      · cases hst
    · cases hst
  case baload =>
    replace hst : az_bld sh pc L S σ = _ := hst
    unfold az_bld at hst
    split at hst
    · unfold az_oi at hst
      split at hst
      · rename_i i r S0 _ x hv
        cases hst
        unfold az_az at hv
        split at hv
        · rename_i n x0 g1
          split at hv
          · cases hv
          · rename_i hin
            cases hv
            exact va_zald hx hb hK hP.1 (r - 3) 2 (az_ws_at g1) rfl hin hd (kk H locs ls cells slots hP hS hl hc hs)
        · cases hv
      · cases hst
    · cases hst
  case laload =>
    replace hst : az_lld sh pc L S σ = _ := hst
    unfold az_lld at hst
    split at hst
    · unfold az_ol at hst
      split at hst
      · rename_i i r S0 _ x hv
        cases hst
        unfold az_al at hv
        split at hv
        · rename_i n x0 g1
          split at hv
          · cases hv
          · rename_i hin
            cases hv
            exact va_lald hx hb hK hP.1 (r - 3) 1 (az_ws_at g1) rfl hin hd (kk H locs ls cells slots hP hS hl hc hs)
        · cases hv
      · cases hst
    · cases hst
  case aaload =>
    replace hst : az_rld sh pc L S σ = _ := hst
    unfold az_rld at hst
    split at hst
    · unfold az_ov at hst
      split at hst
      · rename_i i r S0 _ x hv
        cases hst
        unfold az_aa at hv
        split at hv
        · rename_i n x0 g1
          split at hv
          · cases hv
          · rename_i hin
            cases hv
            refine va_aldq (C := RX7) hx hb hK hP.1 (r - 3) 3 (az_ws_at g1) rfl hin hd ?_
            have := kk H locs ls cells slots hP hS hl hc hs
            rw [List.map_cons, az_rf] at this
            exact this
        · rename_i n cs g1
          split at hv
          · cases hv
          · rename_i hin
            cases hv
            refine va_aldq (C := RX7) hx hb hK hP.1 (r - 3) 3 (az_ws_at g1) rfl hin hd ?_
            have := kk H locs ls cells slots hP hS hl hc hs
            rw [List.map_cons, az_rf] at this
            exact this
        · cases hv
      · cases hst
    · cases hst
  case iastore =>
    replace hst : az_ist sh pc L S σ = _ := hst
    unfold az_ist at hst
    split at hst
    · unfold az_o at hst
      split at hst
      · rename_i x i r S0 _ σ2 hv
        cases hst
        unfold az_si at hv
        split at hv
        · rename_i n x0 g1
          split at hv
          · cases hv
          · rename_i hin
            cases hv
            have hset := az_ws_set (sh := sh) (ad := az_ad t base) (cA := cA) (σ' := (σ.1, az_u σ.2.1 r i.toNatClampNeg x, σ.2.2)) g1 rfl (fun j q hj => az_e_at (az_u_ne hj) rfl rfl)
            refine va_iast hx hb hK hP.1 az_ws_D hS (r - 3) 0 (az_ws_at g1) rfl hin hd (fun H1 locs1 hP1 _ hS1 => ?_)
            rw [show (.inl (cA 1, n, .inl (upd (σ.2.1 r) i.toNatClampNeg x)) : va_E) = az_e (az_ad t base) cA (σ.1, az_u σ.2.1 r i.toNatClampNeg x, σ.2.2) r (1, n, x0) from (by show _ = Sum.inl (cA 1, n, Sum.inl (az_u σ.2.1 r i.toNatClampNeg x r)); rw [az_u_eq]; rfl), hset] at hP1
            exact kk H1 locs1 ls cells slots ⟨hP1, hP.2⟩ hS1 hl hc hs
        · cases hv
      · cases hst
    · cases hst
  case lastore =>
    replace hst : az_lst sh pc L S σ = _ := hst
    unfold az_lst at hst
    split at hst
    · unfold az_o at hst
      split at hst
      · rename_i x i r S0 _ σ2 hv
        cases hst
        unfold az_sl at hv
        split at hv
        · rename_i n x0 g1
          split at hv
          · cases hv
          · rename_i hin
            cases hv
            have hset := az_ws_set (sh := sh) (ad := az_ad t base) (cA := cA) (σ' := (σ.1, σ.2.1, az_u σ.2.2.1 r i.toNatClampNeg x, σ.2.2.2)) g1 rfl (fun j q hj => az_e_at rfl (az_u_ne hj) rfl)
            refine va_last hx hb hK hP.1 az_ws_D hS (r - 3) 1 (az_ws_at g1) rfl hin hd (fun H1 locs1 hP1 _ hS1 => ?_)
            rw [show (.inl (cA 2, n, .inr (.inl (vp_updL (σ.2.2.1 r) i.toNatClampNeg x))) : va_E) = az_e (az_ad t base) cA (σ.1, σ.2.1, az_u σ.2.2.1 r i.toNatClampNeg x, σ.2.2.2) r (2, n, x0) from (by show _ = Sum.inl (cA 2, n, Sum.inr (Sum.inl (az_u σ.2.2.1 r i.toNatClampNeg x r))); rw [az_u_eq]; rfl), hset] at hP1
            exact kk H1 locs1 ls cells slots ⟨hP1, hP.2⟩ hS1 hl hc hs
        · cases hv
      · cases hst
    · cases hst
  case bastore =>
    replace hst : az_bst sh pc L S σ = _ := hst
    unfold az_bst at hst
    split at hst
    · unfold az_o at hst
      split at hst
      · rename_i x i r S0 _ σ2 hv
        cases hst
        unfold az_sz at hv
        split at hv
        · rename_i n x0 g1
          split at hv
          · cases hv
          · rename_i hin
            split at hv
            · rename_i hx01
              cases hv
              have hset := az_ws_set (sh := sh) (ad := az_ad t base) (cA := cA) (σ' := (σ.1, az_u σ.2.1 r i.toNatClampNeg x, σ.2.2)) g1 rfl (fun j q hj => az_e_at (az_u_ne hj) rfl rfl)
              refine va_zast hx hb hK hP.1 az_ws_D hS (r - 3) 2 (az_ws_at g1) rfl hin hd (fun H1 locs1 hP1 _ hS1 => ?_)
              have hnar : vp_nar .boolean x = x := by rcases hx01 with rfl | rfl <;> decide
              rw [hnar, show (.inl (cA 3, n, .inl (upd (σ.2.1 r) i.toNatClampNeg x)) : va_E) = az_e (az_ad t base) cA (σ.1, az_u σ.2.1 r i.toNatClampNeg x, σ.2.2) r (3, n, x0) from (by show _ = Sum.inl (cA 3, n, Sum.inl (az_u σ.2.1 r i.toNatClampNeg x r)); rw [az_u_eq]; rfl), hset] at hP1
              exact kk H1 locs1 ls cells slots ⟨hP1, hP.2⟩ hS1 hl hc hs
            · cases hv
        · cases hv
      · cases hst
    · cases hst
  case aastore =>
    replace hst : az_rst sh pc L S σ = _ := hst
    unfold az_rst at hst
    split at hst
    · unfold az_o at hst
      split at hst
      · rename_i x i r S0 _ σ2 hv
        cases hst
        unfold az_sa at hv
        split at hv
        · rename_i n x0 g1
          split at hv
          · rename_i ci cs g2
            split at hv
            · rename_i h7
              subst h7
              split at hv
              · cases hv
              · rename_i hin
                cases hv
                have hset := az_ws_set (sh := sh) (ad := az_ad t base) (cA := cA) (σ' := (σ.1, σ.2.1, σ.2.2.1, az_u σ.2.2.2 r i.toNatClampNeg (some x))) g1 rfl (fun j q hj => az_e_at rfl rfl (az_u_ne hj))
                refine va_astq (r := (RX7, TX7, 4)) hx hb hK hP.1 az_ws_D hS (r - 3) 3 (x - 3) 7 (az_ws_at g1) rfl (az_ws_at g2) rfl hin hd (fun H1 locs1 hP1 _ hS1 => ?_)
                have hcell : (.inl (cA 4, n, .inr (.inr (.inr (.inr (va_up (fun k => (σ.2.2.2 r k).map (az_ad t base)) i.toNatClampNeg (some (az_ad t base x))))))) : va_E) = az_e (az_ad t base) cA (σ.1, σ.2.1, σ.2.2.1, az_u σ.2.2.2 r i.toNatClampNeg (some x)) r (4, n, x0) := by
                  show _ = Sum.inl (cA 4, n, Sum.inr (Sum.inr (Sum.inr (Sum.inr fun k => (az_u σ.2.2.2 r i.toNatClampNeg (some x) r k).map (az_ad t base)))))
                  rw [az_u_eq]
                  congr 7
                  funext j
                  unfold va_up
                  by_cases hj : j = i.toNatClampNeg
                  · simp [hj]
                  · simp [hj]
                rw [hcell, hset] at hP1
                exact kk H1 locs1 ls cells slots ⟨hP1, hP.2⟩ hS1 hl hc hs
            · cases hv
          · cases hv
        · cases hv
      · cases hst
    · cases hst
  case arraylength =>
    replace hst : az_aln sh ex pc L S σ = _ := hst
    unfold az_aln at hst
    split at hst
    · unfold az_oi at hst
      split at hst
      · rename_i r S0 _ x hv
        cases hst
        unfold az_len at hv
        split at hv
        · rename_i hr
          cases hv
          show W p l e R s m args below meth c H locs cells slots Q (F0 m pc ls (.ref (az_ad t base r) :: S0.map (az_v (az_ad t base))))
          rw [show az_ad t base r = t r from if_pos hr]
          exact va_tlen hx hb (hE.2.1 r hr) hS rfl hd (kk H locs ls cells slots hP hS hl hc hs)
        · split at hv
          · cases hv
          · rename_i tg n x0 _ g1
            split at hv
            · rename_i ht
              cases hv
              rcases ht with rfl | rfl
              · exact va_alen hx hb hK hP.1 (r - 3) 0 (az_ws_at g1) rfl rfl hd (kk H locs ls cells slots hP hS hl hc hs)
              · exact va_alen hx hb hK hP.1 (r - 3) 1 (az_ws_at g1) rfl rfl hd (kk H locs ls cells slots hP hS hl hc hs)
            · cases hv
          · cases hv
      · cases hst
    · cases hst
  case new q =>
    replace hst : az_nwo sh a pc L S σ = _ := hst
    unfold az_nwo az_o at hst
    split at hst
    · rename_i σ2 hv
      cases hst
      obtain ⟨cs, g1, g2, g3⟩ := az_nw_spec hv
      obtain ⟨qc, hq, hw⟩ := az_ok_n hok
      obtain ⟨c1, c2, -, c4, c5⟩ := az_cl_ok hq
      obtain ⟨f1, f2⟩ := az_shn hsh g1 hq
      refine az_szW fun hsz => ?_
      have hge := az_size_ge hP hS hn0
      have hn1 : σ'.1 = σ.1 + 1 := by rw [g3]
      have hsl := az_slots_succ g1
      have hsz2 : az_size (0, a, cs) = qc.2.2 := by rw [← f1]; rfl
      have hHs : H.size = base + σ.1 := by omega
      have hKn := hK.1 a _ hq
      refine W.newcK hx hb hown (hts _ (az_w_in hw)) (hts _ c4) (hts _ c5) rfl hd (by omega) (by rw [hn1, hsl, hsz2] at hrs; omega) hKn.2.1 rfl fun H1 kC hkC e1 z1 o1 => ?_
      have hat : va_at D vwCl (az_ad t base (σ.1 + 3), az_e (az_ad t base) cA σ' (σ.1 + 3) (0, a, cs)) H1 := by
        refine ⟨qc, hq, ?_⟩
        have := (u_born (az_tyf qc.2.1) hts c1 hKn hkC e1 c2).to (V' := vp_V (cs.mapIdx fun k c => az_fv (az_ad t base) σ' (σ.1 + 3) k c)) (fun j hj => f2 j hj (az_ad t base) σ' (by rw [g3]; exact az_ur_eq) (by rw [g3]; exact az_ur_eq) g2)
        rw [show az_ad t base (σ.1 + 3) = H.size by rw [hHs]; unfold az_ad; rw [if_neg (by omega)]; omega]
        exact this
      have hP1 := az_push (sh := sh) (σ' := σ') g1 hn1 (fun j q hj => by rw [g3]; exact az_e_at (az_ur_ne hj) (az_ur_ne hj) (az_ur_ne hj)) hP z1 (by intro q hq2; exact o1 q hq2) hat
      have := kk H1 locs ls (cells + 1) (slots + qc.2.2) hP1 ⟨by have := hS.1; omega, fun x h1 h2 => (o1 x (Nat.lt_of_lt_of_le h1 hS.1)).trans (hS.2.1 x h1 h2), hS.2.2⟩ hl (by omega) (by rw [hn1, hsl, hsz2]; omega)
      rw [List.map_cons, show az_v (az_ad t base) (.ref (σ.1 + 3)) = .ref H.size by show Value.ref (az_ad t base (σ.1 + 3)) = _; rw [hHs]; unfold az_ad; rw [if_neg (by omega)]; congr 1] at this
      exact this
    · cases hst
  case newarray ty =>
    replace hok : decide ((ty = .int ∧ a = 1) ∨ (ty = .long ∧ a = 2) ∨ (ty = .boolean ∧ a = 3)) = true := hok
    replace hst : az_nwa sh a 2 pc L S σ = _ := hst
    unfold az_nwa at hst
    split at hst
    · split at hst
      · cases hst
      · rename_i n S0 hneg
        unfold az_o at hst
        split at hst
        · rename_i σ2 hv
          cases hst
          rcases of_decide_eq_true hok with ⟨rfl, rfl⟩ | ⟨rfl, rfl⟩ | ⟨rfl, rfl⟩
          ·
            obtain ⟨cs, g1, g2, g3⟩ := az_nw_spec hv
            refine az_szW fun hsz => ?_
            have hge := az_size_ge hP hS hn0
            have hn1 : σ'.1 = σ.1 + 1 := by rw [g3]
            have hsl := az_slots_succ g1
            have hsz2 : az_size (1, n.toNatClampNeg, cs) = n.toNatClampNeg := rfl
            have hHs : H.size = base + σ.1 := by omega
            have hbig := az_sha hsh g1
            refine va_newaK (atype := .int) hx hb (hts _ az_fx_10) rfl hd rfl hneg rfl (az_by (by decide) hbig) (by omega) (by rw [hn1, hsl, hsz2] at hrs; omega) rfl fun H1 cA1 e1 z1 o1 hAr hfc => ?_
            have hcA : cA1 = cA 1 := Option.some.inj (hfc.symm.trans (hK.2 0 _ rfl).2)
            have hat : va_at D vwCl (az_ad t base (σ.1 + 3), az_e (az_ad t base) cA σ' (σ.1 + 3) (1, n.toNatClampNeg, cs)) H1 := by
              rw [show az_ad t base (σ.1 + 3) = H.size by rw [hHs]; unfold az_ad; rw [if_neg (by omega)]; omega]
              show H1[H.size]? = some (vp_cell (cA 1) (n.toNatClampNeg, .inl (σ'.2.1 (σ.1 + 3))))
              rw [g3, e1, hcA]
              rw [vp_cell_i]
              congr 2
              funext j
              show Value.int 0 = Value.int (az_ur σ.2.1 (σ.1 + 3) (fun _ => 0) (σ.1 + 3) j)
              rw [az_ur_eq]
            have hP1 := az_push (sh := sh) (σ' := σ') g1 hn1 (fun j q hj => by rw [g3]; exact az_e_at (az_ur_ne hj) (az_ur_ne hj) (az_ur_ne hj)) hP z1 (by intro q hq2; exact o1 q hq2) hat
            have := kk H1 locs ls (cells + 1) (slots + n.toNatClampNeg) hP1 ⟨by have := hS.1; omega, fun x h1 h2 => (o1 x (Nat.lt_of_lt_of_le h1 hS.1)).trans (hS.2.1 x h1 h2), hS.2.2⟩ hl (by omega) (by rw [hn1, hsl, hsz2]; omega)
            rw [List.map_cons, show az_v (az_ad t base) (.ref (σ.1 + 3)) = .ref H.size by show Value.ref (az_ad t base (σ.1 + 3)) = _; rw [hHs]; unfold az_ad; rw [if_neg (by omega)]; congr 1] at this
            exact this
          ·
            obtain ⟨cs, g1, g2, g3⟩ := az_nw_spec hv
            refine az_szW fun hsz => ?_
            have hge := az_size_ge hP hS hn0
            have hn1 : σ'.1 = σ.1 + 1 := by rw [g3]
            have hsl := az_slots_succ g1
            have hsz2 : az_size (2, n.toNatClampNeg, cs) = n.toNatClampNeg := rfl
            have hHs : H.size = base + σ.1 := by omega
            have hbig := az_sha hsh g1
            refine va_newaK (atype := .long) hx hb (hts _ az_fx_11) rfl hd rfl hneg rfl (az_by (by decide) hbig) (by omega) (by rw [hn1, hsl, hsz2] at hrs; omega) rfl fun H1 cA1 e1 z1 o1 hAr hfc => ?_
            have hcA : cA1 = cA 2 := Option.some.inj (hfc.symm.trans (hK.2 1 _ rfl).2)
            have hat : va_at D vwCl (az_ad t base (σ.1 + 3), az_e (az_ad t base) cA σ' (σ.1 + 3) (2, n.toNatClampNeg, cs)) H1 := by
              rw [show az_ad t base (σ.1 + 3) = H.size by rw [hHs]; unfold az_ad; rw [if_neg (by omega)]; omega]
              show H1[H.size]? = some (vp_cell (cA 2) (n.toNatClampNeg, .inr (.inl (σ'.2.2.1 (σ.1 + 3)))))
              rw [g3, e1, hcA]
              rw [vp_cell_l]
              congr 2
              funext j
              show Value.long 0 = Value.long (az_ur σ.2.2.1 (σ.1 + 3) (fun _ => 0) (σ.1 + 3) j)
              rw [az_ur_eq]
            have hP1 := az_push (sh := sh) (σ' := σ') g1 hn1 (fun j q hj => by rw [g3]; exact az_e_at (az_ur_ne hj) (az_ur_ne hj) (az_ur_ne hj)) hP z1 (by intro q hq2; exact o1 q hq2) hat
            have := kk H1 locs ls (cells + 1) (slots + n.toNatClampNeg) hP1 ⟨by have := hS.1; omega, fun x h1 h2 => (o1 x (Nat.lt_of_lt_of_le h1 hS.1)).trans (hS.2.1 x h1 h2), hS.2.2⟩ hl (by omega) (by rw [hn1, hsl, hsz2]; omega)
            rw [List.map_cons, show az_v (az_ad t base) (.ref (σ.1 + 3)) = .ref H.size by show Value.ref (az_ad t base (σ.1 + 3)) = _; rw [hHs]; unfold az_ad; rw [if_neg (by omega)]; congr 1] at this
            exact this
          ·
            obtain ⟨cs, g1, g2, g3⟩ := az_nw_spec hv
            refine az_szW fun hsz => ?_
            have hge := az_size_ge hP hS hn0
            have hn1 : σ'.1 = σ.1 + 1 := by rw [g3]
            have hsl := az_slots_succ g1
            have hsz2 : az_size (3, n.toNatClampNeg, cs) = n.toNatClampNeg := rfl
            have hHs : H.size = base + σ.1 := by omega
            have hbig := az_sha hsh g1
            refine va_newaK (atype := .boolean) hx hb (hts _ az_fx_12) rfl hd rfl hneg rfl (az_by (by decide) hbig) (by omega) (by rw [hn1, hsl, hsz2] at hrs; omega) rfl fun H1 cA1 e1 z1 o1 hAr hfc => ?_
            have hcA : cA1 = cA 3 := Option.some.inj (hfc.symm.trans (hK.2 2 _ rfl).2)
            have hat : va_at D vwCl (az_ad t base (σ.1 + 3), az_e (az_ad t base) cA σ' (σ.1 + 3) (3, n.toNatClampNeg, cs)) H1 := by
              rw [show az_ad t base (σ.1 + 3) = H.size by rw [hHs]; unfold az_ad; rw [if_neg (by omega)]; omega]
              show H1[H.size]? = some (vp_cell (cA 3) (n.toNatClampNeg, .inl (σ'.2.1 (σ.1 + 3))))
              rw [g3, e1, hcA]
              rw [vp_cell_i]
              congr 2
              funext j
              show Value.int 0 = Value.int (az_ur σ.2.1 (σ.1 + 3) (fun _ => 0) (σ.1 + 3) j)
              rw [az_ur_eq]
            have hP1 := az_push (sh := sh) (σ' := σ') g1 hn1 (fun j q hj => by rw [g3]; exact az_e_at (az_ur_ne hj) (az_ur_ne hj) (az_ur_ne hj)) hP z1 (by intro q hq2; exact o1 q hq2) hat
            have := kk H1 locs ls (cells + 1) (slots + n.toNatClampNeg) hP1 ⟨by have := hS.1; omega, fun x h1 h2 => (o1 x (Nat.lt_of_lt_of_le h1 hS.1)).trans (hS.2.1 x h1 h2), hS.2.2⟩ hl (by omega) (by rw [hn1, hsl, hsz2]; omega)
            rw [List.map_cons, show az_v (az_ad t base) (.ref (σ.1 + 3)) = .ref H.size by show Value.ref (az_ad t base (σ.1 + 3)) = _; rw [hHs]; unfold az_ad; rw [if_neg (by omega)]; congr 1] at this
            exact this
        · cases hst
    · cases hst
  case anewarray q =>
    replace hok : az_w z (.classLink (az_m k).1.cls q RX7) = true := hok
    replace hst : az_nwa sh 4 3 pc L S σ = _ := hst
    unfold az_nwa at hst
    split at hst
    · split at hst
      · cases hst
      · rename_i n S0 hneg
        unfold az_o at hst
        split at hst
        · rename_i σ2 hv
          cases hst
          obtain ⟨cs, g1, g2, g3⟩ := az_nw_spec hv
          refine az_szW fun hsz => ?_
          have hge := az_size_ge hP hS hn0
          have hn1 : σ'.1 = σ.1 + 1 := by rw [g3]
          have hsl := az_slots_succ g1
          have hsz2 : az_size (4, n.toNatClampNeg, cs) = n.toNatClampNeg := rfl
          have hHs : H.size = base + σ.1 := by omega
          have hbig := az_sha hsh g1
          refine W.anew hx hb hown (hts _ (az_w_in hok)) (va_AO.use hE.2.2.2.2.1) rfl hd rfl hneg (by omega) (by omega) (by rw [hn1, hsl, hsz2] at hrs; omega) fun cA1 kA comp hfc _ _ _ => ?_
          generalize hH1 : H.push ({ cls := cA1, slots := Array.replicate n.toNatClampNeg .null, vm := .none } : Cell) = H1
          have z1 : H1.size = H.size + 1 := by rw [← hH1, Array.size_push]
          have e1 : H1[H.size]? = some (arrV cA1 n.toNatClampNeg (fun _ => .null)) := by rw [← hH1, Array.getElem?_push_size, ← arrV_new]
          have o1 : ∀ q : Nat, q < H.size → H1[q]? = H[q]? := fun q hq => by rw [← hH1, Array.getElem?_push, if_neg (Nat.ne_of_lt hq)]
          have hcA : cA1 = cA 4 := by
            obtain ⟨_, _, _, _, _, h4⟩ := (hK.2 3 _ rfl).2
            exact Option.some.inj (hfc.symm.trans h4)
          have hat : va_at D vwCl (az_ad t base (σ.1 + 3), az_e (az_ad t base) cA σ' (σ.1 + 3) (4, n.toNatClampNeg, cs)) H1 := by
            rw [show az_ad t base (σ.1 + 3) = H.size by rw [hHs]; unfold az_ad; rw [if_neg (by omega)]; omega]
            show H1[H.size]? = some (vp_cell (cA 4) (n.toNatClampNeg, .inr (.inr (.inr (.inr fun k => (σ'.2.2.2 (σ.1 + 3) k).map (az_ad t base))))))
            rw [g3, e1, hcA]
            rw [vp_cell_q]
            congr 2
            funext j
            show Value.null = va_rf ((az_ur σ.2.2.2 (σ.1 + 3) (fun _ => none) (σ.1 + 3) j).map (az_ad t base))
            rw [az_ur_eq]
            rfl
          have hP1 := az_push (sh := sh) (σ' := σ') g1 hn1 (fun j q hj => by rw [g3]; exact az_e_at (az_ur_ne hj) (az_ur_ne hj) (az_ur_ne hj)) hP z1 (by intro q hq2; exact o1 q hq2) hat
          have := kk H1 locs ls (cells + 1) (slots + n.toNatClampNeg) hP1 ⟨by have := hS.1; omega, fun x h1 h2 => (o1 x (Nat.lt_of_lt_of_le h1 hS.1)).trans (hS.2.1 x h1 h2), hS.2.2⟩ hl (by omega) (by rw [hn1, hsl, hsz2]; omega)
          rw [List.map_cons, show az_v (az_ad t base) (.ref (σ.1 + 3)) = .ref H.size by show Value.ref (az_ad t base (σ.1 + 3)) = _; rw [hHs]; unfold az_ad; rw [if_neg (by omega)]; congr 1] at this
          exact this
        · cases hst
    · cases hst
  case invokestatic q =>
    replace hst : (if a = 9999 then az_cpi sh d pc L S σ else if a = 9997 then az_max d pc L S σ else if a = 9996 then az_min d pc L S σ else az_cl sh 0 a pc S σ) = _ := hst
    replace hok : (if a = 9999 then az_w z (.methodLink (az_m k).1.cls q arraycopyName) else if a = 9997 then az_w z (.methodLink (az_m k).1.cls q Lib.Math.max.name) else if a = 9996 then az_w z (.methodLink (az_m k).1.cls q Lib.Math.min.name) else az_cok (az_m k).1.cls q 0 a b z) = true := hok
    split at hst
    · rename_i h1
      rw [if_pos h1] at hok
      unfold az_cpi at hst
      split at hst
      · split at hst
        · rename_i hg
          unfold az_o at hst
          split at hst
          · rename_i n dp rb sp ra S0 _ σ2 hv
            cases hst
            unfold az_cp at hv
            split at hv
            · rename_i n0' x0 g1
              split at hv
              · rename_i n1 x1 g2
                split at hv
                · cases hv
                · rename_i hb2
                  cases hv
                  have hset := az_ws_set (sh := sh) (ad := az_ad t base) (cA := cA) (σ' := (σ.1, az_ur σ.2.1 rb (va_cpy (σ.2.1 ra) (σ.2.1 rb) sp.toNatClampNeg dp.toNatClampNeg n.toNatClampNeg), σ.2.2)) g2 rfl (fun j q hj => az_e_at (az_ur_ne hj) rfl rfl)
                  refine va_copyi (ty := .int) hx hb (hml.trans hl.2.1.symm) hown (hts _ (az_w_in hok)) (hts _ az_fx_2) (hts _ az_fx_3) (hts _ az_fx_4) hK hP.1 az_ws_D hS (ra - 3) (rb - 3) 0 0 (az_ws_at g1) (az_ws_at g2) rfl rfl rfl (fun q => hb2 (Or.inl q)) (fun q => hb2 (Or.inr (Or.inl q))) (fun q => hb2 (Or.inr (Or.inr (Or.inl q)))) (Nat.le_of_not_lt fun q => hb2 (Or.inr (Or.inr (Or.inr (Or.inl q))))) (Nat.le_of_not_lt fun q => hb2 (Or.inr (Or.inr (Or.inr (Or.inr q))))) (fun _ _ => rfl) (by omega) (by rw [az_cat_map]; show _ + (7 + 11) ≤ _; omega) hd (fun H1 locs1 hP1 _ hS1 => ?_)
                  have hcell : (.inl (cA 1, n1, .inl (va_cpy (σ.2.1 ra) (σ.2.1 rb) sp.toNatClampNeg dp.toNatClampNeg n.toNatClampNeg)) : va_E) = az_e (az_ad t base) cA (σ.1, az_ur σ.2.1 rb (va_cpy (σ.2.1 ra) (σ.2.1 rb) sp.toNatClampNeg dp.toNatClampNeg n.toNatClampNeg), σ.2.2) rb (1, n1, x1) := by
                    show _ = Sum.inl (cA 1, n1, Sum.inl (az_ur σ.2.1 rb (va_cpy (σ.2.1 ra) (σ.2.1 rb) sp.toNatClampNeg dp.toNatClampNeg n.toNatClampNeg) rb))
                    rw [az_ur_eq]
                  rw [hcell, hset] at hP1
                  exact kk H1 locs1 ls cells slots ⟨hP1, hP.2⟩ hS1 hl hc hs
              · cases hv
            · rename_i n0' x0 g1
              split at hv
              · rename_i n1 x1 g2
                split at hv
                · cases hv
                · rename_i hb2
                  cases hv
                  have hset := az_ws_set (sh := sh) (ad := az_ad t base) (cA := cA) (σ' := (σ.1, σ.2.1, az_ur σ.2.2.1 rb (va_cpy (σ.2.2.1 ra) (σ.2.2.1 rb) sp.toNatClampNeg dp.toNatClampNeg n.toNatClampNeg), σ.2.2.2)) g2 rfl (fun j q hj => az_e_at rfl (az_ur_ne hj) rfl)
                  refine va_copyl (ty := .long) hx hb (hml.trans hl.2.1.symm) hown (hts _ (az_w_in hok)) (hts _ az_fx_2) (hts _ az_fx_3) (hts _ az_fx_4) hK hP.1 az_ws_D hS (ra - 3) (rb - 3) 1 1 (az_ws_at g1) (az_ws_at g2) rfl rfl rfl (fun q => hb2 (Or.inl q)) (fun q => hb2 (Or.inr (Or.inl q))) (fun q => hb2 (Or.inr (Or.inr (Or.inl q)))) (Nat.le_of_not_lt fun q => hb2 (Or.inr (Or.inr (Or.inr (Or.inl q))))) (Nat.le_of_not_lt fun q => hb2 (Or.inr (Or.inr (Or.inr (Or.inr q))))) (fun _ _ => rfl) (by omega) (by rw [az_cat_map]; show _ + (7 + 11) ≤ _; omega) hd (fun H1 locs1 hP1 _ hS1 => ?_)
                  have hcell : (.inl (cA 2, n1, .inr (.inl (va_cpy (σ.2.2.1 ra) (σ.2.2.1 rb) sp.toNatClampNeg dp.toNatClampNeg n.toNatClampNeg))) : va_E) = az_e (az_ad t base) cA (σ.1, σ.2.1, az_ur σ.2.2.1 rb (va_cpy (σ.2.2.1 ra) (σ.2.2.1 rb) sp.toNatClampNeg dp.toNatClampNeg n.toNatClampNeg), σ.2.2.2) rb (2, n1, x1) := by
                    show _ = Sum.inl (cA 2, n1, Sum.inr (Sum.inl (az_ur σ.2.2.1 rb (va_cpy (σ.2.2.1 ra) (σ.2.2.1 rb) sp.toNatClampNeg dp.toNatClampNeg n.toNatClampNeg) rb)))
                    rw [az_ur_eq]
                  rw [hcell, hset] at hP1
                  exact kk H1 locs1 ls cells slots ⟨hP1, hP.2⟩ hS1 hl hc hs
              · cases hv
            · cases hv
          · cases hst
        · cases hst
      · cases hst
    · rename_i h1
      rw [if_neg h1] at hok
      split at hst
      · rename_i h2
        rw [if_pos h2] at hok
        unfold az_max at hst
        split at hst
        · split at hst
          · rename_i hg
            cases hst
            exact va_mmax hx hb (hml.trans hl.2.1.symm) hown (hts _ (az_w_in hok)) (hts _ az_fx_6) (hts _ az_fx_5) (hts _ az_fx_7) (by omega) (by rw [az_cat_map]; omega) (by omega) (by omega) hd (kk H locs ls cells slots hP hS hl hc hs)
          · cases hst
        · cases hst
      · rename_i h2
        rw [if_neg h2] at hok
        split at hst
        · rename_i h3
          rw [if_pos h3] at hok
          unfold az_min at hst
          split at hst
          · split at hst
            · rename_i hg
              cases hst
              exact va_mmin hx hb (hml.trans hl.2.1.symm) hown (hts _ (az_w_in hok)) (hts _ az_fx_8) (hts _ az_fx_5) (hts _ az_fx_9) (by omega) (by rw [az_cat_map]; omega) (by omega) (by omega) hd (kk H locs ls cells slots hP hS hl hc hs)
            · cases hst
          · cases hst
        · exact absurd hst az_cl_no
  case invokespecial q =>
    replace hst : (if a = 9998 then az_obj d pc L S σ else az_cl sh 2 a pc S σ) = _ := hst
    replace hok : (if a = 9998 then az_w z (.methodLink (az_m k).1.cls q objectInit) else az_cok (az_m k).1.cls q 2 a b z) = true := hok
    split at hst
    · rename_i h1
      rw [if_pos h1] at hok
      unfold az_obj at hst
      split at hst
      · split at hst
        · rename_i hg
          cases hst
          exact W.objInit hx hb hown (hts _ (az_w_in hok)) (hts _ az_fx_0) (hts _ az_fx_1) rfl (hl.2.1.trans hml.symm) rfl hd (by omega) (by show 2 * 0 + _ + 12 ≤ _; rw [az_cat_map]; omega) (kk H locs ls cells slots hP hS hl hc hs)
        · cases hst
      · cases hst
    · exact absurd hst az_cl_no
  case invokevirtual q =>
    exact absurd hst az_cl_no
  case return_ =>
    replace hst : az_rv S σ = _ := hst
    unfold az_rv at hst
    split at hst <;> cases hst
  case ireturn =>
    replace hst : az_ri rt S σ = _ := hst
    unfold az_ri at hst
    split at hst
    · split at hst
      · split at hst <;> cases hst
      · cases hst
    · cases hst
  case lreturn =>
    replace hst : az_rl S σ = _ := hst
    unfold az_rl at hst
    split at hst <;> cases hst
  case areturn =>
    replace hst : az_ra S σ = _ := hst
    unfold az_ra at hst
    split at hst <;> cases hst
  all_goals cases hst
end AZ

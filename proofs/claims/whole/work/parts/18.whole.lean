theorem az_arrV_c {cI : ClassId} {N : Nat} {f g : Nat → Value} (h : ∀ j, j < N → f j = g j) : arrV cI N f = arrV cI N g := by
  unfold arrV
  congr 1
  congr 1
  funext j
  exact h j.val j.isLt
theorem az_agf_ok {ad : Nat → Nat} {σ : az_S} {r k c f : Nat} (h : az_agf σ r k c f = true) : az_fv ad σ r k c = az_fv ad (97, az_I0, az_J0, az_R0) r k f := by
  unfold az_agf at h
  split at h
  · simp only [Bool.and_eq_true, beq_iff_eq] at h
    obtain ⟨rfl, h⟩ := h
    show Value.int _ = Value.int _
    rw [h]
  · simp only [Bool.and_eq_true, beq_iff_eq] at h
    obtain ⟨rfl, h⟩ := h
    show Value.int _ = Value.int _
    rw [h]
  · split at h
    · simp only [beq_iff_eq] at h
      show va_rf _ = va_rf _
      rw [h]
    · simp only [beq_iff_eq] at h
      show va_rf _ = Value.ref _
      rw [h]
      rfl
    · cases h
  · cases h
theorem az_agc_ok {D : va_G} {ad : Nat → Nat} {cA : Nat → ClassId} {σ : az_S} {r q : Nat} {c f : Nat × Nat × List Nat} {H : Heap} (h : az_agc σ r c f = true) (hat : va_at D vwCl (q, az_e ad cA σ r c) H) : va_at D vwCl (q, az_e ad cA (97, az_I0, az_J0, az_R0) r f) H := by
  unfold az_agc at h
  split at h
  · rename_i a cs a' fs
    simp only [Bool.and_eq_true, beq_iff_eq, List.all_eq_true, List.mem_range] at h
    obtain ⟨⟨rfl, h2⟩, h3⟩ := h
    have e : (cs.mapIdx fun k c => az_fv ad σ r k c) = fs.mapIdx fun k c => az_fv ad (97, az_I0, az_J0, az_R0) r k c := by
      apply List.ext_getElem?
      intro j
      rw [List.getElem?_mapIdx, List.getElem?_mapIdx]
      by_cases hj : j < cs.length
      · have := az_agf_ok (ad := ad) (h3 j hj)
        rw [List.getD_eq_getElem?_getD, List.getD_eq_getElem?_getD, List.getElem?_eq_getElem hj, List.getElem?_eq_getElem (by omega)] at this
        rw [List.getElem?_eq_getElem hj, List.getElem?_eq_getElem (by omega)]
        exact congrArg some this
      · rw [List.getElem?_eq_none (by omega), List.getElem?_eq_none (by omega)]
        rfl
    show va_at D vwCl (q, .inr (a, fs.mapIdx fun k c => az_fv ad (97, az_I0, az_J0, az_R0) r k c)) H
    rw [← e]
    exact hat
  · rename_i n _ n' _
    simp only [Bool.and_eq_true, beq_iff_eq, List.all_eq_true, List.mem_range] at h
    obtain ⟨rfl, h3⟩ := h
    have hat : H[q]? = some (arrV (cA 1) n (fun j => .int (σ.2.1 r j))) := hat
    show H[q]? = some (arrV (cA 1) n (fun j => .int (az_I0 r j)))
    rw [hat, az_arrV_c (fun j hj => by rw [h3 j hj])]
  · rename_i n _ n' _
    simp only [Bool.and_eq_true, beq_iff_eq, List.all_eq_true, List.mem_range] at h
    obtain ⟨rfl, h3⟩ := h
    have hat : H[q]? = some (arrV (cA 2) n (fun j => .long (σ.2.2.1 r j))) := hat
    show H[q]? = some (arrV (cA 2) n (fun j => .long (az_J0 r j)))
    rw [hat, az_arrV_c (fun j hj => by rw [h3 j hj])]
  · rename_i n _ n' _
    simp only [Bool.and_eq_true, beq_iff_eq, List.all_eq_true, List.mem_range] at h
    obtain ⟨rfl, h3⟩ := h
    have hat : H[q]? = some (arrV (cA 3) n (fun j => .int (σ.2.1 r j))) := hat
    show H[q]? = some (arrV (cA 3) n (fun j => .int (az_I0 r j)))
    rw [hat, az_arrV_c (fun j hj => by rw [h3 j hj])]
  · rename_i n _ n' fs
    simp only [Bool.and_eq_true, beq_iff_eq, List.all_eq_true, List.mem_range] at h
    obtain ⟨rfl, h3⟩ := h
    have hat : H[q]? = some (arrV (cA 4) n (fun j => va_rf ((σ.2.2.2 r j).map ad))) := hat
    show H[q]? = some (arrV (cA 4) n (fun j => va_rf ((fs[j]?).map ad)))
    rw [hat, az_arrV_c (fun j hj => by rw [h3 j hj])]
  · cases h
theorem az_conv {base : Nat} {t : Nat → Nat} {D : va_G} {cA : Nat → ClassId} {σ : az_S} {H : Heap} (hag : az_ag σ = true) (hP : az_Pw az_C base t D cA σ H) : az_Pw az_F base t D cA (97, az_I0, az_J0, az_R0) H := by
  unfold az_ag at hag
  simp only [Bool.and_eq_true, beq_iff_eq, List.all_eq_true, List.mem_range] at hag
  obtain ⟨h1, h2⟩ := hag
  refine ⟨fun k q hq => ?_, by rw [az_CF.2.2.1]; exact Nat.le_refl 97⟩
  unfold az_ws at hq
  rw [List.getElem?_map] at hq
  cases hr : (List.range 97)[k]? with
  | none => rw [show ((97, az_I0, az_J0, az_R0) : az_S).1 = 97 from rfl, hr] at hq; cases hq
  | some j =>
    rw [show ((97, az_I0, az_J0, az_R0) : az_S).1 = 97 from rfl, hr] at hq
    obtain ⟨g1, g2⟩ := List.getElem?_eq_some_iff.mp hr
    have hj : j = k := by simpa using g2.symm
    subst hj
    have hj97 : j < 97 := by simpa using g1
    cases hq
    have hCj : az_C[j]? = some (az_C[j]'(by rw [az_CF.2.1]; exact hj97)) := List.getElem?_eq_getElem _
    have hFj : az_F[j]? = some (az_F[j]'(by rw [az_CF.2.2.1]; exact hj97)) := List.getElem?_eq_getElem _
    have hk : az_k az_C σ.1 (j + 3) = az_C[j]? := by
      unfold az_k
      rw [if_pos ⟨by omega, by omega⟩]
      congr 1
    rw [hCj] at hk
    have hat := hP.1 _ _ (az_ws_at hk)
    have := h2 j hj97
    rw [hCj, hFj] at this
    dsimp only
    rw [hFj]
    exact az_agc_ok this hat
set_option maxHeartbeats 4000000 in
/-- THE LAW, out of a run of the small machine from the head of its loop -/
theorem az_whole {p : Program} {e : Env} {s : State} {m : MethodId} {below : List Frame} {meth : Method} {c : Code} (l : Launch) {b L : Nat} {xs : Nat → Int32} (C0 : lw_At p s m meth c b L xs)
    (hrun : az_E az_F (az_ex L xs) 1300 258 18 [.ref 0, .ref 3, .ref 73, .int 0] [] (97, az_I0, az_J0, az_R0) (fun v σ => v = some (.int 1) ∧ σ.1 = 97)) : W p l e room_1 s m #[Value.ref b] below meth c s.heap [] 0 0 (lw_Z below #[Value.ref b] s) (entryFrame m ([Value.ref b] : List Value).toArray 4) := by
  obtain ⟨t, D, cA, ht0, hE⟩ := az_start C0
  obtain ⟨hx, hb, hr, hml, hown, hts, hX, hbl, hlocks, hgv⟩ := id C0
  have hC : az_Cx 258 p s m #[Value.ref b] meth c := ⟨hx, hb, hml, hown, fun w hw => hts w (List.mem_filter.mp hw).1, fun h => absurd h (by decide)⟩
  have hg := az_g_ck
  cases h0 : az_g az_ex0 with
  | none => rw [h0] at hg; cases hg
  | some r =>
    obtain ⟨L1, S1, σ1⟩ := r
    rw [h0] at hg
    simp only [Bool.and_eq_true, decide_eq_true_eq] at hg
    obtain ⟨⟨rfl, rfl⟩, hag⟩ := hg
    have hσ1 : σ1.1 = 97 := by
      have := hag
      unfold az_ag at this
      rw [Bool.and_eq_true] at this
      simpa using this.1
    have hgo : az_go az_C (az_ex L xs) 18 40 6 258 0 [.ref 0, .retAddr 0, .retAddr 0, .retAddr 0] [] (0, fun _ _ => 0, fun _ _ => 0, fun _ _ => none) = some ([.ref 0, .ref 3, .ref 73, .int 0], [], σ1) := (az_g_ex _).trans h0
    obtain ⟨n, v, σe, hr1, rfl, hσe⟩ := hrun
    obtain ⟨q1, q2, q3, q4⟩ := az_CF
    have hz0 : ∀ sh : az_H, az_slots sh 0 = 0 := fun sh => by simp [az_slots]
    have GF : az_G (az_Wf p l e room_1 s m #[Value.ref b] below meth c (lw_Z below #[Value.ref b] s)) s m az_F s.heap.size t D cA 0 (az_m 258).2.2.1 18 [.ref 0, .ref 3, .ref 73, .int 0] [] (97, az_I0, az_J0, az_R0) := by
      refine az_body az_hmk az_hgl hC hE az_F_ok (d := 1300) ⟨by decide, by decide⟩ rfl (by rw [hσe]; decide) (by rw [hσe, hz0, ← q1]; show _ ≤ 0 + 7302250; omega) (fun d' _ k n vs σ v σ' hk hrun hlay => az_all az_hmk az_hgd az_F_ok d' k n vs σ v σ' hk hrun hlay) (fun pc L0 S0 σ0 hst => ?_) n 18 _ _ _ hr1
      intro H locs ls cells slots hP hS hl hc hs
      obtain ⟨i, a, b', z, g1, g2⟩ := az_step_e hst
      have g3 := az_hgl pc _ g1
      unfold az_ok at g3
      rw [Bool.and_eq_true] at g3
      have hd := of_decide_eq_true g3.1
      obtain ⟨g4, g5⟩ := az_i_ret g2
      dsimp only at g4 g5
      subst g4
      rcases g5 with ⟨_, _, g⟩ | ⟨rfl, x, rfl, gx, -⟩ | ⟨_, x, _, g⟩ | ⟨_, ⟨x, _, g⟩ | ⟨_, g⟩⟩
      · cases g
      · cases gx
        show W p l e room_1 s m #[Value.ref b] below meth c H locs cells slots _ _
        refine va_forget (fun q hq => hS.2.2 q hq) ?_
        refine W.widen (k := 600000) (n := 7302250) (by omega) (by rw [hz0, hσe, ← q1] at hs; omega) ?_
        exact lw_ret hx hb hr hlocks hd
      · cases g
      · cases g
      · cases g
    have GC : az_G (az_Wf p l e room_1 s m #[Value.ref b] below meth c (lw_Z below #[Value.ref b] s)) s m az_C s.heap.size t D cA 0 (az_m 258).2.2.1 18 [.ref 0, .ref 3, .ref 73, .int 0] [] σ1 := fun H locs ls cells slots hP hS hl hc hs => GF H locs ls cells slots (az_conv hag hP) hS hl (hc.trans hσ1) (by rw [hz0] at hs ⊢; rw [hs, hσ1]; exact q1)
    have G0 := az_go_W (tgt := 18) az_hgl hC hE az_C_ok (d := 6) ⟨by decide, by decide⟩ rfl (by rw [hσ1]; decide) (by rw [hσ1, hz0]; show _ ≤ 0 + 7302250; omega) GC 40 0 _ _ _ hgo
    rw [lg_entry_eq]
    have hl := lv_entry ([Value.ref 0].map (az_v (az_ad t s.heap.size))) (n := 4) (by rw [az_lay_len]; decide)
    have hent : [Value.ref 0].map (az_v (az_ad t s.heap.size)) = [Value.ref b] := by
      show [Value.ref (az_ad t s.heap.size 0)] = _
      rw [show az_ad t s.heap.size 0 = t 0 from rfl, ht0]
    have hloc := az_loc.ent (ad := az_ad t s.heap.size) [Value.ref 0] (n := 4) (by decide) hl
    rw [hent] at hloc
    exact G0 s.heap [] _ 0 0 ⟨fun k q h => by simp [az_ws] at h, Nat.zero_le _⟩ va_S.rf hloc rfl (by simp)

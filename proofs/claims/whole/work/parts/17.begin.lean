/-! FROM THE ENTRY TO THE LAW'S LOOP: the two constructors, run by the small machine -/
/-- the cells as the constructors make them -/
def az_C : az_H := [(0, 10, [2, 2, 2, 2, 2, 2, 2, 2, 2, 2, 2, 2, 2, 2]),
  (0, 5, [2, 2, 2, 0, 2, 2, 2, 2, 2, 0, 0, 2]),
  (1, 144, []),
  (1, 8, []),
  (1, 8, []),
  (1, 6, []),
  (1, 6, []),
  (1, 6, []),
  (1, 6, []),
  (1, 6, []),
  (1, 4, []),
  (0, 8, [2, 0, 0, 0, 2]),
  (1, 120, []),
  (0, 4, [2, 2, 2, 2, 0, 1]),
  (1, 121, []),
  (1, 121, []),
  (1, 6, []),
  (1, 64, []),
  (0, 4, [2, 2, 2, 2, 0, 1]),
  (1, 121, []),
  (1, 121, []),
  (1, 6, []),
  (1, 64, []),
  (0, 6, [2, 2, 2, 2, 0, 0, 0, 0]),
  (1, 100, []),
  (1, 100, []),
  (0, 6, [2, 2, 2, 2, 0, 0, 0, 0]),
  (1, 100, []),
  (1, 100, []),
  (0, 2, [2, 2, 2, 0, 2, 2, 2, 0, 0]),
  (1, 144, []),
  (1, 144, []),
  (1, 144, []),
  (1, 100, []),
  (1, 577, []),
  (1, 577, []),
  (0, 9, [2, 0, 2, 2, 2, 0]),
  (1, 6, []),
  (1, 36, []),
  (1, 6, []),
  (1, 6, []),
  (0, 1, [2, 2, 2, 2, 0, 0]),
  (1, 40, []),
  (1, 40, []),
  (1, 40, []),
  (1, 40, []),
  (0, 3, [1, 0, 2, 2, 2, 2, 2]),
  (1, 6, []),
  (1, 6, []),
  (1, 6, []),
  (1, 6, []),
  (1, 4, []),
  (0, 0, [2, 0, 2, 0, 0]),
  (1, 50, []),
  (1, 24, []),
  (4, 6, []),
  (1, 8, []),
  (1, 152, []),
  (0, 7, [0, 0, 0, 2]),
  (2, 60, []),
  (0, 7, [0, 0, 0, 2]),
  (2, 60, []),
  (0, 7, [0, 0, 0, 2]),
  (2, 60, []),
  (0, 7, [0, 0, 0, 2]),
  (2, 60, []),
  (0, 7, [0, 0, 0, 2]),
  (2, 60, []),
  (0, 7, [0, 0, 0, 2]),
  (2, 60, []),
  (0, 11, [2, 2, 2, 2, 0, 0, 0, 0, 2, 2, 2, 0, 2, 0, 0, 0, 0, 0, 0, 2, 2, 2, 2, 2, 2, 2, 2, 2, 2, 1, 0, 2, 2, 0, 2, 2, 0, 0, 0, 2, 2, 2, 2]),
  (1, 179, []),
  (1, 40, []),
  (1, 40, []),
  (1, 40, []),
  (1, 6, []),
  (1, 6, []),
  (1, 120, []),
  (1, 120, []),
  (1, 6, []),
  (1, 100, []),
  (1, 144, []),
  (3, 144, []),
  (1, 100, []),
  (1, 144, []),
  (1, 5, []),
  (1, 81, []),
  (1, 19, []),
  (1, 4, []),
  (1, 24, []),
  (1, 4, []),
  (1, 50, []),
  (1, 24, []),
  (1, 6, []),
  (1, 6, []),
  (2, 360, []),
  (2, 60, [])]
/-- runs till the place tgt -/
def az_go (sh : az_H) (ex : az_X) (tgt : Nat) : Nat → Nat → Nat → Nat → List Value → List Value → az_S → Option (List Value × List Value × az_S)
  | 0, _, _, _, _, _, _ => none
  | n + 1, d, k, pc, L, S, σ => if pc = tgt then some (L, S, σ) else match az_step sh ex d k pc L S σ with
    | none => none
    | some (.inl (pc', L', S', σ')) => az_go sh ex tgt n d k pc' L' S' σ'
    | some (.inr (.inl _)) => none
    | some (.inr (.inr (k', vs, pc', S'))) => (match d with
      | 0 => none
      | d + 1 => (match az_run sh ex 1000 d k' 0 (az_ent vs (az_m k').2.2.1) [] σ with
        | none => none
        | some (v, σ') => az_go sh ex tgt n (d + 1) k pc' L (v.toList ++ S') σ'))
theorem az_go_ge {sh : az_H} {ex : az_X} {tgt : Nat} : ∀ (n d k pc : Nat) (L S : List Value) (σ : az_S) (L' S' : List Value) (σ' : az_S), az_go sh ex tgt n d k pc L S σ = some (L', S', σ') → σ.1 ≤ σ'.1 := by
  intro n
  induction n with
  | zero => intro d k pc L S σ L' S' σ' h; cases h
  | succ n ih =>
    intro d k pc L S σ L' S' σ' h
    unfold az_go at h
    split at h
    · cases h; exact Nat.le_refl _
    · split at h
      · cases h
      · rename_i hst
        obtain ⟨i, a, b, z, -, h1⟩ := az_step_e hst
        exact Nat.le_trans (az_i_ge h1) (ih _ _ _ _ _ _ _ _ _ h)
      · cases h
      · split at h
        · cases h
        · split at h
          · cases h
          · rename_i h2
            exact Nat.le_trans (az_run_ge _ _ _ _ _ _ _ _ _ h2) (ih _ _ _ _ _ _ _ _ _ h)
theorem az_go_W {p : Program} {l : Launch} {e : Env} {R : Room} {s : State} {m : MethodId} {args : Array Value} {below : List Frame} {meth : Method} {c : Code} {Q : State → Prop} {sh : az_H} {ex : az_X} {base n0 d k tgt : Nat} {t : Nat → Nat} {D : va_G} {cA : Nat → ClassId}
    (hgd : az_gd k) (hC : az_Cx k p s m args meth c) (hE : az_En ex base t D cA s) (hsh : sh.all az_shc = true) (hdR : d ≤ R.frames ∧ 64 * d ≤ R.locals) (hn0 : s.heap.size = base + n0) {Le Se : List Value} {σe : az_S} (hrc : σe.1 ≤ n0 + R.cells) (hrs : az_slots sh σe.1 ≤ az_slots sh n0 + R.slots)
    (kk : az_G (az_Wf p l e R s m args below meth c Q) s m sh base t D cA n0 (az_m k).2.2.1 tgt Le Se σe) :
    ∀ (n pc : Nat) (L S : List Value) (σ : az_S), az_go sh ex tgt n d k pc L S σ = some (Le, Se, σe) → az_G (az_Wf p l e R s m args below meth c Q) s m sh base t D cA n0 (az_m k).2.2.1 pc L S σ := by
  intro n
  induction n with
  | zero => intro pc L S σ h; cases h
  | succ n ih =>
    intro pc L S σ h
    unfold az_go at h
    split at h
    · rename_i hp
      cases h
      rw [hp]
      exact kk
    · split at h
      · cases h
      · rename_i pc' L' S' σ' hst
        obtain ⟨i, a, b, z, g1, g2⟩ := az_step_e hst
        have g3 := hgd pc _ g1
        unfold az_ok at g3
        rw [Bool.and_eq_true] at g3
        have hge := az_go_ge _ _ _ _ _ _ _ _ _ _ h
        exact az_step_1 hC hE hsh hdR hn0 (Nat.le_trans hge hrc) (Nat.le_trans (az_slots_mono sh hge) hrs) (of_decide_eq_true g3.1) g3.2 g2 (ih _ _ _ _ h)
      · cases h
      · rename_i k' vs pc' S' hst
        obtain ⟨i, a, b, z, g1, g2⟩ := az_step_e hst
        have g3 := hgd pc _ g1
        unfold az_ok at g3
        rw [Bool.and_eq_true] at g3
        split at h
        · cases h
        · rename_i d'
          split at h
          · cases h
          · rename_i v1 σ1 hcall
            have hge1 := az_run_ge _ _ _ _ _ _ _ _ _ hcall
            have hge := az_go_ge _ _ _ _ _ _ _ _ _ _ h
            exact az_call_ok az_hmk hC hE hdR hn0 (of_decide_eq_true g3.1) g3.2 g2 hge1 (Nat.le_trans hge hrc) (Nat.le_trans (az_slots_mono sh hge) hrs) (fun hl hk => az_all az_hmk az_hgd hsh d' k' 1000 vs σ v1 σ1 hk hcall hl) (ih _ _ _ _ h)
def az_agf (σ : az_S) (r k c f : Nat) : Bool := match c with
  | 0 => f == 0 && σ.2.1 r k == az_I0 r k
  | 1 => f == 1 && σ.2.1 r k == az_I0 r k
  | 2 => match f with
    | 2 => σ.2.2.2 r k == az_R0 r k
    | q + 3 => σ.2.2.2 r k == some (q + 3)
    | _ => false
  | _ => false
def az_agc (σ : az_S) (r : Nat) (c f : Nat × Nat × List Nat) : Bool := match c, f with
  | (0, a, cs), (0, a', fs) => a == a' && cs.length == fs.length && (List.range cs.length).all fun k => az_agf σ r k (cs.getD k 9) (fs.getD k 9)
  | (1, n, _), (1, n', _) => n == n' && (List.range n).all fun k => σ.2.1 r k == az_I0 r k
  | (2, n, _), (2, n', _) => n == n' && (List.range n).all fun k => σ.2.2.1 r k == az_J0 r k
  | (3, n, _), (3, n', _) => n == n' && (List.range n).all fun k => σ.2.1 r k == az_I0 r k
  | (4, n, _), (5, n', fs) => n == n' && (List.range n).all fun k => σ.2.2.2 r k == fs[k]?
  | _, _ => false
def az_ag (σ : az_S) : Bool := σ.1 == 97 && (List.range 97).all fun i => az_agc σ (i + 3) ((az_C[i]?).getD (9, 0, [])) ((az_F[i]?).getD (9, 0, []))
def az_ex0 : az_X := fun _ => (0, fun _ => 0)
def az_g (ex : az_X) : Option (List Value × List Value × az_S) := az_go az_C ex 18 40 6 258 0 [.ref 0, .retAddr 0, .retAddr 0, .retAddr 0] [] (0, fun _ _ => 0, fun _ _ => 0, fun _ _ => none)
set_option maxRecDepth 100000 in
theorem az_g_ex (ex : az_X) : az_g ex = az_g az_ex0 := rfl
set_option maxRecDepth 100000 in
theorem az_g_ck : (match az_g az_ex0 with
  | some (L, S, σ) => decide (L = [.ref 0, .ref 3, .ref 73, .int 0]) && decide (S = []) && az_ag σ
  | none => false) = true := by decide +kernel
theorem az_C_ok : az_C.all az_shc = true := by decide +kernel
theorem az_F_ok : az_F.all az_shc = true := by decide +kernel
theorem az_CF : az_slots az_C 97 = az_slots az_F 97 ∧ az_C.length = 97 ∧ az_F.length = 97 ∧ az_slots az_C 97 < 10000 := by decide +kernel

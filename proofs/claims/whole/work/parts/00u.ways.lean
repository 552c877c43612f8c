/-! WAYS: what the calls on ways share -/
def pl {S V : Type} (f : S → S ⊕ V) : Nat → S → Option V
  | 0, _ => none
  | n + 1, s => match f s with
    | .inl s' => pl f n s'
    | .inr v => some v
/-- a loop that goes as a pure one does -/
theorem pl_sim {S V T W : Type} {b : T → Option (T ⊕ W)} {f : S → S ⊕ V} {pk : S → (Nat → Nat → Int32) → T} {fin : V → (Nat → Nat → Int32) → W} {Inv : S → Prop} {P : (Nat → Nat → Int32) → Prop}
    (h : ∀ s I, Inv s → P I → ∃ I', P I' ∧ ((∃ s', f s = .inl s' ∧ Inv s' ∧ b (pk s I) = some (.inl (pk s' I'))) ∨ (∃ v, f s = .inr v ∧ b (pk s I) = some (.inr (fin v I'))))) :
    ∀ n s I v, Inv s → P I → pl f n s = some v → ∃ I', az_lp b n (pk s I) = some (fin v I') ∧ P I' := by
  intro n
  induction n with
  | zero => intro s I v _ _ h; cases h
  | succ n ih =>
    intro s I v hi hp hv
    unfold pl at hv
    obtain ⟨I', hP, hor⟩ := h s I hi hp
    rcases hor with ⟨s', e, hi', hb⟩ | ⟨w, e, hb⟩
    · rw [e] at hv
      obtain ⟨I2, hI2, hP2⟩ := ih s' I' v hi' hP hv
      refine ⟨I2, ?_, hP2⟩
      unfold az_lp
      rw [hb]
      exact hI2
    · rw [e] at hv
      cases hv
      refine ⟨I', ?_, hP⟩
      unfold az_lp
      rw [hb]
theorem pl_ex {S V : Type} {f : S → S ⊕ V} {Inv : S → Prop} (μ : S → Nat) (h : ∀ s, Inv s → (∃ s', f s = .inl s' ∧ Inv s' ∧ μ s' < μ s) ∨ ∃ v, f s = .inr v) : ∀ n s, μ s < n → Inv s → ∃ v, pl f n s = some v := by
  intro n
  induction n with
  | zero => intro s h; omega
  | succ n ih =>
    intro s hm hi
    unfold pl
    rcases h s hi with ⟨s', e, hi', hm'⟩ | ⟨v, e⟩
    · rw [e]
      exact ih s' (by omega) hi'
    · rw [e]
      exact ⟨v, rfl⟩
def scX : Nat → Nat → Prop := fun r _ => r = 19 ∨ r = 20 ∨ r = 24 ∨ r = 25 ∨ (26 ≤ r ∧ r ≤ 43) ∨ r = 59 ∨ r = 60
def scM : Nat → Nat → Prop := fun r k => (r = 73 ∧ 14 ≤ k ∧ k ≤ 18) ∨ (82 ≤ r ∧ r ≤ 90)
theorem scX_sc {I I' : Nat → Nat → Int32} (f : az_fr scX I I') : az_fr sc I I' := f.mono (fun r k q => by unfold scX at q; unfold sc; omega)
theorem scM_sc {I I' : Nat → Nat → Int32} (f : az_fr scM I I') : az_fr sc I I' := f.mono (fun r k q => by unfold scM at q; unfold sc; omega)
def wX (I : Nat → Nat → Int32) (rl : Nat) (L : lw_T) (h pc pt : Nat → Nat) : Prop := lw_X I rl L ∧ (∀ c, c < 144 → I 5 c = nI (h c) ∧ h c < 10) ∧ (∀ k, k < 8 → I 6 k = nI (pc k) ∧ pc k < 144 ∧ I 7 k = nI (pt k) ∧ pt k < 144)
def wM (I : Nat → Nat → Int32) (L : lw_T) (h pc pt : Nat → Nat) : Prop := lw_M I L ∧ (∀ c, c < 144 → I 74 c = nI (h c) ∧ h c < 10) ∧ (∀ k, k < 8 → I 74 (144 + k) = nI (pc k) ∧ pc k < 144 ∧ I 74 (152 + k) = nI (pt k) ∧ pt k < 144)
theorem wX.fr {I I' : Nat → Nat → Int32} {rl : Nat} {L : lw_T} {h pc pt : Nat → Nat} (hrl : rl = 16 ∨ rl = 21) (f : az_fr sc I I') (q : wX I rl L h pc pt) : wX I' rl L h pc pt :=
  ⟨q.1.fr (fun r k z => f r k (by unfold sc; omega)), fun c hc => by rw [f 5 c (by unfold sc; omega)]; exact q.2.1 c hc, fun k hk => by rw [f 6 k (by unfold sc; omega), f 7 k (by unfold sc; omega)]; exact q.2.2 k hk⟩
theorem wM.fr {I I' : Nat → Nat → Int32} {L : lw_T} {h pc pt : Nat → Nat} (f : az_fr sc I I') (q : wM I L h pc pt) : wM I' L h pc pt :=
  ⟨q.1.fr (f 73 13 (by unfold sc; omega)) (fun k => f 81 k (by unfold sc; omega)), fun c hc => by rw [f 74 c (by unfold sc; omega)]; exact q.2.1 c hc, fun k hk => by rw [f 74 (144 + k) (by unfold sc; omega), f 74 (152 + k) (by unfold sc; omega)]; exact q.2.2 k hk⟩
/-- all that the calls on ways read -/
theorem Rel.w {I : Nat → Nat → Int32} {J : Nat → Nat → Int64} {rl rd : Nat} (q : Rel I J rl rd) : ∃ np nw L h pc pt, np ≤ 8 ∧ nw ≤ 6 ∧ (I 4 3 = nI np ∧ I 73 6 = nI np ∧ I 4 9 = nI nw ∧ I 73 7 = nI nw) ∧ (rl = 16 ∨ rl = 21) ∧ lw_B L ∧ wX I rl L h pc pt ∧ wM I L h pc pt ∧
    (∀ w, w < 6 → I 74 (160 + w) = I 8 w ∧ I 74 (166 + w) = I 9 w ∧ I 74 (172 + w) = I 10 w) ∧ I 74 178 = I 4 10 := by
  obtain ⟨h1, h2, h3, h4, h5, h6, h7, h8, h9, h10, h11, h12⟩ := q
  obtain ⟨np, nw, p1, p2, p3, p4, p5, p6⟩ := h1
  obtain ⟨h, h2⟩ := h2
  obtain ⟨pc, pt, h3⟩ := h3
  obtain ⟨g1, L, g2, g3, g4⟩ := h8
  refine ⟨np, nw, L, h, pc, pt, p1, p2, ⟨p3, p4, p5, p6⟩, by omega, g2, ⟨g3, fun c hc => ⟨(h2 c hc).1, (h2 c hc).2.2⟩, fun k hk => ?_⟩, ⟨g4, fun c hc => (h2 c hc).2, fun k hk => ?_⟩, fun w hw => ?_, h4.2⟩
  · obtain ⟨a1, a2, a3, a4, a5, a6⟩ := h3 k hk
    exact ⟨a1, a3, a4, a6⟩
  · obtain ⟨a1, a2, a3, a4, a5, a6⟩ := h3 k hk
    exact ⟨a2, a3, a5, a6⟩
  · obtain ⟨a1, a2, a3, a4⟩ := h4.1 w hw
    exact ⟨a1, a3, a4⟩
theorem mt_mk {I I1 I2 : Nat → Nat → Int32} {J : Nat → Nat → Int64} {rl rd : Nat} {X : Option (Int32 × (Nat → Nat → Int32))} {M : (Nat → Nat → Int32) → Option (Int32 × (Nat → Nat → Int32))} (h : Rel I J rl rd) (v : Int32) (x : X = some (v, I1)) (fx : az_fr scX I I1) (m : M I1 = some (v, I2)) (fm : az_fr scM I1 I2) : mt X M J rl rd :=
  ⟨v, I1, I2, x, m, (h.fr (scX_sc fx)).fr (scM_sc fm)⟩
/-- the arm: minutes from a to b by step minutes t -/
noncomputable def am (h t : Nat → Nat) (a b : Nat) : Nat := ds_d (dk_W h t true) a b
/-- the pace that is set: whose numbers -/
def pq (I : Nat → Nat → Int32) (L : lw_T) (h : Nat → Nat) (he lo sh we : Int32) : Prop := pc_ok I 26 h ∧ I 26 4 = he ∧ I 26 5 = lo ∧ I 26 6 = sh ∧ I 26 7 = we ∧ sp_in I 26 h (tt L he lo sh we)
def F_s : Nat → Nat → Prop := fun r k => (33 ≤ r ∧ r ≤ 38) ∨ (r = 32 ∧ (k = 3 ∨ k = 7 ∨ k = 8))
theorem pq.fr {I I' : Nat → Nat → Int32} {L : lw_T} {h : Nat → Nat} {he lo sh we : Int32} (q : pq I L h he lo sh we) (f : az_fr (fun r k => r ≠ 5 ∧ r ≠ 26 ∧ r ≠ 27 ∧ r ≠ 28) I I') : pq I' L h he lo sh we := by
  obtain ⟨⟨a1, a2⟩, b1, b2, b3, b4, c1, c2⟩ := q
  refine ⟨⟨fun c hc => ?_, fun c o hc he => ?_⟩, ?_, ?_, ?_, ?_, fun c hc => ?_, fun c o hc he => ?_⟩
  · rw [f 5 c (by (try dsimp only); omega)]; exact a1 c hc
  · rw [f 28 _ (by (try dsimp only); omega)]; exact a2 c o hc he
  · rw [f 26 4 (by (try dsimp only); omega)]; exact b1
  · rw [f 26 5 (by (try dsimp only); omega)]; exact b2
  · rw [f 26 6 (by (try dsimp only); omega)]; exact b3
  · rw [f 26 7 (by (try dsimp only); omega)]; exact b4
  · rw [f 5 c (by (try dsimp only); omega)]; exact c1 c hc
  · rw [f 27 _ (by (try dsimp only); omega)]; exact c2 c o hc he
section
variable {I : Nat → Nat → Int32} {rl : Nat} {L : lw_T} {h pc pt : Nat → Nat} {he lo sh we : Int32}
theorem wX.ok (q : wX I rl L h pc pt) (hB : lw_B L) (he lo sh we : Int32) : th_ok h (tt L he lo sh we) := tt_ok hB he lo sh we (fun c hc => (q.2.1 c hc).2)
theorem px_set (hrl : rl = 16 ∨ rl = 21) (hB : lw_B L) (q : wX I rl L h pc pt) {w : Nat} (hw : w < 6) : ∃ I', rs_X_setPace rl I (nI w) = some I' ∧ az_fr scX I I' ∧ pq I' L h (I 8 w) (I 9 w) (I 10 w) (I 4 10) := by
  obtain ⟨I', r, f, a, b, c1, c2, c3, c4⟩ := pc_become (p := 26) (he := I 8 w) (lo := I 9 w) (sh := I 10 w) (Or.inl rfl) hrl q.1 hB q.2.1
  refine ⟨I', ?_, f.mono (fun r k q => by unfold pc_B at q; unfold scX; omega), a, c1, c2, c3, c4, b⟩
  unfold rs_X_setPace
  simp (disch := omega) only [bl_lit, lgl, lgg, lgl0, lgg0, lglm, lggm, az_us, az_un, az_ue, az_urn, az_ure, bz_lit, nI_leI, nI_ltI, nI_eq, nI_clamp, nI_add, pk_sub, pk_mul, bz_nlt, bz_nle, bz_ltn, bz_len, bz_neq, bz_eqn, bz_nn, ↓reduceIte, Bool.false_eq_true, if_pos, if_neg, r]
theorem px_refill (hrl : rl = 16 ∨ rl = 21) (hB : lw_B L) {I0 : Nat → Nat → Int32} (q : wX I0 rl L h pc pt) (f0 : az_fr sc I0 I) (hok : pc_ok I 26 h) : ∃ I', rs_Pa_fill 26 rl I = some I' ∧ az_fr (pc_F 26) I I' ∧ pq I' L h (I 26 4) (I 26 5) (I 26 6) (I 26 7) := by
  obtain ⟨I', r, f, b⟩ := pc_fill (p := 26) (Or.inl rfl) hrl (q.fr hrl f0).1 hB hok
  refine ⟨I', r, f, ⟨fun c hc => ?_, fun c o hc he => ?_⟩, ?_, ?_, ?_, ?_, b⟩
  · rw [f 5 c (by unfold pc_F; omega)]; exact hok.1 c hc
  · rw [f 28 _ (by unfold pc_F; omega)]; exact hok.2 c o hc he
  · rw [f 26 4 (by unfold pc_F; omega)]
  · rw [f 26 5 (by unfold pc_F; omega)]
  · rw [f 26 6 (by unfold pc_F; omega)]
  · rw [f 26 7 (by unfold pc_F; omega)]
theorem pc_ok.fr {I' : Nat → Nat → Int32} (q : pc_ok I 26 h) (f : az_fr (fun r _ => r = 26) I I') : pc_ok I' 26 h :=
  ⟨fun c hc => by rw [f 5 c (by omega)]; exact q.1 c hc, fun c o hc he => by rw [f 28 _ (by omega)]; exact q.2 c o hc he⟩
theorem px_heart (hrl : rl = 16 ∨ rl = 21) (hB : lw_B L) {I0 : Nat → Nat → Int32} (q : wX I0 rl L h pc pt) (f0 : az_fr scX I0 I) (p : pq I L h he lo sh we) (v : Int32) : ∃ I', rs_Pa_withHeart 26 rl I v = some I' ∧ az_fr scX I0 I' ∧ pq I' L h v lo sh we := by
  obtain ⟨hok, b1, b2, b3, b4, _⟩ := p
  have f1 : az_fr scX I0 (az_u I 26 4 v) := f0.u (by unfold scX; omega)
  obtain ⟨I', r, f, p'⟩ := px_refill hrl hB q (scX_sc f1) (hok.fr (by intro r k z; exact az_un (by (try dsimp only at z); omega)))
  rw [az_us, az_un (by omega), az_un (by omega), az_un (by omega), b2, b3, b4] at p'
  exact ⟨I', by unfold rs_Pa_withHeart; rw [r], f1.trans (f.mono (fun r k q => by unfold pc_F at q; unfold scX; omega)), p'⟩
theorem px_load (hrl : rl = 16 ∨ rl = 21) (hB : lw_B L) {I0 : Nat → Nat → Int32} (q : wX I0 rl L h pc pt) (f0 : az_fr scX I0 I) (p : pq I L h he lo sh we) (v : Int32) : ∃ I', rs_Pa_withLoad 26 rl I v = some I' ∧ az_fr scX I0 I' ∧ pq I' L h he v sh we := by
  obtain ⟨hok, b1, b2, b3, b4, _⟩ := p
  have f1 : az_fr scX I0 (az_u I 26 5 v) := f0.u (by unfold scX; omega)
  obtain ⟨I', r, f, p'⟩ := px_refill hrl hB q (scX_sc f1) (hok.fr (by intro r k z; exact az_un (by (try dsimp only at z); omega)))
  rw [az_us, az_un (by omega), az_un (by omega), az_un (by omega), b1, b3, b4] at p'
  exact ⟨I', by unfold rs_Pa_withLoad; rw [r], f1.trans (f.mono (fun r k q => by unfold pc_F at q; unfold scX; omega)), p'⟩
theorem px_weather (hrl : rl = 16 ∨ rl = 21) (hB : lw_B L) {I0 : Nat → Nat → Int32} (q : wX I0 rl L h pc pt) (f0 : az_fr scX I0 I) (p : pq I L h he lo sh we) (v : Int32) : ∃ I', rs_Pa_withWeather 26 rl I v = some I' ∧ az_fr scX I0 I' ∧ pq I' L h he lo sh v := by
  obtain ⟨hok, b1, b2, b3, b4, _⟩ := p
  have f1 : az_fr scX I0 (az_u I 26 7 v) := f0.u (by unfold scX; omega)
  obtain ⟨I', r, f, p'⟩ := px_refill hrl hB q (scX_sc f1) (hok.fr (by intro r k z; exact az_un (by (try dsimp only at z); omega)))
  rw [az_us, az_un (by omega), az_un (by omega), az_un (by omega), b1, b2, b3] at p'
  exact ⟨I', by unfold rs_Pa_withWeather; rw [r], f1.trans (f.mono (fun r k q => by unfold pc_F at q; unfold scX; omega)), p'⟩
theorem px_both (hrl : rl = 16 ∨ rl = 21) (hB : lw_B L) {I0 : Nat → Nat → Int32} (q : wX I0 rl L h pc pt) (f0 : az_fr scX I0 I) (p : pq I L h he lo sh we) (v u : Int32) : ∃ I', rs_Pa_withHeartAndLoad 26 rl I v u = some I' ∧ az_fr scX I0 I' ∧ pq I' L h v u sh we := by
  obtain ⟨hok, b1, b2, b3, b4, _⟩ := p
  have f1 : az_fr scX I0 (az_u (az_u I 26 4 v) 26 5 u) := (f0.u (by unfold scX; omega)).u (by unfold scX; omega)
  obtain ⟨I', r, f, p'⟩ := px_refill hrl hB q (scX_sc f1) (hok.fr (by intro r k z; rw [az_un (by (try dsimp only at z); omega), az_un (by (try dsimp only at z); omega)]))
  rw [az_us, az_un (by omega), az_us, az_un (by omega), az_un (by omega), az_un (by omega), az_un (by omega), b3, b4] at p'
  exact ⟨I', by unfold rs_Pa_withHeartAndLoad; rw [r], f1.trans (f.mono (fun r k q => by unfold pc_F at q; unfold scX; omega)), p'⟩
theorem px_min (hB : lw_B L) {I0 : Nat → Nat → Int32} (f0 : az_fr scX I0 I) (p : pq I L h he lo sh we) {a b : Nat} (ha : a < 144) (hb : b < 144) : ∃ I', rs_Fi_minutes 26 I (nI a) (nI b) = some (nI (am h (tt L he lo sh we) a b), I') ∧ az_fr scX I0 I' ∧ pq I' L h he lo sh we := by
  obtain ⟨I', r, f⟩ := sp_min (tt_ok hB he lo sh we (fun c hc => (p.1.1 c hc).2)) (Or.inl rfl) p.2.2.2.2.2 ha hb
  exact ⟨I', r, f0.trans (f.mono (fun r k q => by unfold sp_F at q; unfold scX; omega)), p.fr (f.mono (fun r k q => by unfold sp_F at q; (try dsimp only); omega))⟩
theorem px_arm (hrl : rl = 16 ∨ rl = 21) (hB : lw_B L) {I0 : Nat → Nat → Int32} (q : wX I0 rl L h pc pt) (f0 : az_fr scX I0 I) (p : pq I L h he lo sh we) {k : Nat} (hk : k < 8) : ∃ I', rs_X_armAt I (nI k) = some (nI (am h (tt L he lo sh we) (pc k) (pt k)), I') ∧ az_fr scX I0 I' ∧ pq I' L h he lo sh we := by
  obtain ⟨a1, a2, a3, a4⟩ := (q.fr hrl (scX_sc f0)).2.2 k hk
  obtain ⟨I', r, f, p'⟩ := px_min hB f0 p a2 a4
  refine ⟨I', ?_, f, p'⟩
  unfold rs_X_armAt
  simp (disch := omega) only [bl_lit, lgl, lgg, lgl0, lgg0, lglm, lggm, az_us, az_un, az_ue, az_urn, az_ure, bz_lit, nI_leI, nI_ltI, nI_eq, nI_clamp, nI_add, pk_sub, pk_mul, bz_nlt, bz_nle, bz_ltn, bz_len, bz_neq, bz_eqn, bz_nn, ↓reduceIte, Bool.false_eq_true, if_pos, if_neg, a1, a3, r]
end
section
variable {I : Nat → Nat → Int32} {L : lw_T} {h pc pt : Nat → Nat} {he lo sh we : Int32}
theorem pm_steps {I0 : Nat → Nat → Int32} (q : wM I0 L h pc pt) (hB : lw_B L) (f0 : az_fr scM I0 I) (he lo sh we : Int32) : ∃ I', rs_M_asksSteps I he lo sh we = some I' ∧ az_fr scM I0 I' ∧ dk_in I' h (tt L he lo sh we) := by
  have q' := q.fr (scM_sc f0)
  obtain ⟨I', r, f, b⟩ := dk_steps (he := he) (lo := lo) (sh := sh) (we := we) q'.1
  exact ⟨I', r, f0.trans (f.mono (fun r k q => by unfold dk_S at q; unfold scM; omega)), fun c hc => by rw [f 74 c (by unfold dk_S; omega)]; exact q'.2.1 c hc, fun k hk => ⟨b k hk, hB _ _ _ _ _ _⟩⟩
theorem pm_for {I0 : Nat → Nat → Int32} (q : wM I0 L h pc pt) (hB : lw_B L) (f0 : az_fr scM I0 I) {w : Nat} (hw : w < 6) : ∃ I', rs_M_asksFor I (nI w) = some I' ∧ az_fr scM I0 I' ∧ dk_in I' h (tt L (I0 74 (160 + w)) (I0 74 (166 + w)) (I0 74 (172 + w)) (I0 74 178)) := by
  obtain ⟨I', r, f, b⟩ := pm_steps q hB f0 (I0 74 (160 + w)) (I0 74 (166 + w)) (I0 74 (172 + w)) (I0 74 178)
  refine ⟨I', ?_, f, b⟩
  unfold rs_M_asksFor
  have e1 := f0 74 (160 + w) (by unfold scM; omega)
  have e2 := f0 74 (166 + w) (by unfold scM; omega)
  have e3 := f0 74 (172 + w) (by unfold scM; omega)
  have e4 := f0 74 178 (by unfold scM; omega)
  simp (disch := omega) only [bl_lit, lgl, lgg, lgl0, lgg0, lglm, lggm, az_us, az_un, az_ue, az_urn, az_ure, bz_lit, nI_leI, nI_ltI, nI_eq, nI_clamp, nI_add, pk_sub, pk_mul, bz_nlt, bz_nle, bz_ltn, bz_len, bz_neq, bz_eqn, bz_nn, ↓reduceIte, Bool.false_eq_true, if_pos, if_neg, e1, e2, e3, e4, r]
theorem pm_min {I0 : Nat → Nat → Int32} {t : Nat → Nat} (ok : th_ok h t) (f0 : az_fr scM I0 I) (p : dk_in I h t) {a b : Nat} (ha : a < 144) (hb : b < 144) : ∃ I', rs_M_between I (nI a) (nI b) = some (nI (am h t a b), I') ∧ az_fr scM I0 I' ∧ dk_in I' h t := by
  obtain ⟨I', r, f⟩ := dk_min ok p ha hb
  exact ⟨I', r, f0.trans (f.mono (fun r k q => by unfold dk_F at q; unfold scM; omega)), p.fr f⟩
theorem pm_arm {I0 : Nat → Nat → Int32} {t : Nat → Nat} (ok : th_ok h t) (q : wM I0 L h pc pt) (f0 : az_fr scM I0 I) (p : dk_in I h t) {k : Nat} (hk : k < 8) : ∃ I', rs_M_armFor I (nI k) = some (nI (am h t (pc k) (pt k)), I') ∧ az_fr scM I0 I' ∧ dk_in I' h t := by
  obtain ⟨a1, a2, a3, a4⟩ := (q.fr (scM_sc f0)).2.2 k hk
  obtain ⟨I', r, f, p'⟩ := pm_min ok f0 p a2 a4
  refine ⟨I', ?_, f, p'⟩
  unfold rs_M_armFor
  simp (disch := omega) only [bl_lit, lgl, lgg, lgl0, lgg0, lglm, lggm, az_us, az_un, az_ue, az_urn, az_ure, bz_lit, nI_leI, nI_ltI, nI_eq, nI_clamp, nI_add, pk_sub, pk_mul, bz_nlt, bz_nle, bz_ltn, bz_len, bz_neq, bz_eqn, bz_nn, ↓reduceIte, Bool.false_eq_true, if_pos, if_neg, a1, a3, r]
end
section
variable {I : Nat → Nat → Int32} {J : Nat → Nat → Int64} {rl rd : Nat}
/-- a post and a walker -/
theorem ix_aw (a : Int32) {np nw : Nat} (h1 : np ≤ 8) (h2 : nw ≤ 6) (c1 : I 4 3 = nI np) (c2 : I 4 9 = nI nw) (c3 : I 73 6 = nI np) (c4 : I 73 7 = nI nw) :
    ((a < nI 0 ∨ ¬ a < nI 0 ∧ (nI np ≤ a / 10 ∨ nI nw - nI 1 < a - a / 10 * 10)) ∧ rs_M_isAw I a = some 0) ∨ (∃ k w, k < np ∧ w < nw ∧ a / 10 = nI k ∧ a - a / 10 * 10 = nI w ∧ ¬ a < nI 0 ∧ rs_M_isAw I a = some 1) := by
  unfold rs_M_isAw
  by_cases h0 : a < nI 0
  · exact Or.inl ⟨Or.inl h0, by simp (disch := omega) only [bl_lit, lgl, lgg, lgl0, lgg0, lglm, lggm, az_us, az_un, az_ue, az_urn, az_ure, bz_lit, nI_leI, nI_ltI, nI_eq, nI_clamp, nI_add, pk_sub, pk_mul, bz_nlt, bz_nle, bz_ltn, bz_len, bz_neq, bz_eqn, bz_nn, ↓reduceIte, Bool.false_eq_true, if_pos, if_neg, h0]⟩
  · obtain ⟨n, hn, rfl⟩ := nI_of (show ¬ a < 0 from h0)
    have e1 : nI n - nI n / 10 * 10 = nI (n % 10) := pk_rem (a := n) (d := 10) (by omega) (by omega) (by omega)
    have e2 : nI n / 10 = nI (n / 10) := pk_div (a := n) (d := 10) (by omega) (by omega) (by omega)
    rw [e1, e2]
    by_cases q1 : n / 10 < np
    · by_cases q2 : n % 10 < nw
      · exact Or.inr ⟨n / 10, n % 10, q1, q2, rfl, rfl, h0, by simp (disch := omega) only [sub_lt, le_sub, bl_lit, lgl, lgg, lgl0, lgg0, lglm, lggm, az_us, az_un, az_ue, az_urn, az_ure, bz_lit, nI_leI, nI_ltI, nI_eq, nI_clamp, nI_add, pk_sub, pk_mul, bz_nlt, bz_nle, bz_ltn, bz_len, bz_neq, bz_eqn, bz_nn, ↓reduceIte, Bool.false_eq_true, if_pos, if_neg, c3, c4]⟩
      · exact Or.inl ⟨Or.inr ⟨h0, Or.inr (by rw [sub_lt (by omega) (by omega) (by omega)]; omega)⟩, by simp (disch := omega) only [sub_lt, le_sub, bl_lit, lgl, lgg, lgl0, lgg0, lglm, lggm, az_us, az_un, az_ue, az_urn, az_ure, bz_lit, nI_leI, nI_ltI, nI_eq, nI_clamp, nI_add, pk_sub, pk_mul, bz_nlt, bz_nle, bz_ltn, bz_len, bz_neq, bz_eqn, bz_nn, ↓reduceIte, Bool.false_eq_true, if_pos, if_neg, c3, c4]⟩
    · exact Or.inl ⟨Or.inr ⟨h0, Or.inl (nI_le (by omega) (by omega))⟩, by simp (disch := omega) only [sub_lt, le_sub, bl_lit, lgl, lgg, lgl0, lgg0, lglm, lggm, az_us, az_un, az_ue, az_urn, az_ure, bz_lit, nI_leI, nI_ltI, nI_eq, nI_clamp, nI_add, pk_sub, pk_mul, bz_nlt, bz_nle, bz_ltn, bz_len, bz_neq, bz_eqn, bz_nn, ↓reduceIte, Bool.false_eq_true, if_pos, if_neg, c3, c4]⟩
theorem xaw_bad {α : Type} {bad cont : α} {a : Int32} {np nw : Nat} (c1 : I 4 3 = nI np) (c2 : I 4 9 = nI nw) (q : a < nI 0 ∨ ¬ a < nI 0 ∧ (nI np ≤ a / 10 ∨ nI nw - nI 1 < a - a / 10 * 10)) :
    (if a < 0 then bad else if I 4 3 ≤ a / 10 then bad else if (a - a / 10 * 10) < 0 then bad else if (I 4 9 - 1) < (a - a / 10 * 10) then bad else cont) = bad := by
  rw [c1, c2]
  by_cases h0 : a < 0
  · rw [if_pos h0]
  · rw [if_neg h0]
    by_cases h1 : nI np ≤ a / 10
    · rw [if_pos h1]
    · rw [if_neg h1]
      by_cases h2 : a - a / 10 * 10 < 0
      · rw [if_pos h2]
      · rw [if_neg h2]
        rcases q with q | ⟨_, q | q⟩
        · exact absurd q h0
        · exact absurd q h1
        · rw [if_pos (show nI nw - 1 < a - a / 10 * 10 from q)]
theorem xaw_ok {α : Type} {bad cont : α} {a : Int32} {np nw k w : Nat} (h1 : np ≤ 8) (h2 : nw ≤ 6) (c1 : I 4 3 = nI np) (c2 : I 4 9 = nI nw) (h0 : ¬ a < nI 0) (e1 : a / 10 = nI k) (e2 : a - a / 10 * 10 = nI w) (hk : k < np) (hw : w < nw) :
    (if a < 0 then bad else if I 4 3 ≤ a / 10 then bad else if (a - a / 10 * 10) < 0 then bad else if (I 4 9 - 1) < (a - a / 10 * 10) then bad else cont) = cont := by
  rw [e2, e1, c1, c2, if_neg (show ¬ a < 0 from h0), if_neg (nI_ge hk (by omega)), if_neg (nI_pos (by omega)), if_neg (show ¬ nI nw - 1 < nI w from fun q => by have q : nI nw - nI 1 < nI w := q; rw [sub_lt (by omega) (by omega) (by omega)] at q; omega)]
theorem mt_arm (h : Rel I J rl rd) (a : Int32) : mt (rs_X_arm rd rl I a) (fun I => rs_M_arm I a) J rl rd := by
  obtain ⟨np, nw, L, hh, pc, pt, n1, n2, ⟨c1, c2, c3, c4⟩, hrl, hB, qX, qM, hw, hwe⟩ := h.w
  unfold rs_X_arm rs_M_arm
  rcases ix_aw (I := I) a n1 n2 c1 c3 c2 c4 with ⟨q1, q2⟩ | ⟨k, w, hk, hww, e1, e2, h0, q2⟩
  · refine ⟨-nI 1, I, I, ?_, ?_, h⟩
    · rcases q1 with q | ⟨h0, q | q⟩
      · simp (disch := omega) only [bl_lit, lgl, lgg, lgl0, lgg0, lglm, lggm, az_us, az_un, az_ue, az_urn, az_ure, bz_lit, nI_leI, nI_ltI, nI_eq, nI_clamp, nI_add, pk_sub, pk_mul, bz_nlt, bz_nle, bz_ltn, bz_len, bz_neq, bz_eqn, bz_nn, ↓reduceIte, Bool.false_eq_true, if_pos, if_neg, q]
      · simp (disch := omega) only [bl_lit, lgl, lgg, lgl0, lgg0, lglm, lggm, az_us, az_un, az_ue, az_urn, az_ure, bz_lit, nI_leI, nI_ltI, nI_eq, nI_clamp, nI_add, pk_sub, pk_mul, bz_nlt, bz_nle, bz_ltn, bz_len, bz_neq, bz_eqn, bz_nn, ↓reduceIte, Bool.false_eq_true, if_pos, if_neg, h0, c1]
        simp only [show nI 10 = (10 : Int32) from rfl, q, if_true]
      · by_cases z : nI np ≤ a / 10
        · simp (disch := omega) only [bl_lit, lgl, lgg, lgl0, lgg0, lglm, lggm, az_us, az_un, az_ue, az_urn, az_ure, bz_lit, nI_leI, nI_ltI, nI_eq, nI_clamp, nI_add, pk_sub, pk_mul, bz_nlt, bz_nle, bz_ltn, bz_len, bz_neq, bz_eqn, bz_nn, ↓reduceIte, Bool.false_eq_true, if_pos, if_neg, h0, c1]
          simp only [show nI 10 = (10 : Int32) from rfl, z, if_true]
        · by_cases z2 : a - a / 10 * 10 < nI 0
          · simp (disch := omega) only [bl_lit, lgl, lgg, lgl0, lgg0, lglm, lggm, az_us, az_un, az_ue, az_urn, az_ure, bz_lit, nI_leI, nI_ltI, nI_eq, nI_clamp, nI_add, pk_sub, pk_mul, bz_nlt, bz_nle, bz_ltn, bz_len, bz_neq, bz_eqn, bz_nn, ↓reduceIte, Bool.false_eq_true, if_pos, if_neg, h0, c1]
            simp only [show nI 10 = (10 : Int32) from rfl, z, z2, if_true, if_false]
          · simp (disch := omega) only [bl_lit, lgl, lgg, lgl0, lgg0, lglm, lggm, az_us, az_un, az_ue, az_urn, az_ure, bz_lit, nI_leI, nI_ltI, nI_eq, nI_clamp, nI_add, pk_sub, pk_mul, bz_nlt, bz_nle, bz_ltn, bz_len, bz_neq, bz_eqn, bz_nn, ↓reduceIte, Bool.false_eq_true, if_pos, if_neg, h0, c1, c3]
            simp only [show nI 10 = (10 : Int32) from rfl, z, z2, q, if_true, if_false]
    · (try dsimp only)
      rw [q2]; rfl
  · rw [e2, e1]
    obtain ⟨I1, r1, f1, p1⟩ := px_set hrl hB qX (w := w) (by omega)
    obtain ⟨I2, r2, f2, p2⟩ := px_arm hrl hB qX f1 p1 (k := k) (by omega)
    have qM' := qM.fr (scX_sc f2)
    obtain ⟨I3, r3, f3, p3⟩ := pm_for qM' hB az_fr.refl (w := w) (by omega)
    obtain ⟨g1, g2, g3⟩ := hw w (by omega)
    rw [f2 74 (160 + w) (by unfold scX; omega), f2 74 (166 + w) (by unfold scX; omega), f2 74 (172 + w) (by unfold scX; omega), f2 74 178 (by unfold scX; omega), g1, g2, g3, hwe] at p3
    obtain ⟨I4, r4, f4, p4⟩ := pm_arm (qX.ok hB _ _ _ _) qM' f3 p3 (k := k) (by omega)
    refine mt_mk h (nI (am hh (tt L (I 8 w) (I 9 w) (I 10 w) (I 4 10)) (pc k) (pt k))) ?_ f2 ?_ f4
    · simp (disch := omega) only [sub_lt, le_sub, bl_lit, lgl, lgg, lgl0, lgg0, lglm, lggm, az_us, az_un, az_ue, az_urn, az_ure, bz_lit, nI_leI, nI_ltI, nI_eq, nI_clamp, nI_add, pk_sub, pk_mul, bz_nlt, bz_nle, bz_ltn, bz_len, bz_neq, bz_eqn, bz_nn, ↓reduceIte, Bool.false_eq_true, if_pos, if_neg, h0, c1, c3, r1, r2]
    · (try dsimp only)
      have q3 : rs_M_isAw I2 a = some 1 := by
        rw [← q2]
        unfold rs_M_isAw
        rw [f2 73 6 (by unfold scX; omega), f2 73 7 (by unfold scX; omega)]
      rw [q3]
      simp (disch := omega) only [sub_lt, le_sub, bl_lit, lgl, lgg, lgl0, lgg0, lglm, lggm, az_us, az_un, az_ue, az_urn, az_ure, bz_lit, nI_leI, nI_ltI, nI_eq, nI_clamp, nI_add, pk_sub, pk_mul, bz_nlt, bz_nle, bz_ltn, bz_len, bz_neq, bz_eqn, bz_nn, ↓reduceIte, Bool.false_eq_true, if_pos, if_neg, r3, r4]
end

/-! THE LANGUAGE OF THE DECOMPILED METHODS -/
theorem az_lp_E {S X : Type} {body : S → Option (S ⊕ X)} {G : S → Prop} {H : X → Prop} (hb : ∀ s o, body s = some o → Sum.elim G H o → G s) : ∀ (n : Nat) (s : S) (x : X), az_lp body n s = some x → H x → G s := by
  intro n
  induction n with
  | zero => intro s x h _; cases h
  | succ n ih =>
    intro s x h hx
    unfold az_lp at h
    split at h
    · cases h
    · rename_i s' hs
      exact hb s _ hs (ih s' x h hx)
    · rename_i y hs
      cases h
      exact hb s _ hs hx
theorem az_nei {x y : Int32} (h : ¬ x = y) {z : Int} (hz : y.toInt = z) : x.toInt ≠ z := fun e => h (Int32.toInt_inj.mp (e.trans hz.symm))
section SW
variable {sh : az_H} {ex : az_X} {d k pc pc' : Nat} {L L' S S' : List Value} {σ σ' : az_S} {Q : Option Value → az_S → Prop}
theorem az_E.sw {x q : Int32} (hx : x = q) (h : az_step sh ex d k pc L (.int q :: S) σ = some (.inl (pc', L', S', σ'))) (g : az_E sh ex d k pc' L' S' σ' Q) : az_E sh ex d k pc L (.int x :: S) σ Q := by
  subst hx
  exact az_E.s1 h g
theorem az_E.swd {x : Int32} {a : Nat} {lo hi : Int} {offs : Array Int} (h : az_step sh ex d k pc L (.int x :: S) σ = az_tsw a lo hi offs pc L (.int x :: S) σ) (hd : x.toInt < lo ∨ hi < x.toInt) (g : az_E sh ex d k a L S σ Q) : az_E sh ex d k pc L (.int x :: S) σ Q := by
  refine az_E.s1 (h.trans ?_) g
  unfold az_tsw
  dsimp only
  rw [if_pos hd]
  rfl
theorem az_E.lwd {x : Int32} {df : Int} {ps : Array (Int × Int)} {a : Nat} (h : az_step sh ex d k pc L (.int x :: S) σ = az_lsw df ps pc L (.int x :: S) σ) (ho : Op.lookupswitch.offset ps.toList df x.toInt = df) (ha : (pc : Int) + df = (a : Int)) (g : az_E sh ex d k a L S σ Q) : az_E sh ex d k pc L (.int x :: S) σ Q := by
  refine az_E.s1 (h.trans ?_) g
  unfold az_lsw
  dsimp only
  rw [ho]
  unfold az_jp
  rw [if_pos (by omega), ha]
  rfl
end SW
theorem az_six {i : Int32} (h : ¬ (i < 0 ∨ 6 ≤ i.toNatClampNeg)) : i = 0 ∨ i = 1 ∨ i = 2 ∨ i = 3 ∨ i = 4 ∨ i = 5 := by
  obtain ⟨j, hj, rfl⟩ := vp_in_of (show vp_in i 6 from h) (by decide)
  match j, hj with
  | 0, _ => exact Or.inl rfl
  | 1, _ => exact Or.inr (Or.inl rfl)
  | 2, _ => exact Or.inr (Or.inr (Or.inl rfl))
  | 3, _ => exact Or.inr (Or.inr (Or.inr (Or.inl rfl)))
  | 4, _ => exact Or.inr (Or.inr (Or.inr (Or.inr (Or.inl rfl))))
  | 5, _ => exact Or.inr (Or.inr (Or.inr (Or.inr (Or.inr rfl))))
/-- the cells, with the references that stay -/
def az_F : az_H := [(0, 10, [4, 14, 2, 2, 26, 29, 32, 39, 44, 49, 55, 58, 59, 60]),
  (0, 5, [5, 6, 7, 0, 8, 9, 10, 11, 12, 0, 0, 13]),
  (1, 144, []),
  (1, 8, []),
  (1, 8, []),
  (1, 6, []),
  (1, 6, []),
  (1, 6, []),
  (1, 6, []),
  (1, 6, []),
  (1, 4, []),
  (0, 8, [15, 0, 0, 0, 2]),
  (1, 120, []),
  (0, 4, [17, 18, 19, 20, 0, 1]),
  (1, 121, []),
  (1, 121, []),
  (1, 6, []),
  (1, 64, []),
  (0, 4, [22, 23, 24, 25, 0, 1]),
  (1, 121, []),
  (1, 121, []),
  (1, 6, []),
  (1, 64, []),
  (0, 6, [27, 28, 2, 2, 0, 0, 0, 0]),
  (1, 100, []),
  (1, 100, []),
  (0, 6, [30, 31, 2, 2, 0, 0, 0, 0]),
  (1, 100, []),
  (1, 100, []),
  (0, 2, [33, 34, 35, 0, 36, 37, 38, 0, 0]),
  (1, 144, []),
  (1, 144, []),
  (1, 144, []),
  (1, 100, []),
  (1, 577, []),
  (1, 577, []),
  (0, 9, [40, 0, 41, 42, 43, 0]),
  (1, 6, []),
  (1, 36, []),
  (1, 6, []),
  (1, 6, []),
  (0, 1, [45, 46, 47, 48, 0, 0]),
  (1, 40, []),
  (1, 40, []),
  (1, 40, []),
  (1, 40, []),
  (0, 3, [1, 0, 50, 51, 52, 53, 54]),
  (1, 6, []),
  (1, 6, []),
  (1, 6, []),
  (1, 6, []),
  (1, 4, []),
  (0, 0, [56, 0, 57, 0, 0]),
  (1, 50, []),
  (1, 24, []),
  (5, 6, [61, 63, 65, 67, 69, 71]),
  (1, 8, []),
  (1, 152, []),
  (0, 7, [0, 0, 0, 62]),
  (2, 60, []),
  (0, 7, [0, 0, 0, 64]),
  (2, 60, []),
  (0, 7, [0, 0, 0, 66]),
  (2, 60, []),
  (0, 7, [0, 0, 0, 68]),
  (2, 60, []),
  (0, 7, [0, 0, 0, 70]),
  (2, 60, []),
  (0, 7, [0, 0, 0, 72]),
  (2, 60, []),
  (0, 11, [74, 75, 76, 77, 0, 0, 0, 0, 78, 79, 80, 0, 81, 0, 0, 0, 0, 0, 0, 82, 83, 84, 85, 86, 87, 88, 89, 90, 91, 1, 0, 92, 93, 0, 94, 95, 0, 0, 0, 96, 97, 98, 99]),
  (1, 179, []),
  (1, 40, []),
  (1, 40, []),
  (1, 40, []),
  (1, 6, []),
  (1, 6, []),
  (1, 120, []),
  (1, 120, []),
  (1, 6, []),
  (1, 100, []),
  (1, 144, []),
  (3, 144, []),
  (1, 100, []),
  (1, 144, []),
  (1, 5, []),
  (1, 81, []),
  (1, 19, []),
  (1, 4, []),
  (1, 24, []),
  (1, 4, []),
  (1, 50, []),
  (1, 24, []),
  (1, 6, []),
  (1, 6, []),
  (2, 360, []),
  (2, 60, [])]

/-! THE START -/
/-- what the cells hold at first -/
def az_I0 : Nat → Nat → Int32 := fun r k => if r = 96 then -1 else if r = 73 ∧ k = 13 then -1 else if (r = 61 ∨ r = 63 ∨ r = 65 ∨ r = 67 ∨ r = 69 ∨ r = 71) ∧ k < 2 then -1 else 0
def az_J0 : Nat → Nat → Int64 := fun _ _ => 0
def az_R0 : Nat → Nat → Option Nat := fun r k => if r = 3 ∧ k = 2 then some 16 else if r = 3 ∧ k = 3 then some 21 else none
def lw0 : lw_T := fun u k l s w _ => cl_n (((((10 + (3 * (if u < 0 then 0 else u))) + l) + w) - k) - s)
theorem lw0_B : lw_B lw0 := fun _ _ _ _ _ _ => (cl_I _).2
theorem lw0_X {I : Nat → Nat → Int32} {t : Nat} (h : I t 5 = 0) : lw_X I t lw0 := by
  intro I' hI u k l s w h6
  refine ⟨I', ?_, az_fr.refl⟩
  unfold rs_La_minutes rs_La_minutes_83
  rw [hI t 5 (Or.inl rfl), h, if_pos rfl]
  show some (clI (((((10 + (3 * (if u < 0 then 0 else u))) + l) + w) - k) - s), I') = some (nI (cl_n (((((10 + (3 * (if u < 0 then 0 else u))) + l) + w) - k) - s)), I')
  rw [(cl_I _).1]
theorem lw0_M {I : Nat → Nat → Int32} (h : I 73 13 = -1) : lw_M I lw0 := by
  intro I' q1 q2 a b he lo sh we
  refine ⟨I', ?_, az_fr.refl⟩
  have go : ∀ s0 s1, rs_M_stepBy_20 I' b he lo sh we (b - a) s0 s1 = some (nI (cl_n (((((s1 + s0) + lo) + we) - he) - sh)), I') := by
    intro s0 s1
    unfold rs_M_stepBy_20
    rw [q1, h, if_pos (show (-1 : Int32) < 0 by decide), cl_98, (cl_I _).1]
  unfold rs_M_stepBy
  by_cases z : b - a ≤ 0
  · rw [if_pos z, go]
    show _ = some (nI (cl_n (((((10 + (3 * (if b - a < 0 then 0 else b - a))) + lo) + we) - he) - sh)), I')
    by_cases y : b - a < 0
    · rw [if_pos y, show (3 : Int32) * 0 = 0 by decide]
    · have e : b - a = 0 := by
        apply Int32.toInt_inj.mp
        rw [Int32.le_iff_toInt_le] at z
        rw [Int32.lt_iff_toInt_lt] at y
        omega
      rw [if_neg y, e, show (3 : Int32) * 0 = 0 by decide]
  · rw [if_neg z, go]
    show _ = some (nI (cl_n (((((10 + (3 * (if b - a < 0 then 0 else b - a))) + lo) + we) - he) - sh)), I')
    have y : ¬ b - a < 0 := by
      intro y
      rw [Int32.le_iff_toInt_le] at z
      rw [Int32.lt_iff_toInt_lt] at y
      omega
    rw [if_neg y]
theorem az_I0_0 {r k : Nat} (h : ¬ (r = 96 ∨ (r = 73 ∧ k = 13) ∨ (61 ≤ r ∧ r ≤ 72))) : az_I0 r k = nI 0 := by
  unfold az_I0
  rw [if_neg (by omega), if_neg (by omega), if_neg (by omega)]
  rfl
theorem az_Rel0 : Rel az_I0 az_J0 16 21 := by
  have z0 : (nI 0).toInt = 0 := by decide
  refine ⟨⟨0, 0, by omega, by omega, az_I0_0 (by omega), az_I0_0 (by omega), az_I0_0 (by omega), az_I0_0 (by omega)⟩, ⟨fun _ => 0, fun c _ => ⟨az_I0_0 (by omega), az_I0_0 (by omega), (by decide : 0 < 10)⟩⟩, ⟨fun _ => 0, fun _ => 0, fun k _ => ⟨az_I0_0 (by omega), az_I0_0 (by omega), (by decide : 0 < 144), az_I0_0 (by omega), az_I0_0 (by omega), (by decide : 0 < 144)⟩⟩, ?_, ?_, ?_, ?_, ?_, ?_, ?_, ?_, ?_⟩
  · refine ⟨fun w _ => ?_, ?_⟩
    · rw [az_I0_0 (r := 74) (by omega), az_I0_0 (r := 74) (by omega), az_I0_0 (r := 74) (by omega), az_I0_0 (r := 8) (by omega), az_I0_0 (r := 9) (by omega), az_I0_0 (r := 10) (by omega), z0]
      exact ⟨rfl, by omega, rfl, rfl⟩
    · rw [az_I0_0 (r := 74) (by omega), az_I0_0 (r := 4) (by omega)]
  · intro w _
    rw [az_I0_0 (r := 79) (by omega), az_I0_0 (r := 12) (by omega)]
    exact ⟨⟨0, by omega, az_I0_0 (by omega), az_I0_0 (by omega)⟩, rfl, fun _ => ⟨az_I0_0 (by omega), rfl⟩⟩
  · intro k _
    rw [az_I0_0 (r := 91) (by omega), az_I0_0 (r := 13) (by omega)]
  · exact ⟨0, by omega, az_I0_0 (by omega), az_I0_0 (by omega), fun k hk => absurd hk (by omega)⟩
  · exact ⟨Or.inl ⟨rfl, rfl⟩, lw0, lw0_B, lw0_X (az_I0_0 (by omega)), lw0_M rfl⟩
  · exact ⟨0, 0, by omega, by omega, az_I0_0 (by omega), az_I0_0 (by omega), az_I0_0 (by omega), az_I0_0 (by omega), fun k hk => absurd hk (by omega)⟩
  · exact Or.inl ⟨az_I0_0 (by omega), az_I0_0 (by omega)⟩
  · exact ⟨0, 0, by omega, by omega, az_I0_0 (by omega), az_I0_0 (by omega), az_I0_0 (by omega), az_I0_0 (by omega), fun k hk => absurd hk (by omega), fun k _ => by rw [az_I0_0 (r := 95) (by omega), az_I0_0 (r := 57) (by omega)]⟩
  · intro s hs
    left
    have : s = 0 ∨ s = 1 ∨ s = 2 ∨ s = 3 ∨ s = 4 ∨ s = 5 := by omega
    rcases this with rfl | rfl | rfl | rfl | rfl | rfl <;> exact ⟨rfl, rfl, rfl⟩

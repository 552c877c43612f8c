/-! THE RELATION between the class's cells and the reference's -/
def S_cnt : Nat → Nat → Prop := fun r k => (r = 4 ∧ (k = 3 ∨ k = 9)) ∨ (r = 73 ∧ (k = 6 ∨ k = 7))
def rl_cnt (I : Nat → Nat → Int32) : Prop := ∃ np nw : Nat, np ≤ 8 ∧ nw ≤ 6 ∧ I 4 3 = nI np ∧ I 73 6 = nI np ∧ I 4 9 = nI nw ∧ I 73 7 = nI nw
def S_hts : Nat → Nat → Prop := fun r k => r = 5 ∨ (r = 74 ∧ k < 144)
def rl_hts (I : Nat → Nat → Int32) : Prop := ∃ h : Nat → Nat, ∀ c, c < 144 → I 5 c = nI (h c) ∧ I 74 c = nI (h c) ∧ h c < 10
def S_pst : Nat → Nat → Prop := fun r k => r = 6 ∨ r = 7 ∨ (r = 74 ∧ 144 ≤ k ∧ k < 160)
def rl_pst (I : Nat → Nat → Int32) : Prop := ∃ pc pt : Nat → Nat, ∀ k, k < 8 → I 6 k = nI (pc k) ∧ I 74 (144 + k) = nI (pc k) ∧ pc k < 144 ∧ I 7 k = nI (pt k) ∧ I 74 (152 + k) = nI (pt k) ∧ pt k < 144
def S_wlk : Nat → Nat → Prop := fun r k => r = 8 ∨ r = 9 ∨ r = 10 ∨ (r = 74 ∧ 160 ≤ k) ∨ (r = 4 ∧ k = 10)
def rl_wlk (I : Nat → Nat → Int32) : Prop := (∀ w, w < 6 → I 74 (160 + w) = I 8 w ∧ (-9 ≤ (I 8 w).toInt ∧ (I 8 w).toInt ≤ 9) ∧ I 74 (166 + w) = I 9 w ∧ I 74 (172 + w) = I 10 w) ∧ I 74 178 = I 4 10
def S_std : Nat → Nat → Prop := fun r k => r = 11 ∨ r = 12 ∨ r = 78 ∨ r = 79 ∨ (r = 4 ∧ k = 9)
def rl_std (I : Nat → Nat → Int32) : Prop := ∀ w, w < 6 → (∃ c : Nat, c < 144 ∧ I 11 w = nI c ∧ I 78 w = nI c) ∧ I 79 w = I 12 w ∧ ((I 4 9).toInt ≤ (w : Int) → I 11 w = nI 0 ∧ I 12 w = nI 0)
def S_led : Nat → Nat → Prop := fun r _ => r = 13 ∨ r = 91
def rl_led (I : Nat → Nat → Int32) : Prop := ∀ k, k < 4 → I 91 k = I 13 k
def S_tap : Nat → Nat → Prop := fun r k => r = 15 ∨ r = 80 ∨ (r = 14 ∧ k = 1) ∨ (r = 73 ∧ k = 11)
def rl_tap (I : Nat → Nat → Int32) : Prop := ∃ n : Nat, n ≤ 120 ∧ I 14 1 = nI n ∧ I 73 11 = nI n ∧ ∀ k, k < n → I 80 k = I 15 k
def S_law : Nat → Nat → Prop := fun r k => (16 ≤ r ∧ r ≤ 18) ∨ (21 ≤ r ∧ r ≤ 23) ∨ r = 81 ∨ (r = 73 ∧ k = 13)
def rl_law (I : Nat → Nat → Int32) (rl rd : Nat) : Prop := ((rl = 16 ∧ rd = 21) ∨ (rl = 21 ∧ rd = 16)) ∧ ∃ L : lw_T, lw_B L ∧ lw_X I rl L ∧ lw_M I L
/-- a number of mend(): which, its place, what it may be -/
def ch_pl (i w : Nat) (a : Nat) : Prop := (w = 0 ∧ i < 144 ∧ a = i) ∨ (w = 1 ∧ i < 8 ∧ a = 144 + i) ∨ (w = 2 ∧ i < 8 ∧ a = 152 + i) ∨ (w = 3 ∧ i < 6 ∧ a = 160 + i) ∨ (w = 4 ∧ i < 6 ∧ a = 166 + i) ∨ (w = 5 ∧ i < 6 ∧ a = 172 + i) ∨ (w = 6 ∧ i = 0 ∧ a = 178)
def ch_v (w : Nat) (v : Int32) : Prop := (w = 0 → ∃ x : Nat, x < 10 ∧ v = nI x) ∧ (w = 1 ∨ w = 2 → ∃ x : Nat, x < 144 ∧ v = nI x) ∧ (w = 3 → -9 ≤ v.toInt ∧ v.toInt ≤ 9)
def S_chg : Nat → Nat → Prop := fun r k => (r = 44 ∧ (k = 4 ∨ k = 5)) ∨ (45 ≤ r ∧ r ≤ 48) ∨ (75 ≤ r ∧ r ≤ 77) ∨ (r = 73 ∧ (k = 4 ∨ k = 5))
def ch_k (I : Nat → Nat → Int32) (k : Nat) : Prop := ∃ i w a : Nat, I 45 k = nI i ∧ I 46 k = nI w ∧ I 75 k = nI a ∧ ch_pl i w a ∧ I 76 k = I 47 k ∧ I 77 k = I 48 k ∧ ch_v w (I 47 k) ∧ ch_v w (I 48 k)
def rl_chg (I : Nat → Nat → Int32) : Prop := ∃ d a : Nat, d ≤ a ∧ a ≤ 40 ∧ I 44 4 = nI d ∧ I 73 5 = nI d ∧ I 44 5 = nI a ∧ I 73 4 = nI a ∧ ∀ k, k < a → ch_k I k
def S_img : Nat → Nat → Prop := fun r k => (49 ≤ r ∧ r ≤ 54) ∨ r = 92 ∨ r = 93 ∨ (r = 73 ∧ (k = 29 ∨ k = 30)) ∨ (r = 4 ∧ k = 9)
def rl_img (I : Nat → Nat → Int32) : Prop := (I 49 0 = nI 0 ∧ I 73 29 = nI 0) ∨ (I 49 0 = nI 1 ∧ I 73 29 = nI 1 ∧ ∃ n : Nat, n ≤ 6 ∧ I 49 1 = nI n ∧ I 73 30 = nI n ∧ (n : Int) ≤ (I 4 9).toInt ∧
  (∀ w, w < n → (∃ c : Nat, c < 144 ∧ I 50 w = nI c ∧ I 92 (4 * w) = nI c) ∧ I 92 (4 * w + 1) = I 51 w ∧ (-9 ≤ (I 51 w).toInt ∧ (I 51 w).toInt ≤ 9) ∧ I 92 (4 * w + 2) = I 52 w ∧ I 92 (4 * w + 3) = I 53 w) ∧ ∀ k, k < 4 → I 93 k = I 54 k)
def S_bod : Nat → Nat → Prop := fun r k => (r = 55 ∧ (k = 1 ∨ k = 3)) ∨ r = 56 ∨ r = 57 ∨ r = 94 ∨ r = 95 ∨ (r = 73 ∧ (k = 33 ∨ k = 36))
def rl_bod (I : Nat → Nat → Int32) : Prop := ∃ n r : Nat, n ≤ 50 ∧ r ≤ 1000 ∧ I 55 1 = nI n ∧ I 73 33 = nI n ∧ I 55 3 = nI r ∧ I 73 36 = nI r ∧ (∀ k, k < n → ∃ d : Nat, d < 8 ∧ I 56 k = nI d ∧ I 94 k = nI d) ∧ (∀ k, k < 24 → I 95 k = I 57 k)
def S_shf : Nat → Nat → Prop := fun r k => (61 ≤ r ∧ r ≤ 72) ∨ r = 96 ∨ r = 97 ∨ (r = 55 ∧ k = 1)
def sh_row (I : Nat → Nat → Int32) (J : Nat → Nat → Int64) (s t m : Nat) : Prop := t < 5 ∧ m ≤ 60 ∧ I (61 + 2 * s) 0 = -nI 1 ∧ I (61 + 2 * s) 1 = nI t ∧ I (61 + 2 * s) 2 = nI m ∧ I 96 s = nI (50 + t) ∧ I 97 s = nI m ∧
  ∀ j, j < 60 → J 98 (60 * s + j) = J (62 + 2 * s) j ∧ (t = 0 → -128 ≤ (J (62 + 2 * s) j).toInt ∧ (J (62 + 2 * s) j).toInt ≤ 127) ∧ (t = 1 → -32768 ≤ (J (62 + 2 * s) j).toInt ∧ (J (62 + 2 * s) j).toInt ≤ 32767)
def sh_non (I : Nat → Nat → Int32) (s : Nat) : Prop := I (61 + 2 * s) 0 = -nI 1 ∧ I (61 + 2 * s) 1 = -nI 1 ∧ I 96 s = -nI 1
def sh_hrt (I : Nat → Nat → Int32) (s b : Nat) : Prop := I (61 + 2 * s) 0 = nI b ∧ I (61 + 2 * s) 1 = -nI 1 ∧ I 96 s = nI b ∧ (b : Int) < (I 55 1).toInt ∧ b < 50
def rl_shf (I : Nat → Nat → Int32) (J : Nat → Nat → Int64) : Prop := ∀ s, s < 6 → sh_non I s ∨ (∃ b, sh_hrt I s b) ∨ ∃ t m, sh_row I J s t m
theorem rl_cnt.fr {I I' : Nat → Nat → Int32} (f : ∀ r k, S_cnt r k → I' r k = I r k) (h : rl_cnt I) : rl_cnt I' := by
  unfold rl_cnt
  rw [f 4 3 (by unfold S_cnt; omega), f 73 6 (by unfold S_cnt; omega), f 4 9 (by unfold S_cnt; omega), f 73 7 (by unfold S_cnt; omega)]
  exact h
theorem rl_hts.fr {I I' : Nat → Nat → Int32} (f : ∀ r k, S_hts r k → I' r k = I r k) (h : rl_hts I) : rl_hts I' := by
  obtain ⟨q, h⟩ := h
  refine ⟨q, fun c hc => ?_⟩
  rw [f 5 c (by unfold S_hts; omega), f 74 c (by unfold S_hts; omega)]
  exact h c hc
theorem rl_pst.fr {I I' : Nat → Nat → Int32} (f : ∀ r k, S_pst r k → I' r k = I r k) (h : rl_pst I) : rl_pst I' := by
  obtain ⟨a, b, h⟩ := h
  refine ⟨a, b, fun c hc => ?_⟩
  rw [f 6 c (by unfold S_pst; omega), f 7 c (by unfold S_pst; omega), f 74 (144 + c) (by unfold S_pst; omega), f 74 (152 + c) (by unfold S_pst; omega)]
  exact h c hc
theorem rl_wlk.fr {I I' : Nat → Nat → Int32} (f : ∀ r k, S_wlk r k → I' r k = I r k) (h : rl_wlk I) : rl_wlk I' := by
  obtain ⟨h, g⟩ := h
  refine ⟨fun c hc => ?_, ?_⟩
  · rw [f 8 c (by unfold S_wlk; omega), f 9 c (by unfold S_wlk; omega), f 10 c (by unfold S_wlk; omega), f 74 (160 + c) (by unfold S_wlk; omega), f 74 (166 + c) (by unfold S_wlk; omega), f 74 (172 + c) (by unfold S_wlk; omega)]
    exact h c hc
  · rw [f 74 178 (by unfold S_wlk; omega), f 4 10 (by unfold S_wlk; omega)]
    exact g
theorem rl_std.fr {I I' : Nat → Nat → Int32} (f : ∀ r k, S_std r k → I' r k = I r k) (h : rl_std I) : rl_std I' := fun c hc => by
  rw [f 11 c (by unfold S_std; omega), f 12 c (by unfold S_std; omega), f 78 c (by unfold S_std; omega), f 79 c (by unfold S_std; omega), f 4 9 (by unfold S_std; omega)]
  exact h c hc
theorem rl_led.fr {I I' : Nat → Nat → Int32} (f : ∀ r k, S_led r k → I' r k = I r k) (h : rl_led I) : rl_led I' := fun c hc => by
  rw [f 13 c (by unfold S_led; omega), f 91 c (by unfold S_led; omega)]
  exact h c hc
theorem rl_tap.fr {I I' : Nat → Nat → Int32} (f : ∀ r k, S_tap r k → I' r k = I r k) (h : rl_tap I) : rl_tap I' := by
  obtain ⟨n, h1, h2, h3, h4⟩ := h
  refine ⟨n, h1, ?_, ?_, fun k hk => ?_⟩
  · rw [f 14 1 (by unfold S_tap; omega)]; exact h2
  · rw [f 73 11 (by unfold S_tap; omega)]; exact h3
  · rw [f 80 k (by unfold S_tap; omega), f 15 k (by unfold S_tap; omega)]; exact h4 k hk
theorem lw_X.fr {I I' : Nat → Nat → Int32} {rl : Nat} {L : lw_T} (f : ∀ r k, r = rl ∨ r = rl + 1 ∨ r = rl + 2 → I' r k = I r k) (h : lw_X I rl L) : lw_X I' rl L := fun I2 q => h I2 (fun r k z => (q r k z).trans (f r k z))
theorem lw_M.fr {I I' : Nat → Nat → Int32} {L : lw_T} (f : I' 73 13 = I 73 13) (g : ∀ k, I' 81 k = I 81 k) (h : lw_M I L) : lw_M I' L := fun I2 q1 q2 => h I2 (q1.trans f) (fun k => (q2 k).trans (g k))
theorem rl_law.fr {I I' : Nat → Nat → Int32} {rl rd : Nat} (f : ∀ r k, S_law r k → I' r k = I r k) (h : rl_law I rl rd) : rl_law I' rl rd := by
  obtain ⟨h1, L, h2, h3, h4⟩ := h
  exact ⟨h1, L, h2, h3.fr (fun r k q => f r k (by unfold S_law; omega)), h4.fr (f 73 13 (by unfold S_law; omega)) (fun k => f 81 k (by unfold S_law; omega))⟩
theorem ch_k.fr {I I' : Nat → Nat → Int32} {k : Nat} (f : ∀ r k, S_chg r k → I' r k = I r k) (h : ch_k I k) : ch_k I' k := by
  unfold ch_k
  rw [f 45 k (by unfold S_chg; omega), f 46 k (by unfold S_chg; omega), f 47 k (by unfold S_chg; omega), f 48 k (by unfold S_chg; omega), f 75 k (by unfold S_chg; omega), f 76 k (by unfold S_chg; omega), f 77 k (by unfold S_chg; omega)]
  exact h
theorem rl_chg.fr {I I' : Nat → Nat → Int32} (f : ∀ r k, S_chg r k → I' r k = I r k) (h : rl_chg I) : rl_chg I' := by
  obtain ⟨d, a, h1, h2, h3, h4, h5, h6, h7⟩ := h
  refine ⟨d, a, h1, h2, ?_, ?_, ?_, ?_, fun k hk => (h7 k hk).fr f⟩
  · rw [f 44 4 (by unfold S_chg; omega)]; exact h3
  · rw [f 73 5 (by unfold S_chg; omega)]; exact h4
  · rw [f 44 5 (by unfold S_chg; omega)]; exact h5
  · rw [f 73 4 (by unfold S_chg; omega)]; exact h6
theorem rl_img.fr {I I' : Nat → Nat → Int32} (f : ∀ r k, S_img r k → I' r k = I r k) (h : rl_img I) : rl_img I' := by
  unfold rl_img
  rw [f 49 0 (by unfold S_img; omega), f 73 29 (by unfold S_img; omega)]
  rcases h with h | ⟨h1, h2, n, h3, h4, h5, h6, h7, h8⟩
  · exact Or.inl h
  · refine Or.inr ⟨h1, h2, n, h3, ?_, ?_, ?_, fun w hw => ?_, fun k hk => ?_⟩
    · rw [f 49 1 (by unfold S_img; omega)]; exact h4
    · rw [f 73 30 (by unfold S_img; omega)]; exact h5
    · rw [f 4 9 (by unfold S_img; omega)]; exact h6
    · rw [f 50 w (by unfold S_img; omega), f 51 w (by unfold S_img; omega), f 52 w (by unfold S_img; omega), f 53 w (by unfold S_img; omega), f 92 (4 * w) (by unfold S_img; omega), f 92 (4 * w + 1) (by unfold S_img; omega), f 92 (4 * w + 2) (by unfold S_img; omega), f 92 (4 * w + 3) (by unfold S_img; omega)]
      exact h7 w hw
    · rw [f 93 k (by unfold S_img; omega), f 54 k (by unfold S_img; omega)]; exact h8 k hk
theorem rl_bod.fr {I I' : Nat → Nat → Int32} (f : ∀ r k, S_bod r k → I' r k = I r k) (h : rl_bod I) : rl_bod I' := by
  obtain ⟨n, r, h1, h2, h3, h4, h5, h6, h7, h8⟩ := h
  refine ⟨n, r, h1, h2, ?_, ?_, ?_, ?_, fun k hk => ?_, fun k hk => ?_⟩
  · rw [f 55 1 (by unfold S_bod; omega)]; exact h3
  · rw [f 73 33 (by unfold S_bod; omega)]; exact h4
  · rw [f 55 3 (by unfold S_bod; omega)]; exact h5
  · rw [f 73 36 (by unfold S_bod; omega)]; exact h6
  · rw [f 56 k (by unfold S_bod; omega), f 94 k (by unfold S_bod; omega)]; exact h7 k hk
  · rw [f 95 k (by unfold S_bod; omega), f 57 k (by unfold S_bod; omega)]; exact h8 k hk
theorem rl_shf.fr {I I' : Nat → Nat → Int32} {J : Nat → Nat → Int64} (f : ∀ r k, S_shf r k → I' r k = I r k) (h : rl_shf I J) : rl_shf I' J := fun s hs => by
  unfold sh_non sh_hrt sh_row
  rw [f (61 + 2 * s) 0 (by unfold S_shf; omega), f (61 + 2 * s) 1 (by unfold S_shf; omega), f (61 + 2 * s) 2 (by unfold S_shf; omega), f 96 s (by unfold S_shf; omega), f 97 s (by unfold S_shf; omega), f 55 1 (by unfold S_shf; omega)]
  exact h s hs
/-- ALL OF IT -/
def Rel (I : Nat → Nat → Int32) (J : Nat → Nat → Int64) (rl rd : Nat) : Prop :=
  rl_cnt I ∧ rl_hts I ∧ rl_pst I ∧ rl_wlk I ∧ rl_std I ∧ rl_led I ∧ rl_tap I ∧ rl_law I rl rd ∧ rl_chg I ∧ rl_img I ∧ rl_bod I ∧ rl_shf I J
/-- cells that hold nothing between calls -/
def sc : Nat → Nat → Prop := fun r k => r = 19 ∨ r = 20 ∨ r = 24 ∨ r = 25 ∨ (26 ≤ r ∧ r ≤ 43) ∨ r = 59 ∨ r = 60 ∨ (r = 73 ∧ 14 ≤ k ∧ k ≤ 18) ∨ (82 ≤ r ∧ r ≤ 90)
theorem Rel.fr {I I' : Nat → Nat → Int32} {J : Nat → Nat → Int64} {rl rd : Nat} (f : az_fr sc I I') (h : Rel I J rl rd) : Rel I' J rl rd := by
  obtain ⟨h1, h2, h3, h4, h5, h6, h7, h8, h9, h10, h11, h12⟩ := h
  refine ⟨h1.fr ?_, h2.fr ?_, h3.fr ?_, h4.fr ?_, h5.fr ?_, h6.fr ?_, h7.fr ?_, h8.fr ?_, h9.fr ?_, h10.fr ?_, h11.fr ?_, h12.fr ?_⟩
  · intro r k q; exact f r k (by unfold S_cnt at q; unfold sc; omega)
  · intro r k q; exact f r k (by unfold S_hts at q; unfold sc; omega)
  · intro r k q; exact f r k (by unfold S_pst at q; unfold sc; omega)
  · intro r k q; exact f r k (by unfold S_wlk at q; unfold sc; omega)
  · intro r k q; exact f r k (by unfold S_std at q; unfold sc; omega)
  · intro r k q; exact f r k (by unfold S_led at q; unfold sc; omega)
  · intro r k q; exact f r k (by unfold S_tap at q; unfold sc; omega)
  · intro r k q; exact f r k (by unfold S_law at q; unfold sc; omega)
  · intro r k q; exact f r k (by unfold S_chg at q; unfold sc; omega)
  · intro r k q; exact f r k (by unfold S_img at q; unfold sc; omega)
  · intro r k q; exact f r k (by unfold S_bod at q; unfold sc; omega)
  · intro r k q; exact f r k (by unfold S_shf at q; unfold sc; omega)
/-! arguments -/
theorem ix_ft {a : Int32} : (rs_X_isFromTo a = some 0 ∧ rs_M_isFt a = some 0) ∨ (rs_X_isFromTo a = some 1 ∧ rs_M_isFt a = some 1 ∧ ∃ c d : Nat, c < 144 ∧ d < 144 ∧ a = nI (1000 * c + d) ∧ a / 1000 = nI c ∧ a - a / 1000 * 1000 = nI d) := by
  unfold rs_X_isFromTo rs_M_isFt
  by_cases h0 : a < 0
  · refine Or.inl ⟨?_, ?_⟩
    · rw [if_pos h0]
    · rw [if_pos h0]
  · obtain ⟨n, hn, rfl⟩ := nI_of h0
    have e1 : nI n - nI n / 1000 * 1000 = nI (n % 1000) := pk_rem (a := n) (d := 1000) (by omega) (by omega) (by omega)
    have e2 : nI n / 1000 = nI (n / 1000) := pk_div (a := n) (d := 1000) (by omega) (by omega) (by omega)
    rw [e1, e2]
    simp only [bz_lcl, bz_lcg]
    rw [nI_l (n := n / 1000) (by omega), nI_l (n := n % 1000) (by omega), show (0 : Int64) = lN 0 from rfl, show (143 : Int64) = lN 143 from rfl]
    by_cases h1 : n / 1000 < 144
    · by_cases h2 : n % 1000 < 144
      · refine Or.inr ⟨?_, ?_, n / 1000, n % 1000, h1, h2, by rw [show 1000 * (n / 1000) + n % 1000 = n from by omega], rfl, rfl⟩
        · simp (disch := omega) only [bz_lit, nI_leI, nI_ltI, nI_eq, nI_clamp, nI_add, pk_sub, pk_mul, bz_nlt, bz_nle, bz_ltn, bz_len, bz_neq, bz_eqn, bz_nn, ↓reduceIte, Bool.false_eq_true, if_pos, if_neg]
        · simp (disch := omega) only [bz_lit, nI_leI, nI_ltI, nI_eq, nI_clamp, nI_add, pk_sub, pk_mul, bz_nlt, bz_nle, bz_ltn, bz_len, bz_neq, bz_eqn, bz_nn, ↓reduceIte, Bool.false_eq_true, if_pos, if_neg, pk_lLT]
      · refine Or.inl ⟨?_, ?_⟩
        · simp (disch := omega) only [bz_lit, nI_leI, nI_ltI, nI_eq, nI_clamp, nI_add, pk_sub, pk_mul, bz_nlt, bz_nle, bz_ltn, bz_len, bz_neq, bz_eqn, bz_nn, ↓reduceIte, Bool.false_eq_true, if_pos, if_neg]
        · simp (disch := omega) only [bz_lit, nI_leI, nI_ltI, nI_eq, nI_clamp, nI_add, pk_sub, pk_mul, bz_nlt, bz_nle, bz_ltn, bz_len, bz_neq, bz_eqn, bz_nn, ↓reduceIte, Bool.false_eq_true, if_pos, if_neg, pk_lLT]
    · refine Or.inl ⟨?_, ?_⟩
      · simp (disch := omega) only [bz_lit, nI_leI, nI_ltI, nI_eq, nI_clamp, nI_add, pk_sub, pk_mul, bz_nlt, bz_nle, bz_ltn, bz_len, bz_neq, bz_eqn, bz_nn, ↓reduceIte, Bool.false_eq_true, if_pos, if_neg]
      · simp (disch := omega) only [bz_lit, nI_leI, nI_ltI, nI_eq, nI_clamp, nI_add, pk_sub, pk_mul, bz_nlt, bz_nle, bz_ltn, bz_len, bz_neq, bz_eqn, bz_nn, ↓reduceIte, Bool.false_eq_true, if_pos, if_neg, pk_lLT]

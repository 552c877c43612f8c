set_option maxRecDepth 100000 in
set_option maxHeartbeats 4000000 in
theorem lo_whose {L i : Nat} {xs : Nat → Int32} {I : Nat → Nat → Int32} {J : Nat → Nat → Int64} {R : Nat → Nat → Option Nat} {rl rd : Nat} {Q : Option Value → az_S → Prop} (hi : i + 6 ≤ L) (hL : L ≤ 3072) (h : Rel I J rl rd) (h2 : R 3 2 = some rl) (h3 : R 3 3 = some rd) (k : lo_K L xs Q i) : az_E az_F (az_ex L xs) 1300 258 1088 [.ref 0, .ref 3, .ref 73, .int (nI i)] [] (97, I, J, R) Q := by
  obtain ⟨v, I1, I2, x, m, hr⟩ := mt_whose h (xs (i + 1))
  have hY : ∀ R' : Nat → Nat → Option Nat, R' 3 2 = some rl → R' 3 3 = some rd → az_E az_F (az_ex L xs) 1300 258 1097 [.ref 0, .ref 3, .ref 73, .int (nI i)] [.int v] (97, I1, J, R') Q := by
    intro R' g2 g3
    refine az_E.sn 5 (pc' := 1102) (L' := [.ref 0, .ref 3, .ref 73, .int (nI i)]) (S' := [.int (nI i + (1 : Int32)), .ref 0, .ref 73, .int v]) (σ' := (97, I1, J, R')) rfl ?_
    refine az_E.oi (pc' := 1103) (L' := [.ref 0, .ref 3, .ref 73, .int (nI i)]) (S' := [.ref 73, .int v]) (σ' := (97, I1, J, R')) rfl (lo_ai (c := 1) (by decide) hi hL) ?_
    refine az_E.call (d := 1299) (k' := 223) (vs := [.ref 73, .int (xs (i + 1))]) (pc' := 1106) (S' := [.int v]) rfl ?_ (fun _ _ hq => hq)
    show az_E az_F (az_ex L xs) 1299 223 0 [.ref 73, .int (xs (i + 1)), .retAddr 0, .retAddr 0] [] (97, I1, J, R') _
    refine az_E.deep (by decide) (re_M_whose m ?_)
    show az_E az_F (az_ex L xs) 1300 258 1106 [.ref 0, .ref 3, .ref 73, .int (nI i)] [.int v, .int v] (97, I2, J, R') Q
    refine az_E.br (c := v = v) (tt := 1778) (ff := 1109) (L' := [.ref 0, .ref 3, .ref 73, .int (nI i)]) (S' := []) (σ' := (97, I2, J, R')) rfl (fun _ => k _ _ _ _ _ hr g2 g3) (fun hc => absurd rfl hc)
  refine az_E.sn 5 (pc' := 1093) (L' := [.ref 0, .ref 3, .ref 73, .int (nI i)]) (S' := [.int (nI i + (1 : Int32)), .ref 0, .ref 3]) (σ' := (97, I, J, R)) rfl ?_
  refine az_E.oi (pc' := 1094) (L' := [.ref 0, .ref 3, .ref 73, .int (nI i)]) (S' := [.ref 3]) (σ' := (97, I, J, R)) rfl (lo_ai (c := 1) (by decide) hi hL) ?_
  refine az_E.call (d := 1299) (k' := 108) (vs := [.ref 3, .int (xs (i + 1))]) (pc' := 1097) (S' := []) rfl ?_ (fun _ _ hq => hq)
  show az_E az_F (az_ex L xs) 1299 108 0 [.ref 3, .int (xs (i + 1)), .retAddr 0, .retAddr 0, .retAddr 0] [] (97, I, J, R) _
  rcases lo_rl h with ⟨rfl, rfl⟩ | ⟨rfl, rfl⟩
  · exact az_E.deep (by decide) (re_X_whose_16_21 h2 h3 x (fun R' g2 g3 => hY R' g2 g3))
  · exact az_E.deep (by decide) (re_X_whose_21_16 h2 h3 x (fun R' g2 g3 => hY R' g2 g3))
set_option maxRecDepth 100000 in
set_option maxHeartbeats 4000000 in
theorem lo_stumps {L i : Nat} {xs : Nat → Int32} {I : Nat → Nat → Int32} {J : Nat → Nat → Int64} {R : Nat → Nat → Option Nat} {rl rd : Nat} {Q : Option Value → az_S → Prop} (hi : i + 6 ≤ L) (hL : L ≤ 3072) (h : Rel I J rl rd) (h2 : R 3 2 = some rl) (h3 : R 3 3 = some rd) (k : lo_K L xs Q i) : az_E az_F (az_ex L xs) 1300 258 1111 [.ref 0, .ref 3, .ref 73, .int (nI i)] [] (97, I, J, R) Q := by
  obtain ⟨v, x, m⟩ := mt_stumps h 
  have hY : ∀ R' : Nat → Nat → Option Nat, R' 3 2 = some rl → R' 3 3 = some rd → az_E az_F (az_ex L xs) 1300 258 1115 [.ref 0, .ref 3, .ref 73, .int (nI i)] [.int v] (97, I, J, R') Q := by
    intro R' g2 g3
    refine az_E.sn 1 (pc' := 1116) (L' := [.ref 0, .ref 3, .ref 73, .int (nI i)]) (S' := [.ref 73, .int v]) (σ' := (97, I, J, R')) rfl ?_
    refine az_E.call (d := 1299) (k' := 224) (vs := [.ref 73]) (pc' := 1119) (S' := [.int v]) rfl ?_ (fun _ _ hq => hq)
    show az_E az_F (az_ex L xs) 1299 224 0 [.ref 73, .retAddr 0, .retAddr 0] [] (97, I, J, R') _
    refine az_E.deep (by decide) (re_M_stumps m ?_)
    show az_E az_F (az_ex L xs) 1300 258 1119 [.ref 0, .ref 3, .ref 73, .int (nI i)] [.int v, .int v] (97, I, J, R') Q
    refine az_E.br (c := v = v) (tt := 1778) (ff := 1122) (L' := [.ref 0, .ref 3, .ref 73, .int (nI i)]) (S' := []) (σ' := (97, I, J, R')) rfl (fun _ => k _ _ _ _ _ h g2 g3) (fun hc => absurd rfl hc)
  refine az_E.sn 1 (pc' := 1112) (L' := [.ref 0, .ref 3, .ref 73, .int (nI i)]) (S' := [.ref 3]) (σ' := (97, I, J, R)) rfl ?_
  refine az_E.call (d := 1299) (k' := 109) (vs := [.ref 3]) (pc' := 1115) (S' := []) rfl ?_ (fun _ _ hq => hq)
  show az_E az_F (az_ex L xs) 1299 109 0 [.ref 3, .retAddr 0, .retAddr 0] [] (97, I, J, R) _
  exact az_E.deep (by decide) (re_X_stumps x (hY R h2 h3))
set_option maxRecDepth 100000 in
set_option maxHeartbeats 4000000 in
theorem lo_longest {L i : Nat} {xs : Nat → Int32} {I : Nat → Nat → Int32} {J : Nat → Nat → Int64} {R : Nat → Nat → Option Nat} {rl rd : Nat} {Q : Option Value → az_S → Prop} (hi : i + 6 ≤ L) (hL : L ≤ 3072) (h : Rel I J rl rd) (h2 : R 3 2 = some rl) (h3 : R 3 3 = some rd) (k : lo_K L xs Q i) : az_E az_F (az_ex L xs) 1300 258 1124 [.ref 0, .ref 3, .ref 73, .int (nI i)] [] (97, I, J, R) Q := by
  obtain ⟨v, I1, I2, x, m, hr⟩ := mt_longest h (xs (i + 1)) (xs (i + 2))
  have hY : ∀ R' : Nat → Nat → Option Nat, R' 3 2 = some rl → R' 3 3 = some rd → az_E az_F (az_ex L xs) 1300 258 1138 [.ref 0, .ref 3, .ref 73, .int (nI i)] [.int v] (97, I1, J, R') Q := by
    intro R' g2 g3
    refine az_E.sn 5 (pc' := 1143) (L' := [.ref 0, .ref 3, .ref 73, .int (nI i)]) (S' := [.int (nI i + (1 : Int32)), .ref 0, .ref 73, .int v]) (σ' := (97, I1, J, R')) rfl ?_
    refine az_E.oi (pc' := 1144) (L' := [.ref 0, .ref 3, .ref 73, .int (nI i)]) (S' := [.ref 73, .int v]) (σ' := (97, I1, J, R')) rfl (lo_ai (c := 1) (by decide) hi hL) ?_
    refine az_E.sn 4 (pc' := 1148) (L' := [.ref 0, .ref 3, .ref 73, .int (nI i)]) (S' := [.int (nI i + (2 : Int32)), .ref 0, .int (xs (i + 1)), .ref 73, .int v]) (σ' := (97, I1, J, R')) rfl ?_
    refine az_E.oi (pc' := 1149) (L' := [.ref 0, .ref 3, .ref 73, .int (nI i)]) (S' := [.int (xs (i + 1)), .ref 73, .int v]) (σ' := (97, I1, J, R')) rfl (lo_ai (c := 2) (by decide) hi hL) ?_
    refine az_E.call (d := 1299) (k' := 225) (vs := [.ref 73, .int (xs (i + 1)), .int (xs (i + 2))]) (pc' := 1152) (S' := [.int v]) rfl ?_ (fun _ _ hq => hq)
    show az_E az_F (az_ex L xs) 1299 225 0 [.ref 73, .int (xs (i + 1)), .int (xs (i + 2)), .retAddr 0, .retAddr 0, .retAddr 0, .retAddr 0, .retAddr 0] [] (97, I1, J, R') _
    refine az_E.deep (by decide) (re_M_longest m ?_)
    show az_E az_F (az_ex L xs) 1300 258 1152 [.ref 0, .ref 3, .ref 73, .int (nI i)] [.int v, .int v] (97, I2, J, R') Q
    refine az_E.br (c := v = v) (tt := 1778) (ff := 1155) (L' := [.ref 0, .ref 3, .ref 73, .int (nI i)]) (S' := []) (σ' := (97, I2, J, R')) rfl (fun _ => k _ _ _ _ _ hr g2 g3) (fun hc => absurd rfl hc)
  refine az_E.sn 5 (pc' := 1129) (L' := [.ref 0, .ref 3, .ref 73, .int (nI i)]) (S' := [.int (nI i + (1 : Int32)), .ref 0, .ref 3]) (σ' := (97, I, J, R)) rfl ?_
  refine az_E.oi (pc' := 1130) (L' := [.ref 0, .ref 3, .ref 73, .int (nI i)]) (S' := [.ref 3]) (σ' := (97, I, J, R)) rfl (lo_ai (c := 1) (by decide) hi hL) ?_
  refine az_E.sn 4 (pc' := 1134) (L' := [.ref 0, .ref 3, .ref 73, .int (nI i)]) (S' := [.int (nI i + (2 : Int32)), .ref 0, .int (xs (i + 1)), .ref 3]) (σ' := (97, I, J, R)) rfl ?_
  refine az_E.oi (pc' := 1135) (L' := [.ref 0, .ref 3, .ref 73, .int (nI i)]) (S' := [.int (xs (i + 1)), .ref 3]) (σ' := (97, I, J, R)) rfl (lo_ai (c := 2) (by decide) hi hL) ?_
  refine az_E.call (d := 1299) (k' := 110) (vs := [.ref 3, .int (xs (i + 1)), .int (xs (i + 2))]) (pc' := 1138) (S' := []) rfl ?_ (fun _ _ hq => hq)
  show az_E az_F (az_ex L xs) 1299 110 0 [.ref 3, .int (xs (i + 1)), .int (xs (i + 2)), .retAddr 0, .retAddr 0, .retAddr 0, .retAddr 0, .retAddr 0] [] (97, I, J, R) _
  rcases lo_rl h with ⟨rfl, rfl⟩ | ⟨rfl, rfl⟩
  · exact az_E.deep (by decide) (re_X_longest_16_21 h2 h3 x (fun R' g2 g3 => hY R' g2 g3))
  · exact az_E.deep (by decide) (re_X_longest_21_16 h2 h3 x (fun R' g2 g3 => hY R' g2 g3))
set_option maxRecDepth 100000 in
set_option maxHeartbeats 4000000 in
theorem lo_drawn {L i : Nat} {xs : Nat → Int32} {I : Nat → Nat → Int32} {J : Nat → Nat → Int64} {R : Nat → Nat → Option Nat} {rl rd : Nat} {Q : Option Value → az_S → Prop} (hi : i + 6 ≤ L) (hL : L ≤ 3072) (h : Rel I J rl rd) (h2 : R 3 2 = some rl) (h3 : R 3 3 = some rd) (k : lo_K L xs Q i) : az_E az_F (az_ex L xs) 1300 258 1157 [.ref 0, .ref 3, .ref 73, .int (nI i)] [] (97, I, J, R) Q := by
  obtain ⟨v, I1, I2, x, m, hr⟩ := mt_drawn h (xs (i + 1)) (xs (i + 2)) (xs (i + 3))
  have hY : ∀ R' : Nat → Nat → Option Nat, R' 3 2 = some rl → R' 3 3 = some rd → az_E az_F (az_ex L xs) 1300 258 1176 [.ref 0, .ref 3, .ref 73, .int (nI i)] [.int v] (97, I1, J, R') Q := by
    intro R' g2 g3
    refine az_E.sn 5 (pc' := 1181) (L' := [.ref 0, .ref 3, .ref 73, .int (nI i)]) (S' := [.int (nI i + (1 : Int32)), .ref 0, .ref 73, .int v]) (σ' := (97, I1, J, R')) rfl ?_
    refine az_E.oi (pc' := 1182) (L' := [.ref 0, .ref 3, .ref 73, .int (nI i)]) (S' := [.ref 73, .int v]) (σ' := (97, I1, J, R')) rfl (lo_ai (c := 1) (by decide) hi hL) ?_
    refine az_E.sn 4 (pc' := 1186) (L' := [.ref 0, .ref 3, .ref 73, .int (nI i)]) (S' := [.int (nI i + (2 : Int32)), .ref 0, .int (xs (i + 1)), .ref 73, .int v]) (σ' := (97, I1, J, R')) rfl ?_
    refine az_E.oi (pc' := 1187) (L' := [.ref 0, .ref 3, .ref 73, .int (nI i)]) (S' := [.int (xs (i + 1)), .ref 73, .int v]) (σ' := (97, I1, J, R')) rfl (lo_ai (c := 2) (by decide) hi hL) ?_
    refine az_E.sn 4 (pc' := 1191) (L' := [.ref 0, .ref 3, .ref 73, .int (nI i)]) (S' := [.int (nI i + (3 : Int32)), .ref 0, .int (xs (i + 2)), .int (xs (i + 1)), .ref 73, .int v]) (σ' := (97, I1, J, R')) rfl ?_
    refine az_E.oi (pc' := 1192) (L' := [.ref 0, .ref 3, .ref 73, .int (nI i)]) (S' := [.int (xs (i + 2)), .int (xs (i + 1)), .ref 73, .int v]) (σ' := (97, I1, J, R')) rfl (lo_ai (c := 3) (by decide) hi hL) ?_
    refine az_E.call (d := 1299) (k' := 226) (vs := [.ref 73, .int (xs (i + 1)), .int (xs (i + 2)), .int (xs (i + 3))]) (pc' := 1195) (S' := [.int v]) rfl ?_ (fun _ _ hq => hq)
    show az_E az_F (az_ex L xs) 1299 226 0 [.ref 73, .int (xs (i + 1)), .int (xs (i + 2)), .int (xs (i + 3)), .retAddr 0, .retAddr 0, .retAddr 0, .retAddr 0, .retAddr 0] [] (97, I1, J, R') _
    refine az_E.deep (by decide) (re_M_drawn m ?_)
    show az_E az_F (az_ex L xs) 1300 258 1195 [.ref 0, .ref 3, .ref 73, .int (nI i)] [.int v, .int v] (97, I2, J, R') Q
    refine az_E.br (c := v = v) (tt := 1778) (ff := 1198) (L' := [.ref 0, .ref 3, .ref 73, .int (nI i)]) (S' := []) (σ' := (97, I2, J, R')) rfl (fun _ => k _ _ _ _ _ hr g2 g3) (fun hc => absurd rfl hc)
  refine az_E.sn 5 (pc' := 1162) (L' := [.ref 0, .ref 3, .ref 73, .int (nI i)]) (S' := [.int (nI i + (1 : Int32)), .ref 0, .ref 3]) (σ' := (97, I, J, R)) rfl ?_
  refine az_E.oi (pc' := 1163) (L' := [.ref 0, .ref 3, .ref 73, .int (nI i)]) (S' := [.ref 3]) (σ' := (97, I, J, R)) rfl (lo_ai (c := 1) (by decide) hi hL) ?_
  refine az_E.sn 4 (pc' := 1167) (L' := [.ref 0, .ref 3, .ref 73, .int (nI i)]) (S' := [.int (nI i + (2 : Int32)), .ref 0, .int (xs (i + 1)), .ref 3]) (σ' := (97, I, J, R)) rfl ?_
  refine az_E.oi (pc' := 1168) (L' := [.ref 0, .ref 3, .ref 73, .int (nI i)]) (S' := [.int (xs (i + 1)), .ref 3]) (σ' := (97, I, J, R)) rfl (lo_ai (c := 2) (by decide) hi hL) ?_
  refine az_E.sn 4 (pc' := 1172) (L' := [.ref 0, .ref 3, .ref 73, .int (nI i)]) (S' := [.int (nI i + (3 : Int32)), .ref 0, .int (xs (i + 2)), .int (xs (i + 1)), .ref 3]) (σ' := (97, I, J, R)) rfl ?_
  refine az_E.oi (pc' := 1173) (L' := [.ref 0, .ref 3, .ref 73, .int (nI i)]) (S' := [.int (xs (i + 2)), .int (xs (i + 1)), .ref 3]) (σ' := (97, I, J, R)) rfl (lo_ai (c := 3) (by decide) hi hL) ?_
  refine az_E.call (d := 1299) (k' := 111) (vs := [.ref 3, .int (xs (i + 1)), .int (xs (i + 2)), .int (xs (i + 3))]) (pc' := 1176) (S' := []) rfl ?_ (fun _ _ hq => hq)
  show az_E az_F (az_ex L xs) 1299 111 0 [.ref 3, .int (xs (i + 1)), .int (xs (i + 2)), .int (xs (i + 3)), .retAddr 0, .retAddr 0, .retAddr 0, .retAddr 0, .retAddr 0] [] (97, I, J, R) _
  rcases lo_rl h with ⟨rfl, rfl⟩ | ⟨rfl, rfl⟩
  · exact az_E.deep (by decide) (re_X_drawn_16_21 h2 h3 x (fun R' g2 g3 => hY R' g2 g3))
  · exact az_E.deep (by decide) (re_X_drawn_21_16 h2 h3 x (fun R' g2 g3 => hY R' g2 g3))
set_option maxRecDepth 100000 in
set_option maxHeartbeats 4000000 in
theorem lo_goes {L i : Nat} {xs : Nat → Int32} {I : Nat → Nat → Int32} {J : Nat → Nat → Int64} {R : Nat → Nat → Option Nat} {rl rd : Nat} {Q : Option Value → az_S → Prop} (hi : i + 6 ≤ L) (hL : L ≤ 3072) (h : Rel I J rl rd) (h2 : R 3 2 = some rl) (h3 : R 3 3 = some rd) (k : lo_K L xs Q i) : az_E az_F (az_ex L xs) 1300 258 1200 [.ref 0, .ref 3, .ref 73, .int (nI i)] [] (97, I, J, R) Q := by
  obtain ⟨v, I1, I2, x, m, hr⟩ := mt_goes h (xs (i + 1)) (xs (i + 2))
  have hY : ∀ R' : Nat → Nat → Option Nat, R' 3 2 = some rl → R' 3 3 = some rd → az_E az_F (az_ex L xs) 1300 258 1214 [.ref 0, .ref 3, .ref 73, .int (nI i)] [.int v] (97, I1, J, R') Q := by
    intro R' g2 g3
    refine az_E.sn 5 (pc' := 1219) (L' := [.ref 0, .ref 3, .ref 73, .int (nI i)]) (S' := [.int (nI i + (1 : Int32)), .ref 0, .ref 73, .int v]) (σ' := (97, I1, J, R')) rfl ?_
    refine az_E.oi (pc' := 1220) (L' := [.ref 0, .ref 3, .ref 73, .int (nI i)]) (S' := [.ref 73, .int v]) (σ' := (97, I1, J, R')) rfl (lo_ai (c := 1) (by decide) hi hL) ?_
    refine az_E.sn 4 (pc' := 1224) (L' := [.ref 0, .ref 3, .ref 73, .int (nI i)]) (S' := [.int (nI i + (2 : Int32)), .ref 0, .int (xs (i + 1)), .ref 73, .int v]) (σ' := (97, I1, J, R')) rfl ?_
    refine az_E.oi (pc' := 1225) (L' := [.ref 0, .ref 3, .ref 73, .int (nI i)]) (S' := [.int (xs (i + 1)), .ref 73, .int v]) (σ' := (97, I1, J, R')) rfl (lo_ai (c := 2) (by decide) hi hL) ?_
    refine az_E.call (d := 1299) (k' := 227) (vs := [.ref 73, .int (xs (i + 1)), .int (xs (i + 2))]) (pc' := 1228) (S' := [.int v]) rfl ?_ (fun _ _ hq => hq)
    show az_E az_F (az_ex L xs) 1299 227 0 [.ref 73, .int (xs (i + 1)), .int (xs (i + 2)), .retAddr 0, .retAddr 0] [] (97, I1, J, R') _
    refine az_E.deep (by decide) (re_M_goes m ?_)
    show az_E az_F (az_ex L xs) 1300 258 1228 [.ref 0, .ref 3, .ref 73, .int (nI i)] [.int v, .int v] (97, I2, J, R') Q
    refine az_E.br (c := v = v) (tt := 1778) (ff := 1231) (L' := [.ref 0, .ref 3, .ref 73, .int (nI i)]) (S' := []) (σ' := (97, I2, J, R')) rfl (fun _ => k _ _ _ _ _ hr g2 g3) (fun hc => absurd rfl hc)
  refine az_E.sn 5 (pc' := 1205) (L' := [.ref 0, .ref 3, .ref 73, .int (nI i)]) (S' := [.int (nI i + (1 : Int32)), .ref 0, .ref 3]) (σ' := (97, I, J, R)) rfl ?_
  refine az_E.oi (pc' := 1206) (L' := [.ref 0, .ref 3, .ref 73, .int (nI i)]) (S' := [.ref 3]) (σ' := (97, I, J, R)) rfl (lo_ai (c := 1) (by decide) hi hL) ?_
  refine az_E.sn 4 (pc' := 1210) (L' := [.ref 0, .ref 3, .ref 73, .int (nI i)]) (S' := [.int (nI i + (2 : Int32)), .ref 0, .int (xs (i + 1)), .ref 3]) (σ' := (97, I, J, R)) rfl ?_
  refine az_E.oi (pc' := 1211) (L' := [.ref 0, .ref 3, .ref 73, .int (nI i)]) (S' := [.int (xs (i + 1)), .ref 3]) (σ' := (97, I, J, R)) rfl (lo_ai (c := 2) (by decide) hi hL) ?_
  refine az_E.call (d := 1299) (k' := 112) (vs := [.ref 3, .int (xs (i + 1)), .int (xs (i + 2))]) (pc' := 1214) (S' := []) rfl ?_ (fun _ _ hq => hq)
  show az_E az_F (az_ex L xs) 1299 112 0 [.ref 3, .int (xs (i + 1)), .int (xs (i + 2)), .retAddr 0, .retAddr 0, .retAddr 0] [] (97, I, J, R) _
  rcases lo_rl h with ⟨rfl, rfl⟩ | ⟨rfl, rfl⟩
  · exact az_E.deep (by decide) (re_X_goes_16 h2 x (hY R h2 h3))
  · exact az_E.deep (by decide) (re_X_goes_21 h2 x (hY R h2 h3))
set_option maxRecDepth 100000 in
set_option maxHeartbeats 4000000 in
theorem lo_putDown {L i : Nat} {xs : Nat → Int32} {I : Nat → Nat → Int32} {J : Nat → Nat → Int64} {R : Nat → Nat → Option Nat} {rl rd : Nat} {Q : Option Value → az_S → Prop} (hi : i + 6 ≤ L) (hL : L ≤ 3072) (h : Rel I J rl rd) (h2 : R 3 2 = some rl) (h3 : R 3 3 = some rd) (k : lo_K L xs Q i) : az_E az_F (az_ex L xs) 1300 258 1233 [.ref 0, .ref 3, .ref 73, .int (nI i)] [] (97, I, J, R) Q := by
  obtain ⟨v, I1, I2, x, m, hr⟩ := mt_putDown h (xs (i + 1))
  have hY : ∀ R' : Nat → Nat → Option Nat, R' 3 2 = some rl → R' 3 3 = some rd → az_E az_F (az_ex L xs) 1300 258 1242 [.ref 0, .ref 3, .ref 73, .int (nI i)] [.int v] (97, I1, J, R') Q := by
    intro R' g2 g3
    refine az_E.sn 5 (pc' := 1247) (L' := [.ref 0, .ref 3, .ref 73, .int (nI i)]) (S' := [.int (nI i + (1 : Int32)), .ref 0, .ref 73, .int v]) (σ' := (97, I1, J, R')) rfl ?_
    refine az_E.oi (pc' := 1248) (L' := [.ref 0, .ref 3, .ref 73, .int (nI i)]) (S' := [.ref 73, .int v]) (σ' := (97, I1, J, R')) rfl (lo_ai (c := 1) (by decide) hi hL) ?_
    refine az_E.call (d := 1299) (k' := 228) (vs := [.ref 73, .int (xs (i + 1))]) (pc' := 1251) (S' := [.int v]) rfl ?_ (fun _ _ hq => hq)
    show az_E az_F (az_ex L xs) 1299 228 0 [.ref 73, .int (xs (i + 1)), .retAddr 0] [] (97, I1, J, R') _
    refine az_E.deep (by decide) (re_M_putDown m ?_)
    show az_E az_F (az_ex L xs) 1300 258 1251 [.ref 0, .ref 3, .ref 73, .int (nI i)] [.int v, .int v] (97, I2, J, R') Q
    refine az_E.br (c := v = v) (tt := 1778) (ff := 1254) (L' := [.ref 0, .ref 3, .ref 73, .int (nI i)]) (S' := []) (σ' := (97, I2, J, R')) rfl (fun _ => k _ _ _ _ _ hr g2 g3) (fun hc => absurd rfl hc)
  refine az_E.sn 5 (pc' := 1238) (L' := [.ref 0, .ref 3, .ref 73, .int (nI i)]) (S' := [.int (nI i + (1 : Int32)), .ref 0, .ref 3]) (σ' := (97, I, J, R)) rfl ?_
  refine az_E.oi (pc' := 1239) (L' := [.ref 0, .ref 3, .ref 73, .int (nI i)]) (S' := [.ref 3]) (σ' := (97, I, J, R)) rfl (lo_ai (c := 1) (by decide) hi hL) ?_
  refine az_E.call (d := 1299) (k' := 113) (vs := [.ref 3, .int (xs (i + 1))]) (pc' := 1242) (S' := []) rfl ?_ (fun _ _ hq => hq)
  show az_E az_F (az_ex L xs) 1299 113 0 [.ref 3, .int (xs (i + 1)), .retAddr 0] [] (97, I, J, R) _
  exact az_E.deep (by decide) (re_X_putDown x (hY R h2 h3))
set_option maxRecDepth 100000 in
set_option maxHeartbeats 4000000 in
theorem lo_takes {L i : Nat} {xs : Nat → Int32} {I : Nat → Nat → Int32} {J : Nat → Nat → Int64} {R : Nat → Nat → Option Nat} {rl rd : Nat} {Q : Option Value → az_S → Prop} (hi : i + 6 ≤ L) (hL : L ≤ 3072) (h : Rel I J rl rd) (h2 : R 3 2 = some rl) (h3 : R 3 3 = some rd) (k : lo_K L xs Q i) : az_E az_F (az_ex L xs) 1300 258 1256 [.ref 0, .ref 3, .ref 73, .int (nI i)] [] (97, I, J, R) Q := by
  obtain ⟨v, I1, I2, x, m, hr⟩ := mt_takes h (xs (i + 1)) (xs (i + 2))
  have hY : ∀ R' : Nat → Nat → Option Nat, R' 3 2 = some rl → R' 3 3 = some rd → az_E az_F (az_ex L xs) 1300 258 1270 [.ref 0, .ref 3, .ref 73, .int (nI i)] [.int v] (97, I1, J, R') Q := by
    intro R' g2 g3
    refine az_E.sn 5 (pc' := 1275) (L' := [.ref 0, .ref 3, .ref 73, .int (nI i)]) (S' := [.int (nI i + (1 : Int32)), .ref 0, .ref 73, .int v]) (σ' := (97, I1, J, R')) rfl ?_
    refine az_E.oi (pc' := 1276) (L' := [.ref 0, .ref 3, .ref 73, .int (nI i)]) (S' := [.ref 73, .int v]) (σ' := (97, I1, J, R')) rfl (lo_ai (c := 1) (by decide) hi hL) ?_
    refine az_E.sn 4 (pc' := 1280) (L' := [.ref 0, .ref 3, .ref 73, .int (nI i)]) (S' := [.int (nI i + (2 : Int32)), .ref 0, .int (xs (i + 1)), .ref 73, .int v]) (σ' := (97, I1, J, R')) rfl ?_
    refine az_E.oi (pc' := 1281) (L' := [.ref 0, .ref 3, .ref 73, .int (nI i)]) (S' := [.int (xs (i + 1)), .ref 73, .int v]) (σ' := (97, I1, J, R')) rfl (lo_ai (c := 2) (by decide) hi hL) ?_
    refine az_E.call (d := 1299) (k' := 229) (vs := [.ref 73, .int (xs (i + 1)), .int (xs (i + 2))]) (pc' := 1284) (S' := [.int v]) rfl ?_ (fun _ _ hq => hq)
    show az_E az_F (az_ex L xs) 1299 229 0 [.ref 73, .int (xs (i + 1)), .int (xs (i + 2))] [] (97, I1, J, R') _
    refine az_E.deep (by decide) (re_M_takes m ?_)
    show az_E az_F (az_ex L xs) 1300 258 1284 [.ref 0, .ref 3, .ref 73, .int (nI i)] [.int v, .int v] (97, I2, J, R') Q
    refine az_E.br (c := v = v) (tt := 1778) (ff := 1287) (L' := [.ref 0, .ref 3, .ref 73, .int (nI i)]) (S' := []) (σ' := (97, I2, J, R')) rfl (fun _ => k _ _ _ _ _ hr g2 g3) (fun hc => absurd rfl hc)
  refine az_E.sn 5 (pc' := 1261) (L' := [.ref 0, .ref 3, .ref 73, .int (nI i)]) (S' := [.int (nI i + (1 : Int32)), .ref 0, .ref 3]) (σ' := (97, I, J, R)) rfl ?_
  refine az_E.oi (pc' := 1262) (L' := [.ref 0, .ref 3, .ref 73, .int (nI i)]) (S' := [.ref 3]) (σ' := (97, I, J, R)) rfl (lo_ai (c := 1) (by decide) hi hL) ?_
  refine az_E.sn 4 (pc' := 1266) (L' := [.ref 0, .ref 3, .ref 73, .int (nI i)]) (S' := [.int (nI i + (2 : Int32)), .ref 0, .int (xs (i + 1)), .ref 3]) (σ' := (97, I, J, R)) rfl ?_
  refine az_E.oi (pc' := 1267) (L' := [.ref 0, .ref 3, .ref 73, .int (nI i)]) (S' := [.int (xs (i + 1)), .ref 3]) (σ' := (97, I, J, R)) rfl (lo_ai (c := 2) (by decide) hi hL) ?_
  refine az_E.call (d := 1299) (k' := 114) (vs := [.ref 3, .int (xs (i + 1)), .int (xs (i + 2))]) (pc' := 1270) (S' := []) rfl ?_ (fun _ _ hq => hq)
  show az_E az_F (az_ex L xs) 1299 114 0 [.ref 3, .int (xs (i + 1)), .int (xs (i + 2))] [] (97, I, J, R) _
  exact az_E.deep (by decide) (re_X_takes x (hY R h2 h3))
set_option maxRecDepth 100000 in
set_option maxHeartbeats 4000000 in
theorem lo_cheer {L i : Nat} {xs : Nat → Int32} {I : Nat → Nat → Int32} {J : Nat → Nat → Int64} {R : Nat → Nat → Option Nat} {rl rd : Nat} {Q : Option Value → az_S → Prop} (hi : i + 6 ≤ L) (hL : L ≤ 3072) (h : Rel I J rl rd) (h2 : R 3 2 = some rl) (h3 : R 3 3 = some rd) (k : lo_K L xs Q i) : az_E az_F (az_ex L xs) 1300 258 1289 [.ref 0, .ref 3, .ref 73, .int (nI i)] [] (97, I, J, R) Q := by
  obtain ⟨v, I1, I2, x, m, hr⟩ := mt_cheer h (xs (i + 1))
  have hY : ∀ R' : Nat → Nat → Option Nat, R' 3 2 = some rl → R' 3 3 = some rd → az_E az_F (az_ex L xs) 1300 258 1298 [.ref 0, .ref 3, .ref 73, .int (nI i)] [.int v] (97, I1, J, R') Q := by
    intro R' g2 g3
    refine az_E.sn 5 (pc' := 1303) (L' := [.ref 0, .ref 3, .ref 73, .int (nI i)]) (S' := [.int (nI i + (1 : Int32)), .ref 0, .ref 73, .int v]) (σ' := (97, I1, J, R')) rfl ?_
    refine az_E.oi (pc' := 1304) (L' := [.ref 0, .ref 3, .ref 73, .int (nI i)]) (S' := [.ref 73, .int v]) (σ' := (97, I1, J, R')) rfl (lo_ai (c := 1) (by decide) hi hL) ?_
    refine az_E.call (d := 1299) (k' := 230) (vs := [.ref 73, .int (xs (i + 1))]) (pc' := 1307) (S' := [.int v]) rfl ?_ (fun _ _ hq => hq)
    show az_E az_F (az_ex L xs) 1299 230 0 [.ref 73, .int (xs (i + 1))] [] (97, I1, J, R') _
    refine az_E.deep (by decide) (re_M_cheer m ?_)
    show az_E az_F (az_ex L xs) 1300 258 1307 [.ref 0, .ref 3, .ref 73, .int (nI i)] [.int v, .int v] (97, I2, J, R') Q
    refine az_E.br (c := v = v) (tt := 1778) (ff := 1310) (L' := [.ref 0, .ref 3, .ref 73, .int (nI i)]) (S' := []) (σ' := (97, I2, J, R')) rfl (fun _ => k _ _ _ _ _ hr g2 g3) (fun hc => absurd rfl hc)
  refine az_E.sn 5 (pc' := 1294) (L' := [.ref 0, .ref 3, .ref 73, .int (nI i)]) (S' := [.int (nI i + (1 : Int32)), .ref 0, .ref 3]) (σ' := (97, I, J, R)) rfl ?_
  refine az_E.oi (pc' := 1295) (L' := [.ref 0, .ref 3, .ref 73, .int (nI i)]) (S' := [.ref 3]) (σ' := (97, I, J, R)) rfl (lo_ai (c := 1) (by decide) hi hL) ?_
  refine az_E.call (d := 1299) (k' := 115) (vs := [.ref 3, .int (xs (i + 1))]) (pc' := 1298) (S' := []) rfl ?_ (fun _ _ hq => hq)
  show az_E az_F (az_ex L xs) 1299 115 0 [.ref 3, .int (xs (i + 1))] [] (97, I, J, R) _
  exact az_E.deep (by decide) (re_X_cheer x (hY R h2 h3))
set_option maxRecDepth 100000 in
set_option maxHeartbeats 4000000 in
theorem lo_led {L i : Nat} {xs : Nat → Int32} {I : Nat → Nat → Int32} {J : Nat → Nat → Int64} {R : Nat → Nat → Option Nat} {rl rd : Nat} {Q : Option Value → az_S → Prop} (hi : i + 6 ≤ L) (hL : L ≤ 3072) (h : Rel I J rl rd) (h2 : R 3 2 = some rl) (h3 : R 3 3 = some rd) (k : lo_K L xs Q i) : az_E az_F (az_ex L xs) 1300 258 1312 [.ref 0, .ref 3, .ref 73, .int (nI i)] [] (97, I, J, R) Q := by
  obtain ⟨v, x, m⟩ := mt_led h (xs (i + 1))
  have hY : ∀ R' : Nat → Nat → Option Nat, R' 3 2 = some rl → R' 3 3 = some rd → az_E az_F (az_ex L xs) 1300 258 1321 [.ref 0, .ref 3, .ref 73, .int (nI i)] [.int v] (97, I, J, R') Q := by
    intro R' g2 g3
    refine az_E.sn 5 (pc' := 1326) (L' := [.ref 0, .ref 3, .ref 73, .int (nI i)]) (S' := [.int (nI i + (1 : Int32)), .ref 0, .ref 73, .int v]) (σ' := (97, I, J, R')) rfl ?_
    refine az_E.oi (pc' := 1327) (L' := [.ref 0, .ref 3, .ref 73, .int (nI i)]) (S' := [.ref 73, .int v]) (σ' := (97, I, J, R')) rfl (lo_ai (c := 1) (by decide) hi hL) ?_
    refine az_E.call (d := 1299) (k' := 231) (vs := [.ref 73, .int (xs (i + 1))]) (pc' := 1330) (S' := [.int v]) rfl ?_ (fun _ _ hq => hq)
    show az_E az_F (az_ex L xs) 1299 231 0 [.ref 73, .int (xs (i + 1))] [] (97, I, J, R') _
    refine az_E.deep (by decide) (re_M_led m ?_)
    show az_E az_F (az_ex L xs) 1300 258 1330 [.ref 0, .ref 3, .ref 73, .int (nI i)] [.int v, .int v] (97, I, J, R') Q
    refine az_E.br (c := v = v) (tt := 1778) (ff := 1333) (L' := [.ref 0, .ref 3, .ref 73, .int (nI i)]) (S' := []) (σ' := (97, I, J, R')) rfl (fun _ => k _ _ _ _ _ h g2 g3) (fun hc => absurd rfl hc)
  refine az_E.sn 5 (pc' := 1317) (L' := [.ref 0, .ref 3, .ref 73, .int (nI i)]) (S' := [.int (nI i + (1 : Int32)), .ref 0, .ref 3]) (σ' := (97, I, J, R)) rfl ?_
  refine az_E.oi (pc' := 1318) (L' := [.ref 0, .ref 3, .ref 73, .int (nI i)]) (S' := [.ref 3]) (σ' := (97, I, J, R)) rfl (lo_ai (c := 1) (by decide) hi hL) ?_
  refine az_E.call (d := 1299) (k' := 116) (vs := [.ref 3, .int (xs (i + 1))]) (pc' := 1321) (S' := []) rfl ?_ (fun _ _ hq => hq)
  show az_E az_F (az_ex L xs) 1299 116 0 [.ref 3, .int (xs (i + 1))] [] (97, I, J, R) _
  exact az_E.deep (by decide) (re_X_led x (hY R h2 h3))
set_option maxRecDepth 100000 in
set_option maxHeartbeats 4000000 in
theorem lo_image {L i : Nat} {xs : Nat → Int32} {I : Nat → Nat → Int32} {J : Nat → Nat → Int64} {R : Nat → Nat → Option Nat} {rl rd : Nat} {Q : Option Value → az_S → Prop} (hi : i + 6 ≤ L) (hL : L ≤ 3072) (h : Rel I J rl rd) (h2 : R 3 2 = some rl) (h3 : R 3 3 = some rd) (k : lo_K L xs Q i) : az_E az_F (az_ex L xs) 1300 258 1335 [.ref 0, .ref 3, .ref 73, .int (nI i)] [] (97, I, J, R) Q := by
  obtain ⟨v, I1, I2, x, m, hr⟩ := mt_image h 
  have hY : ∀ R' : Nat → Nat → Option Nat, R' 3 2 = some rl → R' 3 3 = some rd → az_E az_F (az_ex L xs) 1300 258 1339 [.ref 0, .ref 3, .ref 73, .int (nI i)] [.int v] (97, I1, J, R') Q := by
    intro R' g2 g3
    refine az_E.sn 1 (pc' := 1340) (L' := [.ref 0, .ref 3, .ref 73, .int (nI i)]) (S' := [.ref 73, .int v]) (σ' := (97, I1, J, R')) rfl ?_
    refine az_E.call (d := 1299) (k' := 232) (vs := [.ref 73]) (pc' := 1343) (S' := [.int v]) rfl ?_ (fun _ _ hq => hq)
    show az_E az_F (az_ex L xs) 1299 232 0 [.ref 73, .retAddr 0] [] (97, I1, J, R') _
    refine az_E.deep (by decide) (re_M_image m ?_)
    show az_E az_F (az_ex L xs) 1300 258 1343 [.ref 0, .ref 3, .ref 73, .int (nI i)] [.int v, .int v] (97, I2, J, R') Q
    refine az_E.br (c := v = v) (tt := 1778) (ff := 1346) (L' := [.ref 0, .ref 3, .ref 73, .int (nI i)]) (S' := []) (σ' := (97, I2, J, R')) rfl (fun _ => k _ _ _ _ _ hr g2 g3) (fun hc => absurd rfl hc)
  refine az_E.sn 1 (pc' := 1336) (L' := [.ref 0, .ref 3, .ref 73, .int (nI i)]) (S' := [.ref 3]) (σ' := (97, I, J, R)) rfl ?_
  refine az_E.call (d := 1299) (k' := 117) (vs := [.ref 3]) (pc' := 1339) (S' := []) rfl ?_ (fun _ _ hq => hq)
  show az_E az_F (az_ex L xs) 1299 117 0 [.ref 3] [] (97, I, J, R) _
  exact az_E.deep (by decide) (re_X_image x (hY R h2 h3))
set_option maxRecDepth 100000 in
set_option maxHeartbeats 4000000 in
theorem lo_back {L i : Nat} {xs : Nat → Int32} {I : Nat → Nat → Int32} {J : Nat → Nat → Int64} {R : Nat → Nat → Option Nat} {rl rd : Nat} {Q : Option Value → az_S → Prop} (hi : i + 6 ≤ L) (hL : L ≤ 3072) (h : Rel I J rl rd) (h2 : R 3 2 = some rl) (h3 : R 3 3 = some rd) (k : lo_K L xs Q i) : az_E az_F (az_ex L xs) 1300 258 1348 [.ref 0, .ref 3, .ref 73, .int (nI i)] [] (97, I, J, R) Q := by
  obtain ⟨v, I1, I2, x, m, hr⟩ := mt_back h 
  have hY : ∀ R' : Nat → Nat → Option Nat, R' 3 2 = some rl → R' 3 3 = some rd → az_E az_F (az_ex L xs) 1300 258 1352 [.ref 0, .ref 3, .ref 73, .int (nI i)] [.int v] (97, I1, J, R') Q := by
    intro R' g2 g3
    refine az_E.sn 1 (pc' := 1353) (L' := [.ref 0, .ref 3, .ref 73, .int (nI i)]) (S' := [.ref 73, .int v]) (σ' := (97, I1, J, R')) rfl ?_
    refine az_E.call (d := 1299) (k' := 233) (vs := [.ref 73]) (pc' := 1356) (S' := [.int v]) rfl ?_ (fun _ _ hq => hq)
    show az_E az_F (az_ex L xs) 1299 233 0 [.ref 73, .retAddr 0] [] (97, I1, J, R') _
    refine az_E.deep (by decide) (re_M_back m ?_)
    show az_E az_F (az_ex L xs) 1300 258 1356 [.ref 0, .ref 3, .ref 73, .int (nI i)] [.int v, .int v] (97, I2, J, R') Q
    refine az_E.br (c := v = v) (tt := 1778) (ff := 1359) (L' := [.ref 0, .ref 3, .ref 73, .int (nI i)]) (S' := []) (σ' := (97, I2, J, R')) rfl (fun _ => k _ _ _ _ _ hr g2 g3) (fun hc => absurd rfl hc)
  refine az_E.sn 1 (pc' := 1349) (L' := [.ref 0, .ref 3, .ref 73, .int (nI i)]) (S' := [.ref 3]) (σ' := (97, I, J, R)) rfl ?_
  refine az_E.call (d := 1299) (k' := 118) (vs := [.ref 3]) (pc' := 1352) (S' := []) rfl ?_ (fun _ _ hq => hq)
  show az_E az_F (az_ex L xs) 1299 118 0 [.ref 3] [] (97, I, J, R) _
  exact az_E.deep (by decide) (re_X_back x (hY R h2 h3))
set_option maxRecDepth 100000 in
set_option maxHeartbeats 4000000 in
theorem lo_undo {L i : Nat} {xs : Nat → Int32} {I : Nat → Nat → Int32} {J : Nat → Nat → Int64} {R : Nat → Nat → Option Nat} {rl rd : Nat} {Q : Option Value → az_S → Prop} (hi : i + 6 ≤ L) (hL : L ≤ 3072) (h : Rel I J rl rd) (h2 : R 3 2 = some rl) (h3 : R 3 3 = some rd) (k : lo_K L xs Q i) : az_E az_F (az_ex L xs) 1300 258 1361 [.ref 0, .ref 3, .ref 73, .int (nI i)] [] (97, I, J, R) Q := by
  obtain ⟨v, I1, I2, x, m, hr⟩ := mt_undo h 
  have hY : ∀ R' : Nat → Nat → Option Nat, R' 3 2 = some rl → R' 3 3 = some rd → az_E az_F (az_ex L xs) 1300 258 1365 [.ref 0, .ref 3, .ref 73, .int (nI i)] [.int v] (97, I1, J, R') Q := by
    intro R' g2 g3
    refine az_E.sn 1 (pc' := 1366) (L' := [.ref 0, .ref 3, .ref 73, .int (nI i)]) (S' := [.ref 73, .int v]) (σ' := (97, I1, J, R')) rfl ?_
    refine az_E.call (d := 1299) (k' := 158) (vs := [.ref 73]) (pc' := 1369) (S' := [.int v]) rfl ?_ (fun _ _ hq => hq)
    show az_E az_F (az_ex L xs) 1299 158 0 [.ref 73] [] (97, I1, J, R') _
    refine az_E.deep (by decide) (re_M_undo m ?_)
    show az_E az_F (az_ex L xs) 1300 258 1369 [.ref 0, .ref 3, .ref 73, .int (nI i)] [.int v, .int v] (97, I2, J, R') Q
    refine az_E.br (c := v = v) (tt := 1778) (ff := 1372) (L' := [.ref 0, .ref 3, .ref 73, .int (nI i)]) (S' := []) (σ' := (97, I2, J, R')) rfl (fun _ => k _ _ _ _ _ hr g2 g3) (fun hc => absurd rfl hc)
  refine az_E.sn 1 (pc' := 1362) (L' := [.ref 0, .ref 3, .ref 73, .int (nI i)]) (S' := [.ref 3]) (σ' := (97, I, J, R)) rfl ?_
  refine az_E.call (d := 1299) (k' := 119) (vs := [.ref 3]) (pc' := 1365) (S' := []) rfl ?_ (fun _ _ hq => hq)
  show az_E az_F (az_ex L xs) 1299 119 0 [.ref 3] [] (97, I, J, R) _
  exact az_E.deep (by decide) (re_X_undo x (hY R h2 h3))
set_option maxRecDepth 100000 in
set_option maxHeartbeats 4000000 in
theorem lo_redo {L i : Nat} {xs : Nat → Int32} {I : Nat → Nat → Int32} {J : Nat → Nat → Int64} {R : Nat → Nat → Option Nat} {rl rd : Nat} {Q : Option Value → az_S → Prop} (hi : i + 6 ≤ L) (hL : L ≤ 3072) (h : Rel I J rl rd) (h2 : R 3 2 = some rl) (h3 : R 3 3 = some rd) (k : lo_K L xs Q i) : az_E az_F (az_ex L xs) 1300 258 1374 [.ref 0, .ref 3, .ref 73, .int (nI i)] [] (97, I, J, R) Q := by
  obtain ⟨v, I1, I2, x, m, hr⟩ := mt_redo h 
  have hY : ∀ R' : Nat → Nat → Option Nat, R' 3 2 = some rl → R' 3 3 = some rd → az_E az_F (az_ex L xs) 1300 258 1378 [.ref 0, .ref 3, .ref 73, .int (nI i)] [.int v] (97, I1, J, R') Q := by
    intro R' g2 g3
    refine az_E.sn 1 (pc' := 1379) (L' := [.ref 0, .ref 3, .ref 73, .int (nI i)]) (S' := [.ref 73, .int v]) (σ' := (97, I1, J, R')) rfl ?_
    refine az_E.call (d := 1299) (k' := 159) (vs := [.ref 73]) (pc' := 1382) (S' := [.int v]) rfl ?_ (fun _ _ hq => hq)
    show az_E az_F (az_ex L xs) 1299 159 0 [.ref 73] [] (97, I1, J, R') _
    refine az_E.deep (by decide) (re_M_redo m ?_)
    show az_E az_F (az_ex L xs) 1300 258 1382 [.ref 0, .ref 3, .ref 73, .int (nI i)] [.int v, .int v] (97, I2, J, R') Q
    refine az_E.br (c := v = v) (tt := 1778) (ff := 1385) (L' := [.ref 0, .ref 3, .ref 73, .int (nI i)]) (S' := []) (σ' := (97, I2, J, R')) rfl (fun _ => k _ _ _ _ _ hr g2 g3) (fun hc => absurd rfl hc)
  refine az_E.sn 1 (pc' := 1375) (L' := [.ref 0, .ref 3, .ref 73, .int (nI i)]) (S' := [.ref 3]) (σ' := (97, I, J, R)) rfl ?_
  refine az_E.call (d := 1299) (k' := 120) (vs := [.ref 3]) (pc' := 1378) (S' := []) rfl ?_ (fun _ _ hq => hq)
  show az_E az_F (az_ex L xs) 1299 120 0 [.ref 3] [] (97, I, J, R) _
  exact az_E.deep (by decide) (re_X_redo x (hY R h2 h3))
set_option maxRecDepth 100000 in
set_option maxHeartbeats 4000000 in
theorem lo_body {L i : Nat} {xs : Nat → Int32} {I : Nat → Nat → Int32} {J : Nat → Nat → Int64} {R : Nat → Nat → Option Nat} {rl rd : Nat} {Q : Option Value → az_S → Prop} (hi : i + 6 ≤ L) (hL : L ≤ 3072) (h : Rel I J rl rd) (h2 : R 3 2 = some rl) (h3 : R 3 3 = some rd) (k : lo_K L xs Q i) : az_E az_F (az_ex L xs) 1300 258 1387 [.ref 0, .ref 3, .ref 73, .int (nI i)] [] (97, I, J, R) Q := by
  obtain ⟨v, I1, I2, x, m, hr⟩ := mt_body h (xs (i + 1))
  have hY : ∀ R' : Nat → Nat → Option Nat, R' 3 2 = some rl → R' 3 3 = some rd → az_E az_F (az_ex L xs) 1300 258 1396 [.ref 0, .ref 3, .ref 73, .int (nI i)] [.int v] (97, I1, J, R') Q := by
    intro R' g2 g3
    refine az_E.sn 5 (pc' := 1401) (L' := [.ref 0, .ref 3, .ref 73, .int (nI i)]) (S' := [.int (nI i + (1 : Int32)), .ref 0, .ref 73, .int v]) (σ' := (97, I1, J, R')) rfl ?_
    refine az_E.oi (pc' := 1402) (L' := [.ref 0, .ref 3, .ref 73, .int (nI i)]) (S' := [.ref 73, .int v]) (σ' := (97, I1, J, R')) rfl (lo_ai (c := 1) (by decide) hi hL) ?_
    refine az_E.call (d := 1299) (k' := 236) (vs := [.ref 73, .int (xs (i + 1))]) (pc' := 1405) (S' := [.int v]) rfl ?_ (fun _ _ hq => hq)
    show az_E az_F (az_ex L xs) 1299 236 0 [.ref 73, .int (xs (i + 1))] [] (97, I1, J, R') _
    refine az_E.deep (by decide) (re_M_body m ?_)
    show az_E az_F (az_ex L xs) 1300 258 1405 [.ref 0, .ref 3, .ref 73, .int (nI i)] [.int v, .int v] (97, I2, J, R') Q
    refine az_E.br (c := v = v) (tt := 1778) (ff := 1408) (L' := [.ref 0, .ref 3, .ref 73, .int (nI i)]) (S' := []) (σ' := (97, I2, J, R')) rfl (fun _ => k _ _ _ _ _ hr g2 g3) (fun hc => absurd rfl hc)
  refine az_E.sn 5 (pc' := 1392) (L' := [.ref 0, .ref 3, .ref 73, .int (nI i)]) (S' := [.int (nI i + (1 : Int32)), .ref 0, .ref 3]) (σ' := (97, I, J, R)) rfl ?_
  refine az_E.oi (pc' := 1393) (L' := [.ref 0, .ref 3, .ref 73, .int (nI i)]) (S' := [.ref 3]) (σ' := (97, I, J, R)) rfl (lo_ai (c := 1) (by decide) hi hL) ?_
  refine az_E.call (d := 1299) (k' := 121) (vs := [.ref 3, .int (xs (i + 1))]) (pc' := 1396) (S' := []) rfl ?_ (fun _ _ hq => hq)
  show az_E az_F (az_ex L xs) 1299 121 0 [.ref 3, .int (xs (i + 1))] [] (97, I, J, R) _
  exact az_E.deep (by decide) (re_X_body x (hY R h2 h3))
set_option maxRecDepth 100000 in
set_option maxHeartbeats 4000000 in
theorem lo_act {L i : Nat} {xs : Nat → Int32} {I : Nat → Nat → Int32} {J : Nat → Nat → Int64} {R : Nat → Nat → Option Nat} {rl rd : Nat} {Q : Option Value → az_S → Prop} (hi : i + 6 ≤ L) (hL : L ≤ 3072) (h : Rel I J rl rd) (h2 : R 3 2 = some rl) (h3 : R 3 3 = some rd) (k : lo_K L xs Q i) : az_E az_F (az_ex L xs) 1300 258 1410 [.ref 0, .ref 3, .ref 73, .int (nI i)] [] (97, I, J, R) Q := by
  obtain ⟨v, I1, I2, x, m, hr⟩ := mt_act h L xs (xs (i + 1)) (xs (i + 2)) (xs (i + 3))
  have hY : ∀ R' : Nat → Nat → Option Nat, R' 3 2 = some rl → R' 3 3 = some rd → az_E az_F (az_ex L xs) 1300 258 1429 [.ref 0, .ref 3, .ref 73, .int (nI i)] [.int v] (97, I1, J, R') Q := by
    intro R' g2 g3
    refine az_E.sn 5 (pc' := 1434) (L' := [.ref 0, .ref 3, .ref 73, .int (nI i)]) (S' := [.int (nI i + (1 : Int32)), .ref 0, .ref 73, .int v]) (σ' := (97, I1, J, R')) rfl ?_
    refine az_E.oi (pc' := 1435) (L' := [.ref 0, .ref 3, .ref 73, .int (nI i)]) (S' := [.ref 73, .int v]) (σ' := (97, I1, J, R')) rfl (lo_ai (c := 1) (by decide) hi hL) ?_
    refine az_E.sn 4 (pc' := 1439) (L' := [.ref 0, .ref 3, .ref 73, .int (nI i)]) (S' := [.int (nI i + (2 : Int32)), .ref 0, .int (xs (i + 1)), .ref 73, .int v]) (σ' := (97, I1, J, R')) rfl ?_
    refine az_E.oi (pc' := 1440) (L' := [.ref 0, .ref 3, .ref 73, .int (nI i)]) (S' := [.int (xs (i + 1)), .ref 73, .int v]) (σ' := (97, I1, J, R')) rfl (lo_ai (c := 2) (by decide) hi hL) ?_
    refine az_E.sn 4 (pc' := 1444) (L' := [.ref 0, .ref 3, .ref 73, .int (nI i)]) (S' := [.int (nI i + (3 : Int32)), .ref 0, .int (xs (i + 2)), .int (xs (i + 1)), .ref 73, .int v]) (σ' := (97, I1, J, R')) rfl ?_
    refine az_E.oi (pc' := 1445) (L' := [.ref 0, .ref 3, .ref 73, .int (nI i)]) (S' := [.int (xs (i + 2)), .int (xs (i + 1)), .ref 73, .int v]) (σ' := (97, I1, J, R')) rfl (lo_ai (c := 3) (by decide) hi hL) ?_
    refine az_E.call (d := 1299) (k' := 243) (vs := [.ref 73, .int (xs (i + 1)), .int (xs (i + 2)), .int (xs (i + 3))]) (pc' := 1448) (S' := [.int v]) rfl ?_ (fun _ _ hq => hq)
    show az_E az_F (az_ex L xs) 1299 243 0 [.ref 73, .int (xs (i + 1)), .int (xs (i + 2)), .int (xs (i + 3))] [] (97, I1, J, R') _
    refine az_E.deep (by decide) (re_M_act m ?_)
    show az_E az_F (az_ex L xs) 1300 258 1448 [.ref 0, .ref 3, .ref 73, .int (nI i)] [.int v, .int v] (97, I2, J, R') Q
    refine az_E.br (c := v = v) (tt := 1778) (ff := 1451) (L' := [.ref 0, .ref 3, .ref 73, .int (nI i)]) (S' := []) (σ' := (97, I2, J, R')) rfl (fun _ => k _ _ _ _ _ hr g2 g3) (fun hc => absurd rfl hc)
  refine az_E.sn 5 (pc' := 1415) (L' := [.ref 0, .ref 3, .ref 73, .int (nI i)]) (S' := [.int (nI i + (1 : Int32)), .ref 0, .ref 3]) (σ' := (97, I, J, R)) rfl ?_
  refine az_E.oi (pc' := 1416) (L' := [.ref 0, .ref 3, .ref 73, .int (nI i)]) (S' := [.ref 3]) (σ' := (97, I, J, R)) rfl (lo_ai (c := 1) (by decide) hi hL) ?_
  refine az_E.sn 4 (pc' := 1420) (L' := [.ref 0, .ref 3, .ref 73, .int (nI i)]) (S' := [.int (nI i + (2 : Int32)), .ref 0, .int (xs (i + 1)), .ref 3]) (σ' := (97, I, J, R)) rfl ?_
  refine az_E.oi (pc' := 1421) (L' := [.ref 0, .ref 3, .ref 73, .int (nI i)]) (S' := [.int (xs (i + 1)), .ref 3]) (σ' := (97, I, J, R)) rfl (lo_ai (c := 2) (by decide) hi hL) ?_
  refine az_E.sn 4 (pc' := 1425) (L' := [.ref 0, .ref 3, .ref 73, .int (nI i)]) (S' := [.int (nI i + (3 : Int32)), .ref 0, .int (xs (i + 2)), .int (xs (i + 1)), .ref 3]) (σ' := (97, I, J, R)) rfl ?_
  refine az_E.oi (pc' := 1426) (L' := [.ref 0, .ref 3, .ref 73, .int (nI i)]) (S' := [.int (xs (i + 2)), .int (xs (i + 1)), .ref 3]) (σ' := (97, I, J, R)) rfl (lo_ai (c := 3) (by decide) hi hL) ?_
  refine az_E.call (d := 1299) (k' := 122) (vs := [.ref 3, .int (xs (i + 1)), .int (xs (i + 2)), .int (xs (i + 3))]) (pc' := 1429) (S' := []) rfl ?_ (fun _ _ hq => hq)
  show az_E az_F (az_ex L xs) 1299 122 0 [.ref 3, .int (xs (i + 1)), .int (xs (i + 2)), .int (xs (i + 3))] [] (97, I, J, R) _
  exact az_E.deep (by decide) (re_X_act x (hY R h2 h3))
set_option maxRecDepth 100000 in
set_option maxHeartbeats 4000000 in
theorem lo_trace {L i : Nat} {xs : Nat → Int32} {I : Nat → Nat → Int32} {J : Nat → Nat → Int64} {R : Nat → Nat → Option Nat} {rl rd : Nat} {Q : Option Value → az_S → Prop} (hi : i + 6 ≤ L) (hL : L ≤ 3072) (h : Rel I J rl rd) (h2 : R 3 2 = some rl) (h3 : R 3 3 = some rd) (k : lo_K L xs Q i) : az_E az_F (az_ex L xs) 1300 258 1453 [.ref 0, .ref 3, .ref 73, .int (nI i)] [] (97, I, J, R) Q := by
  obtain ⟨v, x, m⟩ := mt_trace h (xs (i + 1))
  have hY : ∀ R' : Nat → Nat → Option Nat, R' 3 2 = some rl → R' 3 3 = some rd → az_E az_F (az_ex L xs) 1300 258 1462 [.ref 0, .ref 3, .ref 73, .int (nI i)] [.int v] (97, I, J, R') Q := by
    intro R' g2 g3
    refine az_E.sn 5 (pc' := 1467) (L' := [.ref 0, .ref 3, .ref 73, .int (nI i)]) (S' := [.int (nI i + (1 : Int32)), .ref 0, .ref 73, .int v]) (σ' := (97, I, J, R')) rfl ?_
    refine az_E.oi (pc' := 1468) (L' := [.ref 0, .ref 3, .ref 73, .int (nI i)]) (S' := [.ref 73, .int v]) (σ' := (97, I, J, R')) rfl (lo_ai (c := 1) (by decide) hi hL) ?_
    refine az_E.call (d := 1299) (k' := 244) (vs := [.ref 73, .int (xs (i + 1))]) (pc' := 1471) (S' := [.int v]) rfl ?_ (fun _ _ hq => hq)
    show az_E az_F (az_ex L xs) 1299 244 0 [.ref 73, .int (xs (i + 1))] [] (97, I, J, R') _
    refine az_E.deep (by decide) (re_M_trace m ?_)
    show az_E az_F (az_ex L xs) 1300 258 1471 [.ref 0, .ref 3, .ref 73, .int (nI i)] [.int v, .int v] (97, I, J, R') Q
    refine az_E.br (c := v = v) (tt := 1778) (ff := 1474) (L' := [.ref 0, .ref 3, .ref 73, .int (nI i)]) (S' := []) (σ' := (97, I, J, R')) rfl (fun _ => k _ _ _ _ _ h g2 g3) (fun hc => absurd rfl hc)
  refine az_E.sn 5 (pc' := 1458) (L' := [.ref 0, .ref 3, .ref 73, .int (nI i)]) (S' := [.int (nI i + (1 : Int32)), .ref 0, .ref 3]) (σ' := (97, I, J, R)) rfl ?_
  refine az_E.oi (pc' := 1459) (L' := [.ref 0, .ref 3, .ref 73, .int (nI i)]) (S' := [.ref 3]) (σ' := (97, I, J, R)) rfl (lo_ai (c := 1) (by decide) hi hL) ?_
  refine az_E.call (d := 1299) (k' := 123) (vs := [.ref 3, .int (xs (i + 1))]) (pc' := 1462) (S' := []) rfl ?_ (fun _ _ hq => hq)
  show az_E az_F (az_ex L xs) 1299 123 0 [.ref 3, .int (xs (i + 1))] [] (97, I, J, R) _
  exact az_E.deep (by decide) (re_X_trace x (hY R h2 h3))
set_option maxRecDepth 100000 in
set_option maxHeartbeats 4000000 in
theorem lo_keep {L i : Nat} {xs : Nat → Int32} {I : Nat → Nat → Int32} {J : Nat → Nat → Int64} {R : Nat → Nat → Option Nat} {rl rd : Nat} {Q : Option Value → az_S → Prop} (hi : i + 6 ≤ L) (hL : L ≤ 3072) (h : Rel I J rl rd) (h2 : R 3 2 = some rl) (h3 : R 3 3 = some rd) (k : lo_K L xs Q i) : az_E az_F (az_ex L xs) 1300 258 1476 [.ref 0, .ref 3, .ref 73, .int (nI i)] [] (97, I, J, R) Q := by
  obtain ⟨v, I1, I2, x, m, hr⟩ := mt_keep h (xs (i + 1)) (xs (i + 2))
  have hY : ∀ R' : Nat → Nat → Option Nat, R' 3 2 = some rl → R' 3 3 = some rd → az_E az_F (az_ex L xs) 1300 258 1490 [.ref 0, .ref 3, .ref 73, .int (nI i)] [.int v] (97, I1, J, R') Q := by
    intro R' g2 g3
    refine az_E.sn 5 (pc' := 1495) (L' := [.ref 0, .ref 3, .ref 73, .int (nI i)]) (S' := [.int (nI i + (1 : Int32)), .ref 0, .ref 73, .int v]) (σ' := (97, I1, J, R')) rfl ?_
    refine az_E.oi (pc' := 1496) (L' := [.ref 0, .ref 3, .ref 73, .int (nI i)]) (S' := [.ref 73, .int v]) (σ' := (97, I1, J, R')) rfl (lo_ai (c := 1) (by decide) hi hL) ?_
    refine az_E.sn 4 (pc' := 1500) (L' := [.ref 0, .ref 3, .ref 73, .int (nI i)]) (S' := [.int (nI i + (2 : Int32)), .ref 0, .int (xs (i + 1)), .ref 73, .int v]) (σ' := (97, I1, J, R')) rfl ?_
    refine az_E.oi (pc' := 1501) (L' := [.ref 0, .ref 3, .ref 73, .int (nI i)]) (S' := [.int (xs (i + 1)), .ref 73, .int v]) (σ' := (97, I1, J, R')) rfl (lo_ai (c := 2) (by decide) hi hL) ?_
    refine az_E.call (d := 1299) (k' := 246) (vs := [.ref 73, .int (xs (i + 1)), .int (xs (i + 2))]) (pc' := 1504) (S' := [.int v]) rfl ?_ (fun _ _ hq => hq)
    show az_E az_F (az_ex L xs) 1299 246 0 [.ref 73, .int (xs (i + 1)), .int (xs (i + 2))] [] (97, I1, J, R') _
    refine az_E.deep (by decide) (re_M_keep m ?_)
    show az_E az_F (az_ex L xs) 1300 258 1504 [.ref 0, .ref 3, .ref 73, .int (nI i)] [.int v, .int v] (97, I2, J, R') Q
    refine az_E.br (c := v = v) (tt := 1778) (ff := 1507) (L' := [.ref 0, .ref 3, .ref 73, .int (nI i)]) (S' := []) (σ' := (97, I2, J, R')) rfl (fun _ => k _ _ _ _ _ hr g2 g3) (fun hc => absurd rfl hc)
  refine az_E.sn 5 (pc' := 1481) (L' := [.ref 0, .ref 3, .ref 73, .int (nI i)]) (S' := [.int (nI i + (1 : Int32)), .ref 0, .ref 3]) (σ' := (97, I, J, R)) rfl ?_
  refine az_E.oi (pc' := 1482) (L' := [.ref 0, .ref 3, .ref 73, .int (nI i)]) (S' := [.ref 3]) (σ' := (97, I, J, R)) rfl (lo_ai (c := 1) (by decide) hi hL) ?_
  refine az_E.sn 4 (pc' := 1486) (L' := [.ref 0, .ref 3, .ref 73, .int (nI i)]) (S' := [.int (nI i + (2 : Int32)), .ref 0, .int (xs (i + 1)), .ref 3]) (σ' := (97, I, J, R)) rfl ?_
  refine az_E.oi (pc' := 1487) (L' := [.ref 0, .ref 3, .ref 73, .int (nI i)]) (S' := [.int (xs (i + 1)), .ref 3]) (σ' := (97, I, J, R)) rfl (lo_ai (c := 2) (by decide) hi hL) ?_
  refine az_E.call (d := 1299) (k' := 124) (vs := [.ref 3, .int (xs (i + 1)), .int (xs (i + 2))]) (pc' := 1490) (S' := []) rfl ?_ (fun _ _ hq => hq)
  show az_E az_F (az_ex L xs) 1299 124 0 [.ref 3, .int (xs (i + 1)), .int (xs (i + 2))] [] (97, I, J, R) _
  exact az_E.deep (by decide) (re_X_keep x (hY R h2 h3))
set_option maxRecDepth 100000 in
set_option maxHeartbeats 4000000 in
theorem lo_row {L i : Nat} {xs : Nat → Int32} {I : Nat → Nat → Int32} {J : Nat → Nat → Int64} {R : Nat → Nat → Option Nat} {rl rd : Nat} {Q : Option Value → az_S → Prop} (hi : i + 6 ≤ L) (hL : L ≤ 3072) (h : Rel I J rl rd) (h2 : R 3 2 = some rl) (h3 : R 3 3 = some rd) (k : lo_K L xs Q i) : az_E az_F (az_ex L xs) 1300 258 1509 [.ref 0, .ref 3, .ref 73, .int (nI i)] [] (97, I, J, R) Q := by
  obtain ⟨v, I1, J1, I2, J2, x, m, hr⟩ := mt_row h (xs (i + 1)) (xs (i + 2)) (xs (i + 3))
  have hY : ∀ R' : Nat → Nat → Option Nat, R' 3 2 = some rl → R' 3 3 = some rd → az_E az_F (az_ex L xs) 1300 258 1528 [.ref 0, .ref 3, .ref 73, .int (nI i)] [.int v] (97, I1, J1, R') Q := by
    intro R' g2 g3
    refine az_E.sn 5 (pc' := 1533) (L' := [.ref 0, .ref 3, .ref 73, .int (nI i)]) (S' := [.int (nI i + (1 : Int32)), .ref 0, .ref 73, .int v]) (σ' := (97, I1, J1, R')) rfl ?_
    refine az_E.oi (pc' := 1534) (L' := [.ref 0, .ref 3, .ref 73, .int (nI i)]) (S' := [.ref 73, .int v]) (σ' := (97, I1, J1, R')) rfl (lo_ai (c := 1) (by decide) hi hL) ?_
    refine az_E.sn 4 (pc' := 1538) (L' := [.ref 0, .ref 3, .ref 73, .int (nI i)]) (S' := [.int (nI i + (2 : Int32)), .ref 0, .int (xs (i + 1)), .ref 73, .int v]) (σ' := (97, I1, J1, R')) rfl ?_
    refine az_E.oi (pc' := 1539) (L' := [.ref 0, .ref 3, .ref 73, .int (nI i)]) (S' := [.int (xs (i + 1)), .ref 73, .int v]) (σ' := (97, I1, J1, R')) rfl (lo_ai (c := 2) (by decide) hi hL) ?_
    refine az_E.sn 4 (pc' := 1543) (L' := [.ref 0, .ref 3, .ref 73, .int (nI i)]) (S' := [.int (nI i + (3 : Int32)), .ref 0, .int (xs (i + 2)), .int (xs (i + 1)), .ref 73, .int v]) (σ' := (97, I1, J1, R')) rfl ?_
    refine az_E.oi (pc' := 1544) (L' := [.ref 0, .ref 3, .ref 73, .int (nI i)]) (S' := [.int (xs (i + 2)), .int (xs (i + 1)), .ref 73, .int v]) (σ' := (97, I1, J1, R')) rfl (lo_ai (c := 3) (by decide) hi hL) ?_
    refine az_E.call (d := 1299) (k' := 247) (vs := [.ref 73, .int (xs (i + 1)), .int (xs (i + 2)), .int (xs (i + 3))]) (pc' := 1547) (S' := [.int v]) rfl ?_ (fun _ _ hq => hq)
    show az_E az_F (az_ex L xs) 1299 247 0 [.ref 73, .int (xs (i + 1)), .int (xs (i + 2)), .int (xs (i + 3)), .retAddr 0] [] (97, I1, J1, R') _
    refine az_E.deep (by decide) (re_M_row m ?_)
    show az_E az_F (az_ex L xs) 1300 258 1547 [.ref 0, .ref 3, .ref 73, .int (nI i)] [.int v, .int v] (97, I2, J2, R') Q
    refine az_E.br (c := v = v) (tt := 1778) (ff := 1550) (L' := [.ref 0, .ref 3, .ref 73, .int (nI i)]) (S' := []) (σ' := (97, I2, J2, R')) rfl (fun _ => k _ _ _ _ _ hr g2 g3) (fun hc => absurd rfl hc)
  refine az_E.sn 5 (pc' := 1514) (L' := [.ref 0, .ref 3, .ref 73, .int (nI i)]) (S' := [.int (nI i + (1 : Int32)), .ref 0, .ref 3]) (σ' := (97, I, J, R)) rfl ?_
  refine az_E.oi (pc' := 1515) (L' := [.ref 0, .ref 3, .ref 73, .int (nI i)]) (S' := [.ref 3]) (σ' := (97, I, J, R)) rfl (lo_ai (c := 1) (by decide) hi hL) ?_
  refine az_E.sn 4 (pc' := 1519) (L' := [.ref 0, .ref 3, .ref 73, .int (nI i)]) (S' := [.int (nI i + (2 : Int32)), .ref 0, .int (xs (i + 1)), .ref 3]) (σ' := (97, I, J, R)) rfl ?_
  refine az_E.oi (pc' := 1520) (L' := [.ref 0, .ref 3, .ref 73, .int (nI i)]) (S' := [.int (xs (i + 1)), .ref 3]) (σ' := (97, I, J, R)) rfl (lo_ai (c := 2) (by decide) hi hL) ?_
  refine az_E.sn 4 (pc' := 1524) (L' := [.ref 0, .ref 3, .ref 73, .int (nI i)]) (S' := [.int (nI i + (3 : Int32)), .ref 0, .int (xs (i + 2)), .int (xs (i + 1)), .ref 3]) (σ' := (97, I, J, R)) rfl ?_
  refine az_E.oi (pc' := 1525) (L' := [.ref 0, .ref 3, .ref 73, .int (nI i)]) (S' := [.int (xs (i + 2)), .int (xs (i + 1)), .ref 3]) (σ' := (97, I, J, R)) rfl (lo_ai (c := 3) (by decide) hi hL) ?_
  refine az_E.call (d := 1299) (k' := 125) (vs := [.ref 3, .int (xs (i + 1)), .int (xs (i + 2)), .int (xs (i + 3))]) (pc' := 1528) (S' := []) rfl ?_ (fun _ _ hq => hq)
  show az_E az_F (az_ex L xs) 1299 125 0 [.ref 3, .int (xs (i + 1)), .int (xs (i + 2)), .int (xs (i + 3))] [] (97, I, J, R) _
  exact az_E.deep (by decide) (re_X_row x (hY R h2 h3))
set_option maxRecDepth 100000 in
set_option maxHeartbeats 4000000 in
theorem lo_put {L i : Nat} {xs : Nat → Int32} {I : Nat → Nat → Int32} {J : Nat → Nat → Int64} {R : Nat → Nat → Option Nat} {rl rd : Nat} {Q : Option Value → az_S → Prop} (hi : i + 6 ≤ L) (hL : L ≤ 3072) (h : Rel I J rl rd) (h2 : R 3 2 = some rl) (h3 : R 3 3 = some rd) (k : lo_K L xs Q i) : az_E az_F (az_ex L xs) 1300 258 1552 [.ref 0, .ref 3, .ref 73, .int (nI i)] [] (97, I, J, R) Q := by
  obtain ⟨v, J1, J2, x, m, hr⟩ := mt_put h (xs (i + 1)) (xs (i + 2)) (((xs (i + 3)).toInt64 <<< ((32 : Int32).toInt64 &&& 63)) ||| ((xs (i + 4)).toInt64 &&& (4294967295 : Int64)))
  have hY : ∀ R' : Nat → Nat → Option Nat, R' 3 2 = some rl → R' 3 3 = some rd → az_E az_F (az_ex L xs) 1300 258 1586 [.ref 0, .ref 3, .ref 73, .int (nI i)] [.int v] (97, I, J1, R') Q := by
    intro R' g2 g3
    refine az_E.sn 5 (pc' := 1591) (L' := [.ref 0, .ref 3, .ref 73, .int (nI i)]) (S' := [.int (nI i + (1 : Int32)), .ref 0, .ref 73, .int v]) (σ' := (97, I, J1, R')) rfl ?_
    refine az_E.oi (pc' := 1592) (L' := [.ref 0, .ref 3, .ref 73, .int (nI i)]) (S' := [.ref 73, .int v]) (σ' := (97, I, J1, R')) rfl (lo_ai (c := 1) (by decide) hi hL) ?_
    refine az_E.sn 4 (pc' := 1596) (L' := [.ref 0, .ref 3, .ref 73, .int (nI i)]) (S' := [.int (nI i + (2 : Int32)), .ref 0, .int (xs (i + 1)), .ref 73, .int v]) (σ' := (97, I, J1, R')) rfl ?_
    refine az_E.oi (pc' := 1597) (L' := [.ref 0, .ref 3, .ref 73, .int (nI i)]) (S' := [.int (xs (i + 1)), .ref 73, .int v]) (σ' := (97, I, J1, R')) rfl (lo_ai (c := 2) (by decide) hi hL) ?_
    refine az_E.sn 4 (pc' := 1601) (L' := [.ref 0, .ref 3, .ref 73, .int (nI i)]) (S' := [.int (nI i + (3 : Int32)), .ref 0, .int (xs (i + 2)), .int (xs (i + 1)), .ref 73, .int v]) (σ' := (97, I, J1, R')) rfl ?_
    refine az_E.oi (pc' := 1602) (L' := [.ref 0, .ref 3, .ref 73, .int (nI i)]) (S' := [.int (xs (i + 2)), .int (xs (i + 1)), .ref 73, .int v]) (σ' := (97, I, J1, R')) rfl (lo_ai (c := 3) (by decide) hi hL) ?_
    refine az_E.sn 7 (pc' := 1610) (L' := [.ref 0, .ref 3, .ref 73, .int (nI i)]) (S' := [.int (nI i + (4 : Int32)), .ref 0, .long ((xs (i + 3)).toInt64 <<< ((32 : Int32).toInt64 &&& 63)), .int (xs (i + 2)), .int (xs (i + 1)), .ref 73, .int v]) (σ' := (97, I, J1, R')) rfl ?_
    refine az_E.oi (pc' := 1611) (L' := [.ref 0, .ref 3, .ref 73, .int (nI i)]) (S' := [.long ((xs (i + 3)).toInt64 <<< ((32 : Int32).toInt64 &&& 63)), .int (xs (i + 2)), .int (xs (i + 1)), .ref 73, .int v]) (σ' := (97, I, J1, R')) rfl (lo_ai (c := 4) (by decide) hi hL) ?_
    refine az_E.sn 4 (pc' := 1617) (L' := [.ref 0, .ref 3, .ref 73, .int (nI i)]) (S' := [.long (((xs (i + 3)).toInt64 <<< ((32 : Int32).toInt64 &&& 63)) ||| ((xs (i + 4)).toInt64 &&& (4294967295 : Int64))), .int (xs (i + 2)), .int (xs (i + 1)), .ref 73, .int v]) (σ' := (97, I, J1, R')) rfl ?_
    refine az_E.call (d := 1299) (k' := 250) (vs := [.ref 73, .int (xs (i + 1)), .int (xs (i + 2)), .long (((xs (i + 3)).toInt64 <<< ((32 : Int32).toInt64 &&& 63)) ||| ((xs (i + 4)).toInt64 &&& (4294967295 : Int64)))]) (pc' := 1620) (S' := [.int v]) rfl ?_ (fun _ _ hq => hq)
    show az_E az_F (az_ex L xs) 1299 250 0 [.ref 73, .int (xs (i + 1)), .int (xs (i + 2)), .long (((xs (i + 3)).toInt64 <<< ((32 : Int32).toInt64 &&& 63)) ||| ((xs (i + 4)).toInt64 &&& (4294967295 : Int64))), .retAddr 0, .retAddr 0] [] (97, I, J1, R') _
    refine az_E.deep (by decide) (re_M_put m ?_)
    show az_E az_F (az_ex L xs) 1300 258 1620 [.ref 0, .ref 3, .ref 73, .int (nI i)] [.int v, .int v] (97, I, J2, R') Q
    refine az_E.br (c := v = v) (tt := 1778) (ff := 1623) (L' := [.ref 0, .ref 3, .ref 73, .int (nI i)]) (S' := []) (σ' := (97, I, J2, R')) rfl (fun _ => k _ _ _ _ _ hr g2 g3) (fun hc => absurd rfl hc)
  refine az_E.sn 5 (pc' := 1557) (L' := [.ref 0, .ref 3, .ref 73, .int (nI i)]) (S' := [.int (nI i + (1 : Int32)), .ref 0, .ref 3]) (σ' := (97, I, J, R)) rfl ?_
  refine az_E.oi (pc' := 1558) (L' := [.ref 0, .ref 3, .ref 73, .int (nI i)]) (S' := [.ref 3]) (σ' := (97, I, J, R)) rfl (lo_ai (c := 1) (by decide) hi hL) ?_
  refine az_E.sn 4 (pc' := 1562) (L' := [.ref 0, .ref 3, .ref 73, .int (nI i)]) (S' := [.int (nI i + (2 : Int32)), .ref 0, .int (xs (i + 1)), .ref 3]) (σ' := (97, I, J, R)) rfl ?_
  refine az_E.oi (pc' := 1563) (L' := [.ref 0, .ref 3, .ref 73, .int (nI i)]) (S' := [.int (xs (i + 1)), .ref 3]) (σ' := (97, I, J, R)) rfl (lo_ai (c := 2) (by decide) hi hL) ?_
  refine az_E.sn 4 (pc' := 1567) (L' := [.ref 0, .ref 3, .ref 73, .int (nI i)]) (S' := [.int (nI i + (3 : Int32)), .ref 0, .int (xs (i + 2)), .int (xs (i + 1)), .ref 3]) (σ' := (97, I, J, R)) rfl ?_
  refine az_E.oi (pc' := 1568) (L' := [.ref 0, .ref 3, .ref 73, .int (nI i)]) (S' := [.int (xs (i + 2)), .int (xs (i + 1)), .ref 3]) (σ' := (97, I, J, R)) rfl (lo_ai (c := 3) (by decide) hi hL) ?_
  refine az_E.sn 7 (pc' := 1576) (L' := [.ref 0, .ref 3, .ref 73, .int (nI i)]) (S' := [.int (nI i + (4 : Int32)), .ref 0, .long ((xs (i + 3)).toInt64 <<< ((32 : Int32).toInt64 &&& 63)), .int (xs (i + 2)), .int (xs (i + 1)), .ref 3]) (σ' := (97, I, J, R)) rfl ?_
  refine az_E.oi (pc' := 1577) (L' := [.ref 0, .ref 3, .ref 73, .int (nI i)]) (S' := [.long ((xs (i + 3)).toInt64 <<< ((32 : Int32).toInt64 &&& 63)), .int (xs (i + 2)), .int (xs (i + 1)), .ref 3]) (σ' := (97, I, J, R)) rfl (lo_ai (c := 4) (by decide) hi hL) ?_
  refine az_E.sn 4 (pc' := 1583) (L' := [.ref 0, .ref 3, .ref 73, .int (nI i)]) (S' := [.long (((xs (i + 3)).toInt64 <<< ((32 : Int32).toInt64 &&& 63)) ||| ((xs (i + 4)).toInt64 &&& (4294967295 : Int64))), .int (xs (i + 2)), .int (xs (i + 1)), .ref 3]) (σ' := (97, I, J, R)) rfl ?_
  refine az_E.call (d := 1299) (k' := 126) (vs := [.ref 3, .int (xs (i + 1)), .int (xs (i + 2)), .long (((xs (i + 3)).toInt64 <<< ((32 : Int32).toInt64 &&& 63)) ||| ((xs (i + 4)).toInt64 &&& (4294967295 : Int64)))]) (pc' := 1586) (S' := []) rfl ?_ (fun _ _ hq => hq)
  show az_E az_F (az_ex L xs) 1299 126 0 [.ref 3, .int (xs (i + 1)), .int (xs (i + 2)), .long (((xs (i + 3)).toInt64 <<< ((32 : Int32).toInt64 &&& 63)) ||| ((xs (i + 4)).toInt64 &&& (4294967295 : Int64))), .retAddr 0, .retAddr 0] [] (97, I, J, R) _
  exact az_E.deep (by decide) (re_X_put x (hY R h2 h3))
set_option maxRecDepth 100000 in
set_option maxHeartbeats 4000000 in
theorem lo_element {L i : Nat} {xs : Nat → Int32} {I : Nat → Nat → Int32} {J : Nat → Nat → Int64} {R : Nat → Nat → Option Nat} {rl rd : Nat} {Q : Option Value → az_S → Prop} (hi : i + 6 ≤ L) (hL : L ≤ 3072) (h : Rel I J rl rd) (h2 : R 3 2 = some rl) (h3 : R 3 3 = some rd) (k : lo_K L xs Q i) : az_E az_F (az_ex L xs) 1300 258 1625 [.ref 0, .ref 3, .ref 73, .int (nI i)] [] (97, I, J, R) Q := by
  obtain ⟨v, x, m⟩ := mt_element h (xs (i + 1)) (xs (i + 2))
  have hY : ∀ R' : Nat → Nat → Option Nat, R' 3 2 = some rl → R' 3 3 = some rd → az_E az_F (az_ex L xs) 1300 258 1639 [.ref 0, .ref 3, .ref 73, .int (nI i)] [.long v] (97, I, J, R') Q := by
    intro R' g2 g3
    refine az_E.sn 5 (pc' := 1644) (L' := [.ref 0, .ref 3, .ref 73, .int (nI i)]) (S' := [.int (nI i + (1 : Int32)), .ref 0, .ref 73, .long v]) (σ' := (97, I, J, R')) rfl ?_
    refine az_E.oi (pc' := 1645) (L' := [.ref 0, .ref 3, .ref 73, .int (nI i)]) (S' := [.ref 73, .long v]) (σ' := (97, I, J, R')) rfl (lo_ai (c := 1) (by decide) hi hL) ?_
    refine az_E.sn 4 (pc' := 1649) (L' := [.ref 0, .ref 3, .ref 73, .int (nI i)]) (S' := [.int (nI i + (2 : Int32)), .ref 0, .int (xs (i + 1)), .ref 73, .long v]) (σ' := (97, I, J, R')) rfl ?_
    refine az_E.oi (pc' := 1650) (L' := [.ref 0, .ref 3, .ref 73, .int (nI i)]) (S' := [.int (xs (i + 1)), .ref 73, .long v]) (σ' := (97, I, J, R')) rfl (lo_ai (c := 2) (by decide) hi hL) ?_
    refine az_E.call (d := 1299) (k' := 251) (vs := [.ref 73, .int (xs (i + 1)), .int (xs (i + 2))]) (pc' := 1653) (S' := [.long v]) rfl ?_ (fun _ _ hq => hq)
    show az_E az_F (az_ex L xs) 1299 251 0 [.ref 73, .int (xs (i + 1)), .int (xs (i + 2))] [] (97, I, J, R') _
    refine az_E.deep (by decide) (re_M_element m ?_)
    show az_E az_F (az_ex L xs) 1300 258 1653 [.ref 0, .ref 3, .ref 73, .int (nI i)] [.long v, .long v] (97, I, J, R') Q
    refine az_E.sn 1 (pc' := 1654) (L' := [.ref 0, .ref 3, .ref 73, .int (nI i)]) (S' := [.int (lg_cmp v v)]) (σ' := (97, I, J, R')) rfl ?_
    refine az_E.br (c := lg_cmp v v = 0) (tt := 1778) (ff := 1657) (L' := [.ref 0, .ref 3, .ref 73, .int (nI i)]) (S' := []) (σ' := (97, I, J, R')) rfl (fun _ => k _ _ _ _ _ h g2 g3) (fun hc => absurd (lo_cmp v) hc)
  refine az_E.sn 5 (pc' := 1630) (L' := [.ref 0, .ref 3, .ref 73, .int (nI i)]) (S' := [.int (nI i + (1 : Int32)), .ref 0, .ref 3]) (σ' := (97, I, J, R)) rfl ?_
  refine az_E.oi (pc' := 1631) (L' := [.ref 0, .ref 3, .ref 73, .int (nI i)]) (S' := [.ref 3]) (σ' := (97, I, J, R)) rfl (lo_ai (c := 1) (by decide) hi hL) ?_
  refine az_E.sn 4 (pc' := 1635) (L' := [.ref 0, .ref 3, .ref 73, .int (nI i)]) (S' := [.int (nI i + (2 : Int32)), .ref 0, .int (xs (i + 1)), .ref 3]) (σ' := (97, I, J, R)) rfl ?_
  refine az_E.oi (pc' := 1636) (L' := [.ref 0, .ref 3, .ref 73, .int (nI i)]) (S' := [.int (xs (i + 1)), .ref 3]) (σ' := (97, I, J, R)) rfl (lo_ai (c := 2) (by decide) hi hL) ?_
  refine az_E.call (d := 1299) (k' := 127) (vs := [.ref 3, .int (xs (i + 1)), .int (xs (i + 2))]) (pc' := 1639) (S' := []) rfl ?_ (fun _ _ hq => hq)
  show az_E az_F (az_ex L xs) 1299 127 0 [.ref 3, .int (xs (i + 1)), .int (xs (i + 2))] [] (97, I, J, R) _
  exact az_E.deep (by decide) (re_X_element x (hY R h2 h3))
set_option maxRecDepth 100000 in
set_option maxHeartbeats 4000000 in
theorem lo_shift {L i : Nat} {xs : Nat → Int32} {I : Nat → Nat → Int32} {J : Nat → Nat → Int64} {R : Nat → Nat → Option Nat} {rl rd : Nat} {Q : Option Value → az_S → Prop} (hi : i + 6 ≤ L) (hL : L ≤ 3072) (h : Rel I J rl rd) (h2 : R 3 2 = some rl) (h3 : R 3 3 = some rd) (k : lo_K L xs Q i) : az_E az_F (az_ex L xs) 1300 258 1659 [.ref 0, .ref 3, .ref 73, .int (nI i)] [] (97, I, J, R) Q := by
  obtain ⟨v, J1, J2, x, m, hr⟩ := mt_shift h (xs (i + 1)) (xs (i + 2)) (xs (i + 3)) (xs (i + 4)) (xs (i + 5))
  have hY : ∀ R' : Nat → Nat → Option Nat, R' 3 2 = some rl → R' 3 3 = some rd → az_E az_F (az_ex L xs) 1300 258 1688 [.ref 0, .ref 3, .ref 73, .int (nI i)] [.int v] (97, I, J1, R') Q := by
    intro R' g2 g3
    refine az_E.sn 5 (pc' := 1693) (L' := [.ref 0, .ref 3, .ref 73, .int (nI i)]) (S' := [.int (nI i + (1 : Int32)), .ref 0, .ref 73, .int v]) (σ' := (97, I, J1, R')) rfl ?_
    refine az_E.oi (pc' := 1694) (L' := [.ref 0, .ref 3, .ref 73, .int (nI i)]) (S' := [.ref 73, .int v]) (σ' := (97, I, J1, R')) rfl (lo_ai (c := 1) (by decide) hi hL) ?_
    refine az_E.sn 4 (pc' := 1698) (L' := [.ref 0, .ref 3, .ref 73, .int (nI i)]) (S' := [.int (nI i + (2 : Int32)), .ref 0, .int (xs (i + 1)), .ref 73, .int v]) (σ' := (97, I, J1, R')) rfl ?_
    refine az_E.oi (pc' := 1699) (L' := [.ref 0, .ref 3, .ref 73, .int (nI i)]) (S' := [.int (xs (i + 1)), .ref 73, .int v]) (σ' := (97, I, J1, R')) rfl (lo_ai (c := 2) (by decide) hi hL) ?_
    refine az_E.sn 4 (pc' := 1703) (L' := [.ref 0, .ref 3, .ref 73, .int (nI i)]) (S' := [.int (nI i + (3 : Int32)), .ref 0, .int (xs (i + 2)), .int (xs (i + 1)), .ref 73, .int v]) (σ' := (97, I, J1, R')) rfl ?_
    refine az_E.oi (pc' := 1704) (L' := [.ref 0, .ref 3, .ref 73, .int (nI i)]) (S' := [.int (xs (i + 2)), .int (xs (i + 1)), .ref 73, .int v]) (σ' := (97, I, J1, R')) rfl (lo_ai (c := 3) (by decide) hi hL) ?_
    refine az_E.sn 4 (pc' := 1708) (L' := [.ref 0, .ref 3, .ref 73, .int (nI i)]) (S' := [.int (nI i + (4 : Int32)), .ref 0, .int (xs (i + 3)), .int (xs (i + 2)), .int (xs (i + 1)), .ref 73, .int v]) (σ' := (97, I, J1, R')) rfl ?_
    refine az_E.oi (pc' := 1709) (L' := [.ref 0, .ref 3, .ref 73, .int (nI i)]) (S' := [.int (xs (i + 3)), .int (xs (i + 2)), .int (xs (i + 1)), .ref 73, .int v]) (σ' := (97, I, J1, R')) rfl (lo_ai (c := 4) (by decide) hi hL) ?_
    refine az_E.sn 4 (pc' := 1713) (L' := [.ref 0, .ref 3, .ref 73, .int (nI i)]) (S' := [.int (nI i + (5 : Int32)), .ref 0, .int (xs (i + 4)), .int (xs (i + 3)), .int (xs (i + 2)), .int (xs (i + 1)), .ref 73, .int v]) (σ' := (97, I, J1, R')) rfl ?_
    refine az_E.oi (pc' := 1714) (L' := [.ref 0, .ref 3, .ref 73, .int (nI i)]) (S' := [.int (xs (i + 4)), .int (xs (i + 3)), .int (xs (i + 2)), .int (xs (i + 1)), .ref 73, .int v]) (σ' := (97, I, J1, R')) rfl (lo_ai (c := 5) (by decide) hi hL) ?_
    refine az_E.call (d := 1299) (k' := 252) (vs := [.ref 73, .int (xs (i + 1)), .int (xs (i + 2)), .int (xs (i + 3)), .int (xs (i + 4)), .int (xs (i + 5))]) (pc' := 1717) (S' := [.int v]) rfl ?_ (fun _ _ hq => hq)
    show az_E az_F (az_ex L xs) 1299 252 0 [.ref 73, .int (xs (i + 1)), .int (xs (i + 2)), .int (xs (i + 3)), .int (xs (i + 4)), .int (xs (i + 5)), .retAddr 0] [] (97, I, J1, R') _
    refine az_E.deep (by decide) (re_M_shift m ?_)
    show az_E az_F (az_ex L xs) 1300 258 1717 [.ref 0, .ref 3, .ref 73, .int (nI i)] [.int v, .int v] (97, I, J2, R') Q
    refine az_E.br (c := v = v) (tt := 1778) (ff := 1720) (L' := [.ref 0, .ref 3, .ref 73, .int (nI i)]) (S' := []) (σ' := (97, I, J2, R')) rfl (fun _ => k _ _ _ _ _ hr g2 g3) (fun hc => absurd rfl hc)
  refine az_E.sn 5 (pc' := 1664) (L' := [.ref 0, .ref 3, .ref 73, .int (nI i)]) (S' := [.int (nI i + (1 : Int32)), .ref 0, .ref 3]) (σ' := (97, I, J, R)) rfl ?_
  refine az_E.oi (pc' := 1665) (L' := [.ref 0, .ref 3, .ref 73, .int (nI i)]) (S' := [.ref 3]) (σ' := (97, I, J, R)) rfl (lo_ai (c := 1) (by decide) hi hL) ?_
  refine az_E.sn 4 (pc' := 1669) (L' := [.ref 0, .ref 3, .ref 73, .int (nI i)]) (S' := [.int (nI i + (2 : Int32)), .ref 0, .int (xs (i + 1)), .ref 3]) (σ' := (97, I, J, R)) rfl ?_
  refine az_E.oi (pc' := 1670) (L' := [.ref 0, .ref 3, .ref 73, .int (nI i)]) (S' := [.int (xs (i + 1)), .ref 3]) (σ' := (97, I, J, R)) rfl (lo_ai (c := 2) (by decide) hi hL) ?_
  refine az_E.sn 4 (pc' := 1674) (L' := [.ref 0, .ref 3, .ref 73, .int (nI i)]) (S' := [.int (nI i + (3 : Int32)), .ref 0, .int (xs (i + 2)), .int (xs (i + 1)), .ref 3]) (σ' := (97, I, J, R)) rfl ?_
  refine az_E.oi (pc' := 1675) (L' := [.ref 0, .ref 3, .ref 73, .int (nI i)]) (S' := [.int (xs (i + 2)), .int (xs (i + 1)), .ref 3]) (σ' := (97, I, J, R)) rfl (lo_ai (c := 3) (by decide) hi hL) ?_
  refine az_E.sn 4 (pc' := 1679) (L' := [.ref 0, .ref 3, .ref 73, .int (nI i)]) (S' := [.int (nI i + (4 : Int32)), .ref 0, .int (xs (i + 3)), .int (xs (i + 2)), .int (xs (i + 1)), .ref 3]) (σ' := (97, I, J, R)) rfl ?_
  refine az_E.oi (pc' := 1680) (L' := [.ref 0, .ref 3, .ref 73, .int (nI i)]) (S' := [.int (xs (i + 3)), .int (xs (i + 2)), .int (xs (i + 1)), .ref 3]) (σ' := (97, I, J, R)) rfl (lo_ai (c := 4) (by decide) hi hL) ?_
  refine az_E.sn 4 (pc' := 1684) (L' := [.ref 0, .ref 3, .ref 73, .int (nI i)]) (S' := [.int (nI i + (5 : Int32)), .ref 0, .int (xs (i + 4)), .int (xs (i + 3)), .int (xs (i + 2)), .int (xs (i + 1)), .ref 3]) (σ' := (97, I, J, R)) rfl ?_
  refine az_E.oi (pc' := 1685) (L' := [.ref 0, .ref 3, .ref 73, .int (nI i)]) (S' := [.int (xs (i + 4)), .int (xs (i + 3)), .int (xs (i + 2)), .int (xs (i + 1)), .ref 3]) (σ' := (97, I, J, R)) rfl (lo_ai (c := 5) (by decide) hi hL) ?_
  refine az_E.call (d := 1299) (k' := 128) (vs := [.ref 3, .int (xs (i + 1)), .int (xs (i + 2)), .int (xs (i + 3)), .int (xs (i + 4)), .int (xs (i + 5))]) (pc' := 1688) (S' := []) rfl ?_ (fun _ _ hq => hq)
  show az_E az_F (az_ex L xs) 1299 128 0 [.ref 3, .int (xs (i + 1)), .int (xs (i + 2)), .int (xs (i + 3)), .int (xs (i + 4)), .int (xs (i + 5)), .retAddr 0, .retAddr 0] [] (97, I, J, R) _
  exact az_E.deep (by decide) (re_X_shift x (hY R h2 h3))
set_option maxRecDepth 100000 in
set_option maxHeartbeats 4000000 in
theorem lo_taken {L i : Nat} {xs : Nat → Int32} {I : Nat → Nat → Int32} {J : Nat → Nat → Int64} {R : Nat → Nat → Option Nat} {rl rd : Nat} {Q : Option Value → az_S → Prop} (hi : i + 6 ≤ L) (hL : L ≤ 3072) (h : Rel I J rl rd) (h2 : R 3 2 = some rl) (h3 : R 3 3 = some rd) (k : lo_K L xs Q i) : az_E az_F (az_ex L xs) 1300 258 1722 [.ref 0, .ref 3, .ref 73, .int (nI i)] [] (97, I, J, R) Q := by
  obtain ⟨v, x, m⟩ := mt_taken h L xs (xs (i + 1)) (xs (i + 2))
  have hY : ∀ R' : Nat → Nat → Option Nat, R' 3 2 = some rl → R' 3 3 = some rd → az_E az_F (az_ex L xs) 1300 258 1736 [.ref 0, .ref 3, .ref 73, .int (nI i)] [.int v] (97, I, J, R') Q := by
    intro R' g2 g3
    refine az_E.sn 5 (pc' := 1741) (L' := [.ref 0, .ref 3, .ref 73, .int (nI i)]) (S' := [.int (nI i + (1 : Int32)), .ref 0, .ref 73, .int v]) (σ' := (97, I, J, R')) rfl ?_
    refine az_E.oi (pc' := 1742) (L' := [.ref 0, .ref 3, .ref 73, .int (nI i)]) (S' := [.ref 73, .int v]) (σ' := (97, I, J, R')) rfl (lo_ai (c := 1) (by decide) hi hL) ?_
    refine az_E.sn 4 (pc' := 1746) (L' := [.ref 0, .ref 3, .ref 73, .int (nI i)]) (S' := [.int (nI i + (2 : Int32)), .ref 0, .int (xs (i + 1)), .ref 73, .int v]) (σ' := (97, I, J, R')) rfl ?_
    refine az_E.oi (pc' := 1747) (L' := [.ref 0, .ref 3, .ref 73, .int (nI i)]) (S' := [.int (xs (i + 1)), .ref 73, .int v]) (σ' := (97, I, J, R')) rfl (lo_ai (c := 2) (by decide) hi hL) ?_
    refine az_E.call (d := 1299) (k' := 253) (vs := [.ref 73, .int (xs (i + 1)), .int (xs (i + 2))]) (pc' := 1750) (S' := [.int v]) rfl ?_ (fun _ _ hq => hq)
    show az_E az_F (az_ex L xs) 1299 253 0 [.ref 73, .int (xs (i + 1)), .int (xs (i + 2)), .retAddr 0] [] (97, I, J, R') _
    refine az_E.deep (by decide) (re_M_taken m ?_)
    show az_E az_F (az_ex L xs) 1300 258 1750 [.ref 0, .ref 3, .ref 73, .int (nI i)] [.int v, .int v] (97, I, J, R') Q
    refine az_E.br (c := v = v) (tt := 1778) (ff := 1753) (L' := [.ref 0, .ref 3, .ref 73, .int (nI i)]) (S' := []) (σ' := (97, I, J, R')) rfl (fun _ => k _ _ _ _ _ h g2 g3) (fun hc => absurd rfl hc)
  refine az_E.sn 5 (pc' := 1727) (L' := [.ref 0, .ref 3, .ref 73, .int (nI i)]) (S' := [.int (nI i + (1 : Int32)), .ref 0, .ref 3]) (σ' := (97, I, J, R)) rfl ?_
  refine az_E.oi (pc' := 1728) (L' := [.ref 0, .ref 3, .ref 73, .int (nI i)]) (S' := [.ref 3]) (σ' := (97, I, J, R)) rfl (lo_ai (c := 1) (by decide) hi hL) ?_
  refine az_E.sn 4 (pc' := 1732) (L' := [.ref 0, .ref 3, .ref 73, .int (nI i)]) (S' := [.int (nI i + (2 : Int32)), .ref 0, .int (xs (i + 1)), .ref 3]) (σ' := (97, I, J, R)) rfl ?_
  refine az_E.oi (pc' := 1733) (L' := [.ref 0, .ref 3, .ref 73, .int (nI i)]) (S' := [.int (xs (i + 1)), .ref 3]) (σ' := (97, I, J, R)) rfl (lo_ai (c := 2) (by decide) hi hL) ?_
  refine az_E.call (d := 1299) (k' := 129) (vs := [.ref 3, .int (xs (i + 1)), .int (xs (i + 2))]) (pc' := 1736) (S' := []) rfl ?_ (fun _ _ hq => hq)
  show az_E az_F (az_ex L xs) 1299 129 0 [.ref 3, .int (xs (i + 1)), .int (xs (i + 2)), .retAddr 0] [] (97, I, J, R) _
  exact az_E.deep (by decide) (re_X_taken x (hY R h2 h3))
set_option maxRecDepth 100000 in
set_option maxHeartbeats 4000000 in
theorem lo_count {L i : Nat} {xs : Nat → Int32} {I : Nat → Nat → Int32} {J : Nat → Nat → Int64} {R : Nat → Nat → Option Nat} {rl rd : Nat} {Q : Option Value → az_S → Prop} (hi : i + 6 ≤ L) (hL : L ≤ 3072) (h : Rel I J rl rd) (h2 : R 3 2 = some rl) (h3 : R 3 3 = some rd) (k : lo_K L xs Q i) : az_E az_F (az_ex L xs) 1300 258 1755 [.ref 0, .ref 3, .ref 73, .int (nI i)] [] (97, I, J, R) Q := by
  obtain ⟨v, x, m⟩ := mt_count h (xs (i + 1))
  have hY : ∀ R' : Nat → Nat → Option Nat, R' 3 2 = some rl → R' 3 3 = some rd → az_E az_F (az_ex L xs) 1300 258 1764 [.ref 0, .ref 3, .ref 73, .int (nI i)] [.int v] (97, I, J, R') Q := by
    intro R' g2 g3
    refine az_E.sn 5 (pc' := 1769) (L' := [.ref 0, .ref 3, .ref 73, .int (nI i)]) (S' := [.int (nI i + (1 : Int32)), .ref 0, .ref 73, .int v]) (σ' := (97, I, J, R')) rfl ?_
    refine az_E.oi (pc' := 1770) (L' := [.ref 0, .ref 3, .ref 73, .int (nI i)]) (S' := [.ref 73, .int v]) (σ' := (97, I, J, R')) rfl (lo_ai (c := 1) (by decide) hi hL) ?_
    refine az_E.call (d := 1299) (k' := 254) (vs := [.ref 73, .int (xs (i + 1))]) (pc' := 1773) (S' := [.int v]) rfl ?_ (fun _ _ hq => hq)
    show az_E az_F (az_ex L xs) 1299 254 0 [.ref 73, .int (xs (i + 1))] [] (97, I, J, R') _
    refine az_E.deep (by decide) (re_M_count m ?_)
    show az_E az_F (az_ex L xs) 1300 258 1773 [.ref 0, .ref 3, .ref 73, .int (nI i)] [.int v, .int v] (97, I, J, R') Q
    refine az_E.br (c := v = v) (tt := 1778) (ff := 1776) (L' := [.ref 0, .ref 3, .ref 73, .int (nI i)]) (S' := []) (σ' := (97, I, J, R')) rfl (fun _ => k _ _ _ _ _ h g2 g3) (fun hc => absurd rfl hc)
  refine az_E.sn 5 (pc' := 1760) (L' := [.ref 0, .ref 3, .ref 73, .int (nI i)]) (S' := [.int (nI i + (1 : Int32)), .ref 0, .ref 3]) (σ' := (97, I, J, R)) rfl ?_
  refine az_E.oi (pc' := 1761) (L' := [.ref 0, .ref 3, .ref 73, .int (nI i)]) (S' := [.ref 3]) (σ' := (97, I, J, R)) rfl (lo_ai (c := 1) (by decide) hi hL) ?_
  refine az_E.call (d := 1299) (k' := 130) (vs := [.ref 3, .int (xs (i + 1))]) (pc' := 1764) (S' := []) rfl ?_ (fun _ _ hq => hq)
  show az_E az_F (az_ex L xs) 1299 130 0 [.ref 3, .int (xs (i + 1))] [] (97, I, J, R) _
  exact az_E.deep (by decide) (re_X_count x (hY R h2 h3))
theorem lo_and (x : Int32) : ∃ j : Nat, j < 64 ∧ x &&& 63 = nI j := by
  refine ⟨(x.toBitVec &&& 63#32).toNat, ?_, ?_⟩
  · rw [BitVec.toNat_and]
    exact Nat.lt_of_le_of_lt Nat.and_le_right (by decide)
  · apply Int32.toBitVec_inj.mp
    show x.toBitVec &&& 63#32 = BitVec.ofNat 32 _
    exact BitVec.eq_of_toNat_eq (by rw [BitVec.toNat_ofNat, Nat.mod_eq_of_lt (BitVec.isLt _)])
set_option maxRecDepth 100000 in
set_option maxHeartbeats 4000000 in
theorem lo_call {L i : Nat} {xs : Nat → Int32} {I : Nat → Nat → Int32} {J : Nat → Nat → Int64} {R : Nat → Nat → Option Nat} {rl rd : Nat} {Q : Option Value → az_S → Prop} (hi : i + 6 ≤ L) (hL : L ≤ 3072) (h : Rel I J rl rd) (h2 : R 3 2 = some rl) (h3 : R 3 3 = some rd) (k : lo_K L xs Q i) : az_E az_F (az_ex L xs) 1300 258 33 [.ref 0, .ref 3, .ref 73, .int (nI i)] [.int (xs i &&& 63)] (97, I, J, R) Q := by
  obtain ⟨j, hj, e⟩ := lo_and (xs i)
  match j, hj, e with
  | 0, _, e => exact az_E.sw (q := (0 : Int32)) e (pc' := 236) (L' := [.ref 0, .ref 3, .ref 73, .int (nI i)]) (S' := []) (σ' := (97, I, J, R)) rfl (lo_post hi hL h h2 h3 k)
  | 1, _, e => exact az_E.sw (q := (1 : Int32)) e (pc' := 259) (L' := [.ref 0, .ref 3, .ref 73, .int (nI i)]) (S' := []) (σ' := (97, I, J, R)) rfl (lo_walker hi hL h h2 h3 k)
  | 2, _, e => exact az_E.sw (q := (2 : Int32)) e (pc' := 282) (L' := [.ref 0, .ref 3, .ref 73, .int (nI i)]) (S' := []) (σ' := (97, I, J, R)) rfl (lo_walkers hi hL h h2 h3 k)
  | 3, _, e => exact az_E.sw (q := (3 : Int32)) e (pc' := 325) (L' := [.ref 0, .ref 3, .ref 73, .int (nI i)]) (S' := []) (σ' := (97, I, J, R)) rfl (lo_mend hi hL h h2 h3 k)
  | 4, _, e => exact az_E.sw (q := (4 : Int32)) e (pc' := 368) (L' := [.ref 0, .ref 3, .ref 73, .int (nI i)]) (S' := []) (σ' := (97, I, J, R)) rfl (lo_of hi hL h h2 h3 k)
  | 5, _, e => exact az_E.sw (q := (5 : Int32)) e (pc' := 401) (L' := [.ref 0, .ref 3, .ref 73, .int (nI i)]) (S' := []) (σ' := (97, I, J, R)) rfl (lo_feed hi hL h h2 h3 k)
  | 6, _, e => exact az_E.sw (q := (6 : Int32)) e (pc' := 424) (L' := [.ref 0, .ref 3, .ref 73, .int (nI i)]) (S' := []) (σ' := (97, I, J, R)) rfl (lo_law hi hL h h2 h3 k)
  | 7, _, e => exact az_E.sw (q := (7 : Int32)) e (pc' := 437) (L' := [.ref 0, .ref 3, .ref 73, .int (nI i)]) (S' := []) (σ' := (97, I, J, R)) rfl (lo_step hi hL h h2 h3 k)
  | 8, _, e => exact az_E.sw (q := (8 : Int32)) e (pc' := 470) (L' := [.ref 0, .ref 3, .ref 73, .int (nI i)]) (S' := []) (σ' := (97, I, J, R)) rfl (lo_arm hi hL h h2 h3 k)
  | 9, _, e => exact az_E.sw (q := (9 : Int32)) e (pc' := 493) (L' := [.ref 0, .ref 3, .ref 73, .int (nI i)]) (S' := []) (σ' := (97, I, J, R)) rfl (lo_way hi hL h h2 h3 k)
  | 10, _, e => exact az_E.sw (q := (10 : Int32)) e (pc' := 536) (L' := [.ref 0, .ref 3, .ref 73, .int (nI i)]) (S' := []) (σ' := (97, I, J, R)) rfl (lo_reach hi hL h h2 h3 k)
  | 11, _, e => exact az_E.sw (q := (11 : Int32)) e (pc' := 589) (L' := [.ref 0, .ref 3, .ref 73, .int (nI i)]) (S' := []) (σ' := (97, I, J, R)) rfl (lo_together hi hL h h2 h3 k)
  | 12, _, e => exact az_E.sw (q := (12 : Int32)) e (pc' := 622) (L' := [.ref 0, .ref 3, .ref 73, .int (nI i)]) (S' := []) (σ' := (97, I, J, R)) rfl (lo_withWhom hi hL h h2 h3 k)
  | 13, _, e => exact az_E.sw (q := (13 : Int32)) e (pc' := 655) (L' := [.ref 0, .ref 3, .ref 73, .int (nI i)]) (S' := []) (σ' := (97, I, J, R)) rfl (lo_meet hi hL h h2 h3 k)
  | 14, _, e => exact az_E.sw (q := (14 : Int32)) e (pc' := 698) (L' := [.ref 0, .ref 3, .ref 73, .int (nI i)]) (S' := []) (σ' := (97, I, J, R)) rfl (lo_carry hi hL h h2 h3 k)
  | 15, _, e => exact az_E.sw (q := (15 : Int32)) e (pc' := 741) (L' := [.ref 0, .ref 3, .ref 73, .int (nI i)]) (S' := []) (σ' := (97, I, J, R)) rfl (lo_light hi hL h h2 h3 k)
  | 16, _, e => exact az_E.sw (q := (16 : Int32)) e (pc' := 784) (L' := [.ref 0, .ref 3, .ref 73, .int (nI i)]) (S' := []) (σ' := (97, I, J, R)) rfl (lo_backFrom hi hL h h2 h3 k)
  | 17, _, e => exact az_E.sw (q := (17 : Int32)) e (pc' := 827) (L' := [.ref 0, .ref 3, .ref 73, .int (nI i)]) (S' := []) (σ' := (97, I, J, R)) rfl (lo_round hi hL h h2 h3 k)
  | 18, _, e => exact az_E.sw (q := (18 : Int32)) e (pc' := 870) (L' := [.ref 0, .ref 3, .ref 73, .int (nI i)]) (S' := []) (σ' := (97, I, J, R)) rfl (lo_hearts hi hL h h2 h3 k)
  | 19, _, e => exact az_E.sw (q := (19 : Int32)) e (pc' := 913) (L' := [.ref 0, .ref 3, .ref 73, .int (nI i)]) (S' := []) (σ' := (97, I, J, R)) rfl (lo_pairs hi hL h h2 h3 k)
  | 20, _, e => exact az_E.sw (q := (20 : Int32)) e (pc' := 946) (L' := [.ref 0, .ref 3, .ref 73, .int (nI i)]) (S' := []) (σ' := (97, I, J, R)) rfl (lo_next hi hL h h2 h3 k)
  | 21, _, e => exact az_E.sw (q := (21 : Int32)) e (pc' := 979) (L' := [.ref 0, .ref 3, .ref 73, .int (nI i)]) (S' := []) (σ' := (97, I, J, R)) rfl (lo_weathers hi hL h h2 h3 k)
  | 22, _, e => exact az_E.sw (q := (22 : Int32)) e (pc' := 1012) (L' := [.ref 0, .ref 3, .ref 73, .int (nI i)]) (S' := []) (σ' := (97, I, J, R)) rfl (lo_judge hi hL h h2 h3 k)
  | 23, _, e => exact az_E.sw (q := (23 : Int32)) e (pc' := 1045) (L' := [.ref 0, .ref 3, .ref 73, .int (nI i)]) (S' := []) (σ' := (97, I, J, R)) rfl (lo_byHeart hi hL h h2 h3 k)
  | 24, _, e => exact az_E.sw (q := (24 : Int32)) e (pc' := 1088) (L' := [.ref 0, .ref 3, .ref 73, .int (nI i)]) (S' := []) (σ' := (97, I, J, R)) rfl (lo_whose hi hL h h2 h3 k)
  | 25, _, e => exact az_E.sw (q := (25 : Int32)) e (pc' := 1111) (L' := [.ref 0, .ref 3, .ref 73, .int (nI i)]) (S' := []) (σ' := (97, I, J, R)) rfl (lo_stumps hi hL h h2 h3 k)
  | 26, _, e => exact az_E.sw (q := (26 : Int32)) e (pc' := 1124) (L' := [.ref 0, .ref 3, .ref 73, .int (nI i)]) (S' := []) (σ' := (97, I, J, R)) rfl (lo_longest hi hL h h2 h3 k)
  | 27, _, e => exact az_E.sw (q := (27 : Int32)) e (pc' := 1157) (L' := [.ref 0, .ref 3, .ref 73, .int (nI i)]) (S' := []) (σ' := (97, I, J, R)) rfl (lo_drawn hi hL h h2 h3 k)
  | 28, _, e => exact az_E.sw (q := (28 : Int32)) e (pc' := 1200) (L' := [.ref 0, .ref 3, .ref 73, .int (nI i)]) (S' := []) (σ' := (97, I, J, R)) rfl (lo_goes hi hL h h2 h3 k)
  | 29, _, e => exact az_E.sw (q := (29 : Int32)) e (pc' := 1233) (L' := [.ref 0, .ref 3, .ref 73, .int (nI i)]) (S' := []) (σ' := (97, I, J, R)) rfl (lo_putDown hi hL h h2 h3 k)
  | 30, _, e => exact az_E.sw (q := (30 : Int32)) e (pc' := 1256) (L' := [.ref 0, .ref 3, .ref 73, .int (nI i)]) (S' := []) (σ' := (97, I, J, R)) rfl (lo_takes hi hL h h2 h3 k)
  | 31, _, e => exact az_E.sw (q := (31 : Int32)) e (pc' := 1289) (L' := [.ref 0, .ref 3, .ref 73, .int (nI i)]) (S' := []) (σ' := (97, I, J, R)) rfl (lo_cheer hi hL h h2 h3 k)
  | 32, _, e => exact az_E.sw (q := (32 : Int32)) e (pc' := 1312) (L' := [.ref 0, .ref 3, .ref 73, .int (nI i)]) (S' := []) (σ' := (97, I, J, R)) rfl (lo_led hi hL h h2 h3 k)
  | 33, _, e => exact az_E.sw (q := (33 : Int32)) e (pc' := 1335) (L' := [.ref 0, .ref 3, .ref 73, .int (nI i)]) (S' := []) (σ' := (97, I, J, R)) rfl (lo_image hi hL h h2 h3 k)
  | 34, _, e => exact az_E.sw (q := (34 : Int32)) e (pc' := 1348) (L' := [.ref 0, .ref 3, .ref 73, .int (nI i)]) (S' := []) (σ' := (97, I, J, R)) rfl (lo_back hi hL h h2 h3 k)
  | 35, _, e => exact az_E.sw (q := (35 : Int32)) e (pc' := 1361) (L' := [.ref 0, .ref 3, .ref 73, .int (nI i)]) (S' := []) (σ' := (97, I, J, R)) rfl (lo_undo hi hL h h2 h3 k)
  | 36, _, e => exact az_E.sw (q := (36 : Int32)) e (pc' := 1374) (L' := [.ref 0, .ref 3, .ref 73, .int (nI i)]) (S' := []) (σ' := (97, I, J, R)) rfl (lo_redo hi hL h h2 h3 k)
  | 37, _, e => exact az_E.sw (q := (37 : Int32)) e (pc' := 1387) (L' := [.ref 0, .ref 3, .ref 73, .int (nI i)]) (S' := []) (σ' := (97, I, J, R)) rfl (lo_body hi hL h h2 h3 k)
  | 38, _, e => exact az_E.sw (q := (38 : Int32)) e (pc' := 1410) (L' := [.ref 0, .ref 3, .ref 73, .int (nI i)]) (S' := []) (σ' := (97, I, J, R)) rfl (lo_act hi hL h h2 h3 k)
  | 39, _, e => exact az_E.sw (q := (39 : Int32)) e (pc' := 1453) (L' := [.ref 0, .ref 3, .ref 73, .int (nI i)]) (S' := []) (σ' := (97, I, J, R)) rfl (lo_trace hi hL h h2 h3 k)
  | 40, _, e => exact az_E.sw (q := (40 : Int32)) e (pc' := 1476) (L' := [.ref 0, .ref 3, .ref 73, .int (nI i)]) (S' := []) (σ' := (97, I, J, R)) rfl (lo_keep hi hL h h2 h3 k)
  | 41, _, e => exact az_E.sw (q := (41 : Int32)) e (pc' := 1509) (L' := [.ref 0, .ref 3, .ref 73, .int (nI i)]) (S' := []) (σ' := (97, I, J, R)) rfl (lo_row hi hL h h2 h3 k)
  | 42, _, e => exact az_E.sw (q := (42 : Int32)) e (pc' := 1552) (L' := [.ref 0, .ref 3, .ref 73, .int (nI i)]) (S' := []) (σ' := (97, I, J, R)) rfl (lo_put hi hL h h2 h3 k)
  | 43, _, e => exact az_E.sw (q := (43 : Int32)) e (pc' := 1625) (L' := [.ref 0, .ref 3, .ref 73, .int (nI i)]) (S' := []) (σ' := (97, I, J, R)) rfl (lo_element hi hL h h2 h3 k)
  | 44, _, e => exact az_E.sw (q := (44 : Int32)) e (pc' := 1659) (L' := [.ref 0, .ref 3, .ref 73, .int (nI i)]) (S' := []) (σ' := (97, I, J, R)) rfl (lo_shift hi hL h h2 h3 k)
  | 45, _, e => exact az_E.sw (q := (45 : Int32)) e (pc' := 1722) (L' := [.ref 0, .ref 3, .ref 73, .int (nI i)]) (S' := []) (σ' := (97, I, J, R)) rfl (lo_taken hi hL h h2 h3 k)
  | 46, _, e => exact az_E.sw (q := (46 : Int32)) e (pc' := 1755) (L' := [.ref 0, .ref 3, .ref 73, .int (nI i)]) (S' := []) (σ' := (97, I, J, R)) rfl (lo_count hi hL h h2 h3 k)
  | n + 47, hj, e =>
    refine az_E.swd (a := 1778) (lo := 0) (hi := 46) (offs := #[203, 226, 249, 292, 335, 368, 391, 404, 437, 460, 503, 556, 589, 622, 665, 708, 751, 794, 837, 880, 913, 946, 979, 1012, 1055, 1078, 1091, 1124, 1167, 1200, 1223, 1256, 1279, 1302, 1315, 1328, 1341, 1354, 1377, 1420, 1443, 1476, 1519, 1592, 1626, 1689, 1722]) rfl (Or.inr ?_) (k _ _ _ _ _ h h2 h3)
    rw [e, nI_toInt (by omega)]
    omega
set_option maxRecDepth 100000 in
set_option maxHeartbeats 4000000 in
theorem lo_loop {L : Nat} {xs : Nat → Int32} (hL : L ≤ 3072) : ∀ (n i : Nat) (I : Nat → Nat → Int32) (J : Nat → Nat → Int64) (R : Nat → Nat → Option Nat) (rl rd : Nat), L ≤ i + n → i ≤ 4000 → Rel I J rl rd → R 3 2 = some rl → R 3 3 = some rd → az_E az_F (az_ex L xs) 1300 258 18 [.ref 0, .ref 3, .ref 73, .int (nI i)] [] (97, I, J, R) (fun v σ => v = some (.int 1) ∧ σ.1 = 97) := by
  intro n
  induction n with
  | zero =>
    intro i I J R rl rd hn hi4 h h2 h3
    refine az_E.sn 5 (pc' := 24) (L' := [.ref 0, .ref 3, .ref 73, .int (nI i)]) (S' := [.int (nI L - (6 : Int32)), .int (nI i)]) (σ' := (97, I, J, R)) rfl ?_
    refine az_E.br (c := nI L - (6 : Int32) < nI i) (tt := 1784) (ff := 27) (L' := [.ref 0, .ref 3, .ref 73, .int (nI i)]) (S' := []) (σ' := (97, I, J, R)) rfl (fun hc => ?_) (fun hc => absurd ((lo_cond (by omega) (by omega)).mpr (by omega)) hc)
    refine az_E.sn 1 (pc' := 1785) (L' := [.ref 0, .ref 3, .ref 73, .int (nI i)]) (S' := [.int (1 : Int32)]) (σ' := (97, I, J, R)) rfl ?_
    exact az_E.ret (v := some (.int (1 : Int32))) (σ' := (97, I, J, R)) rfl ⟨rfl, rfl⟩
  | succ n ih =>
    intro i I J R rl rd hn hi4 h h2 h3
    refine az_E.sn 5 (pc' := 24) (L' := [.ref 0, .ref 3, .ref 73, .int (nI i)]) (S' := [.int (nI L - (6 : Int32)), .int (nI i)]) (σ' := (97, I, J, R)) rfl ?_
    refine az_E.br (c := nI L - (6 : Int32) < nI i) (tt := 1784) (ff := 27) (L' := [.ref 0, .ref 3, .ref 73, .int (nI i)]) (S' := []) (σ' := (97, I, J, R)) rfl (fun hc => ?_) (fun hc => ?_)
    · refine az_E.sn 1 (pc' := 1785) (L' := [.ref 0, .ref 3, .ref 73, .int (nI i)]) (S' := [.int (1 : Int32)]) (σ' := (97, I, J, R)) rfl ?_
      exact az_E.ret (v := some (.int (1 : Int32))) (σ' := (97, I, J, R)) rfl ⟨rfl, rfl⟩
    · rw [lo_cond (by omega) (by omega)] at hc
      refine az_E.sn 2 (pc' := 29) (L' := [.ref 0, .ref 3, .ref 73, .int (nI i)]) (S' := [.int (nI i), .ref 0]) (σ' := (97, I, J, R)) rfl ?_
      refine az_E.oi (x := xs i) (pc' := 30) (L' := [.ref 0, .ref 3, .ref 73, .int (nI i)]) (S' := []) (σ' := (97, I, J, R)) rfl (lo_ai0 (by omega) hL) ?_
      refine az_E.sn 2 (pc' := 33) (L' := [.ref 0, .ref 3, .ref 73, .int (nI i)]) (S' := [.int (xs i &&& (63 : Int32))]) (σ' := (97, I, J, R)) rfl ?_
      refine lo_call (by omega) hL h h2 h3 ?_
      intro I' J' R' rl' rd' h' h2' h3'
      refine az_E.sn 2 (pc' := 18) (L' := [.ref 0, .ref 3, .ref 73, .int (nI i + (6 : Int32))]) (S' := []) (σ' := (97, I', J', R')) rfl ?_
      rw [show nI i + (6 : Int32) = nI (i + 6) from nI_add i 6]
      exact ih (i + 6) I' J' R' rl' rd' (by omega) (by omega) h' h2' h3'

/-! ===== a house is copied ===== -/
def copyR (H2 H' : hR) : Prop := (∀ a : Int, 4 ≤ a ∧ a ≤ 10 → H'.1 0 a 0 = H2.1 0 a 0) ∧ (H'.1 1 1 0 = H2.1 1 1 0 ∧ H'.1 1 2 0 = H2.1 1 2 0) ∧ (∀ a : Int, 0 ≤ a ∧ a < 18 → H'.1 6 a 0 = H2.1 6 a 0) ∧ (∀ a : Int, 0 ≤ a ∧ a < H2.1 0 4 0 → (∀ f : Int, 0 ≤ f ∧ f ≤ 11 → H'.1 2 a f = H2.1 2 a f) ∧ H'.2 a = H2.2 a) ∧ (∀ o : Int, 0 ≤ o ∧ o < H2.1 0 5 0 → ∀ f : Int, 0 ≤ f ∧ f ≤ 16 → H'.1 3 o f = H2.1 3 o f) ∧ H'.1 4 2 0 = H2.1 4 2 0 ∧ (∀ c i : Int, 0 ≤ c ∧ c < 5 → 0 ≤ i ∧ i < H2.1 4 2 0 → H'.1 5 c i = H2.1 5 c i) ∧ H2.1 4 2 0 ≤ H'.1 4 1 0 ∧ roomOK (H'.1 4 1 0)
theorem ec_copyA (H2 H : hR) (a : Int) : ∃ G, fX0_copyFrom H2 a a H = some ((), G) ∧ (∀ t x y : Int, G.1 t x y = if t = 2 ∧ x = a ∧ 0 ≤ y ∧ y ≤ 11 then H2.1 2 a y else H.1 t x y) ∧ ∀ j : Int, G.2 j = if j = a then H2.2 a else H.2 j := by
  refine ⟨_, rfl, fun t x y => ?_, fun j => rfl⟩
  by_cases q : t = 2 ∧ x = a ∧ 0 ≤ y ∧ y ≤ 11
  · obtain ⟨q1, q2, q3, q4⟩ := q
    rw [if_pos ⟨q1, q2, q3, q4⟩]
    subst q1 q2
    have : y = 0 ∨ y = 1 ∨ y = 2 ∨ y = 3 ∨ y = 4 ∨ y = 5 ∨ y = 6 ∨ y = 7 ∨ y = 8 ∨ y = 9 ∨ y = 10 ∨ y = 11 := by omega
    rcases this with rfl | rfl | rfl | rfl | rfl | rfl | rfl | rfl | rfl | rfl | rfl | rfl <;> simp [hS_1, hD_1]
  · rw [if_neg q, hD_1, hS_n _ (by omega), hS_n _ (by omega), hS_n _ (by omega), hS_n _ (by omega), hS_n _ (by omega), hS_n _ (by omega), hS_n _ (by omega), hS_n _ (by omega), hS_n _ (by omega), hS_n _ (by omega), hS_n _ (by omega), hS_n _ (by omega)]
theorem ec_copyO (H2 H : hR) (o : Int) (he : H2.1 3 o 9 = 0 ∨ H2.1 3 o 9 = 1) : ∃ G, fX3_copyFrom H2 o o H = some ((), G) ∧ (∀ t x y : Int, G.1 t x y = if t = 3 ∧ x = o ∧ 0 ≤ y ∧ y ≤ 16 then H2.1 3 o y else H.1 t x y) ∧ G.2 = H.2 := by
  have e : ∃ G, fX3_copyFrom H2 o o H = some ((), G) ∧ G = (hS (hS (hS (hS (hS (hS (hS (hS (hS (hS (hS (hS (hS (hS (hS (hS (hS H 3 o 0 (H2.1 3 o 0)) 3 o 1 (H2.1 3 o 1)) 3 o 2 (H2.1 3 o 2)) 3 o 3 (H2.1 3 o 3)) 3 o 4 (H2.1 3 o 4)) 3 o 5 (H2.1 3 o 5)) 3 o 6 (H2.1 3 o 6)) 3 o 7 (H2.1 3 o 7)) 3 o 8 (H2.1 3 o 8)) 3 o 9 (H2.1 3 o 9)) 3 o 10 (H2.1 3 o 10)) 3 o 11 (H2.1 3 o 11)) 3 o 12 (H2.1 3 o 12)) 3 o 13 (H2.1 3 o 13)) 3 o 14 (H2.1 3 o 14)) 3 o 15 (H2.1 3 o 15)) 3 o 16 (H2.1 3 o 16)) := by
    refine ⟨_, ?_, rfl⟩
    unfold fX3_copyFrom
    rw [bnd_eq, bnd_eq, bnd_eq, bnd_eq, bnd_eq, bnd_eq, bnd_eq, bnd_eq, bnd_eq, gd_pos he]
    rfl
  obtain ⟨G, e1, e2⟩ := e
  refine ⟨G, e1, fun t x y => ?_, by rw [e2]; rfl⟩
  rw [e2]
  by_cases q : t = 3 ∧ x = o ∧ 0 ≤ y ∧ y ≤ 16
  · obtain ⟨q1, q2, q3, q4⟩ := q
    rw [if_pos ⟨q1, q2, q3, q4⟩]
    subst q1 q2
    have : y = 0 ∨ y = 1 ∨ y = 2 ∨ y = 3 ∨ y = 4 ∨ y = 5 ∨ y = 6 ∨ y = 7 ∨ y = 8 ∨ y = 9 ∨ y = 10 ∨ y = 11 ∨ y = 12 ∨ y = 13 ∨ y = 14 ∨ y = 15 ∨ y = 16 := by omega
    rcases this with rfl | rfl | rfl | rfl | rfl | rfl | rfl | rfl | rfl | rfl | rfl | rfl | rfl | rfl | rfl | rfl | rfl <;> simp [hS_1]
  · rw [if_neg q, hS_n _ (by omega), hS_n _ (by omega), hS_n _ (by omega), hS_n _ (by omega), hS_n _ (by omega), hS_n _ (by omega), hS_n _ (by omega), hS_n _ (by omega), hS_n _ (by omega), hS_n _ (by omega), hS_n _ (by omega), hS_n _ (by omega), hS_n _ (by omega), hS_n _ (by omega), hS_n _ (by omega), hS_n _ (by omega), hS_n _ (by omega)]
theorem ec_copyAs {H2 : hR} (h8 : H2.1 0 4 0 ≤ 8) : ∀ (k fuel : Nat) (i : Int) (H : hR), i + k = H2.1 0 4 0 → 0 ≤ i → k < fuel → ∃ H', fX2_copyFrom_b13 H2 fuel i H = fX2_copyFrom_b44 H2 fuel0 0 H' ∧ (∀ t x y : Int, H'.1 t x y = if t = 2 ∧ i ≤ x ∧ x < H2.1 0 4 0 ∧ 0 ≤ y ∧ y ≤ 11 then H2.1 2 x y else H.1 t x y) ∧ ∀ j : Int, H'.2 j = if i ≤ j ∧ j < H2.1 0 4 0 then H2.2 j else H.2 j
  | k, 0, _, _, _, _, h => by omega
  | 0, fuel + 1, i, H, h1, h2, _ => by
    refine ⟨H, ?_, fun t x y => (if_neg (by omega)).symm, fun j => (if_neg (by omega)).symm⟩
    rw [fX2_copyFrom_b13, gd_pos (by omega), if_pos (by omega)]
  | k + 1, fuel + 1, i, H, h1, h2, h3 => by
    obtain ⟨G, g1, g2, g3⟩ := ec_copyA H2 H i
    obtain ⟨H', z1, z2, z3⟩ := ec_copyAs h8 k fuel (i + 1) G (by omega) (by omega) (by omega)
    refine ⟨H', ?_, fun t x y => ?_, fun j => ?_⟩
    · rw [fX2_copyFrom_b13, gd_pos (by omega), if_neg (by omega), gd_pos (by omega), gd_pos (by omega), g1, cl_some, z1]
    · rw [z2, g2]
      by_cases q : t = 2 ∧ i + 1 ≤ x ∧ x < H2.1 0 4 0 ∧ 0 ≤ y ∧ y ≤ 11
      · rw [if_pos q, if_pos (by omega)]
      · rw [if_neg q]
        by_cases q2 : t = 2 ∧ x = i ∧ 0 ≤ y ∧ y ≤ 11
        · rw [if_pos q2, if_pos (by omega), q2.2.1]
        · rw [if_neg q2, if_neg (by omega)]
    · rw [z3, g3]
      by_cases q : i + 1 ≤ j ∧ j < H2.1 0 4 0
      · rw [if_pos q, if_pos (by omega)]
      · rw [if_neg q]
        by_cases q2 : j = i
        · rw [if_pos q2, if_pos (by omega), q2]
        · rw [if_neg q2, if_neg (by omega)]
noncomputable def copyEnd (H2 H : hR) : Option (Unit × hR) :=
  cl (fX5_copyFrom H2 H) fun r81 H81 =>
  bnd (hS H81 0 4 0 (H2.1 0 4 0)) fun H89 =>
  bnd (hS H89 0 5 0 (H2.1 0 5 0)) fun H97 =>
  bnd (hS H97 0 6 0 (H2.1 0 6 0)) fun H105 =>
  bnd (hS H105 0 7 0 (H2.1 0 7 0)) fun H113 =>
  bnd (hS H113 0 8 0 (H2.1 0 8 0)) fun H121 =>
  bnd (hS H121 0 9 0 (H2.1 0 9 0)) fun H129 =>
  bnd (hS H129 0 10 0 (H2.1 0 10 0)) fun H137 =>
  some ((), H137)
theorem ec_copyOs {H2 : hR} (h16 : H2.1 0 5 0 ≤ 16) (he : ∀ o : Int, 0 ≤ o ∧ o < H2.1 0 5 0 → H2.1 3 o 9 = 0 ∨ H2.1 3 o 9 = 1) : ∀ (k fuel : Nat) (i : Int) (H : hR), i + k = H2.1 0 5 0 → 0 ≤ i → k < fuel → ∃ H', fX2_copyFrom_b44 H2 fuel i H = copyEnd H2 H' ∧ (∀ t x y : Int, H'.1 t x y = if t = 3 ∧ i ≤ x ∧ x < H2.1 0 5 0 ∧ 0 ≤ y ∧ y ≤ 16 then H2.1 3 x y else H.1 t x y) ∧ H'.2 = H.2
  | k, 0, _, _, _, _, h => by omega
  | 0, fuel + 1, i, H, h1, h2, _ => by
    refine ⟨H, ?_, fun t x y => (if_neg (by omega)).symm, rfl⟩
    rw [fX2_copyFrom_b44, gd_pos (by omega), if_pos (by omega)]
    rfl
  | k + 1, fuel + 1, i, H, h1, h2, h3 => by
    obtain ⟨G, g1, g2, g3⟩ := ec_copyO H2 H i (he i (by omega))
    obtain ⟨H', z1, z2, z3⟩ := ec_copyOs h16 he k fuel (i + 1) G (by omega) (by omega) (by omega)
    refine ⟨H', ?_, fun t x y => ?_, z3.trans g3⟩
    · rw [fX2_copyFrom_b44, gd_pos (by omega), if_neg (by omega), gd_pos (by omega), gd_pos (by omega), g1, cl_some, z1]
    · rw [z2, g2]
      by_cases q : t = 3 ∧ i + 1 ≤ x ∧ x < H2.1 0 5 0 ∧ 0 ≤ y ∧ y ≤ 16
      · rw [if_pos q, if_pos (by omega)]
      · rw [if_neg q]
        by_cases q2 : t = 3 ∧ x = i ∧ 0 ≤ y ∧ y ≤ 16
        · rw [if_pos q2, if_pos (by omega), q2.2.1]
        · rw [if_neg q2, if_neg (by omega)]
theorem ec_copyW21 {H2 : hR} {R : Int} (hs : 0 ≤ H2.1 4 2 0 ∧ H2.1 4 2 0 ≤ H2.1 4 1 0 ∧ H2.1 4 2 0 ≤ R ∧ H2.1 4 1 0 ≤ 16384 ∧ R ≤ 16384) : ∀ (k fuel : Nat) (c : Int) (H : hR), c + k = 5 → 0 ≤ c → k < fuel → H.1 4 1 0 = R → ∃ H', fX5_copyFrom_b21 H2 fuel c H = some ((), H') ∧ (∀ t x y : Int, H'.1 t x y = if t = 5 ∧ c ≤ x ∧ x < 5 ∧ 0 ≤ y ∧ y < H2.1 4 2 0 then H2.1 5 x y else if t = 4 ∧ x = 2 ∧ y = 0 then H2.1 4 2 0 else H.1 t x y) ∧ H'.2 = H.2
  | k, 0, _, _, _, _, h, _ => by omega
  | 0, fuel + 1, c, H, h1, h2, _, h4 => by
    refine ⟨hS H 4 2 0 (H2.1 4 2 0), ?_, fun t x y => ?_, rfl⟩
    · rw [fX5_copyFrom_b21, gd_pos (by omega), if_pos (by omega), bnd_eq]
    · rw [hS_1, if_neg (show ¬ (t = 5 ∧ c ≤ x ∧ x < 5 ∧ 0 ≤ y ∧ y < H2.1 4 2 0) by omega)]
  | k + 1, fuel + 1, c, H, h1, h2, h3, h4 => by
    have eg : ∀ t x y : Int, (hCol H c (cpy (fun j => H2.1 5 c j) (fun j => H.1 5 c j) 0 0 (H2.1 4 2 0))).1 t x y = if t = 5 ∧ x = c then (if 0 ≤ y ∧ y < 0 + H2.1 4 2 0 then H2.1 5 c (0 + (y - 0)) else H.1 5 c y) else H.1 t x y := fun t x y => rfl
    obtain ⟨H', z1, z2, z3⟩ := ec_copyW21 hs k fuel (c + 1) (hCol H c (cpy (fun j => H2.1 5 c j) (fun j => H.1 5 c j) 0 0 (H2.1 4 2 0))) (by omega) (by omega) (by omega) (by rw [eg, if_neg (by omega)]; exact h4)
    refine ⟨H', ?_, fun t x y => ?_, z3⟩
    · rw [fX5_copyFrom_b21, gd_pos (by omega), if_neg (by omega), gd_pos (by omega), gd_pos (by omega), h4, gd_pos (by omega), bnd_eq, z1]
    · rw [z2, eg]
      by_cases q : t = 5 ∧ c + 1 ≤ x ∧ x < 5 ∧ 0 ≤ y ∧ y < H2.1 4 2 0
      · rw [if_pos q, if_pos (by omega)]
      · rw [if_neg q]
        by_cases q2 : t = 4 ∧ x = 2 ∧ y = 0
        · rw [if_pos q2, if_neg (by omega), if_pos q2]
        · rw [if_neg q2]
          by_cases q3 : t = 5 ∧ x = c
          · rw [if_pos q3]
            by_cases q4 : 0 ≤ y ∧ y < 0 + H2.1 4 2 0
            · rw [if_pos q4, if_pos (by omega), q3.2, show 0 + (y - 0) = y by omega]
            · rw [if_neg q4, if_neg (by omega), if_neg q2, q3.1, q3.2]
          · rw [if_neg q3, if_neg (by omega), if_neg q2]
theorem roomOK_lt {a b : Int} (ha : roomOK a) (hb : roomOK b) (h : a < b) : 2 * a ≤ b := by
  obtain ⟨i, hi, rfl⟩ := ha
  obtain ⟨j, hj, rfl⟩ := hb
  have : ∀ i : Nat, i ≤ 8 → ∀ j : Nat, j ≤ 8 → 64 * (2 : Int) ^ i < 64 * 2 ^ j → 2 * (64 * (2 : Int) ^ i) ≤ 64 * 2 ^ j := by decide
  exact this i hi j hj h
theorem ec_copy {H2 H : hR} (hk : okN H2) (he : ∀ o : Int, 0 ≤ o ∧ o < H2.1 0 5 0 → H2.1 3 o 9 = 0 ∨ H2.1 3 o 9 = 1) (hr : roomOK (H.1 4 1 0)) : ∃ H', fX2_copyFrom H2 H = some ((), H') ∧ copyR H2 H' := by
  unfold okN at hk
  obtain ⟨k1, k2, k3, k4, k5⟩ := hk
  have r1 := roomOK_rng hr
  have r2 := roomOK_rng k5
  obtain ⟨H8, a1, a2, a3⟩ : ∃ H8, fX1_copyFrom H2 H = some ((), H8) ∧ (∀ t x y : Int, H8.1 t x y = if t = 1 ∧ x = 2 ∧ y = 0 then H2.1 1 2 0 else if t = 1 ∧ x = 1 ∧ y = 0 then H2.1 1 1 0 else if t = 6 ∧ y = 0 then (if 0 ≤ x ∧ x < 0 + 18 then H2.1 6 (0 + (x - 0)) 0 else H.1 6 x 0) else H.1 t x y) ∧ H8.2 = H.2 := ⟨_, rfl, fun t x y => rfl, rfl⟩
  obtain ⟨HA, b1, b2, b3⟩ := ec_copyAs (H2 := H2) (by omega) (H2.1 0 4 0).toNat fuel0 0 H8 (by omega) (by omega) (by show _ < 1000000; omega)
  obtain ⟨HO, c1, c2, c3⟩ := ec_copyOs (H2 := H2) (by omega) he (H2.1 0 5 0).toNat fuel0 0 HA (by omega) (by omega) (by show _ < 1000000; omega)
  have eR : HO.1 4 1 0 = H.1 4 1 0 := by rw [c2, if_neg (by omega), b2, if_neg (by omega), a2, if_neg (by omega), if_neg (by omega), if_neg (by omega)]
  have wt : ∃ HW, fX5_copyFrom H2 HO = some ((), HW) ∧ (∀ t x y : Int, ¬ t = 5 → ¬ t = 4 → HW.1 t x y = HO.1 t x y) ∧ HW.2 = HO.2 ∧ HW.1 4 2 0 = H2.1 4 2 0 ∧ (∀ c i : Int, 0 ≤ c ∧ c < 5 → 0 ≤ i ∧ i < H2.1 4 2 0 → HW.1 5 c i = H2.1 5 c i) ∧ H2.1 4 2 0 ≤ HW.1 4 1 0 ∧ roomOK (HW.1 4 1 0) := by
    by_cases g : H2.1 4 2 0 ≤ H.1 4 1 0
    · obtain ⟨HW, w1, w2, w3⟩ := ec_copyW21 (H2 := H2) (R := H.1 4 1 0) (by omega) 5 fuel0 0 HO (by omega) (by omega) (by decide) eR
      refine ⟨HW, ?_, fun t x y q1 q2 => by rw [w2, if_neg (by omega), if_neg (by omega)], w3, by rw [w2, if_neg (by omega), if_pos ⟨rfl, rfl, rfl⟩], fun c i q1 q2 => by rw [w2, if_pos (by omega)], ?_, ?_⟩
      · unfold fX5_copyFrom
        rw [eR, gd_pos (by omega), if_pos g, w1]
      · rw [w2, if_neg (by omega), if_neg (by omega), eR]
        exact g
      · rw [w2, if_neg (by omega), if_neg (by omega), eR]
        exact hr
    · have hlt := roomOK_lt hr k5 (by omega)
      have g1 : (hGrow HO (H2.1 4 1 0)).1 4 1 0 = H2.1 4 1 0 := by simp [hGrow]
      obtain ⟨HW, w1, w2, w3⟩ := ec_copyW21 (H2 := H2) (R := H2.1 4 1 0) (by omega) 5 fuel0 0 (hGrow HO (H2.1 4 1 0)) (by omega) (by omega) (by decide) g1
      have em : fX5_makeRoom (H2.1 4 1 0) HO = some ((), hGrow HO (H2.1 4 1 0)) := by
        unfold fX5_makeRoom
        rw [eR, gd_pos (by omega), if_neg (by omega), gd_pos (by omega)]
      refine ⟨HW, ?_, fun t x y q1 q2 => ?_, w3, by rw [w2, if_neg (by omega), if_pos ⟨rfl, rfl, rfl⟩], fun c i q1 q2 => by rw [w2, if_pos (by omega)], ?_, ?_⟩
      · unfold fX5_copyFrom
        rw [eR, gd_pos (by omega), if_neg g, em, cl_some, w1]
      · rw [w2, if_neg (by omega), if_neg (by omega)]
        exact (if_neg (by omega)).trans (if_neg (by omega))
      · rw [w2, if_neg (by omega), if_neg (by omega), g1]
        exact k4
      · rw [w2, if_neg (by omega), if_neg (by omega), g1]
        exact k5
  obtain ⟨HW, w1, w2, w3, w4, w5, w6, w7⟩ := wt
  have ef : fX2_copyFrom H2 H = some ((), hS (hS (hS (hS (hS (hS (hS HW 0 4 0 (H2.1 0 4 0)) 0 5 0 (H2.1 0 5 0)) 0 6 0 (H2.1 0 6 0)) 0 7 0 (H2.1 0 7 0)) 0 8 0 (H2.1 0 8 0)) 0 9 0 (H2.1 0 9 0)) 0 10 0 (H2.1 0 10 0)) := by
    unfold fX2_copyFrom
    rw [a1, cl_some, b1, c1]
    unfold copyEnd
    rw [w1, cl_some]
    rfl
  refine ⟨_, ef, fun a ha => ?_, ⟨?_, ?_⟩, fun a ha => ?_, fun a ha => ⟨fun f hf => ?_, ?_⟩, fun o ho f hf => ?_, ?_, fun c i q1 q2 => ?_, ?_, ?_⟩
  · have : a = 4 ∨ a = 5 ∨ a = 6 ∨ a = 7 ∨ a = 8 ∨ a = 9 ∨ a = 10 := by omega
    rcases this with rfl | rfl | rfl | rfl | rfl | rfl | rfl <;> simp [hS_1]
  · rw [hS_n _ (by omega), hS_n _ (by omega), hS_n _ (by omega), hS_n _ (by omega), hS_n _ (by omega), hS_n _ (by omega), hS_n _ (by omega), w2 _ _ _ (by omega) (by omega), c2, if_neg (by omega), b2, if_neg (by omega), a2, if_neg (by omega), if_pos (by omega)]
  · rw [hS_n _ (by omega), hS_n _ (by omega), hS_n _ (by omega), hS_n _ (by omega), hS_n _ (by omega), hS_n _ (by omega), hS_n _ (by omega), w2 _ _ _ (by omega) (by omega), c2, if_neg (by omega), b2, if_neg (by omega), a2, if_pos (by omega)]
  · rw [hS_n _ (by omega), hS_n _ (by omega), hS_n _ (by omega), hS_n _ (by omega), hS_n _ (by omega), hS_n _ (by omega), hS_n _ (by omega), w2 _ _ _ (by omega) (by omega), c2, if_neg (by omega), b2, if_neg (by omega), a2, if_neg (by omega), if_neg (by omega), if_pos (by omega), if_pos (by omega), show 0 + (a - 0) = a by omega]
  · rw [hS_n _ (by omega), hS_n _ (by omega), hS_n _ (by omega), hS_n _ (by omega), hS_n _ (by omega), hS_n _ (by omega), hS_n _ (by omega), w2 _ _ _ (by omega) (by omega), c2, if_neg (by omega), b2, if_pos (by omega)]
  · rw [hS_2, hS_2, hS_2, hS_2, hS_2, hS_2, hS_2, w3, c3, b3, if_pos (by omega)]
  · rw [hS_n _ (by omega), hS_n _ (by omega), hS_n _ (by omega), hS_n _ (by omega), hS_n _ (by omega), hS_n _ (by omega), hS_n _ (by omega), w2 _ _ _ (by omega) (by omega), c2, if_pos (by omega)]
  · rw [hS_n _ (by omega), hS_n _ (by omega), hS_n _ (by omega), hS_n _ (by omega), hS_n _ (by omega), hS_n _ (by omega), hS_n _ (by omega), w4]
  · rw [hS_n _ (by omega), hS_n _ (by omega), hS_n _ (by omega), hS_n _ (by omega), hS_n _ (by omega), hS_n _ (by omega), hS_n _ (by omega)]
    exact w5 c i q1 q2
  · rw [hS_n _ (by omega), hS_n _ (by omega), hS_n _ (by omega), hS_n _ (by omega), hS_n _ (by omega), hS_n _ (by omega), hS_n _ (by omega)]
    exact w6
  · rw [hS_n _ (by omega), hS_n _ (by omega), hS_n _ (by omega), hS_n _ (by omega), hS_n _ (by omega), hS_n _ (by omega), hS_n _ (by omega)]
    exact w7

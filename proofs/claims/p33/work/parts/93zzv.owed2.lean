/-! ===== owedBits in step: halving, the call ===== -/
theorem ow_down : ∀ (j fC fM : Nat) (x : UInt64) (e i : Int) (V : Nat), dv x V → 2 ^ 120 ≤ V → V ≤ 2 ^ (200 + j) → j ≤ 50 → j < fC → j < fM → 0 ≤ i → i + j < 1023 → ∃ r : Int, fX6_bitsOf_b18 fC x e i = some r ∧ fX7_bitsOf_b15 fM e x = some r
  | j, 0, _, _, _, _, _, _, _, _, _, h, _, _, _ => by omega
  | j, _ + 1, 0, _, _, _, _, _, _, _, _, _, h, _, _ => by omega
  | j, fC + 1, fM + 1, x, e, i, V, h, h0, h2, hj50, hf, hg, hi, hj => by
    have hcmp := dv_cmp (op := .l) h dv_two
    have hr : wR (dcI x 4611686018427387904 .l) := by
      rw [hcmp]
      split
      · omega
      · split <;> omega
    by_cases g : V < 2 ^ 201
    · have g2 : dcI x 4611686018427387904 .l < 0 := by
        rw [hcmp, if_pos g]
        omega
      obtain ⟨r, r1, r2⟩ := ow_up 80 fuel0 fuel0 x e 0 V h (by omega) h0 (by omega) (by decide) (by decide) (by omega) (by omega)
      refine ⟨r, ?_, ?_⟩
      · rw [fX6_bitsOf_b18, gd_pos (by omega), if_neg (by omega), gd_pos hr, if_pos g2]
        exact r1
      · rw [fX7_bitsOf_b15, gd_pos hr, if_pos g2]
        exact r2
    · have g2 : ¬ dcI x 4611686018427387904 .l < 0 := by
        rw [hcmp, if_neg g]
        split <;> omega
      obtain ⟨j', rfl⟩ : ∃ j', j = j' + 1 := by
        cases j with
        | zero => exact absurd h2 (by omega)
        | succ n => exact ⟨n, rfl⟩
      have p1 : 2 ^ (200 + (j' + 1)) ≤ 2 ^ 250 := Nat.pow_le_pow_right (by decide) (by omega)
      have p2 : 2 ^ (200 + (j' + 1)) = 2 * 2 ^ (200 + j') := by
        rw [show 200 + (j' + 1) = (200 + j') + 1 by omega, Nat.pow_succ, Nat.mul_comm]
      obtain ⟨Y, y1, y2, y3⟩ := dv_half h (by omega) (by omega)
      have z1 := y2 1 (200 + j') (by decide) (by omega)
      have z2 := y3 1 120 (by decide) (by omega)
      obtain ⟨r, r1, r2⟩ := ow_down j' fC fM (FP.ddiv x 4611686018427387904) (e + 1) (i + 1) Y y1 (by omega) (by omega) (by omega) (by omega) (by omega) (by omega) (by omega)
      refine ⟨r, ?_, ?_⟩
      · rw [fX6_bitsOf_b18, gd_pos (by omega), if_neg (by omega), gd_pos hr, if_neg g2, gd_pos (dv_okD y1)]
        exact r1
      · rw [fX7_bitsOf_b15, gd_pos hr, if_neg g2, gd_pos (dv_okD y1)]
        exact r2
theorem ow_bits {x : UInt64} {V : Nat} (h : dv x V) (hV : V ≤ 2 ^ 250) : ∃ r : Int, fX6_bitsOf x = some r ∧ fX7_bitsOf x = some r := by
  have hcmp := dv_cmp (op := .l) h dv_zero
  have hr : wR (dcI x FP.dconst0 .l) := by
    rw [hcmp]
    split
    · omega
    · split <;> omega
  unfold fX6_bitsOf fX7_bitsOf
  rw [gd_pos hr, gd_pos hr]
  by_cases g : V = 0
  · have e : dcI x FP.dconst0 .l = 0 := by rw [hcmp, if_neg (by omega), if_pos g]
    rw [e, if_neg (by omega), if_pos rfl]
    exact ⟨0, rfl, rfl⟩
  · have e : dcI x FP.dconst0 .l = 1 := by rw [hcmp, if_neg (by omega), if_neg g]
    rw [e, if_pos (by omega), if_neg (by omega)]
    have hb := dv_big h
    exact ow_down 50 fuel0 fuel0 x 1023 0 V h (by omega) hV (by omega) (by decide) (by decide) (by omega) (by omega)
theorem ask_owed {T : Int} {c : cR} {m : mR} (h : Sim T (c.1 0) m) (_ : 0 ≤ T ∧ T ≤ 100000) {a : Int} (ha : wR a) : ∃ r : Int, fX6_owedBits a c = some r ∧ fX7_owedBits a m = some r := by
  have k1 := h.2.2.1
  unfold okN at k1
  have ks := h.2.2.2.1
  unfold okS at ks
  have q1 := h.1.1.2.1
  unfold fX6_owedBits fX7_owedBits
  by_cases g : 0 ≤ a ∧ a < (c.1 0).1 0 4 0
  · rw [ev_hasA (by omega), ev_isA (by omega), q1, bI_t (decide_eq_true g), cr_some, cr_some, gd_pos (by omega), gd_pos (by omega), if_neg (by omega), if_neg (by omega), gd_pos (by omega), gd_pos (by omega)]
    have e : m.2 0 a = (c.1 0).2 a := (h.1.2.2.1 a (by rw [q1]; exact g)).2
    obtain ⟨n, ⟨n0, V, v1, v2⟩, n2, -⟩ := h.2.2.2.2.2.2.2.2.2 a g
    have hd := debtB_le (t := (c.1 0).1 0 6 0) (by omega)
    obtain ⟨r, r1, r2⟩ := ow_bits v1 (by omega)
    rw [e, r1, r2]
    exact ⟨r, rfl, rfl⟩
  · refine ⟨-1, ?_, ?_⟩
    · rw [ev_hasA (by omega), bI_f (decide_eq_false g), cr_some, gd_pos (show wR 0 by omega), if_pos rfl]
    · rw [ev_isA (by omega), q1, bI_f (decide_eq_false g), cr_some, gd_pos (show wR 0 by omega), if_pos rfl]

/-! ===== owedBits in step ===== -/
theorem dv_one : dv FP.dconst1 (2 ^ 200) := Or.inr ⟨2 ^ 52, 200, by decide +kernel, by decide, by decide, by decide, by decide, by decide +kernel⟩
theorem dv_two : dv 4611686018427387904 (2 ^ 201) := Or.inr ⟨2 ^ 52, 201, by decide +kernel, by decide, by decide, by decide, by decide, by decide +kernel⟩
theorem dv_b52 : dv 4841369599423283200 (2 ^ 252) := Or.inr ⟨2 ^ 52, 252, by decide +kernel, by decide, by decide, by decide, by decide, by decide +kernel⟩
theorem ow_end {x : UInt64} {V : Nat} (h : dv x V) (h1 : 2 ^ 200 ≤ V) (h2 : V ≤ 2 ^ 201) : okD (FP.dsub x FP.dconst1) ∧ okD (FP.dmul (FP.dsub x FP.dconst1) 4841369599423283200) := by
  obtain ⟨c, q, a1, a2, a3, a4⟩ := dv_dec h
  have hc : ¬ c = 0 := fun z => by
    rw [z, Nat.zero_mul] at a3
    omega
  have hq : 148 ≤ (q + 200).toNat := by
    by_cases g : 148 ≤ (q + 200).toNat
    · exact g
    · have p1 : 2 ^ (q + 200).toNat ≤ 2 ^ 147 := Nat.pow_le_pow_right (by decide) (by omega)
      have p2 : c * 2 ^ (q + 200).toNat ≤ 2 ^ 53 * 2 ^ 147 - 2 ^ 147 := by
        have : c * 2 ^ (q + 200).toNat ≤ (2 ^ 53 - 1) * 2 ^ 147 := Nat.mul_le_mul (by omega) p1
        omega
      omega
  obtain ⟨t, ht⟩ : ∃ t : Nat, V = t * 2 ^ 148 := ⟨c * 2 ^ ((q + 200).toNat - 148), by
    rw [a3, Nat.mul_assoc, ← Nat.pow_add]
    congr 2
    omega⟩
  obtain ⟨Y, y1, y2, y3⟩ := dv_sub h dv_one h1 (by omega) (by omega)
  have z1 := y2 1 201 (by decide) (by omega)
  obtain ⟨Z, w1, w2, w3⟩ := dv_mul (X := Y * 2 ^ 52) y1 dv_b52 (by
    rw [Nat.mul_assoc, ← Nat.pow_add]) (by
    rcases dv_big y1 with g | g
    · left
      rw [g]
    · right
      omega) (by omega)
  exact ⟨dv_okD y1, dv_okD w1⟩
theorem ow_up : ∀ (j fC fM : Nat) (x : UInt64) (e i : Int) (V : Nat), dv x V → 2 ^ (200 - j) ≤ V → 2 ^ 120 ≤ V → V ≤ 2 ^ 201 → j < fC → j < fM → 0 ≤ i → i + j < 1022 → ∃ r : Int, fX6_bitsOf_b55 fC x e i = some r ∧ fX7_bitsOf_b39 fM e x = some r
  | j, 0, _, _, _, _, _, _, _, _, _, h, _, _, _ => by omega
  | j, _ + 1, 0, _, _, _, _, _, _, _, _, _, h, _, _ => by omega
  | j, fC + 1, fM + 1, x, e, i, V, h, h1, h0, h2, hf, hg, hi, hj => by
    have hcmp := dv_cmp (op := .g) h dv_one
    have hr : wR (dcI x FP.dconst1 .g) := by
      rw [hcmp]
      split
      · omega
      · split <;> omega
    by_cases g : 2 ^ 200 ≤ V
    · obtain ⟨k1, k2⟩ := ow_end h g h2
      have g2 : 0 ≤ dcI x FP.dconst1 .g := by
        rw [hcmp, if_neg (by omega)]
        split <;> omega
      refine ⟨(lshlI e 52) + (d2lI (FP.dmul (FP.dsub x FP.dconst1) 4841369599423283200)), ?_, ?_⟩
      · rw [fX6_bitsOf_b55, gd_pos (by omega), if_neg (by omega), gd_pos hr, if_pos g2]
        unfold fX6_bitsOf_b87
        rw [gd_pos k1, gd_pos k2]
      · rw [fX7_bitsOf_b39, gd_pos hr, if_pos g2, gd_pos k1, gd_pos k2]
    · have g2 : ¬ 0 ≤ dcI x FP.dconst1 .g := by
        rw [hcmp, if_pos (by omega)]
        omega
      obtain ⟨j', rfl⟩ : ∃ j', j = j' + 1 := by
        cases j with
        | zero => exact absurd h1 (by omega)
        | succ n => exact ⟨n, rfl⟩
      obtain ⟨Y, y1, y2, y3⟩ := dv_mul (X := 2 * V) h dv_two (by
        rw [show (2 : Nat) ^ 201 = 2 * 2 ^ 200 from rfl]
        ac_rfl) (by omega) (by omega)
      have z1 := y2 1 201 (by decide) (by omega)
      have z2 := y3 1 121 (by decide) (by omega)
      have z3 : 2 ^ (200 - j') ≤ Y := by
        by_cases gj : 200 ≤ j'
        · rw [show 200 - j' = 0 by omega]
          omega
        · have p : 2 ^ (200 - j') = 2 * 2 ^ (200 - (j' + 1)) := by
            rw [show 200 - j' = (200 - (j' + 1)) + 1 by omega, Nat.pow_succ, Nat.mul_comm]
          have := y3 1 (200 - j') (by decide) (by omega)
          omega
      obtain ⟨r, r1, r2⟩ := ow_up j' fC fM (FP.dmul x 4611686018427387904) (e - 1) (i + 1) Y y1 z3 (by omega) (by omega) (by omega) (by omega) (by omega) (by omega)
      refine ⟨r, ?_, ?_⟩
      · rw [fX6_bitsOf_b55, gd_pos (by omega), if_neg (by omega), gd_pos hr, if_neg g2, gd_pos (dv_okD y1)]
        exact r1
      · rw [fX7_bitsOf_b39, gd_pos hr, if_neg g2, gd_pos (dv_okD y1)]
        exact r2

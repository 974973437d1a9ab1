/-! ===== owedBits: halving, comparing ===== -/
theorem dv_half {a : UInt64} {V : Nat} (ha : dv a V) (h1 : 2 ^ 121 ≤ V) (h2 : V < 2 ^ 255) : ∃ Y : Nat, dv (FP.ddiv a 4611686018427387904) Y ∧ (∀ M G : Nat, M ≤ 2 ^ 53 → V ≤ 2 * (M * 2 ^ G) → Y ≤ M * 2 ^ G) ∧ ∀ M G : Nat, M ≤ 2 ^ 53 → 2 * (M * 2 ^ G) ≤ V → M * 2 ^ G ≤ Y := by
  obtain ⟨c, q, a1, a2, a3, a4⟩ := dv_dec ha
  have hb : FP.Core.decode FP.Core.b64 (4611686018427387904 : UInt64).toNat = .fin false (2 ^ 52) (-51) := by decide +kernel
  have ev : FP.ddiv a 4611686018427387904 = UInt64.ofNat (FP.Core.encode FP.Core.b64 (FP.Core.roundRatio FP.Core.b64 false c (2 ^ 52) (q - -51))) := by
    show FP.Core.ddiv a 4611686018427387904 = _
    unfold FP.Core.ddiv FP.Core.div
    rw [a1, hb]
    rfl
  have hc : ¬ c = 0 := fun z => by
    rw [z, Nat.zero_mul] at a3
    omega
  obtain ⟨Y, y1, y2, y3⟩ := dv_rr (X := V * 2 ^ 51) ev (by omega) (by omega) (by
    rw [a3, Nat.mul_assoc, ← Nat.pow_add]
    congr 2
    omega) (by omega) (by omega)
  exact ⟨Y, y1, fun M G h3 h4 => y2 M G h3 (by
    calc V * 2 ^ 51 ≤ 2 * (M * 2 ^ G) * 2 ^ 51 := Nat.mul_le_mul_right _ h4
      _ = 2 ^ 52 * (M * 2 ^ G) := by
        rw [show (2 : Nat) ^ 52 = 2 * 2 ^ 51 from rfl]
        ac_rfl), fun M G h3 h4 => y3 M G h3 (by
    calc 2 ^ 52 * (M * 2 ^ G) = 2 * (M * 2 ^ G) * 2 ^ 51 := by
          rw [show (2 : Nat) ^ 52 = 2 * 2 ^ 51 from rfl]
          ac_rfl
      _ ≤ V * 2 ^ 51 := Nat.mul_le_mul_right _ h4)⟩

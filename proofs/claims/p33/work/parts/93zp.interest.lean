/-! ===== a day's interest ===== -/
def yrOf (r : Int) : UInt64 := FP.f2d (FP.fdiv (FP.i2f (iI r)) 1148846080)
def rateB (v : UInt64) (r : Nat) : Bool := match FP.Core.decode FP.Core.b64 v.toNat with
  | .fin false c q => if r = 0 then c == 0 else decide (-132 ≤ q) && decide (q ≤ 0) && decide (2 ^ 190 ≤ c * 2 ^ (q + 200).toNat) && decide (c * 2 ^ (q + 200).toNat ≤ 2 ^ 200) && decide (2 ^ 52 ≤ c) && decide (c < 2 ^ 53)
  | _ => false
theorem rate_c : ∀ r : Nat, r < 1001 → FP.l2f (jL r) = FP.i2f (iI r) ∧ okF (FP.fdiv (FP.i2f (iI r)) 1148846080) ∧ rateB (yrOf r) r = true := by decide +kernel
theorem rate_dv {r : Int} (h : 0 ≤ r ∧ r ≤ 1000) : FP.l2f (jL r) = FP.i2f (iI r) ∧ okF (FP.fdiv (FP.i2f (iI r)) 1148846080) ∧ ∃ V : Nat, dv (yrOf r) V ∧ V ≤ 2 ^ 200 ∧ (V = 0 ∨ 2 ^ 190 ≤ V) := by
  obtain ⟨k, hk, rfl⟩ := toN (n := 1001) (d := r) (by omega)
  obtain ⟨h1, h2, h3⟩ := rate_c k (by omega)
  refine ⟨h1, h2, ?_⟩
  unfold rateB at h3
  split at h3
  · rename_i c q e
    by_cases g : k = 0
    · rw [if_pos g] at h3
      have h3 : c = 0 := by simpa using h3
      rw [h3] at e
      exact ⟨0, Or.inl ⟨rfl, q, e⟩, Nat.zero_le _, Or.inl rfl⟩
    · rw [if_neg g] at h3
      simp only [Bool.and_eq_true, decide_eq_true_eq] at h3
      obtain ⟨⟨⟨⟨⟨a1, a2⟩, a3⟩, a4⟩, a5⟩, a6⟩ := h3
      obtain ⟨l, hl⟩ := Int.eq_ofNat_of_zero_le (show 0 ≤ q + 252 by omega)
      have hl : q + 252 = (l : Int) := hl
      refine ⟨c * 2 ^ (q + 200).toNat, Or.inr ⟨c, l, ?_, a5, a6, by omega, by omega, ?_⟩, a4, Or.inr a3⟩
      · rw [e, show q = (l : Int) - 252 by omega]
      · rw [show (q + 200).toNat = l - 52 by omega]
  · cases h3
/-- interest is added -/
theorem int_add {ow : UInt64} {n d r : Int} (ho : owV ow n) (hn : n ≤ 1125899906842624 * 2 ^ 80) (hd : 0 ≤ d ∧ d ≤ 1125899906842624) (hr : 0 ≤ r ∧ r ≤ 1000) :
    okD (yrOf r) ∧ okD (FP.dmul (FP.l2d (jL d)) (yrOf r)) ∧ okD (FP.ddiv (FP.dmul (FP.l2d (jL d)) (yrOf r)) 4645128764097822720) ∧ okD (FP.dadd ow (FP.ddiv (FP.dmul (FP.l2d (jL d)) (yrOf r)) 4645128764097822720)) ∧ owV (FP.dadd ow (FP.ddiv (FP.dmul (FP.l2d (jL d)) (yrOf r)) 4645128764097822720)) (n + d * 2 ^ 72 + 2 ^ 80) := by
  obtain ⟨-, -, V2, y1, y2, y3⟩ := rate_dv hr
  obtain ⟨h0, V0, o1, o2⟩ := ho
  have hl := dv_l2d hd
  obtain ⟨k, hk⟩ := Int.eq_ofNat_of_zero_le hd.1
  have hk : d = (k : Int) := hk
  subst hk
  rw [Int.toNat_natCast] at hl
  have p1 : k * V2 ≤ k * 2 ^ 200 := Nat.mul_le_mul_left _ y2
  have p2 : k = 0 ∨ V2 = 0 ∨ 2 ^ 190 ≤ k * V2 := by
    rcases Nat.eq_zero_or_pos k with g | g
    · exact Or.inl g
    · rcases y3 with y3 | y3
      · exact Or.inr (Or.inl y3)
      · right; right
        calc 2 ^ 190 ≤ V2 := y3
          _ = 1 * V2 := (Nat.one_mul _).symm
          _ ≤ k * V2 := Nat.mul_le_mul_right _ g
  have p3 : k * V2 = 0 ∨ 2 ^ 190 ≤ k * V2 := by
    rcases p2 with g | g | g
    · left; rw [g, Nat.zero_mul]
    · left; rw [g, Nat.mul_zero]
    · exact Or.inr g
  obtain ⟨V3, m1, m2, m3⟩ := dv_mul (X := k * V2) hl y1 (by ac_rfl) (by omega) (by omega)
  have q1 := m2 k 200 (by omega) p1
  have q2 : V3 = 0 ∨ 2 ^ 190 ≤ V3 := by
    rcases p3 with g | g
    · left
      have := m2 0 0 (by omega) (by omega)
      omega
    · right
      have := m3 1 190 (by omega) (by omega)
      omega
  obtain ⟨V4, d1, d2, d3⟩ := dv_div m1 (by omega) (by omega)
  have q3 := d2 k 192 (by omega) (by omega)
  have hV0 : V0 ≤ 2 ^ 250 := by omega
  obtain ⟨V5, a1, a2, a3⟩ := dv_add o1 d1 (by omega)
  have q4 := a2 ((V0 + V4) / 2 ^ 200 + 1) 200 (by omega) (by omega)
  refine ⟨dv_okD y1, dv_okD m1, dv_okD d1, dv_okD a1, by omega, V5, a1, ?_⟩
  omega
/-- interest is taken -/
theorem int_take {ow : UInt64} {n : Int} (ho : owV ow n) (hn : n ≤ 1125899906842624 * 2 ^ 80) :
    0 ≤ d2lI ow ∧ d2lI ow * 2 ^ 80 ≤ n ∧ okD (FP.dsub ow (FP.l2d (jL (d2lI ow)))) ∧ owV (FP.dsub ow (FP.l2d (jL (d2lI ow)))) (n - d2lI ow * 2 ^ 80) := by
  obtain ⟨h0, V0, o1, o2⟩ := ho
  have hV0 : V0 ≤ 2 ^ 250 := by omega
  have hf := dv_floor o1 (by omega)
  have hdm : 2 ^ 200 * (V0 / 2 ^ 200) + V0 % 2 ^ 200 = V0 := Nat.div_add_mod _ _
  have hml : V0 % 2 ^ 200 < 2 ^ 200 := Nat.mod_lt _ (Nat.two_pow_pos _)
  have hl : dv (FP.l2d (jL (d2lI ow))) (V0 / 2 ^ 200 * 2 ^ 200) := by
    have := dv_l2d (d := d2lI ow) (by rw [hf]; omega)
    rw [hf] at this ⊢
    rw [Int.toNat_natCast] at this
    exact this
  have key : ∃ M G : Nat, M ≤ 2 ^ 53 ∧ V0 % 2 ^ 200 = M * 2 ^ G ∧ (V0 % 2 ^ 200 = 0 ∨ 2 ^ 120 ≤ V0 % 2 ^ 200) := by
    rcases o1 with ⟨z, -⟩ | ⟨c, l, c1, c2, c3, c4, c5, c6⟩
    · exact ⟨0, 0, by omega, by rw [z], Or.inl (by rw [z])⟩
    · by_cases g : 200 ≤ l - 52
      · have : V0 % 2 ^ 200 = 0 := by
          rw [c6, show l - 52 = (l - 52 - 200) + 200 by omega, Nat.pow_add, ← Nat.mul_assoc, Nat.mul_mod_left]
        exact ⟨0, 0, by omega, by rw [this], Or.inl this⟩
      · have e1 : V0 % 2 ^ 200 = (c % 2 ^ (200 - (l - 52))) * 2 ^ (l - 52) := by
          have e2 : 2 ^ 200 = 2 ^ (200 - (l - 52)) * 2 ^ (l - 52) := by rw [← Nat.pow_add]; congr 1; omega
          rw [c6, e2, Nat.mul_mod_mul_right]
        refine ⟨c % 2 ^ (200 - (l - 52)), l - 52, Nat.le_trans (Nat.mod_le _ _) (Nat.le_of_lt c3), e1, ?_⟩
        by_cases z : c % 2 ^ (200 - (l - 52)) = 0
        · left
          rw [e1, z, Nat.zero_mul]
        · right
          by_cases w : 172 ≤ l
          · rw [e1]
            calc 2 ^ 120 ≤ 2 ^ (l - 52) := Nat.pow_le_pow_right (by omega) (by omega)
              _ = 1 * 2 ^ (l - 52) := (Nat.one_mul _).symm
              _ ≤ c % 2 ^ (200 - (l - 52)) * 2 ^ (l - 52) := Nat.mul_le_mul_right _ (by omega)
          · have e3 : V0 < 2 ^ 200 := by
              rw [c6]
              calc c * 2 ^ (l - 52) < 2 ^ 53 * 2 ^ (l - 52) := Nat.mul_lt_mul_of_pos_right c3 (Nat.two_pow_pos _)
                _ = 2 ^ (53 + (l - 52)) := by rw [← Nat.pow_add]
                _ ≤ 2 ^ 200 := Nat.pow_le_pow_right (by omega) (by omega)
            rw [Nat.mod_eq_of_lt e3, c6]
            calc 2 ^ 120 ≤ 2 ^ 52 * 2 ^ (l - 52) := by rw [← Nat.pow_add]; exact Nat.pow_le_pow_right (by omega) (by omega)
              _ ≤ c * 2 ^ (l - 52) := Nat.mul_le_mul_right _ c2
  obtain ⟨M, G, k1, k2, k3⟩ := key
  have es : V0 - V0 / 2 ^ 200 * 2 ^ 200 = V0 % 2 ^ 200 := by omega
  obtain ⟨Y, s1, s2, s3⟩ := dv_sub o1 hl (by omega) (by rw [es]; exact k3) (by omega)
  have q := s2 M G k1 (by rw [es, k2]; exact Nat.le_refl _)
  rw [← k2] at q
  refine ⟨by omega, by omega, dv_okD s1, by omega, Y, s1, by omega⟩

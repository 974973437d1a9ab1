/-! ===== doubles: what interest needs ===== -/
/-- the place of the leading digit, in units -/
theorem fp_leadUs {A B X s : Nat} {e : Int} (hA : 0 < A) (hB : 0 < B) (he : -200 ≤ e + s) (hX : X * 2 ^ s = A * 2 ^ (e + 200 + s).toNat) (h1 : B * 2 ^ 120 ≤ X) (h2 : X < B * 2 ^ 255) : ∃ l : Nat, FP.Core.leading A B + e + 200 = l ∧ 120 ≤ l ∧ l ≤ 254 ∧ B * 2 ^ l ≤ X ∧ X < B * 2 ^ (l + 1) := by
  obtain ⟨s1, s2⟩ := fp_lead hA hB
  generalize FP.Core.leading A B = k at *
  have hp : 1 ≤ 2 ^ 120 := Nat.one_le_two_pow
  by_cases g : 0 ≤ k + e + 200
  · obtain ⟨l, hl⟩ := Int.eq_ofNat_of_zero_le g
    have hl : k + e + 200 = (l : Int) := hl
    have hs : 0 < 2 ^ s := Nat.two_pow_pos _
    have u1 : B * 2 ^ l ≤ X := by
      refine Nat.le_of_mul_le_mul_right ?_ hs
      rw [hX]
      by_cases q : 0 ≤ k
      · rw [show (-k).toNat = 0 by omega, Nat.pow_zero, Nat.mul_one] at s1
        calc B * 2 ^ l * 2 ^ s = B * 2 ^ k.toNat * 2 ^ (e + 200 + s).toNat := by rw [Nat.mul_assoc, Nat.mul_assoc, ← Nat.pow_add, ← Nat.pow_add]; congr 2; omega
          _ ≤ A * 2 ^ (e + 200 + s).toNat := Nat.mul_le_mul_right _ s1
      · rw [show k.toNat = 0 by omega, Nat.pow_zero, Nat.mul_one] at s1
        calc B * 2 ^ l * 2 ^ s = B * (2 ^ l * 2 ^ s) := Nat.mul_assoc _ _ _
          _ ≤ A * 2 ^ (-k).toNat * (2 ^ l * 2 ^ s) := Nat.mul_le_mul_right _ s1
          _ = A * 2 ^ (e + 200 + s).toNat := by rw [Nat.mul_assoc, ← Nat.pow_add, ← Nat.pow_add]; congr 2; omega
    have u2 : X < B * 2 ^ (l + 1) := by
      refine Nat.lt_of_mul_lt_mul_right (a := 2 ^ s) ?_
      rw [hX]
      by_cases q : 0 ≤ k
      · rw [show (-k - 1).toNat = 0 by omega, Nat.pow_zero, Nat.mul_one] at s2
        calc A * 2 ^ (e + 200 + s).toNat < B * 2 ^ (k + 1).toNat * 2 ^ (e + 200 + s).toNat := Nat.mul_lt_mul_of_pos_right s2 (Nat.two_pow_pos _)
          _ = B * 2 ^ (l + 1) * 2 ^ s := by rw [Nat.mul_assoc, Nat.mul_assoc, ← Nat.pow_add, ← Nat.pow_add]; congr 2; omega
      · rw [show (k + 1).toNat = 0 by omega, Nat.pow_zero, Nat.mul_one] at s2
        calc A * 2 ^ (e + 200 + s).toNat = A * 2 ^ (-k - 1).toNat * (2 ^ (l + 1) * 2 ^ s) := by rw [Nat.mul_assoc, ← Nat.pow_add, ← Nat.pow_add]; congr 2; omega
          _ < B * (2 ^ (l + 1) * 2 ^ s) := Nat.mul_lt_mul_of_pos_right s2 (Nat.mul_pos (Nat.two_pow_pos _) hs)
          _ = B * 2 ^ (l + 1) * 2 ^ s := (Nat.mul_assoc _ _ _).symm
    refine ⟨l, hl, ?_, ?_, u1, u2⟩
    · by_cases q : 120 ≤ l
      · exact q
      · exfalso
        have : B * 2 ^ (l + 1) ≤ B * 2 ^ 120 := Nat.mul_le_mul_left _ (Nat.pow_le_pow_right (by omega) (by omega))
        omega
    · by_cases q : l ≤ 254
      · exact q
      · exfalso
        have : B * 2 ^ 255 ≤ B * 2 ^ l := Nat.mul_le_mul_left _ (Nat.pow_le_pow_right (by omega) (by omega))
        omega
  · exfalso
    have hs : 0 < 2 ^ s := Nat.two_pow_pos _
    have c1 : X * 2 ^ s < B * 2 ^ s := by
      rw [hX]
      by_cases q : 0 ≤ k
      · rw [show (-k - 1).toNat = 0 by omega, Nat.pow_zero, Nat.mul_one] at s2
        calc A * 2 ^ (e + 200 + s).toNat < B * 2 ^ (k + 1).toNat * 2 ^ (e + 200 + s).toNat := Nat.mul_lt_mul_of_pos_right s2 (Nat.two_pow_pos _)
          _ ≤ B * 2 ^ s := by rw [Nat.mul_assoc, ← Nat.pow_add]; exact Nat.mul_le_mul_left _ (Nat.pow_le_pow_right (by omega) (by omega))
      · rw [show (k + 1).toNat = 0 by omega, Nat.pow_zero, Nat.mul_one] at s2
        calc A * 2 ^ (e + 200 + s).toNat ≤ A * 2 ^ (-k - 1).toNat * 2 ^ s := by rw [Nat.mul_assoc, ← Nat.pow_add]; exact Nat.mul_le_mul_left _ (Nat.pow_le_pow_right (by omega) (by omega))
          _ < B * 2 ^ s := Nat.mul_lt_mul_of_pos_right s2 hs
    have c2 : X < B := Nat.lt_of_mul_lt_mul_right c1
    have c3 : B * 1 ≤ B * 2 ^ 120 := Nat.mul_le_mul_left _ hp
    omega
/-- a rounded quotient: below and above whatever has at most 53 digits -/
theorem fp_rrs {A B X s : Nat} {e : Int} (hA : 0 < A) (hB : 0 < B) (he : -200 ≤ e + s) (hX : X * 2 ^ s = A * 2 ^ (e + 200 + s).toNat) (h1 : B * 2 ^ 120 ≤ X) (h2 : X < B * 2 ^ 255) :
    ∃ c l : Nat, FP.Core.roundRatio FP.Core.b64 false A B e = .fin false c ((l : Int) - 252) ∧ 2 ^ 52 ≤ c ∧ c < 2 ^ 53 ∧ 120 ≤ l ∧ l ≤ 255 ∧ (∀ M G : Nat, M ≤ 2 ^ 53 → X ≤ B * (M * 2 ^ G) → c * 2 ^ (l - 52) ≤ M * 2 ^ G) ∧ ∀ M G : Nat, M ≤ 2 ^ 53 → B * (M * 2 ^ G) ≤ X → M * 2 ^ G ≤ c * 2 ^ (l - 52) := by
  obtain ⟨l, hl, l1, l2, u1, u2⟩ := fp_leadUs hA hB he hX h1 h2
  have hq : FP.Core.quantum FP.Core.b64 A B e = (l : Int) - 252 := by
    unfold FP.Core.quantum
    rw [show FP.Core.b64.qmin = -1074 by decide, show (FP.Core.b64.p : Int) - 1 = 52 by decide]
    omega
  -- units
  have hAD : FP.Core.unitsNum A e ((l : Int) - 252) * (B * 2 ^ (l - 52)) = FP.Core.unitsDen B e ((l : Int) - 252) * X := by
    refine Nat.eq_of_mul_eq_mul_right (Nat.two_pow_pos s) ?_
    rw [Nat.mul_assoc (FP.Core.unitsDen B e ((l : Int) - 252)), hX]
    unfold FP.Core.unitsNum FP.Core.unitsDen
    by_cases g : (l : Int) - 252 ≤ e
    · rw [show ((l : Int) - 252 - e).toNat = 0 by omega, Nat.pow_zero, Nat.mul_one]
      rw [show (e + 200 + s).toNat = (e - ((l : Int) - 252)).toNat + (l - 52) + s by omega, Nat.pow_add, Nat.pow_add]
      ac_rfl
    · rw [show (e - ((l : Int) - 252)).toNat = 0 by omega, Nat.pow_zero, Nat.mul_one]
      have e1 : 2 ^ (l - 52) * 2 ^ s = 2 ^ ((l : Int) - 252 - e).toNat * 2 ^ (e + 200 + s).toNat := by rw [← Nat.pow_add, ← Nat.pow_add]; congr 1; omega
      calc A * (B * 2 ^ (l - 52)) * 2 ^ s = A * B * (2 ^ (l - 52) * 2 ^ s) := by ac_rfl
        _ = A * B * (2 ^ ((l : Int) - 252 - e).toNat * 2 ^ (e + 200 + s).toNat) := by rw [e1]
        _ = B * 2 ^ ((l : Int) - 252 - e).toNat * (A * 2 ^ (e + 200 + s).toNat) := by ac_rfl
  have hU : 0 < FP.Core.unitsDen B e ((l : Int) - 252) := Nat.mul_pos hB (Nat.two_pow_pos _)
  have hD : 0 < B * 2 ^ (l - 52) := Nat.mul_pos hB (Nat.two_pow_pos _)
  generalize hA' : FP.Core.unitsNum A e ((l : Int) - 252) = A' at *
  generalize hB' : FP.Core.unitsDen B e ((l : Int) - 252) = B' at *
  have up : ∀ M : Nat, X ≤ B * (M * 2 ^ (l - 52)) → FP.Core.nearest A' B' ≤ M := fun M h => by
    refine fp_nle hU (Nat.le_of_mul_le_mul_right ?_ hD)
    rw [hAD]
    calc B' * X ≤ B' * (B * (M * 2 ^ (l - 52))) := Nat.mul_le_mul_left _ h
      _ = M * B' * (B * 2 ^ (l - 52)) := by ac_rfl
  have dn : ∀ M : Nat, B * (M * 2 ^ (l - 52)) ≤ X → M ≤ FP.Core.nearest A' B' := fun M h => by
    refine fp_nge hU (Nat.le_of_mul_le_mul_right ?_ hD)
    rw [hAD]
    calc M * B' * (B * 2 ^ (l - 52)) = B' * (B * (M * 2 ^ (l - 52))) := by ac_rfl
      _ ≤ B' * X := Nat.mul_le_mul_left _ h
  have el : 2 ^ 52 * 2 ^ (l - 52) = 2 ^ l := by rw [← Nat.pow_add]; congr 1; omega
  have el1 : 2 ^ 53 * 2 ^ (l - 52) = 2 ^ (l + 1) := by rw [← Nat.pow_add]; congr 1; omega
  have n1 : 2 ^ 52 ≤ FP.Core.nearest A' B' := dn _ (by rw [el]; exact u1)
  have n2 : FP.Core.nearest A' B' ≤ 2 ^ 53 := up _ (by rw [el1]; exact Nat.le_of_lt u2)
  have b1 : ∀ M G : Nat, M ≤ 2 ^ 53 → X ≤ B * (M * 2 ^ G) → FP.Core.nearest A' B' * 2 ^ (l - 52) ≤ M * 2 ^ G := fun M G hM h => by
    by_cases g : l - 52 ≤ G
    · have e1 : M * 2 ^ G = M * 2 ^ (G - (l - 52)) * 2 ^ (l - 52) := by rw [Nat.mul_assoc, ← Nat.pow_add]; congr 2; omega
      rw [e1] at h ⊢
      exact Nat.mul_le_mul_right _ (up _ h)
    · have e2 : M * 2 ^ G ≤ 2 ^ l := by
        calc M * 2 ^ G ≤ 2 ^ 53 * 2 ^ G := Nat.mul_le_mul_right _ hM
          _ = 2 ^ (53 + G) := by rw [← Nat.pow_add]
          _ ≤ 2 ^ l := Nat.pow_le_pow_right (by omega) (by omega)
      have e3 : 2 ^ l ≤ M * 2 ^ G := Nat.le_of_mul_le_mul_left (Nat.le_trans u1 h) hB
      have e4 : FP.Core.nearest A' B' ≤ 2 ^ 52 := up _ (by rw [el]; exact Nat.le_trans h (Nat.mul_le_mul_left _ e2))
      calc FP.Core.nearest A' B' * 2 ^ (l - 52) ≤ 2 ^ 52 * 2 ^ (l - 52) := Nat.mul_le_mul_right _ e4
        _ = 2 ^ l := el
        _ ≤ M * 2 ^ G := e3
  have b2 : ∀ M G : Nat, M ≤ 2 ^ 53 → B * (M * 2 ^ G) ≤ X → M * 2 ^ G ≤ FP.Core.nearest A' B' * 2 ^ (l - 52) := fun M G hM h => by
    by_cases g : l - 52 ≤ G
    · have e1 : M * 2 ^ G = M * 2 ^ (G - (l - 52)) * 2 ^ (l - 52) := by rw [Nat.mul_assoc, ← Nat.pow_add]; congr 2; omega
      rw [e1] at h ⊢
      exact Nat.mul_le_mul_right _ (dn _ h)
    · calc M * 2 ^ G ≤ 2 ^ 53 * 2 ^ G := Nat.mul_le_mul_right _ hM
          _ = 2 ^ (53 + G) := by rw [← Nat.pow_add]
          _ ≤ 2 ^ l := Nat.pow_le_pow_right (by omega) (by omega)
          _ = 2 ^ 52 * 2 ^ (l - 52) := el.symm
          _ ≤ FP.Core.nearest A' B' * 2 ^ (l - 52) := Nat.mul_le_mul_right _ n1
  have er : FP.Core.roundRatio FP.Core.b64 false A B e = FP.Core.settle FP.Core.b64 false (FP.Core.nearest A' B') ((l : Int) - 252) := by
    unfold FP.Core.roundRatio FP.Core.roundAt
    rw [if_neg (by omega), hq, hA', hB']
  rw [er]
  unfold FP.Core.settle FP.Core.bound
  rw [show FP.Core.b64.qmax = 971 by decide, show FP.Core.b64.p = 53 by decide]
  by_cases g : FP.Core.nearest A' B' < 2 ^ 53
  · rw [if_pos g, if_pos (by omega)]
    exact ⟨_, l, rfl, n1, g, l1, by omega, b1, b2⟩
  · rw [if_neg g, if_pos (by omega)]
    have e5 : FP.Core.nearest A' B' = 2 ^ 53 := by omega
    rw [e5] at b1 b2
    have e6 : 2 ^ 53 * 2 ^ (l - 52) = 2 ^ 52 * 2 ^ (l + 1 - 52) := by rw [← Nat.pow_add, ← Nat.pow_add]; congr 1; omega
    rw [e6] at b1 b2
    refine ⟨2 ^ 52, l + 1, ?_, Nat.le_refl _, by omega, by omega, by omega, b1, b2⟩
    rw [show FP.Core.b64.tails = 2 ^ 52 by decide, show (l : Int) - 252 + 1 = ((l + 1 : Nat) : Int) - 252 by omega]
/-- rounding where the exponent may be small -/
theorem dv_rs {A B X s : Nat} {e : Int} {v : UInt64} (hv : v = UInt64.ofNat (FP.Core.encode FP.Core.b64 (FP.Core.roundRatio FP.Core.b64 false A B e))) (hB : 0 < B) (he : -200 ≤ e + s) (hX : X * 2 ^ s = A * 2 ^ (e + 200 + s).toNat) (h1 : B * 2 ^ 120 ≤ X) (h2 : X < B * 2 ^ 255) :
    ∃ V : Nat, dv v V ∧ (∀ M G : Nat, M ≤ 2 ^ 53 → X ≤ B * (M * 2 ^ G) → V ≤ M * 2 ^ G) ∧ ∀ M G : Nat, M ≤ 2 ^ 53 → B * (M * 2 ^ G) ≤ X → M * 2 ^ G ≤ V := by
  have hA : 0 < A := by
    rcases Nat.eq_zero_or_pos A with q | q
    · rw [q, Nat.zero_mul] at hX
      have h3 : 0 < B * 2 ^ 120 := Nat.mul_pos hB (Nat.two_pow_pos _)
      have h4 : 0 < X * 2 ^ s := Nat.mul_pos (by omega) (Nat.two_pow_pos _)
      omega
    · exact q
  obtain ⟨c, l, r1, r2, r3, r4, r5, r6, r7⟩ := fp_rrs hA hB he hX h1 h2
  obtain ⟨d1, d2⟩ := fp_de r2 r3 ⟨r4, r5⟩
  refine ⟨c * 2 ^ (l - 52), Or.inr ⟨c, l, ?_, r2, r3, r4, r5, rfl⟩, r6, r7⟩
  rw [hv, r1]
  have : (UInt64.ofNat (FP.Core.encode FP.Core.b64 (.fin false c ((l : Int) - 252)))).toNat = FP.Core.encode FP.Core.b64 (.fin false c ((l : Int) - 252)) := by
    rw [UInt64.toNat_ofNat']
    exact Nat.mod_eq_of_lt d2
  rw [this]
  exact d1
/-- the digits of a value -/
theorem dv_dec {v : UInt64} {V : Nat} (h : dv v V) : ∃ (c : Nat) (q : Int), FP.Core.decode FP.Core.b64 v.toNat = .fin false c q ∧ (c = 0 ∨ (-200 ≤ q ∧ 68 ≤ q + 200 ∧ q ≤ 3)) ∧ V = c * 2 ^ (q + 200).toNat ∧ c < 2 ^ 53 := by
  rcases h with ⟨h1, q, h2⟩ | ⟨c, l, h1, h2, h3, h4, h5, h6⟩
  · exact ⟨0, q, h2, Or.inl rfl, by rw [h1, Nat.zero_mul], by decide⟩
  · exact ⟨c, (l : Int) - 252, h1, Or.inr (by omega), by rw [h6, show ((l : Int) - 252 + 200).toNat = l - 52 by omega], h3⟩
theorem dv_big {v : UInt64} {V : Nat} (h : dv v V) : V = 0 ∨ 2 ^ 120 ≤ V := by
  rcases h with ⟨h1, -⟩ | ⟨c, l, h1, h2, h3, h4, h5, h6⟩
  · exact Or.inl h1
  · right
    rw [h6]
    calc 2 ^ 120 ≤ 2 ^ 52 * 2 ^ (l - 52) := by rw [← Nat.pow_add]; exact Nat.pow_le_pow_right (by omega) (by omega)
      _ ≤ c * 2 ^ (l - 52) := Nat.mul_le_mul_right _ h2
/-- a whole number as a double -/
theorem dv_l2d {d : Int} (hd : 0 ≤ d ∧ d ≤ 1125899906842624) : dv (FP.l2d (jL d)) (d.toNat * 2 ^ 200) := by
  have e1 : (jL d).toInt = d := jL_toInt (by omega)
  have ev : FP.l2d (jL d) = UInt64.ofNat (FP.Core.encode FP.Core.b64 (FP.Core.roundRatio FP.Core.b64 false d.toNat 1 0)) := by
    show FP.Core.l2d (jL d) = _
    unfold FP.Core.l2d FP.Core.fromInt FP.Core.ofInt FP.Core.round
    rw [e1, decide_eq_false (show ¬ d < 0 by omega), show d.natAbs = d.toNat by omega]
  by_cases g : d = 0
  · subst g
    have := dv_rr0 ev
    rw [show (0 : Int).toNat * 2 ^ 200 = 0 by decide]
    exact this
  · obtain ⟨V, v1, v2, v3⟩ := dv_rr (X := d.toNat * 2 ^ 200) ev (by omega) (by omega) rfl (by omega) (by omega)
    have h1 := v2 d.toNat 200 (by omega) (by omega)
    have h2 := v3 d.toNat 200 (by omega) (by omega)
    have : V = d.toNat * 2 ^ 200 := by omega
    rw [← this]
    exact v1
/-- a product -/
theorem dv_mul {a b : UInt64} {V W X : Nat} (ha : dv a V) (hb : dv b W) (hX : X * 2 ^ 200 = V * W) (h1 : X = 0 ∨ 2 ^ 120 ≤ X) (h2 : X < 2 ^ 255) : ∃ Y : Nat, dv (FP.dmul a b) Y ∧ (∀ M G : Nat, M ≤ 2 ^ 53 → X ≤ M * 2 ^ G → Y ≤ M * 2 ^ G) ∧ ∀ M G : Nat, M ≤ 2 ^ 53 → M * 2 ^ G ≤ X → M * 2 ^ G ≤ Y := by
  obtain ⟨c, q, a1, a2, a3, a4⟩ := dv_dec ha
  obtain ⟨d, r, b1, b2, b3, b4⟩ := dv_dec hb
  have ev : FP.dmul a b = UInt64.ofNat (FP.Core.encode FP.Core.b64 (FP.Core.roundRatio FP.Core.b64 false (c * d) 1 (q + r))) := by
    show FP.Core.dmul a b = _
    unfold FP.Core.dmul FP.Core.mul
    rw [a1, b1]
    rfl
  rcases h1 with h1 | h1
  · have hz : c * d = 0 := by
      rw [h1, Nat.zero_mul, a3, b3] at hX
      have p1 : 0 < 2 ^ (q + 200).toNat := Nat.two_pow_pos _
      have p2 : 0 < 2 ^ (r + 200).toNat := Nat.two_pow_pos _
      rcases Nat.eq_zero_or_pos c with q1 | q1
      · rw [q1, Nat.zero_mul]
      · rcases Nat.eq_zero_or_pos d with q2 | q2
        · rw [q2, Nat.mul_zero]
        · have := Nat.mul_pos (Nat.mul_pos q1 p1) (Nat.mul_pos q2 p2)
          omega
    rw [hz] at ev
    refine ⟨0, dv_rr0 ev, fun M G _ _ => Nat.zero_le _, fun M G _ h => by omega⟩
  · have hc : ¬ c = 0 := fun z => by
      rw [a3, z, Nat.zero_mul, Nat.zero_mul] at hX
      have : 0 < X * 2 ^ 200 := Nat.mul_pos (by omega) (Nat.two_pow_pos _)
      omega
    have hd : ¬ d = 0 := fun z => by
      rw [b3, z, Nat.zero_mul, Nat.mul_zero] at hX
      have : 0 < X * 2 ^ 200 := Nat.mul_pos (by omega) (Nat.two_pow_pos _)
      omega
    have a2 : -200 ≤ q ∧ 68 ≤ q + 200 ∧ q ≤ 3 := by omega
    have b2 : -200 ≤ r ∧ 68 ≤ r + 200 ∧ r ≤ 3 := by omega
    obtain ⟨Y, y1, y2, y3⟩ := dv_rs (X := X) (s := 200) ev (by omega) (by omega) (by
      rw [hX, a3, b3]
      have : 2 ^ (q + r + 200 + (200 : Nat)).toNat = 2 ^ (q + 200).toNat * 2 ^ (r + 200).toNat := by rw [← Nat.pow_add]; congr 1; omega
      rw [this]
      ac_rfl) (by omega) (by omega)
    exact ⟨Y, y1, fun M G h3 h4 => y2 M G h3 (by omega), fun M G h3 h4 => y3 M G h3 (by omega)⟩
/-- a sum -/
theorem dv_add {a b : UInt64} {V W : Nat} (ha : dv a V) (hb : dv b W) (h2 : V + W < 2 ^ 255) : ∃ Y : Nat, dv (FP.dadd a b) Y ∧ (∀ M G : Nat, M ≤ 2 ^ 53 → V + W ≤ M * 2 ^ G → Y ≤ M * 2 ^ G) ∧ ∀ M G : Nat, M ≤ 2 ^ 53 → M * 2 ^ G ≤ V + W → M * 2 ^ G ≤ Y := by
  have hV := dv_big ha
  have hW := dv_big hb
  obtain ⟨c, q, a1, a2, a3, a4⟩ := dv_dec ha
  obtain ⟨d, r, b1, b2, b3, b4⟩ := dv_dec hb
  have es : FP.Core.sumUnits false c q false d r (min q r) = ((FP.Core.inUnits c q (min q r) + FP.Core.inUnits d r (min q r) : Nat) : Int) := by
    unfold FP.Core.sumUnits FP.Core.signed
    simp
  have ev : FP.dadd a b = UInt64.ofNat (FP.Core.encode FP.Core.b64 (FP.Core.roundRatio FP.Core.b64 false (FP.Core.inUnits c q (min q r) + FP.Core.inUnits d r (min q r)) 1 (min q r))) := by
    show FP.Core.dadd a b = _
    unfold FP.Core.dadd FP.Core.add
    rw [a1, b1]
    show UInt64.ofNat (FP.Core.encode FP.Core.b64 (FP.Core.round FP.Core.b64 (FP.Core.Datum.fin (FP.Core.sumSign false false (FP.Core.sumUnits false c q false d r (min q r))) (FP.Core.sumUnits false c q false d r (min q r)).natAbs (min q r)))) = _
    rw [es]
    have sg : FP.Core.sumSign false false (((FP.Core.inUnits c q (min q r) + FP.Core.inUnits d r (min q r) : Nat) : Int)) = false := by
      unfold FP.Core.sumSign
      split
      · rfl
      · exact decide_eq_false (by omega)
    rw [sg, Int.natAbs_natCast]
    rfl
  have hs : ∃ s : Nat, -200 ≤ min q r + (s : Int) := ⟨(-200 - min q r).toNat, by omega⟩
  obtain ⟨s, hs⟩ := hs
  have term : ∀ (k : Nat) (x : Int), min q r ≤ x → (k = 0 ∨ -200 ≤ x) → FP.Core.inUnits k x (min q r) * 2 ^ (min q r + 200 + s).toNat = k * 2 ^ (x + 200).toNat * 2 ^ s := fun k x h3 h4 => by
    unfold FP.Core.inUnits
    rcases h4 with h4 | h4
    · rw [h4]
      simp
    · rw [Nat.mul_assoc, Nat.mul_assoc, ← Nat.pow_add, ← Nat.pow_add]
      congr 2
      omega
  have hX : (V + W) * 2 ^ s = (FP.Core.inUnits c q (min q r) + FP.Core.inUnits d r (min q r)) * 2 ^ (min q r + 200 + s).toNat := by
    rw [Nat.add_mul, Nat.add_mul, term c q (by omega) (by omega), term d r (by omega) (by omega), a3, b3]
  by_cases g : V + W = 0
  · have hz : FP.Core.inUnits c q (min q r) + FP.Core.inUnits d r (min q r) = 0 := by
      rw [g, Nat.zero_mul] at hX
      have p2 : 0 < 2 ^ (min q r + 200 + s).toNat := Nat.two_pow_pos _
      rcases Nat.eq_zero_or_pos (FP.Core.inUnits c q (min q r) + FP.Core.inUnits d r (min q r)) with q1 | q1
      · exact q1
      · have := Nat.mul_pos q1 p2
        omega
    rw [hz] at ev
    exact ⟨0, dv_rr0 ev, fun M G _ _ => Nat.zero_le _, fun M G _ h => by omega⟩
  · obtain ⟨Y, y1, y2, y3⟩ := dv_rs (X := V + W) (s := s) ev (by omega) hs hX (by omega) (by omega)
    exact ⟨Y, y1, fun M G h3 h4 => y2 M G h3 (by omega), fun M G h3 h4 => y3 M G h3 (by omega)⟩
/-- a difference that is not below 0 -/
theorem dv_sub {a b : UInt64} {V W : Nat} (ha : dv a V) (hb : dv b W) (hWV : W ≤ V) (h1 : V - W = 0 ∨ 2 ^ 120 ≤ V - W) (h2 : V - W < 2 ^ 255) : ∃ Y : Nat, dv (FP.dsub a b) Y ∧ (∀ M G : Nat, M ≤ 2 ^ 53 → V - W ≤ M * 2 ^ G → Y ≤ M * 2 ^ G) ∧ ∀ M G : Nat, M ≤ 2 ^ 53 → M * 2 ^ G ≤ V - W → M * 2 ^ G ≤ Y := by
  obtain ⟨c, q, a1, a2, a3, a4⟩ := dv_dec ha
  obtain ⟨d, r, b1, b2, b3, b4⟩ := dv_dec hb
  have hs : ∃ s : Nat, -200 ≤ min q r + (s : Int) := ⟨(-200 - min q r).toNat, by omega⟩
  obtain ⟨s, hs⟩ := hs
  have term : ∀ (k : Nat) (x : Int), min q r ≤ x → (k = 0 ∨ -200 ≤ x) → FP.Core.inUnits k x (min q r) * 2 ^ (min q r + 200 + s).toNat = k * 2 ^ (x + 200).toNat * 2 ^ s := fun k x h3 h4 => by
    unfold FP.Core.inUnits
    rcases h4 with h4 | h4
    · rw [h4]
      simp
    · rw [Nat.mul_assoc, Nat.mul_assoc, ← Nat.pow_add, ← Nat.pow_add]
      congr 2
      omega
  have t1 := term c q (by omega) (by omega)
  have t2 := term d r (by omega) (by omega)
  rw [← a3] at t1
  rw [← b3] at t2
  have p2 : 0 < 2 ^ (min q r + 200 + s).toNat := Nat.two_pow_pos _
  have hle : FP.Core.inUnits d r (min q r) ≤ FP.Core.inUnits c q (min q r) := by
    refine Nat.le_of_mul_le_mul_right ?_ p2
    rw [t1, t2]
    exact Nat.mul_le_mul_right _ hWV
  have es : FP.Core.sumUnits false c q true d r (min q r) = ((FP.Core.inUnits c q (min q r) - FP.Core.inUnits d r (min q r) : Nat) : Int) := by
    unfold FP.Core.sumUnits FP.Core.signed
    simp
    omega
  have ev : FP.dsub a b = UInt64.ofNat (FP.Core.encode FP.Core.b64 (FP.Core.roundRatio FP.Core.b64 false (FP.Core.inUnits c q (min q r) - FP.Core.inUnits d r (min q r)) 1 (min q r))) := by
    show FP.Core.dsub a b = _
    unfold FP.Core.dsub FP.Core.sub
    rw [a1, b1]
    show UInt64.ofNat (FP.Core.encode FP.Core.b64 (FP.Core.round FP.Core.b64 (FP.Core.Datum.fin (FP.Core.sumSign false true (FP.Core.sumUnits false c q true d r (min q r))) (FP.Core.sumUnits false c q true d r (min q r)).natAbs (min q r)))) = _
    rw [es]
    have sg : FP.Core.sumSign false true (((FP.Core.inUnits c q (min q r) - FP.Core.inUnits d r (min q r) : Nat) : Int)) = false := by
      unfold FP.Core.sumSign
      split
      · rfl
      · exact decide_eq_false (by omega)
    rw [sg, Int.natAbs_natCast]
    rfl
  have hX : (V - W) * 2 ^ s = (FP.Core.inUnits c q (min q r) - FP.Core.inUnits d r (min q r)) * 2 ^ (min q r + 200 + s).toNat := by
    rw [Nat.sub_mul, Nat.sub_mul, t1, t2]
  rcases h1 with g | g
  · have hz : FP.Core.inUnits c q (min q r) - FP.Core.inUnits d r (min q r) = 0 := by
      rw [g, Nat.zero_mul] at hX
      rcases Nat.eq_zero_or_pos (FP.Core.inUnits c q (min q r) - FP.Core.inUnits d r (min q r)) with q1 | q1
      · exact q1
      · have := Nat.mul_pos q1 p2
        omega
    rw [hz] at ev
    exact ⟨0, dv_rr0 ev, fun M G _ _ => Nat.zero_le _, fun M G _ h => by omega⟩
  · obtain ⟨Y, y1, y2, y3⟩ := dv_rs (X := V - W) (s := s) ev (by omega) hs hX (by omega) (by omega)
    exact ⟨Y, y1, fun M G h3 h4 => y2 M G h3 (by omega), fun M G h3 h4 => y3 M G h3 (by omega)⟩
/-- a quotient by 365 -/
theorem dv_div {a : UInt64} {V : Nat} (ha : dv a V) (h1 : V = 0 ∨ 365 * 2 ^ 120 ≤ V) (h2 : V < 2 ^ 255) : ∃ Y : Nat, dv (FP.ddiv a 4645128764097822720) Y ∧ (∀ M G : Nat, M ≤ 2 ^ 53 → V ≤ 365 * (M * 2 ^ G) → Y ≤ M * 2 ^ G) ∧ ∀ M G : Nat, M ≤ 2 ^ 53 → 365 * (M * 2 ^ G) ≤ V → M * 2 ^ G ≤ Y := by
  obtain ⟨c, q, a1, a2, a3, a4⟩ := dv_dec ha
  have hb : FP.Core.decode FP.Core.b64 (4645128764097822720 : UInt64).toNat = .fin false (365 * 2 ^ 44) (-44) := by decide +kernel
  have ev : FP.ddiv a 4645128764097822720 = UInt64.ofNat (FP.Core.encode FP.Core.b64 (FP.Core.roundRatio FP.Core.b64 false c (365 * 2 ^ 44) (q - -44))) := by
    show FP.Core.ddiv a 4645128764097822720 = _
    unfold FP.Core.ddiv FP.Core.div
    rw [a1, hb]
    rfl
  rcases h1 with g | g
  · have hz : c = 0 := by
      rw [g] at a3
      have p2 : 0 < 2 ^ (q + 200).toNat := Nat.two_pow_pos _
      rcases Nat.eq_zero_or_pos c with q1 | q1
      · exact q1
      · have := Nat.mul_pos q1 p2
        omega
    rw [hz] at ev
    exact ⟨0, dv_rr0 ev, fun M G _ _ => Nat.zero_le _, fun M G _ h => by omega⟩
  · have hc : ¬ c = 0 := fun z => by
      rw [z, Nat.zero_mul] at a3
      omega
    obtain ⟨Y, y1, y2, y3⟩ := dv_rr (X := V * 2 ^ 44) ev (by omega) (by omega) (by
      rw [a3, Nat.mul_assoc, ← Nat.pow_add]
      congr 2
      omega) (by omega) (by omega)
    exact ⟨Y, y1, fun M G h3 h4 => y2 M G h3 (by
      calc V * 2 ^ 44 ≤ 365 * (M * 2 ^ G) * 2 ^ 44 := Nat.mul_le_mul_right _ h4
        _ = 365 * 2 ^ 44 * (M * 2 ^ G) := by ac_rfl), fun M G h3 h4 => y3 M G h3 (by
      calc 365 * 2 ^ 44 * (M * 2 ^ G) = 365 * (M * 2 ^ G) * 2 ^ 44 := by ac_rfl
        _ ≤ V * 2 ^ 44 := Nat.mul_le_mul_right _ h4)⟩
/-- the whole part -/
theorem dv_floor {a : UInt64} {V : Nat} (ha : dv a V) (h2 : V < 2 ^ 255) : d2lI a = ((V / 2 ^ 200 : Nat) : Int) := by
  obtain ⟨c, q, a1, a2, a3, a4⟩ := dv_dec ha
  have ht : FP.Core.truncate false c q = ((V / 2 ^ 200 : Nat) : Int) := by
    show ((c * 2 ^ q.toNat / 2 ^ (-q).toNat : Nat) : Int) = _
    congr 1
    rw [a3]
    rcases a2 with a2 | a2
    · rw [a2]
      simp
    · by_cases g : 0 ≤ q
      · rw [show (-q).toNat = 0 by omega, Nat.pow_zero, Nat.div_one, show (q + 200).toNat = q.toNat + 200 by omega, Nat.pow_add, ← Nat.mul_assoc, Nat.mul_div_cancel _ (Nat.two_pow_pos _)]
      · rw [show q.toNat = 0 by omega, Nat.pow_zero, Nat.mul_one]
        have e1 : 2 ^ 200 = 2 ^ (-q).toNat * 2 ^ (q + 200).toNat := by rw [← Nat.pow_add]; congr 1; omega
        rw [e1, Nat.mul_div_mul_right _ _ (Nat.two_pow_pos _)]
  have hb : ((V / 2 ^ 200 : Nat) : Int) ≤ 36028797018963968 := by
    have : V / 2 ^ 200 ≤ 36028797018963968 := by omega
    omega
  unfold d2lI
  show (FP.Core.d2l a).toInt = _
  unfold FP.Core.d2l FP.Core.toL FP.Core.toInt
  rw [a1]
  show (Int64.ofInt (max (-2 ^ 63) (min (2 ^ 63 - 1) (FP.Core.truncate false c q)))).toInt = _
  rw [ht, show max (-2 ^ 63) (min (2 ^ 63 - 1) ((V / 2 ^ 200 : Nat) : Int)) = ((V / 2 ^ 200 : Nat) : Int) by omega]
  exact jL_toInt (by omega)

/-! ===== doubles: rounding, in units of 2 to the -200 ===== -/
theorem fp_nle {A B M : Nat} (hB : 0 < B) (h : A ≤ M * B) : FP.Core.nearest A B ≤ M := by
  have h1 : A / B ≤ M := Nat.div_le_of_le_mul (by rw [Nat.mul_comm]; exact h)
  have h2 := Nat.div_add_mod A B
  unfold FP.Core.nearest
  by_cases g : A / B = M
  · have h3 : A % B = 0 := by
      rw [g, Nat.mul_comm] at h2
      omega
    rw [if_pos (by omega)]
    omega
  · split
    · omega
    · split <;> omega
theorem fp_nge {A B M : Nat} (hB : 0 < B) (h : M * B ≤ A) : M ≤ FP.Core.nearest A B := by
  have h1 : M ≤ A / B := (Nat.le_div_iff_mul_le hB).mpr h
  unfold FP.Core.nearest
  split
  · omega
  · split <;> omega
theorem fp_lead {A B : Nat} (hA : 0 < A) (hB : 0 < B) : B * 2 ^ (FP.Core.leading A B).toNat ≤ A * 2 ^ (-FP.Core.leading A B).toNat ∧ A * 2 ^ (-FP.Core.leading A B - 1).toNat < B * 2 ^ (FP.Core.leading A B + 1).toNat := by
  have a1 : 2 ^ A.log2 ≤ A := Nat.log2_self_le (by omega)
  have a2 : A < 2 ^ (A.log2 + 1) := Nat.lt_log2_self
  have b1 : 2 ^ B.log2 ≤ B := Nat.log2_self_le (by omega)
  have b2 : B < 2 ^ (B.log2 + 1) := Nat.lt_log2_self
  generalize hk : FP.Core.leading A B = k
  unfold FP.Core.leading at hk
  generalize A.log2 = a at *
  generalize B.log2 = b at *
  have hk : (if B * 2 ^ ((a : Int) - b).toNat ≤ A * 2 ^ (-((a : Int) - b)).toNat then ((a : Int) - b) else (a : Int) - b - 1) = k := hk
  by_cases g : B * 2 ^ ((a : Int) - b).toNat ≤ A * 2 ^ (-((a : Int) - b)).toNat
  · rw [if_pos g] at hk
    subst hk
    refine ⟨g, ?_⟩
    by_cases q : b ≤ a
    · rw [show (-((a : Int) - b) - 1).toNat = 0 by omega, show ((a : Int) - b + 1).toNat = a - b + 1 by omega, Nat.pow_zero, Nat.mul_one]
      calc A < 2 ^ (a + 1) := a2
        _ = 2 ^ b * 2 ^ (a - b + 1) := by rw [← Nat.pow_add]; congr 1; omega
        _ ≤ B * 2 ^ (a - b + 1) := Nat.mul_le_mul_right _ b1
    · rw [show (-((a : Int) - b) - 1).toNat = b - a - 1 by omega, show ((a : Int) - b + 1).toNat = 0 by omega, Nat.pow_zero, Nat.mul_one]
      calc A * 2 ^ (b - a - 1) < 2 ^ (a + 1) * 2 ^ (b - a - 1) := Nat.mul_lt_mul_of_pos_right a2 (Nat.two_pow_pos _)
        _ = 2 ^ b := by rw [← Nat.pow_add]; congr 1; omega
        _ ≤ B := b1
  · rw [if_neg g] at hk
    subst hk
    have g : A * 2 ^ (-((a : Int) - b)).toNat < B * 2 ^ ((a : Int) - b).toNat := by omega
    refine ⟨?_, by rw [show (-((a : Int) - b - 1) - 1) = -((a : Int) - b) by omega, show (a : Int) - b - 1 + 1 = (a : Int) - b by omega]; exact g⟩
    by_cases q : b + 1 ≤ a
    · rw [show ((a : Int) - b - 1).toNat = a - b - 1 by omega, show (-((a : Int) - b - 1)).toNat = 0 by omega, Nat.pow_zero, Nat.mul_one]
      calc B * 2 ^ (a - b - 1) ≤ 2 ^ (b + 1) * 2 ^ (a - b - 1) := Nat.mul_le_mul_right _ (by omega)
        _ = 2 ^ a := by rw [← Nat.pow_add]; congr 1; omega
        _ ≤ A := a1
    · rw [show ((a : Int) - b - 1).toNat = 0 by omega, show (-((a : Int) - b - 1)).toNat = b + 1 - a by omega, Nat.pow_zero, Nat.mul_one]
      calc B ≤ 2 ^ (b + 1) := by omega
        _ = 2 ^ a * 2 ^ (b + 1 - a) := by rw [← Nat.pow_add]; congr 1; omega
        _ ≤ A * 2 ^ (b + 1 - a) := Nat.mul_le_mul_right _ a1
/-- the place of the leading digit, in units -/
theorem fp_leadU {A B X : Nat} {e : Int} (hA : 0 < A) (hB : 0 < B) (he : -200 ≤ e) (hX : X = A * 2 ^ (e + 200).toNat) (h1 : B * 2 ^ 120 ≤ X) (h2 : X < B * 2 ^ 255) : ∃ l : Nat, FP.Core.leading A B + e + 200 = l ∧ 120 ≤ l ∧ l ≤ 254 ∧ B * 2 ^ l ≤ X ∧ X < B * 2 ^ (l + 1) := by
  obtain ⟨s1, s2⟩ := fp_lead hA hB
  generalize FP.Core.leading A B = k at *
  have hp : 1 ≤ 2 ^ 120 := Nat.one_le_two_pow
  by_cases g : 0 ≤ k + e + 200
  · obtain ⟨l, hl⟩ := Int.eq_ofNat_of_zero_le g
    have hl : k + e + 200 = (l : Int) := hl
    have u1 : B * 2 ^ l ≤ X := by
      rw [hX]
      by_cases q : 0 ≤ k
      · rw [show (-k).toNat = 0 by omega, Nat.pow_zero, Nat.mul_one] at s1
        calc B * 2 ^ l = B * 2 ^ k.toNat * 2 ^ (e + 200).toNat := by rw [Nat.mul_assoc, ← Nat.pow_add]; congr 2; omega
          _ ≤ A * 2 ^ (e + 200).toNat := Nat.mul_le_mul_right _ s1
      · rw [show k.toNat = 0 by omega, Nat.pow_zero, Nat.mul_one] at s1
        calc B * 2 ^ l ≤ A * 2 ^ (-k).toNat * 2 ^ l := Nat.mul_le_mul_right _ s1
          _ = A * 2 ^ (e + 200).toNat := by rw [Nat.mul_assoc, ← Nat.pow_add]; congr 2; omega
    have u2 : X < B * 2 ^ (l + 1) := by
      rw [hX]
      by_cases q : 0 ≤ k
      · rw [show (-k - 1).toNat = 0 by omega, Nat.pow_zero, Nat.mul_one] at s2
        calc A * 2 ^ (e + 200).toNat < B * 2 ^ (k + 1).toNat * 2 ^ (e + 200).toNat := Nat.mul_lt_mul_of_pos_right s2 (Nat.two_pow_pos _)
          _ = B * 2 ^ (l + 1) := by rw [Nat.mul_assoc, ← Nat.pow_add]; congr 2; omega
      · rw [show (k + 1).toNat = 0 by omega, Nat.pow_zero, Nat.mul_one] at s2
        calc A * 2 ^ (e + 200).toNat = A * 2 ^ (-k - 1).toNat * 2 ^ (l + 1) := by rw [Nat.mul_assoc, ← Nat.pow_add]; congr 2; omega
          _ < B * 2 ^ (l + 1) := Nat.mul_lt_mul_of_pos_right s2 (Nat.two_pow_pos _)
    refine ⟨l, hl, ?_, ?_, u1, u2⟩
    · by_cases q : 120 ≤ l
      · exact q
      · exfalso
        have : B * 2 ^ (l + 1) ≤ B * 2 ^ 120 := Nat.mul_le_mul_left _ (Nat.pow_le_pow_right (by omega) (by omega))
        omega
    · by_cases q : l ≤ 254
      · exact q
      · exfalso
        have : B * 2 ^ 255 ≤ B * 2 ^ l := Nat.mul_le_mul_left _ (Nat.pow_le_pow_right (by omega) (by omega))
        omega
  · exfalso
    rw [show (k + 1).toNat = 0 by omega, Nat.pow_zero, Nat.mul_one] at s2
    have : A * 2 ^ (e + 200).toNat ≤ A * 2 ^ (-k - 1).toNat := Nat.mul_le_mul_left _ (Nat.pow_le_pow_right (by omega) (by omega))
    have : B * 1 ≤ B * 2 ^ 120 := Nat.mul_le_mul_left _ hp
    omega
/-- a rounded quotient: below and above whatever has at most 53 digits -/
theorem fp_rr {A B X : Nat} {e : Int} (hA : 0 < A) (hB : 0 < B) (he : -200 ≤ e) (hX : X = A * 2 ^ (e + 200).toNat) (h1 : B * 2 ^ 120 ≤ X) (h2 : X < B * 2 ^ 255) :
    ∃ c l : Nat, FP.Core.roundRatio FP.Core.b64 false A B e = .fin false c ((l : Int) - 252) ∧ 2 ^ 52 ≤ c ∧ c < 2 ^ 53 ∧ 120 ≤ l ∧ l ≤ 255 ∧ (∀ M G : Nat, M ≤ 2 ^ 53 → X ≤ B * (M * 2 ^ G) → c * 2 ^ (l - 52) ≤ M * 2 ^ G) ∧ ∀ M G : Nat, M ≤ 2 ^ 53 → B * (M * 2 ^ G) ≤ X → M * 2 ^ G ≤ c * 2 ^ (l - 52) := by
  obtain ⟨l, hl, l1, l2, u1, u2⟩ := fp_leadU hA hB he hX h1 h2
  have hq : FP.Core.quantum FP.Core.b64 A B e = (l : Int) - 252 := by
    unfold FP.Core.quantum
    rw [show FP.Core.b64.qmin = -1074 by decide, show (FP.Core.b64.p : Int) - 1 = 52 by decide]
    omega
  -- units
  have hAD : FP.Core.unitsNum A e ((l : Int) - 252) * (B * 2 ^ (l - 52)) = FP.Core.unitsDen B e ((l : Int) - 252) * X := by
    unfold FP.Core.unitsNum FP.Core.unitsDen
    rw [hX]
    by_cases g : (l : Int) - 252 ≤ e
    · rw [show ((l : Int) - 252 - e).toNat = 0 by omega, Nat.pow_zero, Nat.mul_one]
      rw [show (e + 200).toNat = (e - ((l : Int) - 252)).toNat + (l - 52) by omega, Nat.pow_add]
      ac_rfl
    · rw [show (e - ((l : Int) - 252)).toNat = 0 by omega, Nat.pow_zero, Nat.mul_one]
      rw [show l - 52 = ((l : Int) - 252 - e).toNat + (e + 200).toNat by omega, Nat.pow_add]
      ac_rfl
  have hU : 0 < FP.Core.unitsDen B e ((l : Int) - 252) := Nat.mul_pos hB (Nat.two_pow_pos _)
  have hD : 0 < B * 2 ^ (l - 52) := Nat.mul_pos hB (Nat.two_pow_pos _)
  generalize hA' : FP.Core.unitsNum A e ((l : Int) - 252) = A' at *
  generalize hB' : FP.Core.unitsDen B e ((l : Int) - 252) = B' at *
  have up : ∀ M : Nat, X ≤ B * (M * 2 ^ (l - 52)) → FP.Core.nearest A' B' ≤ M := fun M h => by
    refine fp_nle hU (Nat.le_of_mul_le_mul_right ?_ hD)
    rw [hAD]
    calc B' * X ≤ B' * (B * (M * 2 ^ (l - 52))) := Nat.mul_le_mul_left _ h
      _ = M * B' * (B * 2 ^ (l - 52)) := by ac_rfl
  have dn : ∀ M : Nat, B * (M * 2 ^ (l - 52)) ≤ X → M ≤ FP.Core.nearest A' B' := fun M h => by
    refine fp_nge hU (Nat.le_of_mul_le_mul_right ?_ hD)
    rw [hAD]
    calc M * B' * (B * 2 ^ (l - 52)) = B' * (B * (M * 2 ^ (l - 52))) := by ac_rfl
      _ ≤ B' * X := Nat.mul_le_mul_left _ h
  have el : 2 ^ 52 * 2 ^ (l - 52) = 2 ^ l := by rw [← Nat.pow_add]; congr 1; omega
  have el1 : 2 ^ 53 * 2 ^ (l - 52) = 2 ^ (l + 1) := by rw [← Nat.pow_add]; congr 1; omega
  have n1 : 2 ^ 52 ≤ FP.Core.nearest A' B' := dn _ (by rw [el]; exact u1)
  have n2 : FP.Core.nearest A' B' ≤ 2 ^ 53 := up _ (by rw [el1]; exact Nat.le_of_lt u2)
  have b1 : ∀ M G : Nat, M ≤ 2 ^ 53 → X ≤ B * (M * 2 ^ G) → FP.Core.nearest A' B' * 2 ^ (l - 52) ≤ M * 2 ^ G := fun M G hM h => by
    by_cases g : l - 52 ≤ G
    · have e1 : M * 2 ^ G = M * 2 ^ (G - (l - 52)) * 2 ^ (l - 52) := by rw [Nat.mul_assoc, ← Nat.pow_add]; congr 2; omega
      rw [e1] at h ⊢
      exact Nat.mul_le_mul_right _ (up _ h)
    · have e2 : M * 2 ^ G ≤ 2 ^ l := by
        calc M * 2 ^ G ≤ 2 ^ 53 * 2 ^ G := Nat.mul_le_mul_right _ hM
          _ = 2 ^ (53 + G) := by rw [← Nat.pow_add]
          _ ≤ 2 ^ l := Nat.pow_le_pow_right (by omega) (by omega)
      have e3 : 2 ^ l ≤ M * 2 ^ G := Nat.le_of_mul_le_mul_left (Nat.le_trans u1 h) hB
      have e4 : FP.Core.nearest A' B' ≤ 2 ^ 52 := up _ (by rw [el]; exact Nat.le_trans h (Nat.mul_le_mul_left _ e2))
      calc FP.Core.nearest A' B' * 2 ^ (l - 52) ≤ 2 ^ 52 * 2 ^ (l - 52) := Nat.mul_le_mul_right _ e4
        _ = 2 ^ l := el
        _ ≤ M * 2 ^ G := e3
  have b2 : ∀ M G : Nat, M ≤ 2 ^ 53 → B * (M * 2 ^ G) ≤ X → M * 2 ^ G ≤ FP.Core.nearest A' B' * 2 ^ (l - 52) := fun M G hM h => by
    by_cases g : l - 52 ≤ G
    · have e1 : M * 2 ^ G = M * 2 ^ (G - (l - 52)) * 2 ^ (l - 52) := by rw [Nat.mul_assoc, ← Nat.pow_add]; congr 2; omega
      rw [e1] at h ⊢
      exact Nat.mul_le_mul_right _ (dn _ h)
    · calc M * 2 ^ G ≤ 2 ^ 53 * 2 ^ G := Nat.mul_le_mul_right _ hM
          _ = 2 ^ (53 + G) := by rw [← Nat.pow_add]
          _ ≤ 2 ^ l := Nat.pow_le_pow_right (by omega) (by omega)
          _ = 2 ^ 52 * 2 ^ (l - 52) := el.symm
          _ ≤ FP.Core.nearest A' B' * 2 ^ (l - 52) := Nat.mul_le_mul_right _ n1
  have er : FP.Core.roundRatio FP.Core.b64 false A B e = FP.Core.settle FP.Core.b64 false (FP.Core.nearest A' B') ((l : Int) - 252) := by
    unfold FP.Core.roundRatio FP.Core.roundAt
    rw [if_neg (by omega), hq, hA', hB']
  rw [er]
  unfold FP.Core.settle FP.Core.bound
  rw [show FP.Core.b64.qmax = 971 by decide, show FP.Core.b64.p = 53 by decide]
  by_cases g : FP.Core.nearest A' B' < 2 ^ 53
  · rw [if_pos g, if_pos (by omega)]
    exact ⟨_, l, rfl, n1, g, l1, by omega, b1, b2⟩
  · rw [if_neg g, if_pos (by omega)]
    have e5 : FP.Core.nearest A' B' = 2 ^ 53 := by omega
    rw [e5] at b1 b2
    have e6 : 2 ^ 53 * 2 ^ (l - 52) = 2 ^ 52 * 2 ^ (l + 1 - 52) := by rw [← Nat.pow_add, ← Nat.pow_add]; congr 1; omega
    rw [e6] at b1 b2
    refine ⟨2 ^ 52, l + 1, ?_, Nat.le_refl _, by omega, by omega, by omega, b1, b2⟩
    rw [show FP.Core.b64.tails = 2 ^ 52 by decide, show (l : Int) - 252 + 1 = ((l + 1 : Nat) : Int) - 252 by omega]
/-! encodings -/
theorem fp_de {c l : Nat} (h1 : 2 ^ 52 ≤ c) (h2 : c < 2 ^ 53) (h3 : 120 ≤ l ∧ l ≤ 255) : FP.Core.decode FP.Core.b64 (FP.Core.encode FP.Core.b64 (.fin false c ((l : Int) - 252))) = .fin false c ((l : Int) - 252) ∧ FP.Core.encode FP.Core.b64 (.fin false c ((l : Int) - 252)) < 2 ^ 64 := by
  have t : FP.Core.b64.tails = 4503599627370496 := by decide
  have x : FP.Core.b64.exps = 2048 := by decide
  have q : FP.Core.b64.qmin = -1074 := by decide
  have h1 : 4503599627370496 ≤ c := h1
  have h2 : c < 9007199254740992 := h2
  have e : FP.Core.encode FP.Core.b64 (.fin false c ((l : Int) - 252)) = (l + 823) * 4503599627370496 + (c - 4503599627370496) := by
    unfold FP.Core.encode FP.Core.assemble
    rw [t, x, q]
    show (if c < 4503599627370496 then _ else _) = _
    rw [if_neg (by omega), show (false.toNat * 2048 + (((l : Int) - 252 - -1074).toNat + 1)) = l + 823 by simp; omega]
  rw [e]
  refine ⟨?_, by omega⟩
  unfold FP.Core.decode FP.Core.fieldE FP.Core.fieldT FP.Core.fieldS
  rw [t, x, q]
  have f1 : ((l + 823) * 4503599627370496 + (c - 4503599627370496)) / 4503599627370496 = l + 823 := by omega
  have f2 : ((l + 823) * 4503599627370496 + (c - 4503599627370496)) % 4503599627370496 = c - 4503599627370496 := by omega
  rw [f1, f2, show (l + 823) % 2048 = l + 823 by omega, if_neg (by omega), if_neg (by omega), show (l + 823) / 2048 % 2 = 0 by omega]
  show FP.Core.Datum.fin false _ _ = _
  rw [show 4503599627370496 + (c - 4503599627370496) = c by omega, show (-1074 : Int) + (((l + 823 : Nat) : Int) - 1) = (l : Int) - 252 by omega]
/-- a double's value, in units: none, or with 53 digits -/
def dv (v : UInt64) (V : Nat) : Prop := (V = 0 ∧ ∃ q : Int, FP.Core.decode FP.Core.b64 v.toNat = .fin false 0 q) ∨ ∃ c l : Nat, FP.Core.decode FP.Core.b64 v.toNat = .fin false c ((l : Int) - 252) ∧ 2 ^ 52 ≤ c ∧ c < 2 ^ 53 ∧ 120 ≤ l ∧ l ≤ 255 ∧ V = c * 2 ^ (l - 52)
theorem dv_zero : dv FP.dconst0 0 := Or.inl ⟨rfl, -1074, by decide +kernel⟩
/-- what rounding gives, as a double -/
theorem dv_rr {A B X : Nat} {e : Int} {v : UInt64} (hv : v = UInt64.ofNat (FP.Core.encode FP.Core.b64 (FP.Core.roundRatio FP.Core.b64 false A B e))) (hB : 0 < B) (he : -200 ≤ e) (hX : X = A * 2 ^ (e + 200).toNat) (h1 : B * 2 ^ 120 ≤ X) (h2 : X < B * 2 ^ 255) :
    ∃ V : Nat, dv v V ∧ (∀ M G : Nat, M ≤ 2 ^ 53 → X ≤ B * (M * 2 ^ G) → V ≤ M * 2 ^ G) ∧ ∀ M G : Nat, M ≤ 2 ^ 53 → B * (M * 2 ^ G) ≤ X → M * 2 ^ G ≤ V := by
  have hA : 0 < A := by
    rcases Nat.eq_zero_or_pos A with q | q
    · rw [q, Nat.zero_mul] at hX
      have : 0 < B * 2 ^ 120 := Nat.mul_pos hB (Nat.two_pow_pos _)
      omega
    · exact q
  obtain ⟨c, l, r1, r2, r3, r4, r5, r6, r7⟩ := fp_rr hA hB he hX h1 h2
  obtain ⟨d1, d2⟩ := fp_de r2 r3 ⟨r4, r5⟩
  refine ⟨c * 2 ^ (l - 52), Or.inr ⟨c, l, ?_, r2, r3, r4, r5, rfl⟩, r6, r7⟩
  rw [hv, r1]
  have : (UInt64.ofNat (FP.Core.encode FP.Core.b64 (.fin false c ((l : Int) - 252)))).toNat = FP.Core.encode FP.Core.b64 (.fin false c ((l : Int) - 252)) := by
    rw [UInt64.toNat_ofNat']
    exact Nat.mod_eq_of_lt d2
  rw [this]
  exact d1
/-- the value 0 -/
theorem dv_rr0 {B : Nat} {e : Int} {v : UInt64} (hv : v = UInt64.ofNat (FP.Core.encode FP.Core.b64 (FP.Core.roundRatio FP.Core.b64 false 0 B e))) : dv v 0 := by
  have : v = 0 := by
    rw [hv]
    unfold FP.Core.roundRatio
    rw [if_pos rfl]
    decide +kernel
  rw [this]
  exact dv_zero
theorem dv_okD {v : UInt64} {V : Nat} (h : dv v V) : okD v := by
  have t : FP.Core.b64.tails = 4503599627370496 := by decide
  have x : FP.Core.b64.exps = 2048 := by decide
  have hd : ∃ c q, FP.Core.decode FP.Core.b64 v.toNat = .fin false c q := by
    rcases h with ⟨-, q, e⟩ | ⟨c, l, e, -⟩
    · exact ⟨_, _, e⟩
    · exact ⟨_, _, e⟩
  obtain ⟨c, q, e⟩ := hd
  have hE : ¬ v.toNat / 4503599627370496 % 2048 = 2047 := fun g => by
    unfold FP.Core.decode FP.Core.fieldE at e
    rw [t, x, if_pos g] at e
    split at e <;> cases e
  show v &&& 0x7fffffffffffffff ≤ 0x7ff0000000000000
  rw [UInt64.le_iff_toNat_le, UInt64.toNat_and, show (0x7fffffffffffffff : UInt64).toNat = 2 ^ 63 - 1 by decide, Nat.and_two_pow_sub_one_eq_mod, show (0x7ff0000000000000 : UInt64).toNat = 9218868437227405312 by decide]
  omega

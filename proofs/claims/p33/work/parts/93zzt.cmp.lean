/-! ===== owedBits: comparing ===== -/
theorem dv_ord {x y : UInt64} {V W : Nat} (hx : dv x V) (hy : dv y W) : FP.dcmp x y = some (compare (V : Int) (W : Int)) := by
  obtain ⟨c, q, a1, a2, a3, a4⟩ := dv_dec hx
  obtain ⟨d, r, b1, b2, b3, b4⟩ := dv_dec hy
  show FP.Core.cmp FP.Core.b64 x.toNat y.toNat = _
  unfold FP.Core.cmp
  rw [a1, b1]
  show some (compare ((FP.Core.inUnits c q (min q r) : Nat) : Int) ((FP.Core.inUnits d r (min q r) : Nat) : Int)) = _
  unfold FP.Core.inUnits
  have key : ∀ A B : Nat, (A < B ↔ V < W) → (B < A ↔ W < V) → compare (A : Int) (B : Int) = compare (V : Int) (W : Int) := fun A B h1 h2 => by
    show (if (A : Int) < (B : Int) then Ordering.lt else if (A : Int) = (B : Int) then Ordering.eq else Ordering.gt) = (if (V : Int) < (W : Int) then Ordering.lt else if (V : Int) = (W : Int) then Ordering.eq else Ordering.gt)
    by_cases g1 : V < W
    · have := h1.mpr g1
      rw [if_pos (by omega), if_pos (by omega)]
    · have n1 : ¬ A < B := fun z => g1 (h1.mp z)
      by_cases g2 : W < V
      · have := h2.mpr g2
        rw [if_neg (by omega), if_neg (by omega), if_neg (by omega), if_neg (by omega)]
      · have n2 : ¬ B < A := fun z => g2 (h2.mp z)
        rw [if_neg (by omega), if_pos (by omega), if_neg (by omega), if_pos (by omega)]
  refine congrArg some (key _ _ ?_ ?_)
  all_goals
    have p1 : 0 < 2 ^ (q - min q r).toNat := Nat.two_pow_pos _
    have p2 : 0 < 2 ^ (r - min q r).toNat := Nat.two_pow_pos _
    have p3 : 0 < 2 ^ (q + 200).toNat := Nat.two_pow_pos _
    have p4 : 0 < 2 ^ (r + 200).toNat := Nat.two_pow_pos _
    by_cases hc : c = 0
    · subst hc
      rw [Nat.zero_mul] at a3 ⊢
      by_cases hd : d = 0
      · subst hd
        rw [Nat.zero_mul] at b3 ⊢
        omega
      · have z1 := Nat.mul_pos (show 0 < d by omega) p2
        have z2 := Nat.mul_pos (show 0 < d by omega) p4
        omega
    · by_cases hd : d = 0
      · subst hd
        rw [Nat.zero_mul] at b3 ⊢
        have z1 := Nat.mul_pos (show 0 < c by omega) p1
        have z2 := Nat.mul_pos (show 0 < c by omega) p3
        omega
      · have e1 : V = c * 2 ^ (q - min q r).toNat * 2 ^ (min q r + 200).toNat := by
          rw [a3, Nat.mul_assoc, ← Nat.pow_add]
          congr 2
          omega
        have e2 : W = d * 2 ^ (r - min q r).toNat * 2 ^ (min q r + 200).toNat := by
          rw [b3, Nat.mul_assoc, ← Nat.pow_add]
          congr 2
          omega
        have p5 : 0 < 2 ^ (min q r + 200).toNat := Nat.two_pow_pos _
        rw [e1, e2]
        exact (Nat.mul_lt_mul_right p5).symm
theorem dv_cmp {x y : UInt64} {V W : Nat} {op : CmpOp} (hx : dv x V) (hy : dv y W) : dcI x y op = if V < W then -1 else if V = W then 0 else 1 := by
  unfold dcI
  rw [dv_ord hx hy]
  have e : compare (V : Int) (W : Int) = if (V : Int) < (W : Int) then Ordering.lt else if (V : Int) = (W : Int) then Ordering.eq else Ordering.gt := rfl
  rw [e]
  by_cases g1 : V < W
  · rw [if_pos (by omega), if_pos g1]
    cases op <;> rfl
  · rw [if_neg (by omega), if_neg g1]
    by_cases g2 : V = W
    · rw [if_pos (by omega), if_pos g2]
      cases op <;> rfl
    · rw [if_neg (by omega), if_neg g2]
      cases op <;> rfl

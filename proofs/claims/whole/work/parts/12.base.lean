/-! ===== small things that both sides use ===== -/
def isBw (v a b : Int) : Bool := decide (a ≤ v ∧ v ≤ b)
theorem wLs_ok {l : List (Option Value)} {ls : wLoc} (h : ∀ i, i < l.length → ∀ v, l[i]? = some (some v) → ls i = some v) : ∀ (k : Nat) (v : Value), wLs l k = some v → ls k = some v := by
  intro k v hk
  unfold wLs at hk
  cases hl : l[k]? with
  | none => rw [hl] at hk; cases hk
  | some o =>
    rw [hl] at hk
    cases hk
    exact h k (List.getElem?_eq_some_iff.mp hl).1 v hl
/-- a list of locals against the known ones -/
def wChk (ls : wLoc) : Nat → List (Option Value) → Prop
  | _, [] => True
  | i, none :: l => wChk ls (i + 1) l
  | i, some v :: l => ls i = some v ∧ wChk ls (i + 1) l
theorem wChk_at {ls : wLoc} : ∀ (l : List (Option Value)) (i j : Nat) (v : Value), wChk ls i l → l[j]? = some (some v) → ls (i + j) = some v
  | [], _, _, _, _, h => by cases h
  | none :: l, i, 0, v, _, h => by cases h
  | none :: l, i, j + 1, v, hc, h => by
    have := wChk_at l (i + 1) j v hc h
    rw [← this]
    congr 1
    omega
  | some w :: l, i, 0, v, hc, h => by cases h; exact hc.1
  | some w :: l, i, j + 1, v, hc, h => by
    have := wChk_at l (i + 1) j v hc.2 h
    rw [← this]
    congr 1
    omega
theorem wLs_sub {ls : wLoc} {l : List (Option Value)} (h : wChk ls 0 l) : ∀ (k : Nat) (v : Value), wLs l k = some v → ls k = some v :=
  wLs_ok (fun i _ v hv => by have := wChk_at l 0 i v h hv; rwa [Nat.zero_add] at this)
theorem iI_shr6 {d : Int} (h : 0 ≤ d ∧ d ≤ 2047) : iI d >>> (iI 6 &&& 31) = iI (d / 64) := by
  obtain ⟨k, rfl⟩ := Int.eq_ofNat_of_zero_le h.1
  have hk : k < 2048 := by omega
  clear h
  revert k
  decide +kernel
theorem iI_and63 {d : Int} (h : 0 ≤ d ∧ d ≤ 2047) : iI d &&& iI 63 = iI (d % 64) := by
  obtain ⟨k, rfl⟩ := Int.eq_ofNat_of_zero_le h.1
  have hk : k < 2048 := by omega
  clear h
  revert k
  decide +kernel
/-! the calendar -/
def mS (j : Nat) : Int := ([0, 31, 59, 90, 120, 151, 181, 212, 243, 273, 304, 334, 365] : List Int).getD j 0
def mOfY (y : Int) : Int := if mS (y / 31 + 1).toNat ≤ y then y / 31 + 1 else y / 31
def mOf (d : Int) : Int := d / 365 * 12 + mOfY (d % 365)
def mFirst (m : Int) : Int := m / 12 * 365 + mS (m % 12).toNat
def mLast (m : Int) : Int := m / 12 * 365 + mS (m % 12 + 1).toNat - 1
def holB (w : Nat → Int64) (d : Int) : Bool := decide (¬ (((w (d / 64).toNat).toUInt64 >>> ((iI (d % 64)).toInt64.toUInt64 &&& Int64.toUInt64 63)).toInt64 &&& jL 1) = jL 0)
def biz (wd : Int) (hb : Int → Bool) (d : Int) : Bool := decide ((d + wd) % 7 < 5) && !hb d
def nextB (b : Int → Bool) : Nat → Int → Int
  | 0, _ => -6
  | f + 1, d => if b d then d else nextB b f (d + 1)
def nextBz (b : Int → Bool) (d : Int) : Int := nextB b (1095 - d).toNat d
def lastB (b : Int → Bool) : Nat → Int → Int
  | 0, _ => -6
  | f + 1, d => if b d then d else lastB b f (d - 1)
def lastBz (b : Int → Bool) (d : Int) : Int := lastB b (d + 1).toNat d
theorem nextBz_out {b : Int → Bool} {d : Int} (h : 1094 < d) : nextBz b d = -6 := by
  unfold nextBz
  rw [show (1095 - d).toNat = 0 by omega]
  rfl
theorem nextBz_in {b : Int → Bool} {d : Int} (h : d ≤ 1094) : nextBz b d = if b d then d else nextBz b (d + 1) := by
  unfold nextBz
  rw [show (1095 - d).toNat = (1095 - (d + 1)).toNat + 1 by omega]
  rfl
theorem lastBz_out {b : Int → Bool} {d : Int} (h : d < 0) : lastBz b d = -6 := by
  unfold lastBz
  rw [show (d + 1).toNat = 0 by omega]
  rfl
theorem lastBz_in {b : Int → Bool} {d : Int} (h : 0 ≤ d) : lastBz b d = if b d then d else lastBz b (d - 1) := by
  unfold lastBz
  rw [show (d + 1).toNat = (d - 1 + 1).toNat + 1 by omega]
  rfl
theorem nextB_rng (b : Int → Bool) : ∀ (f : Nat) (d : Int), nextB b f d = -6 ∨ (d ≤ nextB b f d ∧ nextB b f d < d + f)
  | 0, d => Or.inl rfl
  | f + 1, d => by
    unfold nextB
    split
    · exact Or.inr ⟨Int.le_refl _, by omega⟩
    · rcases nextB_rng b f (d + 1) with h | ⟨h1, h2⟩
      · exact Or.inl h
      · exact Or.inr ⟨by omega, by omega⟩
theorem nextBz_rng (b : Int → Bool) (d : Int) (hd : d ≤ 1095) : nextBz b d = -6 ∨ (d ≤ nextBz b d ∧ nextBz b d ≤ 1094) := by
  rcases nextB_rng b (1095 - d).toNat d with h | ⟨h1, h2⟩
  · exact Or.inl h
  · exact Or.inr ⟨h1, by unfold nextBz; omega⟩
theorem lastB_rng (b : Int → Bool) : ∀ (f : Nat) (d : Int), lastB b f d = -6 ∨ (lastB b f d ≤ d ∧ d - f < lastB b f d)
  | 0, d => Or.inl rfl
  | f + 1, d => by
    unfold lastB
    split
    · exact Or.inr ⟨Int.le_refl _, by omega⟩
    · rcases lastB_rng b f (d - 1) with h | ⟨h1, h2⟩
      · exact Or.inl h
      · exact Or.inr ⟨by omega, by omega⟩
theorem lastBz_rng (b : Int → Bool) (d : Int) (hd : -1 ≤ d) : lastBz b d = -6 ∨ (lastBz b d ≤ d ∧ 0 ≤ lastBz b d) := by
  rcases lastB_rng b (d + 1).toNat d with h | ⟨h1, h2⟩
  · exact Or.inl h
  · exact Or.inr ⟨h1, by unfold lastBz; omega⟩
def shZ (b : Int → Bool) (d r : Int) : Int :=
  if r = 0 ∨ r = 4 then d else
    let t0 := if r = 2 then lastBz b d else nextBz b d
    let t := if r = 3 ∧ (t0 = -6 ∨ ¬ mOf t0 = mOf d) then lastBz b d else t0
    if t = -6 then d else t
theorem mS_rng : ∀ j : Nat, j < 13 → 0 ≤ mS j ∧ mS j ≤ 365 := by decide
theorem mOfY_rng : ∀ y : Nat, y < 365 → 0 ≤ mOfY y ∧ mOfY y ≤ 11 := by decide +kernel
theorem mOf_rng {d : Int} (h : 0 ≤ d ∧ d ≤ 1094) : 0 ≤ mOf d ∧ mOf d ≤ 35 := by
  obtain ⟨y, hy⟩ : ∃ y : Nat, d % 365 = (y : Int) := Int.eq_ofNat_of_zero_le (by omega)
  have := mOfY_rng y (by omega)
  unfold mOf
  rw [hy]
  omega
theorem mFirst_rng {m : Int} (h : 0 ≤ m ∧ m ≤ 35) : 0 ≤ mFirst m ∧ mFirst m ≤ 1094 := by
  obtain ⟨k, rfl⟩ := Int.eq_ofNat_of_zero_le h.1
  have hk : k < 36 := by omega
  clear h
  revert k
  decide +kernel
theorem mLast_rng {m : Int} (h : 0 ≤ m ∧ m ≤ 35) : mFirst m ≤ mLast m ∧ mLast m ≤ 1094 := by
  obtain ⟨k, rfl⟩ := Int.eq_ofNat_of_zero_le h.1
  have hk : k < 36 := by omega
  clear h
  revert k
  decide +kernel
/-- the class's static rows, where they stand and what they hold -/
def aSt (E : wE) (k : Nat) : Nat := match wsv E k with
  | .ref a => a
  | _ => 0
def sLeast (j : Nat) : Int := ([1, 0, 0, 0] : List Int).getD j 0
def sMost (j : Nat) : Int := ([9, 10000, 1000, 6] : List Int).getD j 0
def wGE (E : wE) : Prop := (wsv E 0 = .ref (aSt E 0) ∧ wro E (aSt E 0) = some (.int, 4, fun j => .int (iI (sLeast j)))) ∧ (wsv E 1 = .ref (aSt E 1) ∧ wro E (aSt E 1) = some (.int, 4, fun j => .int (iI (sMost j)))) ∧ (wsv E 2 = .ref (aSt E 2) ∧ wro E (aSt E 2) = some (.int, 13, fun j => .int (iI (mS j)))) ∧ wsv E 3 = .int (iI 1)
theorem c_X6_isBetween {E : wE} {h : hW} {n : Nat} {v a b : Int} (hv : -2147483648 ≤ v ∧ v ≤ 2147483647 := by omega) (ha : -2147483648 ≤ a ∧ a ≤ 2147483647 := by omega) (hb : -2147483648 ≤ b ∧ b ≤ 2147483647 := by omega) : WM E n yX6_isBetween cX6_isBetween 3 (some .boolean) [.int (iI v), .int (iI a), .int (iI b)] h 0 0 (pR (.int (iI (bI (isBw v a b)))) h) := by
  refine wq_iload_n dX6_isBetween_0 rfl ?_
  refine wq_iload_n dX6_isBetween_1 rfl ?_
  refine wq_icmp_lt 14 dX6_isBetween_2 (fun h2 => ?_) (fun h2 => ?_)
  · refine wq_iconst dX6_isBetween_14 ?_
    refine wq_ireturn dX6_isBetween_15 ?_ ?_
    · exact ⟨congrArg (fun z => some (Value.int (iI z))) (by simp only [bI, isBw, decide_eq_true_eq]; split <;> omega), rfl⟩
    · exact ⟨_, rfl, rfl⟩
  · refine wq_iload_n dX6_isBetween_5 rfl ?_
    refine wq_iload_n dX6_isBetween_6 rfl ?_
    refine wq_icmp_gt 14 dX6_isBetween_7 (fun h7 => ?_) (fun h7 => ?_)
    · refine wq_iconst dX6_isBetween_14 ?_
      refine wq_ireturn dX6_isBetween_15 ?_ ?_
      · exact ⟨congrArg (fun z => some (Value.int (iI z))) (by simp only [bI, isBw, decide_eq_true_eq]; split <;> omega), rfl⟩
      · exact ⟨_, rfl, rfl⟩
    · refine wq_iconst dX6_isBetween_10 ?_
      refine wq_goto 15 dX6_isBetween_11 ?_
      refine wq_ireturn dX6_isBetween_15 ?_ ?_
      · exact ⟨congrArg (fun z => some (Value.int (iI z))) (by simp only [bI, isBw, decide_eq_true_eq]; split <;> omega), rfl⟩
      · exact ⟨_, rfl, rfl⟩

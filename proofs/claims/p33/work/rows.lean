section
/-! ===== numbers: an int as the image of an integer ===== -/
def iI (z : Int) : Int32 := Int32.ofInt z
def jL (z : Int) : Int64 := Int64.ofInt z
abbrev wR (z : Int) : Prop := -2147483648 ≤ z ∧ z ≤ 2147483647
abbrev wR64 (z : Int) : Prop := -9223372036854775808 ≤ z ∧ z ≤ 9223372036854775807
theorem iI_add (a b : Int) : iI a + iI b = iI (a + b) := (Int32.ofInt_add a b).symm
theorem iI_sub (a b : Int) : iI a - iI b = iI (a - b) := (Int32.ofInt_sub a b).symm
theorem iI_mul (a b : Int) : iI a * iI b = iI (a * b) := (Int32.ofInt_mul a b).symm
theorem iI_neg (a : Int) : -iI a = iI (-a) := (Int32.ofInt_neg a).symm
theorem iI_toInt {a : Int} (h : wR a) : (iI a).toInt = a := Int32.toInt_ofInt_of_le (by omega) (by omega)
theorem iI_of (x : Int32) : x = iI x.toInt := (Int32.ofInt_toInt x).symm
theorem iI_nat {a : Int} (h : wR a) : (iI a).toNatClampNeg = a.toNat := by rw [← Int32.toNat_toInt, iI_toInt h]
theorem iI_lt {a b : Int} (ha : wR a) (hb : wR b) : iI a < iI b ↔ a < b := by rw [Int32.lt_iff_toInt_lt, iI_toInt ha, iI_toInt hb]
theorem iI_le {a b : Int} (ha : wR a) (hb : wR b) : iI a ≤ iI b ↔ a ≤ b := by rw [Int32.le_iff_toInt_le, iI_toInt ha, iI_toInt hb]
theorem iI_eq {a b : Int} (ha : wR a) (hb : wR b) : iI a = iI b ↔ a = b := by rw [← Int32.toInt_inj, iI_toInt ha, iI_toInt hb]
theorem iI_0 : (0 : Int32) = iI 0 := rfl
theorem iI_div {a b : Int} (ha : 0 ≤ a ∧ a ≤ 2147483647) (hb : 0 < b ∧ b ≤ 2147483647) : iI a / iI b = iI (a / b) := by
  have h := Int32.ofInt_tdiv (a := a) (b := b) (by have : Int32.minValue.toInt = -2147483648 := rfl; omega) (by have : Int32.maxValue.toInt = 2147483647 := rfl; omega) (by have : Int32.minValue.toInt = -2147483648 := rfl; omega) (by have : Int32.maxValue.toInt = 2147483647 := rfl; omega)
  rw [Int.tdiv_eq_ediv_of_nonneg ha.1] at h
  exact h.symm
theorem iI_rem {a b : Int} (ha : 0 ≤ a ∧ a ≤ 2147483647) (hb : 0 < b ∧ b ≤ 2147483647) : iI a - iI a / iI b * iI b = iI (a % b) := by
  rw [iI_div ha hb, iI_mul, iI_sub, Int.emod_def, Int.mul_comm b]
theorem jL_add (a b : Int) : jL a + jL b = jL (a + b) := (Int64.ofInt_add a b).symm
theorem jL_sub (a b : Int) : jL a - jL b = jL (a - b) := (Int64.ofInt_sub a b).symm
theorem jL_mul (a b : Int) : jL a * jL b = jL (a * b) := (Int64.ofInt_mul a b).symm
theorem jL_neg (a : Int) : -jL a = jL (-a) := (Int64.ofInt_neg a).symm
theorem jL_toInt {a : Int} (h : wR64 a) : (jL a).toInt = a := Int64.toInt_ofInt_of_le (by omega) (by omega)
theorem jL_of (x : Int64) : x = jL x.toInt := (Int64.ofInt_toInt x).symm
theorem jL_lt {a b : Int} (ha : wR64 a) (hb : wR64 b) : jL a < jL b ↔ a < b := by rw [Int64.lt_iff_toInt_lt, jL_toInt ha, jL_toInt hb]
theorem jL_le {a b : Int} (ha : wR64 a) (hb : wR64 b) : jL a ≤ jL b ↔ a ≤ b := by rw [Int64.le_iff_toInt_le, jL_toInt ha, jL_toInt hb]
theorem jL_eq {a b : Int} (ha : wR64 a) (hb : wR64 b) : jL a = jL b ↔ a = b := by rw [← Int64.toInt_inj, jL_toInt ha, jL_toInt hb]
theorem jL_i (z : Int) : (jL z).toInt32 = iI z := Int64.toInt32_ofInt
theorem iI_j {z : Int} (h : wR z) : (iI z).toInt64 = jL z := by rw [← Int64.ofInt_int32ToInt, iI_toInt h]; rfl
theorem iI_of64 (x : Int64) : x.toInt32 = iI x.toInt := by
  have h := jL_i x.toInt
  rw [← jL_of] at h
  exact h
theorem jL_div {a b : Int} (ha : 0 ≤ a ∧ a ≤ 9223372036854775807) (hb : 0 < b ∧ b ≤ 9223372036854775807) : jL a / jL b = jL (a / b) := by
  have h := Int64.ofInt_tdiv (a := a) (b := b) (by have : Int64.minValue.toInt = -9223372036854775808 := rfl; omega) (by have : Int64.maxValue.toInt = 9223372036854775807 := rfl; omega) (by have : Int64.minValue.toInt = -9223372036854775808 := rfl; omega) (by have : Int64.maxValue.toInt = 9223372036854775807 := rfl; omega)
  rw [Int.tdiv_eq_ediv_of_nonneg ha.1] at h
  exact h.symm
theorem jL_rem {a b : Int} (ha : 0 ≤ a ∧ a ≤ 9223372036854775807) (hb : 0 < b ∧ b ≤ 9223372036854775807) : jL a - jL a / jL b * jL b = jL (a % b) := by
  rw [jL_div ha hb, jL_mul, jL_sub, Int.emod_def, Int.mul_comm b]
end
section
/-! ===== the states as plain functions, and the words of the functions that the methods are ===== -/
/-- a house: numbers by tag (0 house's own by field, 1 calendar, 2 account by number and field, 3 order, 4 waiting, 5 column by column and place, 6 bits by word), interest owed by account -/
abbrev hR : Type := (Int → Int → Int → Int) × (Int → UInt64)
/-- the class: houses, its own numbers (0 by field, 1 saved by place), the pad's (0 by field, 1 signs) -/
abbrev cR : Type := (Int → hR) × (Int → Int → Int) × (Int → Int → Int)
/-- the reference: 0 now, 1 waits, 2 kept, 3 keptWaits, 4 isSaved, 5 pad, 6 its own by field; doubles: 0 owed, 1 keptOwed -/
abbrev mR : Type := (Int → Int → Int) × (Int → Int → UInt64)
abbrev gR : Type := cR × mR
def up1 {α : Type} (f : Int → α) (a : Int) (v : α) : Int → α := fun a' => if a' = a then v else f a'
def up2 {α : Type} (f : Int → Int → α) (t a : Int) (v : α) : Int → Int → α := fun t' a' => if t' = t ∧ a' = a then v else f t' a'
def up3 {α : Type} (f : Int → Int → Int → α) (t a b : Int) (v : α) : Int → Int → Int → α := fun t' a' b' => if t' = t ∧ a' = a ∧ b' = b then v else f t' a' b'
def hS (H : hR) (t a b v : Int) : hR := (up3 H.1 t a b v, H.2)
def hD (H : hR) (i : Int) (v : UInt64) : hR := (H.1, up1 H.2 i v)
def cH (c : cR) (k : Int) (H : hR) : cR := (up1 c.1 k H, c.2)
def cT (c : cR) (t a v : Int) : cR := (c.1, up2 c.2.1 t a v, c.2.2)
def cP (c : cR) (p : Int → Int → Int) : cR := (c.1, c.2.1, p)
def pS (p : Int → Int → Int) (t a v : Int) : Int → Int → Int := up2 p t a v
def mS (m : mR) (t a v : Int) : mR := (up2 m.1 t a v, m.2)
def mD (m : mR) (t a : Int) (v : UInt64) : mR := (m.1, up2 m.2 t a v)
/-- a row copied: k places from place sp of f on, to place dp of g on -/
def cpy {α : Type} (f g : Int → α) (sp dp k : Int) : Int → α := fun j => if dp ≤ j ∧ j < dp + k then f (sp + (j - dp)) else g j
def hBits (H : hR) (f : Int → Int) : hR := (fun t a b => if t = 6 ∧ b = 0 then f a else H.1 t a b, H.2)
def hCol (H : hR) (c : Int) (f : Int → Int) : hR := (fun t a b => if t = 5 ∧ a = c then f b else H.1 t a b, H.2)
/-! words -/
def gd {α : Type} (p : Prop) [Decidable p] (k : Option α) : Option α := if p then k else none
def bnd {α β : Type} (x : β) (k : β → Option α) : Option α := k x
def cl {α β S : Type} (o : Option (β × S)) (k : β → S → Option α) : Option α := o.bind (fun p => k p.1 p.2)
def cr {α β : Type} (o : Option β) (k : β → Option α) : Option α := o.bind k
theorem gd_pos {α : Type} {p : Prop} [Decidable p] {k : Option α} (h : p) : gd p k = k := if_pos h
theorem bnd_eq {α β : Type} {x : β} {k : β → Option α} : bnd x k = k x := rfl
theorem cl_some {α β S : Type} {x : β} {s : S} {k : β → S → Option α} : cl (some (x, s)) k = k x s := rfl
theorem cr_some {α β : Type} {x : β} {k : β → Option α} : cr (some x) k = k x := rfl
theorem gd_inv {α : Type} {p : Prop} [Decidable p] {k : Option α} {x : α} (h : gd p k = some x) : p ∧ k = some x := by
  unfold gd at h
  split at h
  · exact ⟨by assumption, h⟩
  · cases h
theorem cl_inv {α β S : Type} {o : Option (β × S)} {k : β → S → Option α} {x : α} (h : cl o k = some x) : ∃ y s, o = some (y, s) ∧ k y s = some x := by
  cases o with
  | none => cases h
  | some p => exact ⟨p.1, p.2, rfl, h⟩
theorem cr_inv {α β : Type} {o : Option β} {k : β → Option α} {x : α} (h : cr o k = some x) : ∃ y, o = some y ∧ k y = some x := by
  cases o with
  | none => cases h
  | some p => exact ⟨p, rfl, h⟩
def dvI (a b : Int) : Int := if 0 ≤ a then a / b else -(-a / b)
def rmI (a b : Int) : Int := if 0 ≤ a then a % b else -(-a % b)
theorem dvI_pos {a b : Int} (h : 0 ≤ a) : dvI a b = a / b := if_pos h
theorem rmI_pos {a b : Int} (h : 0 ≤ a) : rmI a b = a % b := if_pos h
def andI (a b : Int) : Int := (iI a &&& iI b).toInt
def orI (a b : Int) : Int := (iI a ||| iI b).toInt
def xorI (a b : Int) : Int := (iI a ^^^ iI b).toInt
def shlI (a b : Int) : Int := (iI a <<< (iI b &&& 31)).toInt
def shrI (a b : Int) : Int := (iI a >>> (iI b &&& 31)).toInt
def i2cI (a : Int) : Int := (((iI a).toUInt32 % 65536).toInt32).toInt
def landI (a b : Int) : Int := (jL a &&& jL b).toInt
def lorI (a b : Int) : Int := (jL a ||| jL b).toInt
def lxorI (a b : Int) : Int := (jL a ^^^ jL b).toInt
def lshlI (a b : Int) : Int := (jL a <<< ((iI b).toInt64 &&& 63)).toInt
def lshrI (a b : Int) : Int := (jL a >>> ((iI b).toInt64 &&& 63)).toInt
def lushrI (a b : Int) : Int := (((jL a).toUInt64 >>> ((iI b).toInt64.toUInt64 &&& Int64.toUInt64 63)).toInt64).toInt
def d2lI (v : UInt64) : Int := (FP.d2l v).toInt
def dcI (v w : UInt64) (op : CmpOp) : Int := (Op.cmpValue (FP.dcmp v w) op).toInt
abbrev okD (v : UInt64) : Prop := v &&& 0x7fffffffffffffff ≤ 0x7ff0000000000000
abbrev okF (v : UInt32) : Prop := v &&& 0x7fffffff ≤ 0x7f800000
theorem iI_wR (x : Int32) : wR x.toInt := by
  have h1 := x.le_toInt
  have h2 := x.toInt_lt
  omega
theorem jL_wR (x : Int64) : wR64 x.toInt := by
  have h1 := x.le_toInt
  have h2 := x.toInt_lt
  omega
/-- which of the text constants' signs a sign is: 0 digits, 1 kinds, 2 rules -/
def idxS (w c : Int) : Int := if w = 0 then (if 48 ≤ c ∧ c ≤ 55 then c - 48 else -1) else if w = 1 then (if c = 100 then 0 else if c = 119 then 1 else if c = 109 then 2 else if c = 101 then 3 else -1) else (if c = 46 then 0 else if c = 102 then 1 else if c = 98 then 2 else if c = 120 then 3 else if c = 33 then 4 else -1)
/-- the static rows: 0 least, 1 most, 2 the months' starts -/
def sRow (k j : Int) : Int := if k = 0 then (([1, 0, 0, 0] : List Int).getD j.toNat 0) else if k = 1 then (([9, 10000, 1000, 6] : List Int).getD j.toNat 0) else (([0, 31, 59, 90, 120, 151, 181, 212, 243, 273, 304, 334, 365] : List Int).getD j.toNat 0)
def sLen (k : Int) : Int := if k = 2 then 13 else 4
/-- far more than any loop goes round -/
def fuel0 : Nat := 1000000
end
section
/-- more room for those that wait: wanted places, the new ones 0 -/
def hGrow (H : hR) (w : Int) : hR := (fun t a b => if t = 4 ∧ a = 1 ∧ b = 0 then w else if t = 5 ∧ H.1 4 1 0 ≤ b then 0 else H.1 t a b, H.2)
noncomputable def fX5_makeRoom (x1 : Int) (H : hR) : Option (Unit × hR) :=
  gd (wR x1 ∧ wR (H.1 4 1 0)) <|
  if x1 ≤ H.1 4 1 0 then (
    some ((), H))
  else (
    gd (64 ≤ H.1 4 1 0 ∧ 2 * H.1 4 1 0 ≤ x1 ∧ x1 ≤ 16384) <|
    some ((), hGrow H x1))
def now0 (j : Int) : Int := if j = 9 then 3 else if j = 10 then 250 else if j = 11 then 120 else 0
/-! the first state -/
def H0 : hR := (fun t a b => if t = 0 ∧ a = 7 ∧ b = 0 then 3 else if t = 0 ∧ a = 8 ∧ b = 0 then 250 else if t = 0 ∧ a = 9 ∧ b = 0 then 120 else if t = 4 ∧ a = 1 ∧ b = 0 then 64 else 0, fun _ => 0)
def C0 : cR := (fun _ => H0, fun _ _ => 0, fun _ _ => 0)
def M0 : mR := (fun t j => if t = 0 then now0 j else 0, fun _ _ => 0)
def G0 : gR := (C0, M0)
/-- the columns' room -/
def rmN (H : hR) : Nat := (H.1 4 1 0).toNat
def phi (G : gR) : Nat := ((List.range 11).map (fun k : Nat => rmN (G.1.1 k))).sum
end
section
/-! ===== the class as plain functions (by program: wip/whole/gen.py) ===== -/
noncomputable def fX0_copyFrom (H2 : hR) (i : Int) (x1 : Int) (H : hR) : Option (Unit × hR) :=
  bnd (hS H 2 i 0 (H2.1 2 x1 0)) fun H5 =>
  bnd (hS H5 2 i 1 (H2.1 2 x1 1)) fun H13 =>
  bnd (hS H13 2 i 2 (H2.1 2 x1 2)) fun H21 =>
  bnd (hS H21 2 i 3 (H2.1 2 x1 3)) fun H29 =>
  bnd (hS H29 2 i 4 (H2.1 2 x1 4)) fun H37 =>
  bnd (hS H37 2 i 5 (H2.1 2 x1 5)) fun H45 =>
  bnd (hS H45 2 i 6 (H2.1 2 x1 6)) fun H53 =>
  bnd (hS H53 2 i 7 (H2.1 2 x1 7)) fun H61 =>
  bnd (hS H61 2 i 8 (H2.1 2 x1 8)) fun H69 =>
  bnd (hS H69 2 i 9 (H2.1 2 x1 9)) fun H77 =>
  bnd (hS H77 2 i 10 (H2.1 2 x1 10)) fun H85 =>
  bnd (hS H85 2 i 11 (H2.1 2 x1 11)) fun H93 =>
  bnd (hD H93 i (H2.2 x1)) fun H101 =>
  some ((), H101)
noncomputable def fX0_open (i : Int) (x1 : Int) (x2 : Int) (H : hR) : Option (Unit × hR) :=
  bnd (hS H 2 i 0 x1) fun H2 =>
  bnd (hS H2 2 i 1 x2) fun H7 =>
  bnd (hS H7 2 i 2 (-6)) fun H13 =>
  bnd (hS H13 2 i 3 0) fun H18 =>
  bnd (hS H18 2 i 4 0) fun H23 =>
  bnd (hS H23 2 i 5 0) fun H28 =>
  bnd (hS H28 2 i 6 0) fun H33 =>
  bnd (hS H33 2 i 7 0) fun H38 =>
  bnd (hS H38 2 i 8 0) fun H43 =>
  bnd (hS H43 2 i 9 0) fun H48 =>
  bnd (hS H48 2 i 10 0) fun H53 =>
  bnd (hS H53 2 i 11 0) fun H58 =>
  bnd (hD H58 i FP.dconst0) fun H63 =>
  some ((), H63)
noncomputable def fX0_sumOf (i : Int) (x1 : Int) (H : hR) : Option Int :=
  gd (wR x1) <|
  if x1 = 0 then (
    some (H.1 2 i 3))
  else if x1 = 1 then (
    some (H.1 2 i 4))
  else if x1 = 2 then (
    some (H.1 2 i 5))
  else if x1 = 3 then (
    some (H.1 2 i 6))
  else if x1 = 4 then (
    some (H.1 2 i 7))
  else if x1 = 5 then (
    some (H.1 2 i 8))
  else if x1 = 6 then (
    some (H.1 2 i 9))
  else if x1 = 7 then (
    some (H.1 2 i 10))
  else if x1 = 8 then (
    some (H.1 2 i 11))
  else (
    some (-2))
noncomputable def fX0_takeInterest (i : Int) (H : hR) : Option (Unit × hR) :=
  bnd (hS H 2 i 3 ((H.1 2 i 3) - (d2lI (H.2 i)))) fun H13 =>
  bnd (hS H13 2 i 10 ((H13.1 2 i 10) + (d2lI (H.2 i)))) fun H23 =>
  gd (okD (FP.dsub (H23.2 i) (FP.l2d (jL (d2lI (H.2 i)))))) <|
  bnd (hD H23 i (FP.dsub (H23.2 i) (FP.l2d (jL (d2lI (H.2 i)))))) fun H34 =>
  some ((), H34)
noncomputable def fX1_copyFrom (H2 : hR) (H : hR) : Option (Unit × hR) :=
  bnd (hBits H (cpy (fun j => H2.1 6 j 0) (fun j => H.1 6 j 0) 0 0 18)) fun H15 =>
  bnd (hS H15 1 1 0 (H2.1 1 1 0)) fun H23 =>
  bnd (hS H23 1 2 0 (H2.1 1 2 0)) fun H31 =>
  some ((), H31)
noncomputable def fX1_firstDayOf (x0 : Int) : Option Int :=
  gd (wR x0) <|
  gd (wR x0) <|
  gd (0 ≤ (rmI x0 12) ∧ (rmI x0 12) < 13) <|
  some (((dvI x0 12) * 365) + (sRow 2 (rmI x0 12)))
noncomputable def fX1_isBusiness (x1 : Int) (H : hR) : Option Int :=
  gd (wR (x1 + (H.1 1 2 0))) <|
  gd (wR (rmI (x1 + (H.1 1 2 0)) 7)) <|
  if 5 ≤ (rmI (x1 + (H.1 1 2 0)) 7) then (
    some 0)
  else (
    gd (0 ≤ (shrI x1 6) ∧ (shrI x1 6) < 18) <|
    gd (wR64 (landI (lushrI (H.1 6 (shrI x1 6) 0) (andI x1 63)) 1)) <|
    if (landI (lushrI (H.1 6 (shrI x1 6) 0) (andI x1 63)) 1) = 0 then (
      some 1)
    else (
      some 0))
noncomputable def fX1_isHoliday (x1 : Int) (H : hR) : Option Int :=
  gd (0 ≤ (shrI x1 6) ∧ (shrI x1 6) < 18) <|
  gd (wR64 (landI (lushrI (H.1 6 (shrI x1 6) 0) (andI x1 63)) 1)) <|
  if (landI (lushrI (H.1 6 (shrI x1 6) 0) (andI x1 63)) 1) = 0 then (
    some 0)
  else (
    some 1)
noncomputable def fX1_lastBusiness_b2 (H : hR) : Nat → Int → Option Int
  | 0, _ => none
  | fuel + 1, x2 =>
    gd (wR x2) <|
    if x2 < 0 then (
      some (-6))
    else (
      cr (fX1_isBusiness x2 H) fun r8 =>
      gd (wR r8) <|
      if r8 = 0 then (
        (fX1_lastBusiness_b2 H fuel) (x2 + (-1)) )
      else (
        some x2))
noncomputable def fX1_lastBusiness (x1 : Int) (H : hR) : Option Int :=
  fX1_lastBusiness_b2 H fuel0 x1
noncomputable def fX1_lastDayOf (x0 : Int) : Option Int :=
  gd (wR x0) <|
  gd (wR x0) <|
  gd (0 ≤ ((rmI x0 12) + 1) ∧ ((rmI x0 12) + 1) < 13) <|
  some ((((dvI x0 12) * 365) + (sRow 2 ((rmI x0 12) + 1))) - 1)
noncomputable def fX6_isBetween (x0 : Int) (x1 : Int) (x2 : Int) : Option Int :=
  gd (wR x0 ∧ wR x1) <|
  if x0 < x1 then (
    some 0)
  else (
    gd (wR x0 ∧ wR x2) <|
    if x2 < x0 then (
      some 0)
    else (
      some 1))
noncomputable def fX1_mark_b96 (t1 : Int) (t2 : Int) (H : hR) : Option (Int × hR) :=
  bnd (hS H 1 1 0 (t1 + t2)) fun H97 =>
  some ((H97.1 1 1 0), H97)
noncomputable def fX1_mark_b63 (x1 : Int) (x2 : Int) (H : hR) : Option (Int × hR) :=
  gd (0 ≤ (shrI x1 6) ∧ (shrI x1 6) < 18) <|
  gd ((0 ≤ (shrI x1 6) ∧ (shrI x1 6) < 18)) <|
  bnd (hS H 6 (shrI x1 6) 0 (lxorI (H.1 6 (shrI x1 6) 0) (lshlI 1 (andI x1 63)))) fun H80 =>
  gd (wR x2) <|
  if x2 = 1 then (
    fX1_mark_b96 (H80.1 1 1 0) 1 H80)
  else (
    fX1_mark_b96 (H80.1 1 1 0) (-1) H80)
noncomputable def fX1_mark_b38 (x1 : Int) (x2 : Int) (t0 : Int) (t1 : Int) (H : hR) : Option (Int × hR) :=
  gd (wR t0 ∧ wR t1) <|
  if t0 = t1 then (
    some ((H.1 1 1 0), H))
  else (
    gd (wR x2) <|
    if x2 = 1 then (
      gd (wR (H.1 1 1 0)) <|
      if (H.1 1 1 0) < 20 then (
        fX1_mark_b63 x1 x2 H)
      else (
        some ((-4), H)))
    else (
      fX1_mark_b63 x1 x2 H))
noncomputable def fX1_mark (x1 : Int) (x2 : Int) (H : hR) : Option (Int × hR) :=
  cr (fX6_isBetween x1 0 1094) fun r5 =>
  gd (wR r5) <|
  if r5 = 0 then (
    some ((-2), H))
  else (
    cr (fX6_isBetween x2 0 1) fun r14 =>
    gd (wR r14) <|
    if r14 = 0 then (
      some ((-2), H))
    else (
      cr (fX1_isHoliday x1 H) fun r25 =>
      gd (wR x2) <|
      if x2 = 1 then (
        fX1_mark_b38 x1 x2 r25 1 H)
      else (
        fX1_mark_b38 x1 x2 r25 0 H)))
noncomputable def fX1_monthOf_b25 (x0 : Int) (x2 : Int) : Option Int :=
  gd (wR x0) <|
  some (((dvI x0 365) * 12) + x2)
noncomputable def fX1_monthOf (x0 : Int) : Option Int :=
  gd (wR x0) <|
  gd (wR (rmI x0 365)) <|
  gd (0 ≤ ((dvI (rmI x0 365) 31) + 1) ∧ ((dvI (rmI x0 365) 31) + 1) < 13) <|
  gd (wR (sRow 2 ((dvI (rmI x0 365) 31) + 1)) ∧ wR (rmI x0 365)) <|
  if (rmI x0 365) < (sRow 2 ((dvI (rmI x0 365) 31) + 1)) then (
    fX1_monthOf_b25 x0 (dvI (rmI x0 365) 31))
  else (
    fX1_monthOf_b25 x0 ((dvI (rmI x0 365) 31) + 1))
noncomputable def fX1_nextBusiness_b2 (H : hR) : Nat → Int → Option Int
  | 0, _ => none
  | fuel + 1, x2 =>
    gd (wR x2) <|
    if 1094 < x2 then (
      some (-6))
    else (
      cr (fX1_isBusiness x2 H) fun r11 =>
      gd (wR r11) <|
      if r11 = 0 then (
        (fX1_nextBusiness_b2 H fuel) (x2 + 1) )
      else (
        some x2))
noncomputable def fX1_nextBusiness (x1 : Int) (H : hR) : Option Int :=
  fX1_nextBusiness_b2 H fuel0 x1
noncomputable def fX1_weekdayOf (x1 : Int) (H : hR) : Option Int :=
  gd (wR (x1 + (H.1 1 2 0))) <|
  some (rmI (x1 + (H.1 1 2 0)) 7)
noncomputable def fX1_numberOf (x1 : Int) (x2 : Int) (H : hR) : Option Int :=
  gd (wR x2) <|
  if x2 = 0 then (
    cr (fX1_weekdayOf x1 H) fun r42 =>
    some r42)
  else if x2 = 1 then (
    cr (fX1_monthOf x1) fun r47 =>
    some r47)
  else if x2 = 2 then (
    cr (fX1_monthOf x1) fun r53 =>
    cr (fX1_firstDayOf r53) fun r56 =>
    some ((x1 - r56) + 1))
  else if x2 = 3 then (
    cr (fX1_isBusiness x1 H) fun r65 =>
    gd (wR r65) <|
    if r65 = 0 then (
      some 0)
    else (
      some 1))
  else if x2 = 4 then (
    cr (fX1_nextBusiness x1 H) fun r79 =>
    some r79)
  else if x2 = 5 then (
    cr (fX1_lastBusiness x1 H) fun r85 =>
    some r85)
  else (
    some (-2))
noncomputable def fX1_shifted_b58 (H : hR) (x1 : Int) (x3 : Int) : Option Int :=
  gd (wR x3) <|
  if x3 = (-6) then (
    some x1)
  else (
    some x3)
noncomputable def fX1_shifted_b52 (H : hR) (x1 : Int) : Option Int :=
  cr (fX1_lastBusiness x1 H) fun r54 =>
  fX1_shifted_b58 H x1 r54
noncomputable def fX1_shifted_b29 (H : hR) (x1 : Int) (x2 : Int) (t0 : Int) : Option Int :=
  gd (wR x2) <|
  if x2 = 3 then (
    gd (wR t0) <|
    if t0 = (-6) then (
      fX1_shifted_b52 H x1)
    else (
      cr (fX1_monthOf t0) fun r42 =>
      cr (fX1_monthOf x1) fun r46 =>
      gd (wR r42 ∧ wR r46) <|
      if r42 = r46 then (
        fX1_shifted_b58 H x1 t0)
      else (
        fX1_shifted_b52 H x1)))
  else (
    fX1_shifted_b58 H x1 t0)
noncomputable def fX1_shifted (x1 : Int) (x2 : Int) (H : hR) : Option Int :=
  gd (wR x2) <|
  if x2 = 0 then (
    some x1)
  else (
    gd (wR x2) <|
    if x2 = 4 then (
      some x1)
    else (
      gd (wR x2) <|
      if x2 = 2 then (
        cr (fX1_lastBusiness x1 H) fun r18 =>
        fX1_shifted_b29 H x1 x2 r18)
      else (
        cr (fX1_nextBusiness x1 H) fun r26 =>
        fX1_shifted_b29 H x1 x2 r26)))
noncomputable def fX2_addAccount (x1 : Int) (x2 : Int) (H : hR) : Option (Int × hR) :=
  cr (fX6_isBetween x1 0 1000000) fun r4 =>
  gd (wR r4) <|
  if r4 = 0 then (
    some ((-2), H))
  else (
    cr (fX6_isBetween x2 0 1000000) fun r14 =>
    gd (wR r14) <|
    if r14 = 0 then (
      some ((-2), H))
    else (
      gd (wR (H.1 0 4 0)) <|
      if (H.1 0 4 0) < 8 then (
        gd (0 ≤ (H.1 0 4 0) ∧ (H.1 0 4 0) < 8) <|
        cl (fX0_open (H.1 0 4 0) x1 x2 H) fun r46 H46 =>
        bnd (hS H46 0 4 0 ((H46.1 0 4 0) + 1)) fun H56 =>
        some (((H56.1 0 4 0) - 1), H56))
      else (
        some ((-4), H))))
noncomputable def fX2_areDates (x0 : Int) : Option Int :=
  cr (fX6_isBetween x0 0 39999) fun r4 =>
  gd (wR r4) <|
  if r4 = 0 then (
    some 0)
  else (
    gd (wR x0) <|
    gd (wR (dvI x0 100)) <|
    cr (fX6_isBetween (rmI (dvI x0 100) 100) 1 12) fun r20 =>
    gd (wR r20) <|
    if r20 = 0 then (
      some 0)
    else (
      gd (wR x0) <|
      cr (fX6_isBetween (rmI x0 100) 1 31) fun r33 =>
      gd (wR r33) <|
      if r33 = 0 then (
        some 0)
      else (
        some 1)))
noncomputable def fX2_hasAccount (x1 : Int) (H : hR) : Option Int :=
  gd (wR x1) <|
  if x1 < 0 then (
    some 0)
  else (
    gd (wR x1 ∧ wR (H.1 0 4 0)) <|
    if (H.1 0 4 0) ≤ x1 then (
      some 0)
    else (
      some 1))
noncomputable def fX3_begin_b98 (x0 : Int) (x6 : Int) (t0 : Int) (t1 : Int) (H : hR) : Option (Unit × hR) :=
  gd (t1 = 0 ∨ t1 = 1) <|
  bnd (hS H 3 t0 9 t1) fun H98 =>
  bnd (hS H98 3 x0 10 x6) fun H104 =>
  bnd (hS H104 3 x0 11 0) fun H109 =>
  bnd (hS H109 3 x0 12 0) fun H114 =>
  bnd (hS H114 3 x0 13 0) fun H119 =>
  bnd (hS H119 3 x0 14 0) fun H124 =>
  bnd (hS H124 3 x0 15 0) fun H129 =>
  bnd (hS H129 3 x0 16 0) fun H134 =>
  some ((), H134)
noncomputable def fX3_begin_b27 (x0 : Int) (x2 : Int) (x3 : Int) (x4 : Int) (x5 : Int) (x6 : Int) (t0 : Int) (t1 : Int) (H : hR) : Option (Unit × hR) :=
  bnd (hS H 3 t0 1 t1) fun H27 =>
  bnd (hS H27 3 x0 2 x2) fun H32 =>
  gd (wR x3) <|
  bnd (hS H32 3 x0 3 (dvI x3 10000)) fun H41 =>
  gd (wR x3) <|
  gd (wR (dvI x3 100)) <|
  bnd (hS H41 3 x0 4 (rmI (dvI x3 100) 100)) fun H52 =>
  gd (wR x3) <|
  bnd (hS H52 3 x0 5 (rmI x3 100)) fun H60 =>
  bnd (hS H60 3 x0 6 x4) fun H66 =>
  gd (wR x5) <|
  bnd (hS H66 3 x0 7 (dvI x5 10)) fun H75 =>
  gd (wR x5) <|
  bnd (hS H75 3 x0 8 (rmI x5 10)) fun H84 =>
  gd (wR x6) <|
  if x6 = 0 then (
    fX3_begin_b98 x0 x6 x0 1 H84)
  else (
    fX3_begin_b98 x0 x6 x0 0 H84)
noncomputable def fX3_begin (i : Int) (x1 : Int) (x2 : Int) (x3 : Int) (x4 : Int) (x5 : Int) (x6 : Int) (H : hR) : Option (Unit × hR) :=
  gd (wR x1) <|
  bnd (hS H 3 i 0 (dvI x1 9)) fun H5 =>
  gd (wR x1) <|
  gd (wR (rmI x1 9)) <|
  if (rmI x1 9) = 8 then (
    fX3_begin_b27 i x2 x3 x4 x5 x6 i (-6) H5)
  else (
    gd (wR x1) <|
    fX3_begin_b27 i x2 x3 x4 x5 x6 i (rmI x1 9) H5)
noncomputable def fX3_nominalDay_b38 (H : hR) (t0 : Int) (t1 : Int) (t2 : Int) : Option Int :=
  gd (wR (t0 + (t1 * t2))) <|
  if 1094 < (t0 + (t1 * t2)) then (
    some (-6))
  else (
    some (t0 + (t1 * t2)))
noncomputable def fX3_nominalDay_b15 (H : hR) (x0 : Int) (x1 : Int) : Option Int :=
  gd (wR (H.1 3 x0 3)) <|
  if (H.1 3 x0 3) = 0 then (
    fX3_nominalDay_b38 H (H.1 3 x0 6) (x1 * (H.1 3 x0 4)) 1)
  else (
    fX3_nominalDay_b38 H (H.1 3 x0 6) (x1 * (H.1 3 x0 4)) 7)
noncomputable def fX3_nominalDay (i : Int) (x1 : Int) (H : hR) : Option Int :=
  gd (wR (H.1 3 i 3)) <|
  if (H.1 3 i 3) = 0 then (
    fX3_nominalDay_b15 H i x1)
  else (
    gd (wR (H.1 3 i 3)) <|
    if (H.1 3 i 3) = 1 then (
      fX3_nominalDay_b15 H i x1)
    else (
      cr (fX1_monthOf (H.1 3 i 6)) fun r59 =>
      gd (wR (r59 + (x1 * (H.1 3 i 4)))) <|
      if (r59 + (x1 * (H.1 3 i 4))) ≤ 35 then (
        cr (fX1_firstDayOf (r59 + (x1 * (H.1 3 i 4)))) fun r80 =>
        cr (fX1_lastDayOf (r59 + (x1 * (H.1 3 i 4)))) fun r86 =>
        gd (wR (H.1 3 i 3)) <|
        if (H.1 3 i 3) = 2 then (
          gd (wR ((r80 + (H.1 3 i 5)) - 1) ∧ wR r86) <|
          some (min ((r80 + (H.1 3 i 5)) - 1) r86))
        else (
          cr (fX1_lastBusiness r86 H) fun r117 =>
          gd (wR r117 ∧ wR r80) <|
          if r117 < r80 then (
            some r86)
          else (
            some r117)))
      else (
        some (-6))))
noncomputable def fX3_aim_b92 (t0 : Int) (t1 : Int) (H : hR) : Option (Unit × hR) :=
  bnd (hS H 3 t0 19 t1) fun H92 =>
  some ((), H92)
noncomputable def fX3_aim_b64 (x0 : Int) (H : hR) : Option (Unit × hR) :=
  gd (wR (H.1 3 x0 18)) <|
  if (H.1 3 x0 18) = (-6) then (
    fX3_aim_b92 x0 1095 H)
  else (
    cr (fX1_shifted (H.1 3 x0 18) (H.1 3 x0 7) H) fun r89 =>
    fX3_aim_b92 x0 r89 H)
noncomputable def fX3_aim (i : Int) (H : hR) : Option (Unit × hR) :=
  bnd (hS H 3 i 17 (H.1 3 i 16)) fun H5 =>
  cr (fX3_nominalDay i (H5.1 3 i 16) H5) fun r15 =>
  bnd (hS H5 3 i 18 r15) fun H18 =>
  gd (wR (H18.1 3 i 18)) <|
  if (H18.1 3 i 18) = (-6) then (
    fX3_aim_b64 i H18)
  else (
    gd (wR (H18.1 3 i 18) ∧ wR (H18.1 3 i 6)) <|
    if (H18.1 3 i 6) ≤ (H18.1 3 i 18) then (
      fX3_aim_b64 i H18)
    else (
      bnd (hS H18 3 i 17 ((H18.1 3 i 16) + 1)) fun H48 =>
      cr (fX3_nominalDay i (H48.1 3 i 17) H48) fun r58 =>
      bnd (hS H48 3 i 18 r58) fun H61 =>
      fX3_aim_b64 i H61))
noncomputable def fX3_leaveOutBefore_b10 : Nat → Int → Int → Int → Int → hR → Option (Int × hR)
  | 0, _, _, _, _, _ => none
  | fuel + 1, x0, x1, x3, x4, H =>
    gd (wR x4) <|
    if 1094 < x4 then (
      some (x3, H))
    else (
      gd (wR (H.1 3 x0 19) ∧ wR x1) <|
      if x1 ≤ (H.1 3 x0 19) then (
        some (x3, H))
      else (
        bnd (hS H 3 x0 16 ((H.1 3 x0 17) + 1)) fun H36 =>
        cl (fX3_aim x0 H36) fun r41 H41 =>
        (fX3_leaveOutBefore_b10 fuel) x0 x1 (x3 + 1) (x4 + 1) H41 ))
noncomputable def fX3_leaveOutBefore (i : Int) (x1 : Int) (H : hR) : Option (Int × hR) :=
  cl (fX3_aim i H) fun r4 H4 =>
  fX3_leaveOutBefore_b10 fuel0 i x1 0 0 H4
noncomputable def fX2_addOrder_b50 (x1 : Int) (x2 : Int) (x3 : Int) (x4 : Int) (x5 : Int) (x6 : Int) (H : hR) : Option (Int × hR) :=
  cr (fX6_isBetween x2 1 1000000) fun r54 =>
  gd (wR r54) <|
  if r54 = 0 then (
    some ((-2), H))
  else (
    cr (fX2_areDates x3) fun r61 =>
    gd (wR r61) <|
    if r61 = 0 then (
      some ((-2), H))
    else (
      cr (fX6_isBetween x4 (H.1 0 6 0) 1094) fun r79 =>
      gd (wR r79) <|
      if r79 = 0 then (
        some ((-2), H))
      else (
        cr (fX6_isBetween x5 0 49) fun r93 =>
        gd (wR r93) <|
        if r93 = 0 then (
          some ((-2), H))
        else (
          cr (fX6_isBetween x6 0 99) fun r104 =>
          gd (wR r104) <|
          if r104 = 0 then (
            some ((-2), H))
          else (
            gd (wR (H.1 0 5 0)) <|
            if (H.1 0 5 0) < 16 then (
              gd (0 ≤ (H.1 0 5 0) ∧ (H.1 0 5 0) < 16) <|
              cl (fX3_begin (H.1 0 5 0) x1 x2 x3 x4 x5 x6 H) fun r143 H143 =>
              gd (0 ≤ (H143.1 0 5 0) ∧ (H143.1 0 5 0) < 16) <|
              cl (fX3_leaveOutBefore (H143.1 0 5 0) (H143.1 0 6 0) H143) fun r163 H163 =>
              bnd (hS H163 0 5 0 ((H163.1 0 5 0) + 1)) fun H174 =>
              some (((H174.1 0 5 0) - 1), H174))
            else (
              some ((-4), H)))))))
noncomputable def fX2_addOrder (x1 : Int) (x2 : Int) (x3 : Int) (x4 : Int) (x5 : Int) (x6 : Int) (H : hR) : Option (Int × hR) :=
  gd (wR x1) <|
  if x1 < 0 then (
    some ((-1), H))
  else (
    gd (wR x1) <|
    cr (fX2_hasAccount (dvI x1 9) H) fun r9 =>
    gd (wR r9) <|
    if r9 = 0 then (
      some ((-1), H))
    else (
      gd (wR x1) <|
      gd (wR x1) <|
      gd (wR (rmI x1 9) ∧ wR (dvI x1 9)) <|
      if (rmI x1 9) = (dvI x1 9) then (
        some ((-1), H))
      else (
        gd (wR (rmI x1 9)) <|
        if (rmI x1 9) = 8 then (
          fX2_addOrder_b50 x1 x2 x3 x4 x5 x6 H)
        else (
          cr (fX2_hasAccount (rmI x1 9) H) fun r42 =>
          gd (wR r42) <|
          if r42 = 0 then (
            some ((-1), H))
          else (
            fX2_addOrder_b50 x1 x2 x3 x4 x5 x6 H)))))
noncomputable def fX2_hasOrder (x1 : Int) (H : hR) : Option Int :=
  gd (wR x1) <|
  if x1 < 0 then (
    some 0)
  else (
    gd (wR x1 ∧ wR (H.1 0 5 0)) <|
    if (H.1 0 5 0) ≤ x1 then (
      some 0)
    else (
      some 1))
noncomputable def fX2_alterOrder (x1 : Int) (x2 : Int) (x3 : Int) (H : hR) : Option (Int × hR) :=
  cr (fX2_hasOrder x1 H) fun r2 =>
  gd (wR r2) <|
  if r2 = 0 then (
    some ((-1), H))
  else (
    cr (fX6_isBetween x2 1 1000000) fun r14 =>
    gd (wR r14) <|
    if r14 = 0 then (
      some ((-2), H))
    else (
      cr (fX6_isBetween x3 0 9) fun r24 =>
      gd (wR r24) <|
      if r24 = 0 then (
        some ((-2), H))
      else (
        gd (0 ≤ x1 ∧ x1 < 16) <|
        gd (wR (H.1 3 x1 11)) <|
        if (H.1 3 x1 11) = 2 then (
          some ((-5), H))
        else (
          gd (0 ≤ x1 ∧ x1 < 16) <|
          gd (0 ≤ x1 ∧ x1 < 16) <|
          bnd (hS H 3 x1 2 x2) fun H67 =>
          gd (0 ≤ x1 ∧ x1 < 16) <|
          bnd (hS H67 3 x1 8 x3) fun H77 =>
          some ((H.1 3 x1 2), H77)))))
noncomputable def fX2_chargeInterest_b85 (rec35 : UInt32 → Int → Int → hR → Option (Unit × hR)) (x1 : UInt32) (x2 : Int) (x3 : Int) (x4 : Int) (H : hR) : Option (Unit × hR) :=
  gd (wR x2) <|
  if x2 = 0 then (
    rec35 x1 x2 (x3 + 1) H )
  else (
    cl (fX0_takeInterest x4 H) fun r91 H91 =>
    rec35 x1 x2 (x3 + 1) H91 )
noncomputable def fX2_chargeInterest_b35 : Nat → UInt32 → Int → Int → hR → Option (Unit × hR)
  | 0, _, _, _, _ => none
  | fuel + 1, x1, x2, x3, H =>
    gd (wR x3 ∧ wR (H.1 0 4 0)) <|
    if (H.1 0 4 0) ≤ x3 then (
      some ((), H))
    else (
      gd (0 ≤ x3 ∧ x3 < 8) <|
      gd (wR64 (H.1 2 x3 3)) <|
      if 0 ≤ (H.1 2 x3 3) then (
        fX2_chargeInterest_b85 (fX2_chargeInterest_b35 fuel) x1 x2 x3 x3 H)
      else (
        gd (okD (FP.f2d x1)) <|
        gd (okD (FP.dmul (FP.l2d (jL (-(H.1 2 x3 3)))) (FP.f2d x1))) <|
        gd (okD (FP.ddiv (FP.dmul (FP.l2d (jL (-(H.1 2 x3 3)))) (FP.f2d x1)) 4645128764097822720)) <|
        gd (okD (FP.dadd (H.2 x3) (FP.ddiv (FP.dmul (FP.l2d (jL (-(H.1 2 x3 3)))) (FP.f2d x1)) 4645128764097822720))) <|
        bnd (hD H x3 (FP.dadd (H.2 x3) (FP.ddiv (FP.dmul (FP.l2d (jL (-(H.1 2 x3 3)))) (FP.f2d x1)) 4645128764097822720))) fun H82 =>
        fX2_chargeInterest_b85 (fX2_chargeInterest_b35 fuel) x1 x2 x3 x3 H82))
noncomputable def fX2_chargeInterest (H : hR) : Option (Unit × hR) :=
  gd (okF (FP.fdiv (FP.i2f (iI (H.1 0 9 0))) 1148846080)) <|
  cr (fX1_monthOf (H.1 0 6 0)) fun r14 =>
  cr (fX1_lastDayOf r14) fun r17 =>
  gd (wR r17 ∧ wR (H.1 0 6 0)) <|
  if r17 = (H.1 0 6 0) then (
    fX2_chargeInterest_b35 fuel0 (FP.fdiv (FP.i2f (iI (H.1 0 9 0))) 1148846080) 1 0 H)
  else (
    fX2_chargeInterest_b35 fuel0 (FP.fdiv (FP.i2f (iI (H.1 0 9 0))) 1148846080) 0 0 H)
noncomputable def fX3_copyFrom (H2 : hR) (i : Int) (x1 : Int) (H : hR) : Option (Unit × hR) :=
  bnd (hS H 3 i 0 (H2.1 3 x1 0)) fun H5 =>
  bnd (hS H5 3 i 1 (H2.1 3 x1 1)) fun H13 =>
  bnd (hS H13 3 i 2 (H2.1 3 x1 2)) fun H21 =>
  bnd (hS H21 3 i 3 (H2.1 3 x1 3)) fun H29 =>
  bnd (hS H29 3 i 4 (H2.1 3 x1 4)) fun H37 =>
  bnd (hS H37 3 i 5 (H2.1 3 x1 5)) fun H45 =>
  bnd (hS H45 3 i 6 (H2.1 3 x1 6)) fun H53 =>
  bnd (hS H53 3 i 7 (H2.1 3 x1 7)) fun H61 =>
  bnd (hS H61 3 i 8 (H2.1 3 x1 8)) fun H69 =>
  gd ((H2.1 3 x1 9) = 0 ∨ (H2.1 3 x1 9) = 1) <|
  bnd (hS H69 3 i 9 (H2.1 3 x1 9)) fun H77 =>
  bnd (hS H77 3 i 10 (H2.1 3 x1 10)) fun H85 =>
  bnd (hS H85 3 i 11 (H2.1 3 x1 11)) fun H93 =>
  bnd (hS H93 3 i 12 (H2.1 3 x1 12)) fun H101 =>
  bnd (hS H101 3 i 13 (H2.1 3 x1 13)) fun H109 =>
  bnd (hS H109 3 i 14 (H2.1 3 x1 14)) fun H117 =>
  bnd (hS H117 3 i 15 (H2.1 3 x1 15)) fun H125 =>
  bnd (hS H125 3 i 16 (H2.1 3 x1 16)) fun H133 =>
  some ((), H133)
noncomputable def fX5_copyFrom_b21 (H2 : hR) : Nat → Int → hR → Option (Unit × hR)
  | 0, _, _ => none
  | fuel + 1, x2, H =>
    gd (wR x2) <|
    if 5 ≤ x2 then (
      bnd (hS H 4 2 0 (H2.1 4 2 0)) fun H58 =>
      some ((), H58))
    else (
      gd (0 ≤ x2 ∧ x2 < 5) <|
      gd (0 ≤ x2 ∧ x2 < 5) <|
      gd (0 ≤ (H2.1 4 2 0) ∧ (H2.1 4 2 0) ≤ H2.1 4 1 0 ∧ (H2.1 4 2 0) ≤ H.1 4 1 0 ∧ H2.1 4 1 0 ≤ 2147483647 ∧ H.1 4 1 0 ≤ 2147483647) <|
      bnd (hCol H x2 (cpy (fun j => H2.1 5 x2 j) (fun j => H.1 5 x2 j) 0 0 (H2.1 4 2 0))) fun H44 =>
      (fX5_copyFrom_b21 H2 fuel) (x2 + 1) H44 )
noncomputable def fX5_copyFrom (H2 : hR) (H : hR) : Option (Unit × hR) :=
  gd (wR (H.1 4 1 0) ∧ wR (H2.1 4 2 0)) <|
  if (H2.1 4 2 0) ≤ (H.1 4 1 0) then (
    fX5_copyFrom_b21 H2 fuel0 0 H)
  else (
    cl (fX5_makeRoom (H2.1 4 1 0) H) fun r16 H16 =>
    fX5_copyFrom_b21 H2 fuel0 0 H16)
noncomputable def fX2_copyFrom_b44 (H2 : hR) : Nat → Int → hR → Option (Unit × hR)
  | 0, _, _ => none
  | fuel + 1, x2, H =>
    gd (wR x2 ∧ wR (H2.1 0 5 0)) <|
    if (H2.1 0 5 0) ≤ x2 then (
      cl (fX5_copyFrom H2 H) fun r81 H81 =>
      bnd (hS H81 0 4 0 (H2.1 0 4 0)) fun H89 =>
      bnd (hS H89 0 5 0 (H2.1 0 5 0)) fun H97 =>
      bnd (hS H97 0 6 0 (H2.1 0 6 0)) fun H105 =>
      bnd (hS H105 0 7 0 (H2.1 0 7 0)) fun H113 =>
      bnd (hS H113 0 8 0 (H2.1 0 8 0)) fun H121 =>
      bnd (hS H121 0 9 0 (H2.1 0 9 0)) fun H129 =>
      bnd (hS H129 0 10 0 (H2.1 0 10 0)) fun H137 =>
      some ((), H137))
    else (
      gd (0 ≤ x2 ∧ x2 < 16) <|
      gd (0 ≤ x2 ∧ x2 < 16) <|
      cl (fX3_copyFrom H2 x2 x2 H) fun r64 H64 =>
      (fX2_copyFrom_b44 H2 fuel) (x2 + 1) H64 )
noncomputable def fX2_copyFrom_b13 (H2 : hR) : Nat → Int → hR → Option (Unit × hR)
  | 0, _, _ => none
  | fuel + 1, x2, H =>
    gd (wR x2 ∧ wR (H2.1 0 4 0)) <|
    if (H2.1 0 4 0) ≤ x2 then (
      fX2_copyFrom_b44 H2 fuel0 0 H)
    else (
      gd (0 ≤ x2 ∧ x2 < 8) <|
      gd (0 ≤ x2 ∧ x2 < 8) <|
      cl (fX0_copyFrom H2 x2 x2 H) fun r33 H33 =>
      (fX2_copyFrom_b13 H2 fuel) (x2 + 1) H33 )
noncomputable def fX2_copyFrom (H2 : hR) (H : hR) : Option (Unit × hR) :=
  cl (fX1_copyFrom H2 H) fun r8 H8 =>
  fX2_copyFrom_b13 H2 fuel0 0 H8
noncomputable def fX2_settle (x1 : Int) (H : hR) : Option (Unit × hR) :=
  gd (0 ≤ x1 ∧ x1 < H.1 4 1 0 ∧ H.1 4 1 0 ≤ 2147483647) <|
  gd (0 ≤ (H.1 5 0 x1) ∧ (H.1 5 0 x1) < 16) <|
  bnd (hS H 3 (H.1 5 0 x1) 15 ((H.1 3 (H.1 5 0 x1) 15) - 1)) fun H24 =>
  gd (0 ≤ (H24.1 3 (H.1 5 0 x1) 0) ∧ (H24.1 3 (H.1 5 0 x1) 0) < 8) <|
  gd (0 ≤ x1 ∧ x1 < H24.1 4 1 0 ∧ H24.1 4 1 0 ≤ 2147483647) <|
  gd (wR (H24.1 5 1 x1)) <|
  bnd (hS H24 2 (H24.1 3 (H.1 5 0 x1) 0) 11 ((H24.1 2 (H24.1 3 (H.1 5 0 x1) 0) 11) - (H24.1 5 1 x1))) fun H53 =>
  gd (0 ≤ x1 ∧ x1 < H53.1 4 1 0 ∧ H53.1 4 1 0 ≤ 2147483647) <|
  bnd (hS H53 5 1 x1 0) fun H67 =>
  some ((), H67)
noncomputable def fX5_dropSettled_b28 (rec4 : Int → Int → hR → Option (Unit × hR)) : Nat → Int → Int → Int → hR → Option (Unit × hR)
  | 0, _, _, _, _ => none
  | fuel + 1, x1, x2, x3, H =>
    gd (wR x3) <|
    if 5 ≤ x3 then (
      rec4 (x1 + 1) (x2 + 1) H )
    else (
      gd (0 ≤ x3 ∧ x3 < 5) <|
      gd (0 ≤ x3 ∧ x3 < 5) <|
      gd (0 ≤ x2 ∧ x2 < H.1 4 1 0 ∧ H.1 4 1 0 ≤ 2147483647) <|
      gd (0 ≤ x1 ∧ x1 < H.1 4 1 0 ∧ H.1 4 1 0 ≤ 2147483647) <|
      bnd (hS H 5 x3 x1 (H.1 5 x3 x2)) fun H48 =>
      (fX5_dropSettled_b28 rec4 fuel) x1 x2 (x3 + 1) H48 )
noncomputable def fX5_dropSettled_b4 : Nat → Int → Int → hR → Option (Unit × hR)
  | 0, _, _, _ => none
  | fuel + 1, x1, x2, H =>
    gd (wR x2 ∧ wR (H.1 4 2 0)) <|
    if (H.1 4 2 0) ≤ x2 then (
      bnd (hS H 4 2 0 x1) fun H66 =>
      some ((), H66))
    else (
      gd (0 ≤ x2 ∧ x2 < H.1 4 1 0 ∧ H.1 4 1 0 ≤ 2147483647) <|
      gd (wR (H.1 5 1 x2)) <|
      if (H.1 5 1 x2) = 0 then (
        (fX5_dropSettled_b4 fuel) x1 (x2 + 1) H )
      else (
        fX5_dropSettled_b28 (fX5_dropSettled_b4 fuel) fuel0 x1 x2 0 H))
noncomputable def fX5_dropSettled (H : hR) : Option (Unit × hR) :=
  fX5_dropSettled_b4 fuel0 0 0 H
noncomputable def fX2_dropPayment (x1 : Int) (H : hR) : Option (Int × hR) :=
  cr (fX6_isBetween x1 0 ((H.1 4 2 0) - 1)) fun r11 =>
  gd (wR r11) <|
  if r11 = 0 then (
    some ((-1), H))
  else (
    gd (0 ≤ x1 ∧ x1 < H.1 4 1 0 ∧ H.1 4 1 0 ≤ 2147483647) <|
    gd (0 ≤ (H.1 5 0 x1) ∧ (H.1 5 0 x1) < 16) <|
    bnd (hS H 3 (H.1 5 0 x1) 13 ((H.1 3 (H.1 5 0 x1) 13) + 1)) fun H41 =>
    cl (fX2_settle x1 H41) fun r46 H46 =>
    cl (fX5_dropSettled H46) fun r53 H53 =>
    some ((H53.1 4 2 0), H53))
noncomputable def fX2_errorOfDays (x1 : Int) (H : hR) : Option Int :=
  cr (fX6_isBetween x1 1 400) fun r5 =>
  gd (wR r5) <|
  if r5 = 0 then (
    some (-2))
  else (
    gd (wR ((H.1 0 6 0) + x1)) <|
    if ((H.1 0 6 0) + x1) ≤ 1094 then (
      some 0)
    else (
      some (-5)))
noncomputable def fX2_failTry (x1 : Int) (H : hR) : Option (Unit × hR) :=
  gd (0 ≤ x1 ∧ x1 < H.1 4 1 0 ∧ H.1 4 1 0 ≤ 2147483647) <|
  gd (0 ≤ (H.1 5 0 x1) ∧ (H.1 5 0 x1) < 16) <|
  gd (0 ≤ (H.1 3 (H.1 5 0 x1) 0) ∧ (H.1 3 (H.1 5 0 x1) 0) < 8) <|
  gd (wR (H.1 0 8 0)) <|
  bnd (hS H 2 (H.1 3 (H.1 5 0 x1) 0) 3 ((H.1 2 (H.1 3 (H.1 5 0 x1) 0) 3) - (H.1 0 8 0))) fun H36 =>
  gd (0 ≤ (H36.1 3 (H.1 5 0 x1) 0) ∧ (H36.1 3 (H.1 5 0 x1) 0) < 8) <|
  gd (wR (H36.1 0 8 0)) <|
  bnd (hS H36 2 (H36.1 3 (H.1 5 0 x1) 0) 9 ((H36.1 2 (H36.1 3 (H.1 5 0 x1) 0) 9) + (H36.1 0 8 0))) fun H58 =>
  bnd (hS H58 0 10 0 ((H58.1 0 10 0) + 1)) fun H68 =>
  bnd (hS H68 0 11 0 (orI (H68.1 0 11 0) (shlI 1 (H68.1 3 (H.1 5 0 x1) 0)))) fun H83 =>
  gd (0 ≤ x1 ∧ x1 < H83.1 4 1 0 ∧ H83.1 4 1 0 ≤ 2147483647) <|
  gd (0 ≤ x1 ∧ x1 < H83.1 4 1 0 ∧ H83.1 4 1 0 ≤ 2147483647) <|
  bnd (hS H83 5 4 x1 ((H83.1 5 4 x1) + 1)) fun H100 =>
  gd (0 ≤ x1 ∧ x1 < H100.1 4 1 0 ∧ H100.1 4 1 0 ≤ 2147483647) <|
  gd (wR (H100.1 5 4 x1) ∧ wR (H100.1 0 7 0)) <|
  if (H100.1 0 7 0) ≤ (H100.1 5 4 x1) then (
    bnd (hS H100 3 (H.1 5 0 x1) 13 ((H100.1 3 (H.1 5 0 x1) 13) + 1)) fun H127 =>
    cl (fX2_settle x1 H127) fun r132 H132 =>
    some ((), H132))
  else (
    some ((), H100))
noncomputable def fX5_add_b39 (x1 : Int) (x2 : Int) (x3 : Int) (x4 : Int) (H : hR) : Option (Int × hR) :=
  gd (0 ≤ (H.1 4 2 0) ∧ (H.1 4 2 0) < H.1 4 1 0 ∧ H.1 4 1 0 ≤ 2147483647) <|
  bnd (hS H 5 0 (H.1 4 2 0) x1) fun H50 =>
  gd (0 ≤ (H50.1 4 2 0) ∧ (H50.1 4 2 0) < H50.1 4 1 0 ∧ H50.1 4 1 0 ≤ 2147483647) <|
  bnd (hS H50 5 1 (H50.1 4 2 0) x2) fun H62 =>
  gd (0 ≤ (H62.1 4 2 0) ∧ (H62.1 4 2 0) < H62.1 4 1 0 ∧ H62.1 4 1 0 ≤ 2147483647) <|
  bnd (hS H62 5 2 (H62.1 4 2 0) x3) fun H74 =>
  gd (0 ≤ (H74.1 4 2 0) ∧ (H74.1 4 2 0) < H74.1 4 1 0 ∧ H74.1 4 1 0 ≤ 2147483647) <|
  bnd (hS H74 5 3 (H74.1 4 2 0) x4) fun H87 =>
  gd (0 ≤ (H87.1 4 2 0) ∧ (H87.1 4 2 0) < H87.1 4 1 0 ∧ H87.1 4 1 0 ≤ 2147483647) <|
  bnd (hS H87 5 4 (H87.1 4 2 0) 0) fun H99 =>
  bnd (hS H99 4 2 0 ((H99.1 4 2 0) + 1)) fun H107 =>
  some (1, H107)
noncomputable def fX5_add (x1 : Int) (x2 : Int) (x3 : Int) (x4 : Int) (H : hR) : Option (Int × hR) :=
  gd (wR (H.1 4 2 0)) <|
  if (H.1 4 2 0) < 17520 then (
    gd (wR (H.1 4 2 0) ∧ wR (H.1 4 1 0)) <|
    if (H.1 4 2 0) < (H.1 4 1 0) then (
      fX5_add_b39 x1 x2 x3 x4 H)
    else (
      gd (wR (2 * (H.1 4 1 0)) ∧ wR 17520) <|
      cl (fX5_makeRoom (min (2 * (H.1 4 1 0)) 17520) H) fun r36 H36 =>
      fX5_add_b39 x1 x2 x3 x4 H36))
  else (
    some (0, H))
noncomputable def fX2_takeNextOccurrence_b57 (x1 : Int) (x2 : Int) (H : hR) : Option (Unit × hR) :=
  cl (fX5_add x1 (H.1 3 x2 2) (H.1 3 x2 18) (H.1 0 6 0) H) fun r74 H74 =>
  gd (wR r74) <|
  if r74 = 0 then (
    some ((), H74))
  else (
    bnd (hS H74 3 x2 15 ((H74.1 3 x2 15) + 1)) fun H88 =>
    gd (0 ≤ (H88.1 3 x2 0) ∧ (H88.1 3 x2 0) < 8) <|
    gd (wR (H88.1 3 x2 2)) <|
    bnd (hS H88 2 (H88.1 3 x2 0) 11 ((H88.1 2 (H88.1 3 x2 0) 11) + (H88.1 3 x2 2))) fun H110 =>
    some ((), H110))
noncomputable def fX2_takeNextOccurrence_b24 (x1 : Int) (x2 : Int) (H : hR) : Option (Unit × hR) :=
  gd (wR (H.1 3 x2 7)) <|
  if (H.1 3 x2 7) = 4 then (
    cr (fX1_isBusiness (H.1 3 x2 18) H) fun r40 =>
    gd (wR r40) <|
    if r40 = 0 then (
      bnd (hS H 3 x2 14 ((H.1 3 x2 14) + 1)) fun H53 =>
      some ((), H53))
    else (
      fX2_takeNextOccurrence_b57 x1 x2 H))
  else (
    fX2_takeNextOccurrence_b57 x1 x2 H)
noncomputable def fX2_takeNextOccurrence (x1 : Int) (H : hR) : Option (Unit × hR) :=
  gd (0 ≤ x1 ∧ x1 < 16) <|
  gd (wR (H.1 3 x1 9)) <|
  if (H.1 3 x1 9) = 0 then (
    bnd (hS H 3 x1 10 ((H.1 3 x1 10) - 1)) fun H21 =>
    fX2_takeNextOccurrence_b24 x1 x1 H21)
  else (
    fX2_takeNextOccurrence_b24 x1 x1 H)
noncomputable def fX3_hasPaymentsLeft (i : Int) (H : hR) : Option Int :=
  gd (wR (H.1 3 i 9)) <|
  if (H.1 3 i 9) = 0 then (
    gd (wR (H.1 3 i 10)) <|
    if (H.1 3 i 10) ≤ 0 then (
      some 0)
    else (
      some 1))
  else (
    some 1)
noncomputable def fX2_makePaymentsDue_b100 (rec2 : Int → hR → Option (Unit × hR)) (x1 : Int) (x2 : Int) (H : hR) : Option (Unit × hR) :=
  bnd (hS H 3 x2 11 2) fun H102 =>
  rec2 (x1 + 1) H102 
noncomputable def fX2_makePaymentsDue_b83 (rec2 : Int → hR → Option (Unit × hR)) (x1 : Int) (x2 : Int) (H : hR) : Option (Unit × hR) :=
  cr (fX3_hasPaymentsLeft x2 H) fun r84 =>
  gd (wR r84) <|
  if r84 = 0 then (
    fX2_makePaymentsDue_b100 rec2 x1 x2 H)
  else (
    gd (wR (H.1 3 x2 19)) <|
    if (H.1 3 x2 19) = 1095 then (
      fX2_makePaymentsDue_b100 rec2 x1 x2 H)
    else (
      rec2 (x1 + 1) H ))
noncomputable def fX2_makePaymentsDue_b29 (rec2 : Int → hR → Option (Unit × hR)) : Nat → Int → Int → Int → hR → Option (Unit × hR)
  | 0, _, _, _, _ => none
  | fuel + 1, x1, x2, x3, H =>
    gd (wR x3) <|
    if 1094 < x3 then (
      fX2_makePaymentsDue_b83 rec2 x1 x2 H)
    else (
      cr (fX3_hasPaymentsLeft x2 H) fun r37 =>
      gd (wR r37) <|
      if r37 = 0 then (
        fX2_makePaymentsDue_b83 rec2 x1 x2 H)
      else (
        gd (wR (H.1 3 x2 19) ∧ wR (H.1 0 6 0)) <|
        if (H.1 0 6 0) < (H.1 3 x2 19) then (
          fX2_makePaymentsDue_b83 rec2 x1 x2 H)
        else (
          cl (fX2_takeNextOccurrence x1 H) fun r56 H56 =>
          bnd (hS H56 3 x2 16 ((H56.1 3 x2 17) + 1)) fun H66 =>
          cl (fX3_aim x2 H66) fun r74 H74 =>
          (fX2_makePaymentsDue_b29 rec2 fuel) x1 x2 (x3 + 1) H74 )))
noncomputable def fX2_makePaymentsDue_b2 : Nat → Int → hR → Option (Unit × hR)
  | 0, _, _ => none
  | fuel + 1, x1, H =>
    gd (wR x1 ∧ wR (H.1 0 5 0)) <|
    if (H.1 0 5 0) ≤ x1 then (
      some ((), H))
    else (
      gd (0 ≤ x1 ∧ x1 < 16) <|
      gd (wR (H.1 3 x1 11)) <|
      if (H.1 3 x1 11) = 0 then (
        fX2_makePaymentsDue_b29 (fX2_makePaymentsDue_b2 fuel) fuel0 x1 x1 0 H)
      else (
        (fX2_makePaymentsDue_b2 fuel) (x1 + 1) H ))
noncomputable def fX2_makePaymentsDue (H : hR) : Option (Unit × hR) :=
  fX2_makePaymentsDue_b2 fuel0 0 H
noncomputable def fX2_nameFeeder_b31 (x1 : Int) (x2 : Int) (H : hR) : Option (Int × hR) :=
  gd (0 ≤ x1 ∧ x1 < 8) <|
  gd (0 ≤ x1 ∧ x1 < 8) <|
  bnd (hS H 2 x1 2 x2) fun H48 =>
  some ((H.1 2 x1 2), H48)
noncomputable def fX2_nameFeeder (x1 : Int) (x2 : Int) (H : hR) : Option (Int × hR) :=
  cr (fX2_hasAccount x1 H) fun r2 =>
  gd (wR r2) <|
  if r2 = 0 then (
    some ((-1), H))
  else (
    gd (wR x2) <|
    if x2 = (-6) then (
      fX2_nameFeeder_b31 x1 x2 H)
    else (
      gd (wR x2 ∧ wR x1) <|
      if x2 = x1 then (
        some ((-1), H))
      else (
        cr (fX2_hasAccount x2 H) fun r23 =>
        gd (wR r23) <|
        if r23 = 0 then (
          some ((-1), H))
        else (
          fX2_nameFeeder_b31 x1 x2 H))))
noncomputable def fX2_nextNominalDay (x1 : Int) (H : hR) : Option (Int × hR) :=
  gd (0 ≤ x1 ∧ x1 < 16) <|
  gd (wR (H.1 3 x1 11)) <|
  if (H.1 3 x1 11) = 2 then (
    some ((-6), H))
  else (
    gd (0 ≤ x1 ∧ x1 < 16) <|
    cl (fX3_aim x1 H) fun r26 H26 =>
    gd (0 ≤ x1 ∧ x1 < 16) <|
    some ((H26.1 3 x1 18), H26))
noncomputable def fX2_settingOf (x1 : Int) (H : hR) : Option Int :=
  gd (wR x1) <|
  if x1 = 0 then (
    some (H.1 0 7 0))
  else if x1 = 1 then (
    some (H.1 0 8 0))
  else if x1 = 2 then (
    some (H.1 0 9 0))
  else (
    some (H.1 1 2 0))
noncomputable def fX3_numberOf (i : Int) (x1 : Int) (H : hR) : Option Int :=
  gd (wR x1) <|
  if x1 = 0 then (
    some (H.1 3 i 0))
  else if x1 = 1 then (
    some (H.1 3 i 1))
  else if x1 = 2 then (
    some (H.1 3 i 2))
  else if x1 = 3 then (
    some (H.1 3 i 3))
  else if x1 = 4 then (
    some (H.1 3 i 4))
  else if x1 = 5 then (
    some (H.1 3 i 5))
  else if x1 = 6 then (
    some (H.1 3 i 6))
  else if x1 = 7 then (
    some (H.1 3 i 7))
  else if x1 = 8 then (
    some (H.1 3 i 8))
  else if x1 = 9 then (
    gd (wR (H.1 3 i 11)) <|
    if (H.1 3 i 11) = 2 then (
      some 0)
    else (
      some (H.1 3 i 10)))
  else if x1 = 10 then (
    some (H.1 3 i 11))
  else if x1 = 11 then (
    some (H.1 3 i 12))
  else if x1 = 12 then (
    some (H.1 3 i 13))
  else if x1 = 13 then (
    some (H.1 3 i 14))
  else if x1 = 14 then (
    some (H.1 3 i 15))
  else (
    some (-2))
noncomputable def fX2_sumOverOrders_b4 (H : hR) : Nat → Int → Int → Int → Option Int
  | 0, _, _, _ => none
  | fuel + 1, x1, x2, x3 =>
    gd (wR x3 ∧ wR (H.1 0 5 0)) <|
    if (H.1 0 5 0) ≤ x3 then (
      some x2)
    else (
      gd (0 ≤ x3 ∧ x3 < 16) <|
      cr (fX3_numberOf x3 x1 H) fun r20 =>
      (fX2_sumOverOrders_b4 H fuel) x1 (x2 + r20) (x3 + 1) )
noncomputable def fX2_sumOverOrders (x1 : Int) (H : hR) : Option Int :=
  fX2_sumOverOrders_b4 H fuel0 x1 0 0
noncomputable def fX2_numberOf (x1 : Int) (H : hR) : Option Int :=
  gd (wR x1) <|
  if x1 = 0 then (
    some (H.1 0 6 0))
  else if x1 = 1 then (
    some (H.1 0 4 0))
  else if x1 = 2 then (
    some (H.1 0 5 0))
  else if x1 = 3 then (
    some (H.1 1 1 0))
  else if x1 = 4 then (
    some (H.1 4 2 0))
  else if x1 = 5 then (
    cr (fX2_sumOverOrders (x1 + 6) H) fun r112 =>
    some r112)
  else if x1 = 6 then (
    cr (fX2_sumOverOrders (x1 + 6) H) fun r112 =>
    some r112)
  else if x1 = 7 then (
    cr (fX2_sumOverOrders (x1 + 6) H) fun r112 =>
    some r112)
  else if x1 = 8 then (
    some (H.1 0 10 0))
  else if x1 = 9 then (
    some (-2))
  else if x1 = 10 then (
    some (-2))
  else if x1 = 11 then (
    cr (fX2_settingOf (x1 - 11) H) fun r126 =>
    some r126)
  else if x1 = 12 then (
    cr (fX2_settingOf (x1 - 11) H) fun r126 =>
    some r126)
  else if x1 = 13 then (
    cr (fX2_settingOf (x1 - 11) H) fun r126 =>
    some r126)
  else if x1 = 14 then (
    cr (fX2_settingOf (x1 - 11) H) fun r126 =>
    some r126)
  else (
    some (-2))
noncomputable def fX2_tryPayment_b138 (x1 : Int) (x2 : Int) (H : hR) : Option (Unit × hR) :=
  bnd (hS H 3 x2 12 ((H.1 3 x2 12) + 1)) fun H145 =>
  cl (fX2_settle x1 H145) fun r150 H150 =>
  some ((), H150)
noncomputable def fX2_tryPayment (x1 : Int) (H : hR) : Option (Unit × hR) :=
  gd (0 ≤ x1 ∧ x1 < H.1 4 1 0 ∧ H.1 4 1 0 ≤ 2147483647) <|
  gd (0 ≤ (H.1 5 0 x1) ∧ (H.1 5 0 x1) < 16) <|
  gd (0 ≤ (H.1 3 (H.1 5 0 x1) 0) ∧ (H.1 3 (H.1 5 0 x1) 0) < 8) <|
  gd (0 ≤ x1 ∧ x1 < H.1 4 1 0 ∧ H.1 4 1 0 ≤ 2147483647) <|
  gd (wR (H.1 2 (H.1 3 (H.1 5 0 x1) 0) 0)) <|
  gd (wR (H.1 5 1 x1)) <|
  gd (wR64 ((H.1 2 (H.1 3 (H.1 5 0 x1) 0) 3) + (H.1 2 (H.1 3 (H.1 5 0 x1) 0) 0)) ∧ wR64 (H.1 5 1 x1)) <|
  if (H.1 5 1 x1) ≤ ((H.1 2 (H.1 3 (H.1 5 0 x1) 0) 3) + (H.1 2 (H.1 3 (H.1 5 0 x1) 0) 0)) then (
    gd (wR (H.1 5 1 x1)) <|
    bnd (hS H 2 (H.1 3 (H.1 5 0 x1) 0) 3 ((H.1 2 (H.1 3 (H.1 5 0 x1) 0) 3) - (H.1 5 1 x1))) fun H72 =>
    gd (wR (H.1 5 1 x1)) <|
    bnd (hS H72 2 (H.1 3 (H.1 5 0 x1) 0) 5 ((H72.1 2 (H.1 3 (H.1 5 0 x1) 0) 5) + (H.1 5 1 x1))) fun H84 =>
    cr (fX2_hasAccount (H84.1 3 (H.1 5 0 x1) 1) H84) fun r92 =>
    gd (wR r92) <|
    if r92 = 0 then (
      fX2_tryPayment_b138 x1 (H.1 5 0 x1) H84)
    else (
      gd (0 ≤ (H84.1 3 (H.1 5 0 x1) 1) ∧ (H84.1 3 (H.1 5 0 x1) 1) < 8) <|
      gd (wR (H.1 5 1 x1)) <|
      bnd (hS H84 2 (H84.1 3 (H.1 5 0 x1) 1) 3 ((H84.1 2 (H84.1 3 (H.1 5 0 x1) 1) 3) + (H.1 5 1 x1))) fun H115 =>
      gd (0 ≤ (H115.1 3 (H.1 5 0 x1) 1) ∧ (H115.1 3 (H.1 5 0 x1) 1) < 8) <|
      gd (wR (H.1 5 1 x1)) <|
      bnd (hS H115 2 (H115.1 3 (H.1 5 0 x1) 1) 6 ((H115.1 2 (H115.1 3 (H.1 5 0 x1) 1) 6) + (H.1 5 1 x1))) fun H135 =>
      fX2_tryPayment_b138 x1 (H.1 5 0 x1) H135))
  else (
    cl (fX2_failTry x1 H) fun r59 H59 =>
    some ((), H59))
noncomputable def fX2_payWaitingOf_b2 : Nat → Int → Int → hR → Option (Unit × hR)
  | 0, _, _, _ => none
  | fuel + 1, x1, x2, H =>
    gd (wR x2 ∧ wR (H.1 4 2 0)) <|
    if (H.1 4 2 0) ≤ x2 then (
      some ((), H))
    else (
      gd (0 ≤ x2 ∧ x2 < H.1 4 1 0 ∧ H.1 4 1 0 ≤ 2147483647) <|
      gd (0 ≤ (H.1 5 0 x2) ∧ (H.1 5 0 x2) < 16) <|
      gd (wR (H.1 3 (H.1 5 0 x2) 8) ∧ wR x1) <|
      if (H.1 3 (H.1 5 0 x2) 8) = x1 then (
        cl (fX2_tryPayment x2 H) fun r38 H38 =>
        (fX2_payWaitingOf_b2 fuel) x1 (x2 + 1) H38 )
      else (
        (fX2_payWaitingOf_b2 fuel) x1 (x2 + 1) H ))
noncomputable def fX2_payWaitingOf (x1 : Int) (H : hR) : Option (Unit × hR) :=
  fX2_payWaitingOf_b2 fuel0 x1 0 H
noncomputable def fX2_payWaiting_b48 : Nat → Int → Int → hR → Option (Unit × hR)
  | 0, _, _, _ => none
  | fuel + 1, x1, x2, H =>
    gd (wR x2) <|
    if x2 < 0 then (
      cl (fX5_dropSettled H) fun r75 H75 =>
      some ((), H75))
    else (
      gd (wR (andI (shrI x1 x2) 1)) <|
      if (andI (shrI x1 x2) 1) = 0 then (
        (fX2_payWaiting_b48 fuel) x1 (x2 + (-1)) H )
      else (
        cl (fX2_payWaitingOf x2 H) fun r62 H62 =>
        (fX2_payWaiting_b48 fuel) x1 (x2 + (-1)) H62 ))
noncomputable def fX2_payWaiting_b4 : Nat → Int → Int → hR → Option (Unit × hR)
  | 0, _, _, _ => none
  | fuel + 1, x1, x2, H =>
    gd (wR x2 ∧ wR (H.1 4 2 0)) <|
    if (H.1 4 2 0) ≤ x2 then (
      fX2_payWaiting_b48 fuel0 x1 9 H)
    else (
      gd (0 ≤ x2 ∧ x2 < H.1 4 1 0 ∧ H.1 4 1 0 ≤ 2147483647) <|
      gd (0 ≤ (H.1 5 0 x2) ∧ (H.1 5 0 x2) < 16) <|
      (fX2_payWaiting_b4 fuel) (orI x1 (shlI 1 (H.1 3 (H.1 5 0 x2) 8))) (x2 + 1) H )
noncomputable def fX2_payWaiting (H : hR) : Option (Unit × hR) :=
  fX2_payWaiting_b4 fuel0 0 0 H
noncomputable def fX2_sweep_b2 : Nat → Int → hR → Option (Unit × hR)
  | 0, _, _ => none
  | fuel + 1, x1, H =>
    gd (wR x1 ∧ wR (H.1 0 4 0)) <|
    if (H.1 0 4 0) ≤ x1 then (
      some ((), H))
    else (
      gd (0 ≤ x1 ∧ x1 < 8) <|
      cr (fX2_hasAccount (H.1 2 x1 2) H) fun r22 =>
      gd (wR r22) <|
      if r22 = 0 then (
        (fX2_sweep_b2 fuel) (x1 + 1) H )
      else (
        gd (0 ≤ (H.1 2 x1 2) ∧ (H.1 2 x1 2) < 8) <|
        gd (wR (H.1 2 x1 0)) <|
        gd (wR (H.1 2 (H.1 2 x1 2) 1)) <|
        gd (wR64 (((H.1 2 x1 11) - (H.1 2 x1 3)) - (H.1 2 x1 0)) ∧ wR64 ((H.1 2 (H.1 2 x1 2) 3) - (H.1 2 (H.1 2 x1 2) 1))) <|
        gd (wR64 (min (((H.1 2 x1 11) - (H.1 2 x1 3)) - (H.1 2 x1 0)) ((H.1 2 (H.1 2 x1 2) 3) - (H.1 2 (H.1 2 x1 2) 1)))) <|
        if 0 < (min (((H.1 2 x1 11) - (H.1 2 x1 3)) - (H.1 2 x1 0)) ((H.1 2 (H.1 2 x1 2) 3) - (H.1 2 (H.1 2 x1 2) 1))) then (
          bnd (hS H 2 (H.1 2 x1 2) 3 ((H.1 2 (H.1 2 x1 2) 3) - (min (((H.1 2 x1 11) - (H.1 2 x1 3)) - (H.1 2 x1 0)) ((H.1 2 (H.1 2 x1 2) 3) - (H.1 2 (H.1 2 x1 2) 1))))) fun H93 =>
          bnd (hS H93 2 (H.1 2 x1 2) 8 ((H93.1 2 (H.1 2 x1 2) 8) + (min (((H.1 2 x1 11) - (H.1 2 x1 3)) - (H.1 2 x1 0)) ((H.1 2 (H.1 2 x1 2) 3) - (H.1 2 (H.1 2 x1 2) 1))))) fun H104 =>
          bnd (hS H104 2 x1 3 ((H104.1 2 x1 3) + (min (((H.1 2 x1 11) - (H.1 2 x1 3)) - (H.1 2 x1 0)) ((H.1 2 (H.1 2 x1 2) 3) - (H.1 2 (H.1 2 x1 2) 1))))) fun H115 =>
          bnd (hS H115 2 x1 7 ((H115.1 2 x1 7) + (min (((H.1 2 x1 11) - (H.1 2 x1 3)) - (H.1 2 x1 0)) ((H.1 2 (H.1 2 x1 2) 3) - (H.1 2 (H.1 2 x1 2) 1))))) fun H126 =>
          (fX2_sweep_b2 fuel) (x1 + 1) H126 )
        else (
          (fX2_sweep_b2 fuel) (x1 + 1) H )))
noncomputable def fX2_sweep (H : hR) : Option (Unit × hR) :=
  fX2_sweep_b2 fuel0 0 H
noncomputable def fX2_passDays_b77 (rec31 : Int → Int → Int → hR → Option (Int × hR)) (x1 : Int) (x2 : Int) (x3 : Int) (H : hR) : Option (Int × hR) :=
  cl (fX2_chargeInterest H) fun r78 H78 =>
  bnd (hS H78 0 6 0 ((H78.1 0 6 0) + 1)) fun H88 =>
  gd (wR (andI (H88.1 0 11 0) x2)) <|
  if (andI (H88.1 0 11 0) x2) = 0 then (
    rec31 x1 x2 (x3 + 1) H88 )
  else (
    some (((H88.1 0 6 0) - 1), H88))
noncomputable def fX2_passDays_b31 : Nat → Int → Int → Int → hR → Option (Int × hR)
  | 0, _, _, _, _ => none
  | fuel + 1, x1, x2, x3, H =>
    gd (wR x3 ∧ wR x1) <|
    if x1 ≤ x3 then (
      some ((-6), H))
    else (
      gd (wR (H.1 0 6 0)) <|
      if 1094 ≤ (H.1 0 6 0) then (
        some ((-6), H))
      else (
        bnd (hS H 0 11 0 0) fun H48 =>
        cl (fX2_makePaymentsDue H48) fun r52 H52 =>
        cl (fX2_sweep H52) fun r56 H56 =>
        cr (fX1_isBusiness (H56.1 0 6 0) H56) fun r67 =>
        gd (wR r67) <|
        if r67 = 0 then (
          fX2_passDays_b77 (fX2_passDays_b31 fuel) x1 x2 x3 H56)
        else (
          cl (fX2_payWaiting H56) fun r74 H74 =>
          fX2_passDays_b77 (fX2_passDays_b31 fuel) x1 x2 x3 H74)))
noncomputable def fX2_passDays_b2 : Nat → Int → Int → Int → hR → Option (Int × hR)
  | 0, _, _, _, _ => none
  | fuel + 1, x1, x2, x3, H =>
    gd (wR x3 ∧ wR (H.1 0 5 0)) <|
    if (H.1 0 5 0) ≤ x3 then (
      fX2_passDays_b31 fuel0 x1 x2 0 H)
    else (
      gd (0 ≤ x3 ∧ x3 < 16) <|
      cl (fX3_aim x3 H) fun r20 H20 =>
      (fX2_passDays_b2 fuel) x1 x2 (x3 + 1) H20 )
noncomputable def fX2_passDays (x1 : Int) (x2 : Int) (H : hR) : Option (Int × hR) :=
  fX2_passDays_b2 fuel0 x1 x2 0 H
noncomputable def fX2_payIn (x1 : Int) (x2 : Int) (H : hR) : Option (Int × hR) :=
  cr (fX2_hasAccount x1 H) fun r2 =>
  gd (wR r2) <|
  if r2 = 0 then (
    some ((-1), H))
  else (
    cr (fX6_isBetween x2 1 100000000) fun r14 =>
    gd (wR r14) <|
    if r14 = 0 then (
      some ((-2), H))
    else (
      gd (0 ≤ x1 ∧ x1 < 8) <|
      gd (wR x2) <|
      bnd (hS H 2 x1 3 ((H.1 2 x1 3) + x2)) fun H36 =>
      gd (0 ≤ x1 ∧ x1 < 8) <|
      gd (wR x2) <|
      bnd (hS H36 2 x1 4 ((H36.1 2 x1 4) + x2)) fun H52 =>
      gd (0 ≤ x1 ∧ x1 < 8) <|
      gd (wR64 (H52.1 2 x1 3)) <|
      if (H52.1 2 x1 3) < 0 then (
        some (0, H52))
      else (
        some (1, H52))))
noncomputable def fX2_replaceSetting (x1 : Int) (x2 : Int) (H : hR) : Option (Int × hR) :=
  cr (fX6_isBetween x1 0 3) fun r3 =>
  gd (wR r3) <|
  if r3 = 0 then (
    some ((-2), H))
  else (
    gd (0 ≤ x1 ∧ x1 < 4) <|
    gd (0 ≤ x1 ∧ x1 < 4) <|
    cr (fX6_isBetween x2 (sRow 0 x1) (sRow 1 x1)) fun r23 =>
    gd (wR r23) <|
    if r23 = 0 then (
      some ((-2), H))
    else (
      cr (fX2_settingOf x1 H) fun r34 =>
      gd (wR x1) <|
      if x1 = 0 then (
        bnd (hS H 0 7 0 x2) fun H66 =>
        some (r34, H66))
      else if x1 = 1 then (
        bnd (hS H 0 8 0 x2) fun H74 =>
        some (r34, H74))
      else if x1 = 2 then (
        bnd (hS H 0 9 0 x2) fun H82 =>
        some (r34, H82))
      else (
        bnd (hS H 1 2 0 x2) fun H93 =>
        some (r34, H93))))
noncomputable def fX2_resumeOrder (x1 : Int) (H : hR) : Option (Int × hR) :=
  cr (fX2_hasOrder x1 H) fun r2 =>
  gd (wR r2) <|
  if r2 = 0 then (
    some ((-1), H))
  else (
    gd (0 ≤ x1 ∧ x1 < 16) <|
    gd (wR (H.1 3 x1 11)) <|
    if (H.1 3 x1 11) = 1 then (
      gd (0 ≤ x1 ∧ x1 < 16) <|
      bnd (hS H 3 x1 11 0) fun H33 =>
      gd (0 ≤ x1 ∧ x1 < 16) <|
      cl (fX3_leaveOutBefore x1 (H33.1 0 6 0) H33) fun r50 H50 =>
      some (r50, H50))
    else (
      some ((-5), H)))
noncomputable def fX2_stopOrder (x1 : Int) (H : hR) : Option (Int × hR) :=
  cr (fX2_hasOrder x1 H) fun r2 =>
  gd (wR r2) <|
  if r2 = 0 then (
    some ((-1), H))
  else (
    gd (0 ≤ x1 ∧ x1 < 16) <|
    gd (wR (H.1 3 x1 11)) <|
    if (H.1 3 x1 11) = 0 then (
      gd (0 ≤ x1 ∧ x1 < 16) <|
      bnd (hS H 3 x1 11 1) fun H32 =>
      gd (0 ≤ x1 ∧ x1 < 16) <|
      some ((H32.1 3 x1 15), H32))
    else (
      some ((-5), H)))
noncomputable def fX3_dateBehindNext_b26 (x0 : Int) (x1 : Int) (H : hR) : Option (Int × hR) :=
  cl (fX3_aim x0 H) fun r28 H28 =>
  cr (fX3_nominalDay x0 ((H28.1 3 x0 17) + x1) H28) fun r39 =>
  gd (wR r39) <|
  if r39 = (-6) then (
    some ((-6), H28))
  else (
    cr (fX1_shifted r39 (H28.1 3 x0 7) H28) fun r60 =>
    some (r60, H28))
noncomputable def fX3_dateBehindNext (i : Int) (x1 : Int) (H : hR) : Option (Int × hR) :=
  gd (wR (H.1 3 i 11)) <|
  if (H.1 3 i 11) = 2 then (
    some ((-6), H))
  else (
    gd (wR (H.1 3 i 9)) <|
    if (H.1 3 i 9) = 0 then (
      gd (wR x1 ∧ wR (H.1 3 i 10)) <|
      if x1 < (H.1 3 i 10) then (
        fX3_dateBehindNext_b26 i x1 H)
      else (
        some ((-6), H)))
    else (
      fX3_dateBehindNext_b26 i x1 H))
noncomputable def fX4_append_b79 : Nat → Int → Int → Int → (Int → Int → Int) → Option (Int × (Int → Int → Int))
  | 0, _, _, _, _ => none
  | fuel + 1, x1, x3, x4, p =>
    gd (wR x4 ∧ wR x3) <|
    if x3 ≤ x4 then (
      bnd (pS p 0 1 ((p 0 1) + x3)) fun p127 =>
      some ((p127 0 1), p127))
    else (
      gd ((0 ≤ ((p 0 1) + x4) ∧ ((p 0 1) + x4) < 80) ∧ (0 ≤ (i2cI (landI (lushrI x1 (8 * ((x3 - 1) - x4))) 255)) ∧ (i2cI (landI (lushrI x1 (8 * ((x3 - 1) - x4))) 255)) ≤ 65535)) <|
      bnd (pS p 1 ((p 0 1) + x4) (i2cI (landI (lushrI x1 (8 * ((x3 - 1) - x4))) 255))) fun p113 =>
      (fX4_append_b79 fuel) x1 x3 (x4 + 1) p113 )
noncomputable def fX4_append_b55 (x1 : Int) (x3 : Int) (p : (Int → Int → Int)) : Option (Int × (Int → Int → Int)) :=
  gd (wR x3) <|
  if x3 = 0 then (
    some ((-2), p))
  else (
    gd (wR ((p 0 1) + x3)) <|
    if ((p 0 1) + x3) ≤ 80 then (
      fX4_append_b79 fuel0 x1 x3 0 p)
    else (
      some ((-4), p)))
noncomputable def fX4_append_b5 : Nat → Int → Int → Int → (Int → Int → Int) → Option (Int × (Int → Int → Int))
  | 0, _, _, _, _ => none
  | fuel + 1, x1, x3, x4, p =>
    gd (wR x3) <|
    if 8 ≤ x3 then (
      fX4_append_b55 x1 x3 p)
    else (
      gd (wR64 x4) <|
      if x4 = 0 then (
        fX4_append_b55 x1 x3 p)
      else (
        cr (fX6_isBetween (landI x4 255) 33 126) fun r33 =>
        gd (wR r33) <|
        if r33 = 0 then (
          some ((-2), p))
        else (
          (fX4_append_b5 fuel) x1 (x3 + 1) (lushrI x4 8) p )))
noncomputable def fX4_append (x1 : Int) (p : (Int → Int → Int)) : Option (Int × (Int → Int → Int)) :=
  fX4_append_b5 fuel0 x1 0 x1 p
noncomputable def fX4_sign (p : (Int → Int → Int)) : Option Int :=
  gd (wR (p 0 2)) <|
  if (p 0 2) < 0 then (
    some 0)
  else (
    gd (wR (p 0 2) ∧ wR (p 0 1)) <|
    if (p 0 1) ≤ (p 0 2) then (
      some 0)
    else (
      gd (wR (p 0 2)) <|
      if 80 ≤ (p 0 2) then (
        some 0)
      else (
        gd (0 ≤ (p 0 2) ∧ (p 0 2) < 80) <|
        gd (0 ≤ (p 1 (p 0 2)) ∧ (p 1 (p 0 2)) ≤ 65535) <|
        some (p 1 (p 0 2)))))
noncomputable def fX4_takes (x1 : Int) (p : (Int → Int → Int)) : Option (Int × (Int → Int → Int)) :=
  cr (fX4_sign p) fun r1 =>
  gd (wR r1 ∧ wR x1) <|
  if r1 = x1 then (
    bnd (pS p 0 2 ((p 0 2) + 1)) fun p17 =>
    some (1, p17))
  else (
    some (0, p))
noncomputable def fX4_readNumber_b67 (x1 : Int) (x2 : Int) (p : (Int → Int → Int)) : Option (Int × (Int → Int → Int)) :=
  gd (wR x2) <|
  if x2 = 0 then (
    some ((-1), p))
  else (
    some (x1, p))
noncomputable def fX4_readNumber_b15 : Nat → Int → Int → (Int → Int → Int) → Option (Int × (Int → Int → Int))
  | 0, _, _, _ => none
  | fuel + 1, x1, x2, p =>
    gd (wR x2) <|
    if 5 ≤ x2 then (
      fX4_readNumber_b67 x1 x2 p)
    else (
      cr (fX4_sign p) fun r21 =>
      gd (wR r21) <|
      if r21 < 48 then (
        fX4_readNumber_b67 x1 x2 p)
      else (
        cr (fX4_sign p) fun r30 =>
        gd (wR r30) <|
        if 57 < r30 then (
          fX4_readNumber_b67 x1 x2 p)
        else (
          cr (fX4_sign p) fun r43 =>
          bnd (pS p 0 2 ((p 0 2) + 1)) fun p58 =>
          (fX4_readNumber_b15 fuel) ((10 * x1) + (r43 - 48)) (x2 + 1) p58 )))
noncomputable def fX4_readNumber (p : (Int → Int → Int)) : Option (Int × (Int → Int → Int)) :=
  cl (fX4_takes 48 p) fun r3 p3 =>
  gd (wR r3) <|
  if r3 = 0 then (
    fX4_readNumber_b15 fuel0 0 0 p3)
  else (
    some (0, p3))
noncomputable def fX4_readOneOf (x1 : Int) (p : (Int → Int → Int)) : Option (Int × (Int → Int → Int)) :=
  cr (fX4_sign p) fun c =>
  gd (0 ≤ c ∧ c ≤ 65535) <|
  if 0 ≤ idxS x1 c then (
    some (idxS x1 c, pS p 0 2 (p 0 2 + 1)))
  else (
    some (idxS x1 c, p))
noncomputable def fX4_readAmountAndDates_b71 (t1 : Int) (p : (Int → Int → Int)) : Option (Int × (Int → Int → Int)) :=
  bnd (pS p 0 9 t1) fun p71 =>
  gd (wR (p71 0 9)) <|
  if 0 ≤ (p71 0 9) then (
    cl (fX4_readOneOf 2 p71) fun r87 p87 =>
    bnd (pS p87 0 10 r87) fun p90 =>
    gd (wR (p90 0 10)) <|
    if (p90 0 10) < 0 then (
      some (0, p90))
    else (
      some (1, p90)))
  else (
    some (0, p71))
noncomputable def fX4_readAmountAndDates (p : (Int → Int → Int)) : Option (Int × (Int → Int → Int)) :=
  cl (fX4_readNumber p) fun r2 p2 =>
  bnd (pS p2 0 6 r2) fun p5 =>
  gd (wR (p5 0 6)) <|
  if 0 ≤ (p5 0 6) then (
    cl (fX4_readOneOf 1 p5) fun r21 p21 =>
    bnd (pS p21 0 7 r21) fun p24 =>
    gd (wR (p24 0 7)) <|
    if 0 ≤ (p24 0 7) then (
      cl (fX4_readNumber p24) fun r38 p38 =>
      bnd (pS p38 0 8 r38) fun p41 =>
      gd (wR (p41 0 8)) <|
      if 0 ≤ (p41 0 8) then (
        cl (fX4_takes 47 p41) fun r57 p57 =>
        gd (wR r57) <|
        if r57 = 0 then (
          fX4_readAmountAndDates_b71 1 p57)
        else (
          cl (fX4_readNumber p57) fun r64 p64 =>
          fX4_readAmountAndDates_b71 r64 p64))
      else (
        some (0, p41)))
    else (
      some (0, p24)))
  else (
    some (0, p5))
noncomputable def fX4_readDigit (p : (Int → Int → Int)) : Option (Int × (Int → Int → Int)) :=
  cl (fX4_readOneOf 0 p) fun r3 p3 =>
  some (r3, p3)
noncomputable def fX4_readParties_b45 (t1 : Int) (p : (Int → Int → Int)) : Option (Int × (Int → Int → Int)) :=
  bnd (pS p 0 5 t1) fun p45 =>
  gd (wR (p45 0 5)) <|
  if (p45 0 5) < 0 then (
    some (0, p45))
  else (
    cl (fX4_takes 42 p45) fun r58 p58 =>
    gd (wR r58) <|
    if r58 = 0 then (
      some (0, p58))
    else (
      some (1, p58)))
noncomputable def fX4_readParties (p : (Int → Int → Int)) : Option (Int × (Int → Int → Int)) :=
  cl (fX4_readDigit p) fun r2 p2 =>
  bnd (pS p2 0 4 r2) fun p5 =>
  gd (wR (p5 0 4)) <|
  if (p5 0 4) < 0 then (
    some (0, p5))
  else (
    cl (fX4_takes 62 p5) fun r18 p18 =>
    gd (wR r18) <|
    if r18 = 0 then (
      some (0, p18))
    else (
      cl (fX4_takes 45 p18) fun r30 p30 =>
      gd (wR r30) <|
      if r30 = 0 then (
        cl (fX4_readDigit p30) fun r42 p42 =>
        fX4_readParties_b45 r42 p42)
      else (
        fX4_readParties_b45 8 p30)))
noncomputable def fX4_readAct (p : (Int → Int → Int)) : Option (Int × (Int → Int → Int)) :=
  cr (fX4_sign p) fun r2 =>
  gd (0 ≤ r2 ∧ r2 ≤ 65535) <|
  bnd (pS p 0 3 r2) fun p5 =>
  gd (wR (p5 0 3)) <|
  if (p5 0 3) = 100 then (
    bnd (pS p5 0 2 ((p5 0 2) + 1)) fun p132 =>
    cl (fX4_readDigit p132) fun r137 p137 =>
    bnd (pS p137 0 4 r137) fun p140 =>
    gd (wR (p140 0 4)) <|
    if (p140 0 4) < 0 then (
      some (0, p140))
    else (
      cl (fX4_takes 43 p140) fun r153 p153 =>
      gd (wR r153) <|
      if r153 = 0 then (
        some (0, p153))
      else (
        cl (fX4_readNumber p153) fun r163 p163 =>
        bnd (pS p163 0 6 r163) fun p166 =>
        gd (wR (p166 0 6)) <|
        if (p166 0 6) < 0 then (
          some (0, p166))
        else (
          some (1, p166)))))
  else if (p5 0 3) = 103 then (
    bnd (pS p5 0 2 ((p5 0 2) + 1)) fun p101 =>
    cl (fX4_readNumber p101) fun r106 p106 =>
    bnd (pS p106 0 6 r106) fun p109 =>
    gd (wR (p109 0 6)) <|
    if (p109 0 6) < 0 then (
      some (0, p109))
    else (
      some (1, p109)))
  else if (p5 0 3) = 110 then (
    bnd (pS p5 0 2 ((p5 0 2) + 1)) fun p101 =>
    cl (fX4_readNumber p101) fun r106 p106 =>
    bnd (pS p106 0 6 r106) fun p109 =>
    gd (wR (p109 0 6)) <|
    if (p109 0 6) < 0 then (
      some (0, p109))
    else (
      some (1, p109)))
  else if (p5 0 3) = 112 then (
    bnd (pS p5 0 2 ((p5 0 2) + 1)) fun p71 =>
    cl (fX4_readParties p71) fun r75 p75 =>
    gd (wR r75) <|
    if r75 = 0 then (
      some (0, p75))
    else (
      cl (fX4_readAmountAndDates p75) fun r82 p82 =>
      gd (wR r82) <|
      if r82 = 0 then (
        some (0, p82))
      else (
        some (1, p82))))
  else if (p5 0 3) = 115 then (
    bnd (pS p5 0 2 ((p5 0 2) + 1)) fun p101 =>
    cl (fX4_readNumber p101) fun r106 p106 =>
    bnd (pS p106 0 6 r106) fun p109 =>
    gd (wR (p109 0 6)) <|
    if (p109 0 6) < 0 then (
      some (0, p109))
    else (
      some (1, p109)))
  else (
    some (0, p5))
noncomputable def fX4_isSound_b7 : Nat → Int → (Int → Int → Int) → Option (Int × (Int → Int → Int))
  | 0, _, _ => none
  | fuel + 1, x1, p =>
    gd (wR x1) <|
    if 80 ≤ x1 then (
      some (0, p))
    else (
      cl (fX4_readAct p) fun r14 p14 =>
      gd (wR r14) <|
      if r14 = 0 then (
        some (0, p14))
      else (
        gd (wR (p14 0 2) ∧ wR (p14 0 1)) <|
        if (p14 0 2) < (p14 0 1) then (
          cl (fX4_takes 59 p14) fun r38 p38 =>
          gd (wR r38) <|
          if r38 = 0 then (
            some (0, p38))
          else (
            (fX4_isSound_b7 fuel) (x1 + 1) p38 ))
        else (
          some (1, p14))))
noncomputable def fX4_isSound (p : (Int → Int → Int)) : Option (Int × (Int → Int → Int)) :=
  bnd (pS p 0 2 0) fun p2 =>
  fX4_isSound_b7 fuel0 0 p2
noncomputable def fX6_isError (x0 : Int) : Option Int :=
  cr (fX6_isBetween x0 (-5) (-1)) fun r4 =>
  gd (r4 = 0 ∨ r4 = 1) <|
  some r4
noncomputable def fX6_recorded (x1 : Int) (c : cR) : Option (Int × cR) :=
  cr (fX6_isError x1) fun r1 =>
  gd (wR r1) <|
  if r1 = 0 then (
    gd (wR (c.2.1 0 4)) <|
    if 6 ≤ (c.2.1 0 4) then (
      gd (wR ((c.2.1 0 3) + 1)) <|
      bnd (cT c 0 3 (rmI ((c.2.1 0 3) + 1) 7)) fun c41 =>
      some (x1, c41))
    else (
      bnd (cT c 0 4 ((c.2.1 0 4) + 1)) fun c25 =>
      some (x1, c25)))
  else (
    some (x1, c))
noncomputable def fX6_rowBehindLatest (c : cR) : Option Int :=
  gd (wR ((c.2.1 0 3) + (c.2.1 0 4))) <|
  some (rmI ((c.2.1 0 3) + (c.2.1 0 4)) 7)
noncomputable def fX6_remember (c : cR) : Option (Unit × cR) :=
  cr (fX6_rowBehindLatest c) fun r5 =>
  gd (0 ≤ r5 ∧ r5 < 7) <|
  cl (fX2_copyFrom (c.1 0) (c.1 (2 + r5))) fun r13 t13 =>
  bnd (cH c (2 + r5) t13) fun c13 =>
  some ((), c13)
noncomputable def fX6_account (x1 : Int) (x2 : Int) (c : cR) : Option (Int × cR) :=
  cl (fX6_remember c) fun r1 c1 =>
  cl (fX2_addAccount x1 x2 (c1.1 0)) fun r11 t11 =>
  bnd (cH c1 0 t11) fun c11 =>
  cl (fX6_recorded r11 c11) fun r14 c14 =>
  some (r14, c14)
noncomputable def fX6_ahead (x1 : Int) (x2 : Int) (x3 : Int) (c : cR) : Option (Int × cR) :=
  cr (fX2_hasOrder x1 (c.1 0)) fun r5 =>
  gd (wR r5) <|
  if r5 = 0 then (
    some ((-1), c))
  else (
    cr (fX6_isBetween x2 1 400) fun r18 =>
    gd (wR r18) <|
    if r18 = 0 then (
      some ((-2), c))
    else (
      cr (fX6_isBetween x3 0 3) fun r27 =>
      gd (wR r27) <|
      if r27 = 0 then (
        some ((-2), c))
      else (
        cl (fX2_copyFrom (c.1 0) (c.1 1)) fun r44 t44 =>
        bnd (cH c 1 t44) fun c44 =>
        cl (fX2_passDays x2 0 (c44.1 1)) fun r53 t53 =>
        bnd (cH c44 1 t53) fun c53 =>
        gd (0 ≤ x1 ∧ x1 < 16) <|
        gd (0 ≤ x1 ∧ x1 < 16) <|
        gd (wR x3) <|
        if x3 = 0 then (
          some ((((c53.1 1).1 3 x1 12) - ((c53.1 0).1 3 x1 12)), c53))
        else if x3 = 1 then (
          some ((((c53.1 1).1 3 x1 13) - ((c53.1 0).1 3 x1 13)), c53))
        else if x3 = 2 then (
          some ((((c53.1 1).1 3 x1 14) - ((c53.1 0).1 3 x1 14)), c53))
        else (
          some (((c53.1 1).1 3 x1 15), c53)))))
noncomputable def fX6_balanceIn (x1 : Int) (x2 : Int) (c : cR) : Option (Int × cR) :=
  cr (fX2_hasAccount x1 (c.1 0)) fun r5 =>
  gd (wR r5) <|
  if r5 = 0 then (
    some ((-1), c))
  else (
    cr (fX6_isBetween x2 1 400) fun r20 =>
    gd (wR r20) <|
    if r20 = 0 then (
      some ((-2), c))
    else (
      cl (fX2_copyFrom (c.1 0) (c.1 1)) fun r38 t38 =>
      bnd (cH c 1 t38) fun c38 =>
      cl (fX2_passDays x2 0 (c38.1 1)) fun r47 t47 =>
      bnd (cH c38 1 t47) fun c47 =>
      gd (0 ≤ x1 ∧ x1 < 8) <|
      some (((c47.1 1).1 2 x1 3), c47)))
noncomputable def fX6_bitsOf_b87 (x2 : UInt64) (x4 : Int) : Option Int :=
  gd (okD (FP.dsub x2 FP.dconst1)) <|
  gd (okD (FP.dmul (FP.dsub x2 FP.dconst1) 4841369599423283200)) <|
  some ((lshlI x4 52) + (d2lI (FP.dmul (FP.dsub x2 FP.dconst1) 4841369599423283200)))
noncomputable def fX6_bitsOf_b55 : Nat → UInt64 → Int → Int → Option Int
  | 0, _, _, _ => none
  | fuel + 1, x2, x4, x6 =>
    gd (wR x6) <|
    if 1022 ≤ x6 then (
      fX6_bitsOf_b87 x2 x4)
    else (
      gd (wR (dcI x2 FP.dconst1 (.g))) <|
      if 0 ≤ (dcI x2 FP.dconst1 (.g)) then (
        fX6_bitsOf_b87 x2 x4)
      else (
        gd (okD (FP.dmul x2 4611686018427387904)) <|
        (fX6_bitsOf_b55 fuel) (FP.dmul x2 4611686018427387904) (x4 - 1) (x6 + 1) ))
noncomputable def fX6_bitsOf_b18 : Nat → UInt64 → Int → Int → Option Int
  | 0, _, _, _ => none
  | fuel + 1, x2, x4, x6 =>
    gd (wR x6) <|
    if 1023 ≤ x6 then (
      fX6_bitsOf_b55 fuel0 x2 x4 0)
    else (
      gd (wR (dcI x2 4611686018427387904 (.l))) <|
      if (dcI x2 4611686018427387904 (.l)) < 0 then (
        fX6_bitsOf_b55 fuel0 x2 x4 0)
      else (
        gd (okD (FP.ddiv x2 4611686018427387904)) <|
        (fX6_bitsOf_b18 fuel) (FP.ddiv x2 4611686018427387904) (x4 + 1) (x6 + 1) ))
noncomputable def fX6_bitsOf (x0 : UInt64) : Option Int :=
  gd (wR (dcI x0 FP.dconst0 (.l))) <|
  if 0 < (dcI x0 FP.dconst0 (.l)) then (
    fX6_bitsOf_b18 fuel0 x0 1023 0)
  else (
    some 0)
noncomputable def fX6_perform (c : cR) : Option (Int × cR) :=
  gd (wR (c.2.2 0 3)) <|
  if (c.2.2 0 3) = 100 then (
    cl (fX2_payIn (c.2.2 0 4) (c.2.2 0 6) (c.1 0)) fun r167 t167 =>
    bnd (cH c 0 t167) fun c167 =>
    some (r167, c167))
  else if (c.2.2 0 3) = 103 then (
    cl (fX2_resumeOrder (c.2.2 0 6) (c.1 0)) fun r151 t151 =>
    bnd (cH c 0 t151) fun c151 =>
    some (r151, c151))
  else if (c.2.2 0 3) = 112 then (
    gd (wR (c.2.2 0 8)) <|
    if 12 < (c.2.2 0 8) then (
      some ((-2), c))
    else (
      gd (wR (c.2.2 0 9)) <|
      if (c.2.2 0 9) ≤ 31 then (
        cl (fX2_addOrder ((9 * (c.2.2 0 4)) + (c.2.2 0 5)) (c.2.2 0 6) (((10000 * (c.2.2 0 7)) + (100 * (c.2.2 0 8))) + (c.2.2 0 9)) ((c.1 0).1 0 6 0) ((10 * (c.2.2 0 10)) + 5) 0 (c.1 0)) fun r127 t127 =>
        bnd (cH c 0 t127) fun c127 =>
        some (r127, c127))
      else (
        some ((-2), c))))
  else if (c.2.2 0 3) = 115 then (
    cl (fX2_stopOrder (c.2.2 0 6) (c.1 0)) fun r139 t139 =>
    bnd (cH c 0 t139) fun c139 =>
    some (r139, c139))
  else (
    cr (fX2_errorOfDays (c.2.2 0 6) (c.1 0)) fun r179 =>
    gd (wR r179) <|
    if r179 = 0 then (
      cl (fX2_passDays (c.2.2 0 6) 0 (c.1 0)) fun r196 t196 =>
      bnd (cH c 0 t196) fun c196 =>
      some (r179, c196))
    else (
      some (r179, c)))
noncomputable def fX6_carryOut_b96 (x1 : Int) (c : cR) : Option (Int × cR) :=
  bnd (cP c (pS c.2.2 0 1 0)) fun c101 =>
  cl (fX6_recorded x1 c101) fun r106 c106 =>
  some (r106, c106)
noncomputable def fX6_carryOut_b29 : Nat → Int → Int → cR → Option (Int × cR)
  | 0, _, _, _ => none
  | fuel + 1, x1, x2, c =>
    gd (wR x2) <|
    if 80 ≤ x2 then (
      fX6_carryOut_b96 x1 c)
    else (
      gd (wR (c.2.2 0 2) ∧ wR (c.2.2 0 1)) <|
      if (c.2.2 0 1) ≤ (c.2.2 0 2) then (
        fX6_carryOut_b96 x1 c)
      else (
        cl (fX4_readAct c.2.2) fun r56 t56 =>
        bnd (cP c t56) fun c56 =>
        cl (fX4_takes 59 c56.2.2) fun r66 t66 =>
        bnd (cP c56 t66) fun c66 =>
        cl (fX6_perform c66) fun r75 c75 =>
        cr (fX6_isError r75) fun r78 =>
        gd (wR r78) <|
        if r78 = 0 then (
          (fX6_carryOut_b29 fuel) (x1 + 1) (x2 + 1) c75 )
        else (
          fX6_carryOut_b96 x1 c75)))
noncomputable def fX6_carryOut (c : cR) : Option (Int × cR) :=
  cl (fX4_isSound c.2.2) fun r4 t4 =>
  bnd (cP c t4) fun c4 =>
  gd (wR r4) <|
  if r4 = 0 then (
    some ((-3), c4))
  else (
    cl (fX6_remember c4) fun r14 c14 =>
    bnd (cP c14 (pS c14.2.2 0 2 0)) fun c24 =>
    fX6_carryOut_b29 fuel0 0 0 c24)
noncomputable def fX6_change (x1 : Int) (x2 : Int) (x3 : Int) (c : cR) : Option (Int × cR) :=
  cl (fX6_remember c) fun r1 c1 =>
  cl (fX2_alterOrder x1 x2 x3 (c1.1 0)) fun r12 t12 =>
  bnd (cH c1 0 t12) fun c12 =>
  cl (fX6_recorded r12 c12) fun r15 c15 =>
  some (r15, c15)
noncomputable def fX6_count (x1 : Int) (c : cR) : Option Int :=
  gd (wR x1) <|
  if x1 = 9 then (
    some (c.2.2 0 1))
  else (
    gd (wR x1) <|
    if x1 = 10 then (
      some (c.2.1 0 4))
    else (
      cr (fX2_numberOf x1 (c.1 0)) fun r30 =>
      some r30))
noncomputable def fX6_dateOf (x1 : Int) (x2 : Int) (c : cR) : Option (Int × cR) :=
  cr (fX2_hasOrder x1 (c.1 0)) fun r5 =>
  gd (wR r5) <|
  if r5 = 0 then (
    some ((-1), c))
  else (
    cr (fX6_isBetween x2 0 99) fun r17 =>
    gd (wR r17) <|
    if r17 = 0 then (
      some ((-2), c))
    else (
      gd (0 ≤ x1 ∧ x1 < 16) <|
      cl (fX3_dateBehindNext x1 x2 (c.1 0)) fun r43 t43 =>
      bnd (cH c 0 t43) fun c43 =>
      some (r43, c43)))
noncomputable def fX6_days (x1 : Int) (c : cR) : Option (Int × cR) :=
  cr (fX2_errorOfDays x1 (c.1 0)) fun r5 =>
  gd (wR r5) <|
  if r5 = 0 then (
    cl (fX6_remember c) fun r16 c16 =>
    cl (fX2_passDays x1 0 (c16.1 0)) fun r25 t25 =>
    bnd (cH c16 0 t25) fun c25 =>
    cl (fX6_recorded ((c25.1 0).1 0 6 0) c25) fun r37 c37 =>
    some (r37, c37))
  else (
    some (r5, c))
noncomputable def fX6_deposit (x1 : Int) (x2 : Int) (c : cR) : Option (Int × cR) :=
  cl (fX6_remember c) fun r1 c1 =>
  cl (fX2_payIn x1 x2 (c1.1 0)) fun r11 t11 =>
  bnd (cH c1 0 t11) fun c11 =>
  cl (fX6_recorded r11 c11) fun r14 c14 =>
  some (r14, c14)
noncomputable def fX6_fault (c : cR) : Option (Int × cR) :=
  cl (fX4_isSound c.2.2) fun r4 t4 =>
  bnd (cP c t4) fun c4 =>
  gd (wR r4) <|
  if r4 = 0 then (
    some ((c4.2.2 0 2), c4))
  else (
    some ((-6), c4))
noncomputable def fX6_feed (x1 : Int) (x2 : Int) (c : cR) : Option (Int × cR) :=
  cl (fX6_remember c) fun r1 c1 =>
  cl (fX2_nameFeeder x1 x2 (c1.1 0)) fun r11 t11 =>
  bnd (cH c1 0 t11) fun c11 =>
  cl (fX6_recorded r11 c11) fun r14 c14 =>
  some (r14, c14)
noncomputable def fX6_firstFailure_b50 (t1 : Int) (t2 : Int) (c : cR) : Option (Int × cR) :=
  cl (fX2_passDays t1 t2 (c.1 1)) fun r50 t50 =>
  bnd (cH c 1 t50) fun c50 =>
  some (r50, c50)
noncomputable def fX6_firstFailure_b19 (x1 : Int) (c : cR) : Option (Int × cR) :=
  cl (fX2_copyFrom (c.1 0) (c.1 1)) fun r27 t27 =>
  bnd (cH c 1 t27) fun c27 =>
  gd (wR x1) <|
  if x1 = (-6) then (
    fX6_firstFailure_b50 400 (-1) c27)
  else (
    fX6_firstFailure_b50 400 (shlI 1 x1) c27)
noncomputable def fX6_firstFailure (x1 : Int) (c : cR) : Option (Int × cR) :=
  gd (wR x1) <|
  if x1 = (-6) then (
    fX6_firstFailure_b19 x1 c)
  else (
    cr (fX2_hasAccount x1 (c.1 0)) fun r11 =>
    gd (wR r11) <|
    if r11 = 0 then (
      some ((-1), c))
    else (
      fX6_firstFailure_b19 x1 c))
noncomputable def fX6_giveUp (x1 : Int) (c : cR) : Option (Int × cR) :=
  cl (fX6_remember c) fun r1 c1 =>
  cl (fX2_dropPayment x1 (c1.1 0)) fun r10 t10 =>
  bnd (cH c1 0 t10) fun c10 =>
  cl (fX6_recorded r10 c10) fun r13 c13 =>
  some (r13, c13)
noncomputable def fX6_goOn (x1 : Int) (c : cR) : Option (Int × cR) :=
  cl (fX6_remember c) fun r1 c1 =>
  cl (fX2_resumeOrder x1 (c1.1 0)) fun r10 t10 =>
  bnd (cH c1 0 t10) fun c10 =>
  cl (fX6_recorded r10 c10) fun r13 c13 =>
  some (r13, c13)
noncomputable def fX6_holiday (x1 : Int) (x2 : Int) (c : cR) : Option (Int × cR) :=
  cl (fX6_remember c) fun r1 c1 =>
  cl (fX1_mark x1 x2 (c1.1 0)) fun r14 t14 =>
  bnd (cH c1 0 t14) fun c14 =>
  cl (fX6_recorded r14 c14) fun r17 c17 =>
  some (r17, c17)
noncomputable def fX6_leastDeposit_b28 : Nat → Int → Int → Int → cR → Option (Int × cR)
  | 0, _, _, _, _ => none
  | fuel + 1, x1, x2, x3, c =>
    gd (wR x3) <|
    if 100000 < x3 then (
      some ((-6), c))
    else (
      cl (fX2_copyFrom (c.1 0) (c.1 1)) fun r42 t42 =>
      bnd (cH c 1 t42) fun c42 =>
      gd (0 ≤ x1 ∧ x1 < 8) <|
      gd (wR x3) <|
      bnd (cH c42 1 (hS (c42.1 1) 2 x1 3 (((c42.1 1).1 2 x1 3) + x3))) fun c61 =>
      cl (fX2_passDays x2 (shlI 1 x1) (c61.1 1)) fun r72 t72 =>
      bnd (cH c61 1 t72) fun c72 =>
      gd (wR r72) <|
      if r72 = (-6) then (
        some (x3, c72))
      else (
        (fX6_leastDeposit_b28 fuel) x1 x2 (x3 + 5000) c72 ))
noncomputable def fX6_leastDeposit (x1 : Int) (x2 : Int) (c : cR) : Option (Int × cR) :=
  cr (fX2_hasAccount x1 (c.1 0)) fun r5 =>
  gd (wR r5) <|
  if r5 = 0 then (
    some ((-1), c))
  else (
    cr (fX6_isBetween x2 1 100) fun r17 =>
    gd (wR r17) <|
    if r17 = 0 then (
      some ((-2), c))
    else (
      fX6_leastDeposit_b28 fuel0 x1 x2 0 c))
noncomputable def fX6_money (x1 : Int) (x2 : Int) (c : cR) : Option Int :=
  cr (fX2_hasAccount x1 (c.1 0)) fun r5 =>
  gd (wR r5) <|
  if r5 = 0 then (
    some (-1))
  else (
    gd (0 ≤ x1 ∧ x1 < 8) <|
    cr (fX0_sumOf x1 x2 (c.1 0)) fun r25 =>
    some r25)
noncomputable def fX6_ofDay (x1 : Int) (x2 : Int) (c : cR) : Option Int :=
  cr (fX6_isBetween x1 0 1094) fun r5 =>
  gd (wR r5) <|
  if r5 = 0 then (
    some (-2))
  else (
    cr (fX1_numberOf x1 x2 (c.1 0)) fun r23 =>
    some r23)
noncomputable def fX6_ofOrder (x1 : Int) (x2 : Int) (c : cR) : Option (Int × cR) :=
  cr (fX2_hasOrder x1 (c.1 0)) fun r5 =>
  gd (wR r5) <|
  if r5 = 0 then (
    some ((-1), c))
  else (
    gd (wR x2) <|
    if x2 = 15 then (
      cl (fX2_nextNominalDay x1 (c.1 0)) fun r24 t24 =>
      bnd (cH c 0 t24) fun c24 =>
      some (r24, c24))
    else (
      gd (0 ≤ x1 ∧ x1 < 16) <|
      cr (fX3_numberOf x1 x2 (c.1 0)) fun r38 =>
      some (r38, c)))
noncomputable def fX6_ofPayment (x1 : Int) (x2 : Int) (c : cR) : Option Int :=
  cr (fX6_isBetween x1 0 (((c.1 0).1 4 2 0) - 1)) fun r14 =>
  gd (wR r14) <|
  if r14 = 0 then (
    some (-1))
  else (
    cr (fX6_isBetween x2 0 4) fun r25 =>
    gd (wR r25) <|
    if r25 = 0 then (
      some (-2))
    else (
      gd (0 ≤ x2 ∧ x2 < 5) <|
      gd (0 ≤ x1 ∧ x1 < (c.1 0).1 4 1 0 ∧ (c.1 0).1 4 1 0 ≤ 2147483647) <|
      some ((c.1 0).1 5 x2 x1)))
noncomputable def fX6_order (x1 : Int) (x2 : Int) (x3 : Int) (x4 : Int) (x5 : Int) (x6 : Int) (c : cR) : Option (Int × cR) :=
  cl (fX6_remember c) fun r1 c1 =>
  cl (fX2_addOrder x1 x2 x3 x4 x5 x6 (c1.1 0)) fun r18 t18 =>
  bnd (cH c1 0 t18) fun c18 =>
  cl (fX6_recorded r18 c18) fun r21 c21 =>
  some (r21, c21)
noncomputable def fX6_owedBits (x1 : Int) (c : cR) : Option Int :=
  cr (fX2_hasAccount x1 (c.1 0)) fun r5 =>
  gd (wR r5) <|
  if r5 = 0 then (
    some (-1))
  else (
    gd (0 ≤ x1 ∧ x1 < 8) <|
    cr (fX6_bitsOf ((c.1 0).2 x1)) fun r27 =>
    some r27)
noncomputable def fX6_put (x1 : Int) (c : cR) : Option (Int × cR) :=
  cl (fX4_append x1 c.2.2) fun r5 t5 =>
  bnd (cP c t5) fun c5 =>
  some (r5, c5)
noncomputable def fX6_restore (x1 : Int) (c : cR) : Option (Int × cR) :=
  cr (fX6_isBetween x1 0 1) fun r3 =>
  gd (wR r3) <|
  if r3 = 0 then (
    some ((-2), c))
  else (
    gd (0 ≤ x1 ∧ x1 < 2) <|
    gd (wR (c.2.1 1 x1)) <|
    if (c.2.1 1 x1) = 0 then (
      some ((-5), c))
    else (
      cl (fX6_remember c) fun r25 c25 =>
      gd (0 ≤ x1 ∧ x1 < 2) <|
      cl (fX2_copyFrom (c25.1 (9 + x1)) (c25.1 0)) fun r38 t38 =>
      bnd (cH c25 0 t38) fun c38 =>
      cl (fX6_recorded ((c38.1 0).1 0 6 0) c38) fun r49 c49 =>
      some (r49, c49)))
noncomputable def fX6_save (x1 : Int) (c : cR) : Option (Int × cR) :=
  cr (fX6_isBetween x1 0 1) fun r3 =>
  gd (wR r3) <|
  if r3 = 0 then (
    some ((-2), c))
  else (
    gd (0 ≤ x1 ∧ x1 < 2) <|
    cl (fX2_copyFrom (c.1 0) (c.1 (9 + x1))) fun r22 t22 =>
    bnd (cH c (9 + x1) t22) fun c22 =>
    gd ((0 ≤ x1 ∧ x1 < 2)) <|
    bnd (cT c22 1 x1 1) fun c31 =>
    some (((c31.1 0).1 0 6 0), c31))
noncomputable def fX6_set (x1 : Int) (x2 : Int) (c : cR) : Option (Int × cR) :=
  cl (fX6_remember c) fun r1 c1 =>
  cl (fX2_replaceSetting x1 x2 (c1.1 0)) fun r11 t11 =>
  bnd (cH c1 0 t11) fun c11 =>
  cl (fX6_recorded r11 c11) fun r14 c14 =>
  some (r14, c14)
noncomputable def fX6_shift (x1 : Int) (x2 : Int) (c : cR) : Option Int :=
  cr (fX6_isBetween x1 0 1094) fun r5 =>
  gd (wR r5) <|
  if r5 = 0 then (
    some (-2))
  else (
    cr (fX6_isBetween x2 0 4) fun r14 =>
    gd (wR r14) <|
    if r14 = 0 then (
      some (-2))
    else (
      cr (fX1_shifted x1 x2 (c.1 0)) fun r32 =>
      some r32))
noncomputable def fX6_stop (x1 : Int) (c : cR) : Option (Int × cR) :=
  cl (fX6_remember c) fun r1 c1 =>
  cl (fX2_stopOrder x1 (c1.1 0)) fun r10 t10 =>
  bnd (cH c1 0 t10) fun c10 =>
  cl (fX6_recorded r10 c10) fun r13 c13 =>
  some (r13, c13)
noncomputable def fX6_undo (c : cR) : Option (Int × cR) :=
  gd (wR (c.2.1 0 4)) <|
  if (c.2.1 0 4) = 0 then (
    some ((-5), c))
  else (
    bnd (cT c 0 4 ((c.2.1 0 4) - 1)) fun c17 =>
    cr (fX6_rowBehindLatest c17) fun r29 =>
    gd (0 ≤ r29 ∧ r29 < 7) <|
    cl (fX2_copyFrom (c17.1 (2 + r29)) (c17.1 0)) fun r33 t33 =>
    bnd (cH c17 0 t33) fun c33 =>
    some ((c33.2.1 0 4), c33))
noncomputable def fX6_wipe (c : cR) : Option (Int × cR) :=
  bnd (cP c (pS c.2.2 0 1 0)) fun c13 =>
  some ((c.2.2 0 1), c13)
end
section
/-! ===== the reference as plain functions (by program: wip/whole/gen.py) ===== -/
noncomputable def fX7_isIn (x0 : Int) (x2 : Int) (x4 : Int) : Option Int :=
  gd (wR64 x0 ∧ wR64 x2) <|
  if x0 < x2 then (
    some 0)
  else (
    gd (wR64 x0 ∧ wR64 x4) <|
    if x4 < x0 then (
      some 0)
    else (
      some 1))
noncomputable def fX7_of (x1 : Int) (m : mR) : Option Int :=
  gd (0 ≤ x1 ∧ x1 < 377) <|
  some (m.1 0 x1)
noncomputable def fX7_drops_b62 : Nat → Int → mR → Option (Unit × mR)
  | 0, _, _ => none
  | fuel + 1, x1, m =>
    gd (wR x1) <|
    if 42000 ≤ x1 then (
      bnd (mS m 6 7 ((m.1 6 7) - 1)) fun m97 =>
      some ((), m97))
    else (
      gd (0 ≤ (x1 + 8400) ∧ (x1 + 8400) < 75600) <|
      gd ((0 ≤ x1 ∧ x1 < 75600)) <|
      bnd (mS m 3 x1 (m.1 3 (x1 + 8400))) fun m83 =>
      (fX7_drops_b62 fuel) (x1 + 1) m83 )
noncomputable def fX7_drops_b33 : Nat → Int → mR → Option (Unit × mR)
  | 0, _, _ => none
  | fuel + 1, x1, m =>
    gd (wR x1) <|
    if 40 ≤ x1 then (
      fX7_drops_b62 fuel0 0 m)
    else (
      gd (0 ≤ (x1 + 8) ∧ (x1 + 8) < 72) <|
      gd ((0 ≤ x1 ∧ x1 < 72)) <|
      bnd (mD m 1 x1 (m.2 1 (x1 + 8))) fun m53 =>
      (fX7_drops_b33 fuel) (x1 + 1) m53 )
noncomputable def fX7_drops_b2 : Nat → Int → mR → Option (Unit × mR)
  | 0, _, _ => none
  | fuel + 1, x1, m =>
    gd (wR x1) <|
    if 1885 ≤ x1 then (
      fX7_drops_b33 fuel0 0 m)
    else (
      gd (0 ≤ (x1 + 377) ∧ (x1 + 377) < 3393) <|
      gd ((0 ≤ x1 ∧ x1 < 3393)) <|
      bnd (mS m 2 x1 (m.1 2 (x1 + 377))) fun m24 =>
      (fX7_drops_b2 fuel) (x1 + 1) m24 )
noncomputable def fX7_drops (m : mR) : Option (Unit × mR) :=
  fX7_drops_b2 fuel0 0 m
noncomputable def fX7_keeps_b66 : Nat → Int → Int → mR → Option (Unit × mR)
  | 0, _, _, _ => none
  | fuel + 1, x1, x2, m =>
    gd (wR x2) <|
    gd (wR64 x2 ∧ wR64 (m.1 0 4)) <|
    if (m.1 0 4) ≤ x2 then (
      some ((), m))
    else (
      gd (0 ≤ x2 ∧ x2 < 8400) <|
      gd ((0 ≤ ((x1 * 8400) + x2) ∧ ((x1 * 8400) + x2) < 75600)) <|
      bnd (mS m 3 ((x1 * 8400) + x2) (m.1 1 x2)) fun m95 =>
      (fX7_keeps_b66 fuel) x1 (x2 + 1) m95 )
noncomputable def fX7_keeps_b35 : Nat → Int → Int → mR → Option (Unit × mR)
  | 0, _, _, _ => none
  | fuel + 1, x1, x2, m =>
    gd (wR x2) <|
    if 8 ≤ x2 then (
      fX7_keeps_b66 fuel0 x1 0 m)
    else (
      gd (0 ≤ x2 ∧ x2 < 8) <|
      gd ((0 ≤ ((x1 * 8) + x2) ∧ ((x1 * 8) + x2) < 72)) <|
      bnd (mD m 1 ((x1 * 8) + x2) (m.2 0 x2)) fun m57 =>
      (fX7_keeps_b35 fuel) x1 (x2 + 1) m57 )
noncomputable def fX7_keeps_b2 : Nat → Int → Int → mR → Option (Unit × mR)
  | 0, _, _, _ => none
  | fuel + 1, x1, x2, m =>
    gd (wR x2) <|
    if 377 ≤ x2 then (
      fX7_keeps_b35 fuel0 x1 0 m)
    else (
      gd (0 ≤ x2 ∧ x2 < 377) <|
      gd ((0 ≤ ((x1 * 377) + x2) ∧ ((x1 * 377) + x2) < 3393)) <|
      bnd (mS m 2 ((x1 * 377) + x2) (m.1 0 x2)) fun m26 =>
      (fX7_keeps_b2 fuel) x1 (x2 + 1) m26 )
noncomputable def fX7_keeps (x1 : Int) (m : mR) : Option (Unit × mR) :=
  fX7_keeps_b2 fuel0 x1 0 m
noncomputable def fX7_records_b13 (m : mR) : Option (Unit × mR) :=
  cl (fX7_keeps (m.1 6 7) m) fun r18 m18 =>
  bnd (mS m18 6 7 ((m18.1 6 7) + 1)) fun m28 =>
  some ((), m28)
noncomputable def fX7_records (m : mR) : Option (Unit × mR) :=
  gd (wR (m.1 6 7)) <|
  if (m.1 6 7) = 6 then (
    cl (fX7_drops m) fun r10 m10 =>
    fX7_records_b13  m10)
  else (
    fX7_records_b13  m)
noncomputable def fX7_account_b105 : Nat → Int → Int → mR → Option (Int × mR)
  | 0, _, _, _ => none
  | fuel + 1, x3, x4, m =>
    gd (wR x4) <|
    if 8 ≤ x4 then (
      gd ((0 ≤ x3 ∧ x3 < 8)) <|
      bnd (mD m 0 x3 FP.dconst0) fun m142 =>
      bnd (mS m142 0 1 ((m142.1 0 1) + 1)) fun m152 =>
      some (x3, m152))
    else (
      gd ((0 ≤ (((33 + (11 * x3)) + 3) + x4) ∧ (((33 + (11 * x3)) + 3) + x4) < 377)) <|
      bnd (mS m 0 (((33 + (11 * x3)) + 3) + x4) 0) fun m129 =>
      (fX7_account_b105 fuel) x3 (x4 + 1) m129 )
noncomputable def fX7_account (x1 : Int) (x2 : Int) (m : mR) : Option (Int × mR) :=
  gd (wR x1) <|
  cr (fX7_isIn x1 0 1000000) fun r6 =>
  gd (wR r6) <|
  if r6 = 0 then (
    some ((-2), m))
  else (
    gd (wR x2) <|
    cr (fX7_isIn x2 0 1000000) fun r18 =>
    gd (wR r18) <|
    if r18 = 0 then (
      some ((-2), m))
    else (
      gd (wR64 (m.1 0 1)) <|
      if (m.1 0 1) = 8 then (
        some ((-4), m))
      else (
        cl (fX7_records m) fun r44 m44 =>
        cr (fX7_of 1 m44) fun r49 =>
        gd (wR x1) <|
        gd ((0 ≤ ((33 + (11 * r49)) + 0) ∧ ((33 + (11 * r49)) + 0) < 377)) <|
        bnd (mS m44 0 ((33 + (11 * r49)) + 0) x1) fun m68 =>
        gd (wR x2) <|
        gd ((0 ≤ ((33 + (11 * r49)) + 1) ∧ ((33 + (11 * r49)) + 1) < 377)) <|
        bnd (mS m68 0 ((33 + (11 * r49)) + 1) x2) fun m84 =>
        gd ((0 ≤ ((33 + (11 * r49)) + 2) ∧ ((33 + (11 * r49)) + 2) < 377)) <|
        bnd (mS m84 0 ((33 + (11 * r49)) + 2) (-6)) fun m101 =>
        fX7_account_b105 fuel0 r49 0 m101)))
noncomputable def fX7_brings_b66 : Nat → Int → Int → mR → Option (Unit × mR)
  | 0, _, _, _ => none
  | fuel + 1, x1, x2, m =>
    gd (wR x2) <|
    gd (wR64 x2 ∧ wR64 (m.1 0 4)) <|
    if (m.1 0 4) ≤ x2 then (
      some ((), m))
    else (
      gd (0 ≤ ((x1 * 8400) + x2) ∧ ((x1 * 8400) + x2) < 75600) <|
      gd ((0 ≤ x2 ∧ x2 < 8400)) <|
      bnd (mS m 1 x2 (m.1 3 ((x1 * 8400) + x2))) fun m95 =>
      (fX7_brings_b66 fuel) x1 (x2 + 1) m95 )
noncomputable def fX7_brings_b35 : Nat → Int → Int → mR → Option (Unit × mR)
  | 0, _, _, _ => none
  | fuel + 1, x1, x2, m =>
    gd (wR x2) <|
    if 8 ≤ x2 then (
      fX7_brings_b66 fuel0 x1 0 m)
    else (
      gd (0 ≤ ((x1 * 8) + x2) ∧ ((x1 * 8) + x2) < 72) <|
      gd ((0 ≤ x2 ∧ x2 < 8)) <|
      bnd (mD m 0 x2 (m.2 1 ((x1 * 8) + x2))) fun m57 =>
      (fX7_brings_b35 fuel) x1 (x2 + 1) m57 )
noncomputable def fX7_brings_b2 : Nat → Int → Int → mR → Option (Unit × mR)
  | 0, _, _, _ => none
  | fuel + 1, x1, x2, m =>
    gd (wR x2) <|
    if 377 ≤ x2 then (
      fX7_brings_b35 fuel0 x1 0 m)
    else (
      gd (0 ≤ ((x1 * 377) + x2) ∧ ((x1 * 377) + x2) < 3393) <|
      gd ((0 ≤ x2 ∧ x2 < 377)) <|
      bnd (mS m 0 x2 (m.1 2 ((x1 * 377) + x2))) fun m26 =>
      (fX7_brings_b2 fuel) x1 (x2 + 1) m26 )
noncomputable def fX7_brings (x1 : Int) (m : mR) : Option (Unit × mR) :=
  fX7_brings_b2 fuel0 x1 0 m
noncomputable def fX7_isOrder (x1 : Int) (m : mR) : Option Int :=
  gd (wR x1) <|
  cr (fX7_isIn x1 0 ((m.1 0 2) - 1)) fun r11 =>
  gd (r11 = 0 ∨ r11 = 1) <|
  some r11
noncomputable def fX7_ofO (x1 : Int) (x2 : Int) (m : mR) : Option Int :=
  cr (fX7_of ((121 + (16 * x1)) + x2) m) fun r10 =>
  some r10
noncomputable def fX7_becomes (x1 : Int) (x2 : Int) (x3 : Int) (m : mR) : Option (Unit × mR) :=
  gd (wR x3) <|
  gd ((0 ≤ ((121 + (16 * x1)) + x2) ∧ ((121 + (16 * x1)) + x2) < 377)) <|
  bnd (mS m 0 ((121 + (16 * x1)) + x2) x3) fun m15 =>
  some ((), m15)
noncomputable def fX7_monthLength (x0 : Int) : Option Int :=
  gd (wR x0) <|
  gd (wR (rmI x0 12)) <|
  if (rmI x0 12) = 1 then (
    some 28)
  else (
    gd (wR (rmI x0 12)) <|
    if (rmI x0 12) = 3 then (
      some 30)
    else (
      gd (wR (rmI x0 12)) <|
      if (rmI x0 12) = 5 then (
        some 30)
      else (
        gd (wR (rmI x0 12)) <|
        if (rmI x0 12) = 8 then (
          some 30)
        else (
          gd (wR (rmI x0 12)) <|
          if (rmI x0 12) = 10 then (
            some 30)
          else (
            some 31)))))
noncomputable def fX7_monthStart_b17 : Nat → Int → Int → Int → Option Int
  | 0, _, _, _ => none
  | fuel + 1, x0, x1, x2 =>
    gd (wR x2 ∧ wR x0) <|
    if x0 ≤ x2 then (
      some x1)
    else (
      cr (fX7_monthLength x2) fun r24 =>
      (fX7_monthStart_b17 fuel) x0 (x1 + r24) (x2 + 1) )
noncomputable def fX7_monthStart (x0 : Int) : Option Int :=
  gd (wR x0) <|
  gd (wR x0) <|
  fX7_monthStart_b17 fuel0 x0 ((dvI x0 12) * 365) ((dvI x0 12) * 12)
noncomputable def fX7_dayIn (x0 : Int) (x1 : Int) : Option Int :=
  cr (fX7_monthLength x0) fun r1 =>
  cr (fX7_monthStart x0) fun r6 =>
  gd (wR x1 ∧ wR r1) <|
  if r1 ≤ x1 then (
    some ((r6 + r1) - 1))
  else (
    some ((r6 + x1) - 1))
noncomputable def fX7_isHoliday_b4 (m : mR) : Nat → Int → Int → Int → Option Int
  | 0, _, _, _ => none
  | fuel + 1, x1, x2, x3 =>
    gd (wR x3) <|
    gd (wR64 x3 ∧ wR64 (m.1 0 3)) <|
    if (m.1 0 3) ≤ x3 then (
      gd (x2 = 0 ∨ x2 = 1) <|
      some x2)
    else (
      gd (wR x2) <|
      if x2 = 0 then (
        gd (0 ≤ (13 + x3) ∧ (13 + x3) < 377) <|
        gd (wR x1) <|
        gd (wR64 (m.1 0 (13 + x3)) ∧ wR64 x1) <|
        if (m.1 0 (13 + x3)) = x1 then (
          (fX7_isHoliday_b4 m fuel) x1 1 (x3 + 1) )
        else (
          (fX7_isHoliday_b4 m fuel) x1 0 (x3 + 1) ))
      else (
        (fX7_isHoliday_b4 m fuel) x1 1 (x3 + 1) ))
noncomputable def fX7_isHoliday (x1 : Int) (m : mR) : Option Int :=
  fX7_isHoliday_b4 m fuel0 x1 0 0
noncomputable def fX7_weekdayOf (x1 : Int) (m : mR) : Option Int :=
  cr (fX7_of 12 m) fun r4 =>
  gd (wR (x1 + r4)) <|
  some (rmI (x1 + r4) 7)
noncomputable def fX7_isBusiness (x1 : Int) (m : mR) : Option Int :=
  cr (fX7_weekdayOf x1 m) fun r2 =>
  gd (wR r2) <|
  if 5 ≤ r2 then (
    some 0)
  else (
    cr (fX7_isHoliday x1 m) fun r11 =>
    gd (wR r11) <|
    if r11 = 0 then (
      some 1)
    else (
      some 0))
noncomputable def fX7_lastBusiness_b2 (m : mR) : Nat → Int → Option Int
  | 0, _ => none
  | fuel + 1, x2 =>
    gd (wR x2) <|
    if x2 < 0 then (
      some (-6))
    else (
      cr (fX7_isBusiness x2 m) fun r8 =>
      gd (wR r8) <|
      if r8 = 0 then (
        (fX7_lastBusiness_b2 m fuel) (x2 + (-1)) )
      else (
        some x2))
noncomputable def fX7_lastBusiness (x1 : Int) (m : mR) : Option Int :=
  fX7_lastBusiness_b2 m fuel0 x1
noncomputable def fX7_lastOf (x1 : Int) (m : mR) : Option Int :=
  cr (fX7_monthStart x1) fun r1 =>
  cr (fX7_monthLength x1) fun r5 =>
  cr (fX7_lastBusiness ((r1 + r5) - 1) m) fun r14 =>
  gd (wR r14) <|
  if r14 = (-6) then (
    some ((r1 + r5) - 1))
  else (
    cr (fX7_monthStart x1) fun r26 =>
    gd (wR r14 ∧ wR r26) <|
    if r26 ≤ r14 then (
      some r14)
    else (
      some ((r1 + r5) - 1)))
noncomputable def fX7_monthOf_b9 : Nat → Int → Int → Option Int
  | 0, _, _ => none
  | fuel + 1, x0, x1 =>
    cr (fX7_monthStart x1) fun r10 =>
    cr (fX7_monthLength x1) fun r14 =>
    gd (wR (r10 + r14) ∧ wR x0) <|
    if x0 < (r10 + r14) then (
      some x1)
    else (
      (fX7_monthOf_b9 fuel) x0 (x1 + 1) )
noncomputable def fX7_monthOf (x0 : Int) : Option Int :=
  gd (wR x0) <|
  fX7_monthOf_b9 fuel0 x0 ((dvI x0 365) * 12)
noncomputable def fX7_nominal_b102 (m : mR) (x3 : Int) (x6 : Int) : Option Int :=
  gd (wR x6) <|
  if x6 ≤ 1094 then (
    gd (wR x6 ∧ wR x3) <|
    if x3 ≤ x6 then (
      some x6)
    else (
      some (-6)))
  else (
    some 5000)
noncomputable def fX7_nominal (x1 : Int) (x2 : Int) (m : mR) : Option Int :=
  cr (fX7_ofO x1 6 m) fun r4 =>
  cr (fX7_ofO x1 3 m) fun r11 =>
  cr (fX7_ofO x1 4 m) fun r20 =>
  gd (wR r11) <|
  if 2 ≤ r11 then (
    cr (fX7_monthOf r4) fun r55 =>
    gd (wR (r55 + (x2 * r20))) <|
    if (r55 + (x2 * r20)) < 36 then (
      gd (wR r11) <|
      if r11 = 2 then (
        cr (fX7_ofO x1 5 m) fun r85 =>
        cr (fX7_dayIn (r55 + (x2 * r20)) r85) fun r88 =>
        fX7_nominal_b102 m r4 r88)
      else (
        cr (fX7_lastOf (r55 + (x2 * r20)) m) fun r97 =>
        fX7_nominal_b102 m r4 r97))
    else (
      some 5000))
  else (
    gd (wR r11) <|
    if r11 = 0 then (
      fX7_nominal_b102 m r4 (r4 + (x2 * r20)))
    else (
      fX7_nominal_b102 m r4 (r4 + (7 * (x2 * r20)))))
noncomputable def fX7_nextBusiness_b2 (m : mR) : Nat → Int → Option Int
  | 0, _ => none
  | fuel + 1, x2 =>
    gd (wR x2) <|
    if 1094 < x2 then (
      some (-6))
    else (
      cr (fX7_isBusiness x2 m) fun r11 =>
      gd (wR r11) <|
      if r11 = 0 then (
        (fX7_nextBusiness_b2 m fuel) (x2 + 1) )
      else (
        some x2))
noncomputable def fX7_nextBusiness (x1 : Int) (m : mR) : Option Int :=
  fX7_nextBusiness_b2 m fuel0 x1
noncomputable def fX7_shifted_b73 (m : mR) (x1 : Int) (x4 : Int) : Option Int :=
  gd (wR x4) <|
  if x4 = (-6) then (
    some x1)
  else (
    some x4)
noncomputable def fX7_shifted (x1 : Int) (x2 : Int) (m : mR) : Option Int :=
  gd (wR x2) <|
  if x2 = 0 then (
    some x1)
  else (
    gd (wR x2) <|
    if x2 = 4 then (
      some x1)
    else (
      cr (fX7_isBusiness x1 m) fun r11 =>
      gd (wR r11) <|
      if r11 = 0 then (
        cr (fX7_nextBusiness x1 m) fun r21 =>
        cr (fX7_lastBusiness x1 m) fun r27 =>
        gd (wR x2) <|
        if x2 = 1 then (
          gd (wR r21) <|
          if r21 = (-6) then (
            some x1)
          else (
            some r21))
        else (
          gd (wR x2) <|
          if x2 = 3 then (
            gd (wR r21) <|
            if r21 = (-6) then (
              fX7_shifted_b73 m x1 r27)
            else (
              cr (fX7_monthOf r21) fun r61 =>
              cr (fX7_monthOf x1) fun r65 =>
              gd (wR r61 ∧ wR r65) <|
              if r61 = r65 then (
                some r21)
              else (
                fX7_shifted_b73 m x1 r27)))
          else (
            fX7_shifted_b73 m x1 r27)))
      else (
        some x1)))
noncomputable def fX7_dateBy (x1 : Int) (x2 : Int) (m : mR) : Option Int :=
  cr (fX7_nominal x1 x2 m) fun r4 =>
  cr (fX7_ofO x1 7 m) fun r11 =>
  cr (fX7_shifted r4 r11 m) fun r14 =>
  some r14
noncomputable def fX7_hasLeft (x1 : Int) (m : mR) : Option Int :=
  cr (fX7_ofO x1 15 m) fun r4 =>
  gd (wR r4) <|
  if r4 = 1 then (
    some 1)
  else (
    cr (fX7_ofO x1 9 m) fun r15 =>
    gd (wR r15) <|
    if r15 ≤ 0 then (
      some 0)
    else (
      some 1))
noncomputable def fX7_occurrence_b2 (m : mR) : Nat → Int → Int → Option Int
  | 0, _, _ => none
  | fuel + 1, x1, x3 =>
    cr (fX7_nominal x1 x3 m) fun r5 =>
    gd (wR r5) <|
    if r5 = (-6) then (
      (fX7_occurrence_b2 m fuel) x1 (x3 + 1) )
    else (
      cr (fX7_nominal x1 x3 m) fun r22 =>
      gd (wR r22) <|
      if r22 = 5000 then (
        some (-6))
      else (
        some x3))
noncomputable def fX7_occurrence (x1 : Int) (x2 : Int) (m : mR) : Option Int :=
  fX7_occurrence_b2 m fuel0 x1 x2
noncomputable def fX7_today (m : mR) : Option Int :=
  cr (fX7_of 0 m) fun r2 =>
  some r2
noncomputable def fX7_comesDue_b221 (x1 : Int) (m : mR) : Option (Unit × mR) :=
  cl (fX7_becomes x1 10 2 m) fun r226 m226 =>
  cl (fX7_becomes x1 9 0 m226) fun r234 m234 =>
  some ((), m234)
noncomputable def fX7_comesDue_b207 (x1 : Int) (x2 : Int) (m : mR) : Option (Unit × mR) :=
  gd (wR x2) <|
  if x2 = (-6) then (
    fX7_comesDue_b221 x1 m)
  else (
    cr (fX7_hasLeft x1 m) fun r215 =>
    gd (wR r215) <|
    if r215 = 0 then (
      fX7_comesDue_b221 x1 m)
    else (
      some ((), m)))
noncomputable def fX7_comesDue_b182 (rec13 : Int → Int → mR → Option (Unit × mR)) (x1 : Int) (x2 : Int) (t1 : Int) (t2 : Int) (t3 : Int) (m : mR) : Option (Unit × mR) :=
  cl (fX7_becomes t1 t2 t3 m) fun r182 m182 =>
  cl (fX7_becomes x1 14 (x2 + 1) m182) fun r192 m192 =>
  cr (fX7_occurrence x1 (x2 + 1) m192) fun r200 =>
  rec13 x1 r200 m192 
noncomputable def fX7_comesDue_b154 (rec13 : Int → Int → mR → Option (Unit × mR)) (x1 : Int) (x2 : Int) (m : mR) : Option (Unit × mR) :=
  cr (fX7_ofO x1 15 m) fun r162 =>
  gd (wR r162) <|
  if r162 = 1 then (
    fX7_comesDue_b182 rec13 x1 x2 x1 9 0 m)
  else (
    cr (fX7_ofO x1 9 m) fun r177 =>
    fX7_comesDue_b182 rec13 x1 x2 x1 9 (r177 - 1) m)
noncomputable def fX7_comesDue_b99 (rec13 : Int → Int → mR → Option (Unit × mR)) (x1 : Int) (x2 : Int) (x3 : Int) (m : mR) : Option (Unit × mR) :=
  gd (wR x3) <|
  cr (fX7_today m) fun r105 =>
  gd (wR r105) <|
  cr (fX7_of 4 m) fun r119 =>
  gd (wR x1) <|
  cr (fX7_ofO x1 2 m) fun r130 =>
  gd (wR r130) <|
  gd ((0 ≤ r119 ∧ r119 < 8400)) <|
  bnd (mS m 1 r119 (x1 + (16 * (r130 + (1048576 * (x3 + (2048 * r105))))))) fun m143 =>
  bnd (mS m143 0 4 ((m143.1 0 4) + 1)) fun m153 =>
  fX7_comesDue_b154 rec13 x1 x2 m153
noncomputable def fX7_comesDue_b13 : Nat → Int → Int → mR → Option (Unit × mR)
  | 0, _, _, _ => none
  | fuel + 1, x1, x2, m =>
    gd (wR x2) <|
    if x2 = (-6) then (
      fX7_comesDue_b207 x1 x2 m)
    else (
      cr (fX7_hasLeft x1 m) fun r21 =>
      gd (wR r21) <|
      if r21 = 0 then (
        fX7_comesDue_b207 x1 x2 m)
      else (
        cr (fX7_dateBy x1 x2 m) fun r30 =>
        cr (fX7_today m) fun r34 =>
        gd (wR r30 ∧ wR r34) <|
        if r34 < r30 then (
          fX7_comesDue_b207 x1 x2 m)
        else (
          cr (fX7_nominal x1 x2 m) fun r43 =>
          cr (fX7_ofO x1 7 m) fun r51 =>
          gd (wR r51) <|
          if r51 = 4 then (
            cr (fX7_isBusiness r43 m) fun r60 =>
            gd (wR r60) <|
            if r60 = 0 then (
              gd (0 ≤ ((121 + (16 * x1)) + 13) ∧ ((121 + (16 * x1)) + 13) < 377) <|
              gd ((0 ≤ ((121 + (16 * x1)) + 13) ∧ ((121 + (16 * x1)) + 13) < 377)) <|
              bnd (mS m 0 ((121 + (16 * x1)) + 13) ((m.1 0 ((121 + (16 * x1)) + 13)) + 1)) fun m84 =>
              bnd (mS m84 0 7 ((m84.1 0 7) + 1)) fun m95 =>
              fX7_comesDue_b154 (fX7_comesDue_b13 fuel) x1 x2 m95)
            else (
              fX7_comesDue_b99 (fX7_comesDue_b13 fuel) x1 x2 r43 m))
          else (
            fX7_comesDue_b99 (fX7_comesDue_b13 fuel) x1 x2 r43 m))))
noncomputable def fX7_comesDue (x1 : Int) (m : mR) : Option (Unit × mR) :=
  cr (fX7_ofO x1 14 m) fun r6 =>
  cr (fX7_occurrence x1 r6 m) fun r9 =>
  fX7_comesDue_b13 fuel0 x1 r9 m
noncomputable def fX7_moneyOf (x1 : Int) (x2 : Int) (m : mR) : Option Int :=
  gd (0 ≤ (((33 + (11 * x1)) + 3) + x2) ∧ (((33 + (11 * x1)) + 3) + x2) < 377) <|
  some (m.1 0 (((33 + (11 * x1)) + 3) + x2))
noncomputable def fX7_moves (x1 : Int) (x2 : Int) (x3 : Int) (m : mR) : Option (Unit × mR) :=
  gd (0 ≤ (((33 + (11 * x1)) + 3) + x2) ∧ (((33 + (11 * x1)) + 3) + x2) < 377) <|
  gd ((0 ≤ (((33 + (11 * x1)) + 3) + x2) ∧ (((33 + (11 * x1)) + 3) + x2) < 377)) <|
  bnd (mS m 0 (((33 + (11 * x1)) + 3) + x2) ((m.1 0 (((33 + (11 * x1)) + 3) + x2)) + x3)) fun m19 =>
  some ((), m19)
noncomputable def fX7_owes_b46 (x1 : Int) (m : mR) : Option (Unit × mR) :=
  cr (fX7_today m) fun r47 =>
  cr (fX7_monthOf r47) fun r50 =>
  cr (fX7_today m) fun r56 =>
  cr (fX7_monthStart r50) fun r61 =>
  cr (fX7_monthLength r50) fun r66 =>
  gd (wR r56 ∧ wR ((r61 + r66) - 1)) <|
  if r56 = ((r61 + r66) - 1) then (
    gd (0 ≤ x1 ∧ x1 < 8) <|
    cl (fX7_moves x1 0 (-(d2lI (m.2 0 x1))) m) fun r90 m90 =>
    cl (fX7_moves x1 7 (d2lI (m.2 0 x1)) m90) fun r99 m99 =>
    gd (0 ≤ x1 ∧ x1 < 8) <|
    gd (okD (FP.dsub (m99.2 0 x1) (FP.l2d (jL (d2lI (m.2 0 x1)))))) <|
    gd ((0 ≤ x1 ∧ x1 < 8)) <|
    bnd (mD m99 0 x1 (FP.dsub (m99.2 0 x1) (FP.l2d (jL (d2lI (m.2 0 x1)))))) fun m113 =>
    some ((), m113))
  else (
    some ((), m))
noncomputable def fX7_owes (x1 : Int) (m : mR) : Option (Unit × mR) :=
  cr (fX7_moneyOf x1 0 m) fun r3 =>
  gd (okF (FP.fdiv (FP.l2f (jL (m.1 0 11))) 1148846080)) <|
  gd (wR64 r3) <|
  if 0 ≤ r3 then (
    fX7_owes_b46 x1 m)
  else (
    gd (0 ≤ x1 ∧ x1 < 8) <|
    gd (okD (FP.f2d (FP.fdiv (FP.l2f (jL (m.1 0 11))) 1148846080))) <|
    gd (okD (FP.dmul (FP.l2d (jL (-r3))) (FP.f2d (FP.fdiv (FP.l2f (jL (m.1 0 11))) 1148846080)))) <|
    gd (okD (FP.ddiv (FP.dmul (FP.l2d (jL (-r3))) (FP.f2d (FP.fdiv (FP.l2f (jL (m.1 0 11))) 1148846080))) 4645128764097822720)) <|
    gd (okD (FP.dadd (m.2 0 x1) (FP.ddiv (FP.dmul (FP.l2d (jL (-r3))) (FP.f2d (FP.fdiv (FP.l2f (jL (m.1 0 11))) 1148846080))) 4645128764097822720))) <|
    gd ((0 ≤ x1 ∧ x1 < 8)) <|
    bnd (mD m 0 x1 (FP.dadd (m.2 0 x1) (FP.ddiv (FP.dmul (FP.l2d (jL (-r3))) (FP.f2d (FP.fdiv (FP.l2f (jL (m.1 0 11))) 1148846080))) 4645128764097822720))) fun m45 =>
    fX7_owes_b46 x1 m45)
noncomputable def fX7_partOf (x1 : Int) (x2 : Int) (m : mR) : Option Int :=
  gd (0 ≤ x1 ∧ x1 < 8400) <|
  gd (wR x2) <|
  if x2 = 0 then (
    gd (0 ≤ (m.1 1 x1) ∧ (m.1 1 x1) ≤ 9223372036854775807) <|
    some ((m.1 1 x1) % 16))
  else if x2 = 1 then (
    gd (0 ≤ (m.1 1 x1) ∧ (m.1 1 x1) ≤ 9223372036854775807) <|
    gd (0 ≤ ((m.1 1 x1) / 16) ∧ ((m.1 1 x1) / 16) ≤ 9223372036854775807) <|
    some (((m.1 1 x1) / 16) % 1048576))
  else if x2 = 2 then (
    gd (0 ≤ (m.1 1 x1) ∧ (m.1 1 x1) ≤ 9223372036854775807) <|
    gd (0 ≤ ((m.1 1 x1) / 16777216) ∧ ((m.1 1 x1) / 16777216) ≤ 9223372036854775807) <|
    some (((m.1 1 x1) / 16777216) % 2048))
  else if x2 = 3 then (
    gd (0 ≤ (m.1 1 x1) ∧ (m.1 1 x1) ≤ 9223372036854775807) <|
    gd (0 ≤ ((m.1 1 x1) / 34359738368) ∧ ((m.1 1 x1) / 34359738368) ≤ 9223372036854775807) <|
    some (((m.1 1 x1) / 34359738368) % 2048))
  else if x2 = 4 then (
    gd (0 ≤ (m.1 1 x1) ∧ (m.1 1 x1) ≤ 9223372036854775807) <|
    gd (0 ≤ ((m.1 1 x1) / 70368744177664) ∧ ((m.1 1 x1) / 70368744177664) ≤ 9223372036854775807) <|
    some (((m.1 1 x1) / 70368744177664) % 16))
  else (
    gd (0 ≤ (m.1 1 x1) ∧ (m.1 1 x1) ≤ 9223372036854775807) <|
    some ((m.1 1 x1) / 1125899906842624))
noncomputable def fX7_isAhead (x1 : Int) (x2 : Int) (m : mR) : Option Int :=
  cr (fX7_partOf x1 0 m) fun r4 =>
  cr (fX7_ofO r4 8 m) fun r9 =>
  cr (fX7_partOf x2 0 m) fun r17 =>
  cr (fX7_ofO r17 8 m) fun r22 =>
  gd (wR r9 ∧ wR r22) <|
  if r9 = r22 then (
    cr (fX7_partOf x1 3 m) fun r48 =>
    cr (fX7_partOf x2 3 m) fun r58 =>
    gd (wR r48 ∧ wR r58) <|
    if r48 = r58 then (
      cr (fX7_partOf x1 0 m) fun r86 =>
      cr (fX7_partOf x2 0 m) fun r92 =>
      gd (wR r86 ∧ wR r92) <|
      if r92 ≤ r86 then (
        some 0)
      else (
        some 1))
    else (
      cr (fX7_partOf x2 3 m) fun r69 =>
      gd (wR r48 ∧ wR r69) <|
      if r69 ≤ r48 then (
        some 0)
      else (
        some 1)))
  else (
    gd (wR r9 ∧ wR r22) <|
    if r9 ≤ r22 then (
      some 0)
    else (
      some 1))
noncomputable def fX7_nextToTry_b5 (m : mR) : Nat → Int → Int → Option Int
  | 0, _, _ => none
  | fuel + 1, x1, x2 =>
    gd (wR x2) <|
    gd (wR64 x2 ∧ wR64 (m.1 0 4)) <|
    if (m.1 0 4) ≤ x2 then (
      some x1)
    else (
      cr (fX7_partOf x2 5 m) fun r20 =>
      gd (wR r20) <|
      if r20 = 0 then (
        gd (wR x1) <|
        if x1 = (-6) then (
          (fX7_nextToTry_b5 m fuel) x2 (x2 + 1) )
        else (
          cr (fX7_isAhead x2 x1 m) fun r35 =>
          gd (wR r35) <|
          if r35 = 0 then (
            (fX7_nextToTry_b5 m fuel) x1 (x2 + 1) )
          else (
            (fX7_nextToTry_b5 m fuel) x2 (x2 + 1) )))
      else (
        (fX7_nextToTry_b5 m fuel) x1 (x2 + 1) ))
noncomputable def fX7_nextToTry (m : mR) : Option Int :=
  fX7_nextToTry_b5 m fuel0 (-6) 0
noncomputable def fX7_removes_b12 : Nat → Int → mR → Option (Unit × mR)
  | 0, _, _ => none
  | fuel + 1, x2, m =>
    gd (wR x2) <|
    gd (wR64 x2 ∧ wR64 (m.1 0 4)) <|
    if (m.1 0 4) ≤ x2 then (
      some ((), m))
    else (
      gd (0 ≤ (x2 + 1) ∧ (x2 + 1) < 8400) <|
      gd ((0 ≤ x2 ∧ x2 < 8400)) <|
      bnd (mS m 1 x2 (m.1 1 (x2 + 1))) fun m37 =>
      (fX7_removes_b12 fuel) (x2 + 1) m37 )
noncomputable def fX7_removes (x1 : Int) (m : mR) : Option (Unit × mR) :=
  bnd (mS m 0 4 ((m.1 0 4) - 1)) fun m9 =>
  fX7_removes_b12 fuel0 x1 m9
noncomputable def fX7_misses (x1 : Int) (m : mR) : Option (Unit × mR) :=
  cr (fX7_partOf x1 0 m) fun r11 =>
  gd (0 ≤ ((121 + (16 * r11)) + 12) ∧ ((121 + (16 * r11)) + 12) < 377) <|
  gd ((0 ≤ ((121 + (16 * r11)) + 12) ∧ ((121 + (16 * r11)) + 12) < 377)) <|
  bnd (mS m 0 ((121 + (16 * r11)) + 12) ((m.1 0 ((121 + (16 * r11)) + 12)) + 1)) fun m23 =>
  bnd (mS m23 0 6 ((m23.1 0 6) + 1)) fun m34 =>
  cl (fX7_removes x1 m34) fun r37 m37 =>
  some ((), m37)
noncomputable def fX7_ofA (x1 : Int) (x2 : Int) (m : mR) : Option Int :=
  cr (fX7_of ((33 + (11 * x1)) + x2) m) fun r10 =>
  some r10
noncomputable def fX7_tries_b93 (x1 : Int) (x2 : Int) (m : mR) : Option (Unit × mR) :=
  gd (0 ≤ ((121 + (16 * x2)) + 11) ∧ ((121 + (16 * x2)) + 11) < 377) <|
  gd ((0 ≤ ((121 + (16 * x2)) + 11) ∧ ((121 + (16 * x2)) + 11) < 377)) <|
  bnd (mS m 0 ((121 + (16 * x2)) + 11) ((m.1 0 ((121 + (16 * x2)) + 11)) + 1)) fun m111 =>
  bnd (mS m111 0 5 ((m111.1 0 5) + 1)) fun m121 =>
  cl (fX7_removes x1 m121) fun r124 m124 =>
  some ((), m124)
noncomputable def fX7_tries (x1 : Int) (m : mR) : Option (Unit × mR) :=
  cr (fX7_partOf x1 0 m) fun r3 =>
  cr (fX7_ofO r3 0 m) fun r10 =>
  cr (fX7_ofO r3 1 m) fun r17 =>
  cr (fX7_partOf x1 1 m) fun r25 =>
  gd (wR r25) <|
  cr (fX7_moneyOf r10 0 m) fun r34 =>
  cr (fX7_ofA r10 0 m) fun r40 =>
  gd (wR r40) <|
  gd (wR64 (r34 + r40) ∧ wR64 r25) <|
  if (r34 + r40) < r25 then (
    cl (fX7_moves r10 0 (-(m.1 0 10)) m) fun r139 m139 =>
    cl (fX7_moves r10 6 (m139.1 0 10) m139) fun r153 m153 =>
    bnd (mS m153 0 8 ((m153.1 0 8) + 1)) fun m166 =>
    bnd (mS m166 6 8 (orI (m166.1 6 8) (shlI 1 r10))) fun m176 =>
    cr (fX7_partOf x1 4 m176) fun r182 =>
    gd (wR (r182 + 1)) <|
    gd (wR64 (r182 + 1) ∧ wR64 (m176.1 0 9)) <|
    if (r182 + 1) < (m176.1 0 9) then (
      gd (0 ≤ x1 ∧ x1 < 8400) <|
      gd ((0 ≤ x1 ∧ x1 < 8400)) <|
      bnd (mS m176 1 x1 ((m176.1 1 x1) + 1196268651020288)) fun m218 =>
      some ((), m218))
    else (
      cl (fX7_misses x1 m176) fun r201 m201 =>
      some ((), m201)))
  else (
    cl (fX7_moves r10 0 (-r25) m) fun r57 m57 =>
    cl (fX7_moves r10 2 r25 m57) fun r65 m65 =>
    gd (wR r17) <|
    if r17 = 8 then (
      fX7_tries_b93 x1 r3 m65)
    else (
      cl (fX7_moves r17 0 r25 m65) fun r81 m81 =>
      cl (fX7_moves r17 3 r25 m81) fun r90 m90 =>
      fX7_tries_b93 x1 r3 m90))
noncomputable def fX7_paysAll_b26 : Nat → Int → mR → Option (Unit × mR)
  | 0, _, _ => none
  | fuel + 1, x2, m =>
    gd (wR x2) <|
    gd (wR64 x2 ∧ wR64 (m.1 0 4)) <|
    if (m.1 0 4) ≤ x2 then (
      some ((), m))
    else (
      gd (0 ≤ x2 ∧ x2 < 8400) <|
      gd (0 ≤ (m.1 1 x2) ∧ (m.1 1 x2) ≤ 9223372036854775807) <|
      gd ((0 ≤ x2 ∧ x2 < 8400)) <|
      bnd (mS m 1 x2 ((m.1 1 x2) % 1125899906842624)) fun m49 =>
      (fX7_paysAll_b26 fuel) (x2 + 1) m49 )
noncomputable def fX7_paysAll_b5 : Nat → Int → mR → Option (Unit × mR)
  | 0, _, _ => none
  | fuel + 1, x1, m =>
    gd (wR x1) <|
    if x1 = (-6) then (
      fX7_paysAll_b26 fuel0 0 m)
    else (
      cl (fX7_tries x1 m) fun r13 m13 =>
      cr (fX7_nextToTry m13) fun r17 =>
      (fX7_paysAll_b5 fuel) r17 m13 )
noncomputable def fX7_paysAll (m : mR) : Option (Unit × mR) :=
  cr (fX7_nextToTry m) fun r1 =>
  fX7_paysAll_b5 fuel0 r1 m
noncomputable def fX7_waitsFor_b47 (m : mR) (rec5 : Int → Int → Int → Option Int) (x1 : Int) (x4 : Int) (t0 : Int) (t1 : Int) : Option Int :=
  rec5 x1 (t0 + t1) (x4 + 1) 
noncomputable def fX7_waitsFor_b5 (m : mR) : Nat → Int → Int → Int → Option Int
  | 0, _, _, _ => none
  | fuel + 1, x1, x2, x4 =>
    gd (wR x4) <|
    gd (wR64 x4 ∧ wR64 (m.1 0 4)) <|
    if (m.1 0 4) ≤ x4 then (
      some x2)
    else (
      cr (fX7_partOf x4 0 m) fun r24 =>
      cr (fX7_ofO r24 0 m) fun r28 =>
      gd (wR r28 ∧ wR x1) <|
      if r28 = x1 then (
        cr (fX7_partOf x4 1 m) fun r39 =>
        gd (wR r39) <|
        fX7_waitsFor_b47 m (fX7_waitsFor_b5 m fuel) x1 x4 x2 r39)
      else (
        fX7_waitsFor_b47 m (fX7_waitsFor_b5 m fuel) x1 x4 x2 0))
noncomputable def fX7_waitsFor (x1 : Int) (m : mR) : Option Int :=
  fX7_waitsFor_b5 m fuel0 x1 0 0
noncomputable def fX7_sweeps_b64 (x1 : Int) (x2 : Int) (t0 : Int) (m : mR) : Option (Unit × mR) :=
  gd (wR64 t0) <|
  if t0 ≤ 0 then (
    some ((), m))
  else (
    cl (fX7_moves x2 0 (-t0) m) fun r79 m79 =>
    cl (fX7_moves x2 5 t0 m79) fun r87 m87 =>
    cl (fX7_moves x1 0 t0 m87) fun r95 m95 =>
    cl (fX7_moves x1 4 t0 m95) fun r103 m103 =>
    some ((), m103))
noncomputable def fX7_sweeps (x1 : Int) (m : mR) : Option (Unit × mR) :=
  cr (fX7_ofA x1 2 m) fun r3 =>
  gd (wR r3) <|
  if r3 = (-6) then (
    some ((), m))
  else (
    cr (fX7_waitsFor x1 m) fun r16 =>
    cr (fX7_moneyOf x1 0 m) fun r22 =>
    cr (fX7_ofA x1 0 m) fun r29 =>
    gd (wR r29) <|
    cr (fX7_moneyOf r3 0 m) fun r38 =>
    cr (fX7_ofA r3 1 m) fun r44 =>
    gd (wR r44) <|
    gd (wR64 ((r16 - r22) - r29) ∧ wR64 (r38 - r44)) <|
    if (r38 - r44) ≤ ((r16 - r22) - r29) then (
      fX7_sweeps_b64 x1 r3 (r38 - r44) m)
    else (
      fX7_sweeps_b64 x1 r3 ((r16 - r22) - r29) m))
noncomputable def fX7_passesDay_b82 : Nat → Int → mR → Option (Unit × mR)
  | 0, _, _ => none
  | fuel + 1, x1, m =>
    gd (wR x1) <|
    gd (wR64 x1 ∧ wR64 (m.1 0 1)) <|
    if (m.1 0 1) ≤ x1 then (
      bnd (mS m 0 0 ((m.1 0 0) + 1)) fun m114 =>
      some ((), m114))
    else (
      cl (fX7_owes x1 m) fun r96 m96 =>
      (fX7_passesDay_b82 fuel) (x1 + 1) m96 )
noncomputable def fX7_passesDay_b42 : Nat → Int → mR → Option (Unit × mR)
  | 0, _, _ => none
  | fuel + 1, x1, m =>
    gd (wR x1) <|
    gd (wR64 x1 ∧ wR64 (m.1 0 1)) <|
    if (m.1 0 1) ≤ x1 then (
      cr (fX7_today m) fun r67 =>
      cr (fX7_isBusiness r67 m) fun r70 =>
      gd (wR r70) <|
      if r70 = 0 then (
        fX7_passesDay_b82 fuel0 0 m)
      else (
        cl (fX7_paysAll m) fun r77 m77 =>
        fX7_passesDay_b82 fuel0 0 m77))
    else (
      cl (fX7_sweeps x1 m) fun r56 m56 =>
      (fX7_passesDay_b42 fuel) (x1 + 1) m56 )
noncomputable def fX7_passesDay_b7 : Nat → Int → mR → Option (Unit × mR)
  | 0, _, _ => none
  | fuel + 1, x1, m =>
    gd (wR x1) <|
    gd (wR64 x1 ∧ wR64 (m.1 0 2)) <|
    if (m.1 0 2) ≤ x1 then (
      fX7_passesDay_b42 fuel0 0 m)
    else (
      cr (fX7_ofO x1 10 m) fun r23 =>
      gd (wR r23) <|
      if r23 = 0 then (
        cl (fX7_comesDue x1 m) fun r31 m31 =>
        (fX7_passesDay_b7 fuel) (x1 + 1) m31 )
      else (
        (fX7_passesDay_b7 fuel) (x1 + 1) m ))
noncomputable def fX7_passesDay (m : mR) : Option (Unit × mR) :=
  bnd (mS m 6 8 0) fun m2 =>
  fX7_passesDay_b7 fuel0 0 m2
noncomputable def fX7_passesDays_b27 (m : mR) : Option (Int × mR) :=
  cr (fX7_today m) fun r28 =>
  some (r28, m)
noncomputable def fX7_passesDays_b2 : Nat → Int → Int → mR → Option (Int × mR)
  | 0, _, _, _ => none
  | fuel + 1, x1, x2, m =>
    gd (wR x2 ∧ wR x1) <|
    if x1 ≤ x2 then (
      fX7_passesDays_b27  m)
    else (
      cr (fX7_today m) fun r8 =>
      gd (wR r8) <|
      if 1094 ≤ r8 then (
        fX7_passesDays_b27  m)
      else (
        cl (fX7_passesDay m) fun r18 m18 =>
        (fX7_passesDays_b2 fuel) x1 (x2 + 1) m18 ))
noncomputable def fX7_passesDays (x1 : Int) (m : mR) : Option (Int × mR) :=
  fX7_passesDays_b2 fuel0 x1 0 m
noncomputable def fX7_waitsOf_b32 (m : mR) (rec4 : Int → Int → Int → Option Int) (x1 : Int) (x3 : Int) (t0 : Int) (t1 : Int) : Option Int :=
  rec4 x1 (t0 + t1) (x3 + 1) 
noncomputable def fX7_waitsOf_b4 (m : mR) : Nat → Int → Int → Int → Option Int
  | 0, _, _, _ => none
  | fuel + 1, x1, x2, x3 =>
    gd (wR x3) <|
    gd (wR64 x3 ∧ wR64 (m.1 0 4)) <|
    if (m.1 0 4) ≤ x3 then (
      some x2)
    else (
      cr (fX7_partOf x3 0 m) fun r20 =>
      gd (wR r20 ∧ wR x1) <|
      if r20 = x1 then (
        fX7_waitsOf_b32 m (fX7_waitsOf_b4 m fuel) x1 x3 x2 1)
      else (
        fX7_waitsOf_b32 m (fX7_waitsOf_b4 m fuel) x1 x3 x2 0))
noncomputable def fX7_waitsOf (x1 : Int) (m : mR) : Option Int :=
  fX7_waitsOf_b4 m fuel0 x1 0 0
noncomputable def fX7_ahead_b91 (x4 : Int) (t0 : Int) (m : mR) : Option (Int × mR) :=
  cl (fX7_brings 8 m) fun r96 m96 =>
  some ((t0 - x4), m96)
noncomputable def fX7_ahead_b61 (x1 : Int) (x2 : Int) (x3 : Int) (t0 : Int) (m : mR) : Option (Int × mR) :=
  cl (fX7_passesDays x2 m) fun r65 m65 =>
  gd (wR x3) <|
  if x3 = 3 then (
    cr (fX7_waitsOf x1 m65) fun r76 =>
    fX7_ahead_b91 t0 r76 m65)
  else (
    cr (fX7_ofO x1 (11 + x3) m65) fun r88 =>
    fX7_ahead_b91 t0 r88 m65)
noncomputable def fX7_ahead (x1 : Int) (x2 : Int) (x3 : Int) (m : mR) : Option (Int × mR) :=
  cr (fX7_isOrder x1 m) fun r2 =>
  gd (wR r2) <|
  if r2 = 0 then (
    some ((-1), m))
  else (
    gd (wR x2) <|
    cr (fX7_isIn x2 1 400) fun r16 =>
    gd (wR r16) <|
    if r16 = 0 then (
      some ((-2), m))
    else (
      gd (wR x3) <|
      cr (fX7_isIn x3 0 3) fun r28 =>
      gd (wR r28) <|
      if r28 = 0 then (
        some ((-2), m))
      else (
        cl (fX7_keeps 8 m) fun r40 m40 =>
        gd (wR x3) <|
        if x3 = 3 then (
          fX7_ahead_b61 x1 x2 x3 0 m40)
        else (
          cr (fX7_ofO x1 (11 + x3) m40) fun r58 =>
          fX7_ahead_b61 x1 x2 x3 r58 m40))))
noncomputable def fX7_isAccount (x1 : Int) (m : mR) : Option Int :=
  gd (wR x1) <|
  cr (fX7_isIn x1 0 ((m.1 0 1) - 1)) fun r11 =>
  gd (r11 = 0 ∨ r11 = 1) <|
  some r11
noncomputable def fX7_balanceIn (x1 : Int) (x2 : Int) (m : mR) : Option (Int × mR) :=
  cr (fX7_isAccount x1 m) fun r2 =>
  gd (wR r2) <|
  if r2 = 0 then (
    some ((-1), m))
  else (
    gd (wR x2) <|
    cr (fX7_isIn x2 1 400) fun r18 =>
    gd (wR r18) <|
    if r18 = 0 then (
      some ((-2), m))
    else (
      cl (fX7_keeps 8 m) fun r31 m31 =>
      cl (fX7_passesDays x2 m31) fun r36 m36 =>
      cr (fX7_moneyOf x1 0 m36) fun r43 =>
      cl (fX7_brings 8 m36) fun r50 m50 =>
      some (r43, m50)))
noncomputable def fX7_bitsOf_b39 : Nat → Int → UInt64 → Option Int
  | 0, _, _ => none
  | fuel + 1, x2, x4 =>
    gd (wR (dcI x4 FP.dconst1 (.g))) <|
    if 0 ≤ (dcI x4 FP.dconst1 (.g)) then (
      gd (okD (FP.dsub x4 FP.dconst1)) <|
      gd (okD (FP.dmul (FP.dsub x4 FP.dconst1) 4841369599423283200)) <|
      some ((lshlI x2 52) + (d2lI (FP.dmul (FP.dsub x4 FP.dconst1) 4841369599423283200))))
    else (
      gd (okD (FP.dmul x4 4611686018427387904)) <|
      (fX7_bitsOf_b39 fuel) (x2 - 1) (FP.dmul x4 4611686018427387904) )
noncomputable def fX7_bitsOf_b15 : Nat → Int → UInt64 → Option Int
  | 0, _, _ => none
  | fuel + 1, x2, x4 =>
    gd (wR (dcI x4 4611686018427387904 (.l))) <|
    if (dcI x4 4611686018427387904 (.l)) < 0 then (
      fX7_bitsOf_b39 fuel0 x2 x4)
    else (
      gd (okD (FP.ddiv x4 4611686018427387904)) <|
      (fX7_bitsOf_b15 fuel) (x2 + 1) (FP.ddiv x4 4611686018427387904) )
noncomputable def fX7_bitsOf (x0 : UInt64) : Option Int :=
  gd (wR (dcI x0 FP.dconst0 (.l))) <|
  if (dcI x0 FP.dconst0 (.l)) = 0 then (
    some 0)
  else (
    fX7_bitsOf_b15 fuel0 1023 x0)
noncomputable def fX7_checksDays (x1 : Int) (m : mR) : Option Int :=
  gd (wR x1) <|
  cr (fX7_isIn x1 1 400) fun r6 =>
  gd (wR r6) <|
  if r6 = 0 then (
    some (-2))
  else (
    cr (fX7_today m) fun r16 =>
    gd (wR (r16 + x1)) <|
    if (r16 + x1) ≤ 1094 then (
      some 0)
    else (
      some (-5)))
noncomputable def fX7_checksDeposit (x1 : Int) (x2 : Int) (m : mR) : Option Int :=
  cr (fX7_isAccount x1 m) fun r2 =>
  gd (wR r2) <|
  if r2 = 0 then (
    some (-1))
  else (
    gd (wR x2) <|
    cr (fX7_isIn x2 1 100000000) fun r16 =>
    gd (wR r16) <|
    if r16 = 0 then (
      some (-2))
    else (
      some 0))
noncomputable def fX7_checksState (x1 : Int) (x2 : Int) (m : mR) : Option Int :=
  cr (fX7_isOrder x1 m) fun r2 =>
  gd (wR r2) <|
  if r2 = 0 then (
    some (-1))
  else (
    cr (fX7_ofO x1 10 m) fun r14 =>
    gd (wR r14 ∧ wR x2) <|
    if r14 = x2 then (
      some 0)
    else (
      some (-5)))
noncomputable def fX7_deposits (x1 : Int) (x2 : Int) (m : mR) : Option (Int × mR) :=
  gd (wR x2) <|
  cl (fX7_moves x1 0 x2 m) fun r5 m5 =>
  gd (wR x2) <|
  cl (fX7_moves x1 1 x2 m5) fun r13 m13 =>
  cr (fX7_moneyOf x1 0 m13) fun r19 =>
  gd (wR64 r19) <|
  if r19 < 0 then (
    some (0, m13))
  else (
    some (1, m13))
noncomputable def fX7_checksOrder_b100 (m : mR) (x2 : Int) (x4 : Int) (x5 : Int) (x6 : Int) (t0 : Int) : Option Int :=
  gd (wR x2) <|
  cr (fX7_isIn x2 1 1000000) fun r108 =>
  gd (wR r108) <|
  if r108 = 0 then (
    some (-2))
  else (
    gd (wR t0) <|
    if t0 = 0 then (
      some (-2))
    else (
      gd (wR x4) <|
      cr (fX7_today m) fun r123 =>
      gd (wR r123) <|
      cr (fX7_isIn x4 r123 1094) fun r130 =>
      gd (wR r130) <|
      if r130 = 0 then (
        some (-2))
      else (
        gd (wR x5) <|
        cr (fX7_isIn x5 0 49) fun r143 =>
        gd (wR r143) <|
        if r143 = 0 then (
          some (-2))
        else (
          gd (wR x6) <|
          cr (fX7_isIn x6 0 99) fun r156 =>
          gd (wR r156) <|
          if r156 = 0 then (
            some (-2))
          else (
            gd (wR64 (m.1 0 2)) <|
            if (m.1 0 2) = 16 then (
              some (-4))
            else (
              some 0))))))
noncomputable def fX7_checksOrder_b41 (m : mR) (x2 : Int) (x3 : Int) (x4 : Int) (x5 : Int) (x6 : Int) (x7 : Int) (x8 : Int) : Option Int :=
  gd (wR x7 ∧ wR x8) <|
  if x7 = x8 then (
    some (-1))
  else (
    gd (wR x3) <|
    cr (fX7_isIn x3 0 39999) fun r56 =>
    gd (wR r56) <|
    if r56 = 0 then (
      fX7_checksOrder_b100 m x2 x4 x5 x6 0)
    else (
      gd (wR x3) <|
      gd (wR (dvI x3 100)) <|
      gd (wR (rmI (dvI x3 100) 100)) <|
      cr (fX7_isIn (rmI (dvI x3 100) 100) 1 12) fun r74 =>
      gd (wR r74) <|
      if r74 = 0 then (
        fX7_checksOrder_b100 m x2 x4 x5 x6 0)
      else (
        gd (wR x3) <|
        gd (wR (rmI x3 100)) <|
        cr (fX7_isIn (rmI x3 100) 1 31) fun r89 =>
        gd (wR r89) <|
        if r89 = 0 then (
          fX7_checksOrder_b100 m x2 x4 x5 x6 0)
        else (
          fX7_checksOrder_b100 m x2 x4 x5 x6 1))))
noncomputable def fX7_checksOrder (x1 : Int) (x2 : Int) (x3 : Int) (x4 : Int) (x5 : Int) (x6 : Int) (m : mR) : Option Int :=
  gd (wR x1) <|
  gd (wR x1) <|
  gd (wR x1) <|
  if x1 < 0 then (
    some (-1))
  else (
    cr (fX7_isAccount (dvI x1 9) m) fun r19 =>
    gd (wR r19) <|
    if r19 = 0 then (
      some (-1))
    else (
      gd (wR (rmI x1 9)) <|
      if (rmI x1 9) = 8 then (
        fX7_checksOrder_b41 m x2 x3 x4 x5 x6 (dvI x1 9) (rmI x1 9))
      else (
        cr (fX7_isAccount (rmI x1 9) m) fun r35 =>
        gd (wR r35) <|
        if r35 = 0 then (
          some (-1))
        else (
          fX7_checksOrder_b41 m x2 x3 x4 x5 x6 (dvI x1 9) (rmI x1 9)))))
noncomputable def fX7_leavesOut_b15 : Nat → Int → Int → Int → mR → Option (Int × mR)
  | 0, _, _, _, _ => none
  | fuel + 1, x1, x2, x3, m =>
    gd (wR x3) <|
    if x3 = (-6) then (
      some (x2, m))
    else (
      cr (fX7_dateBy x1 x3 m) fun r24 =>
      cr (fX7_today m) fun r28 =>
      gd (wR r24 ∧ wR r28) <|
      if r28 ≤ r24 then (
        some (x2, m))
      else (
        cl (fX7_becomes x1 14 (x3 + 1) m) fun r44 m44 =>
        cr (fX7_occurrence x1 (x3 + 1) m44) fun r52 =>
        (fX7_leavesOut_b15 fuel) x1 (x2 + 1) r52 m44 ))
noncomputable def fX7_leavesOut (x1 : Int) (m : mR) : Option (Int × mR) :=
  cr (fX7_ofO x1 14 m) fun r8 =>
  cr (fX7_occurrence x1 r8 m) fun r11 =>
  fX7_leavesOut_b15 fuel0 x1 0 r11 m
noncomputable def fX7_makes_b170 (x7 : Int) (t1 : Int) (t2 : Int) (t3 : Int) (m : mR) : Option (Int × mR) :=
  cl (fX7_becomes t1 t2 t3 m) fun r170 m170 =>
  cl (fX7_leavesOut x7 m170) fun r176 m176 =>
  some (x7, m176)
noncomputable def fX7_makes_b20 : Nat → Int → Int → Int → Int → Int → Int → Int → Int → mR → Option (Int × mR)
  | 0, _, _, _, _, _, _, _, _, _ => none
  | fuel + 1, x1, x2, x3, x4, x5, x6, x7, x8, m =>
    gd (wR x8) <|
    if 16 ≤ x8 then (
      gd (wR x1) <|
      cl (fX7_becomes x7 0 (dvI x1 9) m) fun r50 m50 =>
      gd (wR x1) <|
      cl (fX7_becomes x7 1 (rmI x1 9) m50) fun r61 m61 =>
      cl (fX7_becomes x7 2 x2 m61) fun r69 m69 =>
      gd (wR x3) <|
      cl (fX7_becomes x7 3 (dvI x3 10000) m69) fun r81 m81 =>
      gd (wR x3) <|
      gd (wR (dvI x3 100)) <|
      cl (fX7_becomes x7 4 (rmI (dvI x3 100) 100) m81) fun r95 m95 =>
      gd (wR x3) <|
      cl (fX7_becomes x7 5 (rmI x3 100) m95) fun r106 m106 =>
      cl (fX7_becomes x7 6 x4 m106) fun r116 m116 =>
      gd (wR x5) <|
      cl (fX7_becomes x7 7 (dvI x5 10) m116) fun r129 m129 =>
      gd (wR x5) <|
      cl (fX7_becomes x7 8 (rmI x5 10) m129) fun r142 m142 =>
      cl (fX7_becomes x7 9 x6 m142) fun r152 m152 =>
      gd (wR x6) <|
      if x6 = 0 then (
        fX7_makes_b170 x7 x7 15 1 m152)
      else (
        fX7_makes_b170 x7 x7 15 0 m152))
    else (
      cl (fX7_becomes x7 x8 0 m) fun r33 m33 =>
      (fX7_makes_b20 fuel) x1 x2 x3 x4 x5 x6 x7 (x8 + 1) m33 )
noncomputable def fX7_makes (x1 : Int) (x2 : Int) (x3 : Int) (x4 : Int) (x5 : Int) (x6 : Int) (m : mR) : Option (Int × mR) :=
  cr (fX7_of 2 m) fun r2 =>
  bnd (mS m 0 2 ((m.1 0 2) + 1)) fun m16 =>
  fX7_makes_b20 fuel0 x1 x2 x3 x4 x5 x6 r2 0 m16
noncomputable def fX7_doesNewOrder_b28 (m : mR) : Option (Int × mR) :=
  cr (fX7_today m) fun r71 =>
  cr (fX7_checksOrder ((9 * (m.1 6 14)) + (m.1 6 15)) (m.1 6 16) (((10000 * (m.1 6 17)) + (100 * (m.1 6 18))) + (m.1 6 19)) r71 ((10 * (m.1 6 20)) + 5) 0 m) fun r84 =>
  gd (wR r84) <|
  if r84 = 0 then (
    cr (fX7_today m) fun r104 =>
    cl (fX7_makes ((9 * (m.1 6 14)) + (m.1 6 15)) (m.1 6 16) (((10000 * (m.1 6 17)) + (100 * (m.1 6 18))) + (m.1 6 19)) r104 ((10 * (m.1 6 20)) + 5) 0 m) fun r117 m117 =>
    some (r117, m117))
  else (
    some (r84, m))
noncomputable def fX7_doesNewOrder_b18 (m : mR) : Option (Int × mR) :=
  bnd (mS m 6 18 0) fun m20 =>
  bnd (mS m20 6 19 0) fun m25 =>
  fX7_doesNewOrder_b28  m25
noncomputable def fX7_doesNewOrder (m : mR) : Option (Int × mR) :=
  gd (wR (m.1 6 18)) <|
  if 99 < (m.1 6 18) then (
    fX7_doesNewOrder_b18  m)
  else (
    gd (wR (m.1 6 19)) <|
    if (m.1 6 19) ≤ 99 then (
      fX7_doesNewOrder_b28  m)
    else (
      fX7_doesNewOrder_b18  m))
noncomputable def fX7_goesOn (x1 : Int) (m : mR) : Option (Int × mR) :=
  cl (fX7_becomes x1 10 0 m) fun r5 m5 =>
  cl (fX7_leavesOut x1 m5) fun r10 m10 =>
  some (r10, m10)
noncomputable def fX7_stops (x1 : Int) (m : mR) : Option (Int × mR) :=
  cl (fX7_becomes x1 10 1 m) fun r5 m5 =>
  cr (fX7_waitsOf x1 m5) fun r10 =>
  some (r10, m5)
noncomputable def fX7_does (m : mR) : Option (Int × mR) :=
  gd (wR (m.1 6 13)) <|
  if (m.1 6 13) = 0 then (
    cl (fX7_doesNewOrder m) fun r37 m37 =>
    some (r37, m37))
  else if (m.1 6 13) = 1 then (
    cr (fX7_checksDeposit (m.1 6 14) (m.1 6 16) m) fun r50 =>
    gd (wR r50) <|
    if r50 = 0 then (
      cl (fX7_deposits (m.1 6 14) (m.1 6 16) m) fun r71 m71 =>
      some (r71, m71))
    else (
      some (r50, m)))
  else if (m.1 6 13) = 2 then (
    cr (fX7_checksState (m.1 6 16) 0 m) fun r81 =>
    gd (wR r81) <|
    if r81 = 0 then (
      cl (fX7_stops (m.1 6 16) m) fun r98 m98 =>
      some (r98, m98))
    else (
      some (r81, m)))
  else if (m.1 6 13) = 3 then (
    cr (fX7_checksState (m.1 6 16) 1 m) fun r108 =>
    gd (wR r108) <|
    if r108 = 0 then (
      cl (fX7_goesOn (m.1 6 16) m) fun r125 m125 =>
      some (r125, m125))
    else (
      some (r108, m)))
  else (
    cr (fX7_checksDays (m.1 6 16) m) fun r134 =>
    gd (wR r134) <|
    if r134 = 0 then (
      cl (fX7_passesDays (m.1 6 16) m) fun r151 m151 =>
      some (r151, m151))
    else (
      some (r134, m)))
noncomputable def fX7_passes (x1 : Int) (x2 : Int) (m : mR) : Option (Int × mR) :=
  gd (wR (m.1 6 11) ∧ wR (m.1 6 10)) <|
  if (m.1 6 11) = (m.1 6 10) then (
    some (0, m))
  else (
    gd (0 ≤ (m.1 6 11) ∧ (m.1 6 11) < 80) <|
    gd (wR (m.1 5 (m.1 6 11))) <|
    gd (wR x1) <|
    gd (wR x2) <|
    cr (fX7_isIn (m.1 5 (m.1 6 11)) x1 x2) fun r25 =>
    gd (wR r25) <|
    if r25 = 0 then (
      some (0, m))
    else (
      gd (0 ≤ (m.1 6 11) ∧ (m.1 6 11) < 80) <|
      bnd (mS m 6 12 ((m.1 5 (m.1 6 11)) - 48)) fun m46 =>
      bnd (mS m46 6 11 ((m46.1 6 11) + 1)) fun m56 =>
      some (1, m56)))
noncomputable def fX7_isDigitHere (m : mR) : Option Int :=
  gd (wR (m.1 6 11) ∧ wR (m.1 6 10)) <|
  if (m.1 6 10) ≤ (m.1 6 11) then (
    some 0)
  else (
    gd (0 ≤ (m.1 6 11) ∧ (m.1 6 11) < 80) <|
    gd (wR (m.1 5 (m.1 6 11))) <|
    cr (fX7_isIn (m.1 5 (m.1 6 11)) 48 57) fun r27 =>
    gd (wR r27) <|
    if r27 = 0 then (
      some 0)
    else (
      some 1))
noncomputable def fX7_passesNumber_b71 (x1 : Int) (m : mR) : Option (Int × mR) :=
  bnd (mS m 6 12 x1) fun m73 =>
  some (1, m73)
noncomputable def fX7_passesNumber_b18 : Nat → Int → mR → Option (Int × mR)
  | 0, _, _ => none
  | fuel + 1, x1, m =>
    gd (wR x1) <|
    if x1 ≤ 0 then (
      fX7_passesNumber_b71 x1 m)
    else (
      cr (fX7_isDigitHere m) fun r23 =>
      gd (wR r23) <|
      if r23 = 0 then (
        fX7_passesNumber_b71 x1 m)
      else (
        gd (0 ≤ (m.1 6 11) ∧ (m.1 6 11) < 80) <|
        gd (wR (((10 * x1) + (m.1 5 (m.1 6 11))) - 48)) <|
        if (((10 * x1) + (m.1 5 (m.1 6 11))) - 48) ≤ 99999 then (
          bnd (mS m 6 11 ((m.1 6 11) + 1)) fun m65 =>
          (fX7_passesNumber_b18 fuel) (((10 * x1) + (m.1 5 (m.1 6 11))) - 48) m65 )
        else (
          some (0, m))))
noncomputable def fX7_passesNumber (m : mR) : Option (Int × mR) :=
  cl (fX7_passes 48 57 m) fun r5 m5 =>
  gd (wR r5) <|
  if r5 = 0 then (
    some (0, m5))
  else (
    fX7_passesNumber_b18 fuel0 (m5.1 6 12) m5)
noncomputable def fX7_passesDeposit (m : mR) : Option (Int × mR) :=
  cl (fX7_passes 48 55 m) fun r5 m5 =>
  gd (wR r5) <|
  if r5 = 0 then (
    some (0, m5))
  else (
    bnd (mS m5 6 14 (m5.1 6 12)) fun m18 =>
    cl (fX7_passes 43 43 m18) fun r26 m26 =>
    gd (wR r26) <|
    if r26 = 0 then (
      some (0, m26))
    else (
      cl (fX7_passesNumber m26) fun r33 m33 =>
      gd (wR r33) <|
      if r33 = 0 then (
        some (0, m33))
      else (
        bnd (mS m33 6 16 (m33.1 6 12)) fun m46 =>
        some (1, m46))))
noncomputable def fX7_passesOne (x1 : Int) (x2 : Int) (x3 : Int) (x4 : Int) (m : mR) : Option (Int × mR) :=
  cl (fX7_passes x1 x1 m) fun r3 m3 =>
  gd (wR r3) <|
  if r3 = 0 then (
    cl (fX7_passes x2 x2 m3) fun r14 m14 =>
    gd (wR r14) <|
    if r14 = 0 then (
      cl (fX7_passes x3 x3 m14) fun r25 m25 =>
      gd (wR r25) <|
      if r25 = 0 then (
        cl (fX7_passes x4 x4 m25) fun r38 m38 =>
        gd (wR r38) <|
        if r38 = 0 then (
          some ((-6), m38))
        else (
          some (3, m38)))
      else (
        some (2, m25)))
    else (
      some (1, m14)))
  else (
    some (0, m3))
noncomputable def fX7_passesParties_b72 (m : mR) : Option (Int × mR) :=
  cl (fX7_passes 42 42 m) fun r77 m77 =>
  gd (r77 = 0 ∨ r77 = 1) <|
  some (r77, m77)
noncomputable def fX7_passesParties (m : mR) : Option (Int × mR) :=
  cl (fX7_passes 48 55 m) fun r5 m5 =>
  gd (wR r5) <|
  if r5 = 0 then (
    some (0, m5))
  else (
    bnd (mS m5 6 14 (m5.1 6 12)) fun m18 =>
    cl (fX7_passes 62 62 m18) fun r26 m26 =>
    gd (wR r26) <|
    if r26 = 0 then (
      some (0, m26))
    else (
      bnd (mS m26 6 15 8) fun m37 =>
      cl (fX7_passes 45 45 m37) fun r45 m45 =>
      gd (wR r45) <|
      if r45 = 0 then (
        cl (fX7_passes 48 55 m45) fun r56 m56 =>
        gd (wR r56) <|
        if r56 = 0 then (
          some (0, m56))
        else (
          bnd (mS m56 6 15 (m56.1 6 12)) fun m69 =>
          fX7_passesParties_b72  m69))
      else (
        fX7_passesParties_b72  m45)))
noncomputable def fX7_passesRule_b41 (m : mR) : Option (Int × mR) :=
  gd (wR (m.1 6 20)) <|
  if (m.1 6 20) = (-6) then (
    some (0, m))
  else (
    some (1, m))
noncomputable def fX7_passesRule (m : mR) : Option (Int × mR) :=
  cl (fX7_passesOne 46 102 98 120 m) fun r10 m10 =>
  bnd (mS m10 6 20 r10) fun m13 =>
  gd (wR (m13.1 6 20)) <|
  if (m13.1 6 20) = (-6) then (
    cl (fX7_passes 33 33 m13) fun r30 m30 =>
    gd (wR r30) <|
    if r30 = 0 then (
      fX7_passesRule_b41  m30)
    else (
      bnd (mS m30 6 20 4) fun m38 =>
      fX7_passesRule_b41  m38))
  else (
    fX7_passesRule_b41  m13)
noncomputable def fX7_passesNewOrder_b99 (m : mR) : Option (Int × mR) :=
  cl (fX7_passesRule m) fun r100 m100 =>
  gd (r100 = 0 ∨ r100 = 1) <|
  some (r100, m100)
noncomputable def fX7_passesNewOrder (m : mR) : Option (Int × mR) :=
  cl (fX7_passesParties m) fun r1 m1 =>
  gd (wR r1) <|
  if r1 = 0 then (
    some (0, m1))
  else (
    cl (fX7_passesNumber m1) fun r8 m8 =>
    gd (wR r8) <|
    if r8 = 0 then (
      some (0, m8))
    else (
      bnd (mS m8 6 16 (m8.1 6 12)) fun m21 =>
      cl (fX7_passesOne 100 119 109 101 m21) fun r34 m34 =>
      bnd (mS m34 6 17 r34) fun m37 =>
      gd (wR (m37.1 6 17)) <|
      if (m37.1 6 17) = (-6) then (
        some (0, m37))
      else (
        cl (fX7_passesNumber m37) fun r50 m50 =>
        gd (wR r50) <|
        if r50 = 0 then (
          some (0, m50))
        else (
          bnd (mS m50 6 18 (m50.1 6 12)) fun m63 =>
          bnd (mS m63 6 19 1) fun m68 =>
          cl (fX7_passes 47 47 m68) fun r76 m76 =>
          gd (wR r76) <|
          if r76 = 0 then (
            fX7_passesNewOrder_b99  m76)
          else (
            cl (fX7_passesNumber m76) fun r83 m83 =>
            gd (wR r83) <|
            if r83 = 0 then (
              some (0, m83))
            else (
              bnd (mS m83 6 19 (m83.1 6 12)) fun m96 =>
              fX7_passesNewOrder_b99  m96))))))
noncomputable def fX7_passesAct (m : mR) : Option (Int × mR) :=
  cl (fX7_passes 112 112 m) fun r5 m5 =>
  gd (wR r5) <|
  if r5 = 0 then (
    cl (fX7_passes 100 100 m5) fun r26 m26 =>
    gd (wR r26) <|
    if r26 = 0 then (
      cl (fX7_passesOne 115 103 110 110 m26) fun r51 m51 =>
      gd (wR r51) <|
      if r51 = (-6) then (
        some (0, m51))
      else (
        cl (fX7_passesNumber m51) fun r62 m62 =>
        gd (wR r62) <|
        if r62 = 0 then (
          some (0, m62))
        else (
          bnd (mS m62 6 13 (2 + r51)) fun m74 =>
          bnd (mS m74 6 16 (m74.1 6 12)) fun m82 =>
          some (1, m82))))
    else (
      bnd (mS m26 6 13 1) fun m34 =>
      cl (fX7_passesDeposit m34) fun r38 m38 =>
      gd (r38 = 0 ∨ r38 = 1) <|
      some (r38, m38)))
  else (
    bnd (mS m5 6 13 0) fun m13 =>
    cl (fX7_passesNewOrder m13) fun r17 m17 =>
    gd (r17 = 0 ∨ r17 = 1) <|
    some (r17, m17))
noncomputable def fX7_fault_b17 : Nat → mR → Option (Int × mR)
  | 0, _ => none
  | fuel + 1, m =>
    gd (wR (m.1 6 11) ∧ wR (m.1 6 10)) <|
    if (m.1 6 10) ≤ (m.1 6 11) then (
      some ((-6), m))
    else (
      cl (fX7_passes 59 59 m) fun r33 m33 =>
      gd (wR r33) <|
      if r33 = 0 then (
        some ((m33.1 6 11), m33))
      else (
        cl (fX7_passesAct m33) fun r40 m40 =>
        gd (wR r40) <|
        if r40 = 0 then (
          some ((m40.1 6 11), m40))
        else (
          (fX7_fault_b17 fuel)  m40 )))
noncomputable def fX7_fault (m : mR) : Option (Int × mR) :=
  bnd (mS m 6 11 0) fun m2 =>
  cl (fX7_passesAct m2) fun r6 m6 =>
  gd (wR r6) <|
  if r6 = 0 then (
    some ((m6.1 6 11), m6))
  else (
    fX7_fault_b17 fuel0  m6)
noncomputable def fX7_carryOut_b81 (rec25 : Int → Int → mR → Option (Int × mR)) (x1 : Int) (t0 : Int) (m : mR) : Option (Int × mR) :=
  bnd (mS m 6 11 ((m.1 6 11) + 1)) fun m89 =>
  rec25 x1 t0 m89 
noncomputable def fX7_carryOut_b59 (rec25 : Int → Int → mR → Option (Int × mR)) (x2 : Int) (t0 : Int) (t1 : Int) (m : mR) : Option (Int × mR) :=
  gd (wR x2) <|
  if x2 = 0 then (
    fX7_carryOut_b81 rec25 (t0 + t1) 0 m)
  else (
    gd (wR (m.1 6 11) ∧ wR (m.1 6 10)) <|
    if (m.1 6 10) ≤ (m.1 6 11) then (
      fX7_carryOut_b81 rec25 (t0 + t1) 0 m)
    else (
      fX7_carryOut_b81 rec25 (t0 + t1) 1 m))
noncomputable def fX7_carryOut_b48 (rec25 : Int → Int → mR → Option (Int × mR)) (x1 : Int) (t0 : Int) (m : mR) : Option (Int × mR) :=
  gd (wR t0) <|
  if t0 = 0 then (
    fX7_carryOut_b59 rec25 t0 x1 0 m)
  else (
    fX7_carryOut_b59 rec25 t0 x1 1 m)
noncomputable def fX7_carryOut_b25 : Nat → Int → Int → mR → Option (Int × mR)
  | 0, _, _, _ => none
  | fuel + 1, x1, x2, m =>
    gd (wR x2) <|
    if x2 = 0 then (
      bnd (mS m 6 10 0) fun m97 =>
      some (x1, m97))
    else (
      cl (fX7_passesAct m) fun r30 m30 =>
      gd (wR r30) <|
      if r30 = 0 then (
        fX7_carryOut_b48 (fX7_carryOut_b25 fuel) x1 0 m30)
      else (
        cl (fX7_does m30) fun r37 m37 =>
        gd (wR r37) <|
        if r37 < 0 then (
          fX7_carryOut_b48 (fX7_carryOut_b25 fuel) x1 0 m37)
        else (
          fX7_carryOut_b48 (fX7_carryOut_b25 fuel) x1 1 m37)))
noncomputable def fX7_carryOut (m : mR) : Option (Int × mR) :=
  cl (fX7_fault m) fun r1 m1 =>
  gd (wR r1) <|
  if r1 = (-6) then (
    cl (fX7_records m1) fun r13 m13 =>
    bnd (mS m13 6 11 0) fun m22 =>
    fX7_carryOut_b25 fuel0 0 1 m22)
  else (
    some ((-3), m1))
noncomputable def fX7_change (x1 : Int) (x2 : Int) (x3 : Int) (m : mR) : Option (Int × mR) :=
  cr (fX7_isOrder x1 m) fun r2 =>
  gd (wR r2) <|
  if r2 = 0 then (
    some ((-1), m))
  else (
    gd (wR x2) <|
    cr (fX7_isIn x2 1 1000000) fun r16 =>
    gd (wR r16) <|
    if r16 = 0 then (
      some ((-2), m))
    else (
      gd (wR x3) <|
      cr (fX7_isIn x3 0 9) fun r28 =>
      gd (wR r28) <|
      if r28 = 0 then (
        some ((-2), m))
      else (
        cr (fX7_ofO x1 10 m) fun r41 =>
        gd (wR r41) <|
        if r41 = 2 then (
          some ((-5), m))
        else (
          cl (fX7_records m) fun r52 m52 =>
          cr (fX7_ofO x1 2 m52) fun r58 =>
          cl (fX7_becomes x1 2 x2 m52) fun r67 m67 =>
          cl (fX7_becomes x1 8 x3 m67) fun r75 m75 =>
          some (r58, m75)))))
noncomputable def fX7_count (x1 : Int) (m : mR) : Option Int :=
  gd (wR x1) <|
  cr (fX7_isIn x1 0 8) fun r6 =>
  gd (wR r6) <|
  if r6 = 0 then (
    gd (wR x1) <|
    cr (fX7_isIn x1 11 14) fun r26 =>
    gd (wR r26) <|
    if r26 = 0 then (
      gd (wR x1) <|
      if x1 = 9 then (
        some (m.1 6 10))
      else (
        gd (wR x1) <|
        if x1 = 10 then (
          some (m.1 6 7))
        else (
          some (-2))))
    else (
      cr (fX7_of ((9 + x1) - 11) m) fun r40 =>
      some r40))
  else (
    cr (fX7_of x1 m) fun r14 =>
    some r14)
noncomputable def fX7_dateOf_b103 (m : mR) (x1 : Int) (x3 : Int) : Option Int :=
  gd (wR x3) <|
  if x3 = (-6) then (
    some (-6))
  else (
    cr (fX7_dateBy x1 x3 m) fun r117 =>
    some r117)
noncomputable def fX7_dateOf_b76 (m : mR) : Nat → Int → Int → Int → Int → Option Int
  | 0, _, _, _, _ => none
  | fuel + 1, x1, x2, x3, x4 =>
    gd (wR x4 ∧ wR x2) <|
    if x2 ≤ x4 then (
      fX7_dateOf_b103 m x1 x3)
    else (
      gd (wR x3) <|
      if x3 = (-6) then (
        fX7_dateOf_b103 m x1 x3)
      else (
        cr (fX7_occurrence x1 (x3 + 1) m) fun r93 =>
        (fX7_dateOf_b76 m fuel) x1 x2 r93 (x4 + 1) ))
noncomputable def fX7_dateOf_b60 (m : mR) (x1 : Int) (x2 : Int) : Option Int :=
  cr (fX7_ofO x1 14 m) fun r66 =>
  cr (fX7_occurrence x1 r66 m) fun r69 =>
  fX7_dateOf_b76 m fuel0 x1 x2 r69 0
noncomputable def fX7_dateOf (x1 : Int) (x2 : Int) (m : mR) : Option Int :=
  cr (fX7_isOrder x1 m) fun r2 =>
  gd (wR r2) <|
  if r2 = 0 then (
    some (-1))
  else (
    gd (wR x2) <|
    cr (fX7_isIn x2 0 99) fun r16 =>
    gd (wR r16) <|
    if r16 = 0 then (
      some (-2))
    else (
      cr (fX7_ofO x1 10 m) fun r29 =>
      gd (wR r29) <|
      if r29 = 2 then (
        some (-6))
      else (
        cr (fX7_ofO x1 15 m) fun r40 =>
        gd (wR r40) <|
        if r40 = 0 then (
          cr (fX7_ofO x1 9 m) fun r51 =>
          gd (wR x2 ∧ wR r51) <|
          if x2 < r51 then (
            fX7_dateOf_b60 m x1 x2)
          else (
            some (-6)))
        else (
          fX7_dateOf_b60 m x1 x2))))
noncomputable def fX7_days (x1 : Int) (m : mR) : Option (Int × mR) :=
  cr (fX7_checksDays x1 m) fun r2 =>
  gd (wR r2) <|
  if r2 = 0 then (
    cl (fX7_records m) fun r13 m13 =>
    cl (fX7_passesDays x1 m13) fun r18 m18 =>
    some (r18, m18))
  else (
    some (r2, m))
noncomputable def fX7_deposit (x1 : Int) (x2 : Int) (m : mR) : Option (Int × mR) :=
  cr (fX7_checksDeposit x1 x2 m) fun r3 =>
  gd (wR r3) <|
  if r3 = 0 then (
    cl (fX7_records m) fun r14 m14 =>
    cl (fX7_deposits x1 x2 m14) fun r20 m20 =>
    some (r20, m20))
  else (
    some (r3, m))
noncomputable def fX7_failsIn_b2 : Nat → Int → Int → Int → mR → Option (Int × mR)
  | 0, _, _, _, _ => none
  | fuel + 1, x1, x2, x3, m =>
    gd (wR x3 ∧ wR x2) <|
    if x2 ≤ x3 then (
      some ((-6), m))
    else (
      cr (fX7_today m) fun r8 =>
      gd (wR r8) <|
      if 1094 ≤ r8 then (
        some ((-6), m))
      else (
        cr (fX7_today m) fun r18 =>
        cl (fX7_passesDay m) fun r24 m24 =>
        gd (wR (andI (m24.1 6 8) x1)) <|
        if (andI (m24.1 6 8) x1) = 0 then (
          (fX7_failsIn_b2 fuel) x1 x2 (x3 + 1) m24 )
        else (
          some (r18, m24))))
noncomputable def fX7_failsIn (x1 : Int) (x2 : Int) (m : mR) : Option (Int × mR) :=
  fX7_failsIn_b2 fuel0 x1 x2 0 m
noncomputable def fX7_feed_b29 (x1 : Int) (x2 : Int) (m : mR) : Option (Int × mR) :=
  cl (fX7_records m) fun r30 m30 =>
  cr (fX7_ofA x1 2 m30) fun r36 =>
  gd (wR x2) <|
  gd ((0 ≤ ((33 + (11 * x1)) + 2) ∧ ((33 + (11 * x1)) + 2) < 377)) <|
  bnd (mS m30 0 ((33 + (11 * x1)) + 2) x2) fun m55 =>
  some (r36, m55)
noncomputable def fX7_feed (x1 : Int) (x2 : Int) (m : mR) : Option (Int × mR) :=
  cr (fX7_isAccount x1 m) fun r2 =>
  gd (wR r2) <|
  if r2 = 0 then (
    some ((-1), m))
  else (
    gd (wR x2) <|
    if x2 = (-6) then (
      fX7_feed_b29 x1 x2 m)
    else (
      cr (fX7_isAccount x2 m) fun r16 =>
      gd (wR r16) <|
      if r16 = 0 then (
        some ((-1), m))
      else (
        gd (wR x2 ∧ wR x1) <|
        if x2 = x1 then (
          some ((-1), m))
        else (
          fX7_feed_b29 x1 x2 m))))
noncomputable def fX7_firstFailure_b38 (t1 : Int) (m : mR) : Option (Int × mR) :=
  cl (fX7_failsIn t1 400 m) fun r41 m41 =>
  cl (fX7_brings 8 m41) fun r48 m48 =>
  some (r41, m48)
noncomputable def fX7_firstFailure_b16 (x1 : Int) (m : mR) : Option (Int × mR) :=
  cl (fX7_keeps 8 m) fun r19 m19 =>
  gd (wR x1) <|
  if x1 = (-6) then (
    fX7_firstFailure_b38 255 m19)
  else (
    fX7_firstFailure_b38 (shlI 1 x1) m19)
noncomputable def fX7_firstFailure (x1 : Int) (m : mR) : Option (Int × mR) :=
  gd (wR x1) <|
  if x1 = (-6) then (
    fX7_firstFailure_b16 x1 m)
  else (
    cr (fX7_isAccount x1 m) fun r8 =>
    gd (wR r8) <|
    if r8 = 0 then (
      some ((-1), m))
    else (
      fX7_firstFailure_b16 x1 m))
noncomputable def fX7_giveUp (x1 : Int) (m : mR) : Option (Int × mR) :=
  gd (wR x1) <|
  cr (fX7_isIn x1 0 ((m.1 0 4) - 1)) fun r11 =>
  gd (wR r11) <|
  if r11 = 0 then (
    some ((-1), m))
  else (
    cl (fX7_records m) fun r20 m20 =>
    cl (fX7_misses x1 m20) fun r25 m25 =>
    cr (fX7_of 4 m25) fun r30 =>
    some (r30, m25))
noncomputable def fX7_goOn (x1 : Int) (m : mR) : Option (Int × mR) :=
  cr (fX7_checksState x1 1 m) fun r3 =>
  gd (wR r3) <|
  if r3 = 0 then (
    cl (fX7_records m) fun r14 m14 =>
    cl (fX7_goesOn x1 m14) fun r19 m19 =>
    some (r19, m19))
  else (
    some (r3, m))
noncomputable def fX7_isDay (x0 : Int) : Option Int :=
  gd (wR x0) <|
  cr (fX7_isIn x0 0 1094) fun r6 =>
  gd (r6 = 0 ∨ r6 = 1) <|
  some r6
noncomputable def fX7_holiday_b184 (m : mR) : Option (Int × mR) :=
  cr (fX7_of 3 m) fun r186 =>
  some (r186, m)
noncomputable def fX7_holiday_b113 : Nat → Int → Int → mR → Option (Int × mR)
  | 0, _, _, _ => none
  | fuel + 1, x1, x4, m =>
    gd (wR x4) <|
    gd (wR64 x4 ∧ wR64 (m.1 0 3)) <|
    if (m.1 0 3) ≤ x4 then (
      fX7_holiday_b184  m)
    else (
      gd (0 ≤ (13 + x4) ∧ (13 + x4) < 377) <|
      gd (wR x1) <|
      gd (wR64 (m.1 0 (13 + x4)) ∧ wR64 x1) <|
      if (m.1 0 (13 + x4)) = x1 then (
        cr (fX7_of 3 m) fun r159 =>
        gd (0 ≤ (13 + r159) ∧ (13 + r159) < 377) <|
        gd ((0 ≤ (13 + x4) ∧ (13 + x4) < 377)) <|
        bnd (mS m 0 (13 + x4) (m.1 0 (13 + r159))) fun m177 =>
        (fX7_holiday_b113 fuel) x1 (x4 + 1) m177 )
      else (
        gd (0 ≤ (13 + x4) ∧ (13 + x4) < 377) <|
        gd ((0 ≤ (13 + x4) ∧ (13 + x4) < 377)) <|
        bnd (mS m 0 (13 + x4) (m.1 0 (13 + x4))) fun m177 =>
        (fX7_holiday_b113 fuel) x1 (x4 + 1) m177 ))
noncomputable def fX7_holiday_b92 (x1 : Int) (x2 : Int) (x3 : Int) (m : mR) : Option (Int × mR) :=
  gd (wR x2) <|
  if x2 = 0 then (
    gd (wR x3) <|
    if x3 = 0 then (
      fX7_holiday_b184  m)
    else (
      bnd (mS m 0 3 ((m.1 0 3) - 1)) fun m109 =>
      fX7_holiday_b113 fuel0 x1 0 m109))
  else (
    fX7_holiday_b184  m)
noncomputable def fX7_holiday_b51 (x1 : Int) (x2 : Int) (x3 : Int) (m : mR) : Option (Int × mR) :=
  cl (fX7_records m) fun r52 m52 =>
  gd (wR x2) <|
  if x2 = 1 then (
    gd (wR x3) <|
    if x3 = 0 then (
      cr (fX7_of 3 m52) fun r72 =>
      gd (wR x1) <|
      gd ((0 ≤ (13 + r72) ∧ (13 + r72) < 377)) <|
      bnd (mS m52 0 (13 + r72) x1) fun m78 =>
      bnd (mS m78 0 3 ((m78.1 0 3) + 1)) fun m88 =>
      fX7_holiday_b184  m88)
    else (
      fX7_holiday_b92 x1 x2 x3 m52))
  else (
    fX7_holiday_b92 x1 x2 x3 m52)
noncomputable def fX7_holiday (x1 : Int) (x2 : Int) (m : mR) : Option (Int × mR) :=
  cr (fX7_isDay x1) fun r1 =>
  gd (wR r1) <|
  if r1 = 0 then (
    some ((-2), m))
  else (
    gd (wR x2) <|
    cr (fX7_isIn x2 0 1) fun r11 =>
    gd (wR r11) <|
    if r11 = 0 then (
      some ((-2), m))
    else (
      cr (fX7_isHoliday x1 m) fun r22 =>
      gd (wR x2) <|
      if x2 = 1 then (
        gd (wR r22) <|
        if r22 = 0 then (
          gd (wR64 (m.1 0 3)) <|
          if (m.1 0 3) = 20 then (
            some ((-4), m))
          else (
            fX7_holiday_b51 x1 x2 r22 m))
        else (
          fX7_holiday_b51 x1 x2 r22 m))
      else (
        fX7_holiday_b51 x1 x2 r22 m)))
noncomputable def fX7_isSetting (x1 : Int) (x2 : Int) (m : mR) : Option Int :=
  gd (wR x1) <|
  if x1 = 0 then (
    gd (wR x2) <|
    cr (fX7_isIn x2 1 9) fun r34 =>
    gd (r34 = 0 ∨ r34 = 1) <|
    some r34)
  else if x1 = 1 then (
    gd (wR x2) <|
    cr (fX7_isIn x2 0 10000) fun r44 =>
    gd (r44 = 0 ∨ r44 = 1) <|
    some r44)
  else if x1 = 2 then (
    gd (wR x2) <|
    cr (fX7_isIn x2 0 1000) fun r54 =>
    gd (r54 = 0 ∨ r54 = 1) <|
    some r54)
  else (
    gd (wR x1) <|
    if x1 = 3 then (
      gd (wR x2) <|
      cr (fX7_isIn x2 0 6) fun r69 =>
      gd (wR r69) <|
      if r69 = 0 then (
        some 0)
      else (
        some 1))
    else (
      some 0))
noncomputable def fX7_leastDeposit_b27 : Nat → Int → Int → Int → mR → Option (Int × mR)
  | 0, _, _, _, _ => none
  | fuel + 1, x1, x2, x3, m =>
    gd (wR x3) <|
    if 100000 < x3 then (
      some ((-6), m))
    else (
      cl (fX7_keeps 8 m) fun r37 m37 =>
      gd (wR x3) <|
      cl (fX7_moves x1 0 x3 m37) fun r45 m45 =>
      cl (fX7_failsIn (shlI 1 x1) x2 m45) fun r53 m53 =>
      cl (fX7_brings 8 m53) fun r61 m61 =>
      gd (wR r53) <|
      if r53 = (-6) then (
        some (x3, m61))
      else (
        (fX7_leastDeposit_b27 fuel) x1 x2 (x3 + 5000) m61 ))
noncomputable def fX7_leastDeposit (x1 : Int) (x2 : Int) (m : mR) : Option (Int × mR) :=
  cr (fX7_isAccount x1 m) fun r2 =>
  gd (wR r2) <|
  if r2 = 0 then (
    some ((-1), m))
  else (
    gd (wR x2) <|
    cr (fX7_isIn x2 1 100) fun r16 =>
    gd (wR r16) <|
    if r16 = 0 then (
      some ((-2), m))
    else (
      fX7_leastDeposit_b27 fuel0 x1 x2 0 m))
noncomputable def fX7_money (x1 : Int) (x2 : Int) (m : mR) : Option Int :=
  cr (fX7_isAccount x1 m) fun r2 =>
  gd (wR r2) <|
  if r2 = 0 then (
    some (-1))
  else (
    gd (wR x2) <|
    cr (fX7_isIn x2 0 8) fun r18 =>
    gd (wR r18) <|
    if r18 = 0 then (
      some (-2))
    else (
      gd (wR x2) <|
      if x2 = 8 then (
        cr (fX7_waitsFor x1 m) fun r36 =>
        some r36)
      else (
        cr (fX7_moneyOf x1 x2 m) fun r45 =>
        some r45)))
noncomputable def fX7_ofDay (x1 : Int) (x2 : Int) (m : mR) : Option Int :=
  cr (fX7_isDay x1) fun r1 =>
  gd (wR r1) <|
  if r1 = 0 then (
    some (-2))
  else (
    gd (wR x2) <|
    if x2 = 0 then (
      cr (fX7_weekdayOf x1 m) fun r50 =>
      some r50)
    else if x2 = 1 then (
      cr (fX7_monthOf x1) fun r55 =>
      some r55)
    else if x2 = 2 then (
      cr (fX7_monthOf x1) fun r61 =>
      cr (fX7_monthStart r61) fun r64 =>
      some ((x1 - r64) + 1))
    else if x2 = 3 then (
      cr (fX7_isBusiness x1 m) fun r73 =>
      gd (wR r73) <|
      if r73 = 0 then (
        some 0)
      else (
        some 1))
    else if x2 = 4 then (
      cr (fX7_nextBusiness x1 m) fun r87 =>
      some r87)
    else if x2 = 5 then (
      cr (fX7_lastBusiness x1 m) fun r93 =>
      some r93)
    else (
      some (-2)))
noncomputable def fX7_ofOrder_b106 (m : mR) (x1 : Int) (t0 : Int) : Option Int :=
  gd (wR t0) <|
  if t0 = (-6) then (
    some (-6))
  else (
    cr (fX7_nominal x1 t0 m) fun r121 =>
    some r121)
noncomputable def fX7_ofOrder (x1 : Int) (x2 : Int) (m : mR) : Option Int :=
  cr (fX7_isOrder x1 m) fun r2 =>
  gd (wR r2) <|
  if r2 = 0 then (
    some (-1))
  else (
    gd (wR x2) <|
    cr (fX7_isIn x2 0 15) fun r16 =>
    gd (wR r16) <|
    if r16 = 0 then (
      some (-2))
    else (
      gd (wR x2) <|
      if x2 = 1 then (
        cr (fX7_ofO x1 1 m) fun r33 =>
        gd (wR r33) <|
        if r33 = 8 then (
          some (-6))
        else (
          cr (fX7_ofO x1 1 m) fun r49 =>
          some r49))
      else (
        gd (wR x2) <|
        if x2 = 14 then (
          cr (fX7_waitsOf x1 m) fun r61 =>
          some r61)
        else (
          gd (wR x2) <|
          if 15 ≤ x2 then (
            cr (fX7_ofO x1 10 m) fun r82 =>
            gd (wR r82) <|
            if r82 = 2 then (
              fX7_ofOrder_b106 m x1 (-6))
            else (
              cr (fX7_ofO x1 14 m) fun r100 =>
              cr (fX7_occurrence x1 r100 m) fun r103 =>
              fX7_ofOrder_b106 m x1 r103))
          else (
            cr (fX7_ofO x1 x2 m) fun r74 =>
            some r74)))))
noncomputable def fX7_ofPayment (x1 : Int) (x2 : Int) (m : mR) : Option Int :=
  gd (wR x1) <|
  cr (fX7_isIn x1 0 ((m.1 0 4) - 1)) fun r11 =>
  gd (wR r11) <|
  if r11 = 0 then (
    some (-1))
  else (
    gd (wR x2) <|
    cr (fX7_isIn x2 0 4) fun r25 =>
    gd (wR r25) <|
    if r25 = 0 then (
      some (-2))
    else (
      cr (fX7_partOf x1 x2 m) fun r34 =>
      some r34))
noncomputable def fX7_order (x1 : Int) (x2 : Int) (x3 : Int) (x4 : Int) (x5 : Int) (x6 : Int) (m : mR) : Option (Int × mR) :=
  cr (fX7_checksOrder x1 x2 x3 x4 x5 x6 m) fun r10 =>
  gd (wR r10) <|
  if r10 = 0 then (
    cl (fX7_records m) fun r24 m24 =>
    cl (fX7_makes x1 x2 x3 x4 x5 x6 m24) fun r37 m37 =>
    some (r37, m37))
  else (
    some (r10, m))
noncomputable def fX7_owedBits (x1 : Int) (m : mR) : Option Int :=
  cr (fX7_isAccount x1 m) fun r2 =>
  gd (wR r2) <|
  if r2 = 0 then (
    some (-1))
  else (
    gd (0 ≤ x1 ∧ x1 < 8) <|
    cr (fX7_bitsOf (m.2 0 x1)) fun r14 =>
    some r14)
noncomputable def fX7_put_b103 : Nat → Int → Int → mR → Option (Int × mR)
  | 0, _, _, _ => none
  | fuel + 1, x1, x4, m =>
    gd (wR x4) <|
    if x4 < 0 then (
      some ((m.1 6 10), m))
    else (
      gd ((0 ≤ (m.1 6 10) ∧ (m.1 6 10) < 80)) <|
      bnd (mS m 5 (m.1 6 10) (landI (lshrI x1 (8 * x4)) 255)) fun m128 =>
      bnd (mS m128 6 10 ((m128.1 6 10) + 1)) fun m136 =>
      (fX7_put_b103 fuel) x1 (x4 + (-1)) m136 )
noncomputable def fX7_put_b84 (x1 : Int) (x3 : Int) (m : mR) : Option (Int × mR) :=
  gd (wR ((m.1 6 10) + x3)) <|
  if ((m.1 6 10) + x3) ≤ 80 then (
    fX7_put_b103 fuel0 x1 (x3 - 1) m)
  else (
    some ((-4), m))
noncomputable def fX7_put_b60 (x1 : Int) (x3 : Int) (m : mR) : Option (Int × mR) :=
  gd (wR x3) <|
  if x3 = 0 then (
    some ((-2), m))
  else (
    gd (wR x3) <|
    if 8 ≤ x3 then (
      fX7_put_b84 x1 x3 m)
    else (
      gd (wR64 (lshrI x1 (8 * x3))) <|
      if (lshrI x1 (8 * x3)) = 0 then (
        fX7_put_b84 x1 x3 m)
      else (
        some ((-2), m))))
noncomputable def fX7_put_b2 : Nat → Int → Int → mR → Option (Int × mR)
  | 0, _, _, _ => none
  | fuel + 1, x1, x3, m =>
    gd (wR x3) <|
    if 8 ≤ x3 then (
      fX7_put_b60 x1 x3 m)
    else (
      gd (wR64 (landI (lshrI x1 (8 * x3)) 255)) <|
      if (landI (lshrI x1 (8 * x3)) 255) = 0 then (
        fX7_put_b60 x1 x3 m)
      else (
        gd (wR (landI (lshrI x1 (8 * x3)) 255)) <|
        cr (fX7_isIn (landI (lshrI x1 (8 * x3)) 255) 33 126) fun r45 =>
        gd (wR r45) <|
        if r45 = 0 then (
          some ((-2), m))
        else (
          (fX7_put_b2 fuel) x1 (x3 + 1) m )))
noncomputable def fX7_put (x1 : Int) (m : mR) : Option (Int × mR) :=
  fX7_put_b2 fuel0 x1 0 m
noncomputable def fX7_restore (x1 : Int) (m : mR) : Option (Int × mR) :=
  gd (wR x1) <|
  cr (fX7_isIn x1 0 1) fun r4 =>
  gd (wR r4) <|
  if r4 = 0 then (
    some ((-2), m))
  else (
    gd (0 ≤ x1 ∧ x1 < 2) <|
    gd (wR (m.1 4 x1)) <|
    if (m.1 4 x1) = 0 then (
      some ((-5), m))
    else (
      cl (fX7_records m) fun r26 m26 =>
      cl (fX7_brings (6 + x1) m26) fun r34 m34 =>
      cr (fX7_today m34) fun r38 =>
      some (r38, m34)))
noncomputable def fX7_save (x1 : Int) (m : mR) : Option (Int × mR) :=
  gd (wR x1) <|
  cr (fX7_isIn x1 0 1) fun r4 =>
  gd (wR r4) <|
  if r4 = 0 then (
    some ((-2), m))
  else (
    cl (fX7_keeps (6 + x1) m) fun r18 m18 =>
    gd ((0 ≤ x1 ∧ x1 < 2)) <|
    bnd (mS m18 4 x1 1) fun m27 =>
    cr (fX7_today m27) fun r29 =>
    some (r29, m27))
noncomputable def fX7_set (x1 : Int) (x2 : Int) (m : mR) : Option (Int × mR) :=
  cr (fX7_isSetting x1 x2 m) fun r3 =>
  gd (wR r3) <|
  if r3 = 0 then (
    some ((-2), m))
  else (
    cl (fX7_records m) fun r13 m13 =>
    cr (fX7_of (9 + x1) m13) fun r21 =>
    gd (wR x2) <|
    gd ((0 ≤ (9 + x1) ∧ (9 + x1) < 377)) <|
    bnd (mS m13 0 (9 + x1) x2) fun m35 =>
    some (r21, m35))
noncomputable def fX7_shift (x1 : Int) (x2 : Int) (m : mR) : Option Int :=
  cr (fX7_isDay x1) fun r1 =>
  gd (wR r1) <|
  if r1 = 0 then (
    some (-2))
  else (
    gd (wR x2) <|
    cr (fX7_isIn x2 0 4) fun r13 =>
    gd (wR r13) <|
    if r13 = 0 then (
      some (-2))
    else (
      cr (fX7_shifted x1 x2 m) fun r22 =>
      some r22))
noncomputable def fX7_stop (x1 : Int) (m : mR) : Option (Int × mR) :=
  cr (fX7_checksState x1 0 m) fun r3 =>
  gd (wR r3) <|
  if r3 = 0 then (
    cl (fX7_records m) fun r14 m14 =>
    cl (fX7_stops x1 m14) fun r19 m19 =>
    some (r19, m19))
  else (
    some (r3, m))
noncomputable def fX7_undo (m : mR) : Option (Int × mR) :=
  gd (wR (m.1 6 7)) <|
  if (m.1 6 7) = 0 then (
    some ((-5), m))
  else (
    bnd (mS m 6 7 ((m.1 6 7) - 1)) fun m17 =>
    cl (fX7_brings (m17.1 6 7) m17) fun r25 m25 =>
    some ((m25.1 6 7), m25))
noncomputable def fX7_wipe (m : mR) : Option (Int × mR) :=
  bnd (mS m 6 10 0) fun m7 =>
  some ((m.1 6 10), m7)
end
section
/-! ===== the plain functions: what they come to ===== -/
def po {α : Type} (o : Option α) (Q : α → Prop) : Prop := ∃ y, o = some y ∧ Q y
theorem po.mono {α : Type} {o : Option α} {Q R : α → Prop} (h : po o Q) (k : ∀ y, Q y → R y) : po o R := by
  obtain ⟨y, h1, h2⟩ := h
  exact ⟨y, h1, k y h2⟩
theorem po_some {α : Type} {y : α} {Q : α → Prop} (h : Q y) : po (some y) Q := ⟨y, rfl, h⟩
theorem po_of {α : Type} {o : Option α} {y : α} {Q : α → Prop} (e : o = some y) (h : Q y) : po o Q := ⟨y, e, h⟩
theorem po_eq {α : Type} {o : Option α} {y : α} (h : po o (fun z => z = y)) : o = some y := by
  obtain ⟨z, h1, rfl⟩ := h
  exact h1
theorem po_gd {α : Type} {p : Prop} {Q : α → Prop} [Decidable p] {k : Option α} (h : p) (hk : po k Q) : po (gd p k) Q := by rw [gd_pos h]; exact hk
theorem po_bnd {α β : Type} {x : β} {k : β → Option α} {Q : α → Prop} (h : po (k x) Q) : po (bnd x k) Q := h
theorem po_ift {α : Type} {p : Prop} [Decidable p] {Q : α → Prop} {a b : Option α} (h : p) (hk : po a Q) : po (if p then a else b) Q := by rw [if_pos h]; exact hk
theorem po_iff {α : Type} {p : Prop} [Decidable p] {Q : α → Prop} {a b : Option α} (h : ¬ p) (hk : po b Q) : po (if p then a else b) Q := by rw [if_neg h]; exact hk
theorem po_if {α : Type} {p : Prop} [Decidable p] {Q : α → Prop} {a b : Option α} (ha : p → po a Q) (hb : ¬ p → po b Q) : po (if p then a else b) Q := by
  by_cases h : p
  · exact po_ift h (ha h)
  · exact po_iff h (hb h)
theorem po_cr {α β : Type} {o : Option β} {k : β → Option α} {R : β → Prop} {Q : α → Prop} (h : po o R) (hk : ∀ y, R y → po (k y) Q) : po (cr o k) Q := by
  obtain ⟨y, rfl, hy⟩ := h
  exact hk y hy
theorem po_cl {α β S : Type} {o : Option (β × S)} {k : β → S → Option α} {R : β × S → Prop} {Q : α → Prop} (h : po o R) (hk : ∀ y s, R (y, s) → po (k y s) Q) : po (cl o k) Q := by
  obtain ⟨⟨y, s⟩, rfl, hy⟩ := h
  exact hk y s hy
theorem po_cre {α β : Type} {o : Option β} {k : β → Option α} {v : β} {Q : α → Prop} (e : o = some v) (hk : po (k v) Q) : po (cr o k) Q := by rw [e]; exact hk
theorem po_cle {α β S : Type} {o : Option (β × S)} {k : β → S → Option α} {v : β} {s : S} {Q : α → Prop} (e : o = some (v, s)) (hk : po (k v s) Q) : po (cl o k) Q := by rw [e]; exact hk
theorem po_crs {α β : Type} {k : β → Option α} {v : β} {Q : α → Prop} (hk : po (k v) Q) : po (cr (some v) k) Q := hk
theorem po_cls {α β S : Type} {k : β → S → Option α} {v : β} {s : S} {Q : α → Prop} (hk : po (k v s) Q) : po (cl (some (v, s)) k) Q := hk
/-- 1 or 0 -/
def bI (b : Bool) : Int := if b then 1 else 0
theorem bI_t {b : Bool} (h : b = true) : bI b = 1 := by rw [h]; rfl
theorem bI_f {b : Bool} (h : b = false) : bI b = 0 := by rw [h]; rfl
theorem bI_rng (b : Bool) : 0 ≤ bI b ∧ bI b ≤ 1 := by cases b <;> decide
theorem hS_1 (H : hR) (t a b v t' a' b' : Int) : (hS H t a b v).1 t' a' b' = if t' = t ∧ a' = a ∧ b' = b then v else H.1 t' a' b' := rfl
theorem hS_2 (H : hR) (t a b v : Int) : (hS H t a b v).2 = H.2 := rfl
theorem hD_1 (H : hR) (i : Int) (v : UInt64) : (hD H i v).1 = H.1 := rfl
theorem hD_2 (H : hR) (i : Int) (v : UInt64) (j : Int) : (hD H i v).2 j = if j = i then v else H.2 j := rfl
theorem mS_1 (m : mR) (t a v t' a' : Int) : (mS m t a v).1 t' a' = if t' = t ∧ a' = a then v else m.1 t' a' := rfl
theorem mS_2 (m : mR) (t a v : Int) : (mS m t a v).2 = m.2 := rfl
theorem mD_1 (m : mR) (t a : Int) (v : UInt64) : (mD m t a v).1 = m.1 := rfl
theorem mD_2 (m : mR) (t a : Int) (v : UInt64) (t' a' : Int) : (mD m t a v).2 t' a' = if t' = t ∧ a' = a then v else m.2 t' a' := rfl
theorem hS_p (H : hR) (t a b v : Int) : (hS H t a b v).1 t a b = v := if_pos ⟨rfl, rfl, rfl⟩
theorem hS_n (H : hR) {t a b v t' a' b' : Int} (h : ¬ (t' = t ∧ a' = a ∧ b' = b)) : (hS H t a b v).1 t' a' b' = H.1 t' a' b' := if_neg h
theorem mS_p (m : mR) (t a v : Int) : (mS m t a v).1 t a = v := if_pos ⟨rfl, rfl⟩
theorem mS_n (m : mR) {t a v t' a' : Int} (h : ¬ (t' = t ∧ a' = a)) : (mS m t a v).1 t' a' = m.1 t' a' := if_neg h
/-! between -/
theorem ev_btT {v a b : Int} (h : wR v ∧ wR a ∧ wR b ∧ a ≤ v ∧ v ≤ b) : fX6_isBetween v a b = some 1 := by
  unfold fX6_isBetween
  rw [gd_pos (by omega), if_neg (by omega), gd_pos (by omega), if_neg (by omega)]
theorem ev_btF {v a b : Int} (h : wR v ∧ wR a ∧ wR b ∧ (v < a ∨ b < v)) : fX6_isBetween v a b = some 0 := by
  unfold fX6_isBetween
  rw [gd_pos (by omega)]
  by_cases h1 : v < a
  · rw [if_pos h1]
  · rw [if_neg h1, gd_pos (by omega), if_pos (by omega)]
theorem ev_bt {v a b : Int} (h : wR v ∧ wR a ∧ wR b) : fX6_isBetween v a b = some (bI (decide (a ≤ v ∧ v ≤ b))) := by
  by_cases g : a ≤ v ∧ v ≤ b
  · rw [ev_btT (by omega), bI_t (decide_eq_true g)]
  · rw [ev_btF (by omega), bI_f (decide_eq_false g)]
theorem ev_inT {v a b : Int} (h : wR64 v ∧ wR64 a ∧ wR64 b ∧ a ≤ v ∧ v ≤ b) : fX7_isIn v a b = some 1 := by
  unfold fX7_isIn
  rw [gd_pos (by omega), if_neg (by omega), gd_pos (by omega), if_neg (by omega)]
theorem ev_inF {v a b : Int} (h : wR64 v ∧ wR64 a ∧ wR64 b ∧ (v < a ∨ b < v)) : fX7_isIn v a b = some 0 := by
  unfold fX7_isIn
  rw [gd_pos (by omega)]
  by_cases h1 : v < a
  · rw [if_pos h1]
  · rw [if_neg h1, gd_pos (by omega), if_pos (by omega)]
theorem ev_in {v a b : Int} (h : wR64 v ∧ wR64 a ∧ wR64 b) : fX7_isIn v a b = some (bI (decide (a ≤ v ∧ v ≤ b))) := by
  by_cases g : a ≤ v ∧ v ≤ b
  · rw [ev_inT (by omega), bI_t (decide_eq_true g)]
  · rw [ev_inF (by omega), bI_f (decide_eq_false g)]
theorem ev_of {k : Int} {m : mR} (h : 0 ≤ k ∧ k < 377) : fX7_of k m = some (m.1 0 k) := by
  unfold fX7_of
  rw [gd_pos h]
theorem ev_today {m : mR} : fX7_today m = some (m.1 0 0) := by
  unfold fX7_today
  rw [ev_of (by decide), cr_some]
theorem ev_ofO {o w : Int} {m : mR} (h : 0 ≤ o ∧ o < 16 ∧ 0 ≤ w ∧ w < 16) : fX7_ofO o w m = some (m.1 0 (121 + 16 * o + w)) := by
  unfold fX7_ofO
  rw [ev_of (by omega), cr_some]
theorem ev_ofA {a w : Int} {m : mR} (h : 0 ≤ a ∧ a < 8 ∧ 0 ≤ w ∧ w < 11) : fX7_ofA a w m = some (m.1 0 (33 + 11 * a + w)) := by
  unfold fX7_ofA
  rw [ev_of (by omega), cr_some]
theorem ev_money {a w : Int} {m : mR} (h : 0 ≤ a ∧ a < 8 ∧ 0 ≤ w ∧ w < 8) : fX7_moneyOf a w m = some (m.1 0 (33 + 11 * a + 3 + w)) := by
  unfold fX7_moneyOf
  rw [gd_pos (by omega)]
theorem ev_hasA {a : Int} {H : hR} (h : wR a ∧ wR (H.1 0 4 0)) : fX2_hasAccount a H = some (bI (decide (0 ≤ a ∧ a < H.1 0 4 0))) := by
  refine po_eq ?_
  unfold fX2_hasAccount
  refine po_gd (by omega) (po_if (fun h1 => po_some ?_) (fun h1 => po_gd (by omega) (po_if (fun h2 => po_some ?_) (fun h2 => po_some ?_))))
  · rw [bI_f (decide_eq_false (by omega))]
  · rw [bI_f (decide_eq_false (by omega))]
  · rw [bI_t (decide_eq_true (by omega))]
theorem ev_hasO {a : Int} {H : hR} (h : wR a ∧ wR (H.1 0 5 0)) : fX2_hasOrder a H = some (bI (decide (0 ≤ a ∧ a < H.1 0 5 0))) := by
  refine po_eq ?_
  unfold fX2_hasOrder
  refine po_gd (by omega) (po_if (fun h1 => po_some ?_) (fun h1 => po_gd (by omega) (po_if (fun h2 => po_some ?_) (fun h2 => po_some ?_))))
  · rw [bI_f (decide_eq_false (by omega))]
  · rw [bI_f (decide_eq_false (by omega))]
  · rw [bI_t (decide_eq_true (by omega))]
theorem ev_isA {a : Int} {m : mR} (h : wR a ∧ wR (m.1 0 1)) : fX7_isAccount a m = some (bI (decide (0 ≤ a ∧ a < m.1 0 1))) := by
  refine po_eq ?_
  unfold fX7_isAccount
  by_cases g : 0 ≤ a ∧ a < m.1 0 1
  · refine po_gd (by omega) (po_cre (ev_inT (by omega)) (po_gd (by omega) (po_some ?_)))
    rw [bI_t (decide_eq_true g)]
  · refine po_gd (by omega) (po_cre (ev_inF (by omega)) (po_gd (by omega) (po_some ?_)))
    rw [bI_f (decide_eq_false g)]
theorem ev_isO {a : Int} {m : mR} (h : wR a ∧ wR (m.1 0 2)) : fX7_isOrder a m = some (bI (decide (0 ≤ a ∧ a < m.1 0 2))) := by
  refine po_eq ?_
  unfold fX7_isOrder
  by_cases g : 0 ≤ a ∧ a < m.1 0 2
  · refine po_gd (by omega) (po_cre (ev_inT (by omega)) (po_gd (by omega) (po_some ?_)))
    rw [bI_t (decide_eq_true g)]
  · refine po_gd (by omega) (po_cre (ev_inF (by omega)) (po_gd (by omega) (po_some ?_)))
    rw [bI_f (decide_eq_false g)]
end
section
/-! ===== the calendar: both sides come to the same plain functions ===== -/
theorem shrI6 {d : Int} (h : 0 ≤ d ∧ d ≤ 2047) : shrI d 6 = d / 64 := by
  have e : iI d >>> (iI 6 &&& 31) = iI (d / 64) := by
    obtain ⟨k, rfl⟩ := Int.eq_ofNat_of_zero_le h.1
    have hk : k < 2048 := by omega
    clear h
    revert k
    decide +kernel
  show (iI d >>> (iI 6 &&& 31)).toInt = _
  rw [e, iI_toInt (by omega)]
theorem andI63 {d : Int} (h : 0 ≤ d ∧ d ≤ 2047) : andI d 63 = d % 64 := by
  have e : iI d &&& iI 63 = iI (d % 64) := by
    obtain ⟨k, rfl⟩ := Int.eq_ofNat_of_zero_le h.1
    have hk : k < 2048 := by omega
    clear h
    revert k
    decide +kernel
  show (iI d &&& iI 63).toInt = _
  rw [e, iI_toInt (by omega)]
theorem toN {d n : Int} (h : 0 ≤ d ∧ d < n) : ∃ k : Nat, (k : Int) < n ∧ d = (k : Int) := by
  obtain ⟨k, rfl⟩ := Int.eq_ofNat_of_zero_le h.1
  exact ⟨k, h.2, rfl⟩
def mFirst (m : Int) : Int := m / 12 * 365 + sRow 2 (m % 12)
def mLast (m : Int) : Int := m / 12 * 365 + sRow 2 (m % 12 + 1) - 1
def mOf (d : Int) : Int := d / 365 * 12 + (if sRow 2 (d % 365 / 31 + 1) ≤ d % 365 then d % 365 / 31 + 1 else d % 365 / 31)
theorem cal_c1 : ∀ d : Nat, d < 1095 → fX1_monthOf d = some (mOf d) := by decide +kernel
theorem cal_c2 : ∀ m : Nat, m < 36 → fX1_firstDayOf m = some (mFirst m) ∧ fX1_lastDayOf m = some (mLast m) := by decide +kernel
theorem cal_m1 : ∀ m : Nat, m < 36 → fX7_monthLength m = some (mLast m - mFirst m + 1) ∧ fX7_monthStart m = some (mFirst m) := by decide +kernel
theorem cal_r1 : ∀ d : Nat, d < 1095 → mFirst (mOf d) ≤ d ∧ (d : Int) ≤ mLast (mOf d) ∧ 0 ≤ mOf d ∧ mOf d ≤ 35 ∧ (d : Int) / 365 * 12 ≤ mOf d := by decide +kernel
theorem cal_r2 : ∀ a : Nat, a < 36 → ∀ b : Nat, b < 36 → a < b → mLast a < mFirst b := by decide +kernel
theorem cal_r3 : ∀ m : Nat, m < 36 → 0 ≤ mFirst m ∧ mFirst m + 27 ≤ mLast m ∧ mLast m ≤ mFirst m + 30 ∧ mLast m ≤ 1094 := by decide +kernel
theorem mOf_in {d : Int} (h : 0 ≤ d ∧ d ≤ 1094) : mFirst (mOf d) ≤ d ∧ d ≤ mLast (mOf d) ∧ 0 ≤ mOf d ∧ mOf d ≤ 35 ∧ d / 365 * 12 ≤ mOf d := by
  obtain ⟨k, h1, rfl⟩ := toN (n := 1095) (d := d) (by omega)
  exact cal_r1 k (by omega)
theorem m_lt {a b : Int} (h : 0 ≤ a ∧ a < b ∧ b ≤ 35) : mLast a < mFirst b := by
  obtain ⟨k, h1, rfl⟩ := toN (n := 36) (d := a) (by omega)
  obtain ⟨j, h2, rfl⟩ := toN (n := 36) (d := b) (by omega)
  exact cal_r2 k (by omega) j (by omega) (by omega)
theorem m_rng {m : Int} (h : 0 ≤ m ∧ m ≤ 35) : 0 ≤ mFirst m ∧ mFirst m + 27 ≤ mLast m ∧ mLast m ≤ mFirst m + 30 ∧ mLast m ≤ 1094 := by
  obtain ⟨k, h1, rfl⟩ := toN (n := 36) (d := m) (by omega)
  exact cal_r3 k (by omega)
theorem mOf_eq {d m : Int} (h : 0 ≤ m ∧ m ≤ 35) (h1 : mFirst m ≤ d ∧ d ≤ mLast m) : mOf d = m := by
  have h2 := m_rng h
  have h3 := mOf_in (d := d) (by omega)
  by_cases h4 : mOf d < m
  · have := m_lt (a := mOf d) (b := m) (by omega)
    omega
  · by_cases h5 : m < mOf d
    · have := m_lt (a := m) (b := mOf d) (by omega)
      omega
    · omega
theorem ec_monthOf {d : Int} (h : 0 ≤ d ∧ d ≤ 1094) : fX1_monthOf d = some (mOf d) := by
  obtain ⟨k, h1, rfl⟩ := toN (n := 1095) (d := d) (by omega)
  exact cal_c1 k (by omega)
theorem ec_first {m : Int} (h : 0 ≤ m ∧ m ≤ 35) : fX1_firstDayOf m = some (mFirst m) := by
  obtain ⟨k, h1, rfl⟩ := toN (n := 36) (d := m) (by omega)
  exact (cal_c2 k (by omega)).1
theorem ec_last {m : Int} (h : 0 ≤ m ∧ m ≤ 35) : fX1_lastDayOf m = some (mLast m) := by
  obtain ⟨k, h1, rfl⟩ := toN (n := 36) (d := m) (by omega)
  exact (cal_c2 k (by omega)).2
theorem em_length {m : Int} (h : 0 ≤ m ∧ m ≤ 35) : fX7_monthLength m = some (mLast m - mFirst m + 1) := by
  obtain ⟨k, h1, rfl⟩ := toN (n := 36) (d := m) (by omega)
  exact (cal_m1 k (by omega)).1
theorem em_start {m : Int} (h : 0 ≤ m ∧ m ≤ 35) : fX7_monthStart m = some (mFirst m) := by
  obtain ⟨k, h1, rfl⟩ := toN (n := 36) (d := m) (by omega)
  exact (cal_m1 k (by omega)).2
theorem em_monthOf_b9 {d : Int} (h : 0 ≤ d ∧ d ≤ 1094) : ∀ (k fuel : Nat) (m : Int), m + k = mOf d → 0 ≤ m → k < fuel → fX7_monthOf_b9 fuel d m = some (mOf d)
  | k, 0, m, _, _, h3 => by omega
  | k, fuel + 1, m, h1, h2, h3 => by
    have hd := mOf_in h
    have hm := m_rng (m := m) (by omega)
    have he := mOf_in h
    unfold fX7_monthOf_b9
    rw [em_start (by omega), cr_some, em_length (by omega), cr_some, gd_pos (by omega)]
    by_cases h4 : k = 0
    · have : m = mOf d := by omega
      rw [if_pos (by rw [this]; omega), this]
    · have := m_lt (a := m) (b := mOf d) (by omega)
      rw [if_neg (by omega)]
      exact em_monthOf_b9 h (k - 1) fuel (m + 1) (by omega) (by omega) (by omega)
theorem em_monthOf {d : Int} (h : 0 ≤ d ∧ d ≤ 1094) : fX7_monthOf d = some (mOf d) := by
  have hd := mOf_in h
  have he : dvI d 365 = d / 365 := dvI_pos h.1
  unfold fX7_monthOf
  rw [gd_pos (by omega), he]
  exact em_monthOf_b9 h (mOf d - d / 365 * 12).toNat fuel0 _ (by omega) (by omega) (by show _ < 1000000; omega)
/-! business days -/
def biz (wd : Int) (hb : Int → Bool) (d : Int) : Bool := decide ((d + wd) % 7 < 5) && !hb d
def nextB (b : Int → Bool) : Nat → Int → Int
  | 0, _ => -6
  | f + 1, d => if b d then d else nextB b f (d + 1)
def nextBz (b : Int → Bool) (d : Int) : Int := nextB b (1095 - d).toNat d
def lastB (b : Int → Bool) : Nat → Int → Int
  | 0, _ => -6
  | f + 1, d => if b d then d else lastB b f (d - 1)
def lastBz (b : Int → Bool) (d : Int) : Int := lastB b (d + 1).toNat d
theorem nextBz_out {b : Int → Bool} {d : Int} (h : 1094 < d) : nextBz b d = -6 := by
  unfold nextBz
  rw [show (1095 - d).toNat = 0 by omega]
  rfl
theorem nextBz_in {b : Int → Bool} {d : Int} (h : d ≤ 1094) : nextBz b d = if b d then d else nextBz b (d + 1) := by
  unfold nextBz
  rw [show (1095 - d).toNat = (1095 - (d + 1)).toNat + 1 by omega]
  rfl
theorem lastBz_out {b : Int → Bool} {d : Int} (h : d < 0) : lastBz b d = -6 := by
  unfold lastBz
  rw [show (d + 1).toNat = 0 by omega]
  rfl
theorem lastBz_in {b : Int → Bool} {d : Int} (h : 0 ≤ d) : lastBz b d = if b d then d else lastBz b (d - 1) := by
  unfold lastBz
  rw [show (d + 1).toNat = (d - 1 + 1).toNat + 1 by omega]
  rfl
/-- the next business day: none, or a business day with no other between -/
theorem nextBz_spec (b : Int → Bool) : ∀ (n : Nat) (d : Int), (1095 - d).toNat = n → (nextBz b d = -6 ∧ ∀ j, d ≤ j → j ≤ 1094 → b j = false) ∨ (d ≤ nextBz b d ∧ nextBz b d ≤ 1094 ∧ b (nextBz b d) = true ∧ ∀ j, d ≤ j → j < nextBz b d → b j = false)
  | 0, d, h => Or.inl ⟨nextBz_out (by omega), fun j h1 h2 => by omega⟩
  | n + 1, d, h => by
    have e := nextBz_in (b := b) (d := d) (by omega)
    by_cases hb : b d = true
    · rw [if_pos hb] at e
      exact Or.inr ⟨by omega, by omega, by rw [e]; exact hb, fun j h1 h2 => by omega⟩
    · rw [if_neg hb] at e
      have hb : b d = false := by simpa using hb
      rcases nextBz_spec b n (d + 1) (by omega) with ⟨h1, h2⟩ | ⟨h1, h2, h3, h4⟩
      · refine Or.inl ⟨by omega, fun j h3 h4 => ?_⟩
        by_cases hj : j = d
        · rw [hj]; exact hb
        · exact h2 j (by omega) h4
      · refine Or.inr ⟨by omega, by omega, by rw [e]; exact h3, fun j h5 h6 => ?_⟩
        by_cases hj : j = d
        · rw [hj]; exact hb
        · exact h4 j (by omega) (by omega)
theorem lastBz_spec (b : Int → Bool) : ∀ (n : Nat) (d : Int), (d + 1).toNat = n → (lastBz b d = -6 ∧ ∀ j, j ≤ d → 0 ≤ j → b j = false) ∨ (lastBz b d ≤ d ∧ 0 ≤ lastBz b d ∧ b (lastBz b d) = true ∧ ∀ j, j ≤ d → lastBz b d < j → b j = false)
  | 0, d, h => Or.inl ⟨lastBz_out (by omega), fun j h1 h2 => by omega⟩
  | n + 1, d, h => by
    have e := lastBz_in (b := b) (d := d) (by omega)
    by_cases hb : b d = true
    · rw [if_pos hb] at e
      exact Or.inr ⟨by omega, by omega, by rw [e]; exact hb, fun j h1 h2 => by omega⟩
    · rw [if_neg hb] at e
      have hb : b d = false := by simpa using hb
      rcases lastBz_spec b n (d - 1) (by omega) with ⟨h1, h2⟩ | ⟨h1, h2, h3, h4⟩
      · refine Or.inl ⟨by omega, fun j h3 h4 => ?_⟩
        by_cases hj : j = d
        · rw [hj]; exact hb
        · exact h2 j (by omega) h4
      · refine Or.inr ⟨by omega, by omega, by rw [e]; exact h3, fun j h5 h6 => ?_⟩
        by_cases hj : j = d
        · rw [hj]; exact hb
        · exact h4 j (by omega) (by omega)
theorem nextBz_rng (b : Int → Bool) (d : Int) : nextBz b d = -6 ∨ (d ≤ nextBz b d ∧ nextBz b d ≤ 1094) := by
  rcases nextBz_spec b _ d rfl with h | h
  · exact Or.inl h.1
  · exact Or.inr ⟨h.1, h.2.1⟩
theorem lastBz_rng (b : Int → Bool) (d : Int) : lastBz b d = -6 ∨ (lastBz b d ≤ d ∧ 0 ≤ lastBz b d) := by
  rcases lastBz_spec b _ d rfl with h | h
  · exact Or.inl h.1
  · exact Or.inr ⟨h.1, h.2.1⟩
def shT (b : Int → Bool) (d r : Int) : Int := if r = 2 then lastBz b d else if r = 3 ∧ (nextBz b d = -6 ∨ ¬ mOf (nextBz b d) = mOf d) then lastBz b d else nextBz b d
def shZ (b : Int → Bool) (d r : Int) : Int := if r = 0 ∨ r = 4 then d else if shT b d r = -6 then d else shT b d r
theorem shZ_0 {b : Int → Bool} {d r : Int} (hr : r = 0 ∨ r = 4) : shZ b d r = d := if_pos hr
theorem shZ_T {b : Int → Bool} {d r t : Int} (hr : ¬ (r = 0 ∨ r = 4)) (e : shT b d r = t) : shZ b d r = if t = -6 then d else t := by
  unfold shZ
  rw [if_neg hr, e]
theorem shT_rng (b : Int → Bool) {d r : Int} : shT b d r = lastBz b d ∨ shT b d r = nextBz b d := by
  unfold shT
  split
  · exact Or.inl rfl
  · split
    · exact Or.inl rfl
    · exact Or.inr rfl
theorem shZ_rng (b : Int → Bool) {d r : Int} (h : 0 ≤ d ∧ d ≤ 1094) : 0 ≤ shZ b d r ∧ shZ b d r ≤ 1094 := by
  have h1 := nextBz_rng b d
  have h2 := lastBz_rng b d
  have h3 := shT_rng b (d := d) (r := r)
  by_cases g0 : r = 0 ∨ r = 4
  · rw [shZ_0 g0]; exact h
  · rw [shZ_T g0 rfl]
    split <;> omega
def calC (H : hR) (b : Int → Bool) : Prop := ∀ d : Int, 0 ≤ d ∧ d ≤ 1094 → fX1_isBusiness d H = some (bI (b d))
def calM (m : mR) (b : Int → Bool) : Prop := ∀ d : Int, 0 ≤ d ∧ d ≤ 1094 → fX7_isBusiness d m = some (bI (b d))
theorem ec_next_b2 {H : hR} {b : Int → Bool} (hb : calC H b) : ∀ (n fuel : Nat) (d : Int), (1095 - d).toNat = n → 0 ≤ d → d ≤ 1095 → n < fuel → fX1_nextBusiness_b2 H fuel d = some (nextBz b d)
  | n, 0, d, _, _, _, h => by omega
  | n, fuel + 1, d, h1, h2, h3, h4 => by
    unfold fX1_nextBusiness_b2
    rw [gd_pos (by omega)]
    by_cases g : 1094 < d
    · rw [if_pos g, nextBz_out g]
    · rw [if_neg g, hb d (by omega), cr_some, nextBz_in (by omega)]
      cases b d
      · rw [bI_f rfl, gd_pos (by decide), if_pos rfl]
        exact ec_next_b2 hb (n - 1) fuel (d + 1) (by omega) (by omega) (by omega) (by omega)
      · rw [bI_t rfl, gd_pos (by decide), if_neg (by decide)]
        rfl
theorem ec_next {H : hR} {b : Int → Bool} (hb : calC H b) {d : Int} (h : 0 ≤ d ∧ d ≤ 1095) : fX1_nextBusiness d H = some (nextBz b d) :=
  ec_next_b2 hb _ fuel0 d rfl h.1 h.2 (by show _ < 1000000; omega)
theorem ec_last_b2 {H : hR} {b : Int → Bool} (hb : calC H b) : ∀ (n fuel : Nat) (d : Int), (d + 1).toNat = n → -1 ≤ d → d ≤ 1094 → n < fuel → fX1_lastBusiness_b2 H fuel d = some (lastBz b d)
  | n, 0, d, _, _, _, h => by omega
  | n, fuel + 1, d, h1, h2, h3, h4 => by
    unfold fX1_lastBusiness_b2
    rw [gd_pos (by omega)]
    by_cases g : d < 0
    · rw [if_pos g, lastBz_out g]
    · rw [if_neg g, hb d (by omega), cr_some, lastBz_in (by omega)]
      cases b d
      · rw [bI_f rfl, gd_pos (by decide), if_pos rfl]
        exact ec_last_b2 hb (n - 1) fuel (d - 1) (by omega) (by omega) (by omega) (by omega)
      · rw [bI_t rfl, gd_pos (by decide), if_neg (by decide)]
        rfl
theorem ec_lastB {H : hR} {b : Int → Bool} (hb : calC H b) {d : Int} (h : -1 ≤ d ∧ d ≤ 1094) : fX1_lastBusiness d H = some (lastBz b d) :=
  ec_last_b2 hb _ fuel0 d rfl h.1 h.2 (by show _ < 1000000; omega)
theorem em_next_b2 {m : mR} {b : Int → Bool} (hb : calM m b) : ∀ (n fuel : Nat) (d : Int), (1095 - d).toNat = n → 0 ≤ d → d ≤ 1095 → n < fuel → fX7_nextBusiness_b2 m fuel d = some (nextBz b d)
  | n, 0, d, _, _, _, h => by omega
  | n, fuel + 1, d, h1, h2, h3, h4 => by
    unfold fX7_nextBusiness_b2
    rw [gd_pos (by omega)]
    by_cases g : 1094 < d
    · rw [if_pos g, nextBz_out g]
    · rw [if_neg g, hb d (by omega), cr_some, nextBz_in (by omega)]
      cases b d
      · rw [bI_f rfl, gd_pos (by decide), if_pos rfl]
        exact em_next_b2 hb (n - 1) fuel (d + 1) (by omega) (by omega) (by omega) (by omega)
      · rw [bI_t rfl, gd_pos (by decide), if_neg (by decide)]
        rfl
theorem em_next {m : mR} {b : Int → Bool} (hb : calM m b) {d : Int} (h : 0 ≤ d ∧ d ≤ 1095) : fX7_nextBusiness d m = some (nextBz b d) :=
  em_next_b2 hb _ fuel0 d rfl h.1 h.2 (by show _ < 1000000; omega)
theorem em_last_b2 {m : mR} {b : Int → Bool} (hb : calM m b) : ∀ (n fuel : Nat) (d : Int), (d + 1).toNat = n → -1 ≤ d → d ≤ 1094 → n < fuel → fX7_lastBusiness_b2 m fuel d = some (lastBz b d)
  | n, 0, d, _, _, _, h => by omega
  | n, fuel + 1, d, h1, h2, h3, h4 => by
    unfold fX7_lastBusiness_b2
    rw [gd_pos (by omega)]
    by_cases g : d < 0
    · rw [if_pos g, lastBz_out g]
    · rw [if_neg g, hb d (by omega), cr_some, lastBz_in (by omega)]
      cases b d
      · rw [bI_f rfl, gd_pos (by decide), if_pos rfl]
        exact em_last_b2 hb (n - 1) fuel (d - 1) (by omega) (by omega) (by omega) (by omega)
      · rw [bI_t rfl, gd_pos (by decide), if_neg (by decide)]
        rfl
theorem em_lastB {m : mR} {b : Int → Bool} (hb : calM m b) {d : Int} (h : -1 ≤ d ∧ d ≤ 1094) : fX7_lastBusiness d m = some (lastBz b d) :=
  em_last_b2 hb _ fuel0 d rfl h.1 h.2 (by show _ < 1000000; omega)
theorem ec_shifted {H : hR} {b : Int → Bool} (hb : calC H b) {d r : Int} (h : 0 ≤ d ∧ d ≤ 1094 ∧ 0 ≤ r ∧ r ≤ 4) : fX1_shifted d r H = some (shZ b d r) := by
  have h1 := nextBz_rng b d
  have h2 := lastBz_rng b d
  have hm := mOf_in (d := d) (by omega)
  refine po_eq ?_
  unfold fX1_shifted
  refine po_gd (by omega) (po_if (fun g => po_some (shZ_0 (by omega)).symm) (fun g => po_gd (by omega) (po_if (fun g2 => po_some (shZ_0 (by omega)).symm) (fun g2 => po_gd (by omega) (po_if (fun g3 => po_cre (ec_lastB hb (by omega)) ?_) (fun g3 => po_cre (ec_next hb (by omega)) ?_))))))
  · unfold fX1_shifted_b29 fX1_shifted_b58
    have e : shT b d r = lastBz b d := if_pos g3
    refine po_gd (by omega) (po_iff (by omega) (po_gd (by omega) (po_if (fun g4 => po_some ?_) (fun g4 => po_some ?_))))
    · rw [shZ_T (by omega) e, if_pos g4]
    · rw [shZ_T (by omega) e, if_neg g4]
  · unfold fX1_shifted_b29
    refine po_gd (by omega) (po_if (fun g4 => po_gd (by omega) (po_if (fun g5 => ?_) (fun g5 => ?_))) (fun g4 => ?_))
    · have e : shT b d r = lastBz b d := (if_neg g3).trans (if_pos ⟨g4, Or.inl g5⟩)
      unfold fX1_shifted_b52 fX1_shifted_b58
      refine po_cre (ec_lastB hb (by omega)) (po_gd (by omega) (po_if (fun g6 => po_some ?_) (fun g6 => po_some ?_)))
      · rw [shZ_T (by omega) e, if_pos g6]
      · rw [shZ_T (by omega) e, if_neg g6]
    · have hn := mOf_in (d := nextBz b d) (by omega)
      refine po_cre (ec_monthOf (by omega)) (po_cre (ec_monthOf (by omega)) (po_gd (by omega) (po_if (fun g6 => ?_) (fun g6 => ?_))))
      · have e : shT b d r = nextBz b d := (if_neg g3).trans (if_neg (fun q => q.2.elim g5 (fun q => q g6)))
        unfold fX1_shifted_b58
        refine po_gd (by omega) (po_iff g5 (po_some ?_))
        rw [shZ_T (by omega) e, if_neg g5]
      · have e : shT b d r = lastBz b d := (if_neg g3).trans (if_pos ⟨g4, Or.inr g6⟩)
        unfold fX1_shifted_b52 fX1_shifted_b58
        refine po_cre (ec_lastB hb (by omega)) (po_gd (by omega) (po_if (fun g7 => po_some ?_) (fun g7 => po_some ?_)))
        · rw [shZ_T (by omega) e, if_pos g7]
        · rw [shZ_T (by omega) e, if_neg g7]
    · have e : shT b d r = nextBz b d := (if_neg g3).trans (if_neg (fun q => g4 q.1))
      unfold fX1_shifted_b58
      refine po_gd (by omega) (po_if (fun g5 => po_some ?_) (fun g5 => po_some ?_))
      · rw [shZ_T (by omega) e, if_pos g5]
      · rw [shZ_T (by omega) e, if_neg g5]
theorem em_shifted {m : mR} {b : Int → Bool} (hb : calM m b) {d r : Int} (h : 0 ≤ d ∧ d ≤ 1094 ∧ 0 ≤ r ∧ r ≤ 4) : fX7_shifted d r m = some (shZ b d r) := by
  have h1 := nextBz_rng b d
  have h2 := lastBz_rng b d
  have hm := mOf_in (d := d) (by omega)
  refine po_eq ?_
  unfold fX7_shifted
  refine po_gd (by omega) (po_if (fun g => po_some (shZ_0 (by omega)).symm) (fun g => po_gd (by omega) (po_if (fun g2 => po_some (shZ_0 (by omega)).symm) (fun g2 => po_cre (hb d (by omega)) ?_))))
  by_cases hbd : b d = true
  · have e1 : nextBz b d = d := by rw [nextBz_in (by omega), if_pos hbd]
    have e2 : lastBz b d = d := by rw [lastBz_in (by omega), if_pos hbd]
    have h3 := shT_rng b (d := d) (r := r)
    have e : shT b d r = d := by omega
    rw [bI_t hbd]
    refine po_gd (by decide) (po_iff (by decide) (po_some ?_))
    rw [shZ_T (by omega) e, if_neg (by omega)]
  · rw [bI_f (by simpa using hbd)]
    refine po_gd (by decide) (po_ift rfl (po_cre (em_next hb (by omega)) (po_cre (em_lastB hb (by omega)) (po_gd (by omega) (po_if (fun g3 => po_gd (by omega) (po_if (fun g4 => po_some ?_) (fun g4 => po_some ?_))) (fun g3 => po_gd (by omega) (po_if (fun g4 => po_gd (by omega) (po_if (fun g5 => ?_) (fun g5 => ?_))) (fun g4 => ?_))))))))
    · have e : shT b d r = nextBz b d := (if_neg (by omega)).trans (if_neg (by omega))
      rw [shZ_T (by omega) e, if_pos g4]
    · have e : shT b d r = nextBz b d := (if_neg (by omega)).trans (if_neg (by omega))
      rw [shZ_T (by omega) e, if_neg g4]
    · have e : shT b d r = lastBz b d := (if_neg (by omega)).trans (if_pos ⟨g4, Or.inl g5⟩)
      unfold fX7_shifted_b73
      refine po_gd (by omega) (po_if (fun g6 => po_some ?_) (fun g6 => po_some ?_))
      · rw [shZ_T (by omega) e, if_pos g6]
      · rw [shZ_T (by omega) e, if_neg g6]
    · have hn := mOf_in (d := nextBz b d) (by omega)
      refine po_cre (em_monthOf (by omega)) (po_cre (em_monthOf (by omega)) (po_gd (by omega) (po_if (fun g6 => po_some ?_) (fun g6 => ?_))))
      · have e : shT b d r = nextBz b d := (if_neg (by omega)).trans (if_neg (fun q => q.2.elim g5 (fun q => q g6)))
        rw [shZ_T (by omega) e, if_neg g5]
      · have e : shT b d r = lastBz b d := (if_neg (by omega)).trans (if_pos ⟨g4, Or.inr g6⟩)
        unfold fX7_shifted_b73
        refine po_gd (by omega) (po_if (fun g7 => po_some ?_) (fun g7 => po_some ?_))
        · rw [shZ_T (by omega) e, if_pos g7]
        · rw [shZ_T (by omega) e, if_neg g7]
    · have e : shT b d r = lastBz b d := if_pos (by omega)
      unfold fX7_shifted_b73
      refine po_gd (by omega) (po_if (fun g6 => po_some ?_) (fun g6 => po_some ?_))
      · rw [shZ_T (by omega) e, if_pos g6]
      · rw [shZ_T (by omega) e, if_neg g6]
end
section
/-! ===== holidays: a bit for each, and a row of days ===== -/
theorem bits_n : ∀ k : Nat, k < 64 → ((iI k).toInt64.toUInt64 &&& Int64.toUInt64 63) = UInt64.ofNat k ∧ (jL 1 <<< ((iI k).toInt64 &&& 63)).toBitVec = BitVec.twoPow 64 k ∧ (UInt64.ofNat k).toBitVec.toNat % 64 = k := by decide +kernel
def bitL (w j : Int) : Bool := (jL w).toBitVec.getLsbD j.toNat
theorem bitL_land (w : Int) (k : Nat) (hk : k < 64) : landI (lushrI w k) 1 = if bitL w k then 1 else 0 := by
  obtain ⟨h1, -, h3⟩ := bits_n k hk
  have e : jL (lushrI w k) = ((jL w).toUInt64 >>> UInt64.ofNat k).toInt64 := by
    unfold lushrI
    rw [← jL_of, h1]
  have e2 : (jL (lushrI w k) &&& jL 1).toBitVec = (BitVec.ofBool (bitL w k)).setWidth 64 := by
    rw [e]
    show ((jL w).toBitVec >>> ((UInt64.ofNat k).toBitVec % 64)) &&& 1#64 = _
    rw [BitVec.and_one_eq_setWidth_ofBool_getLsbD]
    congr 2
    rw [BitVec.ushiftRight_eq', BitVec.getLsbD_ushiftRight]
    unfold bitL
    congr 1
  unfold landI
  cases hb : bitL w k
  · rw [hb] at e2
    rw [show (jL (lushrI w k) &&& jL 1) = 0 from Int64.toBitVec_inj.mp e2]
    rfl
  · rw [hb] at e2
    rw [show (jL (lushrI w k) &&& jL 1) = 1 from Int64.toBitVec_inj.mp e2]
    rfl
theorem bitL_xor (w : Int) (k j : Nat) (hk : k < 64) (hj : j < 64) : bitL (lxorI w (lshlI 1 k)) j = if j = k then !bitL w j else bitL w j := by
  obtain ⟨-, h2, -⟩ := bits_n k hk
  have e : jL (lxorI w (lshlI 1 k)) = jL w ^^^ (jL 1 <<< ((iI k).toInt64 &&& 63)) := by
    unfold lxorI lshlI
    rw [← jL_of, ← jL_of]
  unfold bitL
  rw [e]
  show ((jL w).toBitVec ^^^ (jL 1 <<< ((iI k).toInt64 &&& 63)).toBitVec).getLsbD _ = _
  rw [h2, BitVec.getLsbD_xor, BitVec.getLsbD_twoPow, Int.toNat_natCast]
  by_cases h : j = k
  · subst h
    simp [hk]
  · have : ¬ k = j := fun q => h q.symm
    simp [h, this]
def holB (H : hR) (d : Int) : Bool := bitL (H.1 6 (d / 64) 0) (d % 64)
theorem ec_hol {H : hR} {d : Int} (h : 0 ≤ d ∧ d ≤ 1094) : landI (lushrI (H.1 6 (shrI d 6) 0) (andI d 63)) 1 = bI (holB H d) := by
  rw [shrI6 (by omega), andI63 (by omega)]
  obtain ⟨k, h1, h2⟩ := toN (n := 64) (d := d % 64) (by omega)
  unfold holB
  rw [h2, bitL_land _ k (by omega)]
  rfl
theorem ec_isHol {H : hR} {d : Int} (h : 0 ≤ d ∧ d ≤ 1094) : fX1_isHoliday d H = some (bI (holB H d)) := by
  unfold fX1_isHoliday
  have h1 := shrI6 (d := d) (by omega)
  have h2 := bI_rng (holB H d)
  rw [gd_pos (by omega), ec_hol h, gd_pos (by omega)]
  cases holB H d <;> rfl
def cB (H : hR) (d : Int) : Bool := biz (H.1 1 2 0) (holB H) d
theorem ec_isBz {H : hR} {d : Int} (h : 0 ≤ d ∧ d ≤ 1094) (hw : 0 ≤ H.1 1 2 0 ∧ H.1 1 2 0 ≤ 6) : fX1_isBusiness d H = some (bI (cB H d)) := by
  have h1 := shrI6 (d := d) (by omega)
  have h2 := bI_rng (holB H d)
  have e : rmI (d + H.1 1 2 0) 7 = (d + H.1 1 2 0) % 7 := rmI_pos (by omega)
  unfold fX1_isBusiness cB biz
  rw [gd_pos (by omega), e, gd_pos (by omega)]
  by_cases g : 5 ≤ (d + H.1 1 2 0) % 7
  · rw [if_pos g, decide_eq_false (by omega)]
    rfl
  · rw [if_neg g, gd_pos (by omega), ec_hol h, gd_pos (by omega), decide_eq_true (by omega)]
    cases holB H d <;> rfl
theorem ec_cal {H : hR} (hw : 0 ≤ H.1 1 2 0 ∧ H.1 1 2 0 ≤ 6) : calC H (cB H) := fun _ hd => ec_isBz hd hw
/-- the reference's row of holidays -/
def holN (N : Int → Int) : Nat → Int → Bool
  | 0, _ => false
  | k + 1, d => holN N k d || decide (N (13 + k) = d)
theorem holN_iff {N : Int → Int} {d : Int} : ∀ n : Nat, holN N n d = true ↔ ∃ k : Nat, k < n ∧ N (13 + k) = d
  | 0 => by simp [holN]
  | n + 1 => by
    unfold holN
    rw [Bool.or_eq_true, holN_iff n, decide_eq_true_eq]
    constructor
    · rintro (⟨k, h1, h2⟩ | h)
      · exact ⟨k, by omega, h2⟩
      · exact ⟨n, by omega, h⟩
    · rintro ⟨k, h1, h2⟩
      by_cases hk : k = n
      · exact Or.inr (hk ▸ h2)
      · exact Or.inl ⟨k, by omega, h2⟩
theorem em_isHol_b4 {m : mR} {d : Int} (hd : wR d) (hn : 0 ≤ m.1 0 3 ∧ m.1 0 3 ≤ 20) (hr : ∀ k : Int, 0 ≤ k → k < m.1 0 3 → wR (m.1 0 (13 + k))) : ∀ (n fuel : Nat) (k : Nat) (x : Int), (m.1 0 3).toNat = k + n → x = bI (holN (m.1 0) k d) → n < fuel → fX7_isHoliday_b4 m fuel d x k = some (bI (holN (m.1 0) (m.1 0 3).toNat d))
  | n, 0, k, x, _, _, h => by omega
  | 0, fuel + 1, k, x, h1, h2, _ => by
    unfold fX7_isHoliday_b4
    have := bI_rng (holN (m.1 0) k d)
    rw [gd_pos (by omega), gd_pos (by omega), if_pos (by omega), gd_pos (by omega), h1, h2]
    rfl
  | n + 1, fuel + 1, k, x, h1, h2, h3 => by
    have hx := bI_rng (holN (m.1 0) k d)
    have hk := hr k (by omega) (by omega)
    have ih := em_isHol_b4 hd hn hr n fuel (k + 1)
    unfold fX7_isHoliday_b4
    rw [gd_pos (by omega), gd_pos (by omega), if_neg (by omega), gd_pos (by omega)]
    by_cases g : x = 0
    · have gb : holN (m.1 0) k d = false := by
        cases hb : holN (m.1 0) k d
        · rfl
        · rw [hb, bI_t rfl] at h2; omega
      rw [if_pos g, gd_pos (by omega), gd_pos hd, gd_pos (by omega)]
      by_cases g2 : m.1 0 (13 + k) = d
      · rw [if_pos g2]
        exact ih 1 (by omega) (by unfold holN; rw [gb, decide_eq_true g2]; rfl) (by omega)
      · rw [if_neg g2]
        exact ih 0 (by omega) (by unfold holN; rw [gb, decide_eq_false g2]; rfl) (by omega)
    · have gb : holN (m.1 0) k d = true := by
        cases hb : holN (m.1 0) k d
        · rw [hb, bI_f rfl] at h2; omega
        · rfl
      rw [if_neg g]
      exact ih 1 (by omega) (by unfold holN; rw [gb]; rfl) (by omega)
/-- what the reference's holidays keep: at most 20, days, no two alike -/
def holOK (N : Int → Int) : Prop := 0 ≤ N 3 ∧ N 3 ≤ 20 ∧ (∀ k : Int, 0 ≤ k → k < N 3 → 0 ≤ N (13 + k) ∧ N (13 + k) ≤ 1094) ∧ ∀ i j : Int, 0 ≤ i → i < N 3 → 0 ≤ j → j < N 3 → N (13 + i) = N (13 + j) → i = j
theorem em_isHol {m : mR} {d : Int} (hd : wR d) (h : holOK (m.1 0)) : fX7_isHoliday d m = some (bI (holN (m.1 0) (m.1 0 3).toNat d)) :=
  em_isHol_b4 hd ⟨h.1, h.2.1⟩ (fun k h1 h2 => by have := h.2.2.1 k h1 h2; omega) (m.1 0 3).toNat fuel0 0 0 (by omega) rfl (by have := h.2.1; show _ < 1000000; omega)
def mB (N : Int → Int) (d : Int) : Bool := biz (N 12) (holN N (N 3).toNat) d
theorem em_isBz {m : mR} {d : Int} (h : 0 ≤ d ∧ d ≤ 1094) (hw : 0 ≤ m.1 0 12 ∧ m.1 0 12 ≤ 6) (hh : holOK (m.1 0)) : fX7_isBusiness d m = some (bI (mB (m.1 0) d)) := by
  have e : rmI (d + m.1 0 12) 7 = (d + m.1 0 12) % 7 := rmI_pos (by omega)
  have h2 := bI_rng (holN (m.1 0) (m.1 0 3).toNat d)
  unfold fX7_isBusiness fX7_weekdayOf mB biz
  rw [ev_of (by omega), cr_some, gd_pos (by omega), cr_some, e, gd_pos (by omega)]
  by_cases g : 5 ≤ (d + m.1 0 12) % 7
  · rw [if_pos g, decide_eq_false (by omega)]
    rfl
  · rw [if_neg g, em_isHol (by omega) hh, cr_some, gd_pos (by omega), decide_eq_true (by omega)]
    cases holN (m.1 0) (m.1 0 3).toNat d <;> rfl
theorem em_cal {m : mR} (hw : 0 ≤ m.1 0 12 ∧ m.1 0 12 ≤ 6) (hh : holOK (m.1 0)) : calM m (mB (m.1 0)) := fun _ hd => em_isBz hd hw hh
end
section
/-! ===== the class's house against the reference's rows, cell by cell ===== -/
def pkW (o a n d f x : Int) : Int := o + 16 * (a + 1048576 * (n + 2048 * (d + 2048 * (f + 16 * x))))
def corS (H : hR) (N : Int → Int) : Prop := N 0 = H.1 0 6 0 ∧ N 1 = H.1 0 4 0 ∧ N 2 = H.1 0 5 0 ∧ N 3 = H.1 1 1 0 ∧ N 4 = H.1 4 2 0 ∧ N 8 = H.1 0 10 0 ∧ N 9 = H.1 0 7 0 ∧ N 10 = H.1 0 8 0 ∧ N 11 = H.1 0 9 0 ∧ N 12 = H.1 1 2 0
def corH (H : hR) (N : Int → Int) : Prop := holOK N ∧ ∀ d : Int, 0 ≤ d ∧ d ≤ 1094 → holN N (N 3).toNat d = holB H d
def corA (H : hR) (N : Int → Int) (O : Int → UInt64) : Prop := ∀ a : Int, 0 ≤ a ∧ a < N 1 → (∀ f : Int, 0 ≤ f ∧ f ≤ 10 → N (33 + 11 * a + f) = H.1 2 a f) ∧ O a = H.2 a
/-- what the reference has for a field of the class's order, by the reference's number -/
def ordN (H : hR) (o f : Int) : Int :=
  if f = 1 then (if H.1 3 o 1 = -6 then 8 else H.1 3 o 1)
  else if f ≤ 8 then H.1 3 o f
  else if f = 9 then (if H.1 3 o 11 = 2 then 0 else H.1 3 o 10)
  else if f ≤ 13 then H.1 3 o (f + 1)
  else if f = 14 then H.1 3 o 16
  else H.1 3 o 9
def corO (H : hR) (N : Int → Int) : Prop := ∀ o : Int, 0 ≤ o ∧ o < N 2 → ∀ f : Int, 0 ≤ f ∧ f ≤ 15 → N (121 + 16 * o + f) = ordN H o f
def corW (H : hR) (W : Int → Int) (n : Int) : Prop := ∀ i : Int, 0 ≤ i ∧ i < n → W i = pkW (H.1 5 0 i) (H.1 5 1 i) (H.1 5 2 i) (H.1 5 3 i) (H.1 5 4 i) 0
def Cor (H : hR) (N W : Int → Int) (O : Int → UInt64) : Prop := corS H N ∧ corH H N ∧ corA H N O ∧ corO H N ∧ corW H W (N 4)
abbrev CorM (H : hR) (m : mR) : Prop := Cor H (m.1 0) (m.1 1) (m.2 0)
theorem mS_0 (m : mR) (k v : Int) : (mS m 0 k v).1 0 = up1 (m.1 0) k v := by
  funext j
  show (if (0 : Int) = 0 ∧ j = k then v else m.1 0 j) = if j = k then v else m.1 0 j
  by_cases h : j = k <;> simp [h]
theorem mS_1' (m : mR) (k v : Int) : (mS m 1 k v).1 1 = up1 (m.1 1) k v := by
  funext j
  show (if (1 : Int) = 1 ∧ j = k then v else m.1 1 j) = if j = k then v else m.1 1 j
  by_cases h : j = k <;> simp [h]
theorem mS_t (m : mR) {t t' : Int} (k v : Int) (h : ¬ t' = t) : (mS m t k v).1 t' = m.1 t' := by
  funext j
  exact if_neg (fun q => h q.1)
theorem mD_0 (m : mR) (k : Int) (v : UInt64) : (mD m 0 k v).2 0 = up1 (m.2 0) k v := by
  funext j
  show (if (0 : Int) = 0 ∧ j = k then v else m.2 0 j) = if j = k then v else m.2 0 j
  by_cases h : j = k <;> simp [h]
theorem mD_t (m : mR) {t t' : Int} (k : Int) (v : UInt64) (h : ¬ t' = t) : (mD m t k v).2 t' = m.2 t' := by
  funext j
  exact if_neg (fun q => h q.1)
theorem up1_p {α : Type} (f : Int → α) (a : Int) (v : α) : up1 f a v a = v := if_pos rfl
theorem up1_n {α : Type} (f : Int → α) {a b : Int} (v : α) (h : ¬ b = a) : up1 f a v b = f b := if_neg h
/-! the parts see only their cells -/
theorem corS.fr {H H' : hR} {N N' : Int → Int} (h : corS H N) (hH : ∀ t a : Int, (t = 0 ∧ ¬ a = 11) ∨ t = 1 ∨ (t = 4 ∧ a = 2) → H'.1 t a 0 = H.1 t a 0) (hN : ∀ k : Int, (0 ≤ k ∧ k ≤ 4) ∨ (8 ≤ k ∧ k ≤ 12) → N' k = N k) : corS H' N' := by
  obtain ⟨h1, h2, h3, h4, h5, h6, h7, h8, h9, h10⟩ := h
  refine ⟨?_, ?_, ?_, ?_, ?_, ?_, ?_, ?_, ?_, ?_⟩ <;> rw [hN _ (by decide), hH _ _ (by decide)] <;> assumption
theorem holN_fr {N N' : Int → Int} (hN : ∀ k : Int, 13 ≤ k ∧ k ≤ 32 → N' k = N k) : ∀ (n : Nat) (d : Int), n ≤ 20 → holN N' n d = holN N n d
  | 0, d, _ => rfl
  | n + 1, d, h => by
    unfold holN
    rw [holN_fr hN n d (by omega), hN _ (by omega)]
theorem holOK.fr {N N' : Int → Int} (h : holOK N) (hN : ∀ k : Int, k = 3 ∨ (13 ≤ k ∧ k ≤ 32) → N' k = N k) : holOK N' := by
  obtain ⟨h1, h2, h3, h4⟩ := h
  have e := hN 3 (by decide)
  refine ⟨by omega, by omega, fun k a b => ?_, fun i j a b c d q => ?_⟩
  · rw [hN _ (by omega)]; exact h3 k a (by omega)
  · rw [hN _ (by omega), hN _ (by omega)] at q
    exact h4 i j a (by omega) c (by omega) q
theorem corH.fr {H H' : hR} {N N' : Int → Int} (h : corH H N) (hH : ∀ a : Int, H'.1 6 a 0 = H.1 6 a 0) (hN : ∀ k : Int, k = 3 ∨ (13 ≤ k ∧ k ≤ 32) → N' k = N k) : corH H' N' := by
  refine ⟨h.1.fr hN, fun d hd => ?_⟩
  have h1 := h.1.1
  have h2 := h.1.2.1
  rw [hN 3 (by decide), holN_fr (fun k hk => hN k (by omega)) _ _ (by omega), h.2 d hd]
  unfold holB
  rw [hH]
theorem corA.fr {H H' : hR} {N N' : Int → Int} {O O' : Int → UInt64} (h : corA H N O) (hH : ∀ a f : Int, 0 ≤ f ∧ f ≤ 10 → H'.1 2 a f = H.1 2 a f) (hD : ∀ a : Int, H'.2 a = H.2 a) (hN : ∀ k : Int, k = 1 ∨ (33 ≤ k ∧ k < 121) → N' k = N k) (hO : ∀ a : Int, O' a = O a) (h8 : N 1 ≤ 8) : corA H' N' O' := by
  intro a ha
  rw [hN 1 (by decide)] at ha
  obtain ⟨h1, h2⟩ := h a ha
  exact ⟨fun f hf => by rw [hN _ (by omega), hH _ _ hf]; exact h1 f hf, by rw [hO, hD]; exact h2⟩
theorem ordN_fr {H H' : hR} {o : Int} (hH : ∀ f : Int, (0 ≤ f ∧ f ≤ 14) ∨ f = 16 → H'.1 3 o f = H.1 3 o f) {f : Int} (hf : 0 ≤ f ∧ f ≤ 15) : ordN H' o f = ordN H o f := by
  unfold ordN
  split
  · rw [hH 1 (by decide)]
  · split
    · exact hH f (by omega)
    · split
      · rw [hH 11 (by decide), hH 10 (by decide)]
      · split
        · exact hH _ (by omega)
        · split
          · exact hH 16 (by decide)
          · exact hH 9 (by decide)
theorem corO.fr {H H' : hR} {N N' : Int → Int} (h : corO H N) (hH : ∀ o f : Int, (0 ≤ f ∧ f ≤ 14) ∨ f = 16 → H'.1 3 o f = H.1 3 o f) (hN : ∀ k : Int, k = 2 ∨ (121 ≤ k ∧ k < 377) → N' k = N k) (h16 : N 2 ≤ 16) : corO H' N' := by
  intro o ho f hf
  rw [hN 2 (by decide)] at ho
  rw [hN _ (by omega), ordN_fr (hH o) hf]
  exact h o ho f hf
theorem corW.fr {H H' : hR} {W W' : Int → Int} {n n' : Int} (h : corW H W n) (hH : ∀ c i : Int, 0 ≤ i ∧ i < n' → H'.1 5 c i = H.1 5 c i) (hW : ∀ i : Int, 0 ≤ i ∧ i < n' → W' i = W i) (hn : n' ≤ n) : corW H' W' n' := by
  intro i hi
  rw [hW i hi, hH _ _ hi, hH _ _ hi, hH _ _ hi, hH _ _ hi, hH _ _ hi]
  exact h i ⟨hi.1, by omega⟩
/-- counts within their rows -/
def roomOK (r : Int) : Prop := ∃ k : Nat, k ≤ 8 ∧ r = 64 * 2 ^ k
def okN (H : hR) : Prop := (0 ≤ H.1 0 4 0 ∧ H.1 0 4 0 ≤ 8) ∧ (0 ≤ H.1 0 5 0 ∧ H.1 0 5 0 ≤ 16) ∧ (0 ≤ H.1 4 2 0 ∧ H.1 4 2 0 ≤ 8400) ∧ (H.1 4 2 0 ≤ H.1 4 1 0 ∧ roomOK (H.1 4 1 0))
/-- an account's field, 0 to 10, written on both sides -/
theorem Cor.acc {H : hR} {m : mR} (h : CorM H m) (hk : okN H) {a f v : Int} (ha : 0 ≤ a ∧ a < 8) (hf : 0 ≤ f ∧ f ≤ 10) : CorM (hS H 2 a f v) (mS m 0 (33 + 11 * a + f) v) := by
  obtain ⟨h1, h2, h3, h4, h5⟩ := h
  have e1 := h1.2.1
  have e2 := h1.2.2.1
  have e4 := h1.2.2.2.2.1
  unfold okN at hk
  unfold CorM
  rw [mS_0, mS_t m _ _ (by decide), mS_2]
  refine ⟨h1.fr (fun t a' q => hS_n H (by omega)) (fun k q => up1_n _ _ (by omega)), h2.fr (fun a' => hS_n H (by omega)) (fun k q => up1_n _ _ (by omega)), ?_, h4.fr (fun o f' q => hS_n H (by omega)) (fun k q => up1_n _ _ (by omega)) (by omega), ?_⟩
  · intro a' ha'
    rw [up1_n _ _ (by omega)] at ha'
    obtain ⟨g1, g2⟩ := h3 a' ha'
    refine ⟨fun f' hf' => ?_, g2⟩
    rw [hS_1]
    unfold up1
    by_cases q : a' = a ∧ f' = f
    · obtain ⟨q1, q2⟩ := q
      rw [if_pos (by omega), if_pos ⟨rfl, q1, q2⟩]
    · rw [if_neg (by omega), if_neg (by omega)]
      exact g1 f' hf'
  · rw [up1_n _ _ (by omega)]
    exact h5.fr (fun c i q => hS_n H (by omega)) (fun i q => rfl) (Int.le_refl _)
theorem okN.fr {H H' : hR} (h : okN H) (h1 : H'.1 0 4 0 = H.1 0 4 0) (h2 : H'.1 0 5 0 = H.1 0 5 0) (h3 : H'.1 4 2 0 = H.1 4 2 0) (h4 : H'.1 4 1 0 = H.1 4 1 0) : okN H' := by
  unfold okN at *
  rw [h1, h2, h3, h4]
  exact h
/-- interest owed -/
theorem Cor.owe {H : hR} {m : mR} (h : CorM H m) {a : Int} {v : UInt64} : CorM (hD H a v) (mD m 0 a v) := by
  obtain ⟨h1, h2, h3, h4, h5⟩ := h
  unfold CorM
  rw [mD_0, mD_1]
  refine ⟨h1, h2, fun a' ha' => ⟨(h3 a' ha').1, ?_⟩, h4, h5⟩
  show (if a' = a then v else m.2 0 a') = if a' = a then v else H.2 a'
  rw [(h3 a' ha').2]
/-- what the reference has not: waits 11, an order's waiting and what aim() tells, the day's failed payers, room -/
theorem Cor.own {H H' : hR} {m : mR} (h : CorM H m) (hk : okN H) (hH : ∀ t a b : Int, ¬ (t = 0 ∧ a = 11) → ¬ (t = 2 ∧ b = 11) → ¬ (t = 3 ∧ (b = 15 ∨ b = 17 ∨ b = 18 ∨ b = 19)) → ¬ (t = 4 ∧ a = 1) → H'.1 t a b = H.1 t a b) (hD : H'.2 = H.2) : CorM H' m := by
  obtain ⟨h1, h2, h3, h4, h5⟩ := h
  have e1 := h1.2.1
  have e2 := h1.2.2.1
  unfold okN at hk
  exact ⟨h1.fr (fun t a' q => hH _ _ _ (by omega) (by omega) (by omega) (by omega)) (fun k q => rfl), h2.fr (fun a' => hH _ _ _ (by omega) (by omega) (by omega) (by omega)) (fun k q => rfl), h3.fr (fun a f q => hH _ _ _ (by omega) (by omega) (by omega) (by omega)) (fun a => by rw [hD]) (fun k q => rfl) (fun a => rfl) (by omega), h4.fr (fun o f q => hH _ _ _ (by omega) (by omega) (by omega) (by omega)) (fun k q => rfl) (by omega), h5.fr (fun c i q => hH _ _ _ (by omega) (by omega) (by omega) (by omega)) (fun i q => rfl) (Int.le_refl _)⟩
/-- the reference's other rows -/
theorem Cor.oth {H : hR} {m m' : mR} (h : CorM H m) (h0 : m'.1 0 = m.1 0) (h1 : m'.1 1 = m.1 1) (h2 : m'.2 0 = m.2 0) : CorM H m' := by
  unfold CorM
  rw [h0, h1, h2]
  exact h
end
section
/-! ===== an order's occurrences ===== -/
theorem mul_bnd {a b A B : Int} (h1 : 0 ≤ a) (h2 : a ≤ A) (h3 : 0 ≤ b) (h4 : b ≤ B) : 0 ≤ a * b ∧ a * b ≤ A * B :=
  ⟨Int.mul_nonneg h1 h3, Int.mul_le_mul h2 h4 h3 (Int.le_trans h1 h2)⟩
def lastOfB (b : Int → Bool) (mo : Int) : Int := if lastBz b (mLast mo) < mFirst mo then mLast mo else lastBz b (mLast mo)
/-- an index's nominal day, out of: first day, kind, what the index steps come to, day of the month -/
def nomP (b : Int → Bool) (fi ki p dm : Int) : Int :=
  if ki = 0 then (if 1094 < fi + p then -6 else fi + p)
  else if ki = 1 then (if 1094 < fi + 7 * p then -6 else fi + 7 * p)
  else if 35 < mOf fi + p then -6
  else if ki = 2 then min (mFirst (mOf fi + p) + dm - 1) (mLast (mOf fi + p))
  else lastOfB b (mOf fi + p)
theorem lastOfB_rng (b : Int → Bool) {mo : Int} (h : 0 ≤ mo ∧ mo ≤ 35) : mFirst mo ≤ lastOfB b mo ∧ lastOfB b mo ≤ mLast mo := by
  have h1 := m_rng h
  have h2 := lastBz_rng b (mLast mo)
  unfold lastOfB
  split <;> omega
/-- within the months' bounds -/
theorem nomP_mon {b : Int → Bool} {fi ki p dm : Int} (hk : ¬ ki = 0 ∧ ¬ ki = 1) (hf : 0 ≤ fi ∧ fi ≤ 1094) (hp : 0 ≤ p) (hd : 1 ≤ dm) : (35 < mOf fi + p ∧ nomP b fi ki p dm = -6) ∨ (mOf fi + p ≤ 35 ∧ mFirst (mOf fi + p) ≤ nomP b fi ki p dm ∧ nomP b fi ki p dm ≤ mLast (mOf fi + p)) := by
  have hm := mOf_in hf
  unfold nomP
  rw [if_neg hk.1, if_neg hk.2]
  by_cases h : 35 < mOf fi + p
  · rw [if_pos h]; exact Or.inl ⟨h, rfl⟩
  · rw [if_neg h]
    have h1 := m_rng (m := mOf fi + p) (by omega)
    have h2 := lastOfB_rng b (mo := mOf fi + p) (by omega)
    refine Or.inr ⟨by omega, ?_⟩
    split
    · omega
    · exact h2
theorem nomP_rng {b : Int → Bool} {fi ki p dm : Int} (hf : 0 ≤ fi ∧ fi ≤ 1094) (hp : 0 ≤ p) (hd : 1 ≤ dm) : nomP b fi ki p dm = -6 ∨ (p ≤ nomP b fi ki p dm ∧ nomP b fi ki p dm ≤ 1094) := by
  by_cases h0 : ki = 0
  · unfold nomP; rw [if_pos h0]; split <;> omega
  · by_cases h1 : ki = 1
    · unfold nomP; rw [if_neg h0, if_pos h1]; split <;> omega
    · have hm := mOf_in hf
      rcases nomP_mon (b := b) ⟨h0, h1⟩ hf hp hd with h | ⟨h2, h3, h4⟩
      · exact Or.inl h.2
      · have h5 := m_rng (m := mOf fi + p) (by omega)
        refine Or.inr ⟨?_, by omega⟩
        have h6 : mOf fi + p ≤ mFirst (mOf fi + p) := by
          obtain ⟨k, h7, h8⟩ := toN (n := 36) (d := mOf fi + p) (by omega)
          rw [h8]
          have : ∀ k : Nat, k < 36 → (k : Int) ≤ mFirst k := by decide +kernel
          exact this k (by omega)
        omega
/-- a later index: none, or a later day -/
theorem nomP_lt {b : Int → Bool} {fi ki p q dm : Int} (hf : 0 ≤ fi ∧ fi ≤ 1094) (hp : 0 ≤ p) (hq : p < q) (hd : 1 ≤ dm) : nomP b fi ki q dm = -6 ∨ (¬ nomP b fi ki p dm = -6 ∧ nomP b fi ki p dm < nomP b fi ki q dm) := by
  by_cases h0 : ki = 0
  · unfold nomP; rw [if_pos h0, if_pos h0]; split
    · exact Or.inl rfl
    · rw [if_neg (by omega)]; exact Or.inr (by omega)
  · by_cases h1 : ki = 1
    · unfold nomP; rw [if_neg h0, if_pos h1, if_neg h0, if_pos h1]; split
      · exact Or.inl rfl
      · rw [if_neg (by omega)]; exact Or.inr (by omega)
    · have hm := mOf_in hf
      rcases nomP_mon (b := b) (p := q) ⟨h0, h1⟩ hf (by omega) hd with h | ⟨h2, h3, h4⟩
      · exact Or.inl h.2
      · rcases nomP_mon (b := b) (p := p) ⟨h0, h1⟩ hf hp hd with h | ⟨h5, h6, h7⟩
        · omega
        · have := m_lt (a := mOf fi + p) (b := mOf fi + q) (by omega)
          have h8 := m_rng (m := mOf fi + p) (by omega)
          exact Or.inr (by omega)
/-- behind the first index none is before the first day -/
theorem nomP_ge {b : Int → Bool} {fi ki p dm : Int} (hf : 0 ≤ fi ∧ fi ≤ 1094) (hp : 1 ≤ p) (hd : 1 ≤ dm) : nomP b fi ki p dm = -6 ∨ fi < nomP b fi ki p dm := by
  by_cases h0 : ki = 0
  · unfold nomP; rw [if_pos h0]; split <;> omega
  · by_cases h1 : ki = 1
    · unfold nomP; rw [if_neg h0, if_pos h1]; split <;> omega
    · have hm := mOf_in hf
      rcases nomP_mon (b := b) (p := p) ⟨h0, h1⟩ hf (by omega) hd with h | ⟨h2, h3, h4⟩
      · exact Or.inl h.2
      · have := m_lt (a := mOf fi) (b := mOf fi + p) (by omega)
        exact Or.inr (by omega)
/-- an order's fields within their bounds -/
def okOrd (H : hR) (o : Int) : Prop := (0 ≤ H.1 3 o 3 ∧ H.1 3 o 3 ≤ 3) ∧ (1 ≤ H.1 3 o 4 ∧ H.1 3 o 4 ≤ 12) ∧ (1 ≤ H.1 3 o 5 ∧ H.1 3 o 5 ≤ 31) ∧ (0 ≤ H.1 3 o 6 ∧ H.1 3 o 6 ≤ 1094) ∧ (0 ≤ H.1 3 o 7 ∧ H.1 3 o 7 ≤ 4)
def nomO (b : Int → Bool) (H : hR) (o k : Int) : Int := nomP b (H.1 3 o 6) (H.1 3 o 3) (k * H.1 3 o 4) (H.1 3 o 5)
theorem nomO_fr {b : Int → Bool} {H H' : hR} {o : Int} (hH : ∀ f : Int, 3 ≤ f ∧ f ≤ 6 → H'.1 3 o f = H.1 3 o f) (k : Int) : nomO b H' o k = nomO b H o k := by
  unfold nomO
  rw [hH 6 (by decide), hH 3 (by decide), hH 4 (by decide), hH 5 (by decide)]
theorem okOrd.fr {H H' : hR} {o : Int} (h : okOrd H o) (hH : ∀ f : Int, 3 ≤ f ∧ f ≤ 7 → H'.1 3 o f = H.1 3 o f) : okOrd H' o := by
  unfold okOrd at *
  rw [hH 6 (by decide), hH 3 (by decide), hH 4 (by decide), hH 5 (by decide), hH 7 (by decide)]
  exact h
theorem nomO_rng {b : Int → Bool} {H : hR} {o k : Int} (h : okOrd H o) (hk : 0 ≤ k) : nomO b H o k = -6 ∨ (k ≤ nomO b H o k ∧ nomO b H o k ≤ 1094) := by
  obtain ⟨h1, h2, h3, h4, h5⟩ := h
  have h6 : k * 1 ≤ k * H.1 3 o 4 := Int.mul_le_mul_of_nonneg_left h2.1 hk
  have := nomP_rng (b := b) (ki := H.1 3 o 3) (p := k * H.1 3 o 4) h4 (by omega) h3.1
  unfold nomO
  omega
theorem nomO_lt {b : Int → Bool} {H : hR} {o k j : Int} (h : okOrd H o) (hk : 0 ≤ k) (hj : k < j) : nomO b H o j = -6 ∨ (¬ nomO b H o k = -6 ∧ nomO b H o k < nomO b H o j) := by
  obtain ⟨h1, h2, h3, h4, h5⟩ := h
  have h6 : k * 1 ≤ k * H.1 3 o 4 := Int.mul_le_mul_of_nonneg_left h2.1 hk
  have h7 : k * H.1 3 o 4 < j * H.1 3 o 4 := Int.mul_lt_mul_of_pos_right hj (by omega)
  exact nomP_lt h4 (by omega) h7 h3.1
theorem nomO_ge {b : Int → Bool} {H : hR} {o k : Int} (h : okOrd H o) (hk : 1 ≤ k) : nomO b H o k = -6 ∨ H.1 3 o 6 < nomO b H o k := by
  obtain ⟨h1, h2, h3, h4, h5⟩ := h
  have h6 : k * 1 ≤ k * H.1 3 o 4 := Int.mul_le_mul_of_nonneg_left h2.1 (by omega)
  exact nomP_ge h4 (by omega) h3.1
theorem ec_nominal {b : Int → Bool} {H : hR} {o k : Int} (hb : calC H b) (h : okOrd H o) (hk : 0 ≤ k ∧ k ≤ 2000) : fX3_nominalDay o k H = some (nomO b H o k) := by
  obtain ⟨h1, h2, h3, h4, h5⟩ := h
  have hp := mul_bnd hk.1 hk.2 (show 0 ≤ H.1 3 o 4 by omega) h2.2
  have hm := mOf_in h4
  have e0 : H.1 3 o 3 = 0 → nomO b H o k = if 1094 < H.1 3 o 6 + k * H.1 3 o 4 then -6 else H.1 3 o 6 + k * H.1 3 o 4 := fun g => if_pos g
  have e1 : H.1 3 o 3 = 1 → nomO b H o k = if 1094 < H.1 3 o 6 + 7 * (k * H.1 3 o 4) then -6 else H.1 3 o 6 + 7 * (k * H.1 3 o 4) := fun g => (if_neg (by omega)).trans (if_pos g)
  have e2 : ¬ H.1 3 o 3 = 0 → ¬ H.1 3 o 3 = 1 → nomO b H o k = if 35 < mOf (H.1 3 o 6) + k * H.1 3 o 4 then -6 else if H.1 3 o 3 = 2 then min (mFirst (mOf (H.1 3 o 6) + k * H.1 3 o 4) + H.1 3 o 5 - 1) (mLast (mOf (H.1 3 o 6) + k * H.1 3 o 4)) else lastOfB b (mOf (H.1 3 o 6) + k * H.1 3 o 4) := fun g g' => (if_neg g).trans (if_neg g')
  refine po_eq ?_
  unfold fX3_nominalDay fX3_nominalDay_b15 fX3_nominalDay_b38
  by_cases g0 : H.1 3 o 3 = 0
  · refine po_gd (by omega) (po_ift g0 (po_gd (by omega) (po_ift g0 (po_gd (by omega) ?_))))
    rw [e0 g0, Int.mul_one]
    refine po_if (fun g => po_some ?_) (fun g => po_some ?_)
    · rw [if_pos g]
    · rw [if_neg g]
  · by_cases g1 : H.1 3 o 3 = 1
    · refine po_gd (by omega) (po_iff g0 (po_gd (by omega) (po_ift g1 (po_gd (by omega) (po_iff g0 (po_gd (by omega) ?_))))))
      rw [e1 g1, Int.mul_comm _ 7]
      refine po_if (fun g => po_some ?_) (fun g => po_some ?_)
      · rw [if_pos g]
      · rw [if_neg g]
    · have e := e2 g0 g1
      clear e0 e1 e2
      refine po_gd (by omega) (po_iff g0 (po_gd (by omega) (po_iff g1 (po_cre (ec_monthOf h4) (po_gd (by omega) ?_)))))
      by_cases g2 : mOf (H.1 3 o 6) + k * H.1 3 o 4 ≤ 35
      · have hr := m_rng (m := mOf (H.1 3 o 6) + k * H.1 3 o 4) (by omega)
        rw [if_neg (show ¬ 35 < mOf (H.1 3 o 6) + k * H.1 3 o 4 by omega)] at e
        refine po_ift g2 (po_cre (ec_first (by omega)) (po_cre (ec_last (by omega)) (po_gd (by omega) (po_if (fun g3 => po_gd (by omega) (po_some ?_)) (fun g3 => po_cre (ec_lastB hb (by omega)) ?_)))))
        · rw [e, if_pos g3]
        · have hl := lastBz_rng b (mLast (mOf (H.1 3 o 6) + k * H.1 3 o 4))
          rw [if_neg g3] at e
          unfold lastOfB at e
          refine po_gd (by omega) (po_if (fun g => po_some ?_) (fun g => po_some ?_))
          · rw [e, if_pos g]
          · rw [e, if_neg g]
      · refine po_iff g2 (po_some ?_)
        rw [e, if_pos (by omega)]
end
section
/-! ===== the next occurrence on both sides ===== -/
theorem calC.fr {H H' : hR} {b : Int → Bool} (h : calC H b) (h6 : ∀ a : Int, H'.1 6 a 0 = H.1 6 a 0) (h1 : H'.1 1 2 0 = H.1 1 2 0) : calC H' b := by
  intro d hd
  rw [← h d hd]
  unfold fX1_isBusiness
  rw [h1, h6]
theorem calM.fr {m m' : mR} {b : Int → Bool} (hh : holOK (m.1 0)) (hw : 0 ≤ m.1 0 12 ∧ m.1 0 12 ≤ 6) (h : calM m b) (hN : ∀ k : Int, k = 3 ∨ (12 ≤ k ∧ k ≤ 32) → m'.1 0 k = m.1 0 k) : calM m' b := by
  intro d hd
  rw [← h d hd, em_isBz hd hw hh, em_isBz hd (by rw [hN 12 (by decide)]; exact hw) (hh.fr (fun k hk => hN k (by omega)))]
  unfold mB
  rw [hN 12 (by decide), hN 3 (by decide)]
  congr 2
  unfold biz
  rw [holN_fr (N := m.1 0) (fun k hk => hN k (by omega)) _ _ (by have := hh.1; have := hh.2.1; omega)]
def ixF (b : Int → Bool) (H : hR) (o fr : Int) : Int := if ¬ nomO b H o fr = -6 ∧ nomO b H o fr < H.1 3 o 6 then fr + 1 else fr
def dtF (b : Int → Bool) (H : hR) (o k : Int) : Int := if nomO b H o k = -6 then 1095 else shZ b (nomO b H o k) (H.1 3 o 7)
theorem ixF_rng (b : Int → Bool) (H : hR) (o fr : Int) : fr ≤ ixF b H o fr ∧ ixF b H o fr ≤ fr + 1 := by
  unfold ixF; split <;> omega
/-- what stands at the next index: none, or not before the first day -/
theorem ixF_ge {b : Int → Bool} {H : hR} {o fr : Int} (h : okOrd H o) (hf : 0 ≤ fr) : nomO b H o (ixF b H o fr) = -6 ∨ H.1 3 o 6 ≤ nomO b H o (ixF b H o fr) := by
  unfold ixF
  split
  · have := nomO_ge (b := b) h (k := fr + 1) (by omega)
    omega
  · omega
theorem ixF_id {b : Int → Bool} {H : hR} {o fr : Int} (h : okOrd H o) (hf : 1 ≤ fr) : ixF b H o fr = fr := by
  have := nomO_ge (b := b) h hf
  unfold ixF
  rw [if_neg (by omega)]
theorem dtF_rng {b : Int → Bool} {H : hR} {o k : Int} (h : okOrd H o) (hk : 0 ≤ k) : dtF b H o k = 1095 ∧ nomO b H o k = -6 ∨ (¬ nomO b H o k = -6 ∧ dtF b H o k = shZ b (nomO b H o k) (H.1 3 o 7) ∧ 0 ≤ dtF b H o k ∧ dtF b H o k ≤ 1094) := by
  have h1 := nomO_rng (b := b) h hk
  unfold dtF
  by_cases g : nomO b H o k = -6
  · rw [if_pos g]; exact Or.inl ⟨rfl, g⟩
  · rw [if_neg g]
    have := shZ_rng b (d := nomO b H o k) (r := H.1 3 o 7) (by omega)
    exact Or.inr ⟨g, rfl, this⟩
theorem ixF_fr {b : Int → Bool} {H H' : hR} {o : Int} (hH : ∀ f : Int, 3 ≤ f ∧ f ≤ 7 → H'.1 3 o f = H.1 3 o f) (k : Int) : ixF b H' o k = ixF b H o k := by
  unfold ixF
  rw [nomO_fr (fun f hf => hH f (by omega)), hH 6 (by decide)]
theorem dtF_fr {b : Int → Bool} {H H' : hR} {o : Int} (hH : ∀ f : Int, 3 ≤ f ∧ f ≤ 7 → H'.1 3 o f = H.1 3 o f) (k : Int) : dtF b H' o k = dtF b H o k := by
  unfold dtF
  rw [nomO_fr (fun f hf => hH f (by omega)), hH 7 (by decide)]
/-- only an order's own numbers of what comes next are other -/
def onlyAim (o : Int) (H H' : hR) : Prop := (∀ t a f : Int, ¬ (t = 3 ∧ a = o ∧ (f = 17 ∨ f = 18 ∨ f = 19)) → H'.1 t a f = H.1 t a f) ∧ H'.2 = H.2
def aimed (b : Int → Bool) (H : hR) (o : Int) : Prop := H.1 3 o 17 = ixF b H o (H.1 3 o 16) ∧ H.1 3 o 18 = nomO b H o (ixF b H o (H.1 3 o 16)) ∧ H.1 3 o 19 = dtF b H o (ixF b H o (H.1 3 o 16))
theorem ec_aim {b : Int → Bool} {H : hR} {o : Int} (hb : calC H b) (h : okOrd H o) (hf : 0 ≤ H.1 3 o 16 ∧ H.1 3 o 16 ≤ 1900) : po (fX3_aim o H) (fun p => onlyAim o H p.2 ∧ aimed b p.2 o) := by
  have key : ∀ (H1 : hR) (k : Int), onlyAim o H H1 → H1.1 3 o 17 = k → H1.1 3 o 18 = nomO b H o k → 0 ≤ k → ixF b H o (H.1 3 o 16) = k → po (fX3_aim_b64 o H1) (fun p => onlyAim o H p.2 ∧ aimed b p.2 o) := by
    intro H1 k h1 h2 h3 hk h4
    have hn := nomO_rng (b := b) h hk
    have h5 := h1.1 3 o 7 (by omega)
    have h6 : ∀ f : Int, 3 ≤ f ∧ f ≤ 7 → (hS H1 3 o 19 (dtF b H o k)).1 3 o f = H.1 3 o f := fun f hf => by rw [hS_n H1 (by omega)]; exact h1.1 3 o f (by omega)
    have hb1 : calC H1 b := hb.fr (fun a => h1.1 6 a 0 (by omega)) (h1.1 1 2 0 (by omega))
    have fin : onlyAim o H (hS H1 3 o 19 (dtF b H o k)) ∧ aimed b (hS H1 3 o 19 (dtF b H o k)) o := by
      refine ⟨⟨fun t a f q => by rw [hS_n H1 (by omega)]; exact h1.1 t a f q, h1.2⟩, ?_⟩
      have e16 : (hS H1 3 o 19 (dtF b H o k)).1 3 o 16 = H.1 3 o 16 := by rw [hS_n H1 (by omega)]; exact h1.1 3 o 16 (by omega)
      unfold aimed
      rw [e16, ixF_fr h6, h4, dtF_fr h6, nomO_fr (fun f hf => h6 f (by omega)), hS_p, hS_n H1 (by omega), hS_n H1 (by omega)]
      exact ⟨h2, h3, rfl⟩
    unfold fX3_aim_b64 fX3_aim_b92
    rw [h3]
    refine po_gd (by omega) (po_if (fun g => ?_) (fun g => ?_))
    · refine po_bnd (po_some ?_)
      have : dtF b H o k = 1095 := if_pos g
      rw [this] at fin
      exact fin
    · rw [h5]
      refine po_cre (ec_shifted hb1 (by have := h.2.2.2.2; omega)) (po_bnd (po_some ?_))
      have : dtF b H o k = shZ b (nomO b H o k) (H.1 3 o 7) := if_neg g
      rw [this] at fin
      exact fin
  have hn := nomO_rng (b := b) h hf.1
  have hfi := h.2.2.2.1
  unfold fX3_aim
  refine po_bnd ?_
  have o1 : onlyAim o H (hS H 3 o 17 (H.1 3 o 16)) := ⟨fun t a f q => hS_n H (by omega), rfl⟩
  have b1 : calC (hS H 3 o 17 (H.1 3 o 16)) b := hb.fr (fun a => hS_n H (by omega)) (hS_n H (by omega))
  have k1 : okOrd (hS H 3 o 17 (H.1 3 o 16)) o := h.fr (fun f hf => hS_n H (by omega))
  rw [hS_n H (show ¬ ((3 : Int) = 3 ∧ o = o ∧ (16 : Int) = 17) by omega)]
  refine po_cre (ec_nominal b1 k1 (by omega)) (po_bnd ?_)
  rw [nomO_fr (H := H) (H' := hS H 3 o 17 (H.1 3 o 16)) (fun f hf => hS_n H (by omega)), hS_p]
  refine po_gd (by omega) (po_if (fun g => ?_) (fun g => po_gd ?_ (po_if (fun g2 => ?_) (fun g2 => ?_))))
  · refine key _ (H.1 3 o 16) ⟨fun t a f q => by rw [hS_n _ (by omega), hS_n _ (by omega)], rfl⟩ (by rw [hS_n _ (by omega), hS_p]) (hS_p _ _ _ _ _) hf.1 (if_neg (fun q => q.1 g))
  · rw [hS_n _ (show ¬ ((3 : Int) = 3 ∧ o = o ∧ (6 : Int) = 18) by omega), hS_n _ (show ¬ ((3 : Int) = 3 ∧ o = o ∧ (6 : Int) = 17) by omega)]
    omega
  · rw [hS_n _ (show ¬ ((3 : Int) = 3 ∧ o = o ∧ (6 : Int) = 18) by omega), hS_n _ (show ¬ ((3 : Int) = 3 ∧ o = o ∧ (6 : Int) = 17) by omega)] at g2
    refine key _ (H.1 3 o 16) ⟨fun t a f q => by rw [hS_n _ (by omega), hS_n _ (by omega)], rfl⟩ (by rw [hS_n _ (by omega), hS_p]) (hS_p _ _ _ _ _) hf.1 (if_neg (by omega))
  · rw [hS_n _ (show ¬ ((3 : Int) = 3 ∧ o = o ∧ (6 : Int) = 18) by omega), hS_n _ (show ¬ ((3 : Int) = 3 ∧ o = o ∧ (6 : Int) = 17) by omega)] at g2
    refine po_bnd ?_
    rw [hS_n _ (show ¬ ((3 : Int) = 3 ∧ o = o ∧ (16 : Int) = 18) by omega), hS_n _ (show ¬ ((3 : Int) = 3 ∧ o = o ∧ (16 : Int) = 17) by omega), hS_p]
    refine po_cre (ec_nominal (b := b) (hb.fr (fun a => by rw [hS_n _ (by omega), hS_n _ (by omega), hS_n _ (by omega)]) (by rw [hS_n _ (by omega), hS_n _ (by omega), hS_n _ (by omega)])) (h.fr (fun f hf => by rw [hS_n _ (by omega), hS_n _ (by omega), hS_n _ (by omega)])) (by omega)) (po_bnd ?_)
    rw [nomO_fr (b := b) (H := H) (H' := hS (hS (hS H 3 o 17 (H.1 3 o 16)) 3 o 18 (nomO b H o (H.1 3 o 16))) 3 o 17 (H.1 3 o 16 + 1)) (fun f hf => by rw [hS_n _ (by omega), hS_n _ (by omega), hS_n _ (by omega)])]
    exact key _ (H.1 3 o 16 + 1) ⟨fun t a f q => by rw [hS_n _ (by omega), hS_n _ (by omega), hS_n _ (by omega), hS_n _ (by omega)], rfl⟩ (by rw [hS_n _ (by omega), hS_p]) (hS_p _ _ _ _ _) (by omega) (if_pos ⟨g, by omega⟩)
/-- the reference's answer for an index -/
def nomR (x fi : Int) : Int := if x = -6 then 5000 else if x < fi then -6 else x
theorem em_nominal {b : Int → Bool} {H : hR} {m : mR} {o k : Int} (hb : calM m b) (h : okOrd H o) (hc : ∀ f : Int, 0 ≤ f ∧ f ≤ 15 → m.1 0 (121 + 16 * o + f) = ordN H o f) (ho : 0 ≤ o ∧ o < 16) (hk : 0 ≤ k ∧ k ≤ 2000) : fX7_nominal o k m = some (nomR (nomO b H o k) (H.1 3 o 6)) := by
  have hn := nomO_rng (b := b) h hk.1
  obtain ⟨h1, h2, h3, h4, h5⟩ := h
  have hp := mul_bnd hk.1 hk.2 (show 0 ≤ H.1 3 o 4 by omega) h2.2
  have hm := mOf_in h4
  have c6 : m.1 0 (121 + 16 * o + 6) = H.1 3 o 6 := hc 6 (by decide)
  have c3 : m.1 0 (121 + 16 * o + 3) = H.1 3 o 3 := hc 3 (by decide)
  have c4 : m.1 0 (121 + 16 * o + 4) = H.1 3 o 4 := hc 4 (by decide)
  have c5 : m.1 0 (121 + 16 * o + 5) = H.1 3 o 5 := hc 5 (by decide)
  have e0 : H.1 3 o 3 = 0 → nomO b H o k = if 1094 < H.1 3 o 6 + k * H.1 3 o 4 then -6 else H.1 3 o 6 + k * H.1 3 o 4 := fun g => if_pos g
  have e1 : H.1 3 o 3 = 1 → nomO b H o k = if 1094 < H.1 3 o 6 + 7 * (k * H.1 3 o 4) then -6 else H.1 3 o 6 + 7 * (k * H.1 3 o 4) := fun g => (if_neg (by omega)).trans (if_pos g)
  have e2 : ¬ H.1 3 o 3 = 0 → ¬ H.1 3 o 3 = 1 → nomO b H o k = if 35 < mOf (H.1 3 o 6) + k * H.1 3 o 4 then -6 else if H.1 3 o 3 = 2 then min (mFirst (mOf (H.1 3 o 6) + k * H.1 3 o 4) + H.1 3 o 5 - 1) (mLast (mOf (H.1 3 o 6) + k * H.1 3 o 4)) else lastOfB b (mOf (H.1 3 o 6) + k * H.1 3 o 4) := fun g g' => (if_neg g).trans (if_neg g')
  have fin : ∀ x : Int, -100000 ≤ x ∧ x ≤ 1000000 → fX7_nominal_b102 m (H.1 3 o 6) x = some (if 1094 < x then 5000 else if x < H.1 3 o 6 then -6 else x) := by
    intro x hx
    refine po_eq ?_
    unfold fX7_nominal_b102
    refine po_gd (by omega) (po_if (fun g => po_gd (by omega) (po_if (fun g2 => po_some ?_) (fun g2 => po_some ?_))) (fun g => po_some ?_))
    · rw [if_neg (by omega), if_neg (by omega)]
    · rw [if_neg (by omega), if_pos (by omega)]
    · rw [if_pos (by omega)]
  refine po_eq ?_
  unfold fX7_nominal
  refine po_cre (ev_ofO (by omega)) (po_cre (ev_ofO (by omega)) (po_cre (ev_ofO (by omega)) ?_))
  rw [c6, c3, c4]
  refine po_gd (by omega) (po_if (fun g => po_cre (em_monthOf h4) (po_gd (by omega) (po_if (fun g2 => po_gd (by omega) (po_if (fun g3 => ?_) (fun g3 => ?_))) (fun g2 => po_some ?_)))) (fun g => po_gd (by omega) (po_if (fun g2 => ?_) (fun g2 => ?_))))
  · have e := e2 (by omega) (by omega)
    have hr := m_rng (m := mOf (H.1 3 o 6) + k * H.1 3 o 4) (by omega)
    rw [if_neg (by omega), if_pos g3] at e
    have hd : fX7_dayIn (mOf (H.1 3 o 6) + k * H.1 3 o 4) (H.1 3 o 5) = some (nomO b H o k) := by
      refine po_eq ?_
      unfold fX7_dayIn
      refine po_cre (em_length (by omega)) (po_cre (em_start (by omega)) (po_gd (by omega) (po_if (fun g4 => po_some ?_) (fun g4 => po_some ?_))))
      · omega
      · omega
    refine po_cre (ev_ofO (by omega)) ?_
    rw [c5]
    refine po_cre hd (po_of (fin _ (by omega)) ?_)
    unfold nomR
    rw [if_neg (by omega), if_neg (show ¬ nomO b H o k = -6 by omega)]
  · have e := e2 (by omega) (by omega)
    have hr := m_rng (m := mOf (H.1 3 o 6) + k * H.1 3 o 4) (by omega)
    have hl := lastBz_rng b (mLast (mOf (H.1 3 o 6) + k * H.1 3 o 4))
    have hlo := lastOfB_rng b (mo := mOf (H.1 3 o 6) + k * H.1 3 o 4) (by omega)
    rw [if_neg (by omega), if_neg g3] at e
    have hd : fX7_lastOf (mOf (H.1 3 o 6) + k * H.1 3 o 4) m = some (nomO b H o k) := by
      rw [e]
      refine po_eq ?_
      unfold fX7_lastOf
      refine po_cre (em_start (by omega)) (po_cre (em_length (by omega)) ?_)
      rw [show mFirst (mOf (H.1 3 o 6) + k * H.1 3 o 4) + (mLast (mOf (H.1 3 o 6) + k * H.1 3 o 4) - mFirst (mOf (H.1 3 o 6) + k * H.1 3 o 4) + 1) - 1 = mLast (mOf (H.1 3 o 6) + k * H.1 3 o 4) by omega]
      refine po_cre (em_lastB hb (by omega)) (po_gd (by omega) (po_if (fun g4 => po_some ?_) (fun g4 => po_cre (em_start (by omega)) (po_gd (by omega) (po_if (fun g5 => po_some ?_) (fun g5 => po_some ?_))))))
      · exact (if_pos (by omega)).symm
      · exact (if_neg (by omega)).symm
      · exact (if_pos (by omega)).symm
    refine po_cre hd (po_of (fin _ (by omega)) ?_)
    unfold nomR
    rw [if_neg (by omega), if_neg (show ¬ nomO b H o k = -6 by omega)]
  · have e := e2 (by omega) (by omega)
    rw [if_pos (by omega)] at e
    rw [e]
    rfl
  · have e := e0 (by omega)
    refine po_of (fin _ (by omega)) ?_
    by_cases q : 1094 < H.1 3 o 6 + k * H.1 3 o 4
    · rw [if_pos q] at e
      rw [if_pos q, e]
      rfl
    · rw [if_neg q] at e
      unfold nomR
      rw [if_neg q, if_neg (show ¬ nomO b H o k = -6 by omega), e]
  · have e := e1 (by omega)
    refine po_of (fin _ (by omega)) ?_
    by_cases q : 1094 < H.1 3 o 6 + 7 * (k * H.1 3 o 4)
    · rw [if_pos q] at e
      rw [if_pos q, e]
      rfl
    · rw [if_neg q] at e
      unfold nomR
      rw [if_neg q, if_neg (show ¬ nomO b H o k = -6 by omega), e]
end
section
/-! ===== which occurrence is next; those that are left out ===== -/
def ocF (b : Int → Bool) (H : hR) (o fr : Int) : Int := if nomO b H o (ixF b H o fr) = -6 then -6 else ixF b H o fr
/-- the cells of one order -/
def corR (H : hR) (N : Int → Int) (o : Int) : Prop := ∀ f : Int, 0 ≤ f ∧ f ≤ 15 → N (121 + 16 * o + f) = ordN H o f
theorem em_occ {b : Int → Bool} {H : hR} {m : mR} {o fr : Int} (hb : calM m b) (h : okOrd H o) (hc : corR H (m.1 0) o) (ho : 0 ≤ o ∧ o < 16) (hf : 0 ≤ fr ∧ fr ≤ 1900) : fX7_occurrence o fr m = some (ocF b H o fr) := by
  have h1 := em_nominal (k := fr) hb h hc ho (by omega)
  have h2 := em_nominal (k := fr + 1) hb h hc ho (by omega)
  have n1 := nomO_rng (b := b) h hf.1
  have n2 := nomO_rng (b := b) (k := fr + 1) h (by omega)
  have g2 := nomO_ge (b := b) (k := fr + 1) h (by omega)
  have hfi := h.2.2.2.1
  have last : ∀ (fuel : Nat) (k : Int), (nomO b H o k = -6 ∨ (H.1 3 o 6 ≤ nomO b H o k ∧ nomO b H o k ≤ 1094)) → fX7_nominal o k m = some (nomR (nomO b H o k) (H.1 3 o 6)) → fX7_occurrence_b2 m (fuel + 1) o k = some (if nomO b H o k = -6 then -6 else k) := by
    intro fuel k hk e
    unfold fX7_occurrence_b2
    rw [e, cr_some]
    rcases hk with hk | hk
    · rw [show nomR (nomO b H o k) (H.1 3 o 6) = 5000 from if_pos hk, gd_pos (by decide), if_neg (by decide), cr_some, gd_pos (by decide), if_pos rfl, if_pos hk]
    · have : nomR (nomO b H o k) (H.1 3 o 6) = nomO b H o k := (if_neg (by omega)).trans (if_neg (by omega))
      rw [this, gd_pos (by omega), if_neg (by omega), cr_some, gd_pos (by omega), if_neg (by omega), if_neg (by omega)]
  unfold fX7_occurrence ocF
  by_cases g : ¬ nomO b H o fr = -6 ∧ nomO b H o fr < H.1 3 o 6
  · have e : ixF b H o fr = fr + 1 := if_pos g
    rw [e]
    show fX7_occurrence_b2 m (999999 + 1) o fr = _
    unfold fX7_occurrence_b2
    have : nomR (nomO b H o fr) (H.1 3 o 6) = -6 := (if_neg g.1).trans (if_pos g.2)
    rw [h1, cr_some, this, gd_pos (by decide), if_pos rfl]
    exact last 999998 (fr + 1) (by omega) h2
  · have e : ixF b H o fr = fr := if_neg g
    rw [e]
    exact last 999999 fr (by omega) h1
theorem em_dateBy {b : Int → Bool} {H : hR} {m : mR} {o k : Int} (hb : calM m b) (h : okOrd H o) (hc : corR H (m.1 0) o) (ho : 0 ≤ o ∧ o < 16) (hk : 0 ≤ k ∧ k ≤ 2000) (hn : ¬ nomO b H o k = -6 ∧ H.1 3 o 6 ≤ nomO b H o k) : fX7_dateBy o k m = some (dtF b H o k) := by
  have h1 := em_nominal (k := k) hb h hc ho hk
  have n1 := nomO_rng (b := b) h hk.1
  have c7 : m.1 0 (121 + 16 * o + 7) = H.1 3 o 7 := hc 7 (by decide)
  have e1 : nomR (nomO b H o k) (H.1 3 o 6) = nomO b H o k := (if_neg hn.1).trans (if_neg (by omega))
  have e2 : dtF b H o k = shZ b (nomO b H o k) (H.1 3 o 7) := if_neg hn.1
  unfold fX7_dateBy
  rw [h1, cr_some, ev_ofO (by omega), cr_some, c7, e1, em_shifted hb (by have := h.2.2.2.2; omega), cr_some, e2]
theorem ev_becomes {m : mR} {o f v : Int} (ho : 0 ≤ o ∧ o < 16) (hf : 0 ≤ f ∧ f ≤ 15) (hv : wR v) : fX7_becomes o f v m = some ((), mS m 0 (121 + 16 * o + f) v) := by
  unfold fX7_becomes
  rw [gd_pos hv, gd_pos (by omega), bnd_eq]
/-- only what an order has of its next occurrences -/
def onlyNext (o : Int) (H H' : hR) : Prop := (∀ t a f : Int, ¬ (t = 3 ∧ a = o ∧ (f = 16 ∨ f = 17 ∨ f = 18 ∨ f = 19)) → H'.1 t a f = H.1 t a f) ∧ H'.2 = H.2
def onlyN14 (o : Int) (m m' : mR) : Prop := (∀ t k : Int, ¬ (t = 0 ∧ k = 121 + 16 * o + 14) → m'.1 t k = m.1 t k) ∧ m'.2 = m.2
theorem ordN_14 {H H' : hR} {o : Int} (hH : ∀ f : Int, 0 ≤ f ∧ f ≤ 14 → H'.1 3 o f = H.1 3 o f) {f : Int} (hf : 0 ≤ f ∧ f ≤ 15) (h14 : ¬ f = 14) : ordN H' o f = ordN H o f := by
  unfold ordN
  split
  · rw [hH 1 (by decide)]
  · split
    · exact hH f (by omega)
    · split
      · rw [hH 11 (by decide), hH 10 (by decide)]
      · split
        · exact hH _ (by omega)
        · exact hH 9 (by decide)
theorem ls_leave {b : Int → Bool} {o t : Int} (ho : 0 ≤ o ∧ o < 16) (ht : 0 ≤ t ∧ t ≤ 1094) : ∀ (n fC fM : Nat) (cnt i : Int) (H : hR) (m : mR), (1096 - H.1 3 o 16).toNat = n → n < fC → n < fM → calC H b → calM m b → holOK (m.1 0) → (0 ≤ m.1 0 12 ∧ m.1 0 12 ≤ 6) → m.1 0 0 = t → okOrd H o → corR H (m.1 0) o → aimed b H o → 0 ≤ H.1 3 o 16 → H.1 3 o 16 ≤ 1095 → 0 ≤ i → i ≤ H.1 3 o 16 →
    ∃ r H' m', fX3_leaveOutBefore_b10 fC o t cnt i H = some (r, H') ∧ fX7_leavesOut_b15 fM o cnt (ocF b H o (H.1 3 o 16)) m = some (r, m') ∧ onlyNext o H H' ∧ onlyN14 o m m' ∧ corR H' (m'.1 0) o ∧ aimed b H' o ∧ H.1 3 o 16 ≤ H'.1 3 o 16 ∧ H'.1 3 o 16 ≤ 1095 ∧ t ≤ H'.1 3 o 19 ∧ cnt ≤ r ∧ r ≤ cnt + (1096 - H.1 3 o 16)
  | n, 0, _, _, _, _, _, _, h, _, _, _, _, _, _, _, _, _, _, _, _, _ => by omega
  | n, _ + 1, 0, _, _, _, _, _, _, h, _, _, _, _, _, _, _, _, _, _, _, _ => by omega
  | n, fC + 1, fM + 1, cnt, i, H, m, hn, hC, hM, hbC, hbM, hh, hw, h0, hk, hc, ha, hf0, hf1, hi0, hi1 => by
    obtain ⟨a1, a2, a3⟩ := ha
    have hx := ixF_rng b H o (H.1 3 o 16)
    have hg := ixF_ge (b := b) hk hf0
    have hr := nomO_rng (b := b) (k := ixF b H o (H.1 3 o 16)) hk (by omega)
    have hd := dtF_rng (b := b) (k := ixF b H o (H.1 3 o 16)) hk (by omega)
    by_cases g : nomO b H o (ixF b H o (H.1 3 o 16)) = -6 ∨ t ≤ dtF b H o (ixF b H o (H.1 3 o 16))
    · refine ⟨cnt, H, m, ?_, ?_, ⟨fun _ _ _ _ => rfl, rfl⟩, ⟨fun _ _ _ => rfl, rfl⟩, hc, ⟨a1, a2, a3⟩, by omega, hf1, by omega, by omega, by omega⟩
      · refine po_eq ?_
        unfold fX3_leaveOutBefore_b10
        exact po_gd (by omega) (po_if (fun _ => po_some rfl) (fun _ => po_gd (by omega) (po_ift (by omega) (po_some rfl))))
      · refine po_eq ?_
        unfold fX7_leavesOut_b15
        by_cases g1 : nomO b H o (ixF b H o (H.1 3 o 16)) = -6
        · rw [show ocF b H o (H.1 3 o 16) = -6 from if_pos g1]
          exact po_gd (by decide) (po_ift rfl (po_some rfl))
        · rw [show ocF b H o (H.1 3 o 16) = ixF b H o (H.1 3 o 16) from if_neg g1]
          refine po_gd (by omega) (po_iff (by omega) (po_cre (em_dateBy hbM hk hc ho (by omega) (by omega)) (po_cre ev_today (po_gd (by omega) (po_ift (by omega) (po_some rfl))))))
    · have g1 : ¬ nomO b H o (ixF b H o (H.1 3 o 16)) = -6 := fun q => g (Or.inl q)
      have g2 : dtF b H o (ixF b H o (H.1 3 o 16)) < t := by omega
      have s16 : (hS H 3 o 16 (H.1 3 o 17 + 1)).1 3 o 16 = ixF b H o (H.1 3 o 16) + 1 := by rw [hS_p, a1]
      have k1 : okOrd (hS H 3 o 16 (H.1 3 o 17 + 1)) o := hk.fr (fun f hf => hS_n H (by omega))
      have b1 : calC (hS H 3 o 16 (H.1 3 o 17 + 1)) b := hbC.fr (fun a => hS_n H (by omega)) (hS_n H (by omega))
      obtain ⟨⟨u1, H1⟩, e1, hon, hai⟩ := ec_aim (o := o) b1 k1 (by omega)
      have k2 : okOrd H1 o := k1.fr (fun f hf => hon.1 3 o f (by omega))
      have b2 : calC H1 b := b1.fr (fun a => hon.1 6 a 0 (by omega)) (hon.1 1 2 0 (by omega))
      have f16 : H1.1 3 o 16 = ixF b H o (H.1 3 o 16) + 1 := (hon.1 3 o 16 (by omega)).trans s16
      have hH1 : ∀ f : Int, 0 ≤ f ∧ f ≤ 15 → H1.1 3 o f = H.1 3 o f := fun f hf => (hon.1 3 o f (by omega)).trans (hS_n H (by omega))
      have hN1 : ∀ k : Int, ¬ k = 121 + 16 * o + 14 → (mS m 0 (121 + 16 * o + 14) (ixF b H o (H.1 3 o 16) + 1)).1 0 k = m.1 0 k := fun k q => mS_n m (by omega)
      have c1 : corR H1 ((mS m 0 (121 + 16 * o + 14) (ixF b H o (H.1 3 o 16) + 1)).1 0) o := by
        intro f hf
        by_cases q : f = 14
        · rw [q, mS_p]
          show _ = H1.1 3 o 16
          rw [f16]
        · rw [hN1 _ (by omega), ordN_14 (fun f hf => hH1 f (by omega)) hf q]
          exact hc f hf
      have hh1 : holOK ((mS m 0 (121 + 16 * o + 14) (ixF b H o (H.1 3 o 16) + 1)).1 0) := hh.fr (fun k q => hN1 k (by omega))
      have bm1 : calM (mS m 0 (121 + 16 * o + 14) (ixF b H o (H.1 3 o 16) + 1)) b := calM.fr hh hw hbM (fun k q => hN1 k (by omega))
      obtain ⟨r, H', m', w1, w2, w3, w4, w5, w6, w7, w8, w9, w10, w11⟩ := ls_leave ho ht (1096 - H1.1 3 o 16).toNat fC fM (cnt + 1) (i + 1) H1 _ rfl (by omega) (by omega) b2 bm1 hh1 (by rw [hN1 12 (by omega)]; exact hw) (by rw [hN1 0 (by omega)]; exact h0) k2 c1 hai (by omega) (by omega) (by omega) (by omega)
      refine ⟨r, H', m', ?_, ?_, ⟨fun t' a f q => ?_, ?_⟩, ⟨fun t' k q => (w4.1 t' k q).trans (mS_n m q), w4.2⟩, w5, w6, by omega, w8, w9, by omega, by omega⟩
      · refine po_eq ?_
        unfold fX3_leaveOutBefore_b10
        exact po_gd (by omega) (po_iff (by omega) (po_gd (by omega) (po_iff (by omega) (po_bnd (po_cle e1 (po_of w1 rfl))))))
      · refine po_eq ?_
        unfold fX7_leavesOut_b15
        rw [show ocF b H o (H.1 3 o 16) = ixF b H o (H.1 3 o 16) from if_neg g1]
        refine po_gd (by omega) (po_iff (by omega) (po_cre (em_dateBy hbM hk hc ho (by omega) (by omega)) (po_cre ev_today (po_gd (by omega) (po_iff (by omega) (po_cle (ev_becomes ho (by decide) (by omega)) ?_))))))
        have k3 : corR H1 ((mS m 0 (121 + 16 * o + 14) (ixF b H o (H.1 3 o 16) + 1)).1 0) o := c1
        refine po_cre (em_occ bm1 k2 k3 ho (by omega)) ?_
        rw [f16] at w2
        exact po_of w2 rfl
      · rw [w3.1 t' a f q]
        exact (hon.1 t' a f (by omega)).trans (hS_n H (by omega))
      · exact w3.2.trans hon.2
end
section
/-! ===== doubles: rounding, in units of 2 to the -200 ===== -/
theorem fp_nle {A B M : Nat} (hB : 0 < B) (h : A ≤ M * B) : FP.Core.nearest A B ≤ M := by
  have h1 : A / B ≤ M := Nat.div_le_of_le_mul (by rw [Nat.mul_comm]; exact h)
  have h2 := Nat.div_add_mod A B
  unfold FP.Core.nearest
  by_cases g : A / B = M
  · have h3 : A % B = 0 := by
      rw [g, Nat.mul_comm] at h2
      omega
    rw [if_pos (by omega)]
    omega
  · split
    · omega
    · split <;> omega
theorem fp_nge {A B M : Nat} (hB : 0 < B) (h : M * B ≤ A) : M ≤ FP.Core.nearest A B := by
  have h1 : M ≤ A / B := (Nat.le_div_iff_mul_le hB).mpr h
  unfold FP.Core.nearest
  split
  · omega
  · split <;> omega
theorem fp_lead {A B : Nat} (hA : 0 < A) (hB : 0 < B) : B * 2 ^ (FP.Core.leading A B).toNat ≤ A * 2 ^ (-FP.Core.leading A B).toNat ∧ A * 2 ^ (-FP.Core.leading A B - 1).toNat < B * 2 ^ (FP.Core.leading A B + 1).toNat := by
  have a1 : 2 ^ A.log2 ≤ A := Nat.log2_self_le (by omega)
  have a2 : A < 2 ^ (A.log2 + 1) := Nat.lt_log2_self
  have b1 : 2 ^ B.log2 ≤ B := Nat.log2_self_le (by omega)
  have b2 : B < 2 ^ (B.log2 + 1) := Nat.lt_log2_self
  generalize hk : FP.Core.leading A B = k
  unfold FP.Core.leading at hk
  generalize A.log2 = a at *
  generalize B.log2 = b at *
  have hk : (if B * 2 ^ ((a : Int) - b).toNat ≤ A * 2 ^ (-((a : Int) - b)).toNat then ((a : Int) - b) else (a : Int) - b - 1) = k := hk
  by_cases g : B * 2 ^ ((a : Int) - b).toNat ≤ A * 2 ^ (-((a : Int) - b)).toNat
  · rw [if_pos g] at hk
    subst hk
    refine ⟨g, ?_⟩
    by_cases q : b ≤ a
    · rw [show (-((a : Int) - b) - 1).toNat = 0 by omega, show ((a : Int) - b + 1).toNat = a - b + 1 by omega, Nat.pow_zero, Nat.mul_one]
      calc A < 2 ^ (a + 1) := a2
        _ = 2 ^ b * 2 ^ (a - b + 1) := by rw [← Nat.pow_add]; congr 1; omega
        _ ≤ B * 2 ^ (a - b + 1) := Nat.mul_le_mul_right _ b1
    · rw [show (-((a : Int) - b) - 1).toNat = b - a - 1 by omega, show ((a : Int) - b + 1).toNat = 0 by omega, Nat.pow_zero, Nat.mul_one]
      calc A * 2 ^ (b - a - 1) < 2 ^ (a + 1) * 2 ^ (b - a - 1) := Nat.mul_lt_mul_of_pos_right a2 (Nat.two_pow_pos _)
        _ = 2 ^ b := by rw [← Nat.pow_add]; congr 1; omega
        _ ≤ B := b1
  · rw [if_neg g] at hk
    subst hk
    have g : A * 2 ^ (-((a : Int) - b)).toNat < B * 2 ^ ((a : Int) - b).toNat := by omega
    refine ⟨?_, by rw [show (-((a : Int) - b - 1) - 1) = -((a : Int) - b) by omega, show (a : Int) - b - 1 + 1 = (a : Int) - b by omega]; exact g⟩
    by_cases q : b + 1 ≤ a
    · rw [show ((a : Int) - b - 1).toNat = a - b - 1 by omega, show (-((a : Int) - b - 1)).toNat = 0 by omega, Nat.pow_zero, Nat.mul_one]
      calc B * 2 ^ (a - b - 1) ≤ 2 ^ (b + 1) * 2 ^ (a - b - 1) := Nat.mul_le_mul_right _ (by omega)
        _ = 2 ^ a := by rw [← Nat.pow_add]; congr 1; omega
        _ ≤ A := a1
    · rw [show ((a : Int) - b - 1).toNat = 0 by omega, show (-((a : Int) - b - 1)).toNat = b + 1 - a by omega, Nat.pow_zero, Nat.mul_one]
      calc B ≤ 2 ^ (b + 1) := by omega
        _ = 2 ^ a * 2 ^ (b + 1 - a) := by rw [← Nat.pow_add]; congr 1; omega
        _ ≤ A * 2 ^ (b + 1 - a) := Nat.mul_le_mul_right _ a1
/-- the place of the leading digit, in units -/
theorem fp_leadU {A B X : Nat} {e : Int} (hA : 0 < A) (hB : 0 < B) (he : -200 ≤ e) (hX : X = A * 2 ^ (e + 200).toNat) (h1 : B * 2 ^ 120 ≤ X) (h2 : X < B * 2 ^ 255) : ∃ l : Nat, FP.Core.leading A B + e + 200 = l ∧ 120 ≤ l ∧ l ≤ 254 ∧ B * 2 ^ l ≤ X ∧ X < B * 2 ^ (l + 1) := by
  obtain ⟨s1, s2⟩ := fp_lead hA hB
  generalize FP.Core.leading A B = k at *
  have hp : 1 ≤ 2 ^ 120 := Nat.one_le_two_pow
  by_cases g : 0 ≤ k + e + 200
  · obtain ⟨l, hl⟩ := Int.eq_ofNat_of_zero_le g
    have hl : k + e + 200 = (l : Int) := hl
    have u1 : B * 2 ^ l ≤ X := by
      rw [hX]
      by_cases q : 0 ≤ k
      · rw [show (-k).toNat = 0 by omega, Nat.pow_zero, Nat.mul_one] at s1
        calc B * 2 ^ l = B * 2 ^ k.toNat * 2 ^ (e + 200).toNat := by rw [Nat.mul_assoc, ← Nat.pow_add]; congr 2; omega
          _ ≤ A * 2 ^ (e + 200).toNat := Nat.mul_le_mul_right _ s1
      · rw [show k.toNat = 0 by omega, Nat.pow_zero, Nat.mul_one] at s1
        calc B * 2 ^ l ≤ A * 2 ^ (-k).toNat * 2 ^ l := Nat.mul_le_mul_right _ s1
          _ = A * 2 ^ (e + 200).toNat := by rw [Nat.mul_assoc, ← Nat.pow_add]; congr 2; omega
    have u2 : X < B * 2 ^ (l + 1) := by
      rw [hX]
      by_cases q : 0 ≤ k
      · rw [show (-k - 1).toNat = 0 by omega, Nat.pow_zero, Nat.mul_one] at s2
        calc A * 2 ^ (e + 200).toNat < B * 2 ^ (k + 1).toNat * 2 ^ (e + 200).toNat := Nat.mul_lt_mul_of_pos_right s2 (Nat.two_pow_pos _)
          _ = B * 2 ^ (l + 1) := by rw [Nat.mul_assoc, ← Nat.pow_add]; congr 2; omega
      · rw [show (k + 1).toNat = 0 by omega, Nat.pow_zero, Nat.mul_one] at s2
        calc A * 2 ^ (e + 200).toNat = A * 2 ^ (-k - 1).toNat * 2 ^ (l + 1) := by rw [Nat.mul_assoc, ← Nat.pow_add]; congr 2; omega
          _ < B * 2 ^ (l + 1) := Nat.mul_lt_mul_of_pos_right s2 (Nat.two_pow_pos _)
    refine ⟨l, hl, ?_, ?_, u1, u2⟩
    · by_cases q : 120 ≤ l
      · exact q
      · exfalso
        have : B * 2 ^ (l + 1) ≤ B * 2 ^ 120 := Nat.mul_le_mul_left _ (Nat.pow_le_pow_right (by omega) (by omega))
        omega
    · by_cases q : l ≤ 254
      · exact q
      · exfalso
        have : B * 2 ^ 255 ≤ B * 2 ^ l := Nat.mul_le_mul_left _ (Nat.pow_le_pow_right (by omega) (by omega))
        omega
  · exfalso
    rw [show (k + 1).toNat = 0 by omega, Nat.pow_zero, Nat.mul_one] at s2
    have : A * 2 ^ (e + 200).toNat ≤ A * 2 ^ (-k - 1).toNat := Nat.mul_le_mul_left _ (Nat.pow_le_pow_right (by omega) (by omega))
    have : B * 1 ≤ B * 2 ^ 120 := Nat.mul_le_mul_left _ hp
    omega
/-- a rounded quotient: below and above whatever has at most 53 digits -/
theorem fp_rr {A B X : Nat} {e : Int} (hA : 0 < A) (hB : 0 < B) (he : -200 ≤ e) (hX : X = A * 2 ^ (e + 200).toNat) (h1 : B * 2 ^ 120 ≤ X) (h2 : X < B * 2 ^ 255) :
    ∃ c l : Nat, FP.Core.roundRatio FP.Core.b64 false A B e = .fin false c ((l : Int) - 252) ∧ 2 ^ 52 ≤ c ∧ c < 2 ^ 53 ∧ 120 ≤ l ∧ l ≤ 255 ∧ (∀ M G : Nat, M ≤ 2 ^ 53 → X ≤ B * (M * 2 ^ G) → c * 2 ^ (l - 52) ≤ M * 2 ^ G) ∧ ∀ M G : Nat, M ≤ 2 ^ 53 → B * (M * 2 ^ G) ≤ X → M * 2 ^ G ≤ c * 2 ^ (l - 52) := by
  obtain ⟨l, hl, l1, l2, u1, u2⟩ := fp_leadU hA hB he hX h1 h2
  have hq : FP.Core.quantum FP.Core.b64 A B e = (l : Int) - 252 := by
    unfold FP.Core.quantum
    rw [show FP.Core.b64.qmin = -1074 by decide, show (FP.Core.b64.p : Int) - 1 = 52 by decide]
    omega
  -- units
  have hAD : FP.Core.unitsNum A e ((l : Int) - 252) * (B * 2 ^ (l - 52)) = FP.Core.unitsDen B e ((l : Int) - 252) * X := by
    unfold FP.Core.unitsNum FP.Core.unitsDen
    rw [hX]
    by_cases g : (l : Int) - 252 ≤ e
    · rw [show ((l : Int) - 252 - e).toNat = 0 by omega, Nat.pow_zero, Nat.mul_one]
      rw [show (e + 200).toNat = (e - ((l : Int) - 252)).toNat + (l - 52) by omega, Nat.pow_add]
      ac_rfl
    · rw [show (e - ((l : Int) - 252)).toNat = 0 by omega, Nat.pow_zero, Nat.mul_one]
      rw [show l - 52 = ((l : Int) - 252 - e).toNat + (e + 200).toNat by omega, Nat.pow_add]
      ac_rfl
  have hU : 0 < FP.Core.unitsDen B e ((l : Int) - 252) := Nat.mul_pos hB (Nat.two_pow_pos _)
  have hD : 0 < B * 2 ^ (l - 52) := Nat.mul_pos hB (Nat.two_pow_pos _)
  generalize hA' : FP.Core.unitsNum A e ((l : Int) - 252) = A' at *
  generalize hB' : FP.Core.unitsDen B e ((l : Int) - 252) = B' at *
  have up : ∀ M : Nat, X ≤ B * (M * 2 ^ (l - 52)) → FP.Core.nearest A' B' ≤ M := fun M h => by
    refine fp_nle hU (Nat.le_of_mul_le_mul_right ?_ hD)
    rw [hAD]
    calc B' * X ≤ B' * (B * (M * 2 ^ (l - 52))) := Nat.mul_le_mul_left _ h
      _ = M * B' * (B * 2 ^ (l - 52)) := by ac_rfl
  have dn : ∀ M : Nat, B * (M * 2 ^ (l - 52)) ≤ X → M ≤ FP.Core.nearest A' B' := fun M h => by
    refine fp_nge hU (Nat.le_of_mul_le_mul_right ?_ hD)
    rw [hAD]
    calc M * B' * (B * 2 ^ (l - 52)) = B' * (B * (M * 2 ^ (l - 52))) := by ac_rfl
      _ ≤ B' * X := Nat.mul_le_mul_left _ h
  have el : 2 ^ 52 * 2 ^ (l - 52) = 2 ^ l := by rw [← Nat.pow_add]; congr 1; omega
  have el1 : 2 ^ 53 * 2 ^ (l - 52) = 2 ^ (l + 1) := by rw [← Nat.pow_add]; congr 1; omega
  have n1 : 2 ^ 52 ≤ FP.Core.nearest A' B' := dn _ (by rw [el]; exact u1)
  have n2 : FP.Core.nearest A' B' ≤ 2 ^ 53 := up _ (by rw [el1]; exact Nat.le_of_lt u2)
  have b1 : ∀ M G : Nat, M ≤ 2 ^ 53 → X ≤ B * (M * 2 ^ G) → FP.Core.nearest A' B' * 2 ^ (l - 52) ≤ M * 2 ^ G := fun M G hM h => by
    by_cases g : l - 52 ≤ G
    · have e1 : M * 2 ^ G = M * 2 ^ (G - (l - 52)) * 2 ^ (l - 52) := by rw [Nat.mul_assoc, ← Nat.pow_add]; congr 2; omega
      rw [e1] at h ⊢
      exact Nat.mul_le_mul_right _ (up _ h)
    · have e2 : M * 2 ^ G ≤ 2 ^ l := by
        calc M * 2 ^ G ≤ 2 ^ 53 * 2 ^ G := Nat.mul_le_mul_right _ hM
          _ = 2 ^ (53 + G) := by rw [← Nat.pow_add]
          _ ≤ 2 ^ l := Nat.pow_le_pow_right (by omega) (by omega)
      have e3 : 2 ^ l ≤ M * 2 ^ G := Nat.le_of_mul_le_mul_left (Nat.le_trans u1 h) hB
      have e4 : FP.Core.nearest A' B' ≤ 2 ^ 52 := up _ (by rw [el]; exact Nat.le_trans h (Nat.mul_le_mul_left _ e2))
      calc FP.Core.nearest A' B' * 2 ^ (l - 52) ≤ 2 ^ 52 * 2 ^ (l - 52) := Nat.mul_le_mul_right _ e4
        _ = 2 ^ l := el
        _ ≤ M * 2 ^ G := e3
  have b2 : ∀ M G : Nat, M ≤ 2 ^ 53 → B * (M * 2 ^ G) ≤ X → M * 2 ^ G ≤ FP.Core.nearest A' B' * 2 ^ (l - 52) := fun M G hM h => by
    by_cases g : l - 52 ≤ G
    · have e1 : M * 2 ^ G = M * 2 ^ (G - (l - 52)) * 2 ^ (l - 52) := by rw [Nat.mul_assoc, ← Nat.pow_add]; congr 2; omega
      rw [e1] at h ⊢
      exact Nat.mul_le_mul_right _ (dn _ h)
    · calc M * 2 ^ G ≤ 2 ^ 53 * 2 ^ G := Nat.mul_le_mul_right _ hM
          _ = 2 ^ (53 + G) := by rw [← Nat.pow_add]
          _ ≤ 2 ^ l := Nat.pow_le_pow_right (by omega) (by omega)
          _ = 2 ^ 52 * 2 ^ (l - 52) := el.symm
          _ ≤ FP.Core.nearest A' B' * 2 ^ (l - 52) := Nat.mul_le_mul_right _ n1
  have er : FP.Core.roundRatio FP.Core.b64 false A B e = FP.Core.settle FP.Core.b64 false (FP.Core.nearest A' B') ((l : Int) - 252) := by
    unfold FP.Core.roundRatio FP.Core.roundAt
    rw [if_neg (by omega), hq, hA', hB']
  rw [er]
  unfold FP.Core.settle FP.Core.bound
  rw [show FP.Core.b64.qmax = 971 by decide, show FP.Core.b64.p = 53 by decide]
  by_cases g : FP.Core.nearest A' B' < 2 ^ 53
  · rw [if_pos g, if_pos (by omega)]
    exact ⟨_, l, rfl, n1, g, l1, by omega, b1, b2⟩
  · rw [if_neg g, if_pos (by omega)]
    have e5 : FP.Core.nearest A' B' = 2 ^ 53 := by omega
    rw [e5] at b1 b2
    have e6 : 2 ^ 53 * 2 ^ (l - 52) = 2 ^ 52 * 2 ^ (l + 1 - 52) := by rw [← Nat.pow_add, ← Nat.pow_add]; congr 1; omega
    rw [e6] at b1 b2
    refine ⟨2 ^ 52, l + 1, ?_, Nat.le_refl _, by omega, by omega, by omega, b1, b2⟩
    rw [show FP.Core.b64.tails = 2 ^ 52 by decide, show (l : Int) - 252 + 1 = ((l + 1 : Nat) : Int) - 252 by omega]
/-! encodings -/
theorem fp_de {c l : Nat} (h1 : 2 ^ 52 ≤ c) (h2 : c < 2 ^ 53) (h3 : 120 ≤ l ∧ l ≤ 255) : FP.Core.decode FP.Core.b64 (FP.Core.encode FP.Core.b64 (.fin false c ((l : Int) - 252))) = .fin false c ((l : Int) - 252) ∧ FP.Core.encode FP.Core.b64 (.fin false c ((l : Int) - 252)) < 2 ^ 64 := by
  have t : FP.Core.b64.tails = 4503599627370496 := by decide
  have x : FP.Core.b64.exps = 2048 := by decide
  have q : FP.Core.b64.qmin = -1074 := by decide
  have h1 : 4503599627370496 ≤ c := h1
  have h2 : c < 9007199254740992 := h2
  have e : FP.Core.encode FP.Core.b64 (.fin false c ((l : Int) - 252)) = (l + 823) * 4503599627370496 + (c - 4503599627370496) := by
    unfold FP.Core.encode FP.Core.assemble
    rw [t, x, q]
    show (if c < 4503599627370496 then _ else _) = _
    rw [if_neg (by omega), show (false.toNat * 2048 + (((l : Int) - 252 - -1074).toNat + 1)) = l + 823 by simp; omega]
  rw [e]
  refine ⟨?_, by omega⟩
  unfold FP.Core.decode FP.Core.fieldE FP.Core.fieldT FP.Core.fieldS
  rw [t, x, q]
  have f1 : ((l + 823) * 4503599627370496 + (c - 4503599627370496)) / 4503599627370496 = l + 823 := by omega
  have f2 : ((l + 823) * 4503599627370496 + (c - 4503599627370496)) % 4503599627370496 = c - 4503599627370496 := by omega
  rw [f1, f2, show (l + 823) % 2048 = l + 823 by omega, if_neg (by omega), if_neg (by omega), show (l + 823) / 2048 % 2 = 0 by omega]
  show FP.Core.Datum.fin false _ _ = _
  rw [show 4503599627370496 + (c - 4503599627370496) = c by omega, show (-1074 : Int) + (((l + 823 : Nat) : Int) - 1) = (l : Int) - 252 by omega]
/-- a double's value, in units: none, or with 53 digits -/
def dv (v : UInt64) (V : Nat) : Prop := (V = 0 ∧ ∃ q : Int, FP.Core.decode FP.Core.b64 v.toNat = .fin false 0 q) ∨ ∃ c l : Nat, FP.Core.decode FP.Core.b64 v.toNat = .fin false c ((l : Int) - 252) ∧ 2 ^ 52 ≤ c ∧ c < 2 ^ 53 ∧ 120 ≤ l ∧ l ≤ 255 ∧ V = c * 2 ^ (l - 52)
theorem dv_zero : dv FP.dconst0 0 := Or.inl ⟨rfl, -1074, by decide +kernel⟩
/-- what rounding gives, as a double -/
theorem dv_rr {A B X : Nat} {e : Int} {v : UInt64} (hv : v = UInt64.ofNat (FP.Core.encode FP.Core.b64 (FP.Core.roundRatio FP.Core.b64 false A B e))) (hB : 0 < B) (he : -200 ≤ e) (hX : X = A * 2 ^ (e + 200).toNat) (h1 : B * 2 ^ 120 ≤ X) (h2 : X < B * 2 ^ 255) :
    ∃ V : Nat, dv v V ∧ (∀ M G : Nat, M ≤ 2 ^ 53 → X ≤ B * (M * 2 ^ G) → V ≤ M * 2 ^ G) ∧ ∀ M G : Nat, M ≤ 2 ^ 53 → B * (M * 2 ^ G) ≤ X → M * 2 ^ G ≤ V := by
  have hA : 0 < A := by
    rcases Nat.eq_zero_or_pos A with q | q
    · rw [q, Nat.zero_mul] at hX
      have : 0 < B * 2 ^ 120 := Nat.mul_pos hB (Nat.two_pow_pos _)
      omega
    · exact q
  obtain ⟨c, l, r1, r2, r3, r4, r5, r6, r7⟩ := fp_rr hA hB he hX h1 h2
  obtain ⟨d1, d2⟩ := fp_de r2 r3 ⟨r4, r5⟩
  refine ⟨c * 2 ^ (l - 52), Or.inr ⟨c, l, ?_, r2, r3, r4, r5, rfl⟩, r6, r7⟩
  rw [hv, r1]
  have : (UInt64.ofNat (FP.Core.encode FP.Core.b64 (.fin false c ((l : Int) - 252)))).toNat = FP.Core.encode FP.Core.b64 (.fin false c ((l : Int) - 252)) := by
    rw [UInt64.toNat_ofNat']
    exact Nat.mod_eq_of_lt d2
  rw [this]
  exact d1
/-- the value 0 -/
theorem dv_rr0 {B : Nat} {e : Int} {v : UInt64} (hv : v = UInt64.ofNat (FP.Core.encode FP.Core.b64 (FP.Core.roundRatio FP.Core.b64 false 0 B e))) : dv v 0 := by
  have : v = 0 := by
    rw [hv]
    unfold FP.Core.roundRatio
    rw [if_pos rfl]
    decide +kernel
  rw [this]
  exact dv_zero
theorem dv_okD {v : UInt64} {V : Nat} (h : dv v V) : okD v := by
  have t : FP.Core.b64.tails = 4503599627370496 := by decide
  have x : FP.Core.b64.exps = 2048 := by decide
  have hd : ∃ c q, FP.Core.decode FP.Core.b64 v.toNat = .fin false c q := by
    rcases h with ⟨-, q, e⟩ | ⟨c, l, e, -⟩
    · exact ⟨_, _, e⟩
    · exact ⟨_, _, e⟩
  obtain ⟨c, q, e⟩ := hd
  have hE : ¬ v.toNat / 4503599627370496 % 2048 = 2047 := fun g => by
    unfold FP.Core.decode FP.Core.fieldE at e
    rw [t, x, if_pos g] at e
    split at e <;> cases e
  show v &&& 0x7fffffffffffffff ≤ 0x7ff0000000000000
  rw [UInt64.le_iff_toNat_le, UInt64.toNat_and, show (0x7fffffffffffffff : UInt64).toNat = 2 ^ 63 - 1 by decide, Nat.and_two_pow_sub_one_eq_mod, show (0x7ff0000000000000 : UInt64).toNat = 9218868437227405312 by decide]
  omega
end
section
/-! which priorities there are -/
def bitP (x P : Int) : Int := andI (shrI x P) 1
theorem bitP_c : ∀ x : Nat, x < 1024 → ∀ p : Nat, p < 10 → (0 ≤ orI x (shlI 1 p) ∧ orI x (shlI 1 p) < 1024) ∧ bitP (orI x (shlI 1 p)) p = 1 ∧ ∀ P : Nat, P < 10 → bitP x P = 1 → bitP (orI x (shlI 1 p)) P = 1 := by decide +kernel
theorem bitP_r : ∀ x : Nat, x < 1024 → ∀ P : Nat, P < 10 → bitP x P = 0 ∨ bitP x P = 1 := by decide +kernel
theorem bitP_or {x p : Int} (hx : 0 ≤ x ∧ x < 1024) (hp : 0 ≤ p ∧ p ≤ 9) : (0 ≤ orI x (shlI 1 p) ∧ orI x (shlI 1 p) < 1024) ∧ bitP (orI x (shlI 1 p)) p = 1 ∧ ∀ P : Int, 0 ≤ P ∧ P ≤ 9 → bitP x P = 1 → bitP (orI x (shlI 1 p)) P = 1 := by
  obtain ⟨k, hk, rfl⟩ := toN (n := 1024) hx
  obtain ⟨j, hj, rfl⟩ := toN (n := 10) (d := p) (by omega)
  obtain ⟨h1, h2, h3⟩ := bitP_c k (by omega) j (by omega)
  refine ⟨h1, h2, fun P hP => ?_⟩
  obtain ⟨i, hi, rfl⟩ := toN (n := 10) (d := P) (by omega)
  exact h3 i (by omega)
theorem bitP_rng {x P : Int} (hx : 0 ≤ x ∧ x < 1024) (hp : 0 ≤ P ∧ P ≤ 9) : bitP x P = 0 ∨ bitP x P = 1 := by
  obtain ⟨k, hk, rfl⟩ := toN (n := 1024) hx
  obtain ⟨j, hj, rfl⟩ := toN (n := 10) (d := P) (by omega)
  exact bitP_r k (by omega) j (by omega)
end
section
/-! ===== what always holds of a house ===== -/
def monB (T t : Int) : Int := 100000000 * T + 2251799813685248 * t
def okS (H : hR) : Prop := (0 ≤ H.1 0 6 0 ∧ H.1 0 6 0 ≤ 1094) ∧ (0 ≤ H.1 1 2 0 ∧ H.1 1 2 0 ≤ 6) ∧ (1 ≤ H.1 0 7 0 ∧ H.1 0 7 0 ≤ 9) ∧ (0 ≤ H.1 0 8 0 ∧ H.1 0 8 0 ≤ 10000) ∧ (0 ≤ H.1 0 9 0 ∧ H.1 0 9 0 ≤ 1000) ∧ (0 ≤ H.1 0 10 0 ∧ H.1 0 10 0 ≤ 8400 * H.1 0 6 0)
def okA (H : hR) : Prop := ∀ a : Int, 0 ≤ a ∧ a < H.1 0 4 0 → (0 ≤ H.1 2 a 0 ∧ H.1 2 a 0 ≤ 1000000) ∧ (0 ≤ H.1 2 a 1 ∧ H.1 2 a 1 ≤ 1000000) ∧ (H.1 2 a 2 = -6 ∨ (0 ≤ H.1 2 a 2 ∧ H.1 2 a 2 < H.1 0 4 0 ∧ ¬ H.1 2 a 2 = a))
def okP (H : hR) (o : Int) : Prop := (0 ≤ H.1 3 o 0 ∧ H.1 3 o 0 < H.1 0 4 0) ∧ (H.1 3 o 1 = -6 ∨ (0 ≤ H.1 3 o 1 ∧ H.1 3 o 1 < H.1 0 4 0 ∧ ¬ H.1 3 o 1 = H.1 3 o 0)) ∧ (1 ≤ H.1 3 o 2 ∧ H.1 3 o 2 ≤ 1000000) ∧ (0 ≤ H.1 3 o 8 ∧ H.1 3 o 8 ≤ 9) ∧ (0 ≤ H.1 3 o 9 ∧ H.1 3 o 9 ≤ 1) ∧ (0 ≤ H.1 3 o 10 ∧ H.1 3 o 10 ≤ 99) ∧ (0 ≤ H.1 3 o 11 ∧ H.1 3 o 11 ≤ 2)
def okC (H : hR) (o : Int) : Prop := 0 ≤ H.1 3 o 12 ∧ 0 ≤ H.1 3 o 13 ∧ 0 ≤ H.1 3 o 14 ∧ 0 ≤ H.1 3 o 15 ∧ H.1 3 o 12 + H.1 3 o 13 + H.1 3 o 14 + H.1 3 o 15 ≤ H.1 3 o 16 ∧ H.1 3 o 16 ≤ 1095
def okO (H : hR) : Prop := ∀ o : Int, 0 ≤ o ∧ o < H.1 0 5 0 → okOrd H o ∧ okP H o ∧ okC H o
def okW (H : hR) : Prop := (∀ i : Int, 0 ≤ i ∧ i < H.1 4 2 0 → (0 ≤ H.1 5 0 i ∧ H.1 5 0 i < H.1 0 5 0) ∧ (1 ≤ H.1 5 1 i ∧ H.1 5 1 i ≤ 1000000) ∧ (0 ≤ H.1 5 2 i ∧ H.1 5 2 i ≤ 1094) ∧ (0 ≤ H.1 5 3 i ∧ H.1 5 3 i ≤ 1094) ∧ (0 ≤ H.1 5 4 i ∧ H.1 5 4 i ≤ 8)) ∧
  ∀ i j : Int, 0 ≤ i → i < j → j < H.1 4 2 0 → H.1 5 3 i < H.1 5 3 j ∨ (H.1 5 3 i = H.1 5 3 j ∧ H.1 5 0 i ≤ H.1 5 0 j)
/-- what waits for an account; how many wait of an order -/
def sumW (H : hR) (a : Int) : Nat → Int
  | 0 => 0
  | n + 1 => sumW H a n + (if H.1 3 (H.1 5 0 n) 0 = a then H.1 5 1 n else 0)
def cntW (H : hR) (o : Int) : Nat → Int
  | 0 => 0
  | n + 1 => cntW H o n + (if H.1 5 0 n = o then 1 else 0)
def sumF (H : hR) (f : Int) : Nat → Int
  | 0 => 0
  | n + 1 => sumF H f n + H.1 3 n f
def okU (H : hR) : Prop := (∀ a : Int, 0 ≤ a ∧ a < H.1 0 4 0 → H.1 2 a 11 = sumW H a (H.1 4 2 0).toNat) ∧ ∀ o : Int, 0 ≤ o ∧ o < H.1 0 5 0 → H.1 3 o 15 = cntW H o (H.1 4 2 0).toNat
def okM (T : Int) (H : hR) : Prop := ∀ a : Int, 0 ≤ a ∧ a < H.1 0 4 0 → ∀ f : Int, 3 ≤ f ∧ f ≤ 10 → -monB T (H.1 0 6 0) ≤ H.1 2 a f ∧ H.1 2 a f ≤ monB T (H.1 0 6 0)
/-- a double that is at most n over 2 to the 80th -/
def owV (v : UInt64) (n : Int) : Prop := 0 ≤ n ∧ ∃ V : Nat, dv v V ∧ (V : Int) ≤ n * 2 ^ 120
def debtB : Nat → Int
  | 0 => 0
  | t + 1 => debtB t + debtB t / 128 + 134217728
def okQ (H : hR) : Prop := ∀ a : Int, 0 ≤ a ∧ a < H.1 0 4 0 → ∃ n : Int, owV (H.2 a) n ∧ n ≤ debtB (H.1 0 6 0).toNat * 2 ^ 80 ∧ -H.1 2 a 3 * 2 ^ 80 + n ≤ debtB (H.1 0 6 0).toNat * 2 ^ 80
def Ok (T : Int) (H : hR) : Prop := okN H ∧ okS H ∧ okA H ∧ okO H ∧ okW H ∧ okU H ∧ okM T H ∧ okQ H
def Tot (H : hR) (N : Int → Int) : Prop := N 5 = sumF H 12 (H.1 0 5 0).toNat ∧ N 6 = sumF H 13 (H.1 0 5 0).toNat ∧ N 7 = sumF H 14 (H.1 0 5 0).toNat
def Sim (T : Int) (H : hR) (m : mR) : Prop := CorM H m ∧ Tot H (m.1 0) ∧ Ok T H
theorem okS.fr {H H' : hR} (h : okS H) (hH : ∀ t a : Int, (t = 0 ∧ (6 ≤ a ∧ a ≤ 10)) ∨ (t = 1 ∧ a = 2) → H'.1 t a 0 = H.1 t a 0) : okS H' := by
  unfold okS at *
  rw [hH 0 6 (by decide), hH 1 2 (by decide), hH 0 7 (by decide), hH 0 8 (by decide), hH 0 9 (by decide), hH 0 10 (by decide)]
  exact h
theorem okA.fr {H H' : hR} (h : okA H) (h4 : H'.1 0 4 0 = H.1 0 4 0) (hH : ∀ a f : Int, 0 ≤ f ∧ f ≤ 2 → H'.1 2 a f = H.1 2 a f) : okA H' := by
  intro a ha
  rw [h4] at ha
  rw [hH a 0 (by decide), hH a 1 (by decide), hH a 2 (by decide), h4]
  exact h a ha
theorem okO.fr {H H' : hR} (h : okO H) (h4 : H'.1 0 4 0 = H.1 0 4 0) (h5 : H'.1 0 5 0 = H.1 0 5 0) (hH : ∀ o f : Int, 0 ≤ f ∧ f ≤ 16 → H'.1 3 o f = H.1 3 o f) : okO H' := by
  intro o ho
  rw [h5] at ho
  obtain ⟨h1, h2, h3⟩ := h o ho
  refine ⟨h1.fr (fun f hf => hH o f (by omega)), ?_, ?_⟩
  · unfold okP at *
    rw [hH o 0 (by decide), hH o 1 (by decide), hH o 2 (by decide), hH o 8 (by decide), hH o 9 (by decide), hH o 10 (by decide), hH o 11 (by decide), h4]
    exact h2
  · unfold okC at *
    rw [hH o 12 (by decide), hH o 13 (by decide), hH o 14 (by decide), hH o 15 (by decide), hH o 16 (by decide)]
    exact h3
theorem okW.fr {H H' : hR} (h : okW H) (h2 : H'.1 4 2 0 = H.1 4 2 0) (h5 : H'.1 0 5 0 = H.1 0 5 0) (hH : ∀ c i : Int, 0 ≤ i ∧ i < H.1 4 2 0 → H'.1 5 c i = H.1 5 c i) : okW H' := by
  refine ⟨fun i hi => ?_, fun i j hi hij hj => ?_⟩
  · rw [h2] at hi
    rw [hH 0 i hi, hH 1 i hi, hH 2 i hi, hH 3 i hi, hH 4 i hi, h5]
    exact h.1 i hi
  · rw [h2] at hj
    rw [hH 0 i (by omega), hH 3 i (by omega), hH 0 j (by omega), hH 3 j (by omega)]
    exact h.2 i j hi hij hj
theorem sumW_fr {H H' : hR} {a : Int} : ∀ n : Nat, (∀ c i : Int, 0 ≤ i ∧ i < n → H'.1 5 c i = H.1 5 c i) → (∀ i : Int, 0 ≤ i ∧ i < n → H'.1 3 (H.1 5 0 i) 0 = H.1 3 (H.1 5 0 i) 0) → sumW H' a n = sumW H a n
  | 0, _, _ => rfl
  | n + 1, h1, h2 => by
    unfold sumW
    rw [sumW_fr n (fun c i hi => h1 c i (by omega)) (fun i hi => h2 i (by omega)), h1 0 n (by omega), h1 1 n (by omega), h2 n (by omega)]
theorem cntW_fr {H H' : hR} {o : Int} : ∀ n : Nat, (∀ i : Int, 0 ≤ i ∧ i < n → H'.1 5 0 i = H.1 5 0 i) → cntW H' o n = cntW H o n
  | 0, _ => rfl
  | n + 1, h1 => by
    unfold cntW
    rw [cntW_fr n (fun i hi => h1 i (by omega)), h1 n (by omega)]
theorem sumF_fr {H H' : hR} {f : Int} : ∀ n : Nat, (∀ i : Int, 0 ≤ i ∧ i < n → H'.1 3 i f = H.1 3 i f) → sumF H' f n = sumF H f n
  | 0, _ => rfl
  | n + 1, h1 => by
    unfold sumF
    rw [sumF_fr n (fun i hi => h1 i (by omega)), h1 n (by omega)]
theorem okU.fr {H H' : hR} (h : okU H) (hn : okN H) (h2 : H'.1 4 2 0 = H.1 4 2 0) (h4 : H'.1 0 4 0 = H.1 0 4 0) (h5 : H'.1 0 5 0 = H.1 0 5 0) (hc : ∀ c i : Int, 0 ≤ i ∧ i < H.1 4 2 0 → H'.1 5 c i = H.1 5 c i) (ha : ∀ a : Int, H'.1 2 a 11 = H.1 2 a 11) (ho : ∀ o : Int, H'.1 3 o 0 = H.1 3 o 0 ∧ H'.1 3 o 15 = H.1 3 o 15) : okU H' := by
  unfold okN at hn
  refine ⟨fun a q => ?_, fun o q => ?_⟩
  · rw [h4] at q
    rw [ha, h2, sumW_fr _ (fun c i hi => hc c i (by omega)) (fun i hi => (ho _).1)]
    exact h.1 a q
  · rw [h5] at q
    rw [(ho o).2, h2, cntW_fr _ (fun i hi => hc 0 i (by omega))]
    exact h.2 o q
theorem okM.fr {T T' : Int} {H H' : hR} (h : okM T H) (hT : T ≤ T') (h4 : H'.1 0 4 0 = H.1 0 4 0) (h6 : H'.1 0 6 0 = H.1 0 6 0) (hH : ∀ a f : Int, 3 ≤ f ∧ f ≤ 10 → H'.1 2 a f = H.1 2 a f) : okM T' H' := by
  intro a ha f hf
  rw [h4] at ha
  rw [hH a f hf, h6]
  have := h a ha f hf
  unfold monB at *
  omega
theorem okQ.fr {H H' : hR} (h : okQ H) (h4 : H'.1 0 4 0 = H.1 0 4 0) (h6 : H'.1 0 6 0 = H.1 0 6 0) (hH : ∀ a : Int, H'.1 2 a 3 = H.1 2 a 3) (hD : H'.2 = H.2) : okQ H' := by
  intro a ha
  rw [h4] at ha
  rw [hH a, h6, hD]
  exact h a ha
theorem Tot.fr {H H' : hR} {N N' : Int → Int} (h : Tot H N) (h5 : H'.1 0 5 0 = H.1 0 5 0) (hH : ∀ o f : Int, 12 ≤ f ∧ f ≤ 14 → H'.1 3 o f = H.1 3 o f) (hN : ∀ k : Int, 5 ≤ k ∧ k ≤ 7 → N' k = N k) : Tot H' N' := by
  unfold Tot at *
  rw [hN 5 (by decide), hN 6 (by decide), hN 7 (by decide), h5, sumF_fr _ (fun i _ => hH i 12 (by decide)), sumF_fr _ (fun i _ => hH i 13 (by decide)), sumF_fr _ (fun i _ => hH i 14 (by decide))]
  exact h
/-- what is not read by the part that waits on the class's side alone -/
theorem Ok.mono {T T' : Int} {H : hR} (h : Ok T H) (hT : T ≤ T') : Ok T' H := by
  obtain ⟨h1, h2, h3, h4, h5, h6, h7, h8⟩ := h
  exact ⟨h1, h2, h3, h4, h5, h6, h7.fr hT rfl rfl (fun _ _ _ => rfl), h8⟩
end
section
/-! ===== calls that change a house, in step: settings, accounts ===== -/
def keptEq (m m' : mR) : Prop := m'.1 2 = m.1 2 ∧ m'.1 3 = m.1 3 ∧ m'.2 1 = m.2 1 ∧ m'.1 4 = m.1 4 ∧ m'.1 5 = m.1 5 ∧ ∀ k : Int, ¬ k = 8 → m'.1 6 k = m.1 6 k
theorem keptEq.rf (m : mR) : keptEq m m := ⟨rfl, rfl, rfl, rfl, rfl, fun _ _ => rfl⟩
theorem keptEq.tr {m m1 m2 : mR} (h : keptEq m m1) (g : keptEq m1 m2) : keptEq m m2 := by
  obtain ⟨h1, h2, h3, h4, h5, h6⟩ := h
  obtain ⟨g1, g2, g3, g4, g5, g6⟩ := g
  exact ⟨g1.trans h1, g2.trans h2, g3.trans h3, g4.trans h4, g5.trans h5, fun k hk => (g6 k hk).trans (h6 k hk)⟩
theorem keptEq.s {m m1 : mR} {t k v : Int} (h : keptEq m m1) (ht : t = 0 ∨ t = 1) : keptEq m (mS m1 t k v) := by
  refine h.tr ⟨mS_t _ _ _ (by omega), mS_t _ _ _ (by omega), rfl, mS_t _ _ _ (by omega), mS_t _ _ _ (by omega), fun j _ => ?_⟩
  rw [mS_t _ _ _ (by omega)]
theorem keptEq.d {m m1 : mR} {k : Int} {v : UInt64} (h : keptEq m m1) : keptEq m (mD m1 0 k v) := h.tr ⟨rfl, rfl, mD_t _ _ _ (by decide), rfl, rfl, fun _ _ => rfl⟩
def recOf (m m1 : mR) : Prop := fX7_records m = some ((), m1) ∧ m1.1 0 = m.1 0 ∧ m1.1 1 = m.1 1 ∧ m1.2 0 = m.2 0
theorem Sim.rec {T : Int} {H : hR} {m m1 : mR} (h : Sim T H m) (r : recOf m m1) : Sim T H m1 := by
  obtain ⟨h1, h2, h3⟩ := h
  refine ⟨h1.oth r.2.1 r.2.2.1 r.2.2.2, ?_, h3⟩
  rw [r.2.1]
  exact h2
/-- a changing call: an error, and nothing changes; or in step -/
def callOK (T : Int) (H : hR) (m : mR) (c : Option (Int × hR)) (ref : Option (Int × mR)) : Prop :=
  ∃ r H', c = some (r, H') ∧ wR r ∧ ((-5 ≤ r ∧ r ≤ -1 ∧ H' = H ∧ ref = some (r, m)) ∨ (¬ (-5 ≤ r ∧ r ≤ -1) ∧ ∀ m1, recOf m m1 → ∃ m', ref = some (r, m') ∧ Sim (T + 1) H' m' ∧ keptEq m1 m'))
theorem callErr {T : Int} {H : hR} {m : mR} {c : Option (Int × hR)} {ref : Option (Int × mR)} {r : Int} (hr : -5 ≤ r ∧ r ≤ -1) (h1 : c = some (r, H)) (h2 : ref = some (r, m)) : callOK T H m c ref := ⟨r, H, h1, by omega, Or.inl ⟨hr.1, hr.2, rfl, h2⟩⟩
theorem Cor.sc {H : hR} {m : mR} (h : CorM H m) (hk : okN H) {t a k v : Int} (hq : (t = 0 ∧ a = 6 ∧ k = 0) ∨ (t = 0 ∧ a = 10 ∧ k = 8) ∨ (t = 0 ∧ a = 7 ∧ k = 9) ∨ (t = 0 ∧ a = 8 ∧ k = 10) ∨ (t = 0 ∧ a = 9 ∧ k = 11) ∨ (t = 1 ∧ a = 2 ∧ k = 12)) : CorM (hS H t a 0 v) (mS m 0 k v) := by
  obtain ⟨h1, h2, h3, h4, h5⟩ := h
  have e1 := h1.2.1
  have e2 := h1.2.2.1
  have e4 := h1.2.2.2.2.1
  unfold okN at hk
  unfold CorM
  rw [mS_0, mS_t m _ _ (by decide), mS_2]
  refine ⟨?_, h2.fr (fun a' => hS_n H (by omega)) (fun k q => up1_n _ _ (by omega)), h3.fr (fun a f q => hS_n H (by omega)) (fun a => rfl) (fun k q => up1_n _ _ (by omega)) (fun a => rfl) (by omega), h4.fr (fun o f' q => hS_n H (by omega)) (fun k q => up1_n _ _ (by omega)) (by omega), ?_⟩
  · obtain ⟨g1, g2, g3, g4, g5, g6, g7, g8, g9, g10⟩ := h1
    rcases hq with ⟨rfl, rfl, rfl⟩ | ⟨rfl, rfl, rfl⟩ | ⟨rfl, rfl, rfl⟩ | ⟨rfl, rfl, rfl⟩ | ⟨rfl, rfl, rfl⟩ | ⟨rfl, rfl, rfl⟩ <;>
      (refine ⟨?_, ?_, ?_, ?_, ?_, ?_, ?_, ?_, ?_, ?_⟩ <;> first | (rw [up1_p, hS_p]) | (rw [up1_n _ _ (by decide), hS_n H (by decide)]; assumption))
  · rw [up1_n _ _ (by omega)]
    exact h5.fr (fun c i q => hS_n H (by omega)) (fun i q => rfl) (Int.le_refl _)
theorem Sim.sc {T : Int} {H : hR} {m : mR} (h : Sim T H m) {t a k v : Int} (hq : (t = 0 ∧ a = 7 ∧ k = 9) ∨ (t = 0 ∧ a = 8 ∧ k = 10) ∨ (t = 0 ∧ a = 9 ∧ k = 11) ∨ (t = 1 ∧ a = 2 ∧ k = 12)) (hs : okS (hS H t a 0 v)) : Sim (T + 1) (hS H t a 0 v) (mS m 0 k v) := by
  obtain ⟨hc, ht, k1, k2, k3, k4, k5, k6, k7, k8⟩ := h
  exact ⟨hc.sc k1 (by omega), ht.fr (hS_n H (by omega)) (fun o f q => hS_n H (by omega)) (fun k q => mS_n m (by omega)), k1.fr (hS_n H (by omega)) (hS_n H (by omega)) (hS_n H (by omega)) (hS_n H (by omega)), hs, k3.fr (hS_n H (by omega)) (fun a f q => hS_n H (by omega)), k4.fr (hS_n H (by omega)) (hS_n H (by omega)) (fun a f q => hS_n H (by omega)), k5.fr (hS_n H (by omega)) (hS_n H (by omega)) (fun a f q => hS_n H (by omega)), k6.fr k1 (hS_n H (by omega)) (hS_n H (by omega)) (hS_n H (by omega)) (fun a f q => hS_n H (by omega)) (fun a => hS_n H (by omega)) (fun o => ⟨hS_n H (by omega), hS_n H (by omega)⟩), k7.fr (by omega) (hS_n H (by omega)) (hS_n H (by omega)) (fun a f q => hS_n H (by omega)), k8.fr (hS_n H (by omega)) (hS_n H (by omega)) (fun a => hS_n H (by omega)) rfl⟩
theorem po_crn {α β : Type} {o : Option β} {k : β → Option α} {Q : α → Prop} (h : po o (fun y => po (k y) Q)) : po (cr o k) Q := by
  obtain ⟨y, rfl, hy⟩ := h
  exact hy
theorem po_cln {α β S : Type} {o : Option (β × S)} {k : β → S → Option α} {Q : α → Prop} (h : po o (fun p => po (k p.1 p.2) Q)) : po (cl o k) Q := by
  obtain ⟨⟨y, s⟩, rfl, hy⟩ := h
  exact hy
theorem po_sk {α β : Type} {k : β → Option α} {v : β} {Q : α → Prop} (h : po (k v) Q) : po (some v) (fun y => po (k y) Q) := ⟨v, rfl, h⟩
theorem ev_inB {v a b : Int} (h : wR64 v ∧ wR64 a ∧ wR64 b) (Q : Int → Prop) (h1 : a ≤ v ∧ v ≤ b → Q 1) (h0 : ¬ (a ≤ v ∧ v ≤ b) → Q 0) : po (fX7_isIn v a b) Q := by
  by_cases g : a ≤ v ∧ v ≤ b
  · exact po_of (ev_inT (by omega)) (h1 g)
  · exact po_of (ev_inF (by omega)) (h0 g)
theorem ev_btB {v a b : Int} (h : wR v ∧ wR a ∧ wR b) (Q : Int → Prop) (h1 : a ≤ v ∧ v ≤ b → Q 1) (h0 : ¬ (a ≤ v ∧ v ≤ b) → Q 0) : po (fX6_isBetween v a b) Q := by
  by_cases g : a ≤ v ∧ v ≤ b
  · exact po_of (ev_btT (by omega)) (h1 g)
  · exact po_of (ev_btF (by omega)) (h0 g)
theorem ls_set {T : Int} {H : hR} {m : mR} (h : Sim T H m) {s v : Int} (hs : wR s) (hv : wR v) : callOK T H m (fX2_replaceSetting s v H) (fX7_set s v m) := by
  obtain ⟨s1, s2, s3, s4, s5, s6⟩ := h.2.2.2.1
  obtain ⟨q1, q2, q3, q4, q5, q6, q7, q8, q9, q10⟩ := h.1.1
  by_cases g : 0 ≤ s ∧ s ≤ 3
  · have hs1 : s = 0 ∨ s = 1 ∨ s = 2 ∨ s = 3 := by omega
    rcases hs1 with rfl | rfl | rfl | rfl
    · have r1 : sRow 0 0 = 1 := rfl
      have r2 : sRow 1 0 = 9 := rfl
      by_cases g2 : 1 ≤ v ∧ v ≤ 9
      · refine ⟨H.1 0 7 0, hS H 0 7 0 v, po_eq ?_, by omega, Or.inr ⟨by omega, fun m1 hr => ⟨mS m1 0 9 v, po_eq ?_, (h.rec hr).sc (by omega) ?_, (keptEq.rf m1).s (by decide)⟩⟩⟩
        · unfold fX2_replaceSetting fX2_settingOf
          rw [r1, r2]
          (repeat (first | (with_reducible refine po_gd ?_ ?_; · omega) | (with_reducible refine po_bnd ?_) | (with_reducible refine po_ift ?_ ?_; · omega) | (with_reducible refine po_iff ?_ ?_; · omega) | (with_reducible refine po_crs ?_) | (with_reducible refine po_cls ?_) | (with_reducible refine po_cre (ev_btT ?_) ?_; (· omega)) | (with_reducible refine po_crn ?_) | (with_reducible refine po_sk ?_)))
          exact po_some rfl
        · have hr1 := hr.1
          unfold fX7_set fX7_isSetting
          refine po_cre (v := 1) (po_eq ?_) ?_
          · (repeat (first | (with_reducible refine po_gd ?_ ?_; · omega) | (with_reducible refine po_bnd ?_) | (with_reducible refine po_ift ?_ ?_; · omega) | (with_reducible refine po_iff ?_ ?_; · omega) | (with_reducible refine po_crs ?_) | (with_reducible refine po_cls ?_) | (with_reducible refine po_cre (ev_inT ?_) ?_; (· omega))))
            exact po_some rfl
          · (repeat (first | (with_reducible refine po_gd ?_ ?_; · omega) | (with_reducible refine po_bnd ?_) | (with_reducible refine po_ift ?_ ?_; · omega) | (with_reducible refine po_iff ?_ ?_; · omega) | (with_reducible refine po_crs ?_) | (with_reducible refine po_cls ?_) | (with_reducible refine po_cle hr1 ?_) | (with_reducible refine po_cre (ev_of ?_) ?_; (· omega))))
            refine po_some ?_
            rw [hr.2.1, show (9 : Int) + 0 = 9 from rfl, q7]
        · unfold okS
          rw [hS_p, hS_n H (by decide), hS_n H (by decide), hS_n H (by decide), hS_n H (by decide), hS_n H (by decide)]
          omega
      · refine callErr (r := -2) (by decide) (po_eq ?_) (po_eq ?_)
        · unfold fX2_replaceSetting
          rw [r1, r2]
          (repeat (first | (with_reducible refine po_gd ?_ ?_; · omega) | (with_reducible refine po_bnd ?_) | (with_reducible refine po_ift ?_ ?_; · omega) | (with_reducible refine po_iff ?_ ?_; · omega) | (with_reducible refine po_crs ?_) | (with_reducible refine po_cls ?_) | (with_reducible refine po_cre (ev_btT ?_) ?_; (· omega)) | (with_reducible refine po_cre (ev_btF ?_) ?_; (· omega))))
          exact po_some rfl
        · unfold fX7_set fX7_isSetting
          refine po_cre (v := 0) (po_eq ?_) ?_
          · (repeat (first | (with_reducible refine po_gd ?_ ?_; · omega) | (with_reducible refine po_bnd ?_) | (with_reducible refine po_ift ?_ ?_; · omega) | (with_reducible refine po_iff ?_ ?_; · omega) | (with_reducible refine po_crs ?_) | (with_reducible refine po_cls ?_) | (with_reducible refine po_cre (ev_inF ?_) ?_; (· omega))))
            exact po_some rfl
          · (repeat (first | (with_reducible refine po_gd ?_ ?_; · omega) | (with_reducible refine po_bnd ?_) | (with_reducible refine po_ift ?_ ?_; · omega) | (with_reducible refine po_iff ?_ ?_; · omega) | (with_reducible refine po_crs ?_) | (with_reducible refine po_cls ?_)))
            exact po_some rfl
    · have r1 : sRow 0 1 = 0 := rfl
      have r2 : sRow 1 1 = 10000 := rfl
      by_cases g2 : 0 ≤ v ∧ v ≤ 10000
      · refine ⟨H.1 0 8 0, hS H 0 8 0 v, po_eq ?_, by omega, Or.inr ⟨by omega, fun m1 hr => ⟨mS m1 0 10 v, po_eq ?_, (h.rec hr).sc (by omega) ?_, (keptEq.rf m1).s (by decide)⟩⟩⟩
        · unfold fX2_replaceSetting fX2_settingOf
          rw [r1, r2]
          (repeat (first | (with_reducible refine po_gd ?_ ?_; · omega) | (with_reducible refine po_bnd ?_) | (with_reducible refine po_ift ?_ ?_; · omega) | (with_reducible refine po_iff ?_ ?_; · omega) | (with_reducible refine po_crs ?_) | (with_reducible refine po_cls ?_) | (with_reducible refine po_cre (ev_btT ?_) ?_; (· omega)) | (with_reducible refine po_crn ?_) | (with_reducible refine po_sk ?_)))
          exact po_some rfl
        · have hr1 := hr.1
          unfold fX7_set fX7_isSetting
          refine po_cre (v := 1) (po_eq ?_) ?_
          · (repeat (first | (with_reducible refine po_gd ?_ ?_; · omega) | (with_reducible refine po_bnd ?_) | (with_reducible refine po_ift ?_ ?_; · omega) | (with_reducible refine po_iff ?_ ?_; · omega) | (with_reducible refine po_crs ?_) | (with_reducible refine po_cls ?_) | (with_reducible refine po_cre (ev_inT ?_) ?_; (· omega))))
            exact po_some rfl
          · (repeat (first | (with_reducible refine po_gd ?_ ?_; · omega) | (with_reducible refine po_bnd ?_) | (with_reducible refine po_ift ?_ ?_; · omega) | (with_reducible refine po_iff ?_ ?_; · omega) | (with_reducible refine po_crs ?_) | (with_reducible refine po_cls ?_) | (with_reducible refine po_cle hr1 ?_) | (with_reducible refine po_cre (ev_of ?_) ?_; (· omega))))
            refine po_some ?_
            rw [hr.2.1, show (9 : Int) + 1 = 10 from rfl, q8]
        · unfold okS
          rw [hS_p, hS_n H (by decide), hS_n H (by decide), hS_n H (by decide), hS_n H (by decide), hS_n H (by decide)]
          omega
      · refine callErr (r := -2) (by decide) (po_eq ?_) (po_eq ?_)
        · unfold fX2_replaceSetting
          rw [r1, r2]
          (repeat (first | (with_reducible refine po_gd ?_ ?_; · omega) | (with_reducible refine po_bnd ?_) | (with_reducible refine po_ift ?_ ?_; · omega) | (with_reducible refine po_iff ?_ ?_; · omega) | (with_reducible refine po_crs ?_) | (with_reducible refine po_cls ?_) | (with_reducible refine po_cre (ev_btT ?_) ?_; (· omega)) | (with_reducible refine po_cre (ev_btF ?_) ?_; (· omega))))
          exact po_some rfl
        · unfold fX7_set fX7_isSetting
          refine po_cre (v := 0) (po_eq ?_) ?_
          · (repeat (first | (with_reducible refine po_gd ?_ ?_; · omega) | (with_reducible refine po_bnd ?_) | (with_reducible refine po_ift ?_ ?_; · omega) | (with_reducible refine po_iff ?_ ?_; · omega) | (with_reducible refine po_crs ?_) | (with_reducible refine po_cls ?_) | (with_reducible refine po_cre (ev_inF ?_) ?_; (· omega))))
            exact po_some rfl
          · (repeat (first | (with_reducible refine po_gd ?_ ?_; · omega) | (with_reducible refine po_bnd ?_) | (with_reducible refine po_ift ?_ ?_; · omega) | (with_reducible refine po_iff ?_ ?_; · omega) | (with_reducible refine po_crs ?_) | (with_reducible refine po_cls ?_)))
            exact po_some rfl
    · have r1 : sRow 0 2 = 0 := rfl
      have r2 : sRow 1 2 = 1000 := rfl
      by_cases g2 : 0 ≤ v ∧ v ≤ 1000
      · refine ⟨H.1 0 9 0, hS H 0 9 0 v, po_eq ?_, by omega, Or.inr ⟨by omega, fun m1 hr => ⟨mS m1 0 11 v, po_eq ?_, (h.rec hr).sc (by omega) ?_, (keptEq.rf m1).s (by decide)⟩⟩⟩
        · unfold fX2_replaceSetting fX2_settingOf
          rw [r1, r2]
          (repeat (first | (with_reducible refine po_gd ?_ ?_; · omega) | (with_reducible refine po_bnd ?_) | (with_reducible refine po_ift ?_ ?_; · omega) | (with_reducible refine po_iff ?_ ?_; · omega) | (with_reducible refine po_crs ?_) | (with_reducible refine po_cls ?_) | (with_reducible refine po_cre (ev_btT ?_) ?_; (· omega)) | (with_reducible refine po_crn ?_) | (with_reducible refine po_sk ?_)))
          exact po_some rfl
        · have hr1 := hr.1
          unfold fX7_set fX7_isSetting
          refine po_cre (v := 1) (po_eq ?_) ?_
          · (repeat (first | (with_reducible refine po_gd ?_ ?_; · omega) | (with_reducible refine po_bnd ?_) | (with_reducible refine po_ift ?_ ?_; · omega) | (with_reducible refine po_iff ?_ ?_; · omega) | (with_reducible refine po_crs ?_) | (with_reducible refine po_cls ?_) | (with_reducible refine po_cre (ev_inT ?_) ?_; (· omega))))
            exact po_some rfl
          · (repeat (first | (with_reducible refine po_gd ?_ ?_; · omega) | (with_reducible refine po_bnd ?_) | (with_reducible refine po_ift ?_ ?_; · omega) | (with_reducible refine po_iff ?_ ?_; · omega) | (with_reducible refine po_crs ?_) | (with_reducible refine po_cls ?_) | (with_reducible refine po_cle hr1 ?_) | (with_reducible refine po_cre (ev_of ?_) ?_; (· omega))))
            refine po_some ?_
            rw [hr.2.1, show (9 : Int) + 2 = 11 from rfl, q9]
        · unfold okS
          rw [hS_p, hS_n H (by decide), hS_n H (by decide), hS_n H (by decide), hS_n H (by decide), hS_n H (by decide)]
          omega
      · refine callErr (r := -2) (by decide) (po_eq ?_) (po_eq ?_)
        · unfold fX2_replaceSetting
          rw [r1, r2]
          (repeat (first | (with_reducible refine po_gd ?_ ?_; · omega) | (with_reducible refine po_bnd ?_) | (with_reducible refine po_ift ?_ ?_; · omega) | (with_reducible refine po_iff ?_ ?_; · omega) | (with_reducible refine po_crs ?_) | (with_reducible refine po_cls ?_) | (with_reducible refine po_cre (ev_btT ?_) ?_; (· omega)) | (with_reducible refine po_cre (ev_btF ?_) ?_; (· omega))))
          exact po_some rfl
        · unfold fX7_set fX7_isSetting
          refine po_cre (v := 0) (po_eq ?_) ?_
          · (repeat (first | (with_reducible refine po_gd ?_ ?_; · omega) | (with_reducible refine po_bnd ?_) | (with_reducible refine po_ift ?_ ?_; · omega) | (with_reducible refine po_iff ?_ ?_; · omega) | (with_reducible refine po_crs ?_) | (with_reducible refine po_cls ?_) | (with_reducible refine po_cre (ev_inF ?_) ?_; (· omega))))
            exact po_some rfl
          · (repeat (first | (with_reducible refine po_gd ?_ ?_; · omega) | (with_reducible refine po_bnd ?_) | (with_reducible refine po_ift ?_ ?_; · omega) | (with_reducible refine po_iff ?_ ?_; · omega) | (with_reducible refine po_crs ?_) | (with_reducible refine po_cls ?_)))
            exact po_some rfl
    · have r1 : sRow 0 3 = 0 := rfl
      have r2 : sRow 1 3 = 6 := rfl
      by_cases g2 : 0 ≤ v ∧ v ≤ 6
      · refine ⟨H.1 1 2 0, hS H 1 2 0 v, po_eq ?_, by omega, Or.inr ⟨by omega, fun m1 hr => ⟨mS m1 0 12 v, po_eq ?_, (h.rec hr).sc (by omega) ?_, (keptEq.rf m1).s (by decide)⟩⟩⟩
        · unfold fX2_replaceSetting fX2_settingOf
          rw [r1, r2]
          (repeat (first | (with_reducible refine po_gd ?_ ?_; · omega) | (with_reducible refine po_bnd ?_) | (with_reducible refine po_ift ?_ ?_; · omega) | (with_reducible refine po_iff ?_ ?_; · omega) | (with_reducible refine po_crs ?_) | (with_reducible refine po_cls ?_) | (with_reducible refine po_cre (ev_btT ?_) ?_; (· omega)) | (with_reducible refine po_crn ?_) | (with_reducible refine po_sk ?_)))
          exact po_some rfl
        · have hr1 := hr.1
          unfold fX7_set fX7_isSetting
          refine po_cre (v := 1) (po_eq ?_) ?_
          · (repeat (first | (with_reducible refine po_gd ?_ ?_; · omega) | (with_reducible refine po_bnd ?_) | (with_reducible refine po_ift ?_ ?_; · omega) | (with_reducible refine po_iff ?_ ?_; · omega) | (with_reducible refine po_crs ?_) | (with_reducible refine po_cls ?_) | (with_reducible refine po_cre (ev_inT ?_) ?_; (· omega))))
            exact po_some rfl
          · (repeat (first | (with_reducible refine po_gd ?_ ?_; · omega) | (with_reducible refine po_bnd ?_) | (with_reducible refine po_ift ?_ ?_; · omega) | (with_reducible refine po_iff ?_ ?_; · omega) | (with_reducible refine po_crs ?_) | (with_reducible refine po_cls ?_) | (with_reducible refine po_cle hr1 ?_) | (with_reducible refine po_cre (ev_of ?_) ?_; (· omega))))
            refine po_some ?_
            rw [hr.2.1, show (9 : Int) + 3 = 12 from rfl, q10]
        · unfold okS
          rw [hS_p, hS_n H (by decide), hS_n H (by decide), hS_n H (by decide), hS_n H (by decide), hS_n H (by decide)]
          omega
      · refine callErr (r := -2) (by decide) (po_eq ?_) (po_eq ?_)
        · unfold fX2_replaceSetting
          rw [r1, r2]
          (repeat (first | (with_reducible refine po_gd ?_ ?_; · omega) | (with_reducible refine po_bnd ?_) | (with_reducible refine po_ift ?_ ?_; · omega) | (with_reducible refine po_iff ?_ ?_; · omega) | (with_reducible refine po_crs ?_) | (with_reducible refine po_cls ?_) | (with_reducible refine po_cre (ev_btT ?_) ?_; (· omega)) | (with_reducible refine po_cre (ev_btF ?_) ?_; (· omega))))
          exact po_some rfl
        · unfold fX7_set fX7_isSetting
          refine po_cre (v := 0) (po_eq ?_) ?_
          · (repeat (first | (with_reducible refine po_gd ?_ ?_; · omega) | (with_reducible refine po_bnd ?_) | (with_reducible refine po_ift ?_ ?_; · omega) | (with_reducible refine po_iff ?_ ?_; · omega) | (with_reducible refine po_crs ?_) | (with_reducible refine po_cls ?_) | (with_reducible refine po_cre (ev_inF ?_) ?_; (· omega))))
            exact po_some rfl
          · (repeat (first | (with_reducible refine po_gd ?_ ?_; · omega) | (with_reducible refine po_bnd ?_) | (with_reducible refine po_ift ?_ ?_; · omega) | (with_reducible refine po_iff ?_ ?_; · omega) | (with_reducible refine po_crs ?_) | (with_reducible refine po_cls ?_)))
            exact po_some rfl
  · refine callErr (r := -2) (by decide) (po_eq ?_) (po_eq ?_)
    · unfold fX2_replaceSetting
      (repeat (first | (with_reducible refine po_gd ?_ ?_; · omega) | (with_reducible refine po_bnd ?_) | (with_reducible refine po_ift ?_ ?_; · omega) | (with_reducible refine po_iff ?_ ?_; · omega) | (with_reducible refine po_crs ?_) | (with_reducible refine po_cls ?_) | (with_reducible refine po_cre (ev_btF ?_) ?_; (· omega))))
      exact po_some rfl
    · unfold fX7_set fX7_isSetting
      refine po_cre (v := 0) (po_eq ?_) ?_
      · (repeat (first | (with_reducible refine po_gd ?_ ?_; · omega) | (with_reducible refine po_bnd ?_) | (with_reducible refine po_ift ?_ ?_; · omega) | (with_reducible refine po_iff ?_ ?_; · omega) | (with_reducible refine po_crs ?_) | (with_reducible refine po_cls ?_)))
        exact po_some rfl
      · (repeat (first | (with_reducible refine po_gd ?_ ?_; · omega) | (with_reducible refine po_bnd ?_) | (with_reducible refine po_ift ?_ ?_; · omega) | (with_reducible refine po_iff ?_ ?_; · omega) | (with_reducible refine po_crs ?_) | (with_reducible refine po_cls ?_)))
        exact po_some rfl
end
section
/-! ===== a new account ===== -/
theorem Cor.addA {H H' : hR} {m m' : mR} {a : Int} (h : CorM H m) (hk : okN H) (ha : H.1 0 4 0 = a) (h8 : a < 8)
    (hH : ∀ t x y : Int, ¬ (t = 0 ∧ x = 4 ∧ y = 0) → ¬ (t = 2 ∧ x = a) → H'.1 t x y = H.1 t x y) (hD : ∀ j : Int, ¬ j = a → H'.2 j = H.2 j) (h4 : H'.1 0 4 0 = a + 1)
    (hN : ∀ j : Int, ¬ j = 1 → ¬ (33 + 11 * a ≤ j ∧ j < 33 + 11 * a + 11) → m'.1 0 j = m.1 0 j) (hN1 : m'.1 0 1 = a + 1) (hW : m'.1 1 = m.1 1) (hO : ∀ j : Int, ¬ j = a → m'.2 0 j = m.2 0 j)
    (he : ∀ f : Int, 0 ≤ f ∧ f ≤ 10 → m'.1 0 (33 + 11 * a + f) = H'.1 2 a f) (hoe : m'.2 0 a = H'.2 a) : CorM H' m' := by
  obtain ⟨h1, h2, h3, h4', h5⟩ := h
  have hk' := hk
  unfold okN at hk
  obtain ⟨g1, g2, g3, g4, g5, g6, g7, g8, g9, g10⟩ := h1
  refine ⟨?_, h2.fr (fun x => hH _ _ _ (by omega) (by omega)) (fun k q => hN _ (by omega) (by omega)), ?_, h4'.fr (fun o f q => hH _ _ _ (by omega) (by omega)) (fun k q => hN _ (by omega) (by omega)) (by omega), ?_⟩
  · refine ⟨?_, ?_, ?_, ?_, ?_, ?_, ?_, ?_, ?_, ?_⟩
    · rw [hN _ (by omega) (by omega), hH _ _ _ (by omega) (by omega)]; exact g1
    · rw [hN1, h4]
    all_goals (rw [hN _ (by omega) (by omega), hH _ _ _ (by omega) (by omega)]; assumption)
  · intro x hx
    rw [hN1] at hx
    by_cases hxa : x = a
    · subst hxa
      exact ⟨he, hoe⟩
    · obtain ⟨q1, q2⟩ := h3 x (by omega)
      refine ⟨fun f hf => ?_, ?_⟩
      · rw [hN _ (by omega) (by omega), hH _ _ _ (by omega) (by omega)]
        exact q1 f hf
      · rw [hO x hxa, hD x hxa]
        exact q2
  · rw [hN _ (by omega) (by omega), hW]
    exact h5.fr (fun c i q => hH _ _ _ (by omega) (by omega)) (fun i q => rfl) (Int.le_refl _)
theorem sumW_0 {H : hR} {a : Int} : ∀ n : Nat, (∀ i : Int, 0 ≤ i ∧ i < n → ¬ H.1 3 (H.1 5 0 i) 0 = a) → sumW H a n = 0
  | 0, _ => rfl
  | n + 1, h => by
    unfold sumW
    rw [sumW_0 n (fun i hi => h i (by omega)), if_neg (h n (by omega))]
    rfl
theorem owV_0 : owV FP.dconst0 0 := ⟨by decide, 0, dv_zero, by decide⟩
theorem debtB_pos : ∀ n : Nat, 0 ≤ debtB n
  | 0 => by decide
  | n + 1 => by
    have := debtB_pos n
    unfold debtB
    omega
theorem Ok.addA {T : Int} {H H' : hR} {a : Int} (hT : 0 ≤ T) (h : Ok T H) (ha : H.1 0 4 0 = a) (h8 : a < 8)
    (hH : ∀ t x y : Int, ¬ (t = 0 ∧ x = 4 ∧ y = 0) → ¬ (t = 2 ∧ x = a) → H'.1 t x y = H.1 t x y) (hD : ∀ j : Int, ¬ j = a → H'.2 j = H.2 j) (h4 : H'.1 0 4 0 = a + 1)
    (h0 : 0 ≤ H'.1 2 a 0 ∧ H'.1 2 a 0 ≤ 1000000) (h1 : 0 ≤ H'.1 2 a 1 ∧ H'.1 2 a 1 ≤ 1000000) (h2 : H'.1 2 a 2 = -6) (h3 : ∀ f : Int, 3 ≤ f ∧ f ≤ 11 → H'.1 2 a f = 0) (ho : H'.2 a = FP.dconst0) : Ok (T + 1) H' := by
  obtain ⟨k1, k2, k3, k4, k5, k6, k7, k8⟩ := h
  have e5 : H'.1 0 5 0 = H.1 0 5 0 := hH _ _ _ (by omega) (by omega)
  have e6 : H'.1 0 6 0 = H.1 0 6 0 := hH _ _ _ (by omega) (by omega)
  have e42 : H'.1 4 2 0 = H.1 4 2 0 := hH _ _ _ (by omega) (by omega)
  have k1' := k1
  unfold okN at k1'
  have ht := k2.1
  have hdb := debtB_pos (H.1 0 6 0).toNat
  refine ⟨?_, k2.fr (fun t x q => hH _ _ _ (by omega) (by omega)), ?_, ?_, k5.fr e42 e5 (fun c i _ => hH _ _ _ (by omega) (by omega)), ?_, ?_, ?_⟩
  · unfold okN
    rw [h4, e5, e42, hH 4 1 0 (by omega) (by omega)]
    exact ⟨by omega, k1'.2.1, k1'.2.2.1, k1'.2.2.2⟩
  · intro x hx
    rw [h4] at hx ⊢
    by_cases hxa : x = a
    · subst hxa
      exact ⟨h0, h1, Or.inl h2⟩
    · have := k3 x (by omega)
      rw [hH 2 x 0 (by omega) (by omega), hH 2 x 1 (by omega) (by omega), hH 2 x 2 (by omega) (by omega)]
      omega
  · intro o q
    rw [e5] at q
    obtain ⟨q1, q2, q3⟩ := k4 o q
    refine ⟨q1.fr (fun f hf => hH _ _ _ (by omega) (by omega)), ?_, ?_⟩
    · unfold okP at *
      rw [hH 3 o 0 (by omega) (by omega), hH 3 o 1 (by omega) (by omega), hH 3 o 2 (by omega) (by omega), hH 3 o 8 (by omega) (by omega), hH 3 o 9 (by omega) (by omega), hH 3 o 10 (by omega) (by omega), hH 3 o 11 (by omega) (by omega), h4]
      omega
    · unfold okC at *
      rw [hH 3 o 12 (by omega) (by omega), hH 3 o 13 (by omega) (by omega), hH 3 o 14 (by omega) (by omega), hH 3 o 15 (by omega) (by omega), hH 3 o 16 (by omega) (by omega)]
      exact q3
  · refine ⟨fun x hx => ?_, fun o q => ?_⟩
    · rw [h4] at hx
      rw [e42]
      by_cases hxa : x = a
      · subst hxa
        rw [h3 11 (by decide), sumW_0]
        intro i hi
        rw [hH 5 0 i (by omega) (by omega), hH 3 _ 0 (by omega) (by omega)]
        have q1 := (k5.1 i (by omega)).1
        have q2 := (k4 _ q1).2.1.1
        omega
      · rw [hH 2 x 11 (by omega) (by omega), sumW_fr (H := H) _ (fun c i _ => hH _ _ _ (by omega) (by omega)) (fun i _ => hH _ _ _ (by omega) (by omega))]
        exact k6.1 x (by omega)
    · rw [e5] at q
      rw [e42, hH 3 o 15 (by omega) (by omega), cntW_fr (H := H) _ (fun i _ => hH _ _ _ (by omega) (by omega))]
      exact k6.2 o q
  · intro x hx f hf
    rw [h4] at hx
    rw [e6]
    by_cases hxa : x = a
    · subst hxa
      rw [h3 f (by omega)]
      unfold monB
      omega
    · rw [hH 2 x f (by omega) (by omega)]
      have := k7 x (by omega) f hf
      unfold monB at *
      omega
  · intro x hx
    rw [h4] at hx
    rw [e6]
    by_cases hxa : x = a
    · subst hxa
      rw [h3 3 (by decide), ho]
      exact ⟨0, owV_0, by omega, by omega⟩
    · rw [hH 2 x 3 (by omega) (by omega), hD x hxa]
      exact k8 x (by omega)
theorem em_accL {a : Int} (ha : 0 ≤ a ∧ a < 8) : ∀ (n fuel : Nat) (k : Int) (m : mR), k + n = 8 → 0 ≤ k → n < fuel → po (fX7_account_b105 fuel a k m) (fun p => p.1 = a ∧ (∀ j : Int, p.2.1 0 j = if j = 1 then m.1 0 1 + 1 else if 36 + 11 * a + k ≤ j ∧ j < 44 + 11 * a then 0 else m.1 0 j) ∧ p.2.1 1 = m.1 1 ∧ (∀ j : Int, p.2.2 0 j = if j = a then FP.dconst0 else m.2 0 j) ∧ keptEq m p.2)
  | n, 0, k, m, _, _, h => by omega
  | 0, fuel + 1, k, m, h1, h2, _ => by
    unfold fX7_account_b105
    refine po_gd (by omega) (po_ift (by omega) (po_gd (by omega) (po_bnd (po_bnd (po_some ⟨rfl, fun j => ?_, ?_, fun j => ?_, (keptEq.rf m).d.s (by decide)⟩)))))
    · rw [mS_0]
      unfold up1
      rw [mD_1]
      by_cases q : j = 1
      · rw [if_pos q, if_pos q]
      · rw [if_neg q, if_neg q, if_neg (by omega)]
    · rw [mS_t _ _ _ (by decide), mD_1]
    · rw [mS_2, mD_0]
      rfl
  | n + 1, fuel + 1, k, m, h1, h2, h3 => by
    unfold fX7_account_b105
    refine po_gd (by omega) (po_iff (by omega) (po_gd (by omega) (po_bnd ((em_accL ha n fuel (k + 1) _ (by omega) (by omega) (by omega)).mono (fun p hp => ?_)))))
    obtain ⟨p1, p2, p3, p4, p5⟩ := hp
    refine ⟨p1, fun j => ?_, p3.trans (mS_t _ _ _ (by decide)), p4, ((keptEq.rf m).s (by decide)).tr p5⟩
    rw [p2 j, mS_0]
    unfold up1
    by_cases q : j = 1
    · rw [if_pos q, if_pos q, if_neg (by omega)]
    · rw [if_neg q, if_neg q]
      by_cases q2 : j = 33 + 11 * a + 3 + k
      · rw [if_neg (by omega), if_pos q2, if_pos (by omega)]
      · by_cases q3 : 36 + 11 * a + (k + 1) ≤ j ∧ j < 44 + 11 * a
        · rw [if_pos q3, if_pos (by omega)]
        · rw [if_neg q3, if_neg q2, if_neg (by omega)]
theorem ls_account {T : Int} {H : hR} {m : mR} (hT : 0 ≤ T) (h : Sim T H m) {v w : Int} (hv : wR v) (hw : wR w) : callOK T H m (fX2_addAccount v w H) (fX7_account v w m) := by
  have k1 := h.2.2.1
  have q2 := h.1.1.2.1
  have k1' := k1
  unfold okN at k1'
  by_cases g1 : 0 ≤ v ∧ v ≤ 1000000
  · by_cases g2 : 0 ≤ w ∧ w ≤ 1000000
    · by_cases g3 : H.1 0 4 0 < 8
      · have hcl : po (fX2_addAccount v w H) (fun p => p.1 = H.1 0 4 0 ∧ (∀ t x y : Int, p.2.1 t x y = if t = 0 ∧ x = 4 ∧ y = 0 then H.1 0 4 0 + 1 else if t = 2 ∧ x = H.1 0 4 0 ∧ 0 ≤ y ∧ y ≤ 11 then (if y = 0 then v else if y = 1 then w else if y = 2 then -6 else 0) else H.1 t x y) ∧ ∀ j : Int, p.2.2 j = if j = H.1 0 4 0 then FP.dconst0 else H.2 j) := by
          unfold fX2_addAccount fX0_open
          (repeat (first | (with_reducible refine po_gd ?_ ?_; · omega) | (with_reducible refine po_bnd ?_) | (with_reducible refine po_ift ?_ ?_; · omega) | (with_reducible refine po_iff ?_ ?_; · omega) | (with_reducible refine po_crs ?_) | (with_reducible refine po_cls ?_) | (with_reducible refine po_cre (ev_btT ?_) ?_; (· omega)) | (with_reducible refine po_cln ?_) | (with_reducible refine po_sk ?_)))
          refine po_some ⟨?_, fun t x y => ?_, fun j => rfl⟩
          · simp only [hS_1, hD_1]
            simp
          · by_cases q0 : t = 0 ∧ x = 4 ∧ y = 0
            · rw [if_pos q0]
              simp only [hS_1, hD_1]
              rw [if_pos q0]
              simp
            · rw [if_neg q0]
              simp only [hS_1, hD_1]
              rw [if_neg q0]
              by_cases q1 : t = 2 ∧ x = H.1 0 4 0
              · by_cases q2 : 0 ≤ y ∧ y ≤ 11
                · rw [if_pos (show t = 2 ∧ x = H.1 0 4 0 ∧ 0 ≤ y ∧ y ≤ 11 from ⟨q1.1, q1.2, q2⟩)]
                  have q3 : y = 0 ∨ y = 1 ∨ y = 2 ∨ y = 3 ∨ y = 4 ∨ y = 5 ∨ y = 6 ∨ y = 7 ∨ y = 8 ∨ y = 9 ∨ y = 10 ∨ y = 11 := by omega
                  rcases q3 with rfl | rfl | rfl | rfl | rfl | rfl | rfl | rfl | rfl | rfl | rfl | rfl <;> simp [q1.1, q1.2]
                · have q3 : ∀ k : Int, 0 ≤ k → k ≤ 11 → ¬ (t = 2 ∧ x = H.1 0 4 0 ∧ y = k) := fun k _ _ => by omega
                  rw [if_neg (show ¬ (t = 2 ∧ x = H.1 0 4 0 ∧ 0 ≤ y ∧ y ≤ 11) by omega), if_neg (q3 _ (by decide) (by decide)), if_neg (q3 _ (by decide) (by decide)), if_neg (q3 _ (by decide) (by decide)), if_neg (q3 _ (by decide) (by decide)), if_neg (q3 _ (by decide) (by decide)), if_neg (q3 _ (by decide) (by decide)), if_neg (q3 _ (by decide) (by decide)), if_neg (q3 _ (by decide) (by decide)), if_neg (q3 _ (by decide) (by decide)), if_neg (q3 _ (by decide) (by decide)), if_neg (q3 _ (by decide) (by decide)), if_neg (q3 _ (by decide) (by decide))]
              · have q3 : ∀ k : Int, ¬ (t = 2 ∧ x = H.1 0 4 0 ∧ y = k) := fun k q => q1 ⟨q.1, q.2.1⟩
                rw [if_neg (show ¬ (t = 2 ∧ x = H.1 0 4 0 ∧ 0 ≤ y ∧ y ≤ 11) from fun q => q1 ⟨q.1, q.2.1⟩)]
                simp only [q3, if_false]
        obtain ⟨⟨r, H'⟩, e1, e2, e3, e4⟩ := hcl
        have e2 : r = H.1 0 4 0 := e2
        subst e2
        have hnew : ∀ y : Int, 0 ≤ y ∧ y ≤ 11 → H'.1 2 (H.1 0 4 0) y = (if y = 0 then v else if y = 1 then w else if y = 2 then -6 else 0) := fun y hy => by
          rw [e3, if_neg (by omega), if_pos ⟨rfl, rfl, hy⟩]
        have hold : ∀ t x y : Int, ¬ (t = 0 ∧ x = 4 ∧ y = 0) → ¬ (t = 2 ∧ x = H.1 0 4 0) → H'.1 t x y = H.1 t x y := fun t x y a b => by
          rw [e3, if_neg a, if_neg (fun q => b ⟨q.1, q.2.1⟩)]
        have h4 : H'.1 0 4 0 = H.1 0 4 0 + 1 := by rw [e3, if_pos ⟨rfl, rfl, rfl⟩]
        refine ⟨_, H', e1, by omega, Or.inr ⟨by omega, fun m1 hr => ?_⟩⟩
        have hs := h.rec hr
        have q2' : m1.1 0 1 = H.1 0 4 0 := hs.1.1.2.1
        obtain ⟨p, f1, f2, f3, f4, f5, f6⟩ := em_accL (a := H.1 0 4 0) (by omega) 8 fuel0 0 (mS (mS (mS m1 0 (33 + 11 * H.1 0 4 0 + 0) v) 0 (33 + 11 * H.1 0 4 0 + 1) w) 0 (33 + 11 * H.1 0 4 0 + 2) (-6)) (by decide) (by decide) (by decide)
        have rd : ∀ j : Int, p.2.1 0 j = if j = 1 then H.1 0 4 0 + 1 else if 36 + 11 * H.1 0 4 0 ≤ j ∧ j < 44 + 11 * H.1 0 4 0 then 0 else if j = 35 + 11 * H.1 0 4 0 then -6 else if j = 34 + 11 * H.1 0 4 0 then w else if j = 33 + 11 * H.1 0 4 0 then v else m1.1 0 j := by
          intro j
          rw [f3, mS_0, mS_0, mS_0]
          unfold up1
          by_cases c1 : j = 1
          · rw [if_pos c1, if_pos c1, if_neg (by omega), if_neg (by omega), if_neg (by omega), q2']
          · rw [if_neg c1, if_neg c1]
            by_cases c2 : 36 + 11 * H.1 0 4 0 ≤ j ∧ j < 44 + 11 * H.1 0 4 0
            · rw [if_pos c2, if_pos (by omega)]
            · rw [if_neg c2, if_neg (by omega)]
              by_cases c3 : j = 35 + 11 * H.1 0 4 0
              · rw [if_pos c3, if_pos (by omega)]
              · rw [if_neg c3, if_neg (by omega)]
                by_cases c4 : j = 34 + 11 * H.1 0 4 0
                · rw [if_pos c4, if_pos (by omega)]
                · rw [if_neg c4, if_neg (by omega)]
                  by_cases c5 : j = 33 + 11 * H.1 0 4 0
                  · rw [if_pos c5, if_pos (by omega)]
                  · rw [if_neg c5, if_neg (by omega)]
        refine ⟨p.2, po_eq ?_, ⟨?_, ?_, ?_⟩, (((keptEq.rf m1).s (by decide)).s (by decide)).s (by decide) |>.tr f6⟩
        · have hr1 := hr.1
          unfold fX7_account
          (repeat (first | (with_reducible refine po_gd ?_ ?_; · omega) | (with_reducible refine po_bnd ?_) | (with_reducible refine po_ift ?_ ?_; · omega) | (with_reducible refine po_iff ?_ ?_; · omega) | (with_reducible refine po_crs ?_) | (with_reducible refine po_cls ?_) | (with_reducible refine po_cre (ev_inT ?_) ?_; (· omega)) | (with_reducible refine po_cle hr1 ?_) | (with_reducible refine po_cre (ev_of ?_) ?_; (· omega))))
          rw [q2']
          (repeat (first | (with_reducible refine po_gd ?_ ?_; · omega) | (with_reducible refine po_bnd ?_) | (with_reducible refine po_ift ?_ ?_; · omega) | (with_reducible refine po_iff ?_ ?_; · omega) | (with_reducible refine po_crs ?_) | (with_reducible refine po_cls ?_)))
          refine po_of f1 ?_
          rw [← f2]
        · refine hs.1.addA k1 rfl g3 hold (fun j hj => by rw [e4, if_neg hj]) h4 (fun j a b => ?_) ?_ ?_ (fun j hj => ?_) (fun f hf => ?_) ?_
          · rw [rd, if_neg a, if_neg (by omega), if_neg (by omega), if_neg (by omega), if_neg (by omega)]
          · rw [rd, if_pos rfl]
          · rw [f4, mS_t _ _ _ (by decide), mS_t _ _ _ (by decide), mS_t _ _ _ (by decide)]
          · rw [f5, if_neg hj]
            rfl
          · rw [hnew f (by omega), rd, if_neg (by omega)]
            by_cases c1 : f = 0
            · rw [if_neg (by omega), if_neg (by omega), if_neg (by omega), if_pos (by omega), if_pos c1]
            · by_cases c2 : f = 1
              · rw [if_neg (by omega), if_neg (by omega), if_pos (by omega), if_neg c1, if_pos c2]
              · by_cases c3 : f = 2
                · rw [if_neg (by omega), if_pos (by omega), if_neg c1, if_neg c2, if_pos c3]
                · rw [if_pos (by omega), if_neg c1, if_neg c2, if_neg c3]
          · rw [f5, if_pos rfl, e4, if_pos rfl]
        · refine hs.2.1.fr (hold _ _ _ (by omega) (by omega)) (fun o f q => hold _ _ _ (by omega) (by omega)) (fun k q => ?_)
          rw [rd, if_neg (by omega), if_neg (by omega), if_neg (by omega), if_neg (by omega), if_neg (by omega)]
        · refine hs.2.2.addA hT rfl g3 hold (fun j hj => by rw [e4, if_neg hj]) h4 ?_ ?_ ?_ (fun f hf => ?_) (by rw [e4, if_pos rfl])
          · rw [hnew 0 (by decide), if_pos rfl]; exact g1
          · rw [hnew 1 (by decide)]; exact g2
          · rw [hnew 2 (by decide)]; rfl
          · rw [hnew f (by omega), if_neg (by omega), if_neg (by omega), if_neg (by omega)]
      · refine callErr (r := -4) (by decide) (po_eq ?_) (po_eq ?_)
        · unfold fX2_addAccount
          (repeat (first | (with_reducible refine po_gd ?_ ?_; · omega) | (with_reducible refine po_bnd ?_) | (with_reducible refine po_ift ?_ ?_; · omega) | (with_reducible refine po_iff ?_ ?_; · omega) | (with_reducible refine po_crs ?_) | (with_reducible refine po_cls ?_) | (with_reducible refine po_cre (ev_btT ?_) ?_; (· omega))))
          exact po_some rfl
        · unfold fX7_account
          (repeat (first | (with_reducible refine po_gd ?_ ?_; · omega) | (with_reducible refine po_bnd ?_) | (with_reducible refine po_ift ?_ ?_; · omega) | (with_reducible refine po_iff ?_ ?_; · omega) | (with_reducible refine po_crs ?_) | (with_reducible refine po_cls ?_) | (with_reducible refine po_cre (ev_inT ?_) ?_; (· omega))))
          exact po_some rfl
    · refine callErr (r := -2) (by decide) (po_eq ?_) (po_eq ?_)
      · unfold fX2_addAccount
        (repeat (first | (with_reducible refine po_gd ?_ ?_; · omega) | (with_reducible refine po_bnd ?_) | (with_reducible refine po_ift ?_ ?_; · omega) | (with_reducible refine po_iff ?_ ?_; · omega) | (with_reducible refine po_crs ?_) | (with_reducible refine po_cls ?_) | (with_reducible refine po_cre (ev_btT ?_) ?_; (· omega)) | (with_reducible refine po_cre (ev_btF ?_) ?_; (· omega))))
        exact po_some rfl
      · unfold fX7_account
        (repeat (first | (with_reducible refine po_gd ?_ ?_; · omega) | (with_reducible refine po_bnd ?_) | (with_reducible refine po_ift ?_ ?_; · omega) | (with_reducible refine po_iff ?_ ?_; · omega) | (with_reducible refine po_crs ?_) | (with_reducible refine po_cls ?_) | (with_reducible refine po_cre (ev_inT ?_) ?_; (· omega)) | (with_reducible refine po_cre (ev_inF ?_) ?_; (· omega))))
        exact po_some rfl
  · refine callErr (r := -2) (by decide) (po_eq ?_) (po_eq ?_)
    · unfold fX2_addAccount
      (repeat (first | (with_reducible refine po_gd ?_ ?_; · omega) | (with_reducible refine po_bnd ?_) | (with_reducible refine po_ift ?_ ?_; · omega) | (with_reducible refine po_iff ?_ ?_; · omega) | (with_reducible refine po_crs ?_) | (with_reducible refine po_cls ?_) | (with_reducible refine po_cre (ev_btF ?_) ?_; (· omega))))
      exact po_some rfl
    · unfold fX7_account
      (repeat (first | (with_reducible refine po_gd ?_ ?_; · omega) | (with_reducible refine po_bnd ?_) | (with_reducible refine po_ift ?_ ?_; · omega) | (with_reducible refine po_iff ?_ ?_; · omega) | (with_reducible refine po_crs ?_) | (with_reducible refine po_cls ?_) | (with_reducible refine po_cre (ev_inF ?_) ?_; (· omega))))
      exact po_some rfl
end
section
/-! ===== feed, deposit ===== -/
theorem ev_moves {m : mR} {a w c : Int} (ha : 0 ≤ a ∧ a < 8) (hw : 0 ≤ w ∧ w ≤ 7) : fX7_moves a w c m = some ((), mS m 0 (33 + 11 * a + (3 + w)) (m.1 0 (33 + 11 * a + (3 + w)) + c)) := by
  unfold fX7_moves
  rw [gd_pos (by omega), gd_pos (by omega), bnd_eq, show 33 + 11 * a + 3 + w = 33 + 11 * a + (3 + w) by omega]
theorem Cor.at {H : hR} {m : mR} (h : CorM H m) {a f : Int} (ha : 0 ≤ a ∧ a < H.1 0 4 0) (hf : 0 ≤ f ∧ f ≤ 10) : m.1 0 (33 + 11 * a + f) = H.1 2 a f := (h.2.2.1 a (by rw [h.1.2.1]; exact ha)).1 f hf
/-- only accounts' money is other -/
theorem Ok.money {T T' : Int} {H H' : hR} (h : Ok T H) (hH : ∀ t x y : Int, ¬ (t = 2 ∧ 3 ≤ y ∧ y ≤ 10) → H'.1 t x y = H.1 t x y) (hM : okM T' H') (hQ : okQ H') : Ok T' H' := by
  obtain ⟨k1, k2, k3, k4, k5, k6, k7, k8⟩ := h
  exact ⟨k1.fr (hH _ _ _ (by omega)) (hH _ _ _ (by omega)) (hH _ _ _ (by omega)) (hH _ _ _ (by omega)), k2.fr (fun t x q => hH _ _ _ (by omega)), k3.fr (hH _ _ _ (by omega)) (fun a f q => hH _ _ _ (by omega)), k4.fr (hH _ _ _ (by omega)) (hH _ _ _ (by omega)) (fun o f q => hH _ _ _ (by omega)), k5.fr (hH _ _ _ (by omega)) (hH _ _ _ (by omega)) (fun c i q => hH _ _ _ (by omega)), k6.fr k1 (hH _ _ _ (by omega)) (hH _ _ _ (by omega)) (hH _ _ _ (by omega)) (fun c i q => hH _ _ _ (by omega)) (fun a => hH _ _ _ (by omega)) (fun o => ⟨hH _ _ _ (by omega), hH _ _ _ (by omega)⟩), hM, hQ⟩
def coreOK (T : Int) (H : hR) (m : mR) (c : Option (Int × hR)) (chk : Option Int) (core : Option (Int × mR)) : Prop :=
  ∃ r H', c = some (r, H') ∧ wR r ∧ ((-5 ≤ r ∧ r ≤ -1 ∧ H' = H ∧ chk = some r) ∨ (¬ (-5 ≤ r ∧ r ≤ -1) ∧ chk = some 0 ∧ ∃ m', core = some (r, m') ∧ Sim (T + 1) H' m' ∧ keptEq m m'))
theorem ls_deposit {T : Int} {H : hR} {m : mR} (hT : T ≤ 100000) (h : Sim T H m) {a c : Int} (ha : wR a) (hc : wR c) : coreOK T H m (fX2_payIn a c H) (fX7_checksDeposit a c m) (fX7_deposits a c m) := by
  have k1 := h.2.2.1
  have q2 := h.1.1.2.1
  have k7 := h.2.2.2.2.2.2.2.2.1
  have k8 := h.2.2.2.2.2.2.2.2.2
  have k1' := k1
  unfold okN at k1'
  by_cases g1 : 0 ≤ a ∧ a < H.1 0 4 0
  · have hA1 : fX2_hasAccount a H = some 1 := by rw [ev_hasA (by omega), bI_t (decide_eq_true g1)]
    have hA2 : fX7_isAccount a m = some 1 := by rw [ev_isA (by omega), q2, bI_t (decide_eq_true g1)]
    by_cases g2 : 1 ≤ c ∧ c ≤ 100000000
    · have m3 := k7 a g1 3 (by decide)
      have m4 := k7 a g1 4 (by decide)
      have c3 := h.1.at g1 (f := 3) (by decide)
      have c4 := h.1.at g1 (f := 4) (by decide)
      have hm2 : CorM (hS (hS H 2 a 3 (H.1 2 a 3 + c)) 2 a 4 (H.1 2 a 4 + c)) (mS (mS m 0 (33 + 11 * a + 3) (H.1 2 a 3 + c)) 0 (33 + 11 * a + 4) (H.1 2 a 4 + c)) :=
        (h.1.acc k1 (by omega) (by decide)).acc (k1.fr (hS_n H (by omega)) (hS_n H (by omega)) (hS_n H (by omega)) (hS_n H (by omega))) (by omega) (by decide)
      have ht := h.2.2.2.1.1
      have hb64 : wR64 (H.1 2 a 3 + c) := by
        unfold monB at m3
        omega
      have hTm : 100000000 * T + 2251799813685248 * H.1 0 6 0 + 100000000 = 100000000 * (T + 1) + 2251799813685248 * H.1 0 6 0 := by omega
      refine ⟨if H.1 2 a 3 + c < 0 then 0 else 1, hS (hS H 2 a 3 (H.1 2 a 3 + c)) 2 a 4 (H.1 2 a 4 + c), po_eq ?_, by split <;> omega, Or.inr ⟨by split <;> omega, po_eq ?_, mS (mS m 0 (33 + 11 * a + 3) (H.1 2 a 3 + c)) 0 (33 + 11 * a + 4) (H.1 2 a 4 + c), po_eq ?_, ⟨hm2, ?_, ?_⟩, ((keptEq.rf m).s (by decide)).s (by decide)⟩⟩
      · have r1 : (hS H 2 a 3 (H.1 2 a 3 + c)).1 2 a 4 = H.1 2 a 4 := hS_n H (by omega)
        have r2 : (hS (hS H 2 a 3 (H.1 2 a 3 + c)) 2 a 4 (H.1 2 a 4 + c)).1 2 a 3 = H.1 2 a 3 + c := by rw [hS_n _ (by omega), hS_p]
        unfold monB at m3
        unfold fX2_payIn
        (repeat (first | (with_reducible refine po_gd ?_ ?_; · omega) | (with_reducible refine po_bnd ?_) | (with_reducible refine po_ift ?_ ?_; · omega) | (with_reducible refine po_iff ?_ ?_; · omega) | (with_reducible refine po_crs ?_) | (with_reducible refine po_cls ?_) | (with_reducible refine po_cre hA1 ?_) | (with_reducible refine po_cre (ev_btT ?_) ?_; (· omega))))
        rw [r1, r2]
        refine po_gd (hb64) (po_if (fun g => po_some ?_) (fun g => po_some ?_))
        · rw [if_pos g]
        · rw [if_neg g]
      · unfold fX7_checksDeposit
        (repeat (first | (with_reducible refine po_gd ?_ ?_; · omega) | (with_reducible refine po_bnd ?_) | (with_reducible refine po_ift ?_ ?_; · omega) | (with_reducible refine po_iff ?_ ?_; · omega) | (with_reducible refine po_crs ?_) | (with_reducible refine po_cls ?_) | (with_reducible refine po_cre hA2 ?_) | (with_reducible refine po_cre (ev_inT ?_) ?_; (· omega))))
        exact po_some rfl
      · have e1 : fX7_moves a 0 c m = some ((), mS m 0 (33 + 11 * a + 3) (H.1 2 a 3 + c)) := by rw [ev_moves (by omega) (by decide), show (3 : Int) + 0 = 3 from rfl, c3]
        have e2 : fX7_moves a 1 c (mS m 0 (33 + 11 * a + 3) (H.1 2 a 3 + c)) = some ((), mS (mS m 0 (33 + 11 * a + 3) (H.1 2 a 3 + c)) 0 (33 + 11 * a + 4) (H.1 2 a 4 + c)) := by rw [ev_moves (by omega) (by decide), show (3 : Int) + 1 = 4 from rfl, mS_n m (by omega), c4]
        have e3 : fX7_moneyOf a 0 (mS (mS m 0 (33 + 11 * a + 3) (H.1 2 a 3 + c)) 0 (33 + 11 * a + 4) (H.1 2 a 4 + c)) = some (H.1 2 a 3 + c) := by rw [ev_money (by omega), show 33 + 11 * a + 3 + 0 = 33 + 11 * a + 3 by omega, mS_n _ (by omega), mS_p]
        unfold fX7_deposits
        (repeat (first | (with_reducible refine po_gd ?_ ?_; · omega) | (with_reducible refine po_bnd ?_) | (with_reducible refine po_ift ?_ ?_; · omega) | (with_reducible refine po_iff ?_ ?_; · omega) | (with_reducible refine po_crs ?_) | (with_reducible refine po_cls ?_) | (with_reducible refine po_cle e1 ?_) | (with_reducible refine po_cle e2 ?_) | (with_reducible refine po_cre e3 ?_)))
        refine po_if (fun g => po_some ?_) (fun g => po_some ?_)
        · rw [if_pos g]
        · rw [if_neg g]
      · exact h.2.1.fr (by rw [hS_n _ (by omega), hS_n _ (by omega)]) (fun o f q => by rw [hS_n _ (by omega), hS_n _ (by omega)]) (fun k q => by rw [mS_n _ (by omega), mS_n _ (by omega)])
      · refine h.2.2.money (fun t x y q => by rw [hS_n _ (by omega), hS_n _ (by omega)]) ?_ ?_
        · intro x hx f hf
          rw [hS_n _ (by omega), hS_n _ (by omega)] at hx
          rw [hS_n _ (by omega), hS_n _ (by omega), hS_1, hS_1]
          have := k7 x hx f hf
          unfold monB at *
          split
          · omega
          · split <;> omega
        · intro x hx
          rw [hS_n _ (by omega), hS_n _ (by omega)] at hx
          obtain ⟨n, w1, w2, w3⟩ := k8 x hx
          rw [hS_n _ (by omega), hS_n _ (by omega), hS_n _ (by omega), hS_1]
          refine ⟨n, w1, w2, ?_⟩
          split
          · rename_i q
            obtain ⟨-, rfl, -⟩ := q
            omega
          · exact w3
    · refine ⟨-2, H, po_eq ?_, by decide, Or.inl ⟨by decide, by decide, rfl, po_eq ?_⟩⟩
      · unfold fX2_payIn
        (repeat (first | (with_reducible refine po_gd ?_ ?_; · omega) | (with_reducible refine po_bnd ?_) | (with_reducible refine po_ift ?_ ?_; · omega) | (with_reducible refine po_iff ?_ ?_; · omega) | (with_reducible refine po_crs ?_) | (with_reducible refine po_cls ?_) | (with_reducible refine po_cre hA1 ?_) | (with_reducible refine po_cre (ev_btF ?_) ?_; (· omega))))
        exact po_some rfl
      · unfold fX7_checksDeposit
        (repeat (first | (with_reducible refine po_gd ?_ ?_; · omega) | (with_reducible refine po_bnd ?_) | (with_reducible refine po_ift ?_ ?_; · omega) | (with_reducible refine po_iff ?_ ?_; · omega) | (with_reducible refine po_crs ?_) | (with_reducible refine po_cls ?_) | (with_reducible refine po_cre hA2 ?_) | (with_reducible refine po_cre (ev_inF ?_) ?_; (· omega))))
        exact po_some rfl
  · have hA1 : fX2_hasAccount a H = some 0 := by rw [ev_hasA (by omega), bI_f (decide_eq_false g1)]
    have hA2 : fX7_isAccount a m = some 0 := by rw [ev_isA (by omega), q2, bI_f (decide_eq_false g1)]
    refine ⟨-1, H, po_eq ?_, by decide, Or.inl ⟨by decide, by decide, rfl, po_eq ?_⟩⟩
    · unfold fX2_payIn
      (repeat (first | (with_reducible refine po_gd ?_ ?_; · omega) | (with_reducible refine po_bnd ?_) | (with_reducible refine po_ift ?_ ?_; · omega) | (with_reducible refine po_iff ?_ ?_; · omega) | (with_reducible refine po_crs ?_) | (with_reducible refine po_cls ?_) | (with_reducible refine po_cre hA1 ?_)))
      exact po_some rfl
    · unfold fX7_checksDeposit
      (repeat (first | (with_reducible refine po_gd ?_ ?_; · omega) | (with_reducible refine po_bnd ?_) | (with_reducible refine po_ift ?_ ?_; · omega) | (with_reducible refine po_iff ?_ ?_; · omega) | (with_reducible refine po_crs ?_) | (with_reducible refine po_cls ?_) | (with_reducible refine po_cre hA2 ?_)))
      exact po_some rfl
theorem ls_depositC {T : Int} {H : hR} {m : mR} (hT : T ≤ 100000) (h : Sim T H m) {a c : Int} (ha : wR a) (hc : wR c) : callOK T H m (fX2_payIn a c H) (fX7_deposit a c m) := by
  obtain ⟨r, H', e1, e2, e3⟩ := ls_deposit hT h ha hc
  refine ⟨r, H', e1, e2, ?_⟩
  rcases e3 with ⟨f1, f2, f3, f4⟩ | ⟨f1, f2, -⟩
  · refine Or.inl ⟨f1, f2, f3, po_eq ?_⟩
    unfold fX7_deposit
    (repeat (first | (with_reducible refine po_gd ?_ ?_; · omega) | (with_reducible refine po_bnd ?_) | (with_reducible refine po_ift ?_ ?_; · omega) | (with_reducible refine po_iff ?_ ?_; · omega) | (with_reducible refine po_crs ?_) | (with_reducible refine po_cls ?_) | (with_reducible refine po_cre f4 ?_)))
    exact po_some rfl
  · refine Or.inr ⟨f1, fun m1 hr => ?_⟩
    obtain ⟨r', H'', g1, g2, g3⟩ := ls_deposit hT (h.rec hr) ha hc
    rw [e1] at g1
    cases g1
    rcases g3 with ⟨f3, f4, -⟩ | ⟨f3, f4, m', f5, f6, f7⟩
    · exact absurd ⟨f3, f4⟩ f1
    · refine ⟨m', po_eq ?_, f6, f7⟩
      have hr1 := hr.1
      unfold fX7_deposit
      (repeat (first | (with_reducible refine po_gd ?_ ?_; · omega) | (with_reducible refine po_bnd ?_) | (with_reducible refine po_ift ?_ ?_; · omega) | (with_reducible refine po_iff ?_ ?_; · omega) | (with_reducible refine po_crs ?_) | (with_reducible refine po_cls ?_) | (with_reducible refine po_cre f2 ?_) | (with_reducible refine po_cle hr1 ?_) | (with_reducible refine po_cle f5 ?_)))
      exact po_some rfl
theorem ls_feed {T : Int} {H : hR} {m : mR} (h : Sim T H m) {a b : Int} (ha : wR a) (hb : wR b) : callOK T H m (fX2_nameFeeder a b H) (fX7_feed a b m) := by
  have k1 := h.2.2.1
  have q2 := h.1.1.2.1
  have k1' := k1
  unfold okN at k1'
  by_cases g1 : 0 ≤ a ∧ a < H.1 0 4 0
  · have hA1 : fX2_hasAccount a H = some 1 := by rw [ev_hasA (by omega), bI_t (decide_eq_true g1)]
    have hA2 : fX7_isAccount a m = some 1 := by rw [ev_isA (by omega), q2, bI_t (decide_eq_true g1)]
    have k3 := h.2.2.2.2.1 a g1
    have fin : (b = -6 ∨ (0 ≤ b ∧ b < H.1 0 4 0 ∧ ¬ b = a)) → ∀ m1, recOf m m1 → fX7_feed_b29 a b m = some (H.1 2 a 2, mS m1 0 (33 + 11 * a + 2) b) ∧ Sim (T + 1) (hS H 2 a 2 b) (mS m1 0 (33 + 11 * a + 2) b) ∧ keptEq m1 (mS m1 0 (33 + 11 * a + 2) b) := by
      intro hbb m1 hr
      have hs := h.rec hr
      refine ⟨po_eq ?_, ⟨hs.1.acc k1 (by omega) (by decide), ?_, ?_⟩, (keptEq.rf m1).s (by decide)⟩
      · have hr1 := hr.1
        have c2 := hs.1.at g1 (f := 2) (by decide)
        unfold fX7_feed_b29
        (repeat (first | (with_reducible refine po_gd ?_ ?_; · omega) | (with_reducible refine po_bnd ?_) | (with_reducible refine po_ift ?_ ?_; · omega) | (with_reducible refine po_iff ?_ ?_; · omega) | (with_reducible refine po_crs ?_) | (with_reducible refine po_cls ?_) | (with_reducible refine po_cle hr1 ?_) | (with_reducible refine po_cre (ev_ofA ?_) ?_; (· omega))))
        rw [c2]
        exact po_some rfl
      · exact hs.2.1.fr (hS_n H (by omega)) (fun o f q => hS_n H (by omega)) (fun k q => mS_n _ (by omega))
      · obtain ⟨k1, k2, k3, k4, k5, k6, k7, k8⟩ := h.2.2
        refine ⟨k1.fr (hS_n H (by omega)) (hS_n H (by omega)) (hS_n H (by omega)) (hS_n H (by omega)), k2.fr (fun t x q => hS_n H (by omega)), ?_, k4.fr (hS_n H (by omega)) (hS_n H (by omega)) (fun o f q => hS_n H (by omega)), k5.fr (hS_n H (by omega)) (hS_n H (by omega)) (fun c i q => hS_n H (by omega)), k6.fr k1 (hS_n H (by omega)) (hS_n H (by omega)) (hS_n H (by omega)) (fun c i q => hS_n H (by omega)) (fun a => hS_n H (by omega)) (fun o => ⟨hS_n H (by omega), hS_n H (by omega)⟩), k7.fr (by omega) (hS_n H (by omega)) (hS_n H (by omega)) (fun a f q => hS_n H (by omega)), k8.fr (hS_n H (by omega)) (hS_n H (by omega)) (fun a => hS_n H (by omega)) rfl⟩
        intro x hx
        rw [hS_n H (by omega)] at hx
        rw [hS_n H (by omega), hS_n H (by omega), hS_n H (show ¬ ((0 : Int) = 2 ∧ (4 : Int) = a ∧ (0 : Int) = 2) by omega), hS_1]
        have := k3 x hx
        by_cases q : (2 : Int) = 2 ∧ x = a ∧ (2 : Int) = 2
        · rw [if_pos q]
          obtain ⟨-, rfl, -⟩ := q
          exact ⟨this.1, this.2.1, hbb⟩
        · rw [if_neg q]
          exact this
    by_cases g2 : b = -6
    · refine ⟨H.1 2 a 2, hS H 2 a 2 b, po_eq ?_, by omega, Or.inr ⟨by omega, fun m1 hr => ?_⟩⟩
      · unfold fX2_nameFeeder fX2_nameFeeder_b31
        (repeat (first | (with_reducible refine po_gd ?_ ?_; · omega) | (with_reducible refine po_bnd ?_) | (with_reducible refine po_ift ?_ ?_; · omega) | (with_reducible refine po_iff ?_ ?_; · omega) | (with_reducible refine po_crs ?_) | (with_reducible refine po_cls ?_) | (with_reducible refine po_cre hA1 ?_)))
        exact po_some rfl
      · obtain ⟨f1, f2, f3⟩ := fin (Or.inl g2) m1 hr
        refine ⟨_, po_eq ?_, f2, f3⟩
        unfold fX7_feed
        (repeat (first | (with_reducible refine po_gd ?_ ?_; · omega) | (with_reducible refine po_bnd ?_) | (with_reducible refine po_ift ?_ ?_; · omega) | (with_reducible refine po_iff ?_ ?_; · omega) | (with_reducible refine po_crs ?_) | (with_reducible refine po_cls ?_) | (with_reducible refine po_cre hA2 ?_)))
        exact po_of f1 rfl
    · by_cases g3 : 0 ≤ b ∧ b < H.1 0 4 0
      · have hB1 : fX2_hasAccount b H = some 1 := by rw [ev_hasA (by omega), bI_t (decide_eq_true g3)]
        have hB2 : fX7_isAccount b m = some 1 := by rw [ev_isA (by omega), q2, bI_t (decide_eq_true g3)]
        by_cases g4 : b = a
        · refine callErr (r := -1) (by decide) (po_eq ?_) (po_eq ?_)
          · unfold fX2_nameFeeder
            (repeat (first | (with_reducible refine po_gd ?_ ?_; · omega) | (with_reducible refine po_bnd ?_) | (with_reducible refine po_ift ?_ ?_; · omega) | (with_reducible refine po_iff ?_ ?_; · omega) | (with_reducible refine po_crs ?_) | (with_reducible refine po_cls ?_) | (with_reducible refine po_cre hA1 ?_)))
            exact po_some rfl
          · unfold fX7_feed
            (repeat (first | (with_reducible refine po_gd ?_ ?_; · omega) | (with_reducible refine po_bnd ?_) | (with_reducible refine po_ift ?_ ?_; · omega) | (with_reducible refine po_iff ?_ ?_; · omega) | (with_reducible refine po_crs ?_) | (with_reducible refine po_cls ?_) | (with_reducible refine po_cre hA2 ?_) | (with_reducible refine po_cre hB2 ?_)))
            exact po_some rfl
        · refine ⟨H.1 2 a 2, hS H 2 a 2 b, po_eq ?_, by omega, Or.inr ⟨by omega, fun m1 hr => ?_⟩⟩
          · unfold fX2_nameFeeder fX2_nameFeeder_b31
            (repeat (first | (with_reducible refine po_gd ?_ ?_; · omega) | (with_reducible refine po_bnd ?_) | (with_reducible refine po_ift ?_ ?_; · omega) | (with_reducible refine po_iff ?_ ?_; · omega) | (with_reducible refine po_crs ?_) | (with_reducible refine po_cls ?_) | (with_reducible refine po_cre hA1 ?_) | (with_reducible refine po_cre hB1 ?_)))
            exact po_some rfl
          · obtain ⟨f1, f2, f3⟩ := fin (Or.inr ⟨g3.1, g3.2, g4⟩) m1 hr
            refine ⟨_, po_eq ?_, f2, f3⟩
            unfold fX7_feed
            (repeat (first | (with_reducible refine po_gd ?_ ?_; · omega) | (with_reducible refine po_bnd ?_) | (with_reducible refine po_ift ?_ ?_; · omega) | (with_reducible refine po_iff ?_ ?_; · omega) | (with_reducible refine po_crs ?_) | (with_reducible refine po_cls ?_) | (with_reducible refine po_cre hA2 ?_) | (with_reducible refine po_cre hB2 ?_)))
            exact po_of f1 rfl
      · have hB1 : fX2_hasAccount b H = some 0 := by rw [ev_hasA (by omega), bI_f (decide_eq_false g3)]
        have hB2 : fX7_isAccount b m = some 0 := by rw [ev_isA (by omega), q2, bI_f (decide_eq_false g3)]
        refine callErr (r := -1) (by decide) (po_eq ?_) (po_eq ?_)
        · unfold fX2_nameFeeder
          (repeat (first | (with_reducible refine po_gd ?_ ?_; · omega) | (with_reducible refine po_bnd ?_) | (with_reducible refine po_ift ?_ ?_; · omega) | (with_reducible refine po_iff ?_ ?_; · omega) | (with_reducible refine po_crs ?_) | (with_reducible refine po_cls ?_) | (with_reducible refine po_cre hA1 ?_) | (with_reducible refine po_cre hB1 ?_)))
          exact po_some rfl
        · unfold fX7_feed
          (repeat (first | (with_reducible refine po_gd ?_ ?_; · omega) | (with_reducible refine po_bnd ?_) | (with_reducible refine po_ift ?_ ?_; · omega) | (with_reducible refine po_iff ?_ ?_; · omega) | (with_reducible refine po_crs ?_) | (with_reducible refine po_cls ?_) | (with_reducible refine po_cre hA2 ?_) | (with_reducible refine po_cre hB2 ?_)))
          exact po_some rfl
  · have hA1 : fX2_hasAccount a H = some 0 := by rw [ev_hasA (by omega), bI_f (decide_eq_false g1)]
    have hA2 : fX7_isAccount a m = some 0 := by rw [ev_isA (by omega), q2, bI_f (decide_eq_false g1)]
    refine callErr (r := -1) (by decide) (po_eq ?_) (po_eq ?_)
    · unfold fX2_nameFeeder
      (repeat (first | (with_reducible refine po_gd ?_ ?_; · omega) | (with_reducible refine po_bnd ?_) | (with_reducible refine po_ift ?_ ?_; · omega) | (with_reducible refine po_iff ?_ ?_; · omega) | (with_reducible refine po_crs ?_) | (with_reducible refine po_cls ?_) | (with_reducible refine po_cre hA1 ?_)))
      exact po_some rfl
    · unfold fX7_feed
      (repeat (first | (with_reducible refine po_gd ?_ ?_; · omega) | (with_reducible refine po_bnd ?_) | (with_reducible refine po_ift ?_ ?_; · omega) | (with_reducible refine po_iff ?_ ?_; · omega) | (with_reducible refine po_crs ?_) | (with_reducible refine po_cls ?_) | (with_reducible refine po_cre hA2 ?_)))
      exact po_some rfl
end
section
/-! ===== holidays in step ===== -/
/-- what no part of Ok reads -/
theorem Ok.fr {T T' : Int} {H H' : hR} (h : Ok T H) (hT : T ≤ T') (hH : ∀ t x y : Int, ¬ t = 6 → ¬ (t = 1 ∧ x = 1) → ¬ (t = 0 ∧ x = 11) → ¬ (t = 3 ∧ (y = 17 ∨ y = 18 ∨ y = 19)) → H'.1 t x y = H.1 t x y) (hD : H'.2 = H.2) : Ok T' H' := by
  have g : ∀ t x y : Int, (t = 0 ∧ ¬ x = 11) ∨ (t = 1 ∧ x = 2) ∨ t = 2 ∨ (t = 3 ∧ y ≤ 16) ∨ t = 4 ∨ t = 5 → H'.1 t x y = H.1 t x y := fun t x y q => hH t x y (by omega) (by omega) (by omega) (by omega)
  obtain ⟨k1, k2, k3, k4, k5, k6, k7, k8⟩ := h
  exact ⟨k1.fr (g _ _ _ (by omega)) (g _ _ _ (by omega)) (g _ _ _ (by omega)) (g _ _ _ (by omega)), k2.fr (fun t x q => g _ _ _ (by omega)), k3.fr (g _ _ _ (by omega)) (fun a f q => g _ _ _ (by omega)), k4.fr (g _ _ _ (by omega)) (g _ _ _ (by omega)) (fun o f q => g _ _ _ (by omega)), k5.fr (g _ _ _ (by omega)) (g _ _ _ (by omega)) (fun c i q => g _ _ _ (by omega)), k6.fr k1 (g _ _ _ (by omega)) (g _ _ _ (by omega)) (g _ _ _ (by omega)) (fun c i q => g _ _ _ (by omega)) (fun a => g _ _ _ (by omega)) (fun o => ⟨g _ _ _ (by omega), g _ _ _ (by omega)⟩), k7.fr hT (g _ _ _ (by omega)) (g _ _ _ (by omega)) (fun a f q => g _ _ _ (by omega)), k8.fr (g _ _ _ (by omega)) (g _ _ _ (by omega)) (fun a => g _ _ _ (by omega)) hD⟩
def flipH (H : hR) (d : Int) : hR := hS H 6 (shrI d 6) 0 (lxorI (H.1 6 (shrI d 6) 0) (lshlI 1 (andI d 63)))
theorem holB_flip {H : hR} {d e : Int} (hd : 0 ≤ d ∧ d ≤ 1094) (he : 0 ≤ e ∧ e ≤ 1094) : holB (flipH H d) e = if e = d then !holB H e else holB H e := by
  unfold holB flipH
  rw [shrI6 (by omega), andI63 (by omega), hS_1]
  obtain ⟨k, h1, h2⟩ := toN (n := 64) (d := d % 64) (by omega)
  obtain ⟨j, h3, h4⟩ := toN (n := 64) (d := e % 64) (by omega)
  by_cases g : e / 64 = d / 64
  · rw [if_pos ⟨rfl, g, rfl⟩, h2, h4, bitL_xor _ _ _ (by omega) (by omega), g]
    by_cases q : e = d
    · rw [if_pos q, if_pos (by omega)]
    · rw [if_neg q, if_neg (by omega)]
  · rw [if_neg (fun q => g q.2.1), if_neg (fun q => g (by rw [q]))]
theorem em_unmark {d : Int} (hd : 0 ≤ d ∧ d ≤ 1094) : ∀ (n fuel : Nat) (k : Int) (m : mR), k + n = m.1 0 3 → 0 ≤ k → 0 ≤ m.1 0 3 ∧ m.1 0 3 ≤ 19 → (∀ j : Int, 13 ≤ j ∧ j ≤ 13 + m.1 0 3 → wR (m.1 0 j)) → n < fuel → po (fX7_holiday_b113 fuel d k m) (fun p => p.1 = m.1 0 3 ∧ (∀ j : Int, p.2.1 0 j = if (13 + k ≤ j ∧ j < 13 + m.1 0 3) ∧ m.1 0 j = d then m.1 0 (13 + m.1 0 3) else m.1 0 j) ∧ p.2.1 1 = m.1 1 ∧ p.2.2 = m.2 ∧ keptEq m p.2)
  | n, 0, k, m, _, _, _, _, h => by omega
  | 0, fuel + 1, k, m, h1, h2, h3, h4, _ => by
    unfold fX7_holiday_b113 fX7_holiday_b184
    refine po_gd (by omega) (po_gd (by omega) (po_ift (by omega) (po_cre (ev_of (by decide)) (po_some ⟨rfl, fun j => ?_, rfl, rfl, keptEq.rf m⟩))))
    rw [if_neg (by omega)]
  | n + 1, fuel + 1, k, m, h1, h2, h3, h4, h5 => by
    have hw := h4 (13 + k) (by omega)
    have key : ∀ v : Int, wR v → (m.1 0 (13 + k) = d → v = m.1 0 (13 + m.1 0 3)) → (¬ m.1 0 (13 + k) = d → v = m.1 0 (13 + k)) → po (fX7_holiday_b113 fuel d (k + 1) (mS m 0 (13 + k) v)) (fun p => p.1 = m.1 0 3 ∧ (∀ j : Int, p.2.1 0 j = if (13 + k ≤ j ∧ j < 13 + m.1 0 3) ∧ m.1 0 j = d then m.1 0 (13 + m.1 0 3) else m.1 0 j) ∧ p.2.1 1 = m.1 1 ∧ p.2.2 = m.2 ∧ keptEq m p.2) := by
      intro v hv v1 v2
      have e3 : (mS m 0 (13 + k) v).1 0 3 = m.1 0 3 := mS_n m (by omega)
      have el : (mS m 0 (13 + k) v).1 0 (13 + m.1 0 3) = m.1 0 (13 + m.1 0 3) := mS_n m (by omega)
      refine (em_unmark hd n fuel (k + 1) (mS m 0 (13 + k) v) (by rw [e3]; omega) (by omega) (by rw [e3]; exact h3) (fun j hj => ?_) (by omega)).mono (fun p hp => ?_)
      · rw [e3] at hj
        rw [mS_0]
        unfold up1
        split
        · exact hv
        · exact h4 j hj
      · obtain ⟨p1, p2, p3, p4, p5⟩ := hp
        rw [e3] at p1 p2
        rw [el] at p2
        refine ⟨p1, fun j => ?_, p3.trans (mS_t m _ _ (by decide)), p4, ((keptEq.rf m).s (by decide)).tr p5⟩
        rw [p2 j, mS_0]
        unfold up1
        by_cases q : j = 13 + k
        · subst q
          rw [if_pos rfl, if_neg (by omega)]
          by_cases q2 : m.1 0 (13 + k) = d
          · rw [if_pos ⟨by omega, q2⟩, v1 q2]
          · rw [if_neg (fun x => q2 x.2), v2 q2]
        · rw [if_neg q]
          by_cases q2 : (13 + (k + 1) ≤ j ∧ j < 13 + m.1 0 3) ∧ m.1 0 j = d
          · rw [if_pos q2, if_pos (by omega)]
          · rw [if_neg q2, if_neg (by omega)]
    unfold fX7_holiday_b113
    refine po_gd (by omega) (po_gd (by omega) (po_iff (by omega) (po_gd (by omega) (po_gd (by omega) (po_gd (by omega) (po_if (fun g => ?_) (fun g => ?_)))))))
    · exact po_cre (ev_of (by decide)) (po_gd (by omega) (po_gd (by omega) (po_bnd (key _ (h4 _ (by omega)) (fun _ => rfl) (fun q => absurd g q)))))
    · exact po_gd (by omega) (po_gd (by omega) (po_bnd (key _ hw (fun q => absurd q g) (fun _ => rfl))))
/-- the calendar's numbers on both sides, the rest the same -/
theorem Cor.cal {H H' : hR} {m m' : mR} (h : CorM H m) (hk : okN H) (hH : ∀ t x y : Int, ¬ t = 6 → ¬ (t = 1 ∧ x = 1) → H'.1 t x y = H.1 t x y) (hD : H'.2 = H.2) (hN : ∀ j : Int, ¬ j = 3 → ¬ (13 ≤ j ∧ j ≤ 32) → m'.1 0 j = m.1 0 j) (hW : m'.1 1 = m.1 1) (hO : m'.2 = m.2) (h3 : m'.1 0 3 = H'.1 1 1 0) (hh : corH H' (m'.1 0)) : CorM H' m' := by
  obtain ⟨h1, h2, h3', h4, h5⟩ := h
  have e1 := h1.2.1
  have e2 := h1.2.2.1
  unfold okN at hk
  obtain ⟨g1, g2, g3, g4, g5, g6, g7, g8, g9, g10⟩ := h1
  refine ⟨⟨?_, ?_, ?_, h3, ?_, ?_, ?_, ?_, ?_, ?_⟩, hh, h3'.fr (fun a f q => hH _ _ _ (by omega) (by omega)) (fun a => by rw [hD]) (fun k q => hN _ (by omega) (by omega)) (fun a => by rw [hO]) (by omega), h4.fr (fun o f q => hH _ _ _ (by omega) (by omega)) (fun k q => hN _ (by omega) (by omega)) (by omega), ?_⟩
  all_goals first
    | (rw [hN _ (by decide) (by decide), hH _ _ _ (by decide) (by decide)]; assumption)
    | (rw [hN _ (by decide) (by decide), hW]; exact h5.fr (fun c i q => hH _ _ _ (by omega) (by omega)) (fun i q => rfl) (Int.le_refl _))
theorem ls_holiday {T : Int} {H : hR} {m : mR} (h : Sim T H m) {d s : Int} (hd : wR d) (hs : wR s) : callOK T H m (fX1_mark d s H) (fX7_holiday d s m) := by
  have k1 := h.2.2.1
  obtain ⟨hh1, hh2, hh3, hh4⟩ := h.1.2.1.1
  have q4 := h.1.1.2.2.2.1
  by_cases g1 : 0 ≤ d ∧ d ≤ 1094
  · have hD1 : fX7_isDay d = some 1 := by
      unfold fX7_isDay
      rw [gd_pos hd, ev_inT (by omega), cr_some, gd_pos (by decide)]
    by_cases g2 : 0 ≤ s ∧ s ≤ 1
    · have hol1 := ec_isHol (H := H) g1
      have hol2 : ∀ m1, m1.1 0 = m.1 0 → fX7_isHoliday d m1 = some (bI (holB H d)) := fun m1 e => by
        rw [em_isHol hd (by rw [e]; exact h.1.2.1.1), e, h.1.2.1.2 d g1]
      have hr := bI_rng (holB H d)
      have hbit : 0 ≤ shrI d 6 ∧ shrI d 6 < 18 := by rw [shrI6 (by omega)]; omega
      have same : (s = 1 ∧ holB H d = true) ∨ (s = 0 ∧ holB H d = false) → callOK T H m (fX1_mark d s H) (fX7_holiday d s m) := by
        intro hc
        refine ⟨H.1 1 1 0, H, po_eq ?_, by omega, Or.inr ⟨by omega, fun m1 hr' => ⟨m1, po_eq ?_, ⟨(h.rec hr').1, (h.rec hr').2.1, (h.rec hr').2.2.mono (by omega)⟩, keptEq.rf m1⟩⟩⟩
        · unfold fX1_mark fX1_mark_b38
          rcases hc with ⟨rfl, hb⟩ | ⟨rfl, hb⟩
          · rw [hb, bI_t rfl] at hol1
            (repeat (first | (with_reducible refine po_gd ?_ ?_; · omega) | (with_reducible refine po_bnd ?_) | (with_reducible refine po_ift ?_ ?_; · omega) | (with_reducible refine po_iff ?_ ?_; · omega) | (with_reducible refine po_crs ?_) | (with_reducible refine po_cls ?_) | (with_reducible refine po_cre (ev_btT ?_) ?_; (· omega)) | (with_reducible refine po_cre hol1 ?_)))
            exact po_some rfl
          · rw [hb, bI_f rfl] at hol1
            (repeat (first | (with_reducible refine po_gd ?_ ?_; · omega) | (with_reducible refine po_bnd ?_) | (with_reducible refine po_ift ?_ ?_; · omega) | (with_reducible refine po_iff ?_ ?_; · omega) | (with_reducible refine po_crs ?_) | (with_reducible refine po_cls ?_) | (with_reducible refine po_cre (ev_btT ?_) ?_; (· omega)) | (with_reducible refine po_cre hol1 ?_)))
            exact po_some rfl
        · have hr1 := hr'.1
          have hol := hol2 m rfl
          have e3 : m1.1 0 3 = H.1 1 1 0 := by rw [hr'.2.1, q4]
          unfold fX7_holiday fX7_holiday_b51 fX7_holiday_b92 fX7_holiday_b184
          rcases hc with ⟨rfl, hb⟩ | ⟨rfl, hb⟩
          · rw [hb, bI_t rfl] at hol
            (repeat (first | (with_reducible refine po_gd ?_ ?_; · omega) | (with_reducible refine po_bnd ?_) | (with_reducible refine po_ift ?_ ?_; · omega) | (with_reducible refine po_iff ?_ ?_; · omega) | (with_reducible refine po_crs ?_) | (with_reducible refine po_cls ?_) | (with_reducible refine po_cre hD1 ?_) | (with_reducible refine po_cre (ev_inT ?_) ?_; (· omega)) | (with_reducible refine po_cre hol ?_) | (with_reducible refine po_cle hr1 ?_) | (with_reducible refine po_cre (ev_of ?_) ?_; (· omega))))
            rw [e3]
            exact po_some rfl
          · rw [hb, bI_f rfl] at hol
            (repeat (first | (with_reducible refine po_gd ?_ ?_; · omega) | (with_reducible refine po_bnd ?_) | (with_reducible refine po_ift ?_ ?_; · omega) | (with_reducible refine po_iff ?_ ?_; · omega) | (with_reducible refine po_crs ?_) | (with_reducible refine po_cls ?_) | (with_reducible refine po_cre hD1 ?_) | (with_reducible refine po_cre (ev_inT ?_) ?_; (· omega)) | (with_reducible refine po_cre hol ?_) | (with_reducible refine po_cle hr1 ?_) | (with_reducible refine po_cre (ev_of ?_) ?_; (· omega))))
            rw [e3]
            exact po_some rfl
      have flip : ∀ v : Int, wR v → 0 ≤ v → (∀ m1, recOf m m1 → ∃ m', fX7_holiday d s m = some (v, m') ∧ (∀ j : Int, ¬ j = 3 → ¬ (13 ≤ j ∧ j ≤ 32) → m'.1 0 j = m1.1 0 j) ∧ m'.1 1 = m1.1 1 ∧ m'.2 = m1.2 ∧ keptEq m1 m' ∧ m'.1 0 3 = v ∧ holOK (m'.1 0) ∧ ∀ e : Int, 0 ≤ e ∧ e ≤ 1094 → holN (m'.1 0) v.toNat e = if e = d then !holB H e else holB H e) → fX1_mark d s H = some (v, hS (flipH H d) 1 1 0 v) → callOK T H m (fX1_mark d s H) (fX7_holiday d s m) := by
        intro v hv hv0 hm hc
        refine ⟨v, _, hc, hv, Or.inr ⟨by omega, fun m1 hr' => ?_⟩⟩
        obtain ⟨m', f1, f2, f3, f4, f5, f6, f7, f8⟩ := hm m1 hr'
        have hs' := h.rec hr'
        have hx : ∀ t x y : Int, ¬ t = 6 → ¬ (t = 1 ∧ x = 1) → (hS (flipH H d) 1 1 0 v).1 t x y = H.1 t x y := fun t x y a b => by
          unfold flipH
          rw [hS_n _ (by omega), hS_n _ (by omega)]
        refine ⟨m', f1, ⟨hs'.1.cal k1 hx rfl f2 f3 f4 (by rw [hS_p]; exact f6) ⟨f7, fun e he => ?_⟩, hs'.2.1.fr (hx _ _ _ (by decide) (by decide)) (fun o f q => hx _ _ _ (by omega) (by omega)) (fun k q => f2 _ (by omega) (by omega)), h.2.2.fr (by omega) (fun t x y a b _ _ => hx t x y a b) rfl⟩, f5⟩
        rw [f6, f8 e he, ← holB_flip g1 he]
        unfold holB
        rw [hS_n _ (by omega)]
      by_cases gs : s = 1
      · subst gs
        cases hb : holB H d
        · rw [hb, bI_f rfl] at hol1
          by_cases g3 : H.1 1 1 0 < 20
          · refine flip (H.1 1 1 0 + 1) (by omega) (by omega) (fun m1 hr' => ?_) (po_eq ?_)
            · have e3 : m1.1 0 3 = H.1 1 1 0 := by rw [hr'.2.1, q4]
              have ek : ∀ k : Int, (mS (mS m1 0 (13 + H.1 1 1 0) d) 0 3 (H.1 1 1 0 + 1)).1 0 k = if k = 3 then H.1 1 1 0 + 1 else if k = 13 + H.1 1 1 0 then d else m.1 0 k := fun k => by
                rw [mS_0, mS_0, hr'.2.1]
                rfl
              have hnot : ∀ k : Int, 0 ≤ k → k < H.1 1 1 0 → ¬ m.1 0 (13 + k) = d := fun k a b e => by
                have := h.1.2.1.2 d g1
                rw [hb, q4] at this
                have h2 : holN (m.1 0) (H.1 1 1 0).toNat d = true := (holN_iff _).mpr ⟨k.toNat, by omega, by rw [show ((k.toNat : Nat) : Int) = k by omega]; exact e⟩
                rw [this] at h2
                cases h2
              refine ⟨mS (mS m1 0 (13 + H.1 1 1 0) d) 0 3 (H.1 1 1 0 + 1), po_eq ?_, fun j a b => ?_, ?_, rfl, ((keptEq.rf m1).s (by decide)).s (by decide), ?_, ?_, fun e he => ?_⟩
              · have hr1 := hr'.1
                have hol := hol2 m rfl
                rw [hb, bI_f rfl] at hol
                have e4 : (mS m1 0 (13 + H.1 1 1 0) d).1 0 3 = H.1 1 1 0 := by rw [mS_n _ (by omega), e3]
                unfold fX7_holiday fX7_holiday_b51 fX7_holiday_b184
                (repeat (first | (with_reducible refine po_gd ?_ ?_; · omega) | (with_reducible refine po_bnd ?_) | (with_reducible refine po_ift ?_ ?_; · omega) | (with_reducible refine po_iff ?_ ?_; · omega) | (with_reducible refine po_crs ?_) | (with_reducible refine po_cls ?_) | (with_reducible refine po_cre hD1 ?_) | (with_reducible refine po_cre (ev_inT ?_) ?_; (· omega)) | (with_reducible refine po_cre hol ?_) | (with_reducible refine po_cle hr1 ?_) | (with_reducible refine po_cre (ev_of ?_) ?_; (· omega))))
                rw [e3]
                (repeat (first | (with_reducible refine po_gd ?_ ?_; · omega) | (with_reducible refine po_bnd ?_) | (with_reducible refine po_ift ?_ ?_; · omega) | (with_reducible refine po_iff ?_ ?_; · omega) | (with_reducible refine po_crs ?_) | (with_reducible refine po_cls ?_)))
                rw [e4]
                (repeat (first | (with_reducible refine po_gd ?_ ?_; · omega) | (with_reducible refine po_bnd ?_) | (with_reducible refine po_ift ?_ ?_; · omega) | (with_reducible refine po_iff ?_ ?_; · omega) | (with_reducible refine po_crs ?_) | (with_reducible refine po_cls ?_) | (with_reducible refine po_cre (ev_of ?_) ?_; (· omega))))
                rw [mS_p]
                exact po_some rfl
              · rw [mS_n _ (by omega), mS_n _ (by omega)]
              · rw [mS_t _ _ _ (by decide), mS_t _ _ _ (by decide)]
              · rw [mS_p]
              · refine ⟨by rw [ek, if_pos rfl]; omega, by rw [ek, if_pos rfl]; omega, fun k a b => ?_, fun i j a b c e q => ?_⟩
                · rw [ek, if_pos rfl] at b
                  rw [ek, if_neg (by omega)]
                  by_cases q : k = H.1 1 1 0
                  · rw [if_pos (by omega)]; exact g1
                  · rw [if_neg (by omega)]; exact hh3 k a (by omega)
                · rw [ek, if_pos rfl] at b e
                  rw [ek, ek, if_neg (by omega), if_neg (show ¬ 13 + j = 3 by omega)] at q
                  by_cases qi : i = H.1 1 1 0
                  · by_cases qj : j = H.1 1 1 0
                    · omega
                    · rw [if_pos (by omega), if_neg (by omega)] at q
                      exact absurd q.symm (hnot j c (by omega))
                  · by_cases qj : j = H.1 1 1 0
                    · rw [if_neg (by omega), if_pos (by omega)] at q
                      exact absurd q (hnot i a (by omega))
                    · rw [if_neg (by omega), if_neg (by omega)] at q
                      exact hh4 i j a (by omega) c (by omega) q
              · rw [show (H.1 1 1 0 + 1).toNat = (H.1 1 1 0).toNat + 1 by omega]
                show (holN _ (H.1 1 1 0).toNat e || decide _) = _
                rw [ek, if_neg (by omega), if_pos (by omega)]
                have : holN ((mS (mS m1 0 (13 + H.1 1 1 0) d) 0 3 (H.1 1 1 0 + 1)).1 0) (H.1 1 1 0).toNat e = holB H e := by
                  rw [← h.1.2.1.2 e he, q4]
                  have hc : ∀ n : Nat, (n : Int) ≤ H.1 1 1 0 → holN ((mS (mS m1 0 (13 + H.1 1 1 0) d) 0 3 (H.1 1 1 0 + 1)).1 0) n e = holN (m.1 0) n e := by
                    intro n
                    induction n with
                    | zero => intro _; rfl
                    | succ n ih =>
                      intro hn
                      unfold holN
                      rw [ih (by omega), ek, if_neg (by omega), if_neg (by omega)]
                  exact hc _ (by omega)
                rw [this]
                by_cases q : e = d
                · rw [if_pos q, decide_eq_true q.symm, q, hb]
                  rfl
                · rw [if_neg q, decide_eq_false (fun x => q x.symm), Bool.or_false]
            · unfold fX1_mark fX1_mark_b38 fX1_mark_b63 fX1_mark_b96
              (repeat (first | (with_reducible refine po_gd ?_ ?_; · omega) | (with_reducible refine po_bnd ?_) | (with_reducible refine po_ift ?_ ?_; · omega) | (with_reducible refine po_iff ?_ ?_; · omega) | (with_reducible refine po_crs ?_) | (with_reducible refine po_cls ?_) | (with_reducible refine po_cre (ev_btT ?_) ?_; (· omega)) | (with_reducible refine po_cre hol1 ?_)))
              rw [show (hS H 6 (shrI d 6) 0 (lxorI (H.1 6 (shrI d 6) 0) (lshlI 1 (andI d 63)))) = flipH H d from rfl]
              refine po_some ?_
              rw [hS_p, show (flipH H d).1 1 1 0 = H.1 1 1 0 from hS_n H (by omega)]
          · refine callErr (r := -4) (by decide) (po_eq ?_) (po_eq ?_)
            · unfold fX1_mark fX1_mark_b38
              (repeat (first | (with_reducible refine po_gd ?_ ?_; · omega) | (with_reducible refine po_bnd ?_) | (with_reducible refine po_ift ?_ ?_; · omega) | (with_reducible refine po_iff ?_ ?_; · omega) | (with_reducible refine po_crs ?_) | (with_reducible refine po_cls ?_) | (with_reducible refine po_cre (ev_btT ?_) ?_; (· omega)) | (with_reducible refine po_cre hol1 ?_)))
              exact po_some rfl
            · have hol := hol2 m rfl
              rw [hb, bI_f rfl] at hol
              unfold fX7_holiday
              (repeat (first | (with_reducible refine po_gd ?_ ?_; · omega) | (with_reducible refine po_bnd ?_) | (with_reducible refine po_ift ?_ ?_; · omega) | (with_reducible refine po_iff ?_ ?_; · omega) | (with_reducible refine po_crs ?_) | (with_reducible refine po_cls ?_) | (with_reducible refine po_cre hD1 ?_) | (with_reducible refine po_cre (ev_inT ?_) ?_; (· omega)) | (with_reducible refine po_cre hol ?_)))
              exact po_some rfl
        · exact same (Or.inl ⟨rfl, hb⟩)
      · have gs : s = 0 := by omega
        subst gs
        cases hb : holB H d
        · exact same (Or.inr ⟨rfl, hb⟩)
        · rw [hb, bI_t rfl] at hol1
          have hex := h.1.2.1.2 d g1
          rw [hb, q4] at hex
          obtain ⟨k0, hk0, hk1⟩ := (holN_iff _).mp hex
          refine flip (H.1 1 1 0 - 1) (by omega) (by omega) (fun m1 hr' => ?_) (po_eq ?_)
          · have e3 : m1.1 0 3 = H.1 1 1 0 := by rw [hr'.2.1, q4]
            have ek : ∀ k : Int, (mS m1 0 3 (H.1 1 1 0 - 1)).1 0 k = if k = 3 then H.1 1 1 0 - 1 else m.1 0 k := fun k => by
              rw [mS_0, hr'.2.1]
              rfl
            have e33 : (mS m1 0 3 (H.1 1 1 0 - 1)).1 0 3 = H.1 1 1 0 - 1 := mS_p _ _ _ _
            obtain ⟨p, f1, f2, f3, f4, f5, f6⟩ := em_unmark g1 (H.1 1 1 0 - 1).toNat fuel0 0 (mS m1 0 3 (H.1 1 1 0 - 1)) (by rw [e33]; omega) (by decide) (by rw [e33]; omega) (fun j hj => by
              rw [e33] at hj
              rw [ek, if_neg (by omega)]
              have := hh3 (j - 13) (by omega) (by omega)
              rw [show 13 + (j - 13) = j by omega] at this
              omega) (by show _ < 1000000; omega)
            rw [e33] at f2 f3
            have rd : ∀ j : Int, p.2.1 0 j = if j = 3 then H.1 1 1 0 - 1 else if (13 ≤ j ∧ j < 13 + (H.1 1 1 0 - 1)) ∧ m.1 0 j = d then m.1 0 (13 + (H.1 1 1 0 - 1)) else m.1 0 j := by
              intro j
              rw [f3, ek, ek]
              by_cases c1 : j = 3
              · rw [if_pos c1, if_pos c1, if_neg (by omega)]
              · rw [if_neg c1, if_neg c1, if_neg (show ¬ 13 + (H.1 1 1 0 - 1) = 3 by omega)]
                by_cases c2 : (13 ≤ j ∧ j < 13 + (H.1 1 1 0 - 1)) ∧ m.1 0 j = d
                · rw [if_pos c2, if_pos (by omega)]
                · rw [if_neg c2, if_neg (by omega)]
            have rk : ∀ k : Int, 0 ≤ k → k < H.1 1 1 0 - 1 → p.2.1 0 (13 + k) = if m.1 0 (13 + k) = d then m.1 0 (13 + (H.1 1 1 0 - 1)) else m.1 0 (13 + k) := fun k a b => by
              rw [rd, if_neg (by omega)]
              by_cases c : m.1 0 (13 + k) = d
              · rw [if_pos c, if_pos (by omega)]
              · rw [if_neg c, if_neg (by omega)]
            have hl : ¬ m.1 0 (13 + (H.1 1 1 0 - 1)) = d ∨ H.1 1 1 0 - 1 = k0 := by
              by_cases c : m.1 0 (13 + (H.1 1 1 0 - 1)) = d
              · exact Or.inr (hh4 _ _ (by omega) (by omega) (by omega) (by omega) (c.trans hk1.symm))
              · exact Or.inl c
            refine ⟨p.2, po_eq ?_, fun j a b => ?_, ?_, ?_, ((keptEq.rf m1).s (by decide)).tr f6, ?_, ?_, fun e he => ?_⟩
            · have hr1 := hr'.1
              have hol := hol2 m rfl
              rw [hb, bI_t rfl] at hol
              unfold fX7_holiday fX7_holiday_b51 fX7_holiday_b92
              (repeat (first | (with_reducible refine po_gd ?_ ?_; · omega) | (with_reducible refine po_bnd ?_) | (with_reducible refine po_ift ?_ ?_; · omega) | (with_reducible refine po_iff ?_ ?_; · omega) | (with_reducible refine po_crs ?_) | (with_reducible refine po_cls ?_) | (with_reducible refine po_cre hD1 ?_) | (with_reducible refine po_cre (ev_inT ?_) ?_; (· omega)) | (with_reducible refine po_cre hol ?_) | (with_reducible refine po_cle hr1 ?_)))
              rw [e3]
              refine po_of f1 ?_
              rw [← f2]
            · rw [rd, if_neg a, if_neg (by omega), hr'.2.1]
            · rw [f4, mS_t _ _ _ (by decide)]
            · rw [f5, mS_2]
            · rw [rd, if_pos rfl]
            · refine ⟨by rw [rd, if_pos rfl]; omega, by rw [rd, if_pos rfl]; omega, fun k a b => ?_, fun i j a b c e q => ?_⟩
              · rw [rd, if_pos rfl] at b
                rw [rk k a b]
                split
                · exact hh3 _ (by omega) (by omega)
                · exact hh3 k a (by omega)
              · rw [rd, if_pos rfl] at b e
                rw [rk i a b, rk j c e] at q
                by_cases ci : m.1 0 (13 + i) = d
                · by_cases cj : m.1 0 (13 + j) = d
                  · exact hh4 i j a (by omega) c (by omega) (ci.trans cj.symm)
                  · rw [if_pos ci, if_neg cj] at q
                    have := hh4 _ j (by omega) (by omega) c (by omega) q
                    omega
                · by_cases cj : m.1 0 (13 + j) = d
                  · rw [if_neg ci, if_pos cj] at q
                    have := hh4 i _ a (by omega) (by omega) (by omega) q
                    omega
                  · rw [if_neg ci, if_neg cj] at q
                    exact hh4 i j a (by omega) c (by omega) q
            · have hB := h.1.2.1.2 e he
              rw [q4] at hB
              have hiff : holN (p.2.1 0) (H.1 1 1 0 - 1).toNat e = true ↔ (¬ e = d ∧ holB H e = true) := by
                rw [← hB, holN_iff, holN_iff]
                constructor
                · rintro ⟨k, a, b⟩
                  rw [rk k (by omega) (by omega)] at b
                  by_cases c : m.1 0 (13 + (k : Int)) = d
                  · rw [if_pos c] at b
                    have c2 := hh4 k k0 (by omega) (by omega) (by omega) (by omega) (c.trans hk1.symm)
                    refine ⟨fun x => ?_, (H.1 1 1 0 - 1).toNat, by omega, by rw [show (((H.1 1 1 0 - 1).toNat : Nat) : Int) = H.1 1 1 0 - 1 by omega]; exact b⟩
                    rcases hl with hl | hl
                    · exact hl (b.trans x)
                    · omega
                  · rw [if_neg c] at b
                    exact ⟨fun x => c (b.trans x), k, by omega, b⟩
                · rintro ⟨a, k, b, c⟩
                  by_cases ck : (k : Int) < H.1 1 1 0 - 1
                  · refine ⟨k, by omega, ?_⟩
                    rw [rk k (by omega) ck, if_neg (fun x => a (c.symm.trans x))]
                    exact c
                  · have ck2 : (k : Int) = H.1 1 1 0 - 1 := by omega
                    have : ¬ (k0 : Int) = k := fun x => by
                      rw [x] at hk1
                      exact a (c.symm.trans hk1)
                    refine ⟨k0, by omega, ?_⟩
                    rw [rk k0 (by omega) (by omega), if_pos hk1, ← ck2]
                    exact c
              by_cases ce : e = d
              · rw [if_pos ce]
                cases hc : holN (p.2.1 0) (H.1 1 1 0 - 1).toNat e
                · rw [ce, hb]; rfl
                · exact absurd ce (hiff.mp hc).1
              · rw [if_neg ce]
                cases hc : holN (p.2.1 0) (H.1 1 1 0 - 1).toNat e
                · cases hd2 : holB H e
                  · rfl
                  · rw [hiff.mpr ⟨ce, hd2⟩] at hc; cases hc
                · exact ((hiff.mp hc).2).symm
          · unfold fX1_mark fX1_mark_b38 fX1_mark_b63 fX1_mark_b96
            (repeat (first | (with_reducible refine po_gd ?_ ?_; · omega) | (with_reducible refine po_bnd ?_) | (with_reducible refine po_ift ?_ ?_; · omega) | (with_reducible refine po_iff ?_ ?_; · omega) | (with_reducible refine po_crs ?_) | (with_reducible refine po_cls ?_) | (with_reducible refine po_cre (ev_btT ?_) ?_; (· omega)) | (with_reducible refine po_cre hol1 ?_)))
            rw [show (hS H 6 (shrI d 6) 0 (lxorI (H.1 6 (shrI d 6) 0) (lshlI 1 (andI d 63)))) = flipH H d from rfl]
            refine po_some ?_
            rw [hS_p, show (flipH H d).1 1 1 0 = H.1 1 1 0 from hS_n H (by omega)]
            rfl
    · refine callErr (r := -2) (by decide) (po_eq ?_) (po_eq ?_)
      · unfold fX1_mark
        (repeat (first | (with_reducible refine po_gd ?_ ?_; · omega) | (with_reducible refine po_bnd ?_) | (with_reducible refine po_ift ?_ ?_; · omega) | (with_reducible refine po_iff ?_ ?_; · omega) | (with_reducible refine po_crs ?_) | (with_reducible refine po_cls ?_) | (with_reducible refine po_cre (ev_btT ?_) ?_; (· omega)) | (with_reducible refine po_cre (ev_btF ?_) ?_; (· omega))))
        exact po_some rfl
      · unfold fX7_holiday
        (repeat (first | (with_reducible refine po_gd ?_ ?_; · omega) | (with_reducible refine po_bnd ?_) | (with_reducible refine po_ift ?_ ?_; · omega) | (with_reducible refine po_iff ?_ ?_; · omega) | (with_reducible refine po_crs ?_) | (with_reducible refine po_cls ?_) | (with_reducible refine po_cre hD1 ?_) | (with_reducible refine po_cre (ev_inF ?_) ?_; (· omega))))
        exact po_some rfl
  · refine callErr (r := -2) (by decide) (po_eq ?_) (po_eq ?_)
    · unfold fX1_mark
      (repeat (first | (with_reducible refine po_gd ?_ ?_; · omega) | (with_reducible refine po_bnd ?_) | (with_reducible refine po_ift ?_ ?_; · omega) | (with_reducible refine po_iff ?_ ?_; · omega) | (with_reducible refine po_crs ?_) | (with_reducible refine po_cls ?_) | (with_reducible refine po_cre (ev_btF ?_) ?_; (· omega))))
      exact po_some rfl
    · have hD1 : fX7_isDay d = some 0 := by
        unfold fX7_isDay
        rw [gd_pos hd, ev_inF (by omega), cr_some, gd_pos (by decide)]
      unfold fX7_holiday
      (repeat (first | (with_reducible refine po_gd ?_ ?_; · omega) | (with_reducible refine po_bnd ?_) | (with_reducible refine po_ift ?_ ?_; · omega) | (with_reducible refine po_iff ?_ ?_; · omega) | (with_reducible refine po_crs ?_) | (with_reducible refine po_cls ?_) | (with_reducible refine po_cre hD1 ?_)))
      exact po_some rfl
end
section
/-! ===== a waiting payment as one number ===== -/
theorem pk_parts {o a n d f x : Int} (ho : 0 ≤ o ∧ o ≤ 15) (ha : 0 ≤ a ∧ a ≤ 1048575) (hn : 0 ≤ n ∧ n ≤ 2047) (hd : 0 ≤ d ∧ d ≤ 2047) (hf : 0 ≤ f ∧ f ≤ 15) (hx : 0 ≤ x ∧ x ≤ 1) :
    (0 ≤ pkW o a n d f x ∧ pkW o a n d f x ≤ 4611686018427387904) ∧ pkW o a n d f x % 16 = o ∧ pkW o a n d f x / 16 % 1048576 = a ∧ pkW o a n d f x / 16777216 % 2048 = n ∧ pkW o a n d f x / 34359738368 % 2048 = d ∧ pkW o a n d f x / 70368744177664 % 16 = f ∧ pkW o a n d f x / 1125899906842624 = x := by
  unfold pkW
  have e1 : (o + 16 * (a + 1048576 * (n + 2048 * (d + 2048 * (f + 16 * x))))) / 16 = a + 1048576 * (n + 2048 * (d + 2048 * (f + 16 * x))) := by omega
  have e2 : (o + 16 * (a + 1048576 * (n + 2048 * (d + 2048 * (f + 16 * x))))) / 16777216 = n + 2048 * (d + 2048 * (f + 16 * x)) := by
    rw [show (16777216 : Int) = 16 * 1048576 by rfl, ← Int.ediv_ediv_of_nonneg (by decide), e1]; omega
  have e3 : (o + 16 * (a + 1048576 * (n + 2048 * (d + 2048 * (f + 16 * x))))) / 34359738368 = d + 2048 * (f + 16 * x) := by
    rw [show (34359738368 : Int) = 16777216 * 2048 by rfl, ← Int.ediv_ediv_of_nonneg (by decide), e2]; omega
  have e4 : (o + 16 * (a + 1048576 * (n + 2048 * (d + 2048 * (f + 16 * x))))) / 70368744177664 = f + 16 * x := by
    rw [show (70368744177664 : Int) = 34359738368 * 2048 by rfl, ← Int.ediv_ediv_of_nonneg (by decide), e3]; omega
  have e5 : (o + 16 * (a + 1048576 * (n + 2048 * (d + 2048 * (f + 16 * x))))) / 1125899906842624 = x := by
    rw [show (1125899906842624 : Int) = 70368744177664 * 16 by rfl, ← Int.ediv_ediv_of_nonneg (by decide), e4]; omega
  rw [e1, e2, e3, e4, e5]
  omega
theorem em_part {m : mR} {i o a n d f x : Int} (hi : 0 ≤ i ∧ i < 8400) (hw : m.1 1 i = pkW o a n d f x) (ho : 0 ≤ o ∧ o ≤ 15) (ha : 0 ≤ a ∧ a ≤ 1048575) (hn : 0 ≤ n ∧ n ≤ 2047) (hd : 0 ≤ d ∧ d ≤ 2047) (hf : 0 ≤ f ∧ f ≤ 15) (hx : 0 ≤ x ∧ x ≤ 1) :
    fX7_partOf i 0 m = some o ∧ fX7_partOf i 1 m = some a ∧ fX7_partOf i 2 m = some n ∧ fX7_partOf i 3 m = some d ∧ fX7_partOf i 4 m = some f ∧ fX7_partOf i 5 m = some x := by
  obtain ⟨p0, p1, p2, p3, p4, p5, p6⟩ := pk_parts ho ha hn hd hf hx
  rw [← hw] at p0 p1 p2 p3 p4 p5 p6
  unfold fX7_partOf
  have q1 : 0 ≤ m.1 1 i / 16 ∧ m.1 1 i / 16 ≤ 9223372036854775807 := by omega
  have q2 : 0 ≤ m.1 1 i / 16777216 ∧ m.1 1 i / 16777216 ≤ 9223372036854775807 := by omega
  have q3 : 0 ≤ m.1 1 i / 34359738368 ∧ m.1 1 i / 34359738368 ≤ 9223372036854775807 := by omega
  have q4 : 0 ≤ m.1 1 i / 70368744177664 ∧ m.1 1 i / 70368744177664 ≤ 9223372036854775807 := by omega
  have q0 : 0 ≤ m.1 1 i ∧ m.1 1 i ≤ 9223372036854775807 := by omega
  refine ⟨?_, ?_, ?_, ?_, ?_, ?_⟩
  · rw [gd_pos hi, gd_pos (by decide), if_pos rfl, gd_pos q0, p1]
  · rw [gd_pos hi, gd_pos (by decide), if_neg (by decide), if_pos rfl, gd_pos q0, gd_pos q1, p2]
  · rw [gd_pos hi, gd_pos (by decide), if_neg (by decide), if_neg (by decide), if_pos rfl, gd_pos q0, gd_pos q2, p3]
  · rw [gd_pos hi, gd_pos (by decide), if_neg (by decide), if_neg (by decide), if_neg (by decide), if_pos rfl, gd_pos q0, gd_pos q3, p4]
  · rw [gd_pos hi, gd_pos (by decide), if_neg (by decide), if_neg (by decide), if_neg (by decide), if_neg (by decide), if_pos rfl, gd_pos q0, gd_pos q4, p5]
  · rw [gd_pos hi, gd_pos (by decide), if_neg (by decide), if_neg (by decide), if_neg (by decide), if_neg (by decide), if_neg (by decide), gd_pos q0, p6]
/-- a waiting payment's parts, outside a day -/
theorem Sim.part {T : Int} {H : hR} {m : mR} (h : Sim T H m) {i : Int} (hi : 0 ≤ i ∧ i < H.1 4 2 0) : fX7_partOf i 0 m = some (H.1 5 0 i) ∧ fX7_partOf i 1 m = some (H.1 5 1 i) ∧ fX7_partOf i 2 m = some (H.1 5 2 i) ∧ fX7_partOf i 3 m = some (H.1 5 3 i) ∧ fX7_partOf i 4 m = some (H.1 5 4 i) := by
  have k1 := h.2.2.1
  unfold okN at k1
  have e4 := h.1.1.2.2.2.2.1
  have hw := h.1.2.2.2.2 i (by rw [e4]; exact hi)
  obtain ⟨w1, w2, w3, w4, w5⟩ := h.2.2.2.2.2.2.1.1 i hi
  obtain ⟨p0, p1, p2, p3, p4, -⟩ := em_part (i := i) (by omega) hw (by omega) (by omega) (by omega) (by omega) (by omega) (by decide)
  exact ⟨p0, p1, p2, p3, p4⟩
theorem cntW_rng {H : hR} {o : Int} : ∀ n : Nat, 0 ≤ cntW H o n ∧ cntW H o n ≤ n
  | 0 => by unfold cntW; omega
  | n + 1 => by
    have := cntW_rng (H := H) (o := o) n
    unfold cntW
    split <;> omega
theorem em_waitsOf_b4 {H : hR} {m : mR} {o : Int} (ho : wR o) {n : Nat} (hn : m.1 0 4 = n) (hn2 : n ≤ 8400) (hp : ∀ i : Int, 0 ≤ i ∧ i < n → fX7_partOf i 0 m = some (H.1 5 0 i) ∧ wR (H.1 5 0 i)) : ∀ (k fuel : Nat) (j : Nat), j + k = n → k < fuel → fX7_waitsOf_b4 m fuel o (cntW H o j) j = some (cntW H o n)
  | k, 0, j, _, h => by omega
  | 0, fuel + 1, j, h1, _ => by
    unfold fX7_waitsOf_b4
    rw [gd_pos (by omega), gd_pos (by omega), if_pos (by omega), show j = n by omega]
  | k + 1, fuel + 1, j, h1, h2 => by
    obtain ⟨p1, p2⟩ := hp j (by omega)
    have ih := em_waitsOf_b4 ho hn hn2 hp k fuel (j + 1) (by omega) (by omega)
    unfold fX7_waitsOf_b4 fX7_waitsOf_b32
    rw [gd_pos (by omega), gd_pos (by omega), if_neg (by omega), p1, cr_some, gd_pos (by omega)]
    by_cases g : H.1 5 0 j = o
    · rw [if_pos g]
      have e : cntW H o (j + 1) = cntW H o j + 1 := by
        show cntW H o j + (if H.1 5 0 j = o then 1 else 0) = _
        rw [if_pos g]
      rw [← e]
      exact ih
    · rw [if_neg g]
      have e : cntW H o (j + 1) = cntW H o j + 0 := by
        show cntW H o j + (if H.1 5 0 j = o then 1 else 0) = _
        rw [if_neg g]
      rw [← e]
      exact ih
theorem Sim.waitsOf {T : Int} {H : hR} {m m' : mR} (h : Sim T H m) {o : Int} (ho : wR o) (h1 : m'.1 1 = m.1 1) (h4 : m'.1 0 4 = m.1 0 4) : fX7_waitsOf o m' = some (cntW H o (H.1 4 2 0).toNat) := by
  have k1 := h.2.2.1
  unfold okN at k1
  have e4 := h.1.1.2.2.2.2.1
  refine em_waitsOf_b4 (j := 0) ho (n := (H.1 4 2 0).toNat) (by omega) (by omega) (fun i hi => ?_) (H.1 4 2 0).toNat fuel0 (by omega) (by show _ < 1000000; omega)
  have hp := (h.part (i := i) (by omega)).1
  have hw := (h.2.2.2.2.2.2.1.1 i (by omega)).1
  refine ⟨?_, by omega⟩
  rw [← hp]
  unfold fX7_partOf
  rw [h1]
/-! ===== change, stop, goOn ===== -/
/-- an order's field, written on both sides: f on the class's, k on the reference's -/
theorem Cor.ord {H H' : hR} {m m' : mR} (h : CorM H m) (hk : okN H) {o : Int} (ho : 0 ≤ o ∧ o < 16) (hH : ∀ t x y : Int, ¬ (t = 3 ∧ x = o) → H'.1 t x y = H.1 t x y) (hD : H'.2 = H.2) (hN : ∀ j : Int, ¬ (121 + 16 * o ≤ j ∧ j ≤ 136 + 16 * o) → m'.1 0 j = m.1 0 j) (hW : m'.1 1 = m.1 1) (hO : m'.2 0 = m.2 0) (hr : corR H' (m'.1 0) o) : CorM H' m' := by
  obtain ⟨h1, h2, h3, h4, h5⟩ := h
  have e1 := h1.2.1
  have e2 := h1.2.2.1
  unfold okN at hk
  refine ⟨h1.fr (fun t a q => hH _ _ _ (by omega)) (fun k q => hN _ (by omega)), h2.fr (fun a => hH _ _ _ (by omega)) (fun k q => hN _ (by omega)), h3.fr (fun a f q => hH _ _ _ (by omega)) (fun a => by rw [hD]) (fun k q => hN _ (by omega)) (fun a => by rw [hO]) (by omega), ?_, ?_⟩
  · intro x hx f hf
    rw [hN 2 (by omega)] at hx
    by_cases q : x = o
    · subst q
      exact hr f hf
    · rw [hN _ (by omega), ordN_fr (H := H) (fun f _ => hH _ _ _ (by omega)) hf]
      exact h4 x hx f hf
  · rw [hN 4 (by omega), hW]
    exact h5.fr (fun c i q => hH _ _ _ (by omega)) (fun i q => rfl) (Int.le_refl _)
theorem Cor.atO {H : hR} {m : mR} (h : CorM H m) {o : Int} (ho : 0 ≤ o ∧ o < H.1 0 5 0) : corR H (m.1 0) o := h.2.2.2.1 o (by rw [h.1.2.2.1]; exact ho)
end
section
/-! ===== orders' calls in step ===== -/
/-- an order's own fields written: what Ok wants of it -/
theorem Ok.ord {T T' : Int} {H H' : hR} (h : Ok T H) (hT : T ≤ T') {o : Int} (ho : 0 ≤ o ∧ o < H.1 0 5 0) (hH : ∀ t x y : Int, ¬ (t = 3 ∧ x = o) → H'.1 t x y = H.1 t x y) (hD : H'.2 = H.2) (h0 : H'.1 3 o 0 = H.1 3 o 0) (h15 : H'.1 3 o 15 = H.1 3 o 15) (q1 : okOrd H' o) (q2 : okP H' o) (q3 : okC H' o) : Ok T' H' := by
  obtain ⟨k1, k2, k3, k4, k5, k6, k7, k8⟩ := h
  refine ⟨k1.fr (hH _ _ _ (by omega)) (hH _ _ _ (by omega)) (hH _ _ _ (by omega)) (hH _ _ _ (by omega)), k2.fr (fun t x q => hH _ _ _ (by omega)), k3.fr (hH _ _ _ (by omega)) (fun a f q => hH _ _ _ (by omega)), ?_, k5.fr (hH _ _ _ (by omega)) (hH _ _ _ (by omega)) (fun c i q => hH _ _ _ (by omega)), ?_, k7.fr hT (hH _ _ _ (by omega)) (hH _ _ _ (by omega)) (fun a f q => hH _ _ _ (by omega)), k8.fr (hH _ _ _ (by omega)) (hH _ _ _ (by omega)) (fun a => hH _ _ _ (by omega)) hD⟩
  · intro x hx
    rw [hH 0 5 0 (by omega)] at hx
    by_cases q : x = o
    · subst q
      exact ⟨q1, q2, q3⟩
    · obtain ⟨g1, g2, g3⟩ := k4 x hx
      have e : ∀ f : Int, H'.1 3 x f = H.1 3 x f := fun f => hH _ _ _ (by omega)
      refine ⟨g1.fr (fun f _ => e f), ?_, ?_⟩
      · unfold okP at *
        rw [e, e, e, e, e, e, e, hH 0 4 0 (by omega)]
        exact g2
      · unfold okC at *
        rw [e, e, e, e, e]
        exact g3
  · refine k6.fr k1 (hH _ _ _ (by omega)) (hH _ _ _ (by omega)) (hH _ _ _ (by omega)) (fun c i q => hH _ _ _ (by omega)) (fun a => hH _ _ _ (by omega)) (fun x => ?_)
    by_cases q : x = o
    · subst q
      exact ⟨h0, h15⟩
    · exact ⟨hH _ _ _ (by omega), hH _ _ _ (by omega)⟩
theorem Tot.ord {H H' : hR} {N N' : Int → Int} (h : Tot H N) {o : Int} (hH : ∀ t x y : Int, ¬ (t = 3 ∧ x = o) → H'.1 t x y = H.1 t x y) (hf : ∀ f : Int, 12 ≤ f ∧ f ≤ 14 → H'.1 3 o f = H.1 3 o f) (hN : ∀ k : Int, 5 ≤ k ∧ k ≤ 7 → N' k = N k) : Tot H' N' := by
  refine h.fr (hH _ _ _ (by omega)) (fun x f q => ?_) hN
  by_cases c : x = o
  · subst c
    exact hf f q
  · exact hH _ _ _ (by omega)
theorem ordN_at {H H' : hR} {o k : Int} (h : ∀ f : Int, (k = 1 ∧ f = 1) ∨ (k ≤ 8 ∧ ¬ k = 1 ∧ f = k) ∨ (k = 9 ∧ (f = 11 ∨ f = 10)) ∨ (10 ≤ k ∧ k ≤ 13 ∧ f = k + 1) ∨ (k = 14 ∧ f = 16) ∨ (15 ≤ k ∧ f = 9) → H'.1 3 o f = H.1 3 o f) : ordN H' o k = ordN H o k := by
  unfold ordN
  by_cases c1 : k = 1
  · rw [if_pos c1, if_pos c1, h 1 (by omega)]
  · rw [if_neg c1, if_neg c1]
    by_cases c2 : k ≤ 8
    · rw [if_pos c2, if_pos c2, h k (by omega)]
    · rw [if_neg c2, if_neg c2]
      by_cases c3 : k = 9
      · rw [if_pos c3, if_pos c3, h 11 (by omega), h 10 (by omega)]
      · rw [if_neg c3, if_neg c3]
        by_cases c4 : k ≤ 13
        · rw [if_pos c4, if_pos c4, h (k + 1) (by omega)]
        · rw [if_neg c4, if_neg c4]
          by_cases c5 : k = 14
          · rw [if_pos c5, if_pos c5, h 16 (by omega)]
          · rw [if_neg c5, if_neg c5, h 9 (by omega)]
theorem ls_change {T : Int} {H : hR} {m : mR} (h : Sim T H m) {o a p : Int} (ho : wR o) (ha : wR a) (hp : wR p) : callOK T H m (fX2_alterOrder o a p H) (fX7_change o a p m) := by
  have k1 := h.2.2.1
  have q2 := h.1.1.2.2.1
  have k1' := k1
  unfold okN at k1'
  by_cases g1 : 0 ≤ o ∧ o < H.1 0 5 0
  · have hA1 : fX2_hasOrder o H = some 1 := by rw [ev_hasO (by omega), bI_t (decide_eq_true g1)]
    have hA2 : fX7_isOrder o m = some 1 := by rw [ev_isO (by omega), q2, bI_t (decide_eq_true g1)]
    by_cases g2 : 1 ≤ a ∧ a ≤ 1000000
    · by_cases g3 : 0 ≤ p ∧ p ≤ 9
      · obtain ⟨w1, w2, w3⟩ := h.2.2.2.2.2.1 o g1
        have w2' := w2
        unfold okP at w2'
        have r10 : m.1 0 (121 + 16 * o + 10) = H.1 3 o 11 := h.1.atO g1 10 (by decide)
        by_cases g4 : H.1 3 o 11 = 2
        · refine callErr (r := -5) (by decide) (po_eq ?_) (po_eq ?_)
          · unfold fX2_alterOrder
            (repeat (first | (with_reducible refine po_gd ?_ ?_; · omega) | (with_reducible refine po_bnd ?_) | (with_reducible refine po_ift ?_ ?_; · omega) | (with_reducible refine po_iff ?_ ?_; · omega) | (with_reducible refine po_crs ?_) | (with_reducible refine po_cls ?_) | (with_reducible refine po_cre hA1 ?_) | (with_reducible refine po_cre (ev_btT ?_) ?_; (· omega))))
            exact po_some rfl
          · unfold fX7_change
            (repeat (first | (with_reducible refine po_gd ?_ ?_; · omega) | (with_reducible refine po_bnd ?_) | (with_reducible refine po_ift ?_ ?_; · omega) | (with_reducible refine po_iff ?_ ?_; · omega) | (with_reducible refine po_crs ?_) | (with_reducible refine po_cls ?_) | (with_reducible refine po_cre hA2 ?_) | (with_reducible refine po_cre (ev_inT ?_) ?_; (· omega)) | (with_reducible refine po_cre (ev_ofO ?_) ?_; (· omega))))
            exact po_some rfl
        · have hx : ∀ t x y : Int, ¬ (t = 3 ∧ x = o) → (hS (hS H 3 o 2 a) 3 o 8 p).1 t x y = H.1 t x y := fun t x y q => by rw [hS_n _ (by omega), hS_n _ (by omega)]
          have hf : ∀ f : Int, ¬ f = 2 → ¬ f = 8 → (hS (hS H 3 o 2 a) 3 o 8 p).1 3 o f = H.1 3 o f := fun f q r => by rw [hS_n _ (by omega), hS_n _ (by omega)]
          have f2 : (hS (hS H 3 o 2 a) 3 o 8 p).1 3 o 2 = a := by rw [hS_n _ (by omega), hS_p]
          have f8 : (hS (hS H 3 o 2 a) 3 o 8 p).1 3 o 8 = p := hS_p _ _ _ _ _
          refine ⟨H.1 3 o 2, hS (hS H 3 o 2 a) 3 o 8 p, po_eq ?_, by omega, Or.inr ⟨by omega, fun m1 hr => ?_⟩⟩
          · unfold fX2_alterOrder
            (repeat (first | (with_reducible refine po_gd ?_ ?_; · omega) | (with_reducible refine po_bnd ?_) | (with_reducible refine po_ift ?_ ?_; · omega) | (with_reducible refine po_iff ?_ ?_; · omega) | (with_reducible refine po_crs ?_) | (with_reducible refine po_cls ?_) | (with_reducible refine po_cre hA1 ?_) | (with_reducible refine po_cre (ev_btT ?_) ?_; (· omega))))
            exact po_some rfl
          · have hs := h.rec hr
            have r2 : m1.1 0 (121 + 16 * o + 2) = H.1 3 o 2 := hs.1.atO g1 2 (by decide)
            refine ⟨mS (mS m1 0 (121 + 16 * o + 2) a) 0 (121 + 16 * o + 8) p, po_eq ?_, ⟨hs.1.ord k1 (o := o) (by omega) hx rfl (fun j q => by rw [mS_n _ (by omega), mS_n _ (by omega)]) (by rw [mS_t _ _ _ (by decide), mS_t _ _ _ (by decide)]) rfl (fun f q => ?_), hs.2.1.ord hx (fun f q => hf f (by omega) (by omega)) (fun k q => by rw [mS_n _ (by omega), mS_n _ (by omega)]), h.2.2.ord (by omega) g1 hx rfl (hf 0 (by decide) (by decide)) (hf 15 (by decide) (by decide)) (w1.fr (fun f q => hf f (by omega) (by omega))) ?_ ?_⟩, ((keptEq.rf m1).s (by decide)).s (by decide)⟩
            · have hr1 := hr.1
              unfold fX7_change
              (repeat (first | (with_reducible refine po_gd ?_ ?_; · omega) | (with_reducible refine po_bnd ?_) | (with_reducible refine po_ift ?_ ?_; · omega) | (with_reducible refine po_iff ?_ ?_; · omega) | (with_reducible refine po_crs ?_) | (with_reducible refine po_cls ?_) | (with_reducible refine po_cre hA2 ?_) | (with_reducible refine po_cre (ev_inT ?_) ?_; (· omega)) | (with_reducible refine po_cre (ev_ofO ?_) ?_; (· omega)) | (with_reducible refine po_cle hr1 ?_) | (with_reducible refine po_cle (ev_becomes ?_ ?_ ?_) ?_; (· omega); (· omega); (· omega))))
              rw [r2]
              exact po_some rfl
            · have := hs.1.atO g1 f q
              by_cases c2 : f = 2
              · subst c2
                rw [mS_n _ (by omega), mS_p]
                exact f2.symm
              · by_cases c8 : f = 8
                · subst c8
                  rw [mS_p]
                  exact f8.symm
                · rw [mS_n _ (by omega), mS_n _ (by omega), this]
                  exact (ordN_at (fun f' q' => hf f' (by omega) (by omega))).symm
            · unfold okP at *
              rw [hf 0 (by decide) (by decide), hf 1 (by decide) (by decide), f2, f8, hf 9 (by decide) (by decide), hf 10 (by decide) (by decide), hf 11 (by decide) (by decide), hx 0 4 0 (by omega)]
              omega
            · unfold okC at *
              rw [hf 12 (by decide) (by decide), hf 13 (by decide) (by decide), hf 14 (by decide) (by decide), hf 15 (by decide) (by decide), hf 16 (by decide) (by decide)]
              exact w3
      · refine callErr (r := -2) (by decide) (po_eq ?_) (po_eq ?_)
        · unfold fX2_alterOrder
          (repeat (first | (with_reducible refine po_gd ?_ ?_; · omega) | (with_reducible refine po_bnd ?_) | (with_reducible refine po_ift ?_ ?_; · omega) | (with_reducible refine po_iff ?_ ?_; · omega) | (with_reducible refine po_crs ?_) | (with_reducible refine po_cls ?_) | (with_reducible refine po_cre hA1 ?_) | (with_reducible refine po_cre (ev_btT ?_) ?_; (· omega)) | (with_reducible refine po_cre (ev_btF ?_) ?_; (· omega))))
          exact po_some rfl
        · unfold fX7_change
          (repeat (first | (with_reducible refine po_gd ?_ ?_; · omega) | (with_reducible refine po_bnd ?_) | (with_reducible refine po_ift ?_ ?_; · omega) | (with_reducible refine po_iff ?_ ?_; · omega) | (with_reducible refine po_crs ?_) | (with_reducible refine po_cls ?_) | (with_reducible refine po_cre hA2 ?_) | (with_reducible refine po_cre (ev_inT ?_) ?_; (· omega)) | (with_reducible refine po_cre (ev_inF ?_) ?_; (· omega))))
          exact po_some rfl
    · refine callErr (r := -2) (by decide) (po_eq ?_) (po_eq ?_)
      · unfold fX2_alterOrder
        (repeat (first | (with_reducible refine po_gd ?_ ?_; · omega) | (with_reducible refine po_bnd ?_) | (with_reducible refine po_ift ?_ ?_; · omega) | (with_reducible refine po_iff ?_ ?_; · omega) | (with_reducible refine po_crs ?_) | (with_reducible refine po_cls ?_) | (with_reducible refine po_cre hA1 ?_) | (with_reducible refine po_cre (ev_btF ?_) ?_; (· omega))))
        exact po_some rfl
      · unfold fX7_change
        (repeat (first | (with_reducible refine po_gd ?_ ?_; · omega) | (with_reducible refine po_bnd ?_) | (with_reducible refine po_ift ?_ ?_; · omega) | (with_reducible refine po_iff ?_ ?_; · omega) | (with_reducible refine po_crs ?_) | (with_reducible refine po_cls ?_) | (with_reducible refine po_cre hA2 ?_) | (with_reducible refine po_cre (ev_inF ?_) ?_; (· omega))))
        exact po_some rfl
  · have hA1 : fX2_hasOrder o H = some 0 := by rw [ev_hasO (by omega), bI_f (decide_eq_false g1)]
    have hA2 : fX7_isOrder o m = some 0 := by rw [ev_isO (by omega), q2, bI_f (decide_eq_false g1)]
    refine callErr (r := -1) (by decide) (po_eq ?_) (po_eq ?_)
    · unfold fX2_alterOrder
      (repeat (first | (with_reducible refine po_gd ?_ ?_; · omega) | (with_reducible refine po_bnd ?_) | (with_reducible refine po_ift ?_ ?_; · omega) | (with_reducible refine po_iff ?_ ?_; · omega) | (with_reducible refine po_crs ?_) | (with_reducible refine po_cls ?_) | (with_reducible refine po_cre hA1 ?_)))
      exact po_some rfl
    · unfold fX7_change
      (repeat (first | (with_reducible refine po_gd ?_ ?_; · omega) | (with_reducible refine po_bnd ?_) | (with_reducible refine po_ift ?_ ?_; · omega) | (with_reducible refine po_iff ?_ ?_; · omega) | (with_reducible refine po_crs ?_) | (with_reducible refine po_cls ?_) | (with_reducible refine po_cre hA2 ?_)))
      exact po_some rfl
end
section
/-! ===== stop and goOn in step ===== -/
theorem cal_both {H : hR} {m : mR} (h : CorM H m) (hw : 0 ≤ H.1 1 2 0 ∧ H.1 1 2 0 ≤ 6) : calC H (cB H) ∧ calM m (cB H) := by
  have e12 : m.1 0 12 = H.1 1 2 0 := h.1.2.2.2.2.2.2.2.2.2
  refine ⟨ec_cal hw, fun d hd => ?_⟩
  rw [em_isBz hd (by rw [e12]; exact hw) h.2.1.1]
  unfold mB cB biz
  rw [e12, h.2.1.2 d hd]
/-- leaving out, from any order as it stands -/
theorem ls_leaveOut {b : Int → Bool} {o t : Int} {H : hR} {m : mR} (ho : 0 ≤ o ∧ o < 16) (ht : 0 ≤ t ∧ t ≤ 1094) (hbC : calC H b) (hbM : calM m b) (hh : holOK (m.1 0)) (hw : 0 ≤ m.1 0 12 ∧ m.1 0 12 ≤ 6) (h0 : m.1 0 0 = t) (hk : okOrd H o) (hc : corR H (m.1 0) o) (hf : 0 ≤ H.1 3 o 16 ∧ H.1 3 o 16 ≤ 1095) :
    ∃ r H' m', fX3_leaveOutBefore o t H = some (r, H') ∧ fX7_leavesOut o m = some (r, m') ∧ onlyNext o H H' ∧ onlyN14 o m m' ∧ corR H' (m'.1 0) o ∧ aimed b H' o ∧ H.1 3 o 16 ≤ H'.1 3 o 16 ∧ H'.1 3 o 16 ≤ 1095 ∧ t ≤ H'.1 3 o 19 ∧ 0 ≤ r ∧ r ≤ 1096 := by
  obtain ⟨⟨u, H1⟩, e1, hon, hai⟩ := ec_aim (o := o) hbC hk (by omega)
  have f16 : H1.1 3 o 16 = H.1 3 o 16 := hon.1 3 o 16 (by omega)
  have hH1 : ∀ f : Int, (0 ≤ f ∧ f ≤ 14) ∨ f = 16 → H1.1 3 o f = H.1 3 o f := fun f q => hon.1 3 o f (by omega)
  have k2 : okOrd H1 o := hk.fr (fun f q => hon.1 3 o f (by omega))
  have b2 : calC H1 b := hbC.fr (fun a => hon.1 6 a 0 (by omega)) (hon.1 1 2 0 (by omega))
  have c2 : corR H1 (m.1 0) o := fun f q => by rw [ordN_fr hH1 q]; exact hc f q
  obtain ⟨r, H', m', w1, w2, w3, w4, w5, w6, w7, w8, w9, w10, w11⟩ := ls_leave ho ht (1096 - H1.1 3 o 16).toNat fuel0 fuel0 0 0 H1 m rfl (by show _ < 1000000; omega) (by show _ < 1000000; omega) b2 hbM hh hw h0 k2 c2 hai (by omega) (by omega) (by decide) (by omega)
  refine ⟨r, H', m', po_eq ?_, po_eq ?_, ⟨fun t' a f q => (w3.1 t' a f q).trans (hon.1 t' a f (by omega)), w3.2.trans hon.2⟩, w4, w5, w6, by omega, w8, w9, w10, by omega⟩
  · unfold fX3_leaveOutBefore
    exact po_cle e1 (po_of w1 rfl)
  · have c14 : m.1 0 (121 + 16 * o + 14) = H1.1 3 o 16 := c2 14 (by decide)
    have eo := em_occ (fr := H1.1 3 o 16) hbM k2 c2 ho (by omega)
    unfold fX7_leavesOut
    refine po_cre (ev_ofO (by omega)) ?_
    rw [c14]
    exact po_cre eo (po_of w2 rfl)
theorem ls_stop {T : Int} {H : hR} {m : mR} (h : Sim T H m) {o : Int} (ho : wR o) : coreOK T H m (fX2_stopOrder o H) (fX7_checksState o 0 m) (fX7_stops o m) := by
  have k1 := h.2.2.1
  have q2 := h.1.1.2.2.1
  have k1' := k1
  unfold okN at k1'
  by_cases g1 : 0 ≤ o ∧ o < H.1 0 5 0
  · have hA1 : fX2_hasOrder o H = some 1 := by rw [ev_hasO (by omega), bI_t (decide_eq_true g1)]
    have hA2 : fX7_isOrder o m = some 1 := by rw [ev_isO (by omega), q2, bI_t (decide_eq_true g1)]
    obtain ⟨w1, w2, w3⟩ := h.2.2.2.2.2.1 o g1
    have w2' := w2
    unfold okP at w2'
    have r10 : m.1 0 (121 + 16 * o + 10) = H.1 3 o 11 := h.1.atO g1 10 (by decide)
    by_cases g2 : H.1 3 o 11 = 0
    · have hx : ∀ t x y : Int, ¬ (t = 3 ∧ x = o) → (hS H 3 o 11 1).1 t x y = H.1 t x y := fun t x y q => hS_n H (by omega)
      have hf : ∀ f : Int, ¬ f = 11 → (hS H 3 o 11 1).1 3 o f = H.1 3 o f := fun f q => hS_n H (by omega)
      have hn : ∀ j : Int, ¬ j = 121 + 16 * o + 10 → (mS m 0 (121 + 16 * o + 10) 1).1 0 j = m.1 0 j := fun j q => mS_n m (by omega)
      have hcnt := h.2.2.2.2.2.2.2.1.2 o g1
      have hrng := cntW_rng (H := H) (o := o) (H.1 4 2 0).toNat
      refine ⟨H.1 3 o 15, hS H 3 o 11 1, po_eq ?_, by omega, Or.inr ⟨by omega, po_eq ?_, mS m 0 (121 + 16 * o + 10) 1, po_eq ?_, ⟨h.1.ord k1 (o := o) (by omega) hx rfl (fun j q => hn j (by omega)) (mS_t _ _ _ (by decide)) rfl (fun f q => ?_), h.2.1.ord hx (fun f q => hf f (by omega)) (fun k q => hn k (by omega)), h.2.2.ord (by omega) g1 hx rfl (hf 0 (by decide)) (hf 15 (by decide)) (w1.fr (fun f q => hf f (by omega))) ?_ ?_⟩, (keptEq.rf m).s (by decide)⟩⟩
      · have e15 := hf 15 (by decide)
        unfold fX2_stopOrder
        (repeat (first | (with_reducible refine po_gd ?_ ?_; · omega) | (with_reducible refine po_bnd ?_) | (with_reducible refine po_ift ?_ ?_; · omega) | (with_reducible refine po_iff ?_ ?_; · omega) | (with_reducible refine po_crs ?_) | (with_reducible refine po_cls ?_) | (with_reducible refine po_cre hA1 ?_)))
        rw [e15]
        exact po_some rfl
      · unfold fX7_checksState
        (repeat (first | (with_reducible refine po_gd ?_ ?_; · omega) | (with_reducible refine po_bnd ?_) | (with_reducible refine po_ift ?_ ?_; · omega) | (with_reducible refine po_iff ?_ ?_; · omega) | (with_reducible refine po_crs ?_) | (with_reducible refine po_cls ?_) | (with_reducible refine po_cre hA2 ?_) | (with_reducible refine po_cre (ev_ofO ?_) ?_; (· omega))))
        exact po_some rfl
      · have ew := h.waitsOf (m' := mS m 0 (121 + 16 * o + 10) 1) ho (mS_t _ _ _ (by decide)) (hn 4 (by omega))
        rw [← hcnt] at ew
        unfold fX7_stops
        (repeat (first | (with_reducible refine po_gd ?_ ?_; · omega) | (with_reducible refine po_bnd ?_) | (with_reducible refine po_ift ?_ ?_; · omega) | (with_reducible refine po_iff ?_ ?_; · omega) | (with_reducible refine po_crs ?_) | (with_reducible refine po_cls ?_) | (with_reducible refine po_cle (ev_becomes ?_ ?_ ?_) ?_; (· omega); (· omega); (· omega)) | (with_reducible refine po_cre ew ?_)))
        exact po_some rfl
      · by_cases c : f = 10
        · subst c
          rw [mS_p]
          exact (hS_p H 3 o 11 1).symm
        · rw [hn _ (by omega), h.1.atO g1 f q]
          by_cases c9 : f = 9
          · subst c9
            show (if H.1 3 o 11 = 2 then 0 else H.1 3 o 10) = (if (hS H 3 o 11 1).1 3 o 11 = 2 then 0 else (hS H 3 o 11 1).1 3 o 10)
            rw [hS_p, hf 10 (by decide), if_neg (by omega), if_neg (by decide)]
          · exact (ordN_at (fun f' q' => hf f' (by omega))).symm
      · unfold okP at *
        rw [hf 0 (by decide), hf 1 (by decide), hf 2 (by decide), hf 8 (by decide), hf 9 (by decide), hf 10 (by decide), hS_p, hx 0 4 0 (by omega)]
        omega
      · unfold okC at *
        rw [hf 12 (by decide), hf 13 (by decide), hf 14 (by decide), hf 15 (by decide), hf 16 (by decide)]
        exact w3
    · refine ⟨-5, H, po_eq ?_, by decide, Or.inl ⟨by decide, by decide, rfl, po_eq ?_⟩⟩
      · unfold fX2_stopOrder
        (repeat (first | (with_reducible refine po_gd ?_ ?_; · omega) | (with_reducible refine po_bnd ?_) | (with_reducible refine po_ift ?_ ?_; · omega) | (with_reducible refine po_iff ?_ ?_; · omega) | (with_reducible refine po_crs ?_) | (with_reducible refine po_cls ?_) | (with_reducible refine po_cre hA1 ?_)))
        exact po_some rfl
      · unfold fX7_checksState
        (repeat (first | (with_reducible refine po_gd ?_ ?_; · omega) | (with_reducible refine po_bnd ?_) | (with_reducible refine po_ift ?_ ?_; · omega) | (with_reducible refine po_iff ?_ ?_; · omega) | (with_reducible refine po_crs ?_) | (with_reducible refine po_cls ?_) | (with_reducible refine po_cre hA2 ?_) | (with_reducible refine po_cre (ev_ofO ?_) ?_; (· omega))))
        exact po_some rfl
  · have hA1 : fX2_hasOrder o H = some 0 := by rw [ev_hasO (by omega), bI_f (decide_eq_false g1)]
    have hA2 : fX7_isOrder o m = some 0 := by rw [ev_isO (by omega), q2, bI_f (decide_eq_false g1)]
    refine ⟨-1, H, po_eq ?_, by decide, Or.inl ⟨by decide, by decide, rfl, po_eq ?_⟩⟩
    · unfold fX2_stopOrder
      (repeat (first | (with_reducible refine po_gd ?_ ?_; · omega) | (with_reducible refine po_bnd ?_) | (with_reducible refine po_ift ?_ ?_; · omega) | (with_reducible refine po_iff ?_ ?_; · omega) | (with_reducible refine po_crs ?_) | (with_reducible refine po_cls ?_) | (with_reducible refine po_cre hA1 ?_)))
      exact po_some rfl
    · unfold fX7_checksState
      (repeat (first | (with_reducible refine po_gd ?_ ?_; · omega) | (with_reducible refine po_bnd ?_) | (with_reducible refine po_ift ?_ ?_; · omega) | (with_reducible refine po_iff ?_ ?_; · omega) | (with_reducible refine po_crs ?_) | (with_reducible refine po_cls ?_) | (with_reducible refine po_cre hA2 ?_)))
      exact po_some rfl
theorem ls_goOn {T : Int} {H : hR} {m : mR} (h : Sim T H m) {o : Int} (ho : wR o) : coreOK T H m (fX2_resumeOrder o H) (fX7_checksState o 1 m) (fX7_goesOn o m) := by
  have k1 := h.2.2.1
  have q2 := h.1.1.2.2.1
  have k1' := k1
  unfold okN at k1'
  by_cases g1 : 0 ≤ o ∧ o < H.1 0 5 0
  · have hA1 : fX2_hasOrder o H = some 1 := by rw [ev_hasO (by omega), bI_t (decide_eq_true g1)]
    have hA2 : fX7_isOrder o m = some 1 := by rw [ev_isO (by omega), q2, bI_t (decide_eq_true g1)]
    obtain ⟨w1, w2, w3⟩ := h.2.2.2.2.2.1 o g1
    have w2' := w2
    unfold okP at w2'
    have w3' := w3
    unfold okC at w3'
    have r10 : m.1 0 (121 + 16 * o + 10) = H.1 3 o 11 := h.1.atO g1 10 (by decide)
    by_cases g2 : H.1 3 o 11 = 1
    · have ks := h.2.2.2.1
      have ks' := ks
      unfold okS at ks'
      obtain ⟨b1, b2⟩ := cal_both h.1 ks.2.1
      have e12 : m.1 0 12 = H.1 1 2 0 := h.1.1.2.2.2.2.2.2.2.2.2
      have e0 : m.1 0 0 = H.1 0 6 0 := h.1.1.1
      have hx : ∀ t x y : Int, ¬ (t = 3 ∧ x = o) → (hS H 3 o 11 0).1 t x y = H.1 t x y := fun t x y q => hS_n H (by omega)
      have hf : ∀ f : Int, ¬ f = 11 → (hS H 3 o 11 0).1 3 o f = H.1 3 o f := fun f q => hS_n H (by omega)
      have hn : ∀ j : Int, ¬ j = 121 + 16 * o + 10 → (mS m 0 (121 + 16 * o + 10) 0).1 0 j = m.1 0 j := fun j q => mS_n m (by omega)
      have hcr : corR (hS H 3 o 11 0) ((mS m 0 (121 + 16 * o + 10) 0).1 0) o := fun f q => by
        by_cases c : f = 10
        · subst c
          rw [mS_p]
          exact (hS_p H 3 o 11 0).symm
        · rw [hn _ (by omega), h.1.atO g1 f q]
          by_cases c9 : f = 9
          · subst c9
            show (if H.1 3 o 11 = 2 then 0 else H.1 3 o 10) = (if (hS H 3 o 11 0).1 3 o 11 = 2 then 0 else (hS H 3 o 11 0).1 3 o 10)
            rw [hS_p, hf 10 (by decide), if_neg (by omega), if_neg (by decide)]
          · exact (ordN_at (fun f' q' => hf f' (by omega))).symm
      have b1' : calC (hS H 3 o 11 0) (cB H) := b1.fr (fun a => hx _ _ _ (by omega)) (hx _ _ _ (by omega))
      have b2' : calM (mS m 0 (121 + 16 * o + 10) 0) (cB H) := calM.fr h.1.2.1.1 (by rw [e12]; exact ks.2.1) b2 (fun k q => hn k (by omega))
      obtain ⟨r, H', m', f1, f2, f3, f4, f5, f6, f7, f8, f9, f10, f11⟩ := ls_leaveOut (o := o) (t := H.1 0 6 0) (by omega) (by omega) b1' b2' (h.1.2.1.1.fr (fun k q => hn k (by omega))) (by rw [hn 12 (by omega), e12]; exact ks.2.1) (by rw [hn 0 (by omega), e0]) (w1.fr (fun f q => hf f (by omega))) hcr (by rw [hf 16 (by decide)]; omega)
      have gx : ∀ t x y : Int, ¬ (t = 3 ∧ x = o) → H'.1 t x y = H.1 t x y := fun t x y q => (f3.1 t x y (by omega)).trans (hx t x y q)
      have gf : ∀ f : Int, ¬ f = 11 → ¬ f = 16 → ¬ f = 17 → ¬ f = 18 → ¬ f = 19 → H'.1 3 o f = H.1 3 o f := fun f q q1 q2 q3 q4 => (f3.1 3 o f (by omega)).trans (hf f q)
      have g11 : H'.1 3 o 11 = 0 := (f3.1 3 o 11 (by omega)).trans (hS_p _ _ _ _ _)
      have gn : ∀ j : Int, ¬ (121 + 16 * o ≤ j ∧ j ≤ 136 + 16 * o) → m'.1 0 j = m.1 0 j := fun j q => (f4.1 0 j (by omega)).trans (hn j (by omega))
      have gt : ∀ t : Int, ¬ t = 0 → m'.1 t = m.1 t := fun t q => by
        funext j
        rw [f4.1 t j (by omega)]
        exact mS_n m (by omega)
      refine ⟨r, H', po_eq ?_, by omega, Or.inr ⟨by omega, po_eq ?_, m', po_eq ?_, ⟨h.1.ord k1 (o := o) (by omega) gx f3.2 gn (gt 1 (by decide)) (by rw [f4.2]; rfl) f5, h.2.1.ord gx (fun f q => gf f (by omega) (by omega) (by omega) (by omega) (by omega)) (fun k q => gn k (by omega)), h.2.2.ord (by omega) g1 gx f3.2 (gf 0 (by decide) (by decide) (by decide) (by decide) (by decide)) (gf 15 (by decide) (by decide) (by decide) (by decide) (by decide)) (w1.fr (fun f q => gf f (by omega) (by omega) (by omega) (by omega) (by omega))) ?_ ?_⟩, ⟨gt 2 (by decide), gt 3 (by decide), by rw [f4.2]; rfl, gt 4 (by decide), gt 5 (by decide), fun k q => by rw [gt 6 (by decide)]⟩⟩⟩
      · have e06 := hx 0 6 0 (by omega)
        unfold fX2_resumeOrder
        (repeat (first | (with_reducible refine po_gd ?_ ?_; · omega) | (with_reducible refine po_bnd ?_) | (with_reducible refine po_ift ?_ ?_; · omega) | (with_reducible refine po_iff ?_ ?_; · omega) | (with_reducible refine po_crs ?_) | (with_reducible refine po_cls ?_) | (with_reducible refine po_cre hA1 ?_)))
        rw [e06]
        exact po_cle f1 (po_some rfl)
      · unfold fX7_checksState
        (repeat (first | (with_reducible refine po_gd ?_ ?_; · omega) | (with_reducible refine po_bnd ?_) | (with_reducible refine po_ift ?_ ?_; · omega) | (with_reducible refine po_iff ?_ ?_; · omega) | (with_reducible refine po_crs ?_) | (with_reducible refine po_cls ?_) | (with_reducible refine po_cre hA2 ?_) | (with_reducible refine po_cre (ev_ofO ?_) ?_; (· omega))))
        exact po_some rfl
      · unfold fX7_goesOn
        (repeat (first | (with_reducible refine po_gd ?_ ?_; · omega) | (with_reducible refine po_bnd ?_) | (with_reducible refine po_ift ?_ ?_; · omega) | (with_reducible refine po_iff ?_ ?_; · omega) | (with_reducible refine po_crs ?_) | (with_reducible refine po_cls ?_) | (with_reducible refine po_cle (ev_becomes ?_ ?_ ?_) ?_; (· omega); (· omega); (· omega)) | (with_reducible refine po_cle f2 ?_)))
        exact po_some rfl
      · unfold okP at *
        rw [gf 0 (by decide) (by decide) (by decide) (by decide) (by decide), gf 1 (by decide) (by decide) (by decide) (by decide) (by decide), gf 2 (by decide) (by decide) (by decide) (by decide) (by decide), gf 8 (by decide) (by decide) (by decide) (by decide) (by decide), gf 9 (by decide) (by decide) (by decide) (by decide) (by decide), gf 10 (by decide) (by decide) (by decide) (by decide) (by decide), g11, gx 0 4 0 (by omega)]
        omega
      · rw [hf 16 (by decide)] at f7
        unfold okC at *
        rw [gf 12 (by decide) (by decide) (by decide) (by decide) (by decide), gf 13 (by decide) (by decide) (by decide) (by decide) (by decide), gf 14 (by decide) (by decide) (by decide) (by decide) (by decide), gf 15 (by decide) (by decide) (by decide) (by decide) (by decide)]
        omega
    · refine ⟨-5, H, po_eq ?_, by decide, Or.inl ⟨by decide, by decide, rfl, po_eq ?_⟩⟩
      · unfold fX2_resumeOrder
        (repeat (first | (with_reducible refine po_gd ?_ ?_; · omega) | (with_reducible refine po_bnd ?_) | (with_reducible refine po_ift ?_ ?_; · omega) | (with_reducible refine po_iff ?_ ?_; · omega) | (with_reducible refine po_crs ?_) | (with_reducible refine po_cls ?_) | (with_reducible refine po_cre hA1 ?_)))
        exact po_some rfl
      · unfold fX7_checksState
        (repeat (first | (with_reducible refine po_gd ?_ ?_; · omega) | (with_reducible refine po_bnd ?_) | (with_reducible refine po_ift ?_ ?_; · omega) | (with_reducible refine po_iff ?_ ?_; · omega) | (with_reducible refine po_crs ?_) | (with_reducible refine po_cls ?_) | (with_reducible refine po_cre hA2 ?_) | (with_reducible refine po_cre (ev_ofO ?_) ?_; (· omega))))
        exact po_some rfl
  · have hA1 : fX2_hasOrder o H = some 0 := by rw [ev_hasO (by omega), bI_f (decide_eq_false g1)]
    have hA2 : fX7_isOrder o m = some 0 := by rw [ev_isO (by omega), q2, bI_f (decide_eq_false g1)]
    refine ⟨-1, H, po_eq ?_, by decide, Or.inl ⟨by decide, by decide, rfl, po_eq ?_⟩⟩
    · unfold fX2_resumeOrder
      (repeat (first | (with_reducible refine po_gd ?_ ?_; · omega) | (with_reducible refine po_bnd ?_) | (with_reducible refine po_ift ?_ ?_; · omega) | (with_reducible refine po_iff ?_ ?_; · omega) | (with_reducible refine po_crs ?_) | (with_reducible refine po_cls ?_) | (with_reducible refine po_cre hA1 ?_)))
      exact po_some rfl
    · unfold fX7_checksState
      (repeat (first | (with_reducible refine po_gd ?_ ?_; · omega) | (with_reducible refine po_bnd ?_) | (with_reducible refine po_ift ?_ ?_; · omega) | (with_reducible refine po_iff ?_ ?_; · omega) | (with_reducible refine po_crs ?_) | (with_reducible refine po_cls ?_) | (with_reducible refine po_cre hA2 ?_)))
      exact po_some rfl
end
section
/-! ===== what an order is checked for, on both sides ===== -/
theorem callOf {T : Int} {H : hR} {m : mR} {c : Option (Int × hR)} {chk : mR → Option Int} {core ref : mR → Option (Int × mR)} (h : Sim T H m) (hc : ∀ m1, Sim T H m1 → coreOK T H m1 c (chk m1) (core m1)) (he : ∀ r, ¬ r = 0 → wR r → chk m = some r → ref m = some (r, m)) (h0 : ∀ m1 r m', chk m = some 0 → fX7_records m = some ((), m1) → core m1 = some (r, m') → ref m = some (r, m')) : callOK T H m c (ref m) := by
  obtain ⟨r, H', e1, e2, e3⟩ := hc m h
  refine ⟨r, H', e1, e2, ?_⟩
  rcases e3 with ⟨f1, f2, f3, f4⟩ | ⟨f1, f2, -⟩
  · exact Or.inl ⟨f1, f2, f3, he r (by omega) e2 f4⟩
  · refine Or.inr ⟨f1, fun m1 hr => ?_⟩
    obtain ⟨r', H'', g1, g2, g3⟩ := hc m1 (h.rec hr)
    rw [e1] at g1
    cases g1
    rcases g3 with ⟨f3, f4, -⟩ | ⟨f3, f4, m', f5, f6, f7⟩
    · exact absurd ⟨f3, f4⟩ f1
    · exact ⟨m', h0 m1 r m' f2 hr.1 f5, f6, f7⟩
theorem ls_stopC {T : Int} {H : hR} {m : mR} (h : Sim T H m) {o : Int} (ho : wR o) : callOK T H m (fX2_stopOrder o H) (fX7_stop o m) := by
  refine callOf (chk := fX7_checksState o 0) (core := fX7_stops o) (ref := fX7_stop o) h (fun m1 h1 => ls_stop h1 ho) (fun r hr hw e => po_eq ?_) (fun m1 r m' e1 e2 e3 => po_eq ?_)
  · unfold fX7_stop
    (repeat (first | (with_reducible refine po_gd ?_ ?_; · omega) | (with_reducible refine po_bnd ?_) | (with_reducible refine po_ift ?_ ?_; · omega) | (with_reducible refine po_iff ?_ ?_; · omega) | (with_reducible refine po_crs ?_) | (with_reducible refine po_cls ?_) | (with_reducible refine po_cre e ?_)))
    exact po_some rfl
  · unfold fX7_stop
    (repeat (first | (with_reducible refine po_gd ?_ ?_; · omega) | (with_reducible refine po_bnd ?_) | (with_reducible refine po_ift ?_ ?_; · omega) | (with_reducible refine po_iff ?_ ?_; · omega) | (with_reducible refine po_crs ?_) | (with_reducible refine po_cls ?_) | (with_reducible refine po_cre e1 ?_) | (with_reducible refine po_cle e2 ?_) | (with_reducible refine po_cle e3 ?_)))
    exact po_some rfl
theorem ls_goOnC {T : Int} {H : hR} {m : mR} (h : Sim T H m) {o : Int} (ho : wR o) : callOK T H m (fX2_resumeOrder o H) (fX7_goOn o m) := by
  refine callOf (chk := fX7_checksState o 1) (core := fX7_goesOn o) (ref := fX7_goOn o) h (fun m1 h1 => ls_goOn h1 ho) (fun r hr hw e => po_eq ?_) (fun m1 r m' e1 e2 e3 => po_eq ?_)
  · unfold fX7_goOn
    (repeat (first | (with_reducible refine po_gd ?_ ?_; · omega) | (with_reducible refine po_bnd ?_) | (with_reducible refine po_ift ?_ ?_; · omega) | (with_reducible refine po_iff ?_ ?_; · omega) | (with_reducible refine po_crs ?_) | (with_reducible refine po_cls ?_) | (with_reducible refine po_cre e ?_)))
    exact po_some rfl
  · unfold fX7_goOn
    (repeat (first | (with_reducible refine po_gd ?_ ?_; · omega) | (with_reducible refine po_bnd ?_) | (with_reducible refine po_ift ?_ ?_; · omega) | (with_reducible refine po_iff ?_ ?_; · omega) | (with_reducible refine po_crs ?_) | (with_reducible refine po_cls ?_) | (with_reducible refine po_cre e1 ?_) | (with_reducible refine po_cle e2 ?_) | (with_reducible refine po_cle e3 ?_)))
    exact po_some rfl
def datesB (x : Int) : Bool := decide ((0 ≤ x ∧ x ≤ 39999) ∧ (1 ≤ x / 100 % 100 ∧ x / 100 % 100 ≤ 12) ∧ 1 ≤ x % 100 ∧ x % 100 ≤ 31)
theorem ec_dates {x : Int} (hx : wR x) : fX2_areDates x = some (bI (datesB x)) := by
  refine po_eq ?_
  unfold fX2_areDates datesB
  by_cases g1 : 0 ≤ x ∧ x ≤ 39999
  · have e1 : dvI x 100 = x / 100 := dvI_pos g1.1
    have e2 : rmI (x / 100) 100 = x / 100 % 100 := rmI_pos (by omega)
    have e3 : rmI x 100 = x % 100 := rmI_pos g1.1
    rw [e1, e2, e3]
    by_cases g2 : 1 ≤ x / 100 % 100 ∧ x / 100 % 100 ≤ 12
    · by_cases g3 : 1 ≤ x % 100 ∧ x % 100 ≤ 31
      · rw [bI_t (decide_eq_true ⟨g1, g2, g3⟩)]
        (repeat (first | (with_reducible refine po_gd ?_ ?_; · omega) | (with_reducible refine po_bnd ?_) | (with_reducible refine po_ift ?_ ?_; · omega) | (with_reducible refine po_iff ?_ ?_; · omega) | (with_reducible refine po_crs ?_) | (with_reducible refine po_cls ?_) | (with_reducible refine po_cre (ev_btT ?_) ?_; (· omega))))
        exact po_some rfl
      · rw [bI_f (decide_eq_false (fun q => g3 q.2.2))]
        (repeat (first | (with_reducible refine po_gd ?_ ?_; · omega) | (with_reducible refine po_bnd ?_) | (with_reducible refine po_ift ?_ ?_; · omega) | (with_reducible refine po_iff ?_ ?_; · omega) | (with_reducible refine po_crs ?_) | (with_reducible refine po_cls ?_) | (with_reducible refine po_cre (ev_btT ?_) ?_; (· omega)) | (with_reducible refine po_cre (ev_btF ?_) ?_; (· omega))))
        exact po_some rfl
    · rw [bI_f (decide_eq_false (fun q => g2 q.2.1))]
      (repeat (first | (with_reducible refine po_gd ?_ ?_; · omega) | (with_reducible refine po_bnd ?_) | (with_reducible refine po_ift ?_ ?_; · omega) | (with_reducible refine po_iff ?_ ?_; · omega) | (with_reducible refine po_crs ?_) | (with_reducible refine po_cls ?_) | (with_reducible refine po_cre (ev_btT ?_) ?_; (· omega)) | (with_reducible refine po_cre (ev_btF ?_) ?_; (· omega))))
      exact po_some rfl
  · rw [bI_f (decide_eq_false (fun q => g1 q.1))]
    (repeat (first | (with_reducible refine po_gd ?_ ?_; · omega) | (with_reducible refine po_bnd ?_) | (with_reducible refine po_ift ?_ ?_; · omega) | (with_reducible refine po_iff ?_ ?_; · omega) | (with_reducible refine po_crs ?_) | (with_reducible refine po_cls ?_) | (with_reducible refine po_cre (ev_btF ?_) ?_; (· omega))))
    exact po_some rfl
theorem em_dates {m : mR} {x2 x3 x4 x5 x6 x7 x8 : Int} (hx : wR x3) (h78 : wR x7 ∧ wR x8 ∧ ¬ x7 = x8) : fX7_checksOrder_b41 m x2 x3 x4 x5 x6 x7 x8 = fX7_checksOrder_b100 m x2 x4 x5 x6 (bI (datesB x3)) := by
  unfold fX7_checksOrder_b41
  rw [gd_pos (by omega), if_neg h78.2.2, gd_pos hx]
  unfold datesB
  by_cases g1 : 0 ≤ x3 ∧ x3 ≤ 39999
  · have e1 : dvI x3 100 = x3 / 100 := dvI_pos g1.1
    have e2 : rmI (x3 / 100) 100 = x3 / 100 % 100 := rmI_pos (by omega)
    have e3 : rmI x3 100 = x3 % 100 := rmI_pos g1.1
    rw [e1, e2, e3, ev_inT (by omega), cr_some, gd_pos (by decide), if_neg (by decide), gd_pos hx, gd_pos (by omega), gd_pos (by omega)]
    by_cases g2 : 1 ≤ x3 / 100 % 100 ∧ x3 / 100 % 100 ≤ 12
    · rw [ev_inT (by omega), cr_some, gd_pos (by decide), if_neg (by decide), gd_pos hx, gd_pos (by omega)]
      by_cases g3 : 1 ≤ x3 % 100 ∧ x3 % 100 ≤ 31
      · rw [ev_inT (by omega), cr_some, gd_pos (by decide), if_neg (by decide), bI_t (decide_eq_true ⟨g1, g2, g3⟩)]
      · rw [ev_inF (by omega), cr_some, gd_pos (by decide), if_pos rfl, bI_f (decide_eq_false (fun q => g3 q.2.2))]
    · rw [ev_inF (by omega), cr_some, gd_pos (by decide), if_pos rfl, bI_f (decide_eq_false (fun q => g2 q.2.1))]
  · rw [ev_inF (by omega), cr_some, gd_pos (by decide), if_pos rfl, bI_f (decide_eq_false (fun q => g1 q.1))]
/-- what makes an order possible -/
def ordOK (H : hR) (x1 x2 x3 x4 x5 x6 : Int) : Prop := (0 ≤ x1 ∧ x1 / 9 < H.1 0 4 0 ∧ ¬ x1 % 9 = x1 / 9 ∧ (x1 % 9 = 8 ∨ x1 % 9 < H.1 0 4 0)) ∧ (1 ≤ x2 ∧ x2 ≤ 1000000) ∧ datesB x3 = true ∧ (H.1 0 6 0 ≤ x4 ∧ x4 ≤ 1094) ∧ (0 ≤ x5 ∧ x5 ≤ 49) ∧ (0 ≤ x6 ∧ x6 ≤ 99) ∧ H.1 0 5 0 < 16
theorem ls_ordB {T : Int} {H : hR} {m : mR} (h : Sim T H m) {x1 x2 x3 x4 x5 x6 : Int} (h2 : wR x2) (h3 : wR x3) (h4 : wR x4) (h5 : wR x5) (h6 : wR x6) : (∃ r, -5 ≤ r ∧ r ≤ -1 ∧ fX2_addOrder_b50 x1 x2 x3 x4 x5 x6 H = some (r, H) ∧ fX7_checksOrder_b100 m x2 x4 x5 x6 (bI (datesB x3)) = some r) ∨
    (((1 ≤ x2 ∧ x2 ≤ 1000000) ∧ datesB x3 = true ∧ (H.1 0 6 0 ≤ x4 ∧ x4 ≤ 1094) ∧ (0 ≤ x5 ∧ x5 ≤ 49) ∧ (0 ≤ x6 ∧ x6 ≤ 99) ∧ H.1 0 5 0 < 16) ∧ fX7_checksOrder_b100 m x2 x4 x5 x6 (bI (datesB x3)) = some 0) := by
  have k1 := h.2.2.1
  unfold okN at k1
  have ks := h.2.2.2.1
  unfold okS at ks
  have q0 : fX7_today m = some (H.1 0 6 0) := by rw [ev_today, h.1.1.1]
  have q2 := h.1.1.2.2.1
  have hd := ec_dates h3
  by_cases g2 : 1 ≤ x2 ∧ x2 ≤ 1000000
  · cases gd3 : datesB x3
    · rw [gd3, bI_f rfl] at hd
      refine Or.inl ⟨-2, by decide, by decide, po_eq ?_, po_eq ?_⟩
      · unfold fX2_addOrder_b50
        (repeat (first | (with_reducible refine po_gd ?_ ?_; · omega) | (with_reducible refine po_bnd ?_) | (with_reducible refine po_ift ?_ ?_; · omega) | (with_reducible refine po_iff ?_ ?_; · omega) | (with_reducible refine po_crs ?_) | (with_reducible refine po_cls ?_) | (with_reducible refine po_cre (ev_btT ?_) ?_; (· omega)) | (with_reducible refine po_cre hd ?_)))
        exact po_some rfl
      · rw [bI_f rfl]
        unfold fX7_checksOrder_b100
        (repeat (first | (with_reducible refine po_gd ?_ ?_; · omega) | (with_reducible refine po_bnd ?_) | (with_reducible refine po_ift ?_ ?_; · omega) | (with_reducible refine po_iff ?_ ?_; · omega) | (with_reducible refine po_crs ?_) | (with_reducible refine po_cls ?_) | (with_reducible refine po_cre (ev_inT ?_) ?_; (· omega))))
        exact po_some rfl
    · rw [gd3, bI_t rfl] at hd
      rw [bI_t rfl]
      by_cases g4 : H.1 0 6 0 ≤ x4 ∧ x4 ≤ 1094
      · by_cases g5 : 0 ≤ x5 ∧ x5 ≤ 49
        · by_cases g6 : 0 ≤ x6 ∧ x6 ≤ 99
          · by_cases g7 : H.1 0 5 0 < 16
            · refine Or.inr ⟨⟨g2, rfl, g4, g5, g6, g7⟩, po_eq ?_⟩
              unfold fX7_checksOrder_b100
              (repeat (first | (with_reducible refine po_gd ?_ ?_; · omega) | (with_reducible refine po_bnd ?_) | (with_reducible refine po_ift ?_ ?_; · omega) | (with_reducible refine po_iff ?_ ?_; · omega) | (with_reducible refine po_crs ?_) | (with_reducible refine po_cls ?_) | (with_reducible refine po_cre (ev_inT ?_) ?_; (· omega)) | (with_reducible refine po_cre q0 ?_)))
              exact po_some rfl
            · refine Or.inl ⟨-4, by decide, by decide, po_eq ?_, po_eq ?_⟩
              · unfold fX2_addOrder_b50
                (repeat (first | (with_reducible refine po_gd ?_ ?_; · omega) | (with_reducible refine po_bnd ?_) | (with_reducible refine po_ift ?_ ?_; · omega) | (with_reducible refine po_iff ?_ ?_; · omega) | (with_reducible refine po_crs ?_) | (with_reducible refine po_cls ?_) | (with_reducible refine po_cre (ev_btT ?_) ?_; (· omega)) | (with_reducible refine po_cre hd ?_)))
                exact po_some rfl
              · unfold fX7_checksOrder_b100
                (repeat (first | (with_reducible refine po_gd ?_ ?_; · omega) | (with_reducible refine po_bnd ?_) | (with_reducible refine po_ift ?_ ?_; · omega) | (with_reducible refine po_iff ?_ ?_; · omega) | (with_reducible refine po_crs ?_) | (with_reducible refine po_cls ?_) | (with_reducible refine po_cre (ev_inT ?_) ?_; (· omega)) | (with_reducible refine po_cre q0 ?_)))
                exact po_some rfl
          · refine Or.inl ⟨-2, by decide, by decide, po_eq ?_, po_eq ?_⟩
            · unfold fX2_addOrder_b50
              (repeat (first | (with_reducible refine po_gd ?_ ?_; · omega) | (with_reducible refine po_bnd ?_) | (with_reducible refine po_ift ?_ ?_; · omega) | (with_reducible refine po_iff ?_ ?_; · omega) | (with_reducible refine po_crs ?_) | (with_reducible refine po_cls ?_) | (with_reducible refine po_cre (ev_btT ?_) ?_; (· omega)) | (with_reducible refine po_cre (ev_btF ?_) ?_; (· omega)) | (with_reducible refine po_cre hd ?_)))
              exact po_some rfl
            · unfold fX7_checksOrder_b100
              (repeat (first | (with_reducible refine po_gd ?_ ?_; · omega) | (with_reducible refine po_bnd ?_) | (with_reducible refine po_ift ?_ ?_; · omega) | (with_reducible refine po_iff ?_ ?_; · omega) | (with_reducible refine po_crs ?_) | (with_reducible refine po_cls ?_) | (with_reducible refine po_cre (ev_inT ?_) ?_; (· omega)) | (with_reducible refine po_cre (ev_inF ?_) ?_; (· omega)) | (with_reducible refine po_cre q0 ?_)))
              exact po_some rfl
        · refine Or.inl ⟨-2, by decide, by decide, po_eq ?_, po_eq ?_⟩
          · unfold fX2_addOrder_b50
            (repeat (first | (with_reducible refine po_gd ?_ ?_; · omega) | (with_reducible refine po_bnd ?_) | (with_reducible refine po_ift ?_ ?_; · omega) | (with_reducible refine po_iff ?_ ?_; · omega) | (with_reducible refine po_crs ?_) | (with_reducible refine po_cls ?_) | (with_reducible refine po_cre (ev_btT ?_) ?_; (· omega)) | (with_reducible refine po_cre (ev_btF ?_) ?_; (· omega)) | (with_reducible refine po_cre hd ?_)))
            exact po_some rfl
          · unfold fX7_checksOrder_b100
            (repeat (first | (with_reducible refine po_gd ?_ ?_; · omega) | (with_reducible refine po_bnd ?_) | (with_reducible refine po_ift ?_ ?_; · omega) | (with_reducible refine po_iff ?_ ?_; · omega) | (with_reducible refine po_crs ?_) | (with_reducible refine po_cls ?_) | (with_reducible refine po_cre (ev_inT ?_) ?_; (· omega)) | (with_reducible refine po_cre (ev_inF ?_) ?_; (· omega)) | (with_reducible refine po_cre q0 ?_)))
            exact po_some rfl
      · refine Or.inl ⟨-2, by decide, by decide, po_eq ?_, po_eq ?_⟩
        · unfold fX2_addOrder_b50
          (repeat (first | (with_reducible refine po_gd ?_ ?_; · omega) | (with_reducible refine po_bnd ?_) | (with_reducible refine po_ift ?_ ?_; · omega) | (with_reducible refine po_iff ?_ ?_; · omega) | (with_reducible refine po_crs ?_) | (with_reducible refine po_cls ?_) | (with_reducible refine po_cre (ev_btT ?_) ?_; (· omega)) | (with_reducible refine po_cre (ev_btF ?_) ?_; (· omega)) | (with_reducible refine po_cre hd ?_)))
          exact po_some rfl
        · unfold fX7_checksOrder_b100
          (repeat (first | (with_reducible refine po_gd ?_ ?_; · omega) | (with_reducible refine po_bnd ?_) | (with_reducible refine po_ift ?_ ?_; · omega) | (with_reducible refine po_iff ?_ ?_; · omega) | (with_reducible refine po_crs ?_) | (with_reducible refine po_cls ?_) | (with_reducible refine po_cre (ev_inT ?_) ?_; (· omega)) | (with_reducible refine po_cre (ev_inF ?_) ?_; (· omega)) | (with_reducible refine po_cre q0 ?_)))
          exact po_some rfl
  · refine Or.inl ⟨-2, by decide, by decide, po_eq ?_, po_eq ?_⟩
    · unfold fX2_addOrder_b50
      (repeat (first | (with_reducible refine po_gd ?_ ?_; · omega) | (with_reducible refine po_bnd ?_) | (with_reducible refine po_ift ?_ ?_; · omega) | (with_reducible refine po_iff ?_ ?_; · omega) | (with_reducible refine po_crs ?_) | (with_reducible refine po_cls ?_) | (with_reducible refine po_cre (ev_btF ?_) ?_; (· omega))))
      exact po_some rfl
    · unfold fX7_checksOrder_b100
      (repeat (first | (with_reducible refine po_gd ?_ ?_; · omega) | (with_reducible refine po_bnd ?_) | (with_reducible refine po_ift ?_ ?_; · omega) | (with_reducible refine po_iff ?_ ?_; · omega) | (with_reducible refine po_crs ?_) | (with_reducible refine po_cls ?_) | (with_reducible refine po_cre (ev_inF ?_) ?_; (· omega))))
      exact po_some rfl
theorem ls_ordchk {T : Int} {H : hR} {m : mR} (h : Sim T H m) {x1 x2 x3 x4 x5 x6 : Int} (h1 : wR x1) (h2 : wR x2) (h3 : wR x3) (h4 : wR x4) (h5 : wR x5) (h6 : wR x6) : (∃ r, -5 ≤ r ∧ r ≤ -1 ∧ fX2_addOrder x1 x2 x3 x4 x5 x6 H = some (r, H) ∧ fX7_checksOrder x1 x2 x3 x4 x5 x6 m = some r) ∨ (ordOK H x1 x2 x3 x4 x5 x6 ∧ fX2_addOrder x1 x2 x3 x4 x5 x6 H = fX2_addOrder_b50 x1 x2 x3 x4 x5 x6 H ∧ fX7_checksOrder x1 x2 x3 x4 x5 x6 m = some 0) := by
  have k1 := h.2.2.1
  unfold okN at k1
  have q1 := h.1.1.2.1
  by_cases g0 : 0 ≤ x1
  · have e1 : dvI x1 9 = x1 / 9 := dvI_pos g0
    have e2 : rmI x1 9 = x1 % 9 := rmI_pos g0
    by_cases g1 : x1 / 9 < H.1 0 4 0
    · have hA1 : fX2_hasAccount (x1 / 9) H = some 1 := by rw [ev_hasA (by omega), bI_t (decide_eq_true (by omega))]
      have hA2 : fX7_isAccount (x1 / 9) m = some 1 := by rw [ev_isA (by omega), q1, bI_t (decide_eq_true (by omega))]
      by_cases g2 : x1 % 9 = x1 / 9
      · have hB2 : fX7_isAccount (x1 % 9) m = some 1 := by rw [g2]; exact hA2
        refine Or.inl ⟨-1, by decide, by decide, po_eq ?_, po_eq ?_⟩
        · unfold fX2_addOrder
          rw [e1, e2]
          (repeat (first | (with_reducible refine po_gd ?_ ?_; · omega) | (with_reducible refine po_bnd ?_) | (with_reducible refine po_ift ?_ ?_; · omega) | (with_reducible refine po_iff ?_ ?_; · omega) | (with_reducible refine po_crs ?_) | (with_reducible refine po_cls ?_) | (with_reducible refine po_cre hA1 ?_)))
          exact po_some rfl
        · unfold fX7_checksOrder fX7_checksOrder_b41
          rw [e1, e2]
          (repeat (first | (with_reducible refine po_gd ?_ ?_; · omega) | (with_reducible refine po_bnd ?_) | (with_reducible refine po_ift ?_ ?_; · omega) | (with_reducible refine po_iff ?_ ?_; · omega) | (with_reducible refine po_crs ?_) | (with_reducible refine po_cls ?_) | (with_reducible refine po_cre hA2 ?_) | (with_reducible refine po_cre hB2 ?_)))
          exact po_some rfl
      · have hb := em_dates (m := m) (x2 := x2) (x3 := x3) (x4 := x4) (x5 := x5) (x6 := x6) (x7 := x1 / 9) (x8 := x1 % 9) h3 (by omega)
        have fin : (x1 % 9 = 8 ∨ x1 % 9 < H.1 0 4 0) → fX2_addOrder x1 x2 x3 x4 x5 x6 H = fX2_addOrder_b50 x1 x2 x3 x4 x5 x6 H → fX7_checksOrder x1 x2 x3 x4 x5 x6 m = fX7_checksOrder_b100 m x2 x4 x5 x6 (bI (datesB x3)) → (∃ r, -5 ≤ r ∧ r ≤ -1 ∧ fX2_addOrder x1 x2 x3 x4 x5 x6 H = some (r, H) ∧ fX7_checksOrder x1 x2 x3 x4 x5 x6 m = some r) ∨ (ordOK H x1 x2 x3 x4 x5 x6 ∧ fX2_addOrder x1 x2 x3 x4 x5 x6 H = fX2_addOrder_b50 x1 x2 x3 x4 x5 x6 H ∧ fX7_checksOrder x1 x2 x3 x4 x5 x6 m = some 0) := by
          intro c1 c2 c3
          rcases ls_ordB h h2 h3 h4 h5 h6 (x1 := x1) with ⟨r, r1, r2, r3, r4⟩ | ⟨r1, r2⟩
          · exact Or.inl ⟨r, r1, r2, c2.trans r3, c3.trans r4⟩
          · exact Or.inr ⟨⟨⟨g0, g1, g2, c1⟩, r1⟩, c2, c3.trans r2⟩
        by_cases g3 : x1 % 9 = 8
        · refine fin (Or.inl g3) ?_ ?_
          · unfold fX2_addOrder
            rw [e1, e2, gd_pos h1, if_neg (by omega), gd_pos h1, hA1, cr_some, gd_pos (by decide), if_neg (by decide), gd_pos h1, gd_pos h1, gd_pos (by omega), if_neg g2, gd_pos (by omega), if_pos g3]
          · unfold fX7_checksOrder
            rw [e1, e2, gd_pos h1, gd_pos h1, gd_pos h1, if_neg (by omega), hA2, cr_some, gd_pos (by decide), if_neg (by decide), gd_pos (by omega), if_pos g3, hb]
        · by_cases g4 : x1 % 9 < H.1 0 4 0
          · have hB1 : fX2_hasAccount (x1 % 9) H = some 1 := by rw [ev_hasA (by omega), bI_t (decide_eq_true (by omega))]
            have hB2 : fX7_isAccount (x1 % 9) m = some 1 := by rw [ev_isA (by omega), q1, bI_t (decide_eq_true (by omega))]
            refine fin (Or.inr g4) ?_ ?_
            · unfold fX2_addOrder
              rw [e1, e2, gd_pos h1, if_neg (by omega), gd_pos h1, hA1, cr_some, gd_pos (by decide), if_neg (by decide), gd_pos h1, gd_pos h1, gd_pos (by omega), if_neg g2, gd_pos (by omega), if_neg g3, hB1, cr_some, gd_pos (by decide), if_neg (by decide)]
            · unfold fX7_checksOrder
              rw [e1, e2, gd_pos h1, gd_pos h1, gd_pos h1, if_neg (by omega), hA2, cr_some, gd_pos (by decide), if_neg (by decide), gd_pos (by omega), if_neg g3, hB2, cr_some, gd_pos (by decide), if_neg (by decide), hb]
          · have hB1 : fX2_hasAccount (x1 % 9) H = some 0 := by rw [ev_hasA (by omega), bI_f (decide_eq_false (by omega))]
            have hB2 : fX7_isAccount (x1 % 9) m = some 0 := by rw [ev_isA (by omega), q1, bI_f (decide_eq_false (by omega))]
            refine Or.inl ⟨-1, by decide, by decide, po_eq ?_, po_eq ?_⟩
            · unfold fX2_addOrder
              rw [e1, e2]
              (repeat (first | (with_reducible refine po_gd ?_ ?_; · omega) | (with_reducible refine po_bnd ?_) | (with_reducible refine po_ift ?_ ?_; · omega) | (with_reducible refine po_iff ?_ ?_; · omega) | (with_reducible refine po_crs ?_) | (with_reducible refine po_cls ?_) | (with_reducible refine po_cre hA1 ?_) | (with_reducible refine po_cre hB1 ?_)))
              exact po_some rfl
            · unfold fX7_checksOrder
              rw [e1, e2]
              (repeat (first | (with_reducible refine po_gd ?_ ?_; · omega) | (with_reducible refine po_bnd ?_) | (with_reducible refine po_ift ?_ ?_; · omega) | (with_reducible refine po_iff ?_ ?_; · omega) | (with_reducible refine po_crs ?_) | (with_reducible refine po_cls ?_) | (with_reducible refine po_cre hA2 ?_) | (with_reducible refine po_cre hB2 ?_)))
              exact po_some rfl
    · have hA1 : fX2_hasAccount (x1 / 9) H = some 0 := by rw [ev_hasA (by omega), bI_f (decide_eq_false (by omega))]
      have hA2 : fX7_isAccount (x1 / 9) m = some 0 := by rw [ev_isA (by omega), q1, bI_f (decide_eq_false (by omega))]
      refine Or.inl ⟨-1, by decide, by decide, po_eq ?_, po_eq ?_⟩
      · unfold fX2_addOrder
        rw [e1, e2]
        (repeat (first | (with_reducible refine po_gd ?_ ?_; · omega) | (with_reducible refine po_bnd ?_) | (with_reducible refine po_ift ?_ ?_; · omega) | (with_reducible refine po_iff ?_ ?_; · omega) | (with_reducible refine po_crs ?_) | (with_reducible refine po_cls ?_) | (with_reducible refine po_cre hA1 ?_)))
        exact po_some rfl
      · unfold fX7_checksOrder
        rw [e1, e2]
        (repeat (first | (with_reducible refine po_gd ?_ ?_; · omega) | (with_reducible refine po_bnd ?_) | (with_reducible refine po_ift ?_ ?_; · omega) | (with_reducible refine po_iff ?_ ?_; · omega) | (with_reducible refine po_crs ?_) | (with_reducible refine po_cls ?_) | (with_reducible refine po_cre hA2 ?_)))
        exact po_some rfl
  · refine Or.inl ⟨-1, by decide, by decide, po_eq ?_, po_eq ?_⟩
    · unfold fX2_addOrder
      (repeat (first | (with_reducible refine po_gd ?_ ?_; · omega) | (with_reducible refine po_bnd ?_) | (with_reducible refine po_ift ?_ ?_; · omega) | (with_reducible refine po_iff ?_ ?_; · omega) | (with_reducible refine po_crs ?_) | (with_reducible refine po_cls ?_)))
      exact po_some rfl
    · unfold fX7_checksOrder
      (repeat (first | (with_reducible refine po_gd ?_ ?_; · omega) | (with_reducible refine po_bnd ?_) | (with_reducible refine po_ift ?_ ?_; · omega) | (with_reducible refine po_iff ?_ ?_; · omega) | (with_reducible refine po_crs ?_) | (with_reducible refine po_cls ?_)))
      exact po_some rfl
end
section
/-! ===== a new order ===== -/
theorem ec_begin {H : hR} {o x1 x2 x3 x4 x5 x6 : Int} (h1 : 0 ≤ x1 ∧ x1 ≤ 2147483647) (h3 : 0 ≤ x3 ∧ x3 ≤ 2147483647) (h5 : 0 ≤ x5 ∧ x5 ≤ 2147483647) (h6 : wR x6) : po (fX3_begin o x1 x2 x3 x4 x5 x6 H) (fun p => (∀ t x y : Int, ¬ (t = 3 ∧ x = o) → p.2.1 t x y = H.1 t x y) ∧ p.2.2 = H.2 ∧ p.2.1 3 o 0 = x1 / 9 ∧ p.2.1 3 o 1 = (if x1 % 9 = 8 then -6 else x1 % 9) ∧ p.2.1 3 o 2 = x2 ∧ p.2.1 3 o 3 = x3 / 10000 ∧ p.2.1 3 o 4 = x3 / 100 % 100 ∧ p.2.1 3 o 5 = x3 % 100 ∧ p.2.1 3 o 6 = x4 ∧ p.2.1 3 o 7 = x5 / 10 ∧ p.2.1 3 o 8 = x5 % 10 ∧ p.2.1 3 o 9 = (if x6 = 0 then 1 else 0) ∧ p.2.1 3 o 10 = x6 ∧ ∀ f : Int, 11 ≤ f ∧ f ≤ 16 → p.2.1 3 o f = 0) := by
  have e1 : dvI x1 9 = x1 / 9 := dvI_pos h1.1
  have e2 : rmI x1 9 = x1 % 9 := rmI_pos h1.1
  have e3 : dvI x3 10000 = x3 / 10000 := dvI_pos h3.1
  have e4 : dvI x3 100 = x3 / 100 := dvI_pos h3.1
  have e5 : rmI (x3 / 100) 100 = x3 / 100 % 100 := rmI_pos (by omega)
  have e6 : rmI x3 100 = x3 % 100 := rmI_pos h3.1
  have e7 : dvI x5 10 = x5 / 10 := dvI_pos h5.1
  have e8 : rmI x5 10 = x5 % 10 := rmI_pos h5.1
  have fin : ∀ (g z : Int) (H' : hR), H' = hS (hS (hS (hS (hS (hS (hS (hS (hS (hS (hS (hS (hS (hS (hS (hS (hS H 3 o 0 (x1 / 9)) 3 o 1 g) 3 o 2 x2) 3 o 3 (x3 / 10000)) 3 o 4 (x3 / 100 % 100)) 3 o 5 (x3 % 100)) 3 o 6 x4) 3 o 7 (x5 / 10)) 3 o 8 (x5 % 10)) 3 o 9 z) 3 o 10 x6) 3 o 11 0) 3 o 12 0) 3 o 13 0) 3 o 14 0) 3 o 15 0) 3 o 16 0 → (∀ t x y : Int, ¬ (t = 3 ∧ x = o) → H'.1 t x y = H.1 t x y) ∧ H'.2 = H.2 ∧ H'.1 3 o 0 = x1 / 9 ∧ H'.1 3 o 1 = g ∧ H'.1 3 o 2 = x2 ∧ H'.1 3 o 3 = x3 / 10000 ∧ H'.1 3 o 4 = x3 / 100 % 100 ∧ H'.1 3 o 5 = x3 % 100 ∧ H'.1 3 o 6 = x4 ∧ H'.1 3 o 7 = x5 / 10 ∧ H'.1 3 o 8 = x5 % 10 ∧ H'.1 3 o 9 = z ∧ H'.1 3 o 10 = x6 ∧ (∀ f : Int, 11 ≤ f ∧ f ≤ 16 → H'.1 3 o f = 0) := by
    intro g z H' e
    subst e
    refine ⟨fun t x y q => ?_, rfl, by simp [hS_1], by simp [hS_1], by simp [hS_1], by simp [hS_1], by simp [hS_1], by simp [hS_1], by simp [hS_1], by simp [hS_1], by simp [hS_1], by simp [hS_1], by simp [hS_1], fun f q => ?_⟩
    · have q3 : ∀ k : Int, ¬ (t = 3 ∧ x = o ∧ y = k) := fun k w => q ⟨w.1, w.2.1⟩
      simp only [hS_1, q3, if_false]
    · have : f = 11 ∨ f = 12 ∨ f = 13 ∨ f = 14 ∨ f = 15 ∨ f = 16 := by omega
      rcases this with rfl | rfl | rfl | rfl | rfl | rfl <;> simp [hS_1]
  unfold fX3_begin fX3_begin_b27 fX3_begin_b98
  rw [e1, e2, e3, e4, e5, e6, e7, e8]
  by_cases g : x1 % 9 = 8
  · by_cases z : x6 = 0
    · (repeat (first | (with_reducible refine po_gd ?_ ?_; · omega) | (with_reducible refine po_bnd ?_) | (with_reducible refine po_ift ?_ ?_; · omega) | (with_reducible refine po_iff ?_ ?_; · omega) | (with_reducible refine po_crs ?_) | (with_reducible refine po_cls ?_)))
      refine po_some ?_
      obtain ⟨a, b, c0, c1, c2, c3, c4, c5, c6, c7, c8, c9, c10, d⟩ := fin (-6) 1 _ rfl
      exact ⟨a, b, c0, by rw [if_pos g]; exact c1, c2, c3, c4, c5, c6, c7, c8, by rw [if_pos z]; exact c9, c10, d⟩
    · (repeat (first | (with_reducible refine po_gd ?_ ?_; · omega) | (with_reducible refine po_bnd ?_) | (with_reducible refine po_ift ?_ ?_; · omega) | (with_reducible refine po_iff ?_ ?_; · omega) | (with_reducible refine po_crs ?_) | (with_reducible refine po_cls ?_)))
      refine po_some ?_
      obtain ⟨a, b, c0, c1, c2, c3, c4, c5, c6, c7, c8, c9, c10, d⟩ := fin (-6) 0 _ rfl
      exact ⟨a, b, c0, by rw [if_pos g]; exact c1, c2, c3, c4, c5, c6, c7, c8, by rw [if_neg z]; exact c9, c10, d⟩
  · by_cases z : x6 = 0
    · (repeat (first | (with_reducible refine po_gd ?_ ?_; · omega) | (with_reducible refine po_bnd ?_) | (with_reducible refine po_ift ?_ ?_; · omega) | (with_reducible refine po_iff ?_ ?_; · omega) | (with_reducible refine po_crs ?_) | (with_reducible refine po_cls ?_)))
      refine po_some ?_
      obtain ⟨a, b, c0, c1, c2, c3, c4, c5, c6, c7, c8, c9, c10, d⟩ := fin (x1 % 9) 1 _ rfl
      exact ⟨a, b, c0, by rw [if_neg g]; exact c1, c2, c3, c4, c5, c6, c7, c8, by rw [if_pos z]; exact c9, c10, d⟩
    · (repeat (first | (with_reducible refine po_gd ?_ ?_; · omega) | (with_reducible refine po_bnd ?_) | (with_reducible refine po_ift ?_ ?_; · omega) | (with_reducible refine po_iff ?_ ?_; · omega) | (with_reducible refine po_crs ?_) | (with_reducible refine po_cls ?_)))
      refine po_some ?_
      obtain ⟨a, b, c0, c1, c2, c3, c4, c5, c6, c7, c8, c9, c10, d⟩ := fin (x1 % 9) 0 _ rfl
      exact ⟨a, b, c0, by rw [if_neg g]; exact c1, c2, c3, c4, c5, c6, c7, c8, by rw [if_neg z]; exact c9, c10, d⟩
/-- the reference's fields of a new order -/
def newN (x1 x2 x3 x4 x5 x6 f : Int) : Int :=
  if f = 0 then x1 / 9 else if f = 1 then x1 % 9 else if f = 2 then x2 else if f = 3 then x3 / 10000 else if f = 4 then x3 / 100 % 100 else if f = 5 then x3 % 100 else if f = 6 then x4 else if f = 7 then x5 / 10 else if f = 8 then x5 % 10 else if f = 9 then x6 else if f = 15 then (if x6 = 0 then 1 else 0) else 0
theorem em_make16 {o x1 x2 x3 x4 x5 x6 : Int} (ho : 0 ≤ o ∧ o < 16) (h1 : 0 ≤ x1 ∧ x1 ≤ 2147483647) (h2 : wR x2) (h3 : 0 ≤ x3 ∧ x3 ≤ 2147483647) (h4 : wR x4) (h5 : 0 ≤ x5 ∧ x5 ≤ 2147483647) (h6 : wR x6) (Q : Int × mR → Prop) : ∀ (n fuel : Nat) (k : Int) (m : mR), k + n = 16 → 0 ≤ k → n < fuel → (∀ m' : mR, (∀ j : Int, m'.1 0 j = if 121 + 16 * o ≤ j ∧ j ≤ 136 + 16 * o then (if k ≤ j - (121 + 16 * o) ∨ j - (121 + 16 * o) ≤ 9 ∨ j - (121 + 16 * o) = 15 then newN x1 x2 x3 x4 x5 x6 (j - (121 + 16 * o)) else m.1 0 j) else m.1 0 j) → m'.1 1 = m.1 1 → m'.2 = m.2 → keptEq m m' → po (cl (fX7_leavesOut o m') fun _ m2 => some (o, m2)) Q) → po (fX7_makes_b20 fuel x1 x2 x3 x4 x5 x6 o k m) Q
  | n, 0, k, m, _, _, h, _ => by omega
  | 0, fuel + 1, k, m, hk, _, _, hQ => by
    have e1 : dvI x1 9 = x1 / 9 := dvI_pos h1.1
    have e2 : rmI x1 9 = x1 % 9 := rmI_pos h1.1
    have e3 : dvI x3 10000 = x3 / 10000 := dvI_pos h3.1
    have e4 : dvI x3 100 = x3 / 100 := dvI_pos h3.1
    have e5 : rmI (x3 / 100) 100 = x3 / 100 % 100 := rmI_pos (by omega)
    have e6 : rmI x3 100 = x3 % 100 := rmI_pos h3.1
    have e7 : dvI x5 10 = x5 / 10 := dvI_pos h5.1
    have e8 : rmI x5 10 = x5 % 10 := rmI_pos h5.1
    have fin : ∀ z : Int, z = (if x6 = 0 then 1 else 0) → po (cl (fX7_leavesOut o (mS (mS (mS (mS (mS (mS (mS (mS (mS (mS (mS m 0 (121 + 16 * o + 0) (x1 / 9)) 0 (121 + 16 * o + 1) (x1 % 9)) 0 (121 + 16 * o + 2) x2) 0 (121 + 16 * o + 3) (x3 / 10000)) 0 (121 + 16 * o + 4) (x3 / 100 % 100)) 0 (121 + 16 * o + 5) (x3 % 100)) 0 (121 + 16 * o + 6) x4) 0 (121 + 16 * o + 7) (x5 / 10)) 0 (121 + 16 * o + 8) (x5 % 10)) 0 (121 + 16 * o + 9) x6) 0 (121 + 16 * o + 15) z)) fun _ m2 => some (o, m2)) Q := by
      intro z hz
      refine hQ _ (fun j => ?_) ?_ ?_ ?_
      rotate_left
      · simp only [mS_t _ _ _ (show ¬ (1 : Int) = 0 by decide)]
      · rfl
      · exact (((((((((((keptEq.rf m).s (Or.inl rfl)).s (Or.inl rfl)).s (Or.inl rfl)).s (Or.inl rfl)).s (Or.inl rfl)).s (Or.inl rfl)).s (Or.inl rfl)).s (Or.inl rfl)).s (Or.inl rfl)).s (Or.inl rfl)).s (Or.inl rfl)
      by_cases c : 121 + 16 * o ≤ j ∧ j ≤ 136 + 16 * o
      · rw [if_pos c]
        obtain ⟨f, hf, rfl⟩ : ∃ f : Int, (0 ≤ f ∧ f ≤ 15) ∧ j = 121 + 16 * o + f := ⟨j - (121 + 16 * o), by omega, by omega⟩
        rw [show 121 + 16 * o + f - (121 + 16 * o) = f by omega]
        by_cases d : f ≤ 9 ∨ f = 15
        · rw [if_pos (Or.inr d)]
          have : f = 0 ∨ f = 1 ∨ f = 2 ∨ f = 3 ∨ f = 4 ∨ f = 5 ∨ f = 6 ∨ f = 7 ∨ f = 8 ∨ f = 9 ∨ f = 15 := by omega
          rcases this with rfl | rfl | rfl | rfl | rfl | rfl | rfl | rfl | rfl | rfl | rfl
          · iterate 10 rw [mS_n _ (by omega)]
            rw [mS_p]; rfl
          · iterate 9 rw [mS_n _ (by omega)]
            rw [mS_p]; rfl
          · iterate 8 rw [mS_n _ (by omega)]
            rw [mS_p]; rfl
          · iterate 7 rw [mS_n _ (by omega)]
            rw [mS_p]; rfl
          · iterate 6 rw [mS_n _ (by omega)]
            rw [mS_p]; rfl
          · iterate 5 rw [mS_n _ (by omega)]
            rw [mS_p]; rfl
          · iterate 4 rw [mS_n _ (by omega)]
            rw [mS_p]; rfl
          · iterate 3 rw [mS_n _ (by omega)]
            rw [mS_p]; rfl
          · iterate 2 rw [mS_n _ (by omega)]
            rw [mS_p]; rfl
          · rw [mS_n _ (by omega), mS_p]; rfl
          · rw [mS_p, hz]; rfl
        · rw [if_neg (show ¬ (k ≤ f ∨ f ≤ 9 ∨ f = 15) by omega)]
          iterate 11 rw [mS_n _ (by omega)]
      · rw [if_neg c]
        iterate 11 rw [mS_n _ (by omega)]
    unfold fX7_makes_b20 fX7_makes_b170
    rw [e1, e2, e3, e4, e5, e6, e7, e8]
    by_cases z : x6 = 0
    · (repeat (first | (with_reducible refine po_gd ?_ ?_; · omega) | (with_reducible refine po_bnd ?_) | (with_reducible refine po_ift ?_ ?_; · omega) | (with_reducible refine po_iff ?_ ?_; · omega) | (with_reducible refine po_crs ?_) | (with_reducible refine po_cls ?_) | (with_reducible refine po_cle (ev_becomes ?_ ?_ ?_) ?_; (· omega); (· omega); (· omega))))
      exact fin 1 (by rw [if_pos z])
    · (repeat (first | (with_reducible refine po_gd ?_ ?_; · omega) | (with_reducible refine po_bnd ?_) | (with_reducible refine po_ift ?_ ?_; · omega) | (with_reducible refine po_iff ?_ ?_; · omega) | (with_reducible refine po_crs ?_) | (with_reducible refine po_cls ?_) | (with_reducible refine po_cle (ev_becomes ?_ ?_ ?_) ?_; (· omega); (· omega); (· omega))))
      exact fin 0 (by rw [if_neg z])
  | n + 1, fuel + 1, k, m, hk, hk0, hn, hQ => by
    unfold fX7_makes_b20
    refine po_gd (by omega) (po_iff (by omega) (po_cle (ev_becomes ho (by omega) (by decide)) (em_make16 ho h1 h2 h3 h4 h5 h6 Q n fuel (k + 1) _ (by omega) (by omega) (by omega) (fun m' a b c d => hQ m' (fun j => ?_) (b.trans (mS_t m _ _ (by decide))) c (((keptEq.rf m).s (by decide)).tr d)))))
    rw [a j]
    by_cases c1 : 121 + 16 * o ≤ j ∧ j ≤ 136 + 16 * o
    · rw [if_pos c1, if_pos c1]
      by_cases c2 : k + 1 ≤ j - (121 + 16 * o) ∨ j - (121 + 16 * o) ≤ 9 ∨ j - (121 + 16 * o) = 15
      · rw [if_pos c2, if_pos (by omega)]
      · rw [if_neg c2]
        by_cases c3 : j = 121 + 16 * o + k
        · subst c3
          rw [mS_p, if_pos (by omega)]
          rw [show 121 + 16 * o + k - (121 + 16 * o) = k by omega] at c2 ⊢
          unfold newN
          rw [if_neg (by omega), if_neg (by omega), if_neg (by omega), if_neg (by omega), if_neg (by omega), if_neg (by omega), if_neg (by omega), if_neg (by omega), if_neg (by omega), if_neg (by omega), if_neg (by omega)]
        · rw [mS_n _ (by omega), if_neg (by omega)]
    · rw [if_neg c1, if_neg c1, mS_n _ (by omega)]
end
section
/-! ===== order in step ===== -/
theorem Cor.addO {H H' : hR} {m m' : mR} {o : Int} (h : CorM H m) (hk : okN H) (ho : H.1 0 5 0 = o) (h16 : o < 16)
    (hH : ∀ t x y : Int, ¬ (t = 0 ∧ x = 5 ∧ y = 0) → ¬ (t = 3 ∧ x = o) → H'.1 t x y = H.1 t x y) (hD : H'.2 = H.2) (h5 : H'.1 0 5 0 = o + 1)
    (hN : ∀ j : Int, ¬ j = 2 → ¬ (121 + 16 * o ≤ j ∧ j ≤ 136 + 16 * o) → m'.1 0 j = m.1 0 j) (hN2 : m'.1 0 2 = o + 1) (hW : m'.1 1 = m.1 1) (hO : m'.2 0 = m.2 0) (hr : corR H' (m'.1 0) o) : CorM H' m' := by
  obtain ⟨h1, h2, h3, h4, h5'⟩ := h
  unfold okN at hk
  have e1 := h1.2.1
  obtain ⟨g1, g2, g3, g4, g5, g6, g7, g8, g9, g10⟩ := h1
  refine ⟨⟨?_, ?_, ?_, ?_, ?_, ?_, ?_, ?_, ?_, ?_⟩, h2.fr (fun x => hH _ _ _ (by omega) (by omega)) (fun k q => hN _ (by omega) (by omega)), h3.fr (fun a f q => hH _ _ _ (by omega) (by omega)) (fun a => by rw [hD]) (fun k q => hN _ (by omega) (by omega)) (fun a => by rw [hO]) (by omega), ?_, ?_⟩
  · rw [hN _ (by omega) (by omega), hH _ _ _ (by omega) (by omega)]; exact g1
  · rw [hN _ (by omega) (by omega), hH _ _ _ (by omega) (by omega)]; exact g2
  · rw [hN2, h5]
  · rw [hN _ (by omega) (by omega), hH _ _ _ (by omega) (by omega)]; exact g4
  · rw [hN _ (by omega) (by omega), hH _ _ _ (by omega) (by omega)]; exact g5
  · rw [hN _ (by omega) (by omega), hH _ _ _ (by omega) (by omega)]; exact g6
  · rw [hN _ (by omega) (by omega), hH _ _ _ (by omega) (by omega)]; exact g7
  · rw [hN _ (by omega) (by omega), hH _ _ _ (by omega) (by omega)]; exact g8
  · rw [hN _ (by omega) (by omega), hH _ _ _ (by omega) (by omega)]; exact g9
  · rw [hN _ (by omega) (by omega), hH _ _ _ (by omega) (by omega)]; exact g10
  · intro x hx f hf
    rw [hN2] at hx
    by_cases q : x = o
    · subst q
      exact hr f hf
    · rw [hN _ (by omega) (by omega), ordN_fr (H := H) (fun f _ => hH _ _ _ (by omega) (by omega)) hf]
      exact h4 x (by omega) f hf
  · rw [hN _ (by omega) (by omega), hW]
    exact h5'.fr (fun c i q => hH _ _ _ (by omega) (by omega)) (fun i q => rfl) (Int.le_refl _)
theorem cntW_0 {H : hR} {o : Int} : ∀ n : Nat, (∀ i : Int, 0 ≤ i ∧ i < n → ¬ H.1 5 0 i = o) → cntW H o n = 0
  | 0, _ => rfl
  | n + 1, h => by
    unfold cntW
    rw [cntW_0 n (fun i hi => h i (by omega)), if_neg (h n (by omega))]
    rfl
theorem Ok.addO {T T' : Int} {H H' : hR} {o : Int} (h : Ok T H) (hT : T ≤ T') (ho : H.1 0 5 0 = o) (h16 : o < 16)
    (hH : ∀ t x y : Int, ¬ (t = 0 ∧ x = 5 ∧ y = 0) → ¬ (t = 3 ∧ x = o) → H'.1 t x y = H.1 t x y) (hD : H'.2 = H.2) (h5 : H'.1 0 5 0 = o + 1) (q1 : okOrd H' o) (q2 : okP H' o) (q3 : okC H' o) (h15 : H'.1 3 o 15 = 0) : Ok T' H' := by
  obtain ⟨k1, k2, k3, k4, k5, k6, k7, k8⟩ := h
  have g : ∀ t x y : Int, ¬ t = 3 → ¬ (t = 0 ∧ x = 5) → H'.1 t x y = H.1 t x y := fun t x y a b => hH t x y (by omega) (by omega)
  have k1' := k1
  unfold okN at k1'
  refine ⟨?_, k2.fr (fun t x q => g _ _ _ (by omega) (by omega)), k3.fr (g _ _ _ (by omega) (by omega)) (fun a f q => g _ _ _ (by omega) (by omega)), ?_, ⟨fun i hi => ?_, fun i j hi hij hj => ?_⟩, ⟨fun a ha => ?_, fun x hx => ?_⟩, k7.fr hT (g _ _ _ (by omega) (by omega)) (g _ _ _ (by omega) (by omega)) (fun a f q => g _ _ _ (by omega) (by omega)), k8.fr (g _ _ _ (by omega) (by omega)) (g _ _ _ (by omega) (by omega)) (fun a => g _ _ _ (by omega) (by omega)) hD⟩
  · unfold okN
    rw [h5, g 0 4 0 (by omega) (by omega), g 4 2 0 (by omega) (by omega), g 4 1 0 (by omega) (by omega)]
    exact ⟨k1'.1, by omega, k1'.2.2⟩
  · intro x hx
    rw [h5] at hx
    by_cases q : x = o
    · subst q
      exact ⟨q1, q2, q3⟩
    · obtain ⟨w1, w2, w3⟩ := k4 x (by omega)
      have e : ∀ f : Int, H'.1 3 x f = H.1 3 x f := fun f => hH _ _ _ (by omega) (by omega)
      refine ⟨w1.fr (fun f _ => e f), ?_, ?_⟩
      · unfold okP at *
        rw [e, e, e, e, e, e, e, g 0 4 0 (by omega) (by omega)]
        exact w2
      · unfold okC at *
        rw [e, e, e, e, e]
        exact w3
  · rw [g 4 2 0 (by omega) (by omega)] at hi
    rw [g 5 0 i (by omega) (by omega), g 5 1 i (by omega) (by omega), g 5 2 i (by omega) (by omega), g 5 3 i (by omega) (by omega), g 5 4 i (by omega) (by omega), h5]
    have := k5.1 i hi
    omega
  · rw [g 4 2 0 (by omega) (by omega)] at hj
    rw [g 5 3 i (by omega) (by omega), g 5 3 j (by omega) (by omega), g 5 0 i (by omega) (by omega), g 5 0 j (by omega) (by omega)]
    exact k5.2 i j hi hij hj
  · rw [g 0 4 0 (by omega) (by omega)] at ha
    rw [g 2 a 11 (by omega) (by omega), g 4 2 0 (by omega) (by omega), sumW_fr (H := H) _ (fun c i _ => g _ _ _ (by omega) (by omega)) (fun i hi => ?_)]
    · exact k6.1 a ha
    · have := (k5.1 i (by omega)).1
      exact hH _ _ _ (by omega) (by omega)
  · rw [h5] at hx
    rw [g 4 2 0 (by omega) (by omega), cntW_fr (H := H) _ (fun i _ => g _ _ _ (by omega) (by omega))]
    by_cases q : x = o
    · subst q
      rw [h15, cntW_0]
      intro i hi
      have := (k5.1 i (by omega)).1
      omega
    · rw [hH 3 x 15 (by omega) (by omega)]
      exact k6.2 x (by omega)
theorem Tot.addO {H H' : hR} {N N' : Int → Int} {o : Int} (h : Tot H N) (ho : H.1 0 5 0 = o) (h0 : 0 ≤ o) (hH : ∀ x f : Int, ¬ x = o → H'.1 3 x f = H.1 3 x f) (h5 : H'.1 0 5 0 = o + 1) (hz : ∀ f : Int, 12 ≤ f ∧ f ≤ 14 → H'.1 3 o f = 0) (hN : ∀ k : Int, 5 ≤ k ∧ k ≤ 7 → N' k = N k) : Tot H' N' := by
  have e : ∀ f : Int, 12 ≤ f ∧ f ≤ 14 → sumF H' f (H'.1 0 5 0).toNat = sumF H f (H.1 0 5 0).toNat := by
    intro f hf
    rw [h5, ho, show (o + 1).toNat = o.toNat + 1 by omega]
    show sumF H' f o.toNat + H'.1 3 (o.toNat : Nat) f = _
    rw [show ((o.toNat : Nat) : Int) = o by omega, hz f hf, sumF_fr (H := H) _ (fun i hi => hH i f (by omega))]
    omega
  unfold Tot at *
  rw [hN 5 (by decide), hN 6 (by decide), hN 7 (by decide), e 12 (by decide), e 13 (by decide), e 14 (by decide)]
  exact h
theorem ls_order {T : Int} {H : hR} {m : mR} (h : Sim T H m) {x1 x2 x3 x4 x5 x6 : Int} (h1 : wR x1) (h2 : wR x2) (h3 : wR x3) (h4 : wR x4) (h5 : wR x5) (h6 : wR x6) : coreOK T H m (fX2_addOrder x1 x2 x3 x4 x5 x6 H) (fX7_checksOrder x1 x2 x3 x4 x5 x6 m) (fX7_makes x1 x2 x3 x4 x5 x6 m) := by
  rcases ls_ordchk h h1 h2 h3 h4 h5 h6 with ⟨r, r1, r2, r3, r4⟩ | ⟨⟨⟨a1, a2, a3, a4⟩, b2, b3, b4, b5, b6, b7⟩, c1, c2⟩
  · exact ⟨r, H, r3, by omega, Or.inl ⟨r1, r2, rfl, r4⟩⟩
  · have k1 := h.2.2.1
    have k1' := k1
    unfold okN at k1'
    have ks := h.2.2.2.1
    have ks' := ks
    unfold okS at ks'
    have hd := ec_dates h3
    rw [b3, bI_t rfl] at hd
    have b3' : (0 ≤ x3 ∧ x3 ≤ 39999) ∧ (1 ≤ x3 / 100 % 100 ∧ x3 / 100 % 100 ≤ 12) ∧ 1 ≤ x3 % 100 ∧ x3 % 100 ≤ 31 := of_decide_eq_true b3
    have e0 : m.1 0 0 = H.1 0 6 0 := h.1.1.1
    have e2 : m.1 0 2 = H.1 0 5 0 := h.1.1.2.2.1
    have e12 : m.1 0 12 = H.1 1 2 0 := h.1.1.2.2.2.2.2.2.2.2.2
    obtain ⟨bc, bm⟩ := cal_both h.1 ks.2.1
    obtain ⟨⟨u, H1⟩, f1, f2, f3, p0, p1, p2, p3, p4, p5, p6, p7, p8, p9, p10, p11⟩ := ec_begin (H := H) (o := H.1 0 5 0) (x1 := x1) (x2 := x2) (x3 := x3) (x4 := x4) (x5 := x5) (x6 := x6) (by omega) (by omega) (by omega) h6
    have f2 : ∀ t x y : Int, ¬ (t = 3 ∧ x = H.1 0 5 0) → H1.1 t x y = H.1 t x y := f2
    have f3 : H1.2 = H.2 := f3
    have p0 : H1.1 3 (H.1 0 5 0) 0 = x1 / 9 := p0
    have p1 : H1.1 3 (H.1 0 5 0) 1 = if x1 % 9 = 8 then -6 else x1 % 9 := p1
    have p2 : H1.1 3 (H.1 0 5 0) 2 = x2 := p2
    have p3 : H1.1 3 (H.1 0 5 0) 3 = x3 / 10000 := p3
    have p4 : H1.1 3 (H.1 0 5 0) 4 = x3 / 100 % 100 := p4
    have p5 : H1.1 3 (H.1 0 5 0) 5 = x3 % 100 := p5
    have p6 : H1.1 3 (H.1 0 5 0) 6 = x4 := p6
    have p7 : H1.1 3 (H.1 0 5 0) 7 = x5 / 10 := p7
    have p8 : H1.1 3 (H.1 0 5 0) 8 = x5 % 10 := p8
    have p9 : H1.1 3 (H.1 0 5 0) 9 = if x6 = 0 then 1 else 0 := p9
    have p10 : H1.1 3 (H.1 0 5 0) 10 = x6 := p10
    have p11 : ∀ f : Int, 11 ≤ f ∧ f ≤ 16 → H1.1 3 (H.1 0 5 0) f = 0 := p11
    have ko : okOrd H1 (H.1 0 5 0) := by
      unfold okOrd
      rw [p3, p4, p5, p6, p7]
      omega
    have key : po (fX7_makes x1 x2 x3 x4 x5 x6 m) (fun q => ∃ H2, fX2_addOrder_b50 x1 x2 x3 x4 x5 x6 H = some (H.1 0 5 0, H2) ∧ q.1 = H.1 0 5 0 ∧ Sim (T + 1) H2 q.2 ∧ keptEq m q.2) := by
      unfold fX7_makes
      refine po_cre (ev_of (by decide)) (po_bnd ?_)
      rw [e2]
      refine em_make16 (by omega) (by omega) h2 (by omega) h4 (by omega) h6 _ 16 fuel0 0 _ (by decide) (by decide) (by decide) (fun m2 w1 w2 w3 w4 => ?_)
      have rd : ∀ j : Int, ¬ (121 + 16 * H.1 0 5 0 ≤ j ∧ j ≤ 136 + 16 * H.1 0 5 0) → ¬ j = 2 → m2.1 0 j = m.1 0 j := fun j q1 q2 => by
        rw [w1 j, if_neg q1, mS_n m (by omega)]
      have rn : ∀ f : Int, 0 ≤ f ∧ f ≤ 15 → m2.1 0 (121 + 16 * H.1 0 5 0 + f) = newN x1 x2 x3 x4 x5 x6 f := fun f hf => by
        rw [w1, if_pos (by omega), if_pos (by omega), show 121 + 16 * H.1 0 5 0 + f - (121 + 16 * H.1 0 5 0) = f by omega]
      have r2 : m2.1 0 2 = H.1 0 5 0 + 1 := by rw [w1, if_neg (by omega), mS_p]
      have hcr : corR H1 (m2.1 0) (H.1 0 5 0) := fun f hf => by
        rw [rn f hf]
        have : f = 0 ∨ f = 1 ∨ f = 2 ∨ f = 3 ∨ f = 4 ∨ f = 5 ∨ f = 6 ∨ f = 7 ∨ f = 8 ∨ f = 9 ∨ (10 ≤ f ∧ f ≤ 13) ∨ f = 14 ∨ f = 15 := by omega
        rcases this with rfl | rfl | rfl | rfl | rfl | rfl | rfl | rfl | rfl | rfl | hq | rfl | rfl
        · exact p0.symm
        · show x1 % 9 = if H1.1 3 (H.1 0 5 0) 1 = -6 then 8 else H1.1 3 (H.1 0 5 0) 1
          rw [p1]
          by_cases c : x1 % 9 = 8
          · rw [if_pos c, if_pos rfl]; exact c
          · rw [if_neg c, if_neg (by omega)]
        · exact p2.symm
        · exact p3.symm
        · exact p4.symm
        · exact p5.symm
        · exact p6.symm
        · exact p7.symm
        · exact p8.symm
        · show x6 = if H1.1 3 (H.1 0 5 0) 11 = 2 then 0 else H1.1 3 (H.1 0 5 0) 10
          rw [p11 11 (by decide), if_neg (by decide), p10]
        · have : f = 10 ∨ f = 11 ∨ f = 12 ∨ f = 13 := by omega
          rcases this with rfl | rfl | rfl | rfl
          · exact (p11 11 (by decide)).symm
          · exact (p11 12 (by decide)).symm
          · exact (p11 13 (by decide)).symm
          · exact (p11 14 (by decide)).symm
        · exact (p11 16 (by decide)).symm
        · exact p9.symm
      have b1' : calC H1 (cB H) := bc.fr (fun a => f2 _ _ _ (by omega)) (f2 _ _ _ (by omega))
      have b2' : calM m2 (cB H) := calM.fr h.1.2.1.1 (by rw [e12]; exact ks.2.1) bm (fun k q => rd k (by omega) (by omega))
      obtain ⟨r, H2, m3, v1, v2, v3, v4, v5, v6, v7, v8, v9, v10, v11⟩ := ls_leaveOut (o := H.1 0 5 0) (t := H.1 0 6 0) (by omega) (by omega) b1' b2' (h.1.2.1.1.fr (fun k q => rd k (by omega) (by omega))) (by rw [rd 12 (by omega) (by omega), e12]; exact ks.2.1) (by rw [rd 0 (by omega) (by omega), e0]) ko hcr (by rw [p11 16 (by decide)]; decide)
      have gx : ∀ t x y : Int, ¬ (t = 0 ∧ x = 5 ∧ y = 0) → ¬ (t = 3 ∧ x = H.1 0 5 0) → (hS H2 0 5 0 (H.1 0 5 0 + 1)).1 t x y = H.1 t x y := fun t x y q1 q2 => by
        rw [hS_n _ (by omega), v3.1 t x y (by omega), f2 t x y q2]
      have gf : ∀ f : Int, ¬ f = 16 → ¬ f = 17 → ¬ f = 18 → ¬ f = 19 → (hS H2 0 5 0 (H.1 0 5 0 + 1)).1 3 (H.1 0 5 0) f = H1.1 3 (H.1 0 5 0) f := fun f q1 q2 q3 q4 => by
        rw [hS_n _ (by omega), v3.1 _ _ _ (by omega)]
      have g16 : (hS H2 0 5 0 (H.1 0 5 0 + 1)).1 3 (H.1 0 5 0) 16 = H2.1 3 (H.1 0 5 0) 16 := hS_n _ (by omega)
      have gn : ∀ j : Int, ¬ j = 2 → ¬ (121 + 16 * H.1 0 5 0 ≤ j ∧ j ≤ 136 + 16 * H.1 0 5 0) → m3.1 0 j = m.1 0 j := fun j q1 q2 => by rw [v4.1 0 j (by omega), rd j q2 q1]
      have gt : ∀ t : Int, ¬ t = 0 → m3.1 t = m2.1 t := fun t q => by
        funext j
        exact v4.1 t j (by omega)
      have g5 : (hS H2 0 5 0 (H.1 0 5 0 + 1)).1 0 5 0 = H.1 0 5 0 + 1 := hS_p _ _ _ _ _
      rw [p11 16 (by decide)] at v7
      refine po_cle v2 (po_some ⟨hS H2 0 5 0 (H.1 0 5 0 + 1), po_eq ?_, rfl, ⟨h.1.addO k1 rfl b7 gx (v3.2.trans f3) g5 gn (by rw [v4.1 0 2 (by omega), r2]) ((gt 1 (by decide)).trans (w2.trans (mS_t m _ _ (by decide)))) (by rw [v4.2, w3]; rfl) (fun f hf => ?_), h.2.1.addO rfl k1'.2.1.1 (fun x f q => gx _ _ _ (by omega) (by omega)) g5 (fun f hf => by rw [gf f (by omega) (by omega) (by omega) (by omega), p11 f (by omega)]) (fun k q => gn k (by omega) (by omega)), h.2.2.addO (by omega) rfl b7 gx (v3.2.trans f3) g5 (ko.fr (fun f hf => gf f (by omega) (by omega) (by omega) (by omega))) ?_ ?_ (by rw [gf 15 (by decide) (by decide) (by decide) (by decide), p11 15 (by decide)])⟩, ?_⟩)
      · have i5 : H1.1 0 5 0 = H.1 0 5 0 := f2 _ _ _ (by omega)
        have i6 : H1.1 0 6 0 = H.1 0 6 0 := f2 _ _ _ (by omega)
        have j5 : H2.1 0 5 0 = H.1 0 5 0 := (v3.1 0 5 0 (by omega)).trans i5
        unfold fX2_addOrder_b50
        (repeat (first | (with_reducible refine po_gd ?_ ?_; · omega) | (with_reducible refine po_bnd ?_) | (with_reducible refine po_ift ?_ ?_; · omega) | (with_reducible refine po_iff ?_ ?_; · omega) | (with_reducible refine po_crs ?_) | (with_reducible refine po_cls ?_) | (with_reducible refine po_cre (ev_btT ?_) ?_; (· omega)) | (with_reducible refine po_cre hd ?_) | (with_reducible refine po_cle f1 ?_)))
        rw [i5, i6]
        (repeat (first | (with_reducible refine po_gd ?_ ?_; · omega) | (with_reducible refine po_bnd ?_) | (with_reducible refine po_ift ?_ ?_; · omega) | (with_reducible refine po_iff ?_ ?_; · omega) | (with_reducible refine po_crs ?_) | (with_reducible refine po_cls ?_) | (with_reducible refine po_cle v1 ?_)))
        rw [j5, g5]
        refine po_some ?_
        rw [show H.1 0 5 0 + 1 - 1 = H.1 0 5 0 by omega]
      · rw [v5 f hf]
        exact (ordN_fr (fun f q => hS_n _ (by omega)) hf).symm
      · unfold okP
        rw [gf 0 (by decide) (by decide) (by decide) (by decide), gf 1 (by decide) (by decide) (by decide) (by decide), gf 2 (by decide) (by decide) (by decide) (by decide), gf 8 (by decide) (by decide) (by decide) (by decide), gf 9 (by decide) (by decide) (by decide) (by decide), gf 10 (by decide) (by decide) (by decide) (by decide), gf 11 (by decide) (by decide) (by decide) (by decide), gx 0 4 0 (by omega) (by omega), p0, p1, p2, p8, p9, p10, p11 11 (by decide)]
        refine ⟨by omega, ?_, b2, by omega, by split <;> omega, b6, by decide⟩
        by_cases c : x1 % 9 = 8
        · rw [if_pos c]; exact Or.inl rfl
        · rw [if_neg c]; exact Or.inr (by omega)
      · unfold okC
        rw [gf 12 (by decide) (by decide) (by decide) (by decide), gf 13 (by decide) (by decide) (by decide) (by decide), gf 14 (by decide) (by decide) (by decide) (by decide), gf 15 (by decide) (by decide) (by decide) (by decide), g16, p11 12 (by decide), p11 13 (by decide), p11 14 (by decide), p11 15 (by decide)]
        omega
      · exact (((keptEq.rf m).s (Or.inl rfl)).tr w4).tr ⟨gt 2 (by decide), gt 3 (by decide), by rw [v4.2], gt 4 (by decide), gt 5 (by decide), fun k q => by rw [gt 6 (by decide)]⟩
    obtain ⟨⟨q1, q2⟩, g1, H2, g2, g3, g4, g5⟩ := key
    have g3 : q1 = H.1 0 5 0 := g3
    subst g3
    exact ⟨_, H2, c1.trans g2, by omega, Or.inr ⟨by omega, c2, q2, g1, g4, g5⟩⟩
theorem ls_orderC {T : Int} {H : hR} {m : mR} (h : Sim T H m) {x1 x2 x3 x4 x5 x6 : Int} (h1 : wR x1) (h2 : wR x2) (h3 : wR x3) (h4 : wR x4) (h5 : wR x5) (h6 : wR x6) : callOK T H m (fX2_addOrder x1 x2 x3 x4 x5 x6 H) (fX7_order x1 x2 x3 x4 x5 x6 m) := by
  refine callOf (chk := fX7_checksOrder x1 x2 x3 x4 x5 x6) (core := fX7_makes x1 x2 x3 x4 x5 x6) (ref := fX7_order x1 x2 x3 x4 x5 x6) h (fun m1 g => ls_order g h1 h2 h3 h4 h5 h6) (fun r hr hw e => po_eq ?_) (fun m1 r m' e1 e2 e3 => po_eq ?_)
  · unfold fX7_order
    (repeat (first | (with_reducible refine po_gd ?_ ?_; · omega) | (with_reducible refine po_bnd ?_) | (with_reducible refine po_ift ?_ ?_; · omega) | (with_reducible refine po_iff ?_ ?_; · omega) | (with_reducible refine po_crs ?_) | (with_reducible refine po_cls ?_) | (with_reducible refine po_cre e ?_)))
    exact po_some rfl
  · unfold fX7_order
    (repeat (first | (with_reducible refine po_gd ?_ ?_; · omega) | (with_reducible refine po_bnd ?_) | (with_reducible refine po_ift ?_ ?_; · omega) | (with_reducible refine po_iff ?_ ?_; · omega) | (with_reducible refine po_crs ?_) | (with_reducible refine po_cls ?_) | (with_reducible refine po_cre e1 ?_) | (with_reducible refine po_cle e2 ?_) | (with_reducible refine po_cle e3 ?_)))
    exact po_some rfl
end
section
/-! ===== questions, answered alike ===== -/
def askOK (a b : Option Int) : Prop := ∃ r : Int, a = some r ∧ b = some r ∧ wR r
theorem askOf {a b : Option Int} {r : Int} (hr : wR r) (h1 : a = some r) (h2 : b = some r) : askOK a b := ⟨r, h1, h2, hr⟩
theorem ask_shift {T : Int} {c : cR} {m : mR} (h : Sim T (c.1 0) m) {d r : Int} (hd : wR d) (hr : wR r) : askOK (fX6_shift d r c) (fX7_shift d r m) := by
  obtain ⟨b1, b2⟩ := cal_both h.1 h.2.2.2.1.2.1
  by_cases g1 : 0 ≤ d ∧ d ≤ 1094
  · have hD1 : fX7_isDay d = some 1 := by
      unfold fX7_isDay
      rw [gd_pos hd, ev_inT (by omega), cr_some, gd_pos (by decide)]
    by_cases g2 : 0 ≤ r ∧ r ≤ 4
    · have e1 := ec_shifted b1 (d := d) (r := r) (by omega)
      have e2 := em_shifted b2 (d := d) (r := r) (by omega)
      have e3 := shZ_rng (cB (c.1 0)) (d := d) (r := r) g1
      refine askOf (r := shZ (cB (c.1 0)) d r) (by omega) (po_eq ?_) (po_eq ?_)
      · unfold fX6_shift
        (repeat (first | (with_reducible refine po_gd ?_ ?_; · omega) | (with_reducible refine po_bnd ?_) | (with_reducible refine po_ift ?_ ?_; · omega) | (with_reducible refine po_iff ?_ ?_; · omega) | (with_reducible refine po_crs ?_) | (with_reducible refine po_cls ?_) | (with_reducible refine po_cre (ev_btT ?_) ?_; (· omega)) | (with_reducible refine po_cre e1 ?_)))
        exact po_some rfl
      · unfold fX7_shift
        (repeat (first | (with_reducible refine po_gd ?_ ?_; · omega) | (with_reducible refine po_bnd ?_) | (with_reducible refine po_ift ?_ ?_; · omega) | (with_reducible refine po_iff ?_ ?_; · omega) | (with_reducible refine po_crs ?_) | (with_reducible refine po_cls ?_) | (with_reducible refine po_cre hD1 ?_) | (with_reducible refine po_cre (ev_inT ?_) ?_; (· omega)) | (with_reducible refine po_cre e2 ?_)))
        exact po_some rfl
    · refine askOf (r := -2) (by decide) (po_eq ?_) (po_eq ?_)
      · unfold fX6_shift
        (repeat (first | (with_reducible refine po_gd ?_ ?_; · omega) | (with_reducible refine po_bnd ?_) | (with_reducible refine po_ift ?_ ?_; · omega) | (with_reducible refine po_iff ?_ ?_; · omega) | (with_reducible refine po_crs ?_) | (with_reducible refine po_cls ?_) | (with_reducible refine po_cre (ev_btT ?_) ?_; (· omega)) | (with_reducible refine po_cre (ev_btF ?_) ?_; (· omega))))
        exact po_some rfl
      · unfold fX7_shift
        (repeat (first | (with_reducible refine po_gd ?_ ?_; · omega) | (with_reducible refine po_bnd ?_) | (with_reducible refine po_ift ?_ ?_; · omega) | (with_reducible refine po_iff ?_ ?_; · omega) | (with_reducible refine po_crs ?_) | (with_reducible refine po_cls ?_) | (with_reducible refine po_cre hD1 ?_) | (with_reducible refine po_cre (ev_inF ?_) ?_; (· omega))))
        exact po_some rfl
  · have hD1 : fX7_isDay d = some 0 := by
      unfold fX7_isDay
      rw [gd_pos hd, ev_inF (by omega), cr_some, gd_pos (by decide)]
    refine askOf (r := -2) (by decide) (po_eq ?_) (po_eq ?_)
    · unfold fX6_shift
      (repeat (first | (with_reducible refine po_gd ?_ ?_; · omega) | (with_reducible refine po_bnd ?_) | (with_reducible refine po_ift ?_ ?_; · omega) | (with_reducible refine po_iff ?_ ?_; · omega) | (with_reducible refine po_crs ?_) | (with_reducible refine po_cls ?_) | (with_reducible refine po_cre (ev_btF ?_) ?_; (· omega))))
      exact po_some rfl
    · unfold fX7_shift
      (repeat (first | (with_reducible refine po_gd ?_ ?_; · omega) | (with_reducible refine po_bnd ?_) | (with_reducible refine po_ift ?_ ?_; · omega) | (with_reducible refine po_iff ?_ ?_; · omega) | (with_reducible refine po_crs ?_) | (with_reducible refine po_cls ?_) | (with_reducible refine po_cre hD1 ?_)))
      exact po_some rfl
theorem ask_ofDay {T : Int} {c : cR} {m : mR} (h : Sim T (c.1 0) m) {d w : Int} (hd : wR d) (hw : wR w) : askOK (fX6_ofDay d w c) (fX7_ofDay d w m) := by
  have hwd := h.2.2.2.1.2.1
  obtain ⟨b1, b2⟩ := cal_both h.1 hwd
  have e12 : m.1 0 12 = (c.1 0).1 1 2 0 := h.1.1.2.2.2.2.2.2.2.2.2
  by_cases g1 : 0 ≤ d ∧ d ≤ 1094
  · have hD1 : fX7_isDay d = some 1 := by
      unfold fX7_isDay
      rw [gd_pos hd, ev_inT (by omega), cr_some, gd_pos (by decide)]
    have wc : fX1_weekdayOf d (c.1 0) = some ((d + (c.1 0).1 1 2 0) % 7) := by
      unfold fX1_weekdayOf
      rw [gd_pos (by omega), rmI_pos (by omega)]
    have wm : fX7_weekdayOf d m = some ((d + (c.1 0).1 1 2 0) % 7) := by
      unfold fX7_weekdayOf
      rw [ev_of (by decide), cr_some, e12, gd_pos (by omega), rmI_pos (by omega)]
    have m1 := ec_monthOf g1
    have m2 := em_monthOf g1
    have mr := mOf_in g1
    have f1 := ec_first (m := mOf d) (by omega)
    have f2 := em_start (m := mOf d) (by omega)
    have z1 := b1 d g1
    have z2 := b2 d g1
    have zr := bI_rng (cB (c.1 0) d)
    have n1 := ec_next b1 (d := d) (by omega)
    have n2 := em_next b2 (d := d) (by omega)
    have nr := nextBz_rng (cB (c.1 0)) d
    have l1 := ec_lastB b1 (d := d) (by omega)
    have l2 := em_lastB b2 (d := d) (by omega)
    have lr := lastBz_rng (cB (c.1 0)) d
    have hs : ∀ r : Int, wR r → fX1_numberOf d w (c.1 0) = some r → fX7_ofDay d w m = some r → askOK (fX6_ofDay d w c) (fX7_ofDay d w m) := by
      intro r hr q1 q2
      refine askOf hr (po_eq ?_) q2
      unfold fX6_ofDay
      (repeat (first | (with_reducible refine po_gd ?_ ?_; · omega) | (with_reducible refine po_bnd ?_) | (with_reducible refine po_ift ?_ ?_; · omega) | (with_reducible refine po_iff ?_ ?_; · omega) | (with_reducible refine po_crs ?_) | (with_reducible refine po_cls ?_) | (with_reducible refine po_cre (ev_btT ?_) ?_; (· omega)) | (with_reducible refine po_cre q1 ?_)))
      exact po_some rfl
    by_cases c0 : w = 0
    · refine hs ((d + (c.1 0).1 1 2 0) % 7) (by omega) (po_eq ?_) (po_eq ?_)
      · unfold fX1_numberOf
        (repeat (first | (with_reducible refine po_gd ?_ ?_; · omega) | (with_reducible refine po_bnd ?_) | (with_reducible refine po_ift ?_ ?_; · omega) | (with_reducible refine po_iff ?_ ?_; · omega) | (with_reducible refine po_crs ?_) | (with_reducible refine po_cls ?_) | (with_reducible refine po_cre wc ?_)))
        exact po_some rfl
      · unfold fX7_ofDay
        (repeat (first | (with_reducible refine po_gd ?_ ?_; · omega) | (with_reducible refine po_bnd ?_) | (with_reducible refine po_ift ?_ ?_; · omega) | (with_reducible refine po_iff ?_ ?_; · omega) | (with_reducible refine po_crs ?_) | (with_reducible refine po_cls ?_) | (with_reducible refine po_cre hD1 ?_) | (with_reducible refine po_cre wm ?_)))
        exact po_some rfl
    · by_cases c1 : w = 1
      · refine hs (mOf d) (by omega) (po_eq ?_) (po_eq ?_)
        · unfold fX1_numberOf
          (repeat (first | (with_reducible refine po_gd ?_ ?_; · omega) | (with_reducible refine po_bnd ?_) | (with_reducible refine po_ift ?_ ?_; · omega) | (with_reducible refine po_iff ?_ ?_; · omega) | (with_reducible refine po_crs ?_) | (with_reducible refine po_cls ?_) | (with_reducible refine po_cre m1 ?_)))
          exact po_some rfl
        · unfold fX7_ofDay
          (repeat (first | (with_reducible refine po_gd ?_ ?_; · omega) | (with_reducible refine po_bnd ?_) | (with_reducible refine po_ift ?_ ?_; · omega) | (with_reducible refine po_iff ?_ ?_; · omega) | (with_reducible refine po_crs ?_) | (with_reducible refine po_cls ?_) | (with_reducible refine po_cre hD1 ?_) | (with_reducible refine po_cre m2 ?_)))
          exact po_some rfl
      · by_cases c2 : w = 2
        · refine hs (d - mFirst (mOf d) + 1) (by have := m_rng (m := mOf d) (by omega); omega) (po_eq ?_) (po_eq ?_)
          · unfold fX1_numberOf
            (repeat (first | (with_reducible refine po_gd ?_ ?_; · omega) | (with_reducible refine po_bnd ?_) | (with_reducible refine po_ift ?_ ?_; · omega) | (with_reducible refine po_iff ?_ ?_; · omega) | (with_reducible refine po_crs ?_) | (with_reducible refine po_cls ?_) | (with_reducible refine po_cre m1 ?_) | (with_reducible refine po_cre f1 ?_)))
            exact po_some rfl
          · unfold fX7_ofDay
            (repeat (first | (with_reducible refine po_gd ?_ ?_; · omega) | (with_reducible refine po_bnd ?_) | (with_reducible refine po_ift ?_ ?_; · omega) | (with_reducible refine po_iff ?_ ?_; · omega) | (with_reducible refine po_crs ?_) | (with_reducible refine po_cls ?_) | (with_reducible refine po_cre hD1 ?_) | (with_reducible refine po_cre m2 ?_) | (with_reducible refine po_cre f2 ?_)))
            exact po_some rfl
        · by_cases c3 : w = 3
          · cases hb : cB (c.1 0) d
            · rw [hb, bI_f rfl] at z1 z2
              refine hs 0 (by decide) (po_eq ?_) (po_eq ?_)
              · unfold fX1_numberOf
                (repeat (first | (with_reducible refine po_gd ?_ ?_; · omega) | (with_reducible refine po_bnd ?_) | (with_reducible refine po_ift ?_ ?_; · omega) | (with_reducible refine po_iff ?_ ?_; · omega) | (with_reducible refine po_crs ?_) | (with_reducible refine po_cls ?_) | (with_reducible refine po_cre z1 ?_)))
                exact po_some rfl
              · unfold fX7_ofDay
                (repeat (first | (with_reducible refine po_gd ?_ ?_; · omega) | (with_reducible refine po_bnd ?_) | (with_reducible refine po_ift ?_ ?_; · omega) | (with_reducible refine po_iff ?_ ?_; · omega) | (with_reducible refine po_crs ?_) | (with_reducible refine po_cls ?_) | (with_reducible refine po_cre hD1 ?_) | (with_reducible refine po_cre z2 ?_)))
                exact po_some rfl
            · rw [hb, bI_t rfl] at z1 z2
              refine hs 1 (by decide) (po_eq ?_) (po_eq ?_)
              · unfold fX1_numberOf
                (repeat (first | (with_reducible refine po_gd ?_ ?_; · omega) | (with_reducible refine po_bnd ?_) | (with_reducible refine po_ift ?_ ?_; · omega) | (with_reducible refine po_iff ?_ ?_; · omega) | (with_reducible refine po_crs ?_) | (with_reducible refine po_cls ?_) | (with_reducible refine po_cre z1 ?_)))
                exact po_some rfl
              · unfold fX7_ofDay
                (repeat (first | (with_reducible refine po_gd ?_ ?_; · omega) | (with_reducible refine po_bnd ?_) | (with_reducible refine po_ift ?_ ?_; · omega) | (with_reducible refine po_iff ?_ ?_; · omega) | (with_reducible refine po_crs ?_) | (with_reducible refine po_cls ?_) | (with_reducible refine po_cre hD1 ?_) | (with_reducible refine po_cre z2 ?_)))
                exact po_some rfl
          · by_cases c4 : w = 4
            · refine hs (nextBz (cB (c.1 0)) d) (by omega) (po_eq ?_) (po_eq ?_)
              · unfold fX1_numberOf
                (repeat (first | (with_reducible refine po_gd ?_ ?_; · omega) | (with_reducible refine po_bnd ?_) | (with_reducible refine po_ift ?_ ?_; · omega) | (with_reducible refine po_iff ?_ ?_; · omega) | (with_reducible refine po_crs ?_) | (with_reducible refine po_cls ?_) | (with_reducible refine po_cre n1 ?_)))
                exact po_some rfl
              · unfold fX7_ofDay
                (repeat (first | (with_reducible refine po_gd ?_ ?_; · omega) | (with_reducible refine po_bnd ?_) | (with_reducible refine po_ift ?_ ?_; · omega) | (with_reducible refine po_iff ?_ ?_; · omega) | (with_reducible refine po_crs ?_) | (with_reducible refine po_cls ?_) | (with_reducible refine po_cre hD1 ?_) | (with_reducible refine po_cre n2 ?_)))
                exact po_some rfl
            · by_cases c5 : w = 5
              · refine hs (lastBz (cB (c.1 0)) d) (by omega) (po_eq ?_) (po_eq ?_)
                · unfold fX1_numberOf
                  (repeat (first | (with_reducible refine po_gd ?_ ?_; · omega) | (with_reducible refine po_bnd ?_) | (with_reducible refine po_ift ?_ ?_; · omega) | (with_reducible refine po_iff ?_ ?_; · omega) | (with_reducible refine po_crs ?_) | (with_reducible refine po_cls ?_) | (with_reducible refine po_cre l1 ?_)))
                  exact po_some rfl
                · unfold fX7_ofDay
                  (repeat (first | (with_reducible refine po_gd ?_ ?_; · omega) | (with_reducible refine po_bnd ?_) | (with_reducible refine po_ift ?_ ?_; · omega) | (with_reducible refine po_iff ?_ ?_; · omega) | (with_reducible refine po_crs ?_) | (with_reducible refine po_cls ?_) | (with_reducible refine po_cre hD1 ?_) | (with_reducible refine po_cre l2 ?_)))
                  exact po_some rfl
              · refine hs (-2) (by decide) (po_eq ?_) (po_eq ?_)
                · unfold fX1_numberOf
                  (repeat (first | (with_reducible refine po_gd ?_ ?_; · omega) | (with_reducible refine po_bnd ?_) | (with_reducible refine po_ift ?_ ?_; · omega) | (with_reducible refine po_iff ?_ ?_; · omega) | (with_reducible refine po_crs ?_) | (with_reducible refine po_cls ?_)))
                  exact po_some rfl
                · unfold fX7_ofDay
                  (repeat (first | (with_reducible refine po_gd ?_ ?_; · omega) | (with_reducible refine po_bnd ?_) | (with_reducible refine po_ift ?_ ?_; · omega) | (with_reducible refine po_iff ?_ ?_; · omega) | (with_reducible refine po_crs ?_) | (with_reducible refine po_cls ?_) | (with_reducible refine po_cre hD1 ?_)))
                  exact po_some rfl
  · have hD1 : fX7_isDay d = some 0 := by
      unfold fX7_isDay
      rw [gd_pos hd, ev_inF (by omega), cr_some, gd_pos (by decide)]
    refine askOf (r := -2) (by decide) (po_eq ?_) (po_eq ?_)
    · unfold fX6_ofDay
      (repeat (first | (with_reducible refine po_gd ?_ ?_; · omega) | (with_reducible refine po_bnd ?_) | (with_reducible refine po_ift ?_ ?_; · omega) | (with_reducible refine po_iff ?_ ?_; · omega) | (with_reducible refine po_crs ?_) | (with_reducible refine po_cls ?_) | (with_reducible refine po_cre (ev_btF ?_) ?_; (· omega))))
      exact po_some rfl
    · unfold fX7_ofDay
      (repeat (first | (with_reducible refine po_gd ?_ ?_; · omega) | (with_reducible refine po_bnd ?_) | (with_reducible refine po_ift ?_ ?_; · omega) | (with_reducible refine po_iff ?_ ?_; · omega) | (with_reducible refine po_crs ?_) | (with_reducible refine po_cls ?_) | (with_reducible refine po_cre hD1 ?_)))
      exact po_some rfl
end
section
theorem roomOK_rng {r : Int} (h : roomOK r) : 64 ≤ r ∧ r ≤ 16384 := by
  obtain ⟨k, hk, rfl⟩ := h
  have : ∀ k : Nat, k ≤ 8 → 64 ≤ 64 * (2 : Int) ^ k ∧ 64 * (2 : Int) ^ k ≤ 16384 := by decide
  exact this k hk
theorem ask_ofPayment {T : Int} {c : cR} {m : mR} (h : Sim T (c.1 0) m) {i w : Int} (hi : wR i) (hw : wR w) : askOK (fX6_ofPayment i w c) (fX7_ofPayment i w m) := by
  have k1 := h.2.2.1
  unfold okN at k1
  have hr := roomOK_rng k1.2.2.2.2
  have e4 := h.1.1.2.2.2.2.1
  by_cases g1 : 0 ≤ i ∧ i ≤ (c.1 0).1 4 2 0 - 1
  · obtain ⟨p0, p1, p2, p3, p4⟩ := h.part (i := i) (by omega)
    obtain ⟨w1, w2, w3, w4, w5⟩ := h.2.2.2.2.2.2.1.1 i (by omega)
    have hg : (0 ≤ w ∧ w ≤ 4) → ∀ r : Int, r = (c.1 0).1 5 w i → wR r → fX7_partOf i w m = some r → askOK (fX6_ofPayment i w c) (fX7_ofPayment i w m) := by
      intro g2 r hrr hwr hp
      subst hrr
      refine askOf hwr (po_eq ?_) (po_eq ?_)
      · unfold fX6_ofPayment
        (repeat (first | (with_reducible refine po_gd ?_ ?_; · omega) | (with_reducible refine po_bnd ?_) | (with_reducible refine po_ift ?_ ?_; · omega) | (with_reducible refine po_iff ?_ ?_; · omega) | (with_reducible refine po_crs ?_) | (with_reducible refine po_cls ?_) | (with_reducible refine po_cre (ev_btT ?_) ?_; (· omega))))
        exact po_some rfl
      · unfold fX7_ofPayment
        rw [e4]
        (repeat (first | (with_reducible refine po_gd ?_ ?_; · omega) | (with_reducible refine po_bnd ?_) | (with_reducible refine po_ift ?_ ?_; · omega) | (with_reducible refine po_iff ?_ ?_; · omega) | (with_reducible refine po_crs ?_) | (with_reducible refine po_cls ?_) | (with_reducible refine po_cre (ev_inT ?_) ?_; (· omega)) | (with_reducible refine po_cre hp ?_)))
        exact po_some rfl
    by_cases g2 : 0 ≤ w ∧ w ≤ 4
    · have : w = 0 ∨ w = 1 ∨ w = 2 ∨ w = 3 ∨ w = 4 := by omega
      rcases this with rfl | rfl | rfl | rfl | rfl
      · exact hg g2 _ rfl (by omega) p0
      · exact hg g2 _ rfl (by omega) p1
      · exact hg g2 _ rfl (by omega) p2
      · exact hg g2 _ rfl (by omega) p3
      · exact hg g2 _ rfl (by omega) p4
    · refine askOf (r := -2) (by decide) (po_eq ?_) (po_eq ?_)
      · unfold fX6_ofPayment
        (repeat (first | (with_reducible refine po_gd ?_ ?_; · omega) | (with_reducible refine po_bnd ?_) | (with_reducible refine po_ift ?_ ?_; · omega) | (with_reducible refine po_iff ?_ ?_; · omega) | (with_reducible refine po_crs ?_) | (with_reducible refine po_cls ?_) | (with_reducible refine po_cre (ev_btT ?_) ?_; (· omega)) | (with_reducible refine po_cre (ev_btF ?_) ?_; (· omega))))
        exact po_some rfl
      · unfold fX7_ofPayment
        rw [e4]
        (repeat (first | (with_reducible refine po_gd ?_ ?_; · omega) | (with_reducible refine po_bnd ?_) | (with_reducible refine po_ift ?_ ?_; · omega) | (with_reducible refine po_iff ?_ ?_; · omega) | (with_reducible refine po_crs ?_) | (with_reducible refine po_cls ?_) | (with_reducible refine po_cre (ev_inT ?_) ?_; (· omega)) | (with_reducible refine po_cre (ev_inF ?_) ?_; (· omega))))
        exact po_some rfl
  · refine askOf (r := -1) (by decide) (po_eq ?_) (po_eq ?_)
    · unfold fX6_ofPayment
      (repeat (first | (with_reducible refine po_gd ?_ ?_; · omega) | (with_reducible refine po_bnd ?_) | (with_reducible refine po_ift ?_ ?_; · omega) | (with_reducible refine po_iff ?_ ?_; · omega) | (with_reducible refine po_crs ?_) | (with_reducible refine po_cls ?_) | (with_reducible refine po_cre (ev_btF ?_) ?_; (· omega))))
      exact po_some rfl
    · unfold fX7_ofPayment
      rw [e4]
      (repeat (first | (with_reducible refine po_gd ?_ ?_; · omega) | (with_reducible refine po_bnd ?_) | (with_reducible refine po_ift ?_ ?_; · omega) | (with_reducible refine po_iff ?_ ?_; · omega) | (with_reducible refine po_crs ?_) | (with_reducible refine po_cls ?_) | (with_reducible refine po_cre (ev_inF ?_) ?_; (· omega))))
      exact po_some rfl
theorem sumW_rng {H : hR} {a : Int} : ∀ n : Nat, (∀ i : Int, 0 ≤ i ∧ i < n → 1 ≤ H.1 5 1 i ∧ H.1 5 1 i ≤ 1000000) → 0 ≤ sumW H a n ∧ sumW H a n ≤ 1000000 * n
  | 0, _ => by unfold sumW; omega
  | n + 1, h => by
    have h1 := sumW_rng (a := a) n (fun i hi => h i (by omega))
    have h2 := h n (by omega)
    unfold sumW
    split <;> omega
theorem em_waitsFor_b5 {H : hR} {m : mR} {a : Int} (ha : wR a) {n : Nat} (hn : m.1 0 4 = n) (hn2 : n ≤ 8400) (hp : ∀ i : Int, 0 ≤ i ∧ i < n → fX7_partOf i 0 m = some (H.1 5 0 i) ∧ fX7_ofO (H.1 5 0 i) 0 m = some (H.1 3 (H.1 5 0 i) 0) ∧ wR (H.1 3 (H.1 5 0 i) 0) ∧ fX7_partOf i 1 m = some (H.1 5 1 i) ∧ wR (H.1 5 1 i)) : ∀ (k fuel : Nat) (j : Nat), j + k = n → k < fuel → fX7_waitsFor_b5 m fuel a (sumW H a j) j = some (sumW H a n)
  | k, 0, j, _, h => by omega
  | 0, fuel + 1, j, h1, _ => by
    unfold fX7_waitsFor_b5
    rw [gd_pos (by omega), gd_pos (by omega), if_pos (by omega), show j = n by omega]
  | k + 1, fuel + 1, j, h1, h2 => by
    obtain ⟨p1, p2, p3, p4, p5⟩ := hp j (by omega)
    have ih := em_waitsFor_b5 ha hn hn2 hp k fuel (j + 1) (by omega) (by omega)
    unfold fX7_waitsFor_b5 fX7_waitsFor_b47
    rw [gd_pos (by omega), gd_pos (by omega), if_neg (by omega), p1, cr_some, p2, cr_some, gd_pos (by omega)]
    by_cases g : H.1 3 (H.1 5 0 j) 0 = a
    · rw [if_pos g, p4, cr_some, gd_pos p5]
      have e : sumW H a (j + 1) = sumW H a j + H.1 5 1 j := by
        show sumW H a j + (if H.1 3 (H.1 5 0 j) 0 = a then H.1 5 1 j else 0) = _
        rw [if_pos g]
      rw [← e]
      exact ih
    · rw [if_neg g]
      have e : sumW H a (j + 1) = sumW H a j + 0 := by
        show sumW H a j + (if H.1 3 (H.1 5 0 j) 0 = a then H.1 5 1 j else 0) = _
        rw [if_neg g]
      rw [← e]
      exact ih
theorem Sim.waitsFor {T : Int} {H : hR} {m : mR} (h : Sim T H m) {a : Int} (ha : wR a) : fX7_waitsFor a m = some (sumW H a (H.1 4 2 0).toNat) := by
  have k1 := h.2.2.1
  unfold okN at k1
  have e4 := h.1.1.2.2.2.2.1
  refine em_waitsFor_b5 (j := 0) ha (n := (H.1 4 2 0).toNat) (by omega) (by omega) (fun i hi => ?_) (H.1 4 2 0).toNat fuel0 (by omega) (by show _ < 1000000; omega)
  obtain ⟨p0, p1, -, -, -⟩ := h.part (i := i) (by omega)
  obtain ⟨w1, w2, -, -, -⟩ := h.2.2.2.2.2.2.1.1 i (by omega)
  have q0 : m.1 0 (121 + 16 * H.1 5 0 i + 0) = H.1 3 (H.1 5 0 i) 0 := h.1.atO w1 0 (by decide)
  have q1 := (h.2.2.2.2.2.1 _ w1).2.1.1
  exact ⟨p0, by rw [ev_ofO (by omega), q0], by omega, p1, by omega⟩
/-- a long answer -/
def askL (a b : Option Int) : Prop := ∃ r : Int, a = some r ∧ b = some r ∧ wR64 r
theorem ask_money {T : Int} {c : cR} {m : mR} (hT : 0 ≤ T ∧ T ≤ 100000) (h : Sim T (c.1 0) m) {a w : Int} (ha : wR a) (hw : wR w) : askL (fX6_money a w c) (fX7_money a w m) := by
  have k1 := h.2.2.1
  unfold okN at k1
  have q2 := h.1.1.2.1
  have ht := h.2.2.2.1.1
  by_cases g1 : 0 ≤ a ∧ a < (c.1 0).1 0 4 0
  · have hA1 : fX2_hasAccount a (c.1 0) = some 1 := by rw [ev_hasA (by omega), bI_t (decide_eq_true g1)]
    have hA2 : fX7_isAccount a m = some 1 := by rw [ev_isA (by omega), q2, bI_t (decide_eq_true g1)]
    by_cases g2 : 0 ≤ w ∧ w ≤ 7
    · have hm := h.2.2.2.2.2.2.2.2.1 a g1 (w + 3) (by omega)
      unfold monB at hm
      have ce := h.1.at g1 (f := 3 + w) (by omega)
      have es : fX0_sumOf a w (c.1 0) = some ((c.1 0).1 2 a (w + 3)) := by
        refine po_eq ?_
        unfold fX0_sumOf
        have : w = 0 ∨ w = 1 ∨ w = 2 ∨ w = 3 ∨ w = 4 ∨ w = 5 ∨ w = 6 ∨ w = 7 := by omega
        rcases this with rfl | rfl | rfl | rfl | rfl | rfl | rfl | rfl
        all_goals
          (repeat (first | (with_reducible refine po_gd ?_ ?_; · omega) | (with_reducible refine po_bnd ?_) | (with_reducible refine po_ift ?_ ?_; · omega) | (with_reducible refine po_iff ?_ ?_; · omega) | (with_reducible refine po_crs ?_) | (with_reducible refine po_cls ?_)))
          exact po_some rfl
      have em : fX7_moneyOf a w m = some ((c.1 0).1 2 a (w + 3)) := by
        rw [ev_money (by omega), show 33 + 11 * a + 3 + w = 33 + 11 * a + (3 + w) by omega, ce, show 3 + w = w + 3 by omega]
      refine ⟨(c.1 0).1 2 a (w + 3), po_eq ?_, po_eq ?_, by omega⟩
      · unfold fX6_money
        (repeat (first | (with_reducible refine po_gd ?_ ?_; · omega) | (with_reducible refine po_bnd ?_) | (with_reducible refine po_ift ?_ ?_; · omega) | (with_reducible refine po_iff ?_ ?_; · omega) | (with_reducible refine po_crs ?_) | (with_reducible refine po_cls ?_) | (with_reducible refine po_cre hA1 ?_) | (with_reducible refine po_cre es ?_)))
        exact po_some rfl
      · unfold fX7_money
        (repeat (first | (with_reducible refine po_gd ?_ ?_; · omega) | (with_reducible refine po_bnd ?_) | (with_reducible refine po_ift ?_ ?_; · omega) | (with_reducible refine po_iff ?_ ?_; · omega) | (with_reducible refine po_crs ?_) | (with_reducible refine po_cls ?_) | (with_reducible refine po_cre hA2 ?_) | (with_reducible refine po_cre (ev_inT ?_) ?_; (· omega)) | (with_reducible refine po_cre em ?_)))
        exact po_some rfl
    · by_cases g3 : w = 8
      · subst g3
        have hs := h.2.2.2.2.2.2.2.1.1 a g1
        have hf := h.waitsFor ha
        rw [← hs] at hf
        have hr := sumW_rng (H := c.1 0) (a := a) ((c.1 0).1 4 2 0).toNat (fun i hi => (h.2.2.2.2.2.2.1.1 i (by omega)).2.1)
        rw [← hs] at hr
        have es : fX0_sumOf a 8 (c.1 0) = some ((c.1 0).1 2 a 11) := by
          refine po_eq ?_
          unfold fX0_sumOf
          (repeat (first | (with_reducible refine po_gd ?_ ?_; · omega) | (with_reducible refine po_bnd ?_) | (with_reducible refine po_ift ?_ ?_; · omega) | (with_reducible refine po_iff ?_ ?_; · omega) | (with_reducible refine po_crs ?_) | (with_reducible refine po_cls ?_)))
          exact po_some rfl
        refine ⟨(c.1 0).1 2 a 11, po_eq ?_, po_eq ?_, by omega⟩
        · unfold fX6_money
          (repeat (first | (with_reducible refine po_gd ?_ ?_; · omega) | (with_reducible refine po_bnd ?_) | (with_reducible refine po_ift ?_ ?_; · omega) | (with_reducible refine po_iff ?_ ?_; · omega) | (with_reducible refine po_crs ?_) | (with_reducible refine po_cls ?_) | (with_reducible refine po_cre hA1 ?_) | (with_reducible refine po_cre es ?_)))
          exact po_some rfl
        · unfold fX7_money
          (repeat (first | (with_reducible refine po_gd ?_ ?_; · omega) | (with_reducible refine po_bnd ?_) | (with_reducible refine po_ift ?_ ?_; · omega) | (with_reducible refine po_iff ?_ ?_; · omega) | (with_reducible refine po_crs ?_) | (with_reducible refine po_cls ?_) | (with_reducible refine po_cre hA2 ?_) | (with_reducible refine po_cre (ev_inT ?_) ?_; (· omega)) | (with_reducible refine po_cre hf ?_)))
          exact po_some rfl
      · have es : fX0_sumOf a w (c.1 0) = some (-2) := by
          refine po_eq ?_
          unfold fX0_sumOf
          (repeat (first | (with_reducible refine po_gd ?_ ?_; · omega) | (with_reducible refine po_bnd ?_) | (with_reducible refine po_ift ?_ ?_; · omega) | (with_reducible refine po_iff ?_ ?_; · omega) | (with_reducible refine po_crs ?_) | (with_reducible refine po_cls ?_)))
          exact po_some rfl
        refine ⟨-2, po_eq ?_, po_eq ?_, by decide⟩
        · unfold fX6_money
          (repeat (first | (with_reducible refine po_gd ?_ ?_; · omega) | (with_reducible refine po_bnd ?_) | (with_reducible refine po_ift ?_ ?_; · omega) | (with_reducible refine po_iff ?_ ?_; · omega) | (with_reducible refine po_crs ?_) | (with_reducible refine po_cls ?_) | (with_reducible refine po_cre hA1 ?_) | (with_reducible refine po_cre es ?_)))
          exact po_some rfl
        · unfold fX7_money
          (repeat (first | (with_reducible refine po_gd ?_ ?_; · omega) | (with_reducible refine po_bnd ?_) | (with_reducible refine po_ift ?_ ?_; · omega) | (with_reducible refine po_iff ?_ ?_; · omega) | (with_reducible refine po_crs ?_) | (with_reducible refine po_cls ?_) | (with_reducible refine po_cre hA2 ?_) | (with_reducible refine po_cre (ev_inF ?_) ?_; (· omega))))
          exact po_some rfl
  · have hA1 : fX2_hasAccount a (c.1 0) = some 0 := by rw [ev_hasA (by omega), bI_f (decide_eq_false g1)]
    have hA2 : fX7_isAccount a m = some 0 := by rw [ev_isA (by omega), q2, bI_f (decide_eq_false g1)]
    refine ⟨-1, po_eq ?_, po_eq ?_, by decide⟩
    · unfold fX6_money
      (repeat (first | (with_reducible refine po_gd ?_ ?_; · omega) | (with_reducible refine po_bnd ?_) | (with_reducible refine po_ift ?_ ?_; · omega) | (with_reducible refine po_iff ?_ ?_; · omega) | (with_reducible refine po_crs ?_) | (with_reducible refine po_cls ?_) | (with_reducible refine po_cre hA1 ?_)))
      exact po_some rfl
    · unfold fX7_money
      (repeat (first | (with_reducible refine po_gd ?_ ?_; · omega) | (with_reducible refine po_bnd ?_) | (with_reducible refine po_ift ?_ ?_; · omega) | (with_reducible refine po_iff ?_ ?_; · omega) | (with_reducible refine po_crs ?_) | (with_reducible refine po_cls ?_) | (with_reducible refine po_cre hA2 ?_)))
      exact po_some rfl
end
section
/-! ===== ofOrder, dateOf: the class notes what comes next ===== -/
def onlyAims (H H' : hR) : Prop := (∀ t a f : Int, ¬ (t = 3 ∧ (f = 17 ∨ f = 18 ∨ f = 19)) → H'.1 t a f = H.1 t a f) ∧ H'.2 = H.2
theorem onlyAims.rf (H : hR) : onlyAims H H := ⟨fun _ _ _ _ => rfl, rfl⟩
theorem onlyAim.s {o : Int} {H H' : hR} (h : onlyAim o H H') : onlyAims H H' := ⟨fun t a f q => h.1 t a f (by omega), h.2⟩
theorem Sim.aims {T : Int} {H H' : hR} {m : mR} (h : Sim T H m) (g : onlyAims H H') : Sim T H' m :=
  ⟨h.1.own h.2.2.1 (fun t a f _ _ q _ => g.1 t a f (by omega)) g.2, h.2.1.fr (g.1 _ _ _ (by omega)) (fun o f q => g.1 _ _ _ (by omega)) (fun _ _ => rfl), h.2.2.fr (Int.le_refl _) (fun t x y _ _ _ q => g.1 t x y (by omega)) g.2⟩
def askW (c : cR) (a : Option (Int × cR)) (b : Option Int) : Prop := ∃ r c', a = some (r, c') ∧ b = some r ∧ wR r ∧ c'.2 = c.2 ∧ (∀ k : Int, ¬ k = 0 → c'.1 k = c.1 k) ∧ onlyAims (c.1 0) (c'.1 0)
theorem askWs {c : cR} {a : Option (Int × cR)} {b : Option Int} {r : Int} (hr : wR r) (h1 : a = some (r, c)) (h2 : b = some r) : askW c a b := ⟨r, c, h1, h2, hr, rfl, fun _ _ => rfl, onlyAims.rf _⟩
theorem askWh {c : cR} {a : Option (Int × cR)} {b : Option Int} {r : Int} {H : hR} (hr : wR r) (h1 : a = some (r, cH c 0 H)) (h2 : b = some r) (g : onlyAims (c.1 0) H) : askW c a b :=
  ⟨r, cH c 0 H, h1, h2, hr, rfl, fun k hk => up1_n _ _ hk, by
    show onlyAims _ (up1 c.1 0 H 0)
    rw [up1_p]
    exact g⟩
theorem ask_ofOrder {T : Int} {c : cR} {m : mR} (h : Sim T (c.1 0) m) {o w : Int} (ho : wR o) (hw : wR w) : askW c (fX6_ofOrder o w c) (fX7_ofOrder o w m) := by
  have k1 := h.2.2.1
  have q2 := h.1.1.2.2.1
  have k1' := k1
  unfold okN at k1'
  by_cases g1 : 0 ≤ o ∧ o < (c.1 0).1 0 5 0
  · have hA1 : fX2_hasOrder o (c.1 0) = some 1 := by rw [ev_hasO (by omega), bI_t (decide_eq_true g1)]
    have hA2 : fX7_isOrder o m = some 1 := by rw [ev_isO (by omega), q2, bI_t (decide_eq_true g1)]
    obtain ⟨w1, w2, w3⟩ := h.2.2.2.2.2.1 o g1
    have w1' := w1
    unfold okOrd at w1'
    have w2' := w2
    unfold okP at w2'
    have w3' := w3
    unfold okC at w3'
    have hc := h.1.atO g1
    have r10 : m.1 0 (121 + 16 * o + 10) = (c.1 0).1 3 o 11 := hc 10 (by decide)
    have r14 : m.1 0 (121 + 16 * o + 14) = (c.1 0).1 3 o 16 := hc 14 (by decide)
    obtain ⟨b1, b2⟩ := cal_both h.1 h.2.2.2.1.2.1
    by_cases g2 : w = 15
    · subst g2
      by_cases g3 : (c.1 0).1 3 o 11 = 2
      · have e1 : fX2_nextNominalDay o (c.1 0) = some (-6, c.1 0) := by
          refine po_eq ?_
          unfold fX2_nextNominalDay
          (repeat (first | (with_reducible refine po_gd ?_ ?_; · omega) | (with_reducible refine po_bnd ?_) | (with_reducible refine po_ift ?_ ?_; · omega) | (with_reducible refine po_iff ?_ ?_; · omega) | (with_reducible refine po_crs ?_) | (with_reducible refine po_cls ?_)))
          exact po_some rfl
        refine askWh (r := -6) (H := c.1 0) (by decide) (po_eq ?_) (po_eq ?_) (onlyAims.rf _)
        · unfold fX6_ofOrder
          (repeat (first | (with_reducible refine po_gd ?_ ?_; · omega) | (with_reducible refine po_bnd ?_) | (with_reducible refine po_ift ?_ ?_; · omega) | (with_reducible refine po_iff ?_ ?_; · omega) | (with_reducible refine po_crs ?_) | (with_reducible refine po_cls ?_) | (with_reducible refine po_cre hA1 ?_) | (with_reducible refine po_cle e1 ?_)))
          exact po_some rfl
        · unfold fX7_ofOrder fX7_ofOrder_b106
          (repeat (first | (with_reducible refine po_gd ?_ ?_; · omega) | (with_reducible refine po_bnd ?_) | (with_reducible refine po_ift ?_ ?_; · omega) | (with_reducible refine po_iff ?_ ?_; · omega) | (with_reducible refine po_crs ?_) | (with_reducible refine po_cls ?_) | (with_reducible refine po_cre hA2 ?_) | (with_reducible refine po_cre (ev_inT ?_) ?_; (· omega)) | (with_reducible refine po_cre (ev_ofO ?_) ?_; (· omega))))
          exact po_some rfl
      · obtain ⟨⟨u, H1⟩, f1, f2, f3⟩ := ec_aim (o := o) b1 w1 (by omega)
        have f2 : onlyAim o (c.1 0) H1 := f2
        have e16 : H1.1 3 o 16 = (c.1 0).1 3 o 16 := f2.1 3 o 16 (by omega)
        have e18 : H1.1 3 o 18 = nomO (cB (c.1 0)) (c.1 0) o (ixF (cB (c.1 0)) (c.1 0) o ((c.1 0).1 3 o 16)) := by
          have := f3.2.1
          rw [show (((), H1) : Unit × hR).2 = H1 from rfl, e16, ixF_fr (H := c.1 0) (fun f hf => f2.1 3 o f (by omega)), nomO_fr (H := c.1 0) (fun f hf => f2.1 3 o f (by omega))] at this
          exact this
        have hx := ixF_rng (cB (c.1 0)) (c.1 0) o ((c.1 0).1 3 o 16)
        have hr := nomO_rng (b := cB (c.1 0)) (k := ixF (cB (c.1 0)) (c.1 0) o ((c.1 0).1 3 o 16)) w1 (by omega)
        have hg := ixF_ge (b := cB (c.1 0)) (fr := (c.1 0).1 3 o 16) w1 (by omega)
        have ho2 := em_occ (fr := (c.1 0).1 3 o 16) b2 w1 hc (by omega) (by omega)
        have hn := em_nominal (k := ixF (cB (c.1 0)) (c.1 0) o ((c.1 0).1 3 o 16)) b2 w1 hc (by omega) (by omega)
        have e1 : fX2_nextNominalDay o (c.1 0) = some (H1.1 3 o 18, H1) := by
          refine po_eq ?_
          unfold fX2_nextNominalDay
          (repeat (first | (with_reducible refine po_gd ?_ ?_; · omega) | (with_reducible refine po_bnd ?_) | (with_reducible refine po_ift ?_ ?_; · omega) | (with_reducible refine po_iff ?_ ?_; · omega) | (with_reducible refine po_crs ?_) | (with_reducible refine po_cls ?_) | (with_reducible refine po_cle f1 ?_)))
          exact po_some rfl
        refine askWh (r := H1.1 3 o 18) (H := H1) (by omega) (po_eq ?_) (po_eq ?_) f2.s
        · unfold fX6_ofOrder
          (repeat (first | (with_reducible refine po_gd ?_ ?_; · omega) | (with_reducible refine po_bnd ?_) | (with_reducible refine po_ift ?_ ?_; · omega) | (with_reducible refine po_iff ?_ ?_; · omega) | (with_reducible refine po_crs ?_) | (with_reducible refine po_cls ?_) | (with_reducible refine po_cre hA1 ?_) | (with_reducible refine po_cle e1 ?_)))
          exact po_some rfl
        · unfold ocF at ho2
          unfold nomR at hn
          unfold fX7_ofOrder fX7_ofOrder_b106
          (repeat (first | (with_reducible refine po_gd ?_ ?_; · omega) | (with_reducible refine po_bnd ?_) | (with_reducible refine po_ift ?_ ?_; · omega) | (with_reducible refine po_iff ?_ ?_; · omega) | (with_reducible refine po_crs ?_) | (with_reducible refine po_cls ?_) | (with_reducible refine po_cre hA2 ?_) | (with_reducible refine po_cre (ev_inT ?_) ?_; (· omega)) | (with_reducible refine po_cre (ev_ofO ?_) ?_; (· omega))))
          rw [r14]
          by_cases c1 : nomO (cB (c.1 0)) (c.1 0) o (ixF (cB (c.1 0)) (c.1 0) o ((c.1 0).1 3 o 16)) = -6
          · rw [if_pos c1] at ho2
            (repeat (first | (with_reducible refine po_gd ?_ ?_; · omega) | (with_reducible refine po_bnd ?_) | (with_reducible refine po_ift ?_ ?_; · omega) | (with_reducible refine po_iff ?_ ?_; · omega) | (with_reducible refine po_crs ?_) | (with_reducible refine po_cls ?_) | (with_reducible refine po_cre ho2 ?_)))
            refine po_some ?_
            rw [e18, c1]
          · rw [if_neg c1] at ho2
            rw [if_neg c1, if_neg (by omega)] at hn
            (repeat (first | (with_reducible refine po_gd ?_ ?_; · omega) | (with_reducible refine po_bnd ?_) | (with_reducible refine po_ift ?_ ?_; · omega) | (with_reducible refine po_iff ?_ ?_; · omega) | (with_reducible refine po_crs ?_) | (with_reducible refine po_cls ?_) | (with_reducible refine po_cre ho2 ?_) | (with_reducible refine po_cre hn ?_)))
            refine po_some ?_
            rw [e18]
    · by_cases g3 : 0 ≤ w ∧ w ≤ 15
      · have hcnt := h.2.2.2.2.2.2.2.1.2 o g1
        have hcr := cntW_rng (H := c.1 0) (o := o) ((c.1 0).1 4 2 0).toNat
        have hwo := h.waitsOf (m' := m) ho rfl rfl
        rw [← hcnt] at hwo
        have fin : ∀ r : Int, wR r → fX3_numberOf o w (c.1 0) = some r → fX7_ofOrder o w m = some r → askW c (fX6_ofOrder o w c) (fX7_ofOrder o w m) := by
          intro r hr q1 q3
          refine askWs hr (po_eq ?_) q3
          unfold fX6_ofOrder
          (repeat (first | (with_reducible refine po_gd ?_ ?_; · omega) | (with_reducible refine po_bnd ?_) | (with_reducible refine po_ift ?_ ?_; · omega) | (with_reducible refine po_iff ?_ ?_; · omega) | (with_reducible refine po_crs ?_) | (with_reducible refine po_cls ?_) | (with_reducible refine po_cre hA1 ?_) | (with_reducible refine po_cre q1 ?_)))
          exact po_some rfl
        by_cases c1 : w = 1
        · have r1 : m.1 0 (121 + 16 * o + 1) = if (c.1 0).1 3 o 1 = -6 then 8 else (c.1 0).1 3 o 1 := hc 1 (by decide)
          refine fin ((c.1 0).1 3 o 1) (by omega) (po_eq ?_) (po_eq ?_)
          · unfold fX3_numberOf
            (repeat (first | (with_reducible refine po_gd ?_ ?_; · omega) | (with_reducible refine po_bnd ?_) | (with_reducible refine po_ift ?_ ?_; · omega) | (with_reducible refine po_iff ?_ ?_; · omega) | (with_reducible refine po_crs ?_) | (with_reducible refine po_cls ?_)))
            exact po_some rfl
          · by_cases c2 : (c.1 0).1 3 o 1 = -6
            · rw [if_pos c2] at r1
              unfold fX7_ofOrder
              (repeat (first | (with_reducible refine po_gd ?_ ?_; · omega) | (with_reducible refine po_bnd ?_) | (with_reducible refine po_ift ?_ ?_; · omega) | (with_reducible refine po_iff ?_ ?_; · omega) | (with_reducible refine po_crs ?_) | (with_reducible refine po_cls ?_) | (with_reducible refine po_cre hA2 ?_) | (with_reducible refine po_cre (ev_inT ?_) ?_; (· omega)) | (with_reducible refine po_cre (ev_ofO ?_) ?_; (· omega))))
              exact po_some c2.symm
            · rw [if_neg c2] at r1
              unfold fX7_ofOrder
              (repeat (first | (with_reducible refine po_gd ?_ ?_; · omega) | (with_reducible refine po_bnd ?_) | (with_reducible refine po_ift ?_ ?_; · omega) | (with_reducible refine po_iff ?_ ?_; · omega) | (with_reducible refine po_crs ?_) | (with_reducible refine po_cls ?_) | (with_reducible refine po_cre hA2 ?_) | (with_reducible refine po_cre (ev_inT ?_) ?_; (· omega)) | (with_reducible refine po_cre (ev_ofO ?_) ?_; (· omega))))
              exact po_some r1
        · by_cases c14 : w = 14
          · refine fin ((c.1 0).1 3 o 15) (by omega) (po_eq ?_) (po_eq ?_)
            · unfold fX3_numberOf
              (repeat (first | (with_reducible refine po_gd ?_ ?_; · omega) | (with_reducible refine po_bnd ?_) | (with_reducible refine po_ift ?_ ?_; · omega) | (with_reducible refine po_iff ?_ ?_; · omega) | (with_reducible refine po_crs ?_) | (with_reducible refine po_cls ?_)))
              exact po_some rfl
            · unfold fX7_ofOrder
              (repeat (first | (with_reducible refine po_gd ?_ ?_; · omega) | (with_reducible refine po_bnd ?_) | (with_reducible refine po_ift ?_ ?_; · omega) | (with_reducible refine po_iff ?_ ?_; · omega) | (with_reducible refine po_crs ?_) | (with_reducible refine po_cls ?_) | (with_reducible refine po_cre hA2 ?_) | (with_reducible refine po_cre (ev_inT ?_) ?_; (· omega)) | (with_reducible refine po_cre hwo ?_)))
              exact po_some rfl
          · have hn : fX7_ofOrder o w m = some (ordN (c.1 0) o w) := by
              refine po_eq ?_
              have := hc w (by omega)
              unfold fX7_ofOrder
              (repeat (first | (with_reducible refine po_gd ?_ ?_; · omega) | (with_reducible refine po_bnd ?_) | (with_reducible refine po_ift ?_ ?_; · omega) | (with_reducible refine po_iff ?_ ?_; · omega) | (with_reducible refine po_crs ?_) | (with_reducible refine po_cls ?_) | (with_reducible refine po_cre hA2 ?_) | (with_reducible refine po_cre (ev_inT ?_) ?_; (· omega)) | (with_reducible refine po_cre (ev_ofO ?_) ?_; (· omega))))
              exact po_some this
            have hw2 : w = 0 ∨ w = 2 ∨ w = 3 ∨ w = 4 ∨ w = 5 ∨ w = 6 ∨ w = 7 ∨ w = 8 ∨ w = 9 ∨ w = 10 ∨ w = 11 ∨ w = 12 ∨ w = 13 := by omega
            refine fin (ordN (c.1 0) o w) ?_ (po_eq ?_) hn
            · unfold ordN
              rw [if_neg c1]
              rcases hw2 with rfl | rfl | rfl | rfl | rfl | rfl | rfl | rfl | rfl | rfl | rfl | rfl | rfl <;> simp <;> (try split) <;> omega
            · unfold fX3_numberOf
              rcases hw2 with rfl | rfl | rfl | rfl | rfl | rfl | rfl | rfl | rfl | rfl | rfl | rfl | rfl
              all_goals first
                | ((repeat (first | (with_reducible refine po_gd ?_ ?_; · omega) | (with_reducible refine po_bnd ?_) | (with_reducible refine po_ift ?_ ?_; · omega) | (with_reducible refine po_iff ?_ ?_; · omega) | (with_reducible refine po_crs ?_) | (with_reducible refine po_cls ?_))); exact po_some rfl)
                | ((repeat (first | (with_reducible refine po_gd ?_ ?_; · omega) | (with_reducible refine po_bnd ?_) | (with_reducible refine po_ift ?_ ?_; · omega) | (with_reducible refine po_iff ?_ ?_; · omega) | (with_reducible refine po_crs ?_) | (with_reducible refine po_cls ?_))); refine po_if (fun q => po_some ?_) (fun q => po_some ?_) <;> (unfold ordN; simp [q]))
      · refine askWs (r := if 0 ≤ w ∧ w ≤ 15 then 0 else -2) (by rw [if_neg g3]; decide) (po_eq ?_) (po_eq ?_)
        · rw [if_neg g3]
          have q1 : fX3_numberOf o w (c.1 0) = some (-2) := by
            refine po_eq ?_
            unfold fX3_numberOf
            (repeat (first | (with_reducible refine po_gd ?_ ?_; · omega) | (with_reducible refine po_bnd ?_) | (with_reducible refine po_ift ?_ ?_; · omega) | (with_reducible refine po_iff ?_ ?_; · omega) | (with_reducible refine po_crs ?_) | (with_reducible refine po_cls ?_)))
            exact po_some rfl
          unfold fX6_ofOrder
          (repeat (first | (with_reducible refine po_gd ?_ ?_; · omega) | (with_reducible refine po_bnd ?_) | (with_reducible refine po_ift ?_ ?_; · omega) | (with_reducible refine po_iff ?_ ?_; · omega) | (with_reducible refine po_crs ?_) | (with_reducible refine po_cls ?_) | (with_reducible refine po_cre hA1 ?_) | (with_reducible refine po_cre q1 ?_)))
          exact po_some rfl
        · rw [if_neg g3]
          unfold fX7_ofOrder
          (repeat (first | (with_reducible refine po_gd ?_ ?_; · omega) | (with_reducible refine po_bnd ?_) | (with_reducible refine po_ift ?_ ?_; · omega) | (with_reducible refine po_iff ?_ ?_; · omega) | (with_reducible refine po_crs ?_) | (with_reducible refine po_cls ?_) | (with_reducible refine po_cre hA2 ?_) | (with_reducible refine po_cre (ev_inF ?_) ?_; (· omega))))
          exact po_some rfl
  · have hA1 : fX2_hasOrder o (c.1 0) = some 0 := by rw [ev_hasO (by omega), bI_f (decide_eq_false g1)]
    have hA2 : fX7_isOrder o m = some 0 := by rw [ev_isO (by omega), q2, bI_f (decide_eq_false g1)]
    refine askWs (r := -1) (by decide) (po_eq ?_) (po_eq ?_)
    · unfold fX6_ofOrder
      (repeat (first | (with_reducible refine po_gd ?_ ?_; · omega) | (with_reducible refine po_bnd ?_) | (with_reducible refine po_ift ?_ ?_; · omega) | (with_reducible refine po_iff ?_ ?_; · omega) | (with_reducible refine po_crs ?_) | (with_reducible refine po_cls ?_) | (with_reducible refine po_cre hA1 ?_)))
      exact po_some rfl
    · unfold fX7_ofOrder
      (repeat (first | (with_reducible refine po_gd ?_ ?_; · omega) | (with_reducible refine po_bnd ?_) | (with_reducible refine po_ift ?_ ?_; · omega) | (with_reducible refine po_iff ?_ ?_; · omega) | (with_reducible refine po_crs ?_) | (with_reducible refine po_cls ?_) | (with_reducible refine po_cre hA2 ?_)))
      exact po_some rfl
end
section
theorem em_dateOf_b76 {b : Int → Bool} {H : hR} {m : mR} {o x2 : Int} (hb : calM m b) (hk : okOrd H o) (hc : corR H (m.1 0) o) (ho : 0 ≤ o ∧ o < 16) (h2 : 0 ≤ x2 ∧ x2 ≤ 99) {i0 : Int} (hi : 0 ≤ i0 ∧ i0 ≤ 1200) (hg : nomO b H o i0 = -6 ∨ H.1 3 o 6 ≤ nomO b H o i0) : ∀ (n fuel : Nat) (x4 : Int), x4 + n = x2 → 0 ≤ x4 → n < fuel → fX7_dateOf_b76 m fuel o x2 (if nomO b H o (i0 + x4) = -6 then -6 else i0 + x4) x4 = some (if nomO b H o (i0 + x2) = -6 then -6 else dtF b H o (i0 + x2))
  | n, 0, x4, _, _, h => by omega
  | n, fuel + 1, x4, h1, h3, h4 => by
    have hr := nomO_rng (b := b) (k := i0 + x4) hk (by omega)
    unfold fX7_dateOf_b76 fX7_dateOf_b103
    refine po_eq ?_
    by_cases c1 : nomO b H o (i0 + x4) = -6
    · have c2 : nomO b H o (i0 + x2) = -6 := by
        by_cases q : x4 = x2
        · rw [← q]; exact c1
        · have := nomO_lt (b := b) (k := i0 + x4) (j := i0 + x2) hk (by omega) (by omega)
          omega
      rw [if_pos c1, if_pos c2]
      refine po_gd (by omega) (po_if (fun q => po_gd (by decide) (po_ift rfl (po_some rfl))) (fun q => po_gd (by decide) (po_ift rfl (po_gd (by decide) (po_ift rfl (po_some rfl))))))
    · have hge : H.1 3 o 6 ≤ nomO b H o (i0 + x4) := by
        by_cases q : x4 = 0
        · rw [q, Int.add_zero] at c1 ⊢
          omega
        · have := nomO_ge (b := b) (k := i0 + x4) hk (by omega)
          omega
      rw [if_neg c1]
      refine po_gd (by omega) (po_if (fun q => ?_) (fun q => ?_))
      · have e : x4 = x2 := by omega
        subst e
        rw [if_neg c1]
        exact po_gd (by omega) (po_iff (by omega) (po_cre (em_dateBy hb hk hc ho (by omega) ⟨c1, hge⟩) (po_some rfl)))
      · have e : ocF b H o (i0 + x4 + 1) = if nomO b H o (i0 + (x4 + 1)) = -6 then -6 else i0 + (x4 + 1) := by
          unfold ocF
          rw [ixF_id hk (by omega), show i0 + x4 + 1 = i0 + (x4 + 1) by omega]
        refine po_gd (by omega) (po_iff (by omega) (po_cre (em_occ hb hk hc ho (by omega)) ?_))
        rw [e]
        exact po_of (em_dateOf_b76 hb hk hc ho h2 hi hg (n - 1) fuel (x4 + 1) (by omega) (by omega) (by omega)) rfl
theorem ask_dateOf {T : Int} {c : cR} {m : mR} (h : Sim T (c.1 0) m) {o k : Int} (ho : wR o) (hk : wR k) : askW c (fX6_dateOf o k c) (fX7_dateOf o k m) := by
  have k1 := h.2.2.1
  have q2 := h.1.1.2.2.1
  have k1' := k1
  unfold okN at k1'
  by_cases g1 : 0 ≤ o ∧ o < (c.1 0).1 0 5 0
  · have hA1 : fX2_hasOrder o (c.1 0) = some 1 := by rw [ev_hasO (by omega), bI_t (decide_eq_true g1)]
    have hA2 : fX7_isOrder o m = some 1 := by rw [ev_isO (by omega), q2, bI_t (decide_eq_true g1)]
    obtain ⟨w1, w2, w3⟩ := h.2.2.2.2.2.1 o g1
    have w2' := w2
    unfold okP at w2'
    have w3' := w3
    unfold okC at w3'
    have hc := h.1.atO g1
    have r10 : m.1 0 (121 + 16 * o + 10) = (c.1 0).1 3 o 11 := hc 10 (by decide)
    have r14 : m.1 0 (121 + 16 * o + 14) = (c.1 0).1 3 o 16 := hc 14 (by decide)
    have r15 : m.1 0 (121 + 16 * o + 15) = (c.1 0).1 3 o 9 := hc 15 (by decide)
    have r9 : m.1 0 (121 + 16 * o + 9) = if (c.1 0).1 3 o 11 = 2 then 0 else (c.1 0).1 3 o 10 := hc 9 (by decide)
    obtain ⟨b1, b2⟩ := cal_both h.1 h.2.2.2.1.2.1
    by_cases g2 : 0 ≤ k ∧ k ≤ 99
    · have none : fX3_dateBehindNext o k (c.1 0) = some (-6, c.1 0) → fX7_dateOf o k m = some (-6) → askW c (fX6_dateOf o k c) (fX7_dateOf o k m) := by
        intro e1 e2
        refine askWh (r := -6) (H := c.1 0) (by decide) (po_eq ?_) e2 (onlyAims.rf _)
        unfold fX6_dateOf
        (repeat (first | (with_reducible refine po_gd ?_ ?_; · omega) | (with_reducible refine po_bnd ?_) | (with_reducible refine po_ift ?_ ?_; · omega) | (with_reducible refine po_iff ?_ ?_; · omega) | (with_reducible refine po_crs ?_) | (with_reducible refine po_cls ?_) | (with_reducible refine po_cre hA1 ?_) | (with_reducible refine po_cre (ev_btT ?_) ?_; (· omega)) | (with_reducible refine po_cle e1 ?_)))
        exact po_some rfl
      by_cases g3 : (c.1 0).1 3 o 11 = 2
      · refine none (po_eq ?_) (po_eq ?_)
        · unfold fX3_dateBehindNext
          (repeat (first | (with_reducible refine po_gd ?_ ?_; · omega) | (with_reducible refine po_bnd ?_) | (with_reducible refine po_ift ?_ ?_; · omega) | (with_reducible refine po_iff ?_ ?_; · omega) | (with_reducible refine po_crs ?_) | (with_reducible refine po_cls ?_)))
          exact po_some rfl
        · unfold fX7_dateOf
          (repeat (first | (with_reducible refine po_gd ?_ ?_; · omega) | (with_reducible refine po_bnd ?_) | (with_reducible refine po_ift ?_ ?_; · omega) | (with_reducible refine po_iff ?_ ?_; · omega) | (with_reducible refine po_crs ?_) | (with_reducible refine po_cls ?_) | (with_reducible refine po_cre hA2 ?_) | (with_reducible refine po_cre (ev_inT ?_) ?_; (· omega)) | (with_reducible refine po_cre (ev_ofO ?_) ?_; (· omega))))
          exact po_some rfl
      · rw [if_neg g3] at r9
        by_cases g4 : (c.1 0).1 3 o 9 = 0 ∧ (c.1 0).1 3 o 10 ≤ k
        · refine none (po_eq ?_) (po_eq ?_)
          · unfold fX3_dateBehindNext
            (repeat (first | (with_reducible refine po_gd ?_ ?_; · omega) | (with_reducible refine po_bnd ?_) | (with_reducible refine po_ift ?_ ?_; · omega) | (with_reducible refine po_iff ?_ ?_; · omega) | (with_reducible refine po_crs ?_) | (with_reducible refine po_cls ?_)))
            exact po_some rfl
          · unfold fX7_dateOf
            (repeat (first | (with_reducible refine po_gd ?_ ?_; · omega) | (with_reducible refine po_bnd ?_) | (with_reducible refine po_ift ?_ ?_; · omega) | (with_reducible refine po_iff ?_ ?_; · omega) | (with_reducible refine po_crs ?_) | (with_reducible refine po_cls ?_) | (with_reducible refine po_cre hA2 ?_) | (with_reducible refine po_cre (ev_inT ?_) ?_; (· omega)) | (with_reducible refine po_cre (ev_ofO ?_) ?_; (· omega))))
            exact po_some rfl
        · obtain ⟨⟨u, H1⟩, f1, f2, f3⟩ := ec_aim (o := o) b1 w1 (by omega)
          have f2 : onlyAim o (c.1 0) H1 := f2
          have e16 : H1.1 3 o 16 = (c.1 0).1 3 o 16 := f2.1 3 o 16 (by omega)
          have e17 : H1.1 3 o 17 = ixF (cB (c.1 0)) (c.1 0) o ((c.1 0).1 3 o 16) := by
            have := f3.1
            rw [show (((), H1) : Unit × hR).2 = H1 from rfl, e16, ixF_fr (H := c.1 0) (fun f hf => f2.1 3 o f (by omega))] at this
            exact this
          have hx := ixF_rng (cB (c.1 0)) (c.1 0) o ((c.1 0).1 3 o 16)
          have hg := ixF_ge (b := cB (c.1 0)) (fr := (c.1 0).1 3 o 16) w1 (by omega)
          have kk := w1.fr (H' := H1) (fun f hf => f2.1 3 o f (by omega))
          have b1' : calC H1 (cB (c.1 0)) := b1.fr (fun a => f2.1 6 a 0 (by omega)) (f2.1 1 2 0 (by omega))
          have hn := ec_nominal (k := H1.1 3 o 17 + k) b1' kk (by omega)
          rw [nomO_fr (H := c.1 0) (fun f hf => f2.1 3 o f (by omega)), e17] at hn
          have hr := nomO_rng (b := cB (c.1 0)) (k := ixF (cB (c.1 0)) (c.1 0) o ((c.1 0).1 3 o 16) + k) w1 (by omega)
          have hd := dtF_rng (b := cB (c.1 0)) (k := ixF (cB (c.1 0)) (c.1 0) o ((c.1 0).1 3 o 16) + k) w1 (by omega)
          have e7 : H1.1 3 o 7 = (c.1 0).1 3 o 7 := f2.1 3 o 7 (by omega)
          have hcl : fX3_dateBehindNext_b26 o k (c.1 0) = some (if nomO (cB (c.1 0)) (c.1 0) o (ixF (cB (c.1 0)) (c.1 0) o ((c.1 0).1 3 o 16) + k) = -6 then -6 else dtF (cB (c.1 0)) (c.1 0) o (ixF (cB (c.1 0)) (c.1 0) o ((c.1 0).1 3 o 16) + k), H1) := by
            refine po_eq ?_
            unfold fX3_dateBehindNext_b26
            refine po_cle f1 ?_
            rw [e17, e7]
            refine po_cre hn (po_gd (by omega) (po_if (fun q => po_some ?_) (fun q => ?_)))
            · rw [if_pos q]
            · have es := ec_shifted b1' (d := nomO (cB (c.1 0)) (c.1 0) o (ixF (cB (c.1 0)) (c.1 0) o ((c.1 0).1 3 o 16) + k)) (r := (c.1 0).1 3 o 7) (by have := w1.2.2.2.2; omega)
              refine po_cre es (po_some ?_)
              rw [if_neg q, show dtF (cB (c.1 0)) (c.1 0) o (ixF (cB (c.1 0)) (c.1 0) o ((c.1 0).1 3 o 16) + k) = shZ (cB (c.1 0)) (nomO (cB (c.1 0)) (c.1 0) o (ixF (cB (c.1 0)) (c.1 0) o ((c.1 0).1 3 o 16) + k)) ((c.1 0).1 3 o 7) from if_neg q]
          have hml := em_dateOf_b76 (x2 := k) b2 w1 hc (by omega) g2 (i0 := ixF (cB (c.1 0)) (c.1 0) o ((c.1 0).1 3 o 16)) (by omega) hg k.toNat fuel0 0 (by omega) (by decide) (by show _ < 1000000; omega)
          rw [Int.add_zero] at hml
          have ho2 := em_occ (fr := (c.1 0).1 3 o 16) b2 w1 hc (by omega) (by omega)
          unfold ocF at ho2
          have hm : fX7_dateOf_b60 m o k = some (if nomO (cB (c.1 0)) (c.1 0) o (ixF (cB (c.1 0)) (c.1 0) o ((c.1 0).1 3 o 16) + k) = -6 then -6 else dtF (cB (c.1 0)) (c.1 0) o (ixF (cB (c.1 0)) (c.1 0) o ((c.1 0).1 3 o 16) + k)) := by
            refine po_eq ?_
            unfold fX7_dateOf_b60
            refine po_cre (ev_ofO (by omega)) ?_
            rw [r14]
            exact po_cre ho2 (po_of hml rfl)
          refine askWh (H := H1) (r := if nomO (cB (c.1 0)) (c.1 0) o (ixF (cB (c.1 0)) (c.1 0) o ((c.1 0).1 3 o 16) + k) = -6 then -6 else dtF (cB (c.1 0)) (c.1 0) o (ixF (cB (c.1 0)) (c.1 0) o ((c.1 0).1 3 o 16) + k)) (by split <;> omega) (po_eq ?_) (po_eq ?_) f2.s
          · unfold fX6_dateOf fX3_dateBehindNext
            by_cases g5 : (c.1 0).1 3 o 9 = 0
            · (repeat (first | (with_reducible refine po_gd ?_ ?_; · omega) | (with_reducible refine po_bnd ?_) | (with_reducible refine po_ift ?_ ?_; · omega) | (with_reducible refine po_iff ?_ ?_; · omega) | (with_reducible refine po_crs ?_) | (with_reducible refine po_cls ?_) | (with_reducible refine po_cre hA1 ?_) | (with_reducible refine po_cre (ev_btT ?_) ?_; (· omega)) | (with_reducible refine po_cln ?_)))
              exact po_of hcl (po_some rfl)
            · (repeat (first | (with_reducible refine po_gd ?_ ?_; · omega) | (with_reducible refine po_bnd ?_) | (with_reducible refine po_ift ?_ ?_; · omega) | (with_reducible refine po_iff ?_ ?_; · omega) | (with_reducible refine po_crs ?_) | (with_reducible refine po_cls ?_) | (with_reducible refine po_cre hA1 ?_) | (with_reducible refine po_cre (ev_btT ?_) ?_; (· omega)) | (with_reducible refine po_cln ?_)))
              exact po_of hcl (po_some rfl)
          · unfold fX7_dateOf
            by_cases g5 : (c.1 0).1 3 o 9 = 0
            · (repeat (first | (with_reducible refine po_gd ?_ ?_; · omega) | (with_reducible refine po_bnd ?_) | (with_reducible refine po_ift ?_ ?_; · omega) | (with_reducible refine po_iff ?_ ?_; · omega) | (with_reducible refine po_crs ?_) | (with_reducible refine po_cls ?_) | (with_reducible refine po_cre hA2 ?_) | (with_reducible refine po_cre (ev_inT ?_) ?_; (· omega)) | (with_reducible refine po_cre (ev_ofO ?_) ?_; (· omega))))
              exact po_of hm rfl
            · (repeat (first | (with_reducible refine po_gd ?_ ?_; · omega) | (with_reducible refine po_bnd ?_) | (with_reducible refine po_ift ?_ ?_; · omega) | (with_reducible refine po_iff ?_ ?_; · omega) | (with_reducible refine po_crs ?_) | (with_reducible refine po_cls ?_) | (with_reducible refine po_cre hA2 ?_) | (with_reducible refine po_cre (ev_inT ?_) ?_; (· omega)) | (with_reducible refine po_cre (ev_ofO ?_) ?_; (· omega))))
              exact po_of hm rfl
    · refine askWs (r := -2) (by decide) (po_eq ?_) (po_eq ?_)
      · unfold fX6_dateOf
        (repeat (first | (with_reducible refine po_gd ?_ ?_; · omega) | (with_reducible refine po_bnd ?_) | (with_reducible refine po_ift ?_ ?_; · omega) | (with_reducible refine po_iff ?_ ?_; · omega) | (with_reducible refine po_crs ?_) | (with_reducible refine po_cls ?_) | (with_reducible refine po_cre hA1 ?_) | (with_reducible refine po_cre (ev_btF ?_) ?_; (· omega))))
        exact po_some rfl
      · unfold fX7_dateOf
        (repeat (first | (with_reducible refine po_gd ?_ ?_; · omega) | (with_reducible refine po_bnd ?_) | (with_reducible refine po_ift ?_ ?_; · omega) | (with_reducible refine po_iff ?_ ?_; · omega) | (with_reducible refine po_crs ?_) | (with_reducible refine po_cls ?_) | (with_reducible refine po_cre hA2 ?_) | (with_reducible refine po_cre (ev_inF ?_) ?_; (· omega))))
        exact po_some rfl
  · have hA1 : fX2_hasOrder o (c.1 0) = some 0 := by rw [ev_hasO (by omega), bI_f (decide_eq_false g1)]
    have hA2 : fX7_isOrder o m = some 0 := by rw [ev_isO (by omega), q2, bI_f (decide_eq_false g1)]
    refine askWs (r := -1) (by decide) (po_eq ?_) (po_eq ?_)
    · unfold fX6_dateOf
      (repeat (first | (with_reducible refine po_gd ?_ ?_; · omega) | (with_reducible refine po_bnd ?_) | (with_reducible refine po_ift ?_ ?_; · omega) | (with_reducible refine po_iff ?_ ?_; · omega) | (with_reducible refine po_crs ?_) | (with_reducible refine po_cls ?_) | (with_reducible refine po_cre hA1 ?_)))
      exact po_some rfl
    · unfold fX7_dateOf
      (repeat (first | (with_reducible refine po_gd ?_ ?_; · omega) | (with_reducible refine po_bnd ?_) | (with_reducible refine po_ift ?_ ?_; · omega) | (with_reducible refine po_iff ?_ ?_; · omega) | (with_reducible refine po_crs ?_) | (with_reducible refine po_cls ?_) | (with_reducible refine po_cre hA2 ?_)))
      exact po_some rfl
end
section
/-! ===== count ===== -/
theorem ec_sumO {H : hR} {w f : Int} (hn : 0 ≤ H.1 0 5 0 ∧ H.1 0 5 0 ≤ 16) (hw : ∀ o : Int, 0 ≤ o ∧ o < H.1 0 5 0 → fX3_numberOf o w H = some (H.1 3 o f)) : ∀ (k fuel : Nat) (j : Nat), j + k = (H.1 0 5 0).toNat → k < fuel → fX2_sumOverOrders_b4 H fuel w (sumF H f j) j = some (sumF H f (H.1 0 5 0).toNat)
  | k, 0, j, _, h => by omega
  | 0, fuel + 1, j, h1, _ => by
    unfold fX2_sumOverOrders_b4
    rw [gd_pos (by omega), if_pos (by omega), ← h1]
    rfl
  | k + 1, fuel + 1, j, h1, h2 => by
    have ih := ec_sumO hn hw k fuel (j + 1) (by omega) (by omega)
    unfold fX2_sumOverOrders_b4
    rw [gd_pos (by omega), if_neg (by omega), gd_pos (by omega), hw j (by omega), cr_some]
    exact ih
theorem sumF_rng {H : hR} {f : Int} : ∀ n : Nat, (∀ i : Int, 0 ≤ i ∧ i < n → 0 ≤ H.1 3 i f ∧ H.1 3 i f ≤ 1095) → 0 ≤ sumF H f n ∧ sumF H f n ≤ 1095 * n
  | 0, _ => by unfold sumF; omega
  | n + 1, h => by
    have h1 := sumF_rng (f := f) n (fun i hi => h i (by omega))
    have h2 := h n (by omega)
    unfold sumF
    omega
theorem ask_count {T : Int} {c : cR} {m : mR} (h : Sim T (c.1 0) m) (hp : c.2.2 0 1 = m.1 6 10 ∧ wR (m.1 6 10)) (hs : c.2.1 0 4 = m.1 6 7 ∧ wR (m.1 6 7)) {w : Int} (hw : wR w) : askOK (fX6_count w c) (fX7_count w m) := by
  obtain ⟨q0, q1, q2, q3, q4, q5, q6, q7, q8, q9⟩ := h.1.1
  obtain ⟨t5, t6, t7⟩ := h.2.1
  have k1 := h.2.2.1
  unfold okN at k1
  have ks := h.2.2.2.1
  unfold okS at ks
  have hh := h.1.2.1.1
  have hh1 := hh.1
  have hh2 := hh.2.1
  have fin : (0 ≤ w ∧ w ≤ 8) → ∀ r : Int, wR r → fX2_numberOf w (c.1 0) = some r → m.1 0 w = r → askOK (fX6_count w c) (fX7_count w m) := by
    intro g r hr e1 e2
    refine askOf hr (po_eq ?_) (po_eq ?_)
    · unfold fX6_count
      (repeat (first | (with_reducible refine po_gd ?_ ?_; · omega) | (with_reducible refine po_bnd ?_) | (with_reducible refine po_ift ?_ ?_; · omega) | (with_reducible refine po_iff ?_ ?_; · omega) | (with_reducible refine po_crs ?_) | (with_reducible refine po_cls ?_) | (with_reducible refine po_cre e1 ?_)))
      exact po_some rfl
    · unfold fX7_count
      (repeat (first | (with_reducible refine po_gd ?_ ?_; · omega) | (with_reducible refine po_bnd ?_) | (with_reducible refine po_ift ?_ ?_; · omega) | (with_reducible refine po_iff ?_ ?_; · omega) | (with_reducible refine po_crs ?_) | (with_reducible refine po_cls ?_) | (with_reducible refine po_cre (ev_inT ?_) ?_; (· omega)) | (with_reducible refine po_cre (ev_of ?_) ?_; (· omega))))
      exact po_some e2
  have fin2 : (11 ≤ w ∧ w ≤ 14) → ∀ r : Int, wR r → fX2_numberOf w (c.1 0) = some r → m.1 0 (9 + w - 11) = r → askOK (fX6_count w c) (fX7_count w m) := by
    intro g r hr e1 e2
    refine askOf hr (po_eq ?_) (po_eq ?_)
    · unfold fX6_count
      (repeat (first | (with_reducible refine po_gd ?_ ?_; · omega) | (with_reducible refine po_bnd ?_) | (with_reducible refine po_ift ?_ ?_; · omega) | (with_reducible refine po_iff ?_ ?_; · omega) | (with_reducible refine po_crs ?_) | (with_reducible refine po_cls ?_) | (with_reducible refine po_cre e1 ?_)))
      exact po_some rfl
    · unfold fX7_count
      (repeat (first | (with_reducible refine po_gd ?_ ?_; · omega) | (with_reducible refine po_bnd ?_) | (with_reducible refine po_ift ?_ ?_; · omega) | (with_reducible refine po_iff ?_ ?_; · omega) | (with_reducible refine po_crs ?_) | (with_reducible refine po_cls ?_) | (with_reducible refine po_cre (ev_inF ?_) ?_; (· omega)) | (with_reducible refine po_cre (ev_inT ?_) ?_; (· omega)) | (with_reducible refine po_cre (ev_of ?_) ?_; (· omega))))
      exact po_some e2
  have sum : ∀ f : Int, 12 ≤ f ∧ f ≤ 14 → wR (sumF (c.1 0) f ((c.1 0).1 0 5 0).toNat) ∧ fX2_sumOverOrders (f - 1) (c.1 0) = some (sumF (c.1 0) f ((c.1 0).1 0 5 0).toNat) := by
    intro f hf
    refine ⟨?_, ec_sumO (j := 0) k1.2.1 (fun o ho => ?_) ((c.1 0).1 0 5 0).toNat fuel0 (by omega) (by show _ < 1000000; omega)⟩
    · have := sumF_rng (H := c.1 0) (f := f) ((c.1 0).1 0 5 0).toNat (fun i hi => by
        have w3 := (h.2.2.2.2.2.1 i (by omega)).2.2
        unfold okC at w3
        have : f = 12 ∨ f = 13 ∨ f = 14 := by omega
        rcases this with rfl | rfl | rfl <;> omega)
      omega
    · refine po_eq ?_
      have : f = 12 ∨ f = 13 ∨ f = 14 := by omega
      unfold fX3_numberOf
      rcases this with rfl | rfl | rfl
      all_goals
        (repeat (first | (with_reducible refine po_gd ?_ ?_; · omega) | (with_reducible refine po_bnd ?_) | (with_reducible refine po_ift ?_ ?_; · omega) | (with_reducible refine po_iff ?_ ?_; · omega) | (with_reducible refine po_crs ?_) | (with_reducible refine po_cls ?_)))
        exact po_some rfl
  have hc : w = 0 ∨ w = 1 ∨ w = 2 ∨ w = 3 ∨ w = 4 ∨ w = 5 ∨ w = 6 ∨ w = 7 ∨ w = 8 ∨ w = 9 ∨ w = 10 ∨ w = 11 ∨ w = 12 ∨ w = 13 ∨ w = 14 ∨ (w < 0 ∨ 14 < w) := by omega
  rcases hc with rfl | rfl | rfl | rfl | rfl | rfl | rfl | rfl | rfl | rfl | rfl | rfl | rfl | rfl | rfl | hc
  · refine fin (by decide) _ (by omega) (po_eq ?_) q0
    unfold fX2_numberOf
    (repeat (first | (with_reducible refine po_gd ?_ ?_; · omega) | (with_reducible refine po_bnd ?_) | (with_reducible refine po_ift ?_ ?_; · omega) | (with_reducible refine po_iff ?_ ?_; · omega) | (with_reducible refine po_crs ?_) | (with_reducible refine po_cls ?_)))
    exact po_some rfl
  · refine fin (by decide) _ (by omega) (po_eq ?_) q1
    unfold fX2_numberOf
    (repeat (first | (with_reducible refine po_gd ?_ ?_; · omega) | (with_reducible refine po_bnd ?_) | (with_reducible refine po_ift ?_ ?_; · omega) | (with_reducible refine po_iff ?_ ?_; · omega) | (with_reducible refine po_crs ?_) | (with_reducible refine po_cls ?_)))
    exact po_some rfl
  · refine fin (by decide) _ (by omega) (po_eq ?_) q2
    unfold fX2_numberOf
    (repeat (first | (with_reducible refine po_gd ?_ ?_; · omega) | (with_reducible refine po_bnd ?_) | (with_reducible refine po_ift ?_ ?_; · omega) | (with_reducible refine po_iff ?_ ?_; · omega) | (with_reducible refine po_crs ?_) | (with_reducible refine po_cls ?_)))
    exact po_some rfl
  · refine fin (by decide) _ (by omega) (po_eq ?_) q3
    unfold fX2_numberOf
    (repeat (first | (with_reducible refine po_gd ?_ ?_; · omega) | (with_reducible refine po_bnd ?_) | (with_reducible refine po_ift ?_ ?_; · omega) | (with_reducible refine po_iff ?_ ?_; · omega) | (with_reducible refine po_crs ?_) | (with_reducible refine po_cls ?_)))
    exact po_some rfl
  · refine fin (by decide) _ (by omega) (po_eq ?_) q4
    unfold fX2_numberOf
    (repeat (first | (with_reducible refine po_gd ?_ ?_; · omega) | (with_reducible refine po_bnd ?_) | (with_reducible refine po_ift ?_ ?_; · omega) | (with_reducible refine po_iff ?_ ?_; · omega) | (with_reducible refine po_crs ?_) | (with_reducible refine po_cls ?_)))
    exact po_some rfl
  · obtain ⟨s1, s2⟩ := sum 12 (by decide)
    have s2 : fX2_sumOverOrders (5 + 6) (c.1 0) = some (sumF (c.1 0) 12 ((c.1 0).1 0 5 0).toNat) := s2
    refine fin (by decide) _ s1 (po_eq ?_) t5
    unfold fX2_numberOf
    (repeat (first | (with_reducible refine po_gd ?_ ?_; · omega) | (with_reducible refine po_bnd ?_) | (with_reducible refine po_ift ?_ ?_; · omega) | (with_reducible refine po_iff ?_ ?_; · omega) | (with_reducible refine po_crs ?_) | (with_reducible refine po_cls ?_) | (with_reducible refine po_cre s2 ?_)))
    exact po_some rfl
  · obtain ⟨s1, s2⟩ := sum 13 (by decide)
    have s2 : fX2_sumOverOrders (6 + 6) (c.1 0) = some (sumF (c.1 0) 13 ((c.1 0).1 0 5 0).toNat) := s2
    refine fin (by decide) _ s1 (po_eq ?_) t6
    unfold fX2_numberOf
    (repeat (first | (with_reducible refine po_gd ?_ ?_; · omega) | (with_reducible refine po_bnd ?_) | (with_reducible refine po_ift ?_ ?_; · omega) | (with_reducible refine po_iff ?_ ?_; · omega) | (with_reducible refine po_crs ?_) | (with_reducible refine po_cls ?_) | (with_reducible refine po_cre s2 ?_)))
    exact po_some rfl
  · obtain ⟨s1, s2⟩ := sum 14 (by decide)
    have s2 : fX2_sumOverOrders (7 + 6) (c.1 0) = some (sumF (c.1 0) 14 ((c.1 0).1 0 5 0).toNat) := s2
    refine fin (by decide) _ s1 (po_eq ?_) t7
    unfold fX2_numberOf
    (repeat (first | (with_reducible refine po_gd ?_ ?_; · omega) | (with_reducible refine po_bnd ?_) | (with_reducible refine po_ift ?_ ?_; · omega) | (with_reducible refine po_iff ?_ ?_; · omega) | (with_reducible refine po_crs ?_) | (with_reducible refine po_cls ?_) | (with_reducible refine po_cre s2 ?_)))
    exact po_some rfl
  · refine fin (by decide) _ (by omega) (po_eq ?_) q5
    unfold fX2_numberOf
    (repeat (first | (with_reducible refine po_gd ?_ ?_; · omega) | (with_reducible refine po_bnd ?_) | (with_reducible refine po_ift ?_ ?_; · omega) | (with_reducible refine po_iff ?_ ?_; · omega) | (with_reducible refine po_crs ?_) | (with_reducible refine po_cls ?_)))
    exact po_some rfl
  · refine askOf hp.2 (po_eq ?_) (po_eq ?_)
    · unfold fX6_count
      (repeat (first | (with_reducible refine po_gd ?_ ?_; · omega) | (with_reducible refine po_bnd ?_) | (with_reducible refine po_ift ?_ ?_; · omega) | (with_reducible refine po_iff ?_ ?_; · omega) | (with_reducible refine po_crs ?_) | (with_reducible refine po_cls ?_)))
      exact po_some hp.1
    · unfold fX7_count
      (repeat (first | (with_reducible refine po_gd ?_ ?_; · omega) | (with_reducible refine po_bnd ?_) | (with_reducible refine po_ift ?_ ?_; · omega) | (with_reducible refine po_iff ?_ ?_; · omega) | (with_reducible refine po_crs ?_) | (with_reducible refine po_cls ?_) | (with_reducible refine po_cre (ev_inF ?_) ?_; (· omega))))
      exact po_some rfl
  · refine askOf hs.2 (po_eq ?_) (po_eq ?_)
    · unfold fX6_count
      (repeat (first | (with_reducible refine po_gd ?_ ?_; · omega) | (with_reducible refine po_bnd ?_) | (with_reducible refine po_ift ?_ ?_; · omega) | (with_reducible refine po_iff ?_ ?_; · omega) | (with_reducible refine po_crs ?_) | (with_reducible refine po_cls ?_)))
      exact po_some hs.1
    · unfold fX7_count
      (repeat (first | (with_reducible refine po_gd ?_ ?_; · omega) | (with_reducible refine po_bnd ?_) | (with_reducible refine po_ift ?_ ?_; · omega) | (with_reducible refine po_iff ?_ ?_; · omega) | (with_reducible refine po_crs ?_) | (with_reducible refine po_cls ?_) | (with_reducible refine po_cre (ev_inF ?_) ?_; (· omega))))
      exact po_some rfl
  · refine fin2 (by decide) _ (by omega) (po_eq ?_) q6
    unfold fX2_numberOf fX2_settingOf
    (repeat (first | (with_reducible refine po_gd ?_ ?_; · omega) | (with_reducible refine po_bnd ?_) | (with_reducible refine po_ift ?_ ?_; · omega) | (with_reducible refine po_iff ?_ ?_; · omega) | (with_reducible refine po_crs ?_) | (with_reducible refine po_cls ?_) | (with_reducible refine po_crn ?_) | (with_reducible refine po_sk ?_)))
    exact po_some rfl
  · refine fin2 (by decide) _ (by omega) (po_eq ?_) q7
    unfold fX2_numberOf fX2_settingOf
    (repeat (first | (with_reducible refine po_gd ?_ ?_; · omega) | (with_reducible refine po_bnd ?_) | (with_reducible refine po_ift ?_ ?_; · omega) | (with_reducible refine po_iff ?_ ?_; · omega) | (with_reducible refine po_crs ?_) | (with_reducible refine po_cls ?_) | (with_reducible refine po_crn ?_) | (with_reducible refine po_sk ?_)))
    exact po_some rfl
  · refine fin2 (by decide) _ (by omega) (po_eq ?_) q8
    unfold fX2_numberOf fX2_settingOf
    (repeat (first | (with_reducible refine po_gd ?_ ?_; · omega) | (with_reducible refine po_bnd ?_) | (with_reducible refine po_ift ?_ ?_; · omega) | (with_reducible refine po_iff ?_ ?_; · omega) | (with_reducible refine po_crs ?_) | (with_reducible refine po_cls ?_) | (with_reducible refine po_crn ?_) | (with_reducible refine po_sk ?_)))
    exact po_some rfl
  · refine fin2 (by decide) _ (by omega) (po_eq ?_) q9
    unfold fX2_numberOf fX2_settingOf
    (repeat (first | (with_reducible refine po_gd ?_ ?_; · omega) | (with_reducible refine po_bnd ?_) | (with_reducible refine po_ift ?_ ?_; · omega) | (with_reducible refine po_iff ?_ ?_; · omega) | (with_reducible refine po_crs ?_) | (with_reducible refine po_cls ?_) | (with_reducible refine po_crn ?_) | (with_reducible refine po_sk ?_)))
    exact po_some rfl
  · have e1 : fX2_numberOf w (c.1 0) = some (-2) := by
      refine po_eq ?_
      unfold fX2_numberOf
      (repeat (first | (with_reducible refine po_gd ?_ ?_; · omega) | (with_reducible refine po_bnd ?_) | (with_reducible refine po_ift ?_ ?_; · omega) | (with_reducible refine po_iff ?_ ?_; · omega) | (with_reducible refine po_crs ?_) | (with_reducible refine po_cls ?_)))
      exact po_some rfl
    refine askOf (r := -2) (by decide) (po_eq ?_) (po_eq ?_)
    · unfold fX6_count
      (repeat (first | (with_reducible refine po_gd ?_ ?_; · omega) | (with_reducible refine po_bnd ?_) | (with_reducible refine po_ift ?_ ?_; · omega) | (with_reducible refine po_iff ?_ ?_; · omega) | (with_reducible refine po_crs ?_) | (with_reducible refine po_cls ?_) | (with_reducible refine po_cre e1 ?_)))
      exact po_some rfl
    · unfold fX7_count
      (repeat (first | (with_reducible refine po_gd ?_ ?_; · omega) | (with_reducible refine po_bnd ?_) | (with_reducible refine po_ift ?_ ?_; · omega) | (with_reducible refine po_iff ?_ ?_; · omega) | (with_reducible refine po_crs ?_) | (with_reducible refine po_cls ?_) | (with_reducible refine po_cre (ev_inF ?_) ?_; (· omega))))
      exact po_some rfl
end
section
/-! ===== the text ===== -/
/-- the same text on both sides: its length, its signs -/
def padR (c : cR) (m : mR) : Prop := c.2.2 0 1 = m.1 6 10 ∧ (0 ≤ m.1 6 10 ∧ m.1 6 10 ≤ 80) ∧ ∀ j : Int, 0 ≤ j ∧ j < m.1 6 10 → c.2.2 1 j = m.1 5 j ∧ 33 ≤ m.1 5 j ∧ m.1 5 j ≤ 126
theorem ls_wipe {c : cR} {m : mR} (h : padR c m) : ∃ r c' m', fX6_wipe c = some (r, c') ∧ fX7_wipe m = some (r, m') ∧ wR r ∧ c'.1 = c.1 ∧ c'.2.1 = c.2.1 ∧ padR c' m' ∧ (∀ t : Int, ¬ t = 6 → m'.1 t = m.1 t) ∧ m'.2 = m.2 ∧ ∀ k : Int, ¬ k = 10 → m'.1 6 k = m.1 6 k := by
  obtain ⟨h1, h2, h3⟩ := h
  refine ⟨m.1 6 10, cP c (pS c.2.2 0 1 0), mS m 6 10 0, po_eq ?_, po_eq ?_, by omega, rfl, rfl, ⟨?_, ?_, fun j hj => ?_⟩, fun t ht => mS_t m _ _ ht, rfl, fun k hk => mS_n m (by omega)⟩
  · unfold fX6_wipe
    rw [h1]
    exact po_bnd (po_some rfl)
  · unfold fX7_wipe
    exact po_bnd (po_some rfl)
  · rw [mS_p]
    rfl
  · rw [mS_p]
    omega
  · rw [mS_p] at hj
    omega
end
section
/-! ===== the waiting list: settled entries (amount 0) and the others' ranks ===== -/
def rk (A : Int → Int) : Nat → Int
  | 0 => 0
  | n + 1 => rk A n + (if A n = 0 then 0 else 1)
theorem rk_s {A : Int → Int} {n : Nat} (h : ¬ A n = 0) : rk A (n + 1) = rk A n + 1 := by
  show rk A n + (if A n = 0 then 0 else 1) = _
  rw [if_neg h]
theorem rk_z {A : Int → Int} {n : Nat} (h : A n = 0) : rk A (n + 1) = rk A n := by
  show rk A n + (if A n = 0 then 0 else 1) = _
  rw [if_pos h]
  omega
theorem rk_rng {A : Int → Int} : ∀ n : Nat, 0 ≤ rk A n ∧ rk A n ≤ n
  | 0 => by unfold rk; omega
  | n + 1 => by
    have := rk_rng (A := A) n
    unfold rk
    split <;> omega
theorem rk_mono {A : Int → Int} {n : Nat} : ∀ k : Nat, rk A n ≤ rk A (n + k)
  | 0 => Int.le_refl _
  | k + 1 => by
    have h := rk_mono (A := A) (n := n) k
    have : rk A (n + (k + 1)) = rk A (n + k) + (if A ((n + k : Nat) : Int) = 0 then 0 else 1) := rfl
    split at this <;> omega
theorem rk_le {A : Int → Int} {n k : Nat} (h : n ≤ k) : rk A n ≤ rk A k := by
  have := rk_mono (A := A) (n := n) (k - n)
  rw [show n + (k - n) = k by omega] at this
  exact this
theorem rk_lt {A : Int → Int} {n k : Nat} (h : n < k) (hA : ¬ A n = 0) : rk A n + 1 ≤ rk A k := by
  have := rk_le (A := A) (n := n + 1) (k := k) h
  rw [rk_s hA] at this
  exact this
theorem rk_up {A : Int → Int} {p : Nat} (hA : ¬ A p = 0) : ∀ n : Nat, rk (up1 A p 0) n = rk A n - (if p < n then 1 else 0)
  | 0 => by unfold rk; simp
  | n + 1 => by
    have ih := rk_up hA n
    show rk (up1 A p 0) n + (if up1 A p 0 n = 0 then 0 else 1) = rk A n + (if A n = 0 then 0 else 1) - _
    rw [ih]
    by_cases h : n = p
    · subst h
      rw [up1_p, if_pos rfl, if_neg hA, if_neg (by omega), if_pos (by omega)]
      omega
    · rw [up1_n _ _ (by omega)]
      by_cases g : p < n
      · rw [if_pos g, if_pos (show p < n + 1 by omega)]
        omega
      · rw [if_neg g, if_neg (show ¬ p < n + 1 by omega)]
        omega
theorem rk_fr {A B : Int → Int} : ∀ n : Nat, (∀ i : Nat, i < n → B i = A i) → rk B n = rk A n
  | 0, _ => rfl
  | n + 1, h => by
    unfold rk
    rw [rk_fr n (fun i hi => h i (by omega)), h n (by omega)]
theorem rk_all {A : Int → Int} : ∀ n : Nat, (∀ i : Nat, i < n → ¬ A i = 0) → rk A n = n
  | 0, _ => rfl
  | n + 1, h => by
    rw [rk_s (h n (by omega)), rk_all n (fun i hi => h i (by omega))]
    omega
theorem rk_sur {A : Int → Int} : ∀ (n : Nat) (j : Int), 0 ≤ j → j < rk A n → ∃ i : Nat, i < n ∧ ¬ A i = 0 ∧ rk A i = j
  | 0, j, h1, h2 => by
    have : rk A 0 = 0 := rfl
    omega
  | n + 1, j, h1, h2 => by
    by_cases hA : A n = 0
    · rw [rk_z hA] at h2
      obtain ⟨i, q1, q2, q3⟩ := rk_sur (A := A) n j h1 h2
      exact ⟨i, by omega, q2, q3⟩
    · rw [rk_s hA] at h2
      by_cases g : j = rk A n
      · exact ⟨n, by omega, hA, g.symm⟩
      · obtain ⟨i, q1, q2, q3⟩ := rk_sur (A := A) n j h1 (by omega)
        exact ⟨i, by omega, q2, q3⟩
/-! the class drops the settled ones -/
def dropR (H H' : hR) : Prop := (∀ t a b : Int, ¬ t = 5 → ¬ (t = 4 ∧ a = 2 ∧ b = 0) → H'.1 t a b = H.1 t a b) ∧ H'.2 = H.2 ∧ H'.1 4 2 0 = rk (H.1 5 1) (H.1 4 2 0).toNat ∧ ∀ i : Nat, (i : Int) < H.1 4 2 0 → ¬ H.1 5 1 i = 0 → ∀ c : Int, 0 ≤ c ∧ c < 5 → H'.1 5 c (rk (H.1 5 1) i) = H.1 5 c i
theorem ec_drop_b28 {rec : Int → Int → hR → Option (Unit × hR)} {x1 x2 R : Int} (hx : 0 ≤ x1 ∧ x1 ≤ x2 ∧ x2 < R ∧ R ≤ 2147483647) : ∀ (k fuel : Nat) (x3 : Int) (H : hR), x3 + k = 5 → 0 ≤ x3 → k < fuel → H.1 4 1 0 = R →
    ∃ H', fX5_dropSettled_b28 rec fuel x1 x2 x3 H = rec (x1 + 1) (x2 + 1) H' ∧ (∀ c b : Int, H'.1 5 c b = if x3 ≤ c ∧ c < 5 ∧ b = x1 then H.1 5 c x2 else H.1 5 c b) ∧ (∀ t a b : Int, ¬ t = 5 → H'.1 t a b = H.1 t a b) ∧ H'.2 = H.2
  | k, 0, _, _, _, _, h, _ => by omega
  | 0, fuel + 1, x3, H, h1, h2, _, h4 => by
    refine ⟨H, ?_, fun c b => (if_neg (by omega)).symm, fun _ _ _ _ => rfl, rfl⟩
    unfold fX5_dropSettled_b28
    rw [gd_pos (by omega), if_pos (by omega)]
  | k + 1, fuel + 1, x3, H, h1, h2, h3, h4 => by
    obtain ⟨H', q1, q2, q3, q4⟩ := ec_drop_b28 (rec := rec) hx k fuel (x3 + 1) (hS H 5 x3 x1 (H.1 5 x3 x2)) (by omega) (by omega) (by omega) ((hS_n H (by omega)).trans h4)
    refine ⟨H', ?_, fun c b => ?_, fun t a b h => ?_, q4⟩
    · unfold fX5_dropSettled_b28
      rw [gd_pos (by omega), if_neg (by omega), gd_pos (by omega), gd_pos (by omega), h4, gd_pos (by omega), gd_pos (by omega), bnd_eq]
      exact q1
    · rw [q2]
      by_cases g : x3 + 1 ≤ c ∧ c < 5 ∧ b = x1
      · rw [if_pos g, if_pos (show x3 ≤ c ∧ c < 5 ∧ b = x1 by omega), hS_n H (by omega)]
      · rw [if_neg g]
        by_cases g2 : c = x3 ∧ b = x1
        · rw [if_pos (show x3 ≤ c ∧ c < 5 ∧ b = x1 by omega), g2.1, g2.2, hS_p]
        · rw [if_neg (show ¬ (x3 ≤ c ∧ c < 5 ∧ b = x1) by omega), hS_n H (by omega)]
    · rw [q3 t a b h, hS_n H (by omega)]
theorem ec_drop_b4 {H0 : hR} {n : Nat} (hn : H0.1 4 2 0 = n) (hR' : H0.1 4 2 0 ≤ H0.1 4 1 0 ∧ H0.1 4 1 0 ≤ 16384) (hA : ∀ i : Int, 0 ≤ i ∧ i < n → wR (H0.1 5 1 i)) : ∀ (k fuel i : Nat) (H : hR), i + k = n → k < fuel →
    (∀ t a b : Int, ¬ t = 5 → H.1 t a b = H0.1 t a b) → H.2 = H0.2 → (∀ c b : Int, 0 ≤ c ∧ c < 5 → rk (H0.1 5 1) i ≤ b → H.1 5 c b = H0.1 5 c b) → (∀ j : Nat, j < i → ¬ H0.1 5 1 j = 0 → ∀ c : Int, 0 ≤ c ∧ c < 5 → H.1 5 c (rk (H0.1 5 1) j) = H0.1 5 c j) →
    ∃ H', fX5_dropSettled_b4 fuel (rk (H0.1 5 1) i) i H = some ((), H') ∧ dropR H0 H'
  | k, 0, _, _, _, h, _, _, _, _ => by omega
  | 0, fuel + 1, i, H, h1, _, e1, e2, e3, e4 => by
    have e42 := e1 4 2 0 (by decide)
    refine ⟨hS H 4 2 0 (rk (H0.1 5 1) i), po_eq ?_, ⟨fun t a b g1 g2 => ?_, e2, ?_, fun j hj hA' c hc => ?_⟩⟩
    · unfold fX5_dropSettled_b4
      exact po_gd (by omega) (po_ift (by omega) (po_bnd (po_some rfl)))
    · rw [hS_n H (by omega)]; exact e1 t a b g1
    · rw [hS_p, show (H0.1 4 2 0).toNat = i by omega]
    · rw [hS_n H (by omega)]
      exact e4 j (by omega) hA' c hc
  | k + 1, fuel + 1, i, H, h1, h2, e1, e2, e3, e4 => by
    have e42 := e1 4 2 0 (by decide)
    have e41 := e1 4 1 0 (by decide)
    have hr := rk_rng (A := H0.1 5 1) i
    have ea : H.1 5 1 i = H0.1 5 1 i := e3 1 i (by decide) hr.2
    have hw := hA i (by omega)
    unfold fX5_dropSettled_b4
    rw [gd_pos (by omega), if_neg (by omega), gd_pos (by omega), ea, gd_pos hw]
    by_cases g : H0.1 5 1 i = 0
    · rw [if_pos g]
      have := ec_drop_b4 hn hR' hA k fuel (i + 1) H (by omega) (by omega) e1 e2 (fun c b hc hb => e3 c b hc (by rw [rk_z g] at hb; exact hb)) (fun j hj hA' => by
        by_cases q : j = i
        · subst q; exact absurd g hA'
        · exact e4 j (by omega) hA')
      rw [rk_z g] at this
      exact this
    · rw [if_neg g]
      obtain ⟨H1, q1, q2, q3, q4⟩ := ec_drop_b28 (rec := fX5_dropSettled_b4 fuel) (x1 := rk (H0.1 5 1) i) (x2 := i) (R := H0.1 4 1 0) (by omega) 5 fuel0 0 H (by decide) (by decide) (by decide) e41
      rw [q1]
      have := ec_drop_b4 hn hR' hA k fuel (i + 1) H1 (by omega) (by omega) (fun t a b h => (q3 t a b h).trans (e1 t a b h)) (q4.trans e2) (fun c b hc hb => by
        rw [rk_s g] at hb
        rw [q2, if_neg (by omega)]
        exact e3 c b hc (by omega)) (fun j hj hA' c hc => by
        by_cases q : j = i
        · subst q
          rw [q2, if_pos ⟨hc.1, hc.2, rfl⟩]
          exact e3 c j hc hr.2
        · have := rk_lt (A := H0.1 5 1) (n := j) (k := i) (by omega) hA'
          rw [q2, if_neg (by omega)]
          exact e4 j (by omega) hA' c hc)
      rw [rk_s g] at this
      exact this
theorem ec_drop {H : hR} (hk : okN H) (hA : ∀ i : Int, 0 ≤ i ∧ i < H.1 4 2 0 → wR (H.1 5 1 i)) : ∃ H', fX5_dropSettled H = some ((), H') ∧ dropR H H' := by
  unfold okN at hk
  have hr := roomOK_rng hk.2.2.2.2
  exact ec_drop_b4 (n := (H.1 4 2 0).toNat) (by omega) (by omega) (fun i hi => hA i (by omega)) (H.1 4 2 0).toNat fuel0 0 H (by omega) (by show _ < 1000000; omega) (fun _ _ _ _ => rfl) rfl (fun _ _ _ _ => rfl) (fun j hj => by omega)
/-! the reference takes a row out -/
theorem em_rem_b12 {n : Int} (hn : 0 ≤ n ∧ n ≤ 8399) : ∀ (k fuel : Nat) (i : Int) (m : mR), i + k = n → 0 ≤ i → k < fuel → m.1 0 4 = n →
    ∃ m', fX7_removes_b12 fuel i m = some ((), m') ∧ (∀ j : Int, m'.1 1 j = if i ≤ j ∧ j < n then m.1 1 (j + 1) else m.1 1 j) ∧ (∀ t : Int, ¬ t = 1 → m'.1 t = m.1 t) ∧ m'.2 = m.2
  | k, 0, _, _, _, _, h, _ => by omega
  | 0, fuel + 1, i, m, h1, h2, _, h4 => by
    refine ⟨m, po_eq ?_, fun j => (if_neg (by omega)).symm, fun _ _ => rfl, rfl⟩
    unfold fX7_removes_b12
    exact po_gd (by omega) (po_gd (by omega) (po_ift (by omega) (po_some rfl)))
  | k + 1, fuel + 1, i, m, h1, h2, h3, h4 => by
    obtain ⟨m', q1, q2, q3, q4⟩ := em_rem_b12 hn k fuel (i + 1) (mS m 1 i (m.1 1 (i + 1))) (by omega) (by omega) (by omega) ((mS_n m (by omega)).trans h4)
    refine ⟨m', ?_, fun j => ?_, fun t ht => (q3 t ht).trans (mS_t m _ _ ht), q4⟩
    · unfold fX7_removes_b12
      rw [gd_pos (by omega), gd_pos (by omega), if_neg (by omega), gd_pos (by omega), gd_pos (by omega), bnd_eq]
      exact q1
    · rw [q2]
      by_cases g : i + 1 ≤ j ∧ j < n
      · rw [if_pos g, if_pos (show i ≤ j ∧ j < n by omega), mS_n m (by omega)]
      · rw [if_neg g]
        by_cases g2 : j = i
        · subst g2
          rw [if_pos (by omega), mS_p]
        · rw [if_neg (by omega), mS_n m (by omega)]
theorem em_removes {m : mR} {p : Int} (hp : 0 ≤ p ∧ p < m.1 0 4) (hn : m.1 0 4 ≤ 8400) : ∃ m', fX7_removes p m = some ((), m') ∧ (∀ j : Int, m'.1 1 j = if p ≤ j ∧ j < m.1 0 4 - 1 then m.1 1 (j + 1) else m.1 1 j) ∧ m'.1 0 = up1 (m.1 0) 4 (m.1 0 4 - 1) ∧ (∀ t : Int, ¬ t = 0 → ¬ t = 1 → m'.1 t = m.1 t) ∧ m'.2 = m.2 := by
  obtain ⟨m', q1, q2, q3, q4⟩ := em_rem_b12 (n := m.1 0 4 - 1) (by omega) (m.1 0 4 - 1 - p).toNat fuel0 p (mS m 0 4 (m.1 0 4 - 1)) (by omega) (by omega) (by show _ < 1000000; omega) (mS_p _ _ _ _)
  refine ⟨m', ?_, fun j => ?_, (q3 0 (by decide)).trans (mS_0 m _ _), fun t h0 h1 => (q3 t h1).trans (mS_t m _ _ h0), q4⟩
  · unfold fX7_removes
    rw [bnd_eq]
    exact q1
  · rw [q2 j, mS_n m (by omega), mS_n m (by omega)]
/-! both lists -/
def corV (H : hR) (W : Int → Int) (n : Int) (x : Int → Int) : Prop := n = rk (H.1 5 1) (H.1 4 2 0).toNat ∧ ∀ i : Nat, (i : Int) < H.1 4 2 0 → ¬ H.1 5 1 i = 0 → W (rk (H.1 5 1) i) = pkW (H.1 5 0 i) (H.1 5 1 i) (H.1 5 2 i) (H.1 5 3 i) (H.1 5 4 i) (x i)
theorem corV_of {H : hR} {W : Int → Int} {n : Int} (h : corW H W n) (hn : n = H.1 4 2 0) (h0 : 0 ≤ n) (hA : ∀ i : Int, 0 ≤ i ∧ i < n → ¬ H.1 5 1 i = 0) : corV H W n (fun _ => 0) := by
  have e : ∀ k : Nat, (k : Int) ≤ n → rk (H.1 5 1) k = k := fun k hk => rk_all k (fun i hi => hA i (by omega))
  refine ⟨?_, fun i hi hA' => ?_⟩
  · rw [e _ (by omega)]
    omega
  · rw [e i (by omega)]
    exact h i (by omega)
theorem dropR.corW {H H' : hR} {W : Int → Int} {n : Int} (h : dropR H H') (hs : 0 ≤ H.1 4 2 0) (hv : corV H W n (fun _ => 0)) : corW H' W n ∧ n = H'.1 4 2 0 := by
  obtain ⟨h1, h2, h3, h4⟩ := h
  obtain ⟨v1, v2⟩ := hv
  refine ⟨fun j hj => ?_, v1.trans h3.symm⟩
  rw [v1] at hj
  obtain ⟨i, q1, q2, q3⟩ := rk_sur _ j hj.1 hj.2
  rw [← q3, v2 i (by omega) q2, h4 i (by omega) q2 0 (by decide), h4 i (by omega) q2 1 (by decide), h4 i (by omega) q2 2 (by decide), h4 i (by omega) q2 3 (by decide), h4 i (by omega) q2 4 (by decide)]
/-- an order's waiting ones that aren't settled -/
def cntV (H : hR) (o : Int) : Nat → Int
  | 0 => 0
  | n + 1 => cntV H o n + (if H.1 5 0 n = o ∧ ¬ H.1 5 1 n = 0 then 1 else 0)
theorem cntV_s {H : hR} {o : Int} {n : Nat} : cntV H o (n + 1) = cntV H o n + (if H.1 5 0 n = o ∧ ¬ H.1 5 1 n = 0 then 1 else 0) := rfl
theorem cntW_s {H : hR} {o : Int} {n : Nat} : cntW H o (n + 1) = cntW H o n + (if H.1 5 0 n = o then 1 else 0) := rfl
theorem sumW_s {H : hR} {a : Int} {n : Nat} : sumW H a (n + 1) = sumW H a n + (if H.1 3 (H.1 5 0 n) 0 = a then H.1 5 1 n else 0) := rfl
theorem sumF_s {H : hR} {f : Int} {n : Nat} : sumF H f (n + 1) = sumF H f n + H.1 3 n f := rfl
theorem cntV_of {H : hR} {o : Int} : ∀ n : Nat, (∀ i : Nat, i < n → ¬ H.1 5 1 i = 0) → cntV H o n = cntW H o n
  | 0, _ => rfl
  | n + 1, h => by
    unfold cntV cntW
    rw [cntV_of n (fun i hi => h i (by omega))]
    by_cases g : H.1 5 0 n = o
    · rw [if_pos ⟨g, h n (by omega)⟩, if_pos g]
    · rw [if_neg (fun q => g q.1), if_neg g]
theorem cntV_fr {H H' : hR} {o : Int} : ∀ n : Nat, (∀ i : Nat, i < n → H'.1 5 0 i = H.1 5 0 i ∧ H'.1 5 1 i = H.1 5 1 i) → cntV H' o n = cntV H o n
  | 0, _ => rfl
  | n + 1, h => by
    unfold cntV
    rw [cntV_fr n (fun i hi => h i (by omega)), (h n (by omega)).1, (h n (by omega)).2]
theorem cntV_up {H H' : hR} {o : Int} {p : Nat} (hA : ¬ H.1 5 1 p = 0) (h0 : ∀ i : Int, H'.1 5 0 i = H.1 5 0 i) (h1 : H'.1 5 1 = up1 (H.1 5 1) p 0) : ∀ n : Nat, cntV H' o n = cntV H o n - (if p < n ∧ H.1 5 0 p = o then 1 else 0)
  | 0 => by unfold cntV; simp
  | n + 1 => by
    have ih := cntV_up (o := o) hA h0 h1 n
    show cntV H' o n + _ = cntV H o n + _ - _
    rw [ih, h0, h1]
    by_cases h : n = p
    · subst h
      rw [up1_p]
      by_cases g : H.1 5 0 n = o <;> simp [g, hA]
    · rw [up1_n _ _ (by omega)]
      by_cases g : p < n
      · by_cases g2 : H.1 5 0 p = o
        · rw [if_pos (show p < n ∧ H.1 5 0 p = o from ⟨g, g2⟩), if_pos (show p < n + 1 ∧ H.1 5 0 p = o from ⟨by omega, g2⟩)]
          omega
        · rw [if_neg (fun q => g2 q.2), if_neg (show ¬ (p < n + 1 ∧ H.1 5 0 p = o) from fun q => g2 q.2)]
          omega
      · rw [if_neg (fun q => g q.1), if_neg (show ¬ (p < n + 1 ∧ H.1 5 0 p = o) from fun q => by omega)]
        omega
theorem sumW_up {H H' : hR} {a : Int} {p : Nat} (h0 : ∀ i : Int, H'.1 5 0 i = H.1 5 0 i) (h3 : ∀ o : Int, H'.1 3 o 0 = H.1 3 o 0) (h1 : H'.1 5 1 = up1 (H.1 5 1) p 0) : ∀ n : Nat, sumW H' a n = sumW H a n - (if p < n ∧ H.1 3 (H.1 5 0 p) 0 = a then H.1 5 1 p else 0)
  | 0 => by unfold sumW; simp
  | n + 1 => by
    have ih := sumW_up (a := a) h0 h3 h1 n
    show sumW H' a n + _ = sumW H a n + _ - _
    rw [ih, h0, h3, h1]
    by_cases h : n = p
    · subst h
      rw [up1_p]
      by_cases g : H.1 3 (H.1 5 0 n) 0 = a <;> simp [g]
    · rw [up1_n _ _ (by omega)]
      by_cases g : p < n
      · by_cases g2 : H.1 3 (H.1 5 0 p) 0 = a
        · rw [if_pos (show p < n ∧ H.1 3 (H.1 5 0 p) 0 = a from ⟨g, g2⟩), if_pos (show p < n + 1 ∧ H.1 3 (H.1 5 0 p) 0 = a from ⟨by omega, g2⟩)]
          omega
        · rw [if_neg (fun q => g2 q.2), if_neg (show ¬ (p < n + 1 ∧ H.1 3 (H.1 5 0 p) 0 = a) from fun q => g2 q.2)]
          omega
      · rw [if_neg (fun q => g q.1), if_neg (show ¬ (p < n + 1 ∧ H.1 3 (H.1 5 0 p) 0 = a) from fun q => by omega)]
        omega
theorem dropR.sum {H H' : hR} (h : dropR H H') {a : Int} : ∀ n : Nat, (n : Int) ≤ H.1 4 2 0 → sumW H' a (rk (H.1 5 1) n).toNat = sumW H a n
  | 0, _ => rfl
  | n + 1, hn => by
    have ih := dropR.sum h (a := a) n (by omega)
    obtain ⟨h1, h2, h3, h4⟩ := h
    have hr := rk_rng (A := H.1 5 1) n
    by_cases hA : H.1 5 1 n = 0
    · rw [rk_z hA, ih, sumW_s, hA]
      simp
    · have e : ((rk (H.1 5 1) n).toNat : Int) = rk (H.1 5 1) n := by omega
      rw [rk_s hA, show (rk (H.1 5 1) n + 1).toNat = (rk (H.1 5 1) n).toNat + 1 by omega]
      rw [sumW_s, sumW_s, ih, e, h4 n (by omega) hA 0 (by decide), h4 n (by omega) hA 1 (by decide), h1 3 _ 0 (by omega) (by omega)]
theorem dropR.cnt {H H' : hR} (h : dropR H H') {o : Int} : ∀ n : Nat, (n : Int) ≤ H.1 4 2 0 → cntW H' o (rk (H.1 5 1) n).toNat = cntV H o n
  | 0, _ => rfl
  | n + 1, hn => by
    have ih := dropR.cnt h (o := o) n (by omega)
    obtain ⟨h1, h2, h3, h4⟩ := h
    have hr := rk_rng (A := H.1 5 1) n
    by_cases hA : H.1 5 1 n = 0
    · rw [rk_z hA, ih, cntV_s, if_neg (fun q => q.2 hA)]
      omega
    · have e : ((rk (H.1 5 1) n).toNat : Int) = rk (H.1 5 1) n := by omega
      rw [rk_s hA, show (rk (H.1 5 1) n + 1).toNat = (rk (H.1 5 1) n).toNat + 1 by omega]
      rw [cntV_s, cntW_s, ih, e, h4 n (by omega) hA 0 (by decide)]
      by_cases g : H.1 5 0 n = o
      · rw [if_pos g, if_pos ⟨g, hA⟩]
      · rw [if_neg g, if_neg (fun q => g q.1)]
/-- entries, some of them settled -/
def okV (H : hR) : Prop := (∀ i : Int, 0 ≤ i ∧ i < H.1 4 2 0 → (0 ≤ H.1 5 0 i ∧ H.1 5 0 i < H.1 0 5 0) ∧ (0 ≤ H.1 5 1 i ∧ H.1 5 1 i ≤ 1000000) ∧ (0 ≤ H.1 5 2 i ∧ H.1 5 2 i ≤ 1094) ∧ (0 ≤ H.1 5 3 i ∧ H.1 5 3 i ≤ 1094) ∧ (0 ≤ H.1 5 4 i ∧ (¬ H.1 5 1 i = 0 → H.1 5 4 i ≤ 8) ∧ H.1 5 4 i ≤ 9)) ∧
  ∀ i j : Int, 0 ≤ i → i < j → j < H.1 4 2 0 → H.1 5 3 i < H.1 5 3 j ∨ (H.1 5 3 i = H.1 5 3 j ∧ H.1 5 0 i ≤ H.1 5 0 j)
theorem okV_of {H : hR} (h : okW H) : okV H := by
  refine ⟨fun i hi => ?_, h.2⟩
  have := h.1 i hi
  omega
theorem dropR.okW {H H' : hR} (h : dropR H H') (hs : 0 ≤ H.1 4 2 0) (hv : okV H) : okW H' := by
  obtain ⟨h1, h2, h3, h4⟩ := h
  have key : ∀ j : Int, 0 ≤ j ∧ j < H'.1 4 2 0 → ∃ i : Nat, (i : Int) < H.1 4 2 0 ∧ ¬ H.1 5 1 i = 0 ∧ rk (H.1 5 1) i = j ∧ ∀ c : Int, 0 ≤ c ∧ c < 5 → H'.1 5 c j = H.1 5 c i := by
    intro j hj
    rw [h3] at hj
    obtain ⟨i, q1, q2, q3⟩ := rk_sur _ j hj.1 hj.2
    exact ⟨i, by omega, q2, q3, fun c hc => by rw [← q3]; exact h4 i (by omega) q2 c hc⟩
  have e5 : H'.1 0 5 0 = H.1 0 5 0 := h1 _ _ _ (by decide) (by decide)
  refine ⟨fun j hj => ?_, fun j k hj hjk hk => ?_⟩
  · obtain ⟨i, q1, q2, q3, q4⟩ := key j hj
    rw [q4 0 (by decide), q4 1 (by decide), q4 2 (by decide), q4 3 (by decide), q4 4 (by decide), e5]
    have := hv.1 i (by omega)
    omega
  · obtain ⟨i, q1, q2, q3, q4⟩ := key j (by omega)
    obtain ⟨i', r1, r2, r3, r4⟩ := key k (by omega)
    rw [q4 0 (by decide), q4 3 (by decide), r4 0 (by decide), r4 3 (by decide)]
    have : i < i' := by
      by_cases g : i < i'
      · exact g
      · have := rk_le (A := H.1 5 1) (n := i') (k := i) (by omega)
        omega
    exact hv.2 i i' (by omega) (by omega) r1
end
section
/-! ===== a house within a day, and the reference's rows ===== -/
def corS4 (H : hR) (N : Int → Int) : Prop := N 0 = H.1 0 6 0 ∧ N 1 = H.1 0 4 0 ∧ N 2 = H.1 0 5 0 ∧ N 3 = H.1 1 1 0 ∧ N 8 = H.1 0 10 0 ∧ N 9 = H.1 0 7 0 ∧ N 10 = H.1 0 8 0 ∧ N 11 = H.1 0 9 0 ∧ N 12 = H.1 1 2 0
theorem corS4.fr {H H' : hR} {N N' : Int → Int} (h : corS4 H N) (hH : ∀ t a : Int, (t = 0 ∧ ¬ a = 11) ∨ t = 1 → H'.1 t a 0 = H.1 t a 0) (hN : ∀ k : Int, (0 ≤ k ∧ k ≤ 3) ∨ (8 ≤ k ∧ k ≤ 12) → N' k = N k) : corS4 H' N' := by
  obtain ⟨h1, h2, h3, h4, h6, h7, h8, h9, h10⟩ := h
  refine ⟨?_, ?_, ?_, ?_, ?_, ?_, ?_, ?_, ?_⟩ <;> rw [hN _ (by decide), hH _ _ (by decide)] <;> assumption
def okS4 (F : Int) (H : hR) : Prop := (0 ≤ H.1 0 6 0 ∧ H.1 0 6 0 ≤ 1094) ∧ (0 ≤ H.1 1 2 0 ∧ H.1 1 2 0 ≤ 6) ∧ (1 ≤ H.1 0 7 0 ∧ H.1 0 7 0 ≤ 9) ∧ (0 ≤ H.1 0 8 0 ∧ H.1 0 8 0 ≤ 10000) ∧ (0 ≤ H.1 0 9 0 ∧ H.1 0 9 0 ≤ 1000) ∧ (0 ≤ H.1 0 10 0 ∧ H.1 0 10 0 ≤ F)
theorem okS4.fr {F : Int} {H H' : hR} (h : okS4 F H) (hH : ∀ t a : Int, (t = 0 ∧ (6 ≤ a ∧ a ≤ 10)) ∨ (t = 1 ∧ a = 2) → H'.1 t a 0 = H.1 t a 0) : okS4 F H' := by
  unfold okS4 at *
  rw [hH 0 6 (by omega), hH 1 2 (by omega), hH 0 7 (by omega), hH 0 8 (by omega), hH 0 9 (by omega), hH 0 10 (by omega)]
  exact h
def okUV (H : hR) : Prop := (∀ a : Int, 0 ≤ a ∧ a < H.1 0 4 0 → H.1 2 a 11 = sumW H a (H.1 4 2 0).toNat) ∧ ∀ o : Int, 0 ≤ o ∧ o < H.1 0 5 0 → H.1 3 o 15 = cntV H o (H.1 4 2 0).toNat
def MC (H : hR) (m : mR) (x : Int → Int) : Prop := corS4 H (m.1 0) ∧ corH H (m.1 0) ∧ corA H (m.1 0) (m.2 0) ∧ corO H (m.1 0) ∧ corV H (m.1 1) (m.1 0 4) x
def MK (F : Int) (H : hR) : Prop := okN H ∧ okS4 F H ∧ okA H ∧ okO H ∧ okV H ∧ okUV H
def Mid (F : Int) (x : Int → Int) (H : hR) (m : mR) : Prop := MC H m x ∧ Tot H (m.1 0) ∧ MK F H
theorem Sim.mid {T : Int} {H : hR} {m : mR} (h : Sim T H m) : Mid (8400 * H.1 0 6 0) (fun _ => 0) H m := by
  obtain ⟨⟨c1, c2, c3, c4, c5⟩, t, k1, k2, k3, k4, k5, k6, k7, k8⟩ := h
  obtain ⟨g1, g2, g3, g4, g5, g6, g7, g8, g9, g10⟩ := c1
  have k1' := k1
  unfold okN at k1'
  have hA : ∀ i : Int, 0 ≤ i ∧ i < H.1 4 2 0 → ¬ H.1 5 1 i = 0 := fun i hi => by
    have := (k5.1 i hi).2.1
    omega
  refine ⟨⟨⟨g1, g2, g3, g4, g6, g7, g8, g9, g10⟩, c2, c3, c4, corV_of c5 g5 (by omega) (fun i hi => hA i (by omega))⟩, t, k1, k2, k3, k4, okV_of k5, k6.1, fun o ho => ?_⟩
  rw [cntV_of _ (fun i hi => hA i (by omega))]
  exact k6.2 o ho
/-- behind the day's payments -/
theorem Mid.sim {T F : Int} {H H' : hR} {m : mR} (h : Mid F (fun _ => 0) H m) (d : dropR H H') (hF : F ≤ 8400 * H.1 0 6 0) (hM : okM T H') (hQ : okQ H') : Sim T H' m := by
  obtain ⟨⟨c1, c2, c3, c4, c5⟩, t, k1, k2, k3, k4, k5, k6⟩ := h
  obtain ⟨d1, d2, d3, d4⟩ := d
  have d : dropR H H' := ⟨d1, d2, d3, d4⟩
  have k1' := k1
  unfold okN at k1'
  obtain ⟨v1, v2⟩ := d.corW (by omega) c5
  have e : ∀ a f : Int, (H'.1 2 a f = H.1 2 a f) ∧ (H'.1 3 a f = H.1 3 a f) := fun a f => ⟨d1 _ _ _ (by omega) (by omega), d1 _ _ _ (by omega) (by omega)⟩
  have e0 : ∀ a : Int, H'.1 0 a 0 = H.1 0 a 0 := fun a => d1 _ _ _ (by omega) (by omega)
  have e1 : ∀ a : Int, H'.1 1 a 0 = H.1 1 a 0 := fun a => d1 _ _ _ (by omega) (by omega)
  have hr := rk_rng (A := H.1 5 1) (H.1 4 2 0).toNat
  have hs := fun a => d.sum (a := a) (n := (H.1 4 2 0).toNat)
  have hc := fun o => d.cnt (o := o) (n := (H.1 4 2 0).toNat)
  obtain ⟨g1, g2, g3, g4, g6, g7, g8, g9, g10⟩ := c1
  refine ⟨⟨⟨?_, ?_, ?_, ?_, v2, ?_, ?_, ?_, ?_, ?_⟩, c2.fr (fun a => d1 _ _ _ (by omega) (by omega)) (fun _ _ => rfl), c3.fr (fun a f _ => (e a f).1) (fun a => by rw [d2]) (fun _ _ => rfl) (fun _ => rfl) (by rw [g2]; omega), c4.fr (fun o f _ => (e o f).2) (fun _ _ => rfl) (by rw [g3]; omega), v1⟩, t.fr (e0 5) (fun o f _ => (e o f).2) (fun _ _ => rfl), ?_, ?_, k3.fr (e0 4) (fun a f _ => (e a f).1), k4.fr (e0 4) (e0 5) (fun o f _ => (e o f).2), d.okW (by omega) k5, ⟨fun a ha => ?_, fun o ho => ?_⟩, hM, hQ⟩
  · rw [e0]; exact g1
  · rw [e0]; exact g2
  · rw [e0]; exact g3
  · rw [e1]; exact g4
  · rw [e0]; exact g6
  · rw [e0]; exact g7
  · rw [e0]; exact g8
  · rw [e0]; exact g9
  · rw [e1]; exact g10
  · unfold okN
    rw [e0, e0, d3, d1 4 1 0 (by omega) (by omega)]
    exact ⟨k1'.1, k1'.2.1, by omega, by omega, k1'.2.2.2.2⟩
  · unfold okS4 at k2
    unfold okS
    rw [e0, e0, e0, e0, e0, e1]
    omega
  · rw [e0] at ha
    rw [(e a 11).1, d3, hs a (by omega)]
    exact k6.1 a ha
  · rw [e0] at ho
    rw [(e o 15).2, d3, hc o (by omega)]
    exact k6.2 o ho
/-! settling an entry -/
def stl (H : hR) (p : Int) : hR := hS (hS (hS H 3 (H.1 5 0 p) 15 (H.1 3 (H.1 5 0 p) 15 - 1)) 2 (H.1 3 (H.1 5 0 p) 0) 11 (H.1 2 (H.1 3 (H.1 5 0 p) 0) 11 - H.1 5 1 p)) 5 1 p 0
theorem ec_settle {H : hR} {p : Int} (hp : 0 ≤ p ∧ p < H.1 4 1 0 ∧ H.1 4 1 0 ≤ 16384) (ho : 0 ≤ H.1 5 0 p ∧ H.1 5 0 p < 16) (ha : 0 ≤ H.1 3 (H.1 5 0 p) 0 ∧ H.1 3 (H.1 5 0 p) 0 < 8) (hw : wR (H.1 5 1 p)) : fX2_settle p H = some ((), stl H p) := by
  have e1 : ∀ v : Int, (hS H 3 (H.1 5 0 p) 15 v).1 3 (H.1 5 0 p) 0 = H.1 3 (H.1 5 0 p) 0 := fun v => hS_n H (by omega)
  have e2 : ∀ v : Int, (hS H 3 (H.1 5 0 p) 15 v).1 4 1 0 = H.1 4 1 0 := fun v => hS_n H (by omega)
  have e3 : ∀ v : Int, (hS H 3 (H.1 5 0 p) 15 v).1 5 1 p = H.1 5 1 p := fun v => hS_n H (by omega)
  have e4 : ∀ v a : Int, (hS H 3 (H.1 5 0 p) 15 v).1 2 a 11 = H.1 2 a 11 := fun v a => hS_n H (by omega)
  have e5 : ∀ v a w : Int, (hS (hS H 3 (H.1 5 0 p) 15 v) 2 a 11 w).1 4 1 0 = H.1 4 1 0 := fun v a w => by rw [hS_n _ (by omega)]; exact e2 v
  unfold fX2_settle
  rw [gd_pos (by omega), gd_pos ho, bnd_eq, e1, gd_pos ha, e2, gd_pos (by omega), e3, gd_pos hw, e4, bnd_eq, e5, gd_pos (by omega), bnd_eq]
  rfl
theorem sumF_up {H H' : hR} {f o d : Int} (ho : 0 ≤ o) (h : H'.1 3 o f = H.1 3 o f + d) (hn : ∀ i : Int, ¬ i = o → H'.1 3 i f = H.1 3 i f) : ∀ n : Nat, sumF H' f n = sumF H f n + (if o < n then d else 0)
  | 0 => by
    unfold sumF
    rw [if_neg (by omega)]
    rfl
  | n + 1 => by
    have ih := sumF_up ho h hn n
    show sumF H' f n + _ = sumF H f n + _ + _
    rw [ih]
    by_cases g : (n : Int) = o
    · rw [g, h, if_neg (by omega), if_pos (by omega)]
      omega
    · rw [hn n g]
      by_cases g2 : o < n
      · rw [if_pos g2, if_pos (by omega)]
        omega
      · rw [if_neg g2, if_neg (by omega)]
        omega
theorem cntV_rng {H : hR} {o : Int} : ∀ n : Nat, 0 ≤ cntV H o n ∧ cntV H o n ≤ n
  | 0 => by unfold cntV; omega
  | n + 1 => by
    have := cntV_rng (H := H) (o := o) n
    unfold cntV
    split <;> omega
theorem Mid.settle {F : Int} {x : Int → Int} {H : hR} {m : mR} {f o : Int} {p : Nat} (hf : f = 12 ∨ f = 13) (h : Mid F x H m) (hp : (p : Int) < H.1 4 2 0) (hA : ¬ H.1 5 1 p = 0) (ho : H.1 5 0 p = o) :
    ∃ m', fX2_settle p (hS H 3 o f (H.1 3 o f + 1)) = some ((), stl (hS H 3 o f (H.1 3 o f + 1)) p) ∧ fX7_removes (rk (H.1 5 1) p) (mS (mS m 0 (121 + 16 * o + (f - 1)) (H.1 3 o f + 1)) 0 (f - 7) (m.1 0 (f - 7) + 1)) = some ((), m') ∧ Mid F x (stl (hS H 3 o f (H.1 3 o f + 1)) p) m' ∧ (∀ t : Int, ¬ t = 0 → ¬ t = 1 → m'.1 t = m.1 t) ∧ m'.2 = m.2 := by
  obtain ⟨⟨c1, c2, c3, c4, c5⟩, t, k1, k2, k3, k4, k5, k6⟩ := h
  have k1' := k1
  unfold okN at k1'
  have hroom := roomOK_rng k1'.2.2.2.2
  obtain ⟨w1, w2, w3, w4, w5⟩ := k5.1 p (by omega)
  rw [ho] at w1
  obtain ⟨q1, q2, q3⟩ := k4 o w1
  have q2' := q2
  unfold okP at q2'
  have g2 : m.1 0 1 = H.1 0 4 0 := c1.2.1
  have g3 : m.1 0 2 = H.1 0 5 0 := c1.2.2.1
  -- cells behind it
  have x5 : ∀ c i : Int, ¬ c = 1 → (stl (hS H 3 o f (H.1 3 o f + 1)) p).1 5 c i = H.1 5 c i := fun c i hc => by
    unfold stl
    rw [hS_n _ (by omega), hS_n _ (by omega), hS_n _ (by omega), hS_n _ (by omega)]
  have x51 : (stl (hS H 3 o f (H.1 3 o f + 1)) p).1 5 1 = up1 (H.1 5 1) p 0 := by
    funext i
    unfold stl
    rw [hS_1]
    unfold up1
    by_cases g : i = (p : Int)
    · rw [if_pos ⟨rfl, rfl, g⟩, if_pos g]
    · rw [if_neg (by omega), if_neg g, hS_n _ (by omega), hS_n _ (by omega), hS_n _ (by omega)]
  have eo : (hS H 3 o f (H.1 3 o f + 1)).1 5 0 p = o := by rw [hS_n H (by omega)]; exact ho
  have ea : (hS H 3 o f (H.1 3 o f + 1)).1 3 o 0 = H.1 3 o 0 := hS_n H (by omega)
  have x2 : ∀ a y : Int, ¬ (a = H.1 3 o 0 ∧ y = 11) → (stl (hS H 3 o f (H.1 3 o f + 1)) p).1 2 a y = H.1 2 a y := fun a y hc => by
    unfold stl
    rw [eo, ea, hS_n _ (by omega), hS_n _ (by omega), hS_n _ (by omega), hS_n _ (by omega)]
  have x211 : (stl (hS H 3 o f (H.1 3 o f + 1)) p).1 2 (H.1 3 o 0) 11 = H.1 2 (H.1 3 o 0) 11 - H.1 5 1 p := by
    unfold stl
    rw [eo, ea, hS_n _ (by omega), hS_p, hS_n _ (by omega), hS_n _ (by omega)]
  have x3 : ∀ i y : Int, ¬ (i = o ∧ (y = f ∨ y = 15)) → (stl (hS H 3 o f (H.1 3 o f + 1)) p).1 3 i y = H.1 3 i y := fun i y hc => by
    unfold stl
    rw [eo, ea, hS_n _ (by omega), hS_n _ (by omega), hS_n _ (by omega), hS_n _ (by omega)]
  have x3f : (stl (hS H 3 o f (H.1 3 o f + 1)) p).1 3 o f = H.1 3 o f + 1 := by
    unfold stl
    rw [eo, ea, hS_n _ (by omega), hS_n _ (by omega), hS_n _ (by omega), hS_p]
  have x315 : (stl (hS H 3 o f (H.1 3 o f + 1)) p).1 3 o 15 = H.1 3 o 15 - 1 := by
    unfold stl
    rw [eo, ea, hS_n _ (by omega), hS_n _ (by omega), hS_p, hS_n _ (by omega)]
  have xx : ∀ t a b : Int, ¬ t = 2 → ¬ t = 3 → ¬ t = 5 → (stl (hS H 3 o f (H.1 3 o f + 1)) p).1 t a b = H.1 t a b := fun t a b h1 h2 h3 => by
    unfold stl
    rw [hS_n _ (by omega), hS_n _ (by omega), hS_n _ (by omega), hS_n _ (by omega)]
  have xD : (stl (hS H 3 o f (H.1 3 o f + 1)) p).2 = H.2 := rfl
  have es := ec_settle (H := hS H 3 o f (H.1 3 o f + 1)) (p := p) (by rw [hS_n H (by omega)]; omega) (by rw [eo]; omega) (by rw [eo, ea]; omega) (by rw [hS_n H (by omega)]; omega)
  generalize stl (hS H 3 o f (H.1 3 o f + 1)) p = H2 at *
  -- the reference's
  have hv1 := c5.1
  have hlt := rk_lt (A := H.1 5 1) (n := p) (k := (H.1 4 2 0).toNat) (by omega) hA
  have hr := rk_rng (A := H.1 5 1) p
  have hrn := rk_rng (A := H.1 5 1) (H.1 4 2 0).toNat
  have n4 : (mS (mS m 0 (121 + 16 * o + (f - 1)) (H.1 3 o f + 1)) 0 (f - 7) (m.1 0 (f - 7) + 1)).1 0 4 = m.1 0 4 := by rw [mS_n _ (by omega), mS_n _ (by omega)]
  obtain ⟨m', r1, r2, r3, r4, r5⟩ := em_removes (m := mS (mS m 0 (121 + 16 * o + (f - 1)) (H.1 3 o f + 1)) 0 (f - 7) (m.1 0 (f - 7) + 1)) (p := rk (H.1 5 1) p) (by rw [n4]; omega) (by rw [n4]; omega)
  rw [n4] at r2 r3
  have nn : ∀ j : Int, ¬ j = 4 → ¬ j = 121 + 16 * o + (f - 1) → ¬ j = f - 7 → m'.1 0 j = m.1 0 j := fun j h1 h2 h3 => by
    rw [r3, up1_n _ _ h1, mS_n _ (by omega), mS_n _ (by omega)]
  have nf : m'.1 0 (121 + 16 * o + (f - 1)) = H.1 3 o f + 1 := by rw [r3, up1_n _ _ (by omega), mS_n _ (by omega), mS_p]
  have nt : m'.1 0 (f - 7) = m.1 0 (f - 7) + 1 := by rw [r3, up1_n _ _ (by omega), mS_p]
  have nW : ∀ j : Int, m'.1 1 j = if rk (H.1 5 1) p ≤ j ∧ j < m.1 0 4 - 1 then m.1 1 (j + 1) else m.1 1 j := fun j => by
    rw [r2]
    rw [mS_n _ (by omega), mS_n _ (by omega), mS_n _ (by omega), mS_n _ (by omega)]
  have hcu := cntV_up (H' := H2) (p := p) (o := o) hA (fun i => x5 0 i (by omega)) x51 (H.1 4 2 0).toNat
  rw [if_pos ⟨by omega, ho⟩] at hcu
  have hcr := cntV_rng (H := H2) (o := o) (H.1 4 2 0).toNat
  have e42 : H2.1 4 2 0 = H.1 4 2 0 := xx _ _ _ (by omega) (by omega) (by omega)
  have e05 : H2.1 0 5 0 = H.1 0 5 0 := xx _ _ _ (by omega) (by omega) (by omega)
  have e04 : H2.1 0 4 0 = H.1 0 4 0 := xx _ _ _ (by omega) (by omega) (by omega)
  have h15 := k6.2 o w1
  refine ⟨m', es, r1, ⟨⟨c1.fr (fun t a q => xx _ _ _ (by omega) (by omega) (by omega)) (fun k q => nn k (by omega) (by omega) (by omega)), c2.fr (fun a => xx _ _ _ (by omega) (by omega) (by omega)) (fun k q => nn k (by omega) (by omega) (by omega)), c3.fr (fun a y q => x2 a y (by omega)) (fun a => by rw [xD]) (fun k q => nn k (by omega) (by omega) (by omega)) (fun a => by rw [r5]; rfl) (by omega), ?_, ?_⟩, ?_, k1.fr e04 e05 e42 (xx _ _ _ (by omega) (by omega) (by omega)), k2.fr (fun t a q => xx _ _ _ (by omega) (by omega) (by omega)), k3.fr e04 (fun a y q => x2 a y (by omega)), ?_, ?_, ?_⟩, fun t h0 h1 => ?_, ?_⟩
  · -- corO
    intro i hi y hy
    rw [nn 2 (by omega) (by omega) (by omega)] at hi
    by_cases g : i = o
    · subst g
      by_cases g2 : y = f - 1
      · subst g2
        rw [nf]
        unfold ordN
        rw [if_neg (by omega), if_neg (by omega), if_neg (by omega), if_pos (by omega), show f - 1 + 1 = f by omega, x3f]
      · rw [nn _ (by omega) (by omega) (by omega), c4 i hi y hy]
        exact (ordN_at (fun f' q => x3 i f' (by omega))).symm
    · rw [nn _ (by omega) (by omega) (by omega), c4 i hi y hy, ordN_fr (H := H) (fun f' _ => x3 i f' (by omega)) hy]
  · -- corV
    refine ⟨?_, fun i hi hA' => ?_⟩
    · rw [r3, up1_p, e42, x51, rk_up hA, if_pos (by omega), hv1]
    · rw [e42] at hi
      rw [x51] at hA' ⊢
      have hip : ¬ (i : Int) = p := fun q => hA' (by rw [q, up1_p])
      rw [up1_n _ _ hip] at hA' ⊢
      have hv := c5.2 i hi hA'
      rw [rk_up hA, x5 0 i (by omega), x5 2 i (by omega), x5 3 i (by omega), x5 4 i (by omega), nW]
      by_cases g : p < i
      · have h1 := rk_lt (A := H.1 5 1) g hA
        have h2 := rk_lt (A := H.1 5 1) (n := i) (k := (H.1 4 2 0).toNat) (by omega) hA'
        rw [if_pos g, if_pos (by omega), show rk (H.1 5 1) i - 1 + 1 = rk (H.1 5 1) i by omega]
        exact hv
      · have h1 := rk_lt (A := H.1 5 1) (n := i) (k := p) (by omega) hA'
        rw [if_neg g, if_neg (by omega), Int.sub_zero]
        exact hv
  · -- Tot
    obtain ⟨t5, t6, t7⟩ := t
    have ht : ∀ y : Int, ¬ y = f → 12 ≤ y ∧ y ≤ 14 → sumF H2 y (H2.1 0 5 0).toNat = sumF H y (H.1 0 5 0).toNat := fun y hy hy2 => by
      rw [e05]
      exact sumF_fr _ (fun i _ => x3 i y (by omega))
    have ht2 : sumF H2 f (H2.1 0 5 0).toNat = sumF H f (H.1 0 5 0).toNat + 1 := by
      rw [e05, sumF_up (H := H) (f := f) (o := o) (d := 1) w1.1 x3f (fun i hi => x3 i f (by omega)), if_pos (by omega)]
    rcases hf with rfl | rfl
    · exact ⟨by rw [ht2, show (5 : Int) = 12 - 7 from rfl, nt, show (12 : Int) - 7 = 5 from rfl, t5], by rw [ht 13 (by omega) (by omega), nn 6 (by omega) (by omega) (by omega), t6], by rw [ht 14 (by omega) (by omega), nn 7 (by omega) (by omega) (by omega), t7]⟩
    · exact ⟨by rw [ht 12 (by omega) (by omega), nn 5 (by omega) (by omega) (by omega), t5], by rw [ht2, show (6 : Int) = 13 - 7 from rfl, nt, show (13 : Int) - 7 = 6 from rfl, t6], by rw [ht 14 (by omega) (by omega), nn 7 (by omega) (by omega) (by omega), t7]⟩
  · -- okO
    intro i hi
    rw [e05] at hi
    obtain ⟨s1, s2, s3⟩ := k4 i hi
    refine ⟨s1.fr (fun y hy => x3 i y (by omega)), ?_, ?_⟩
    · unfold okP at *
      rw [x3 i 0 (by omega), x3 i 1 (by omega), x3 i 2 (by omega), x3 i 8 (by omega), x3 i 9 (by omega), x3 i 10 (by omega), x3 i 11 (by omega), e04]
      exact s2
    · by_cases g : i = o
      · subst g
        unfold okC at *
        rw [x3 i 14 (by omega), x315, x3 i 16 (by omega)]
        rcases hf with rfl | rfl
        · rw [x3f, x3 i 13 (by omega)]
          omega
        · rw [x3f, x3 i 12 (by omega)]
          omega
      · unfold okC at *
        rw [x3 i 12 (by omega), x3 i 13 (by omega), x3 i 14 (by omega), x3 i 15 (by omega), x3 i 16 (by omega)]
        exact s3
  · -- okV
    refine ⟨fun i hi => ?_, fun i j hi hij hj => ?_⟩
    · rw [e42] at hi
      have := k5.1 i hi
      rw [x5 0 i (by omega), x5 2 i (by omega), x5 3 i (by omega), x5 4 i (by omega), x51, e05]
      unfold up1
      split <;> omega
    · rw [e42] at hj
      rw [x5 0 i (by omega), x5 3 i (by omega), x5 0 j (by omega), x5 3 j (by omega)]
      exact k5.2 i j hi hij hj
  · -- okUV
    refine ⟨fun a ha => ?_, fun i hi => ?_⟩
    · rw [e04] at ha
      rw [e42, sumW_up (H := H) (p := p) (fun i => x5 0 i (by omega)) (fun i => x3 i 0 (by omega)) x51, ho]
      by_cases g : H.1 3 o 0 = a
      · rw [if_pos ⟨by omega, g⟩, ← g, x211, k6.1 _ q2'.1]
      · rw [if_neg (fun q => g q.2), x2 a 11 (by omega), k6.1 a ha]
        omega
    · rw [e05] at hi
      rw [e42]
      by_cases g : i = o
      · subst g
        rw [x315, hcu, h15]
      · rw [x3 i 15 (by omega), cntV_up (H := H) (p := p) hA (fun j => x5 0 j (by omega)) x51, if_neg (fun q => g (by rw [← q.2]; exact ho)), k6.2 i hi]
        omega
  · rw [r4 t h0 h1, mS_t _ _ _ h0, mS_t _ _ _ h0]
  · rw [r5]
    rfl
end
section
/-! ===== giveUp in step ===== -/
/-- an entry's parts, within a day -/
theorem MC.part {F : Int} {x : Int → Int} {H : hR} {m : mR} (h : Mid F x H m) (hx : ∀ i : Int, 0 ≤ x i ∧ x i ≤ 1) {i : Nat} (hi : (i : Int) < H.1 4 2 0) (hA : ¬ H.1 5 1 i = 0) : fX7_partOf (rk (H.1 5 1) i) 0 m = some (H.1 5 0 i) ∧ fX7_partOf (rk (H.1 5 1) i) 1 m = some (H.1 5 1 i) ∧ fX7_partOf (rk (H.1 5 1) i) 2 m = some (H.1 5 2 i) ∧ fX7_partOf (rk (H.1 5 1) i) 3 m = some (H.1 5 3 i) ∧ fX7_partOf (rk (H.1 5 1) i) 4 m = some (H.1 5 4 i) ∧ fX7_partOf (rk (H.1 5 1) i) 5 m = some (x i) := by
  obtain ⟨⟨c1, c2, c3, c4, c5⟩, t, k1, k2, k3, k4, k5, k6⟩ := h
  unfold okN at k1
  obtain ⟨w1, w2, w3, w4, w5⟩ := k5.1 i (by omega)
  have hr := rk_rng (A := H.1 5 1) i
  exact em_part (i := rk (H.1 5 1) i) (by omega) (c5.2 i hi hA) (by omega) (by omega) (by omega) (by omega) (by omega) (hx i)
theorem ls_giveUp {T : Int} {H : hR} {m : mR} (h : Sim T H m) {p : Int} (hp : wR p) : callOK T H m (fX2_dropPayment p H) (fX7_giveUp p m) := by
  have k1 := h.2.2.1
  unfold okN at k1
  have hroom := roomOK_rng k1.2.2.2.2
  have e4 := h.1.1.2.2.2.2.1
  by_cases g1 : 0 ≤ p ∧ p ≤ H.1 4 2 0 - 1
  · obtain ⟨i, hi⟩ := Int.eq_ofNat_of_zero_le g1.1
    have hi : p = (i : Int) := hi
    subst hi
    have hw := h.2.2.2.2.2.2.1.1 i (by omega)
    have hall : ∀ k : Nat, (k : Int) ≤ H.1 4 2 0 → rk (H.1 5 1) k = k := fun k hk => rk_all k (fun j hj => by
      have := (h.2.2.2.2.2.2.1.1 j (by omega)).2.1
      omega)
    obtain ⟨m9, es, er, hmid, -, -⟩ := Mid.settle (f := 13) (p := i) (Or.inr rfl) h.mid (by omega) (by omega) rfl
    obtain ⟨H', ed, hd⟩ := ec_drop (H := stl (hS H 3 (H.1 5 0 i) 13 (H.1 3 (H.1 5 0 i) 13 + 1)) i) hmid.2.2.1 (fun j hj => by
      have := (hmid.2.2.2.2.2.2.1.1 j hj).2.1
      omega)
    have xx : ∀ t a b : Int, ¬ (t = 2 ∧ b = 11) → ¬ t = 3 → ¬ t = 5 → (stl (hS H 3 (H.1 5 0 i) 13 (H.1 3 (H.1 5 0 i) 13 + 1)) i).1 t a b = H.1 t a b := fun t a b h1 h2 h3 => by
      unfold stl
      rw [hS_n _ (by omega), hS_n _ (by omega), hS_n _ (by omega), hS_n _ (by omega)]
    have yy : ∀ t a b : Int, ¬ (t = 2 ∧ b = 11) → ¬ t = 3 → ¬ t = 5 → ¬ (t = 4 ∧ a = 2 ∧ b = 0) → H'.1 t a b = H.1 t a b := fun t a b h1 h2 h3 h4 => (hd.1 t a b h3 h4).trans (xx t a b h1 h2 h3)
    have ht := h.2.2.2.1.1
    have hs : ∀ m1 : mR, Mid (8400 * (stl (hS H 3 (H.1 5 0 i) 13 (H.1 3 (H.1 5 0 i) 13 + 1)) i).1 0 6 0) (fun _ => 0) (stl (hS H 3 (H.1 5 0 i) 13 (H.1 3 (H.1 5 0 i) 13 + 1)) i) m1 → Sim (T + 1) H' m1 := fun m1 h1 => h1.sim hd (Int.le_refl _)
      (h.2.2.2.2.2.2.2.2.1.fr (by omega) (yy _ _ _ (by omega) (by omega) (by omega) (by omega)) (yy _ _ _ (by omega) (by omega) (by omega) (by omega)) (fun a f q => yy _ _ _ (by omega) (by omega) (by omega) (by omega)))
      (h.2.2.2.2.2.2.2.2.2.fr (yy _ _ _ (by omega) (by omega) (by omega) (by omega)) (yy _ _ _ (by omega) (by omega) (by omega) (by omega)) (fun a => yy _ _ _ (by omega) (by omega) (by omega) (by omega)) (by rw [hd.2.1]; rfl))
    have hsz : H'.1 4 2 0 = H.1 4 2 0 - 1 := by
      have e1 := hmid.1.2.2.2.2.1
      have e2 := hd.2.2.1
      obtain ⟨m', r1, r2, r3, r4, r5⟩ := em_removes (m := mS (mS m 0 (121 + 16 * H.1 5 0 i + (13 - 1)) (H.1 3 (H.1 5 0 i) 13 + 1)) 0 (13 - 7) (m.1 0 (13 - 7) + 1)) (p := rk (H.1 5 1) i) (by rw [mS_n _ (by omega), mS_n _ (by omega), hall i (by omega)]; omega) (by rw [mS_n _ (by omega), mS_n _ (by omega)]; omega)
      rw [r1] at er
      cases er
      rw [e2, ← e1, r3, up1_p, mS_n _ (by omega), mS_n _ (by omega), e4]
    refine ⟨H'.1 4 2 0, H', po_eq ?_, by omega, Or.inr ⟨by omega, fun m1 hr => ?_⟩⟩
    · have e41 : H.1 4 1 0 ≤ 2147483647 := by omega
      unfold fX2_dropPayment
      (repeat (first | (with_reducible refine po_gd ?_ ?_; · omega) | (with_reducible refine po_bnd ?_) | (with_reducible refine po_ift ?_ ?_; · omega) | (with_reducible refine po_iff ?_ ?_; · omega) | (with_reducible refine po_crs ?_) | (with_reducible refine po_cls ?_) | (with_reducible refine po_cre (ev_btT ?_) ?_; (· omega)) | (with_reducible refine po_cle es ?_) | (with_reducible refine po_cle ed ?_)))
      exact po_some rfl
    · have hs1 := h.rec hr
      obtain ⟨m8, -, er, hmid, q1, q2⟩ := Mid.settle (f := 13) (p := i) (Or.inr rfl) hs1.mid (by omega) (by omega) rfl
      have hp0 := (hs1.part (i := i) (by omega)).1
      have hc : m1.1 0 (121 + 16 * H.1 5 0 i + 12) = H.1 3 (H.1 5 0 i) 13 := hs1.1.atO hw.1 12 (by omega)
      rw [hall i (by omega)] at er
      have e48 : m8.1 0 4 = H'.1 4 2 0 := hmid.1.2.2.2.2.1.trans hd.2.2.1.symm
      have hx0 : (stl (hS H 3 (H.1 5 0 i) 13 (H.1 3 (H.1 5 0 i) 13 + 1)) i).1 0 6 0 = H.1 0 6 0 := xx _ _ _ (by omega) (by omega) (by omega)
      refine ⟨m8, po_eq ?_, hs m8 (by rw [hx0]; exact hmid), ?_⟩
      · have hr1 := hr.1
        have em : fX7_misses i m1 = some ((), m8) := by
          refine po_eq ?_
          unfold fX7_misses
          rw [show (13 : Int) - 1 = 12 from rfl, show (13 : Int) - 7 = 6 from rfl, ← hc] at er
          refine po_cre hp0 (po_gd (by omega) (po_gd (by omega) (po_bnd (po_bnd ?_))))
          rw [hc] at er ⊢
          rw [mS_n m1 (show ¬ ((0 : Int) = 0 ∧ (6 : Int) = 121 + 16 * H.1 5 0 i + 12) by omega), show 121 + 16 * H.1 5 0 i + 12 = 121 + 16 * H.1 5 0 i + 12 from rfl]
          exact po_cle er (po_some rfl)
        unfold fX7_giveUp
        rw [e4]
        (repeat (first | (with_reducible refine po_gd ?_ ?_; · omega) | (with_reducible refine po_bnd ?_) | (with_reducible refine po_ift ?_ ?_; · omega) | (with_reducible refine po_iff ?_ ?_; · omega) | (with_reducible refine po_crs ?_) | (with_reducible refine po_cls ?_) | (with_reducible refine po_cre (ev_inT ?_) ?_; (· omega)) | (with_reducible refine po_cle hr1 ?_) | (with_reducible refine po_cle em ?_) | (with_reducible refine po_cre (ev_of ?_) ?_; (· omega))))
        exact po_some (by rw [e48])
      · exact ⟨q1 2 (by omega) (by omega), q1 3 (by omega) (by omega), by rw [q2], q1 4 (by omega) (by omega), q1 5 (by omega) (by omega), fun k hk => by rw [q1 6 (by omega) (by omega)]⟩
  · refine callErr (r := -1) (by omega) (po_eq ?_) (po_eq ?_)
    · unfold fX2_dropPayment
      (repeat (first | (with_reducible refine po_gd ?_ ?_; · omega) | (with_reducible refine po_bnd ?_) | (with_reducible refine po_ift ?_ ?_; · omega) | (with_reducible refine po_iff ?_ ?_; · omega) | (with_reducible refine po_crs ?_) | (with_reducible refine po_cls ?_) | (with_reducible refine po_cre (ev_btF ?_) ?_; (· omega))))
      exact po_some rfl
    · unfold fX7_giveUp
      rw [e4]
      (repeat (first | (with_reducible refine po_gd ?_ ?_; · omega) | (with_reducible refine po_bnd ?_) | (with_reducible refine po_ift ?_ ?_; · omega) | (with_reducible refine po_iff ?_ ?_; · omega) | (with_reducible refine po_crs ?_) | (with_reducible refine po_cls ?_) | (with_reducible refine po_cre (ev_inF ?_) ?_; (· omega))))
      exact po_some rfl
end
section
/-! ===== how many wait: what bounds it ===== -/
theorem shZ_lt {b : Int → Bool} {d r : Int} (hd : 0 ≤ d ∧ d ≤ 1094) (h : shZ b d r < d) : ∀ j : Int, shZ b d r < j → j ≤ d → b j = false := by
  have h1 := lastBz_spec b _ d rfl
  have h2 := nextBz_spec b (1095 - d).toNat d rfl
  have h3 := shT_rng b (d := d) (r := r)
  by_cases g0 : r = 0 ∨ r = 4
  · rw [shZ_0 g0] at h
    omega
  · rw [shZ_T g0 rfl] at h ⊢
    by_cases g : shT b d r = -6
    · rw [if_pos g] at h
      omega
    · rw [if_neg g] at h ⊢
      intro j hj hj2
      rcases h3 with h3 | h3
      · rw [h3] at h hj g
        rcases h1 with ⟨q1, q2⟩ | ⟨q1, q2, q3, q4⟩
        · exact absurd q1 g
        · exact q4 j (by omega) (by omega)
      · rw [h3] at h g
        rcases h2 with ⟨q1, q2⟩ | ⟨q1, q2, q3, q4⟩
        · exact absurd q1 g
        · omega
theorem shZ_gt {b : Int → Bool} {d r : Int} (hd : 0 ≤ d ∧ d ≤ 1094) (h : d < shZ b d r) : ∀ j : Int, d ≤ j → j < shZ b d r → b j = false := by
  have h1 := lastBz_spec b _ d rfl
  have h2 := nextBz_spec b (1095 - d).toNat d rfl
  have h3 := shT_rng b (d := d) (r := r)
  by_cases g0 : r = 0 ∨ r = 4
  · rw [shZ_0 g0] at h
    omega
  · rw [shZ_T g0 rfl] at h ⊢
    by_cases g : shT b d r = -6
    · rw [if_pos g] at h
      omega
    · rw [if_neg g] at h ⊢
      intro j hj hj2
      rcases h3 with h3 | h3
      · rw [h3] at h g
        rcases h1 with ⟨q1, q2⟩ | ⟨q1, q2, q3, q4⟩
        · exact absurd q1 g
        · omega
      · rw [h3] at h hj2 g
        rcases h2 with ⟨q1, q2⟩ | ⟨q1, q2, q3, q4⟩
        · exact absurd q1 g
        · exact q4 j (by omega) (by omega)
def phW (w : Int) : Int := if w = 6 then 5 else 2 * w
theorem phW_rng {w : Int} (h : 0 ≤ w ∧ w ≤ 6) : 0 ≤ phW w ∧ phW w ≤ 10 := by
  unfold phW
  split <;> omega
/-- a day more: what the weekday's number changes by -/
theorem phW_s (s : Int) : ((s % 7 < 5) → phW ((s + 1) % 7) = phW (s % 7) + 2) ∧ (¬ s % 7 < 5 → phW ((s + 1) % 7) = phW (s % 7) - 5) := by
  have h : s % 7 = 0 ∨ s % 7 = 1 ∨ s % 7 = 2 ∨ s % 7 = 3 ∨ s % 7 = 4 ∨ s % 7 = 5 ∨ s % 7 = 6 := by omega
  have h2 : (s + 1) % 7 = (s % 7 + 1) % 7 := by omega
  rw [h2]
  rcases h with h | h | h | h | h | h | h <;> rw [h] <;> decide
def cntB (b : Int → Bool) (lo : Int) : Nat → Int
  | 0 => 0
  | n + 1 => cntB b lo n + bI (b (lo + n))
theorem cntB_rng {b : Int → Bool} {lo : Int} : ∀ n : Nat, 0 ≤ cntB b lo n ∧ cntB b lo n ≤ n
  | 0 => by unfold cntB; omega
  | n + 1 => by
    have := cntB_rng (b := b) (lo := lo) n
    have := bI_rng (b (lo + n))
    unfold cntB
    omega
theorem cntB_s {b : Int → Bool} {lo : Int} : ∀ n : Nat, cntB b lo (n + 1) = bI (b lo) + cntB b (lo + 1) n
  | 0 => by
    show (0 : Int) + bI (b (lo + ((0 : Nat) : Int))) = bI (b lo) + 0
    rw [show lo + ((0 : Nat) : Int) = lo by omega]
    omega
  | n + 1 => by
    have ih := cntB_s (b := b) (lo := lo) n
    show cntB b lo (n + 1) + bI (b (lo + ((n + 1 : Nat) : Int))) = bI (b lo) + (cntB b (lo + 1) n + bI (b (lo + 1 + n)))
    rw [ih, show lo + ((n + 1 : Nat) : Int) = lo + 1 + n by omega]
    omega
theorem cntB_add {b : Int → Bool} {lo : Int} {n : Nat} : ∀ k : Nat, cntB b lo (n + k) = cntB b lo n + cntB b (lo + n) k
  | 0 => by
    show cntB b lo n = cntB b lo n + 0
    omega
  | k + 1 => by
    have ih := cntB_add (b := b) (lo := lo) (n := n) k
    show cntB b lo (n + k) + bI (b (lo + ((n + k : Nat) : Int))) = cntB b lo n + (cntB b (lo + n) k + bI (b (lo + n + k)))
    rw [ih, show lo + ((n + k : Nat) : Int) = lo + n + k by omega]
    omega
theorem cntB_fr {b b' : Int → Bool} {lo : Int} : ∀ n : Nat, (∀ j : Int, lo ≤ j → j < lo + n → b' j = b j) → cntB b' lo n = cntB b lo n
  | 0, _ => rfl
  | n + 1, h => by
    unfold cntB
    rw [cntB_fr n (fun j h1 h2 => h j h1 (by omega)), h (lo + n) (by omega) (by omega)]
/-- holidays from a day on -/
def futH (b : Int → Bool) (t : Int) : Int := cntB b t (1095 - t).toNat
theorem futH_s {b : Int → Bool} {t : Int} (h : t ≤ 1094) : futH b t = bI (b t) + futH b (t + 1) := by
  unfold futH
  rw [show (1095 - t).toNat = (1095 - (t + 1)).toNat + 1 by omega, cntB_s]
theorem futH_rng (b : Int → Bool) (t : Int) : 0 ≤ futH b t := (cntB_rng _).1
/-- days that aren't business days, one behind the other -/
theorem nonB_run {wd : Int} {hb : Int → Bool} : ∀ (n : Nat) (t : Int), (∀ j : Int, t ≤ j → j < t + n → biz wd hb j = false) → 5 * (n : Int) + phW ((t + n + wd) % 7) ≤ phW ((t + wd) % 7) + 7 * cntB hb t n
  | 0, t, _ => by
    rw [show t + ((0 : Nat) : Int) + wd = t + wd by omega]
    unfold cntB
    omega
  | n + 1, t, h => by
    have ih := nonB_run n t (fun j h1 h2 => h j h1 (by omega))
    have hn := h (t + n) (by omega) (by omega)
    have hs := phW_s (t + n + wd)
    have hr := bI_rng (hb (t + n))
    unfold cntB
    rw [show t + ((n + 1 : Nat) : Int) + wd = t + n + wd + 1 by omega]
    unfold biz at hn
    by_cases g : (t + n + wd) % 7 < 5
    · have g2 : hb (t + n) = true := by
        rw [decide_eq_true g] at hn
        cases hh : hb (t + n)
        · rw [hh] at hn
          cases hn
        · rfl
      have := hs.1 g
      rw [bI_t g2]
      omega
    · have := hs.2 g
      omega
theorem cntB_or {b : Int → Bool} {x lo : Int} : ∀ n : Nat, cntB (fun d => b d || decide (x = d)) lo n ≤ cntB b lo n + (if lo ≤ x ∧ x < lo + n then 1 else 0)
  | 0 => by
    unfold cntB
    split <;> omega
  | n + 1 => by
    have ih := cntB_or (b := b) (x := x) (lo := lo) n
    unfold cntB
    by_cases g : x = lo + n
    · rw [if_neg (by omega)] at ih
      rw [if_pos (by omega)]
      have := bI_rng (b (lo + n) || decide (x = lo + n))
      have := bI_rng (b (lo + n))
      omega
    · rw [decide_eq_false g, Bool.or_false]
      by_cases g2 : lo ≤ x ∧ x < lo + n
      · rw [if_pos g2] at ih
        rw [if_pos (by omega)]
        omega
      · rw [if_neg g2] at ih
        rw [if_neg (by omega)]
        omega
theorem cntB_hol {N : Int → Int} {lo : Int} {n : Nat} : ∀ k : Nat, cntB (holN N k) lo n ≤ k
  | 0 => by
    have : ∀ n : Nat, cntB (holN N 0) lo n = 0 := fun n => by
      induction n with
      | zero => rfl
      | succ n ih =>
        unfold cntB
        rw [ih]
        rfl
    rw [this]
    omega
  | k + 1 => by
    have ih := cntB_hol (N := N) (lo := lo) (n := n) k
    have := cntB_or (b := holN N k) (x := N (13 + k)) (lo := lo) n
    have e : cntB (holN N (k + 1)) lo n = cntB (fun d => holN N k d || decide (N (13 + k) = d)) lo n := cntB_fr n (fun j _ _ => rfl)
    rw [e]
    split at this <;> omega
/-- no more days are marked than are counted -/
theorem hol_cnt {H : hR} {m : mR} (h : corH H (m.1 0)) (e : m.1 0 3 = H.1 1 1 0) {lo : Int} {n : Nat} (h0 : 0 ≤ lo) (hn : lo + n ≤ 1095) : cntB (holB H) lo n ≤ H.1 1 1 0 := by
  have h1 := cntB_hol (N := m.1 0) (lo := lo) (n := n) (m.1 0 3).toNat
  rw [cntB_fr (b := holB H) (b' := holN (m.1 0) (m.1 0 3).toNat) n (fun j h1 h2 => h.2 j (by omega))] at h1
  have := h.1.1
  omega
/-- an index's day, for orders by days or weeks -/
def nomK (H : hR) (o k : Int) : Int := H.1 3 o 6 + (if H.1 3 o 3 = 0 then 1 else 7) * (k * H.1 3 o 4)
theorem nomK_fr {H H' : hR} {o : Int} (h : ∀ f : Int, (f = 3 ∨ f = 4 ∨ f = 6) → H'.1 3 o f = H.1 3 o f) (k : Int) : nomK H' o k = nomK H o k := by
  unfold nomK
  rw [h 3 (by decide), h 4 (by decide), h 6 (by decide)]
theorem nomO_K {b : Int → Bool} {H : hR} {o k : Int} (h : 0 ≤ H.1 3 o 3 ∧ H.1 3 o 3 ≤ 1) : nomO b H o k = if 1094 < nomK H o k then -6 else nomK H o k := by
  unfold nomO nomP nomK
  by_cases g : H.1 3 o 3 = 0
  · rw [if_pos g, if_pos g, Int.one_mul]
  · rw [if_neg g, if_neg g, if_pos (by omega)]
theorem nomK_lt {H : hR} {o k j : Int} (h : okOrd H o) (hk : k < j) : nomK H o k < nomK H o j := by
  obtain ⟨h1, h2, h3, h4, h5⟩ := h
  have h7 : k * H.1 3 o 4 < j * H.1 3 o 4 := Int.mul_lt_mul_of_pos_right hk (by omega)
  unfold nomK
  split <;> omega
theorem nomK_ge {H : hR} {o k : Int} (h : okOrd H o) (hk : 0 ≤ k) : H.1 3 o 6 ≤ nomK H o k := by
  obtain ⟨h1, h2, h3, h4, h5⟩ := h
  have h7 : 0 ≤ k * H.1 3 o 4 := Int.mul_nonneg hk (by omega)
  unfold nomK
  split <;> omega
theorem ixF_K {b : Int → Bool} {H : hR} {o k : Int} (h : okOrd H o) (hk : 0 ≤ k) (h3 : H.1 3 o 3 ≤ 1) : ixF b H o k = k := by
  have h1 := nomK_ge h hk
  unfold ixF
  rw [nomO_K (by have := h.1; omega)]
  by_cases g : 1094 < nomK H o k
  · rw [if_pos g, if_neg (by omega)]
  · rw [if_neg g, if_neg (by omega)]
def okX (t Z U : Int) (H : hR) : Prop :=
  (∀ i : Int, 0 ≤ i ∧ i < H.1 4 2 0 → H.1 3 (H.1 5 0 i) 3 ≤ 1 → 5 * (t - H.1 5 2 i) ≤ 7 * H.1 5 4 i + Z ∧ H.1 5 2 i < nomK H (H.1 5 0 i) (H.1 3 (H.1 5 0 i) 16)) ∧
  (∀ o : Int, 0 ≤ o ∧ o < H.1 0 5 0 → (H.1 3 o 3 ≤ 1 → H.1 3 o 11 = 0 → 5 * (t - nomK H o (H.1 3 o 16)) ≤ Z) ∧ (¬ H.1 3 o 3 ≤ 1 → H.1 3 o 16 ≤ 36) ∧ (H.1 3 o 9 = 1 → H.1 3 o 10 = 0)) ∧
  (∀ i j : Int, 0 ≤ i → i ≤ j → j < H.1 4 2 0 → H.1 5 0 i = H.1 5 0 j → H.1 3 (H.1 5 0 i) 3 ≤ 1 → 5 * (H.1 5 2 j + 1 - H.1 5 2 i) ≤ 7 * H.1 5 4 i + U ∧ (i < j → H.1 5 2 i < H.1 5 2 j))
def okDue (t : Int) (H : hR) : Prop := ∀ i : Int, 0 ≤ i ∧ i < H.1 4 2 0 → H.1 5 3 i < t
theorem okX.mono {t Z U Z' U' : Int} {H : hR} (h : okX t Z U H) (hZ : Z ≤ Z') (hU : U ≤ U') : okX t Z' U' H := by
  obtain ⟨h1, h2, h3⟩ := h
  refine ⟨fun i hi hk => ?_, fun o ho => ⟨fun q1 q2 => ?_, (h2 o ho).2⟩, fun i j a b c d e => ?_⟩
  · have := h1 i hi hk
    omega
  · have := (h2 o ho).1 q1 q2
    omega
  · have := h3 i j a b c d e
    omega
theorem okX.fr {t Z U : Int} {H H' : hR} (h : okX t Z U H) (hw : okW H) (h2' : H'.1 4 2 0 = H.1 4 2 0) (h5' : H'.1 0 5 0 = H.1 0 5 0) (hc : ∀ c i : Int, 0 ≤ i ∧ i < H.1 4 2 0 → H'.1 5 c i = H.1 5 c i) (hf : ∀ o f : Int, 0 ≤ o ∧ o < H.1 0 5 0 → f = 3 ∨ f = 4 ∨ f = 6 ∨ f = 9 ∨ f = 10 ∨ f = 11 ∨ f = 16 → H'.1 3 o f = H.1 3 o f) : okX t Z U H' := by
  obtain ⟨h1, h2, h3⟩ := h
  refine ⟨fun i hi => ?_, fun o ho => ?_, fun i j a b c => ?_⟩
  · rw [h2'] at hi
    have ho := (hw.1 i hi).1
    rw [hc 0 i hi, hc 2 i hi, hc 4 i hi, hf _ 3 ho (by decide), hf _ 16 ho (by decide), nomK_fr (H := H) (fun f q => hf _ f ho (by omega))]
    exact h1 i hi
  · rw [h5'] at ho
    rw [hf o 3 ho (by decide), hf o 9 ho (by decide), hf o 10 ho (by decide), hf o 11 ho (by decide), hf o 16 ho (by decide), nomK_fr (H := H) (fun f q => hf _ f ho (by omega))]
    exact h2 o ho
  · rw [h2'] at c
    have ho := (hw.1 i (by omega)).1
    rw [hc 0 i (by omega), hc 0 j (by omega), hc 2 i (by omega), hc 2 j (by omega), hc 4 i (by omega), hf _ 3 ho (by decide)]
    exact h3 i j a b c
theorem okDue.fr {t : Int} {H H' : hR} (h : okDue t H) (h2' : H'.1 4 2 0 = H.1 4 2 0) (hc : ∀ i : Int, 0 ≤ i ∧ i < H.1 4 2 0 → H'.1 5 3 i = H.1 5 3 i) : okDue t H' := by
  intro i hi
  rw [h2'] at hi
  rw [hc i hi]
  exact h i hi
/-- an order's waiting ones: at most as many as from the first one's day to the last one's -/
theorem cnt_span {t Z U : Int} {H : hR} (h : okX t Z U H) {o : Int} (hk : H.1 3 o 3 ≤ 1) : ∀ n : Nat, (n : Int) ≤ H.1 4 2 0 → cntW H o n = 0 ∨ ∃ p q : Int, 0 ≤ p ∧ p ≤ q ∧ q < n ∧ H.1 5 0 p = o ∧ H.1 5 0 q = o ∧ cntW H o n ≤ H.1 5 2 q - H.1 5 2 p + 1
  | 0, _ => Or.inl rfl
  | n + 1, hn => by
    unfold cntW
    by_cases g : H.1 5 0 n = o
    · rw [if_pos g]
      rcases cnt_span h hk n (by omega) with e | ⟨p, q, h1, h2, h3, h4, h5, h6⟩
      · exact Or.inr ⟨n, n, by omega, Int.le_refl _, by omega, g, g, by omega⟩
      · have := (h.2.2 q n (by omega) (by omega) (by omega) (by rw [h5, g]) (by rw [h5]; exact hk)).2 (by omega)
        exact Or.inr ⟨p, n, h1, by omega, by omega, h4, g, by omega⟩
    · rw [if_neg g]
      rcases cnt_span h hk n (by omega) with e | ⟨p, q, h1, h2, h3, h4, h5, h6⟩
      · exact Or.inl (by omega)
      · exact Or.inr ⟨p, q, h1, h2, by omega, h4, h5, by omega⟩
def sumC (H : hR) (n : Nat) : Nat → Int
  | 0 => 0
  | k + 1 => sumC H n k + cntW H k n
theorem sumC_s {H : hR} {n : Nat} : ∀ k : Nat, sumC H (n + 1) k = sumC H n k + (if 0 ≤ H.1 5 0 n ∧ H.1 5 0 n < k then 1 else 0)
  | 0 => by
    unfold sumC
    rw [if_neg (by omega)]
    rfl
  | k + 1 => by
    have ih := sumC_s (H := H) (n := n) k
    show sumC H (n + 1) k + (cntW H k n + (if H.1 5 0 n = k then 1 else 0)) = sumC H n k + cntW H k n + _
    rw [ih]
    by_cases g : H.1 5 0 n = k
    · rw [if_pos g, if_neg (by omega), if_pos (by omega)]
      omega
    · rw [if_neg g]
      by_cases g2 : 0 ≤ H.1 5 0 n ∧ H.1 5 0 n < k
      · rw [if_pos g2, if_pos (by omega)]
        omega
      · rw [if_neg g2, if_neg (by omega)]
        omega
theorem sumC_all {H : hR} {k : Nat} : ∀ n : Nat, (∀ i : Int, 0 ≤ i ∧ i < n → 0 ≤ H.1 5 0 i ∧ H.1 5 0 i < k) → sumC H n k = n
  | 0, _ => by
    have : ∀ k : Nat, sumC H 0 k = 0 := fun k => by
      induction k with
      | zero => rfl
      | succ k ih =>
        unfold sumC
        rw [ih]
        rfl
    exact this k
  | n + 1, h => by
    rw [sumC_s, sumC_all n (fun i hi => h i (by omega)), if_pos (h n (by omega))]
    omega
theorem sumC_le {H : hR} {n : Nat} {M : Int} : ∀ k : Nat, (∀ o : Nat, o < k → cntW H o n ≤ M) → sumC H n k ≤ k * M
  | 0, _ => by
    unfold sumC
    simp
  | k + 1, h => by
    have ih := sumC_le (H := H) (n := n) (M := M) k (fun o ho => h o (by omega))
    have := h k (by omega)
    unfold sumC
    have e : ((k + 1 : Nat) : Int) * M = k * M + M := by
      rw [show ((k + 1 : Nat) : Int) = k + 1 by omega, Int.add_mul, Int.one_mul]
    omega
/-- how many wait -/
theorem waits_bound {T t Z C : Int} {H : hR} (h : okX t Z (57 + 5 * C) H) (hk : Ok T H) (hC : 0 ≤ C ∧ C + H.1 0 5 0 ≤ 512) : H.1 4 2 0 ≤ 8399 := by
  have k1 := hk.1
  unfold okN at k1
  have hw := hk.2.2.2.2.1
  have e := sumC_all (H := H) (k := (H.1 0 5 0).toNat) (H.1 4 2 0).toNat (fun i hi => by
    have := (hw.1 i (by omega)).1
    omega)
  have hle := sumC_le (H := H) (n := (H.1 4 2 0).toNat) (M := 36 + C) (H.1 0 5 0).toNat (fun o ho => by
    have hrng := cntW_rng (H := H) (o := o) (H.1 4 2 0).toNat
    by_cases g : H.1 3 o 3 ≤ 1
    · rcases cnt_span h g (H.1 4 2 0).toNat (by omega) with e | ⟨p, q, h1, h2, h3, h4, h5, h6⟩
      · omega
      · have a1 := (h.2.2 p q h1 h2 (by omega) (by rw [h4, h5]) (by rw [h4]; exact g)).1
        have a2 := hw.1 p (by omega)
        omega
    · have a1 := (h.2.1 o (by omega)).2.1 g
      have a2 := (hk.2.2.2.1 o (by omega)).2.2
      have a3 := hk.2.2.2.2.2.1.2 o (by omega)
      unfold okC at a2
      omega)
  have hle2 := sumC_le (H := H) (n := (H.1 4 2 0).toNat) (M := max 36 (22 + C)) (H.1 0 5 0).toNat (fun o ho => by
    have hrng := cntW_rng (H := H) (o := o) (H.1 4 2 0).toNat
    by_cases g : H.1 3 o 3 ≤ 1
    · rcases cnt_span h g (H.1 4 2 0).toNat (by omega) with e | ⟨p, q, h1, h2, h3, h4, h5, h6⟩
      · omega
      · have a1 := (h.2.2 p q h1 h2 (by omega) (by rw [h4, h5]) (by rw [h4]; exact g)).1
        have a2 := hw.1 p (by omega)
        omega
    · have a1 := (h.2.1 o (by omega)).2.1 g
      have a2 := (hk.2.2.2.1 o (by omega)).2.2
      have a3 := hk.2.2.2.2.2.1.2 o (by omega)
      unfold okC at a2
      omega)
  have hm := mul_bnd (a := ((H.1 0 5 0).toNat : Int)) (b := max 36 (22 + C)) (A := 16) (B := max 36 (22 + C)) (by omega) (by omega) (by omega) (Int.le_refl _)
  have key : ∀ K : Nat, K ≤ 16 → C + K ≤ 512 → (K : Int) * max 36 (22 + C) ≤ 8399 := by
    intro K h1 h2
    have : K = 0 ∨ K = 1 ∨ K = 2 ∨ K = 3 ∨ K = 4 ∨ K = 5 ∨ K = 6 ∨ K = 7 ∨ K = 8 ∨ K = 9 ∨ K = 10 ∨ K = 11 ∨ K = 12 ∨ K = 13 ∨ K = 14 ∨ K = 15 ∨ K = 16 := by omega
    rcases this with rfl | rfl | rfl | rfl | rfl | rfl | rfl | rfl | rfl | rfl | rfl | rfl | rfl | rfl | rfl | rfl | rfl <;> omega
  have := key (H.1 0 5 0).toNat (by omega) (by omega)
  omega
end
section
/-! ===== a payment that becomes due: the class's side ===== -/
theorem roomOK_dbl {r : Int} (h : roomOK r) (h8 : r ≤ 8400) : roomOK (2 * r) ∧ 2 * r ≤ 16384 := by
  obtain ⟨k, hk, rfl⟩ := h
  have : k = 0 ∨ k = 1 ∨ k = 2 ∨ k = 3 ∨ k = 4 ∨ k = 5 ∨ k = 6 ∨ k = 7 ∨ k = 8 := by omega
  rcases this with rfl | rfl | rfl | rfl | rfl | rfl | rfl | rfl | rfl
  · exact ⟨⟨1, by decide, by decide⟩, by decide⟩
  · exact ⟨⟨2, by decide, by decide⟩, by decide⟩
  · exact ⟨⟨3, by decide, by decide⟩, by decide⟩
  · exact ⟨⟨4, by decide, by decide⟩, by decide⟩
  · exact ⟨⟨5, by decide, by decide⟩, by decide⟩
  · exact ⟨⟨6, by decide, by decide⟩, by decide⟩
  · exact ⟨⟨7, by decide, by decide⟩, by decide⟩
  · exact ⟨⟨8, by decide, by decide⟩, by decide⟩
  · omega
def addedR (o a d t : Int) (H H1 : hR) : Prop := (∀ t' x f : Int, ¬ t' = 4 → ¬ t' = 5 → H1.1 t' x f = H.1 t' x f) ∧ H1.2 = H.2 ∧ H1.1 4 2 0 = H.1 4 2 0 + 1 ∧ (H.1 4 2 0 + 1 ≤ H1.1 4 1 0 ∧ roomOK (H1.1 4 1 0)) ∧ (∀ c i : Int, i < H.1 4 2 0 → H1.1 5 c i = H.1 5 c i) ∧ H1.1 5 0 (H.1 4 2 0) = o ∧ H1.1 5 1 (H.1 4 2 0) = a ∧ H1.1 5 2 (H.1 4 2 0) = d ∧ H1.1 5 3 (H.1 4 2 0) = t ∧ H1.1 5 4 (H.1 4 2 0) = 0
theorem ec_add39 {o a d t s : Int} {H : hR} (hs : H.1 4 2 0 = s) (h0 : 0 ≤ s ∧ s < H.1 4 1 0) (hr : roomOK (H.1 4 1 0)) : ∃ H1, fX5_add_b39 o a d t H = some (1, H1) ∧ addedR o a d t H H1 := by
  have hr' := roomOK_rng hr
  refine ⟨hS (hS (hS (hS (hS (hS H 5 0 s o) 5 1 s a) 5 2 s d) 5 3 s t) 5 4 s 0) 4 2 0 (s + 1), po_eq ?_, ?_⟩
  · unfold fX5_add_b39
    rw [hs]
    refine po_gd (by omega) (po_bnd ?_)
    rw [hS_n H (show ¬ ((4 : Int) = 5 ∧ (2 : Int) = 0 ∧ (0 : Int) = s) by omega), hs, hS_n H (show ¬ ((4 : Int) = 5 ∧ (1 : Int) = 0 ∧ (0 : Int) = s) by omega)]
    refine po_gd (by omega) (po_bnd ?_)
    rw [hS_n _ (show ¬ ((4 : Int) = 5 ∧ (2 : Int) = 1 ∧ (0 : Int) = s) by omega), hS_n _ (show ¬ ((4 : Int) = 5 ∧ (1 : Int) = 1 ∧ (0 : Int) = s) by omega), hS_n H (show ¬ ((4 : Int) = 5 ∧ (2 : Int) = 0 ∧ (0 : Int) = s) by omega), hs, hS_n H (show ¬ ((4 : Int) = 5 ∧ (1 : Int) = 0 ∧ (0 : Int) = s) by omega)]
    have e : ∀ (G : hR) (c v : Int), G.1 4 2 0 = s → (hS G 5 c s v).1 4 2 0 = s := fun G c v h => (hS_n G (by omega)).trans h
    have e1 : ∀ (G : hR) (c v : Int), G.1 4 1 0 = H.1 4 1 0 → (hS G 5 c s v).1 4 1 0 = H.1 4 1 0 := fun G c v h => (hS_n G (by omega)).trans h
    have a1 := e (hS H 5 0 s o) 1 a (e H 0 o hs)
    have a2 := e _ 2 d a1
    have a3 := e _ 3 t a2
    have a4 := e _ 4 0 a3
    have b1 := e1 (hS H 5 0 s o) 1 a (e1 H 0 o rfl)
    have b2 := e1 _ 2 d b1
    have b3 := e1 _ 3 t b2
    refine po_gd (by omega) (po_bnd ?_)
    rw [a2, b2]
    refine po_gd (by omega) (po_bnd ?_)
    rw [a3, b3]
    refine po_gd (by omega) (po_bnd ?_)
    rw [a4]
    exact po_bnd (po_some rfl)
  · unfold addedR
    rw [hs]
    refine ⟨fun t' x f h4 h5 => ?_, rfl, hS_p _ _ _ _ _, ⟨?_, ?_⟩, fun c i hi => ?_, ?_, ?_, ?_, ?_, ?_⟩
    · rw [hS_n _ (by omega), hS_n _ (by omega), hS_n _ (by omega), hS_n _ (by omega), hS_n _ (by omega), hS_n _ (by omega)]
    · rw [hS_n _ (by omega), hS_n _ (by omega), hS_n _ (by omega), hS_n _ (by omega), hS_n _ (by omega), hS_n _ (by omega)]
      omega
    · rw [hS_n _ (by omega), hS_n _ (by omega), hS_n _ (by omega), hS_n _ (by omega), hS_n _ (by omega), hS_n _ (by omega)]
      exact hr
    · rw [hS_n _ (by omega), hS_n _ (by omega), hS_n _ (by omega), hS_n _ (by omega), hS_n _ (by omega), hS_n _ (by omega)]
    · rw [hS_n _ (by omega), hS_n _ (by omega), hS_n _ (by omega), hS_n _ (by omega), hS_n _ (by omega), hS_p]
    · rw [hS_n _ (by omega), hS_n _ (by omega), hS_n _ (by omega), hS_n _ (by omega), hS_p]
    · rw [hS_n _ (by omega), hS_n _ (by omega), hS_n _ (by omega), hS_p]
    · rw [hS_n _ (by omega), hS_n _ (by omega), hS_p]
    · rw [hS_n _ (by omega), hS_p]
theorem ec_add {o a d t : Int} {H : hR} (hk : okN H) (h8 : H.1 4 2 0 ≤ 8399) : ∃ H1, fX5_add o a d t H = some (1, H1) ∧ addedR o a d t H H1 := by
  unfold okN at hk
  obtain ⟨k1, k2, k3, k4, k5⟩ := hk
  have hr := roomOK_rng k5
  by_cases g : H.1 4 2 0 < H.1 4 1 0
  · obtain ⟨H1, e1, e2⟩ := ec_add39 (o := o) (a := a) (d := d) (t := t) (H := H) rfl ⟨k3.1, g⟩ k5
    refine ⟨H1, po_eq ?_, e2⟩
    unfold fX5_add
    exact po_gd (by omega) (po_ift (by omega) (po_gd (by omega) (po_ift g (po_of e1 rfl))))
  · obtain ⟨d1, d2⟩ := roomOK_dbl k5 (by omega)
    have g1 : (hGrow H (2 * H.1 4 1 0)).1 4 1 0 = 2 * H.1 4 1 0 := by simp [hGrow]
    have gx : ∀ t' x f : Int, ¬ (t' = 4 ∧ x = 1 ∧ f = 0) → ¬ (t' = 5 ∧ H.1 4 1 0 ≤ f) → (hGrow H (2 * H.1 4 1 0)).1 t' x f = H.1 t' x f := fun t' x f a b => (if_neg a).trans (if_neg b)
    have g2 : (hGrow H (2 * H.1 4 1 0)).1 4 2 0 = H.1 4 2 0 := gx _ _ _ (by omega) (by omega)
    obtain ⟨H1, e1, ⟨q1, q2, q3, q4, q5, q6⟩⟩ := ec_add39 (o := o) (a := a) (d := d) (t := t) (H := hGrow H (2 * H.1 4 1 0)) g2 ⟨k3.1, by omega⟩ (by rw [g1]; exact d1)
    rw [g2] at q3 q4 q5 q6
    refine ⟨H1, po_eq ?_, ⟨fun t' x f h4 h5 => (q1 t' x f h4 h5).trans (gx _ _ _ (by omega) (by omega)), q2, q3, q4, fun c i hi => (q5 c i hi).trans (gx _ _ _ (by omega) (by omega)), q6⟩⟩
    have em : fX5_makeRoom (min (2 * H.1 4 1 0) 17520) H = some ((), hGrow H (2 * H.1 4 1 0)) := by
      rw [show min (2 * H.1 4 1 0) 17520 = 2 * H.1 4 1 0 by omega]
      unfold fX5_makeRoom
      rw [gd_pos (by omega), if_neg (by omega), gd_pos (by omega)]
    unfold fX5_add
    exact po_gd (by omega) (po_ift (by omega) (po_gd (by omega) (po_iff g (po_gd (by omega) (po_cle em (po_of e1 rfl))))))
/-! an order's next occurrence is taken -/
def leftN (H : hR) (o : Int) : Int := if H.1 3 o 9 = 0 then H.1 3 o 10 - 1 else H.1 3 o 10
def skipR (o k : Int) (H H2 : hR) : Prop := (∀ t a f : Int, ¬ (t = 3 ∧ a = o ∧ (f = 10 ∨ f = 14 ∨ f = 16 ∨ f = 17 ∨ f = 18 ∨ f = 19)) → H2.1 t a f = H.1 t a f) ∧ H2.2 = H.2 ∧ H2.1 3 o 10 = leftN H o ∧ H2.1 3 o 14 = H.1 3 o 14 + 1 ∧ H2.1 3 o 16 = k + 1
def takeR (o k d t : Int) (H H2 : hR) : Prop := (∀ t a f : Int, ¬ (t = 3 ∧ a = o ∧ (f = 10 ∨ f = 15 ∨ f = 16 ∨ f = 17 ∨ f = 18 ∨ f = 19)) → ¬ (t = 2 ∧ a = H.1 3 o 0 ∧ f = 11) → ¬ t = 4 → ¬ t = 5 → H2.1 t a f = H.1 t a f) ∧ H2.2 = H.2 ∧ H2.1 3 o 10 = leftN H o ∧ H2.1 3 o 15 = H.1 3 o 15 + 1 ∧ H2.1 3 o 16 = k + 1 ∧ H2.1 2 (H.1 3 o 0) 11 = H.1 2 (H.1 3 o 0) 11 + H.1 3 o 2 ∧ H2.1 4 2 0 = H.1 4 2 0 + 1 ∧ (H.1 4 2 0 + 1 ≤ H2.1 4 1 0 ∧ roomOK (H2.1 4 1 0)) ∧ (∀ c i : Int, i < H.1 4 2 0 → H2.1 5 c i = H.1 5 c i) ∧ H2.1 5 0 (H.1 4 2 0) = o ∧ H2.1 5 1 (H.1 4 2 0) = H.1 3 o 2 ∧ H2.1 5 2 (H.1 4 2 0) = d ∧ H2.1 5 3 (H.1 4 2 0) = t ∧ H2.1 5 4 (H.1 4 2 0) = 0
theorem ec_take {b : Int → Bool} {H : hR} {o k d t : Int} {α : Type} {kk : hR → Option α} {R : α → Prop} (hb : calC H b) (hk : okOrd H o) (hp : okP H o) (hN : okN H) (ho : 0 ≤ o ∧ o < H.1 0 5 0) (h8 : H.1 4 2 0 ≤ 8399) (h0 : H.1 0 6 0 = t) (ht : 0 ≤ t ∧ t ≤ 1094) (h17 : H.1 3 o 17 = k) (h18 : H.1 3 o 18 = d) (hkr : 0 ≤ k ∧ k ≤ 1094) (hd : 0 ≤ d ∧ d ≤ 1094)
    (hs : (H.1 3 o 7 = 4 ∧ b d = false) → ∀ H2, skipR o k H H2 → aimed b H2 o → po (kk H2) R) (ha : ¬ (H.1 3 o 7 = 4 ∧ b d = false) → ∀ H2, takeR o k d t H H2 → aimed b H2 o → po (kk H2) R) :
    po (cl (fX2_takeNextOccurrence o H) fun _ H56 => bnd (hS H56 3 o 16 ((H56.1 3 o 17) + 1)) fun H66 => cl (fX3_aim o H66) fun _ H74 => kk H74) R := by
  have hN' := hN
  unfold okN at hN
  have hp' := hp
  unfold okP at hp'
  have hk' := hk
  unfold okOrd at hk'
  -- the left
  have hl : ∃ HL, fX2_takeNextOccurrence o H = fX2_takeNextOccurrence_b24 o o HL ∧ (∀ t a f : Int, ¬ (t = 3 ∧ a = o ∧ f = 10) → HL.1 t a f = H.1 t a f) ∧ HL.2 = H.2 ∧ HL.1 3 o 10 = leftN H o := by
    unfold fX2_takeNextOccurrence
    by_cases g : H.1 3 o 9 = 0
    · refine ⟨hS H 3 o 10 (H.1 3 o 10 - 1), ?_, fun t a f q => hS_n H q, rfl, ?_⟩
      · rw [gd_pos (by omega), gd_pos (by omega), if_pos g, bnd_eq]
      · rw [hS_p]
        unfold leftN
        rw [if_pos g]
    · refine ⟨H, ?_, fun _ _ _ _ => rfl, rfl, ?_⟩
      · rw [gd_pos (by omega), gd_pos (by omega), if_neg g]
      · unfold leftN
        rw [if_neg g]
  obtain ⟨HL, l1, l2, l3, l4⟩ := hl
  -- behind it: from, aim
  have fin : ∀ H1 : hR, (∀ f : Int, 3 ≤ f ∧ f ≤ 7 → H1.1 3 o f = H.1 3 o f) → (∀ a : Int, H1.1 6 a 0 = H.1 6 a 0) → H1.1 1 2 0 = H.1 1 2 0 → H1.1 3 o 17 = k → (∀ H2, onlyNext o H1 H2 → H2.1 3 o 16 = k + 1 → aimed b H2 o → po (kk H2) R) →
      po (bnd (hS H1 3 o 16 ((H1.1 3 o 17) + 1)) fun H66 => cl (fX3_aim o H66) fun _ H74 => kk H74) R := by
    intro H1 e1 e2 e3 e4 hq
    rw [e4]
    have b1 : calC (hS H1 3 o 16 (k + 1)) b := hb.fr (fun a => by rw [hS_n H1 (by omega)]; exact e2 a) (by rw [hS_n H1 (by omega)]; exact e3)
    have k1 : okOrd (hS H1 3 o 16 (k + 1)) o := hk.fr (fun f hf => by rw [hS_n H1 (by omega)]; exact e1 f hf)
    obtain ⟨⟨u, H2⟩, a1, a2, a3⟩ := ec_aim (o := o) b1 k1 (by rw [hS_p]; omega)
    refine po_bnd (po_cle a1 (hq H2 ⟨fun t a f q => (a2.1 t a f (by omega)).trans (hS_n H1 (by omega)), a2.2⟩ ((a2.1 3 o 16 (by omega)).trans (hS_p _ _ _ _ _)) a3))
  have f2 : HL.1 3 o 2 = H.1 3 o 2 := l2 _ _ _ (by omega)
  have f18 : HL.1 3 o 18 = d := (l2 _ _ _ (by omega)).trans h18
  have f7 : HL.1 3 o 7 = H.1 3 o 7 := l2 _ _ _ (by omega)
  have bL : calC HL b := hb.fr (fun a => l2 _ _ _ (by omega)) (l2 _ _ _ (by omega))
  have nL : okN HL := hN'.fr (l2 _ _ _ (by omega)) (l2 _ _ _ (by omega)) (l2 _ _ _ (by omega)) (l2 _ _ _ (by omega))
  have e42 : HL.1 4 2 0 = H.1 4 2 0 := l2 _ _ _ (by omega)
  have e06 : HL.1 0 6 0 = t := (l2 _ _ _ (by omega)).trans h0
  have e30 : HL.1 3 o 0 = H.1 3 o 0 := l2 _ _ _ (by omega)
  rw [l1]
  -- taken
  have tk : ¬ (H.1 3 o 7 = 4 ∧ b d = false) → po (cl (fX2_takeNextOccurrence_b57 o o HL) fun _ H56 => bnd (hS H56 3 o 16 ((H56.1 3 o 17) + 1)) fun H66 => cl (fX3_aim o H66) fun _ H74 => kk H74) R := by
    intro g
    obtain ⟨H1, a1, a2, a3, a4, a5, a6, a7, a8, a9, a10, a11⟩ := ec_add (o := o) (a := H.1 3 o 2) (d := d) (t := t) nL (by omega)
    rw [e42] at a4 a5 a6 a7 a8 a9 a10 a11
    have g30 : H1.1 3 o 0 = H.1 3 o 0 := (a2 _ _ _ (by omega) (by omega)).trans e30
    have g32 : H1.1 3 o 2 = H.1 3 o 2 := (a2 _ _ _ (by omega) (by omega)).trans f2
    have g15 : H1.1 3 o 15 = H.1 3 o 15 := (a2 _ _ _ (by omega) (by omega)).trans (l2 _ _ _ (by omega))
    have g11 : H1.1 2 (H.1 3 o 0) 11 = H.1 2 (H.1 3 o 0) 11 := (a2 _ _ _ (by omega) (by omega)).trans (l2 _ _ _ (by omega))
    have e57 : fX2_takeNextOccurrence_b57 o o HL = some ((), hS (hS H1 3 o 15 (H.1 3 o 15 + 1)) 2 (H.1 3 o 0) 11 (H.1 2 (H.1 3 o 0) 11 + H.1 3 o 2)) := by
      refine po_eq ?_
      unfold fX2_takeNextOccurrence_b57
      rw [f2, f18, e06]
      refine po_cle a1 (po_gd (by omega) (po_iff (by omega) (po_bnd ?_)))
      rw [g15, hS_n H1 (show ¬ ((3 : Int) = 3 ∧ o = o ∧ (0 : Int) = 15) by omega), hS_n H1 (show ¬ ((3 : Int) = 3 ∧ o = o ∧ (2 : Int) = 15) by omega), g30, g32, hS_n H1 (show ¬ ((2 : Int) = 3 ∧ H.1 3 o 0 = o ∧ (11 : Int) = 15) by omega), g11]
      exact po_gd (by omega) (po_gd (by omega) (po_bnd (po_some rfl)))
    have c : ∀ t a f : Int, ¬ (t = 3 ∧ a = o ∧ f = 15) → ¬ (t = 2 ∧ a = H.1 3 o 0 ∧ f = 11) → (hS (hS H1 3 o 15 (H.1 3 o 15 + 1)) 2 (H.1 3 o 0) 11 (H.1 2 (H.1 3 o 0) 11 + H.1 3 o 2)).1 t a f = H1.1 t a f := fun t a f q1 q2 => by rw [hS_n _ q2, hS_n _ q1]
    refine po_cle e57 (fin _ (fun f hf => ?_) (fun a => ?_) ?_ ?_ (fun H2 n1 n2 n3 => ha g H2 ⟨fun t a f q1 q2 q3 q4 => ?_, ?_, ?_, ?_, n2, ?_, ?_, ?_, fun c' i hi => ?_, ?_, ?_, ?_, ?_, ?_⟩ n3))
    · rw [c _ _ _ (by omega) (by omega), a2 _ _ _ (by omega) (by omega)]
      exact l2 _ _ _ (by omega)
    · rw [c _ _ _ (by omega) (by omega), a2 _ _ _ (by omega) (by omega)]
      exact l2 _ _ _ (by omega)
    · rw [c _ _ _ (by omega) (by omega), a2 _ _ _ (by omega) (by omega)]
      exact l2 _ _ _ (by omega)
    · rw [c _ _ _ (by omega) (by omega), a2 _ _ _ (by omega) (by omega), l2 _ _ _ (by omega)]
      exact h17
    · rw [n1.1 t a f (by omega), c _ _ _ (by omega) (by omega), a2 _ _ _ q3 q4]
      exact l2 _ _ _ (by omega)
    · rw [n1.2]
      exact a3.trans l3
    · rw [n1.1 3 o 10 (by omega), c _ _ _ (by omega) (by omega), a2 _ _ _ (by omega) (by omega)]
      exact l4
    · rw [n1.1 3 o 15 (by omega), hS_n _ (by omega), hS_p]
    · rw [n1.1 _ _ _ (by omega), hS_p]
    · rw [n1.1 _ _ _ (by omega), c _ _ _ (by omega) (by omega)]
      exact a4
    · rw [n1.1 4 1 0 (by omega), c _ _ _ (by omega) (by omega)]
      exact a5
    · rw [n1.1 _ _ _ (by omega), c _ _ _ (by omega) (by omega), a6 c' i hi]
      exact l2 _ _ _ (by omega)
    · rw [n1.1 _ _ _ (by omega), c _ _ _ (by omega) (by omega)]
      exact a7
    · rw [n1.1 _ _ _ (by omega), c _ _ _ (by omega) (by omega)]
      exact a8
    · rw [n1.1 _ _ _ (by omega), c _ _ _ (by omega) (by omega)]
      exact a9
    · rw [n1.1 _ _ _ (by omega), c _ _ _ (by omega) (by omega)]
      exact a10
    · rw [n1.1 _ _ _ (by omega), c _ _ _ (by omega) (by omega)]
      exact a11
  by_cases g : H.1 3 o 7 = 4
  · have hz := bL d hd
    have e24 : fX2_takeNextOccurrence_b24 o o HL = if bI (b d) = 0 then some ((), hS HL 3 o 14 (HL.1 3 o 14 + 1)) else fX2_takeNextOccurrence_b57 o o HL := by
      have := bI_rng (b d)
      unfold fX2_takeNextOccurrence_b24
      rw [f7, g, gd_pos (by omega), if_pos rfl, f18, hz, cr_some, gd_pos (by omega)]
      rfl
    rw [e24]
    cases hbd : b d
    · rw [bI_f rfl, if_pos rfl]
      have c : ∀ t a f : Int, ¬ (t = 3 ∧ a = o ∧ f = 14) → (hS HL 3 o 14 (HL.1 3 o 14 + 1)).1 t a f = HL.1 t a f := fun t a f q => hS_n HL q
      refine po_cls (fin _ (fun f hf => ?_) (fun a => ?_) ?_ ?_ (fun H2 n1 n2 n3 => hs ⟨g, hbd⟩ H2 ⟨fun t a f q => ?_, ?_, ?_, ?_, n2⟩ n3))
      · rw [c _ _ _ (by omega)]
        exact l2 _ _ _ (by omega)
      · rw [c _ _ _ (by omega)]
        exact l2 _ _ _ (by omega)
      · rw [c _ _ _ (by omega)]
        exact l2 _ _ _ (by omega)
      · rw [c _ _ _ (by omega), l2 _ _ _ (by omega)]
        exact h17
      · rw [n1.1 t a f (by omega), c _ _ _ (by omega)]
        exact l2 _ _ _ (by omega)
      · rw [n1.2]
        exact l3
      · rw [n1.1 3 o 10 (by omega), c _ _ _ (by omega)]
        exact l4
      · rw [n1.1 3 o 14 (by omega), hS_p, l2 _ _ _ (by omega)]
    · rw [bI_t rfl, if_neg (by omega)]
      exact tk (fun q => by rw [hbd] at q; exact absurd q.2 (by decide))
  · have e24 : fX2_takeNextOccurrence_b24 o o HL = fX2_takeNextOccurrence_b57 o o HL := by
      unfold fX2_takeNextOccurrence_b24
      rw [f7, gd_pos (by omega), if_neg g]
    rw [e24]
    exact tk (fun q => g q.1)
end
section
/-! ===== an order's occurrences come due, in step ===== -/
theorem cB_fr {H H' : hR} (h1 : H'.1 1 2 0 = H.1 1 2 0) (h6 : ∀ a : Int, H'.1 6 a 0 = H.1 6 a 0) : cB H' = cB H := by
  funext d
  unfold cB biz holB
  rw [h1, h6]
theorem aimed.fr {b : Int → Bool} {H H' : hR} {o : Int} (h : aimed b H o) (hH : ∀ f : Int, H'.1 3 o f = H.1 3 o f) : aimed b H' o := by
  unfold aimed at *
  rw [hH 16, hH 17, hH 18, hH 19, ixF_fr (H := H) (fun f _ => hH f), nomO_fr (H := H) (fun f _ => hH f), dtF_fr (H := H) (fun f _ => hH f)]
  exact h
def skipM (o k L : Int) (m m2 : mR) : Prop := (∀ t j : Int, ¬ (t = 0 ∧ (j = 121 + 16 * o + 13 ∨ j = 7 ∨ j = 121 + 16 * o + 9 ∨ j = 121 + 16 * o + 14)) → m2.1 t j = m.1 t j) ∧ m2.2 = m.2 ∧ m2.1 0 (121 + 16 * o + 13) = m.1 0 (121 + 16 * o + 13) + 1 ∧ m2.1 0 7 = m.1 0 7 + 1 ∧ m2.1 0 (121 + 16 * o + 9) = L ∧ m2.1 0 (121 + 16 * o + 14) = k + 1
def takeM (o k L p : Int) (m m2 : mR) : Prop := (∀ t j : Int, ¬ (t = 0 ∧ (j = 4 ∨ j = 121 + 16 * o + 9 ∨ j = 121 + 16 * o + 14)) → ¬ (t = 1 ∧ j = m.1 0 4) → m2.1 t j = m.1 t j) ∧ m2.2 = m.2 ∧ m2.1 0 4 = m.1 0 4 + 1 ∧ m2.1 1 (m.1 0 4) = p ∧ m2.1 0 (121 + 16 * o + 9) = L ∧ m2.1 0 (121 + 16 * o + 14) = k + 1
theorem Sim.skip {T : Int} {H H2 : hR} {m m2 : mR} {o k : Int} (h : Sim T H m) (ho : 0 ≤ o ∧ o < H.1 0 5 0) (hst : H.1 3 o 11 = 0) (hs : skipR o k H H2) (hm : skipM o k (leftN H o) m m2) (hk : H.1 3 o 16 ≤ k ∧ k ≤ 1094) (hl : 0 ≤ leftN H o ∧ leftN H o ≤ 99) : Sim T H2 m2 := by
  obtain ⟨s1, s2, s3, s4, s5⟩ := hs
  obtain ⟨n1, n2, n3, n4, n5, n6⟩ := hm
  obtain ⟨⟨h1, h2, h3, h4, h5⟩, ht, hok⟩ := h
  have e1 := h1.2.1
  have e2 := h1.2.2.1
  have e4 := h1.2.2.2.2.1
  have k1 := hok.1
  unfold okN at k1
  obtain ⟨w1, w2, w3⟩ := hok.2.2.2.1 o ho
  have s30 : ∀ t x y : Int, ¬ (t = 3 ∧ x = o) → H2.1 t x y = H.1 t x y := fun t x y q => s1 t x y (by omega)
  refine ⟨⟨h1.fr (fun t a q => s1 _ _ _ (by omega)) (fun j q => n1 _ _ (by omega)), h2.fr (fun a => s1 _ _ _ (by omega)) (fun j q => n1 _ _ (by omega)), h3.fr (fun a f q => s1 _ _ _ (by omega)) (fun a => by rw [s2]) (fun j q => n1 _ _ (by omega)) (fun a => by rw [n2]) (by omega), ?_, ?_⟩, ?_, hok.ord (Int.le_refl _) ho s30 s2 (s1 _ _ _ (by omega)) (s1 _ _ _ (by omega)) (w1.fr (fun f hf => s1 _ _ _ (by omega))) ?_ ?_⟩
  · intro i hi f hf
    rw [n1 0 2 (by omega)] at hi
    by_cases g : i = o
    · subst g
      by_cases c1 : f = 13
      · subst c1
        rw [n3, h4 i hi 13 hf]
        show H.1 3 i 14 + 1 = H2.1 3 i 14
        rw [s4]
      · by_cases c2 : f = 9
        · subst c2
          rw [n5]
          show _ = if H2.1 3 i 11 = 2 then 0 else H2.1 3 i 10
          rw [s1 3 i 11 (by omega), hst, if_neg (by omega), s3]
        · by_cases c3 : f = 14
          · subst c3
            rw [n6]
            show _ = H2.1 3 i 16
            rw [s5]
          · rw [n1 _ _ (by omega), h4 i hi f hf]
            exact (ordN_at (fun f' q => s1 3 i f' (by omega))).symm
    · rw [n1 _ _ (by omega), h4 i hi f hf, ordN_fr (H := H) (fun f' _ => s1 3 i f' (by omega)) hf]
  · rw [n1 0 4 (by omega)]
    exact h5.fr (fun c i q => s1 _ _ _ (by omega)) (fun i q => n1 _ _ (by omega)) (Int.le_refl _)
  · obtain ⟨t5, t6, t7⟩ := ht
    have e5 : H2.1 0 5 0 = H.1 0 5 0 := s1 _ _ _ (by omega)
    refine ⟨?_, ?_, ?_⟩
    · rw [n1 _ _ (by omega), e5, sumF_fr (H := H) _ (fun i _ => s1 3 i 12 (by omega))]
      exact t5
    · rw [n1 _ _ (by omega), e5, sumF_fr (H := H) _ (fun i _ => s1 3 i 13 (by omega))]
      exact t6
    · rw [n4, e5, sumF_up (H := H) (f := 14) (o := o) (d := 1) ho.1 s4 (fun i hi => s1 3 i 14 (by omega)), if_pos (by omega), t7]
  · unfold okP at *
    rw [s1 3 o 0 (by omega), s1 3 o 1 (by omega), s1 3 o 2 (by omega), s1 3 o 8 (by omega), s1 3 o 9 (by omega), s1 3 o 11 (by omega), s1 0 4 0 (by omega), s3]
    omega
  · unfold okC at *
    rw [s1 3 o 12 (by omega), s1 3 o 13 (by omega), s1 3 o 15 (by omega), s4, s5]
    omega
theorem Sim.take {T : Int} {H H2 : hR} {m m2 : mR} {o k d t : Int} (h : Sim T H m) (ho : 0 ≤ o ∧ o < H.1 0 5 0) (hst : H.1 3 o 11 = 0) (hs : takeR o k d t H H2) (hm : takeM o k (leftN H o) (pkW o (H.1 3 o 2) d t 0 0) m m2) (hk : H.1 3 o 16 ≤ k ∧ k ≤ 1094) (hl : 0 ≤ leftN H o ∧ leftN H o ≤ 99) (hd : 0 ≤ d ∧ d ≤ 1094) (ht : 0 ≤ t ∧ t ≤ 1094) (h8 : H.1 4 2 0 ≤ 8399) (hD : ∀ i : Int, 0 ≤ i ∧ i < H.1 4 2 0 → H.1 5 3 i < t ∨ (H.1 5 3 i = t ∧ H.1 5 0 i ≤ o)) : Sim T H2 m2 := by
  obtain ⟨s1, s2, s3, s4, s5, s6, s7, s8, s9, s10, s11, s12, s13, s14⟩ := hs
  obtain ⟨n1, n2, n3, n4, n5, n6⟩ := hm
  obtain ⟨⟨h1, h2, h3, h4, h5⟩, hto, k1, k2, k3, k4, k5, k6, k7, k8⟩ := h
  have e1 := h1.2.1
  have e2 := h1.2.2.1
  have e4 := h1.2.2.2.2.1
  have k1' := k1
  unfold okN at k1'
  obtain ⟨w1, w2, w3⟩ := k4 o ho
  have w2' := w2
  unfold okP at w2'
  have q5 : H2.1 0 5 0 = H.1 0 5 0 := s1 _ _ _ (by omega) (by omega) (by omega) (by omega)
  have q4 : H2.1 0 4 0 = H.1 0 4 0 := s1 _ _ _ (by omega) (by omega) (by omega) (by omega)
  have q3 : ∀ i f : Int, ¬ (i = o ∧ (f = 10 ∨ f = 15 ∨ f = 16 ∨ f = 17 ∨ f = 18 ∨ f = 19)) → H2.1 3 i f = H.1 3 i f := fun i f q => s1 _ _ _ (by omega) (by omega) (by omega) (by omega)
  have q2 : ∀ a f : Int, ¬ (a = H.1 3 o 0 ∧ f = 11) → H2.1 2 a f = H.1 2 a f := fun a f q => s1 _ _ _ (by omega) (by omega) (by omega) (by omega)
  have q0 : ∀ t a f : Int, t = 0 ∨ t = 1 ∨ t = 6 → H2.1 t a f = H.1 t a f := fun t a f q => s1 _ _ _ (by omega) (by omega) (by omega) (by omega)
  obtain ⟨g1, g2, g3, g4, g5, g6, g7, g8, g9, g10⟩ := h1
  refine ⟨⟨⟨?_, ?_, ?_, ?_, ?_, ?_, ?_, ?_, ?_, ?_⟩, h2.fr (fun a => q0 _ _ _ (by omega)) (fun j q => n1 _ _ (by omega) (by omega)), h3.fr (fun a f q => q2 _ _ (by omega)) (fun a => by rw [s2]) (fun j q => n1 _ _ (by omega) (by omega)) (fun a => by rw [n2]) (by omega), ?_, ?_⟩, hto.fr q5 (fun i f q => q3 _ _ (by omega)) (fun j q => n1 _ _ (by omega) (by omega)), ?_, k2.fr (fun t a q => q0 _ _ _ (by omega)), k3.fr q4 (fun a f q => q2 _ _ (by omega)), ?_, ?_, ?_, k7.fr (Int.le_refl _) q4 (q0 _ _ _ (by omega)) (fun a f q => q2 _ _ (by omega)), k8.fr q4 (q0 _ _ _ (by omega)) (fun a => q2 _ _ (by omega)) s2⟩
  · rw [n1 _ _ (by omega) (by omega), q0 _ _ _ (by omega)]; exact g1
  · rw [n1 _ _ (by omega) (by omega), q0 _ _ _ (by omega)]; exact g2
  · rw [n1 _ _ (by omega) (by omega), q0 _ _ _ (by omega)]; exact g3
  · rw [n1 _ _ (by omega) (by omega), q0 _ _ _ (by omega)]; exact g4
  · rw [n3, s7, g5]
  · rw [n1 _ _ (by omega) (by omega), q0 _ _ _ (by omega)]; exact g6
  · rw [n1 _ _ (by omega) (by omega), q0 _ _ _ (by omega)]; exact g7
  · rw [n1 _ _ (by omega) (by omega), q0 _ _ _ (by omega)]; exact g8
  · rw [n1 _ _ (by omega) (by omega), q0 _ _ _ (by omega)]; exact g9
  · rw [n1 _ _ (by omega) (by omega), q0 _ _ _ (by omega)]; exact g10
  · intro i hi f hf
    rw [n1 0 2 (by omega) (by omega)] at hi
    by_cases g : i = o
    · subst g
      by_cases c2 : f = 9
      · subst c2
        rw [n5]
        show _ = if H2.1 3 i 11 = 2 then 0 else H2.1 3 i 10
        rw [q3 i 11 (by omega), hst, if_neg (by omega), s3]
      · by_cases c3 : f = 14
        · subst c3
          rw [n6]
          show _ = H2.1 3 i 16
          rw [s5]
        · rw [n1 _ _ (by omega) (by omega), h4 i hi f hf]
          exact (ordN_at (fun f' q => q3 i f' (by omega))).symm
    · rw [n1 _ _ (by omega) (by omega), h4 i hi f hf, ordN_fr (H := H) (fun f' _ => q3 i f' (by omega)) hf]
  · intro i hi
    rw [n3] at hi
    by_cases g : i = m.1 0 4
    · subst g
      rw [n4, g5, s10, s11, s12, s13, s14]
    · rw [n1 _ _ (by omega) (by omega), s9 _ _ (by omega), s9 _ _ (by omega), s9 _ _ (by omega), s9 _ _ (by omega), s9 _ _ (by omega)]
      exact h5 i (by omega)
  · unfold okN
    rw [q4, q5, s7]
    exact ⟨k1'.1, k1'.2.1, by omega, s8⟩
  · intro i hi
    rw [q5] at hi
    obtain ⟨v1, v2, v3⟩ := k4 i hi
    refine ⟨v1.fr (fun f hf => q3 i f (by omega)), ?_, ?_⟩
    · by_cases g : i = o
      · subst g
        unfold okP at *
        rw [q3 i 0 (by omega), q3 i 1 (by omega), q3 i 2 (by omega), q3 i 8 (by omega), q3 i 9 (by omega), q3 i 11 (by omega), q4, s3]
        omega
      · unfold okP at *
        rw [q3 i 0 (by omega), q3 i 1 (by omega), q3 i 2 (by omega), q3 i 8 (by omega), q3 i 9 (by omega), q3 i 10 (by omega), q3 i 11 (by omega), q4]
        exact v2
    · by_cases g : i = o
      · subst g
        unfold okC at *
        rw [q3 i 12 (by omega), q3 i 13 (by omega), q3 i 14 (by omega), s4, s5]
        omega
      · unfold okC at *
        rw [q3 i 12 (by omega), q3 i 13 (by omega), q3 i 14 (by omega), q3 i 15 (by omega), q3 i 16 (by omega)]
        exact v3
  · refine ⟨fun i hi => ?_, fun i j hi hij hj => ?_⟩
    · rw [s7] at hi
      rw [q5]
      by_cases g : i = H.1 4 2 0
      · subst g
        rw [s10, s11, s12, s13, s14]
        omega
      · rw [s9 _ _ (by omega), s9 _ _ (by omega), s9 _ _ (by omega), s9 _ _ (by omega), s9 _ _ (by omega)]
        exact k5.1 i (by omega)
    · rw [s7] at hj
      rw [s9 3 i (by omega), s9 0 i (by omega)]
      by_cases g : j = H.1 4 2 0
      · subst g
        rw [s10, s13]
        exact hD i (by omega)
      · rw [s9 3 j (by omega), s9 0 j (by omega)]
        exact k5.2 i j hi hij (by omega)
  · have e : (H2.1 4 2 0).toNat = (H.1 4 2 0).toNat + 1 := by omega
    have e' : (((H.1 4 2 0).toNat : Nat) : Int) = H.1 4 2 0 := by omega
    refine ⟨fun a ha => ?_, fun i hi => ?_⟩
    · rw [q4] at ha
      rw [e, sumW_s, e', s10, s11, q3 o 0 (by omega), sumW_fr (H := H) _ (fun c i q => s9 c i (by omega)) (fun i q => q3 _ _ (by omega))]
      by_cases g : H.1 3 o 0 = a
      · rw [if_pos g, ← g, s6, k6.1 _ w2'.1]
      · rw [if_neg g, q2 a 11 (by omega), k6.1 a ha]
        omega
    · rw [q5] at hi
      rw [e, cntW_s, e', s10, cntW_fr (H := H) _ (fun i q => s9 0 i (by omega))]
      by_cases g : o = i
      · subst g
        rw [if_pos rfl, s4, k6.2 o hi]
      · rw [if_neg g, q3 i 15 (by omega), k6.2 i hi]
        omega
theorem nomO_36 {b : Int → Bool} {H : hR} {o k : Int} (h : okOrd H o) (hk : 0 ≤ k) (h3 : ¬ H.1 3 o 3 ≤ 1) (hn : ¬ nomO b H o k = -6) : k ≤ 35 := by
  obtain ⟨h1, h2, h3', h4, h5⟩ := h
  have h6 : k * 1 ≤ k * H.1 3 o 4 := Int.mul_le_mul_of_nonneg_left h2.1 hk
  have hm := mOf_in h4
  rcases nomP_mon (b := b) (fi := H.1 3 o 6) (ki := H.1 3 o 3) (p := k * H.1 3 o 4) (dm := H.1 3 o 5) (by omega) h4 (by omega) h3'.1 with q | q
  · exact absurd q.2 hn
  · omega
theorem okX.skip {t Z U : Int} {H H2 : hR} {o k : Int} {b : Int → Bool} (h : okX t Z U H) (hw : okW H) (ho : 0 ≤ o ∧ o < H.1 0 5 0) (hok : okOrd H o) (hst : H.1 3 o 11 = 0) (hs : skipR o k H H2) (hk : 0 ≤ H.1 3 o 16 ∧ H.1 3 o 16 ≤ k) (hn : ¬ nomO b H o k = -6) : okX t Z U H2 := by
  obtain ⟨s1, s2, s3, s4, s5⟩ := hs
  obtain ⟨h1, h2, h3⟩ := h
  have q3 : ∀ i f : Int, ¬ (i = o ∧ (f = 10 ∨ f = 14 ∨ f = 16 ∨ f = 17 ∨ f = 18 ∨ f = 19)) → H2.1 3 i f = H.1 3 i f := fun i f q => s1 _ _ _ (by omega)
  have e42 : H2.1 4 2 0 = H.1 4 2 0 := s1 _ _ _ (by omega)
  have e05 : H2.1 0 5 0 = H.1 0 5 0 := s1 _ _ _ (by omega)
  have q5 : ∀ c i : Int, H2.1 5 c i = H.1 5 c i := fun c i => s1 _ _ _ (by omega)
  have qK : ∀ i j : Int, nomK H2 i j = nomK H i j := fun i j => nomK_fr (fun f q => q3 _ _ (by omega)) j
  have hlt := nomK_lt hok (k := H.1 3 o 16) (j := k + 1) (by omega)
  refine ⟨fun i hi hk3 => ?_, fun i hi => ?_, fun i j a b' c d e => ?_⟩
  · rw [e42] at hi
    rw [q5, q3 _ 3 (by omega)] at hk3
    rw [q5, q5, q5, qK]
    have := h1 i hi hk3
    by_cases g : H.1 5 0 i = o
    · rw [g] at this ⊢
      rw [s5]
      omega
    · rw [q3 _ 16 (by omega)]
      exact this
  · rw [e05] at hi
    by_cases g : i = o
    · subst g
      rw [q3 i 3 (by omega), q3 i 11 (by omega), q3 i 9 (by omega), qK, s5, s3]
      obtain ⟨a1, a2, a3⟩ := h2 i hi
      refine ⟨fun c1 c2 => ?_, fun c1 => ?_, fun c1 => ?_⟩
      · have := a1 c1 c2
        omega
      · have := nomO_36 hok (by omega) c1 hn
        omega
      · unfold leftN
        rw [if_neg (by omega)]
        exact a3 c1
    · rw [q3 i 3 (by omega), q3 i 11 (by omega), q3 i 9 (by omega), q3 i 10 (by omega), q3 i 16 (by omega), qK]
      exact h2 i hi
  · rw [e42] at c
    rw [q5, q5] at d
    rw [q5, q3 _ 3 (by omega)] at e
    rw [q5, q5, q5]
    exact h3 i j a b' c d e
theorem okX.take {t Z U : Int} {H H2 : hR} {o k d : Int} {b : Int → Bool} (h : okX t Z U H) (hw : okW H) (hs0 : 0 ≤ H.1 4 2 0) (ho : 0 ≤ o ∧ o < H.1 0 5 0) (hok : okOrd H o) (hst : H.1 3 o 11 = 0) (hs : takeR o k d t H H2) (hk : 0 ≤ H.1 3 o 16 ∧ H.1 3 o 16 ≤ k) (hn : ¬ nomO b H o k = -6) (hd : H.1 3 o 3 ≤ 1 → k = H.1 3 o 16 ∧ d = nomK H o k ∧ (t < d → 5 * (d + 1 - t) + Z ≤ U)) (hZ : 0 ≤ Z ∧ Z + 5 ≤ U) : okX t Z U H2 := by
  obtain ⟨s1, s2, s3, s4, s5, s6, s7, s8, s9, s10, s11, s12, s13, s14⟩ := hs
  obtain ⟨h1, h2, h3⟩ := h
  have q3 : ∀ i f : Int, ¬ (i = o ∧ (f = 10 ∨ f = 15 ∨ f = 16 ∨ f = 17 ∨ f = 18 ∨ f = 19)) → H2.1 3 i f = H.1 3 i f := fun i f q => s1 _ _ _ (by omega) (by omega) (by omega) (by omega)
  have e05 : H2.1 0 5 0 = H.1 0 5 0 := s1 _ _ _ (by omega) (by omega) (by omega) (by omega)
  have qK : ∀ i j : Int, nomK H2 i j = nomK H i j := fun i j => nomK_fr (fun f q => q3 _ _ (by omega)) j
  have hlt := nomK_lt hok (k := H.1 3 o 16) (j := k + 1) (by omega)
  have hlt2 := nomK_lt hok (k := k) (j := k + 1) (by omega)
  refine ⟨fun i hi hk3 => ?_, fun i hi => ?_, fun i j a b' c e0 e => ?_⟩
  · rw [s7] at hi
    by_cases g : i = H.1 4 2 0
    · subst g
      rw [s10, q3 _ 3 (by omega)] at hk3
      rw [s10, s12, s14, s5, qK]
      obtain ⟨a1, a2, a3⟩ := hd hk3
      have := (h2 o ho).1 hk3 hst
      rw [← a1, ← a2] at this
      omega
    · rw [s9 0 i (by omega), q3 _ 3 (by omega)] at hk3
      rw [s9 0 i (by omega), s9 2 i (by omega), s9 4 i (by omega), qK]
      have := h1 i (by omega) hk3
      by_cases g2 : H.1 5 0 i = o
      · rw [g2] at this ⊢
        rw [s5]
        omega
      · rw [q3 _ 16 (by omega)]
        exact this
  · rw [e05] at hi
    by_cases g : i = o
    · subst g
      rw [q3 i 3 (by omega), q3 i 11 (by omega), q3 i 9 (by omega), qK, s5, s3]
      obtain ⟨a1, a2, a3⟩ := h2 i hi
      refine ⟨fun c1 c2 => ?_, fun c1 => ?_, fun c1 => ?_⟩
      · have := a1 c1 c2
        omega
      · have := nomO_36 hok (by omega) c1 hn
        omega
      · unfold leftN
        rw [if_neg (by omega)]
        exact a3 c1
    · rw [q3 i 3 (by omega), q3 i 11 (by omega), q3 i 9 (by omega), q3 i 10 (by omega), q3 i 16 (by omega), qK]
      exact h2 i hi
  · rw [s7] at c
    by_cases g : j = H.1 4 2 0
    · subst g
      rw [s12]
      rw [s10] at e0
      by_cases g2 : i = H.1 4 2 0
      · subst g2
        rw [s12, s14]
        omega
      · rw [s9 0 i (by omega)] at e0 e
        rw [s9 2 i (by omega), s9 4 i (by omega)]
        rw [e0, q3 _ 3 (by omega)] at e
        obtain ⟨a1, a2, a3⟩ := hd e
        have := h1 i (by omega) (by rw [e0]; exact e)
        rw [e0, ← a1, ← a2] at this
        by_cases g3 : t < d
        · have := a3 g3
          omega
        · omega
    · rw [s9 0 i (by omega), s9 0 j (by omega)] at e0
      rw [s9 0 i (by omega), q3 _ 3 (by omega)] at e
      rw [s9 2 i (by omega), s9 2 j (by omega), s9 4 i (by omega)]
      exact h3 i j a b' (by omega) e0 e
end
section
/-! ===== all of an order's occurrences of today, in step ===== -/
def hasB (H : hR) (o : Int) : Bool := decide (H.1 3 o 9 = 1 ∨ 0 < H.1 3 o 10)
theorem ec_has {H : hR} {o : Int} (hp : okP H o) : fX3_hasPaymentsLeft o H = some (bI (hasB H o)) := by
  unfold okP at hp
  refine po_eq ?_
  unfold fX3_hasPaymentsLeft hasB
  refine po_gd (by omega) (po_if (fun g => po_gd (by omega) (po_if (fun g2 => po_some ?_) (fun g2 => po_some ?_))) (fun g => po_some ?_))
  · rw [bI_f (decide_eq_false (by omega))]
  · rw [bI_t (decide_eq_true (by omega))]
  · rw [bI_t (decide_eq_true (by omega))]
theorem em_has {H : hR} {m : mR} {o : Int} (hp : okP H o) (ho : 0 ≤ o ∧ o < 16) (hc : corR H (m.1 0) o) (hst : ¬ H.1 3 o 11 = 2) : fX7_hasLeft o m = some (bI (hasB H o)) := by
  unfold okP at hp
  have c15 : m.1 0 (121 + 16 * o + 15) = H.1 3 o 9 := hc 15 (by omega)
  have c9 : m.1 0 (121 + 16 * o + 9) = if H.1 3 o 11 = 2 then 0 else H.1 3 o 10 := hc 9 (by omega)
  rw [if_neg hst] at c9
  refine po_eq ?_
  unfold fX7_hasLeft hasB
  refine po_cre (ev_ofO (by omega)) ?_
  rw [c15]
  refine po_gd (by omega) (po_if (fun g => po_some ?_) (fun g => po_cre (ev_ofO (by omega)) ?_))
  · rw [bI_t (decide_eq_true (by omega))]
  · rw [c9]
    refine po_gd (by omega) (po_if (fun g2 => po_some ?_) (fun g2 => po_some ?_))
    · rw [bI_f (decide_eq_false (by omega))]
    · rw [bI_t (decide_eq_true (by omega))]
theorem em_b154 {rec : Int → Int → mR → Option (Unit × mR)} {m : mR} {o k r e l : Int} (ho : 0 ≤ o ∧ o < 16) (hk : 0 ≤ k ∧ k ≤ 1094) (h15 : m.1 0 (121 + 16 * o + 15) = e) (h9 : m.1 0 (121 + 16 * o + 9) = l) (he : e = 0 ∨ e = 1) (hl : 0 ≤ l ∧ l ≤ 99) (hr : fX7_occurrence o (k + 1) (mS (mS m 0 (121 + 16 * o + 9) (if e = 1 then 0 else l - 1)) 0 (121 + 16 * o + 14) (k + 1)) = some r) : fX7_comesDue_b154 rec o k m = rec o r (mS (mS m 0 (121 + 16 * o + 9) (if e = 1 then 0 else l - 1)) 0 (121 + 16 * o + 14) (k + 1)) := by
  unfold fX7_comesDue_b154 fX7_comesDue_b182
  rw [ev_ofO (by omega), cr_some, h15, gd_pos (by omega)]
  rcases he with rfl | rfl
  · rw [if_neg (by omega)] at hr ⊢
    rw [ev_ofO (by omega), cr_some, h9, ev_becomes ho (by omega) (by omega), cl_some, ev_becomes ho (by omega) (by omega), cl_some, if_neg (by omega), hr, cr_some]
  · rw [if_pos rfl] at hr ⊢
    rw [ev_becomes ho (by omega) (by omega), cl_some, ev_becomes ho (by omega) (by omega), cl_some, if_pos rfl, hr, cr_some]
def dueF (o : Int) (H H' : hR) : Prop := (∀ t a f : Int, ¬ (t = 3 ∧ a = o ∧ ¬ (f ≤ 9)) → ¬ (t = 2 ∧ f = 11) → ¬ t = 4 → ¬ t = 5 → H'.1 t a f = H.1 t a f) ∧ H'.2 = H.2
def rowsF (m m' : mR) : Prop := (∀ t : Int, ¬ t = 0 → ¬ t = 1 → m'.1 t = m.1 t) ∧ m'.2 = m.2
def dueD (o t : Int) (H : hR) : Prop := ∀ i : Int, 0 ≤ i ∧ i < H.1 4 2 0 → H.1 5 3 i < t ∨ (H.1 5 3 i = t ∧ H.1 5 0 i ≤ o)
theorem ls_due {T C t Z U o : Int} {b : Int → Bool} {rec : Int → hR → Option (Unit × hR)} (hC : 0 ≤ C) (hU : U ≤ 57 + 5 * C) (hZ : 0 ≤ Z ∧ Z + 5 ≤ U) (ht : 0 ≤ t ∧ t ≤ 1094)
    (hrun : ∀ d : Int, t < d → d ≤ 1094 → (∀ j : Int, t < j → j ≤ d → b j = false) → 5 * (d + 1 - t) + Z ≤ U) :
    ∀ (n fC fM : Nat) (x3 : Int) (H : hR) (m : mR), (1096 - H.1 3 o 16).toNat = n → n < fC → n < fM → Sim T H m → cB H = b → H.1 0 6 0 = t → (0 ≤ o ∧ o < H.1 0 5 0) → C + H.1 0 5 0 ≤ 512 → H.1 3 o 11 = 0 → aimed b H o → 0 ≤ x3 → x3 ≤ H.1 3 o 16 → okX t Z U H → dueD o t H →
    ∃ H' m', fX2_makePaymentsDue_b29 rec fC o o x3 H = rec (o + 1) H' ∧ fX7_comesDue_b13 fM o (ocF b H o (H.1 3 o 16)) m = some ((), m') ∧ Sim T H' m' ∧ okX t Z U H' ∧ dueD o t H' ∧ dueF o H H' ∧ rowsF m m' ∧ aimed b H' o ∧ (H'.1 3 o 11 = 0 → t < H'.1 3 o 19 ∧ H'.1 3 o 19 ≤ 1094)
  | n, 0, _, _, _, _, _, h, _, _, _, _, _, _, _, _, _, _, _, _ => by omega
  | n, _ + 1, 0, _, _, _, _, _, h, _, _, _, _, _, _, _, _, _, _, _ => by omega
  | n, fC + 1, fM + 1, x3, H, m, hn, hfC, hfM, h, hb, h0, ho, hCo, hst, ha, hx0, hx1, hX, hD => by
    have k1 := h.2.2.1
    have k1' := k1
    unfold okN at k1'
    have ho16 : 0 ≤ o ∧ o < 16 := by omega
    obtain ⟨w1, w2, w3⟩ := h.2.2.2.2.2.1 o ho
    have w1' := w1
    unfold okOrd at w1'
    have w3' := w3
    unfold okC at w3'
    have w2' := w2
    unfold okP at w2'
    have hc := h.1.atO ho
    obtain ⟨b1, b2⟩ := cal_both h.1 h.2.2.2.1.2.1
    rw [hb] at b1 b2
    obtain ⟨a1, a2, a3⟩ := ha
    have hix := ixF_rng b H o (H.1 3 o 16)
    have hg := ixF_ge (b := b) (fr := H.1 3 o 16) w1 (by omega)
    have hnr := nomO_rng (b := b) (k := ixF b H o (H.1 3 o 16)) w1 (by omega)
    have hd := dtF_rng (b := b) (k := ixF b H o (H.1 3 o 16)) w1 (by omega)
    have eh := ec_has w2
    have emh := em_has w2 ho16 hc (by omega)
    have e0 : m.1 0 0 = t := h.1.1.1.trans h0
    have hbr := bI_rng (hasB H o)
    by_cases g : nomO b H o (ixF b H o (H.1 3 o 16)) = -6 ∨ hasB H o = false ∨ t < dtF b H o (ixF b H o (H.1 3 o 16))
    · -- none more today
      have ec83 : fX2_makePaymentsDue_b29 rec (fC + 1) o o x3 H = fX2_makePaymentsDue_b83 rec o o H := by
        unfold fX2_makePaymentsDue_b29
        rw [gd_pos (by omega)]
        by_cases q : 1094 < x3
        · rw [if_pos q]
        · rw [if_neg q, eh, cr_some, gd_pos (by omega)]
          cases hh : hasB H o
          · rw [bI_f rfl, if_pos rfl]
          · rw [bI_t rfl, if_neg (by omega), gd_pos (by omega), if_pos]
            rw [h0, a3]
            rcases g with g | g | g
            · rcases hd with hd | hd
              · omega
              · exact absurd g hd.1
            · rw [hh] at g
              cases g
            · exact g
      have em207 : fX7_comesDue_b13 (fM + 1) o (ocF b H o (H.1 3 o 16)) m = fX7_comesDue_b207 o (ocF b H o (H.1 3 o 16)) m := by
        unfold fX7_comesDue_b13
        by_cases g1 : nomO b H o (ixF b H o (H.1 3 o 16)) = -6
        · rw [show ocF b H o (H.1 3 o 16) = -6 from if_pos g1, gd_pos (by omega), if_pos rfl]
        · rw [show ocF b H o (H.1 3 o 16) = ixF b H o (H.1 3 o 16) from if_neg g1, gd_pos (by omega), if_neg (by omega), emh, cr_some, gd_pos (by omega)]
          cases hh : hasB H o
          · rw [bI_f rfl, if_pos rfl]
          · rw [bI_t rfl, if_neg (by omega), em_dateBy b2 w1 hc ho16 (by omega) (by omega), cr_some, ev_today, cr_some, gd_pos (by omega), if_pos]
            rw [e0]
            rcases g with g | g | g
            · exact absurd g g1
            · rw [hh] at g
              cases g
            · exact g
      by_cases gover : nomO b H o (ixF b H o (H.1 3 o 16)) = -6 ∨ hasB H o = false
      · -- over
        have hx : ∀ t x y : Int, ¬ (t = 3 ∧ x = o) → (hS H 3 o 11 2).1 t x y = H.1 t x y := fun t x y q => hS_n H (by omega)
        have hf : ∀ f : Int, ¬ f = 11 → (hS H 3 o 11 2).1 3 o f = H.1 3 o f := fun f q => hS_n H (by omega)
        have hnn : ∀ j : Int, ¬ j = 121 + 16 * o + 10 → ¬ j = 121 + 16 * o + 9 → (mS (mS m 0 (121 + 16 * o + 10) 2) 0 (121 + 16 * o + 9) 0).1 0 j = m.1 0 j := fun j q1 q2 => by rw [mS_n _ (by omega), mS_n _ (by omega)]
        have mt : ∀ t : Int, ¬ t = 0 → (mS (mS m 0 (121 + 16 * o + 10) 2) 0 (121 + 16 * o + 9) 0).1 t = m.1 t := fun t q => by rw [mS_t _ _ _ q, mS_t _ _ _ q]
        refine ⟨hS H 3 o 11 2, mS (mS m 0 (121 + 16 * o + 10) 2) 0 (121 + 16 * o + 9) 0, ?_, ?_, ⟨h.1.ord k1 ho16 hx rfl (fun j q => hnn j (by omega) (by omega)) (mt 1 (by omega)) rfl (fun f q => ?_), h.2.1.ord hx (fun f q => hf f (by omega)) (fun k q => hnn k (by omega) (by omega)), h.2.2.ord (Int.le_refl _) ho hx rfl (hf 0 (by omega)) (hf 15 (by omega)) (w1.fr (fun f q => hf f (by omega))) ?_ ?_⟩, ?_, ?_, ⟨fun t a f q1 q2 q3 q4 => hS_n H (by omega), rfl⟩, ⟨fun t q1 q2 => mt t q1, rfl⟩, ?_, fun q => ?_⟩
        · rw [ec83]
          unfold fX2_makePaymentsDue_b83 fX2_makePaymentsDue_b100
          rw [eh, cr_some, gd_pos (by omega)]
          cases hh : hasB H o
          · rw [bI_f rfl, if_pos rfl, bnd_eq]
          · rw [bI_t rfl, if_neg (by omega), gd_pos (by omega), if_pos, bnd_eq]
            rcases gover with gover | gover
            · rcases hd with hd | hd
              · omega
              · exact absurd gover hd.1
            · rw [hh] at gover
              cases gover
        · rw [em207]
          have e221 : fX7_comesDue_b221 o m = some ((), mS (mS m 0 (121 + 16 * o + 10) 2) 0 (121 + 16 * o + 9) 0) := by
            unfold fX7_comesDue_b221
            rw [ev_becomes ho16 (by omega) (by omega), cl_some, ev_becomes ho16 (by omega) (by omega), cl_some]
          unfold fX7_comesDue_b207
          by_cases g1 : nomO b H o (ixF b H o (H.1 3 o 16)) = -6
          · rw [show ocF b H o (H.1 3 o 16) = -6 from if_pos g1, gd_pos (by omega), if_pos rfl, e221]
          · rw [show ocF b H o (H.1 3 o 16) = ixF b H o (H.1 3 o 16) from if_neg g1, gd_pos (by omega), if_neg (by omega), emh, cr_some, gd_pos (by omega)]
            rcases gover with gover | gover
            · exact absurd gover g1
            · rw [gover, bI_f rfl, if_pos rfl, e221]
        · by_cases c9 : f = 9
          · subst c9
            rw [mS_p]
            show (0 : Int) = if (hS H 3 o 11 2).1 3 o 11 = 2 then 0 else _
            rw [hS_p, if_pos rfl]
          · by_cases c10 : f = 10
            · subst c10
              rw [mS_n _ (by omega), mS_p]
              exact (hS_p H 3 o 11 2).symm
            · rw [hnn _ (by omega) (by omega), hc f q]
              exact (ordN_at (fun f' q' => hf f' (by omega))).symm
        · unfold okP at *
          rw [hf 0 (by omega), hf 1 (by omega), hf 2 (by omega), hf 8 (by omega), hf 9 (by omega), hf 10 (by omega), hS_p, hx 0 4 0 (by omega)]
          omega
        · unfold okC at *
          rw [hf 12 (by omega), hf 13 (by omega), hf 14 (by omega), hf 15 (by omega), hf 16 (by omega)]
          exact w3
        · -- okX
          obtain ⟨x1, x2, x3'⟩ := hX
          have q3 : ∀ i f : Int, ¬ (i = o ∧ f = 11) → (hS H 3 o 11 2).1 3 i f = H.1 3 i f := fun i f q => hS_n H (by omega)
          have q5 : ∀ c i : Int, (hS H 3 o 11 2).1 5 c i = H.1 5 c i := fun c i => hS_n H (by omega)
          have qK : ∀ i j : Int, nomK (hS H 3 o 11 2) i j = nomK H i j := fun i j => nomK_fr (fun f q => q3 _ _ (by omega)) j
          refine ⟨fun i hi hk3 => ?_, fun i hi => ?_, fun i j a b' c e0 e => ?_⟩
          · rw [hx 4 2 0 (by omega)] at hi
            rw [q5, q3 _ 3 (by omega)] at hk3
            rw [q5, q5, q5, qK, q3 _ 16 (by omega)]
            exact x1 i hi hk3
          · rw [hx 0 5 0 (by omega)] at hi
            rw [q3 i 3 (by omega), q3 i 9 (by omega), q3 i 10 (by omega), q3 i 16 (by omega), qK]
            obtain ⟨y1, y2, y3⟩ := x2 i hi
            refine ⟨fun c1 c2 => ?_, y2, y3⟩
            by_cases gi : i = o
            · subst gi
              rw [hS_p] at c2
              omega
            · rw [q3 i 11 (by omega)] at c2
              exact y1 c1 c2
          · rw [hx 4 2 0 (by omega)] at c
            rw [q5, q5] at e0
            rw [q5, q3 _ 3 (by omega)] at e
            rw [q5, q5, q5]
            exact x3' i j a b' c e0 e
        · intro i hi
          rw [hx 4 2 0 (by omega)] at hi
          rw [hx 5 3 i (by omega), hx 5 0 i (by omega)]
          exact hD i hi
        · unfold aimed
          rw [hf 16 (by omega), hf 17 (by omega), hf 18 (by omega), hf 19 (by omega), ixF_fr (H := H) (fun f _ => hf f (by omega)), nomO_fr (H := H) (fun f _ => hf f (by omega)), dtF_fr (H := H) (fun f _ => hf f (by omega))]
          exact ⟨a1, a2, a3⟩
        · rw [hS_p] at q
          omega
      · -- it goes on
        have g1 : ¬ nomO b H o (ixF b H o (H.1 3 o 16)) = -6 := fun q => gover (Or.inl q)
        have g2 : hasB H o = true := by
          cases hh : hasB H o
          · exact absurd (Or.inr hh) gover
          · rfl
        have g3 : t < dtF b H o (ixF b H o (H.1 3 o 16)) := by
          rcases g with g | g | g
          · exact absurd g g1
          · rw [g2] at g
            cases g
          · exact g
        refine ⟨H, m, ?_, ?_, h, hX, hD, ⟨fun _ _ _ _ _ _ _ => rfl, rfl⟩, ⟨fun _ _ _ => rfl, rfl⟩, ⟨a1, a2, a3⟩, fun _ => by omega⟩
        · rw [ec83]
          unfold fX2_makePaymentsDue_b83
          rw [eh, cr_some, gd_pos (by omega), g2, bI_t rfl, if_neg (by omega), gd_pos (by omega), if_neg (by omega)]
        · rw [em207]
          unfold fX7_comesDue_b207
          rw [show ocF b H o (H.1 3 o 16) = ixF b H o (H.1 3 o 16) from if_neg g1, gd_pos (by omega), if_neg (by omega), emh, cr_some, gd_pos (by omega), g2, bI_t rfl, if_neg (by omega)]
    · -- one is taken
      have g1 : ¬ nomO b H o (ixF b H o (H.1 3 o 16)) = -6 := fun q => g (Or.inl q)
      have g2 : hasB H o = true := by
        cases hh : hasB H o
        · exact absurd (Or.inr (Or.inl hh)) g
        · rfl
      have g3 : dtF b H o (ixF b H o (H.1 3 o 16)) ≤ t := by omega
      have hlf : 0 ≤ leftN H o ∧ leftN H o ≤ 99 := by
        unfold hasB at g2
        have := of_decide_eq_true g2
        unfold leftN
        split <;> omega
      have h8 : H.1 4 2 0 ≤ 8399 := waits_bound (C := C) (hX.mono (Int.le_refl _) hU) h.2.2 ⟨hC, hCo⟩
      have hL : leftN H o = if H.1 3 o 9 = 1 then 0 else H.1 3 o 10 - 1 := by
        unfold leftN
        by_cases q : H.1 3 o 9 = 0
        · rw [if_pos q, if_neg (by omega)]
        · rw [if_neg q, if_pos (by omega)]
          exact (hX.2.1 o ho).2.2 (by omega)
      have c15 : m.1 0 (121 + 16 * o + 15) = H.1 3 o 9 := hc 15 (by omega)
      have c9 : m.1 0 (121 + 16 * o + 9) = if H.1 3 o 11 = 2 then 0 else H.1 3 o 10 := hc 9 (by omega)
      rw [if_neg (show ¬ H.1 3 o 11 = 2 by omega)] at c9
      have c7 : m.1 0 (121 + 16 * o + 7) = H.1 3 o 7 := hc 7 (by omega)
      have c2 : m.1 0 (121 + 16 * o + 2) = H.1 3 o 2 := hc 2 (by omega)
      have e4 : m.1 0 4 = H.1 4 2 0 := h.1.1.2.2.2.2.1
      have hnom := em_nominal (k := ixF b H o (H.1 3 o 16)) b2 w1 hc ho16 (by omega)
      rw [show nomR (nomO b H o (ixF b H o (H.1 3 o 16))) (H.1 3 o 6) = nomO b H o (ixF b H o (H.1 3 o 16)) from (if_neg g1).trans (if_neg (by omega))] at hnom
      have hdb := em_dateBy b2 w1 hc ho16 (k := ixF b H o (H.1 3 o 16)) (by omega) (by omega)
      have hocf : ocF b H o (H.1 3 o 16) = ixF b H o (H.1 3 o 16) := if_neg g1
      -- how the loops go on, once the states are known
      have cont : ∀ (H2 : hR) (m2 : mR), Sim T H2 m2 → okX t Z U H2 → dueD o t H2 → dueF o H H2 → rowsF m m2 → aimed b H2 o → H2.1 3 o 11 = 0 → H2.1 3 o 16 = ixF b H o (H.1 3 o 16) + 1 →
          (fX7_occurrence o (ixF b H o (H.1 3 o 16) + 1) m2 = some (ocF b H2 o (H2.1 3 o 16))) ∧ ∃ H' m', fX2_makePaymentsDue_b29 rec fC o o (x3 + 1) H2 = rec (o + 1) H' ∧ fX7_comesDue_b13 fM o (ocF b H2 o (H2.1 3 o 16)) m2 = some ((), m') ∧ Sim T H' m' ∧ okX t Z U H' ∧ dueD o t H' ∧ dueF o H H' ∧ rowsF m m' ∧ aimed b H' o ∧ (H'.1 3 o 11 = 0 → t < H'.1 3 o 19 ∧ H'.1 3 o 19 ≤ 1094) := by
        intro H2 m2 y1 y2 y3 y4 y5 y6 y7 y8
        have yb : cB H2 = b := (cB_fr (y4.1 _ _ _ (by omega) (by omega) (by omega) (by omega)) (fun a => y4.1 _ _ _ (by omega) (by omega) (by omega) (by omega))).trans hb
        have yo : 0 ≤ o ∧ o < H2.1 0 5 0 := by
          rw [y4.1 0 5 0 (by omega) (by omega) (by omega) (by omega)]
          exact ho
        obtain ⟨v1, v2, v3⟩ := y1.2.2.2.2.2.1 o yo
        obtain ⟨d1, d2⟩ := cal_both y1.1 y1.2.2.2.1.2.1
        rw [yb] at d1 d2
        unfold okC at v3
        refine ⟨?_, ?_⟩
        · rw [← y8]
          exact em_occ d2 v1 (y1.1.atO yo) ho16 (by omega)
        · obtain ⟨H', m', z1, z2, z3, z4, z5, z6, z7, z8, z9⟩ := ls_due (rec := rec) hC hU hZ ht hrun (1096 - H2.1 3 o 16).toNat fC fM (x3 + 1) H2 m2 rfl (by omega) (by omega) y1 yb ((y4.1 0 6 0 (by omega) (by omega) (by omega) (by omega)).trans h0) yo (by rw [y4.1 0 5 0 (by omega) (by omega) (by omega) (by omega)]; exact hCo) y7 y6 (by omega) (by omega) y2 y3
          refine ⟨H', m', z1, z2, z3, z4, z5, ⟨fun t a f q1 q2 q3 q4 => (z6.1 t a f q1 q2 q3 q4).trans (y4.1 t a f q1 q2 q3 q4), z6.2.trans y4.2⟩, ⟨fun t q1 q2 => (z7.1 t q1 q2).trans (y5.1 t q1 q2), z7.2.trans y5.2⟩, z8, z9⟩
      have key : ∃ H' m', po (cl (fX2_takeNextOccurrence o H) fun _ H56 => bnd (hS H56 3 o 16 ((H56.1 3 o 17) + 1)) fun H66 => cl (fX3_aim o H66) fun _ H74 => some H74) (fun H74 => fX2_makePaymentsDue_b29 rec fC o o (x3 + 1) H74 = rec (o + 1) H') ∧ fX7_comesDue_b13 (fM + 1) o (ixF b H o (H.1 3 o 16)) m = some ((), m') ∧ Sim T H' m' ∧ okX t Z U H' ∧ dueD o t H' ∧ dueF o H H' ∧ rowsF m m' ∧ aimed b H' o ∧ (H'.1 3 o 11 = 0 → t < H'.1 3 o 19 ∧ H'.1 3 o 19 ≤ 1094) := by
        -- the reference up to the nominal day
        have em0 : fX7_comesDue_b13 (fM + 1) o (ixF b H o (H.1 3 o 16)) m = (if H.1 3 o 7 = 4 then (cr (some (bI (b (nomO b H o (ixF b H o (H.1 3 o 16)))))) fun r60 => gd (wR r60) <| if r60 = 0 then (bnd (mS m 0 ((121 + (16 * o)) + 13) ((m.1 0 ((121 + (16 * o)) + 13)) + 1)) fun m84 => bnd (mS m84 0 7 ((m84.1 0 7) + 1)) fun m95 => fX7_comesDue_b154 (fX7_comesDue_b13 fM) o (ixF b H o (H.1 3 o 16)) m95) else fX7_comesDue_b99 (fX7_comesDue_b13 fM) o (ixF b H o (H.1 3 o 16)) (nomO b H o (ixF b H o (H.1 3 o 16))) m) else fX7_comesDue_b99 (fX7_comesDue_b13 fM) o (ixF b H o (H.1 3 o 16)) (nomO b H o (ixF b H o (H.1 3 o 16))) m) := by
          rw [fX7_comesDue_b13, gd_pos (by omega), if_neg (by omega), emh, cr_some, gd_pos (by omega), g2, bI_t rfl, if_neg (by omega), hdb, cr_some, ev_today, cr_some, gd_pos (by omega), if_neg (by omega), hnom, cr_some, ev_ofO (by omega), cr_some, c7, gd_pos (by omega), b2 _ (by omega)]
          by_cases q : H.1 3 o 7 = 4
          · rw [if_pos q, if_pos q, cr_some, cr_some, gd_pos (by have := bI_rng (b (nomO b H o (ixF b H o (H.1 3 o 16)))); omega), gd_pos (by omega), gd_pos (by omega), gd_pos (by have := bI_rng (b (nomO b H o (ixF b H o (H.1 3 o 16)))); omega)]
          · rw [if_neg q, if_neg q]
        by_cases gs : H.1 3 o 7 = 4 ∧ b (nomO b H o (ixF b H o (H.1 3 o 16))) = false
        · -- skipped
          have pc := ec_take (kk := fun H2 => some H2) (R := fun H2 => skipR o (ixF b H o (H.1 3 o 16)) H H2 ∧ aimed b H2 o) b1 w1 w2 k1 ho h8 h0 ht a1 a2 (by omega) (by omega) (fun _ H2 s1 s2 => po_some ⟨s1, s2⟩) (fun q => absurd gs q)
          obtain ⟨H2, p1, p2, p3⟩ := pc
          have sm : skipM o (ixF b H o (H.1 3 o 16)) (leftN H o) m (mS (mS (mS (mS m 0 (121 + 16 * o + 13) (m.1 0 (121 + 16 * o + 13) + 1)) 0 7 (m.1 0 7 + 1)) 0 (121 + 16 * o + 9) (leftN H o)) 0 (121 + 16 * o + 14) (ixF b H o (H.1 3 o 16) + 1)) := by
            refine ⟨fun t j q => ?_, rfl, ?_, ?_, ?_, mS_p _ _ _ _⟩
            · rw [mS_n _ (by omega), mS_n _ (by omega), mS_n _ (by omega), mS_n _ (by omega)]
            · rw [mS_n _ (by omega), mS_n _ (by omega), mS_n _ (by omega), mS_p]
            · rw [mS_n _ (by omega), mS_n _ (by omega), mS_p]
            · rw [mS_n _ (by omega), mS_p]
          have y1 := h.skip ho hst p2 sm (by omega) hlf
          have y2 := hX.skip h.2.2.2.2.2.2.1 ho w1 hst p2 (by omega) g1
          obtain ⟨z1, H', m', z2, z3, z4⟩ := cont H2 _ y1 y2 (fun i hi => by
            rw [p2.1 4 2 0 (by omega)] at hi
            rw [p2.1 5 3 i (by omega), p2.1 5 0 i (by omega)]
            exact hD i hi) ⟨fun t a f q1 q2 q3 q4 => p2.1 t a f (by omega), p2.2.1⟩ ⟨fun t q1 q2 => by
            funext j
            exact sm.1 t j (by omega), rfl⟩ p3 ((p2.1 3 o 11 (by omega)).trans hst) p2.2.2.2.2
          refine ⟨H', m', ⟨H2, p1, z2⟩, ?_, z4⟩
          rw [em0, if_pos gs.1, gs.2, bI_f rfl, cr_some, gd_pos (by omega), if_pos rfl, bnd_eq, bnd_eq, mS_n m (show ¬ ((0 : Int) = 0 ∧ (7 : Int) = 121 + 16 * o + 13) by omega)]
          rw [hL] at z1 z3
          rw [em_b154 (r := ocF b H2 o (H2.1 3 o 16)) (e := H.1 3 o 9) (l := H.1 3 o 10) ho16 (by omega) (by rw [mS_n _ (by omega), mS_n _ (by omega)]; exact c15) (by rw [mS_n _ (by omega), mS_n _ (by omega)]; exact c9) (by omega) (by omega) z1]
          exact z3
        · -- it waits
          have pc := ec_take (kk := fun H2 => some H2) (R := fun H2 => takeR o (ixF b H o (H.1 3 o 16)) (nomO b H o (ixF b H o (H.1 3 o 16))) t H H2 ∧ aimed b H2 o) b1 w1 w2 k1 ho h8 h0 ht a1 a2 (by omega) (by omega) (fun q => absurd q gs) (fun _ H2 s1 s2 => po_some ⟨s1, s2⟩)
          obtain ⟨H2, p1, p2, p3⟩ := pc
          have sm : takeM o (ixF b H o (H.1 3 o 16)) (leftN H o) (pkW o (H.1 3 o 2) (nomO b H o (ixF b H o (H.1 3 o 16))) t 0 0) m (mS (mS (mS (mS m 1 (m.1 0 4) (pkW o (H.1 3 o 2) (nomO b H o (ixF b H o (H.1 3 o 16))) t 0 0)) 0 4 (m.1 0 4 + 1)) 0 (121 + 16 * o + 9) (leftN H o)) 0 (121 + 16 * o + 14) (ixF b H o (H.1 3 o 16) + 1)) := by
            refine ⟨fun t j q q' => ?_, rfl, ?_, ?_, ?_, mS_p _ _ _ _⟩
            · rw [mS_n _ (by omega), mS_n _ (by omega), mS_n _ (by omega), mS_n _ (by omega)]
            · rw [mS_n _ (by omega), mS_n _ (by omega), mS_p]
            · rw [mS_n _ (by omega), mS_n _ (by omega), mS_n _ (by omega), mS_p]
            · rw [mS_n _ (by omega), mS_p]
          have y1 := h.take ho hst p2 sm (by omega) hlf (by omega) ht h8 hD
          have y2 := hX.take (b := b) h.2.2.2.2.2.2.1 (by omega) ho w1 hst p2 (by omega) g1 (fun hk3 => by
            have e1 := ixF_K (b := b) (k := H.1 3 o 16) w1 (by omega) hk3
            have e2 := nomO_K (b := b) (H := H) (o := o) (k := ixF b H o (H.1 3 o 16)) (by omega)
            refine ⟨e1, ?_, fun hlt => ?_⟩
            · rw [e2]
              by_cases q : 1094 < nomK H o (ixF b H o (H.1 3 o 16))
              · rw [e2, if_pos q] at g1
                exact absurd rfl g1
              · rw [if_neg q]
            · rcases hd with hd | ⟨hd1, hd2, hd3⟩
              · omega
              · rw [hd2] at g3
                exact hrun _ hlt (by omega) (fun j q1 q2 => shZ_lt (b := b) (r := H.1 3 o 7) (by omega) (by omega) j (by omega) q2)) hZ
          obtain ⟨z1, H', m', z2, z3, z4⟩ := cont H2 _ y1 y2 (fun i hi => by
            rw [p2.2.2.2.2.2.2.1] at hi
            by_cases gi : i = H.1 4 2 0
            · subst gi
              right
              exact ⟨p2.2.2.2.2.2.2.2.2.2.2.2.2.1, by rw [p2.2.2.2.2.2.2.2.2.2.1]; exact Int.le_refl _⟩
            · rw [p2.2.2.2.2.2.2.2.2.1 3 i (by omega), p2.2.2.2.2.2.2.2.2.1 0 i (by omega)]
              exact hD i (by omega)) ⟨fun t a f q1 q2 q3 q4 => p2.1 t a f (by omega) (by omega) q3 q4, p2.2.1⟩ ⟨fun t q1 q2 => by
            funext j
            exact sm.1 t j (by omega) (by omega), rfl⟩ p3 ((p2.1 3 o 11 (by omega) (by omega) (by omega) (by omega)).trans hst) p2.2.2.2.2.1
          have e99 : fX7_comesDue_b99 (fX7_comesDue_b13 fM) o (ixF b H o (H.1 3 o 16)) (nomO b H o (ixF b H o (H.1 3 o 16))) m = some ((), m') := by
            have epk : o + (16 * (H.1 3 o 2 + (1048576 * (nomO b H o (ixF b H o (H.1 3 o 16)) + (2048 * t))))) = pkW o (H.1 3 o 2) (nomO b H o (ixF b H o (H.1 3 o 16))) t 0 0 := by
              unfold pkW
              omega
            unfold fX7_comesDue_b99
            rw [gd_pos (by omega), ev_today, cr_some, gd_pos (by omega), ev_of (by omega), cr_some, gd_pos (by omega), ev_ofO (by omega), cr_some, c2, gd_pos (by omega), gd_pos (by omega), bnd_eq, e0, epk, mS_n m (show ¬ ((0 : Int) = 1 ∧ (4 : Int) = m.1 0 4) by omega), bnd_eq]
            rw [hL] at z1 z3
            rw [em_b154 (r := ocF b H2 o (H2.1 3 o 16)) (e := H.1 3 o 9) (l := H.1 3 o 10) ho16 (by omega) (by rw [mS_n _ (by omega), mS_n _ (by omega)]; exact c15) (by rw [mS_n _ (by omega), mS_n _ (by omega)]; exact c9) (by omega) (by omega) z1]
            exact z3
          refine ⟨H', m', ⟨H2, p1, z2⟩, ?_, z4⟩
          rw [em0]
          by_cases q : H.1 3 o 7 = 4
          · have hbt : b (nomO b H o (ixF b H o (H.1 3 o 16))) = true := by
              cases hh : b (nomO b H o (ixF b H o (H.1 3 o 16)))
              · exact absurd ⟨q, hh⟩ gs
              · rfl
            rw [if_pos q, hbt, bI_t rfl, cr_some, gd_pos (by omega), if_neg (by omega)]
            exact e99
          · rw [if_neg q]
            exact e99
      obtain ⟨H', m', ⟨H2, p1, p2⟩, q1, q2⟩ := key
      refine ⟨H', m', ?_, by rw [hocf]; exact q1, q2⟩
      rw [fX2_makePaymentsDue_b29, gd_pos (by omega), if_neg (by omega), eh, cr_some, gd_pos (by omega), g2, bI_t rfl, if_neg (by omega), gd_pos (by omega), if_neg (by omega)]
      -- the same steps, with the loop behind them
      cases e1 : fX2_takeNextOccurrence o H with
      | none => rw [e1] at p1; cases p1
      | some r =>
        obtain ⟨u, H56⟩ := r
        rw [e1] at p1
        rw [cl_some, bnd_eq] at p1 ⊢
        cases e2 : fX3_aim o (hS H56 3 o 16 ((H56.1 3 o 17) + 1)) with
        | none => rw [e2] at p1; cases p1
        | some r2 =>
          obtain ⟨u2, H74⟩ := r2
          rw [e2] at p1
          rw [cl_some] at p1 ⊢
          cases p1
          exact p2
end
section
/-! ===== all orders' occurrences of today, in step ===== -/
def dueA (H H' : hR) : Prop := (∀ t a f : Int, ¬ (t = 3 ∧ ¬ (f ≤ 9)) → ¬ (t = 2 ∧ f = 11) → ¬ t = 4 → ¬ t = 5 → H'.1 t a f = H.1 t a f) ∧ H'.2 = H.2
theorem ls_dueAll {T C t Z U : Int} {b : Int → Bool} (hC : 0 ≤ C) (hU : U ≤ 57 + 5 * C) (hZ : 0 ≤ Z ∧ Z + 5 ≤ U) (ht : 0 ≤ t ∧ t ≤ 1094)
    (hrun : ∀ d : Int, t < d → d ≤ 1094 → (∀ j : Int, t < j → j ≤ d → b j = false) → 5 * (d + 1 - t) + Z ≤ U) :
    ∀ (k fC fM : Nat) (o : Int) (H : hR) (m : mR), o + k = H.1 0 5 0 → 0 ≤ o → k < fC → k < fM → Sim T H m → cB H = b → H.1 0 6 0 = t → C + H.1 0 5 0 ≤ 512 → (∀ i : Int, 0 ≤ i ∧ i < H.1 0 5 0 → aimed b H i) → okX t Z U H → dueD o t H → (∀ i : Int, 0 ≤ i ∧ i < o → H.1 3 i 11 = 0 → t < H.1 3 i 19 ∧ H.1 3 i 19 ≤ 1094) →
    ∃ H' m', fX2_makePaymentsDue_b2 fC o H = some ((), H') ∧ fX7_passesDay_b7 fM o m = fX7_passesDay_b42 fuel0 0 m' ∧ Sim T H' m' ∧ okX t Z U H' ∧ okDue (t + 1) H' ∧ dueA H H' ∧ rowsF m m' ∧ (∀ i : Int, 0 ≤ i ∧ i < H.1 0 5 0 → aimed b H' i) ∧ (∀ i : Int, 0 ≤ i ∧ i < H.1 0 5 0 → H'.1 3 i 11 = 0 → t < H'.1 3 i 19 ∧ H'.1 3 i 19 ≤ 1094)
  | k, 0, _, _, _, _, _, _, h, _, _, _, _, _, _, _, _, _ => by omega
  | k, _ + 1, 0, _, _, _, _, _, _, h, _, _, _, _, _, _, _, _ => by omega
  | 0, fC + 1, fM + 1, o, H, m, hk, ho0, _, _, h, hb, h0, hCo, ha, hX, hD, hN => by
    have k1 := h.2.2.1
    unfold okN at k1
    have e2 : m.1 0 2 = H.1 0 5 0 := h.1.1.2.2.1
    refine ⟨H, m, ?_, ?_, h, hX, fun i hi => ?_, ⟨fun _ _ _ _ _ _ _ => rfl, rfl⟩, ⟨fun _ _ _ => rfl, rfl⟩, ha, fun i hi => hN i (by omega)⟩
    · rw [fX2_makePaymentsDue_b2, gd_pos (by omega), if_pos (by omega)]
    · rw [fX7_passesDay_b7, gd_pos (by omega), gd_pos (by omega), if_pos (by omega)]
    · have := hD i hi
      omega
  | k + 1, fC + 1, fM + 1, o, H, m, hk, ho0, hfC, hfM, h, hb, h0, hCo, ha, hX, hD, hN => by
    have k1 := h.2.2.1
    have k1' := k1
    unfold okN at k1'
    have e2 : m.1 0 2 = H.1 0 5 0 := h.1.1.2.2.1
    have ho : 0 ≤ o ∧ o < H.1 0 5 0 := by omega
    obtain ⟨w1, w2, w3⟩ := h.2.2.2.2.2.1 o ho
    unfold okP at w2
    unfold okC at w3
    have hc := h.1.atO ho
    have c10 : m.1 0 (121 + 16 * o + 10) = H.1 3 o 11 := hc 10 (by omega)
    have c14 : m.1 0 (121 + 16 * o + 14) = H.1 3 o 16 := hc 14 (by omega)
    obtain ⟨b1, b2⟩ := cal_both h.1 h.2.2.2.1.2.1
    rw [hb] at b1 b2
    have hmono : ∀ G : hR, dueD o t G → dueD (o + 1) t G := fun G q i hi => by
      have := q i hi
      omega
    by_cases g : H.1 3 o 11 = 0
    · obtain ⟨H1, m1, y1, y2, y3, y4, y5, y6, y7, y8, y9⟩ := ls_due (T := T) (C := C) (rec := fX2_makePaymentsDue_b2 fC) hC hU hZ ht hrun (1096 - H.1 3 o 16).toNat fuel0 fuel0 0 H m rfl (by show _ < 1000000; omega) (by show _ < 1000000; omega) h hb h0 ho hCo g (ha o ho) (by omega) (by omega) hX hD
      have f05 : H1.1 0 5 0 = H.1 0 5 0 := y6.1 _ _ _ (by omega) (by omega) (by omega) (by omega)
      have yb : cB H1 = b := (cB_fr (y6.1 _ _ _ (by omega) (by omega) (by omega) (by omega)) (fun a => y6.1 _ _ _ (by omega) (by omega) (by omega) (by omega))).trans hb
      have f3 : ∀ i f : Int, ¬ i = o → H1.1 3 i f = H.1 3 i f := fun i f q => y6.1 _ _ _ (by omega) (by omega) (by omega) (by omega)
      obtain ⟨H', m', z1, z2, z3, z4, z5, z6, z7, z8, z9⟩ := ls_dueAll hC hU hZ ht hrun k fC fM (o + 1) H1 m1 (by omega) (by omega) (by omega) (by omega) y3 yb ((y6.1 0 6 0 (by omega) (by omega) (by omega) (by omega)).trans h0) (by omega) (fun i hi => by
        by_cases q : i = o
        · rw [q]; exact y8
        · exact (ha i (by omega)).fr (fun f => f3 i f q)) y4 (hmono H1 y5) (fun i hi q => by
        by_cases qi : i = o
        · rw [qi] at q ⊢
          exact y9 q
        · rw [f3 i 11 qi] at q
          rw [f3 i 19 qi]
          exact hN i (by omega) q)
      rw [f05] at z8 z9
      refine ⟨H', m', ?_, ?_, z3, z4, z5, ⟨fun t a f q1 q2 q3 q4 => (z6.1 t a f q1 q2 q3 q4).trans (y6.1 t a f (by omega) q2 q3 q4), z6.2.trans y6.2⟩, ⟨fun t q1 q2 => (z7.1 t q1 q2).trans (y7.1 t q1 q2), z7.2.trans y7.2⟩, z8, z9⟩
      · rw [fX2_makePaymentsDue_b2, gd_pos (by omega), if_neg (by omega), gd_pos (by omega), gd_pos (by omega), if_pos g, y1, z1]
      · have ecd : fX7_comesDue o m = some ((), m1) := by
          unfold fX7_comesDue
          rw [ev_ofO (by omega), cr_some, c14, em_occ b2 w1 hc (by omega) (by omega), cr_some, y2]
        rw [fX7_passesDay_b7, gd_pos (by omega), gd_pos (by omega), if_neg (by omega), ev_ofO (by omega), cr_some, c10, g, gd_pos (by omega), if_pos rfl, ecd, cl_some, z2]
    · obtain ⟨H', m', z1, z2, z3, z4, z5, z6, z7, z8, z9⟩ := ls_dueAll hC hU hZ ht hrun k fC fM (o + 1) H m (by omega) (by omega) (by omega) (by omega) h hb h0 hCo ha hX (hmono H hD) (fun i hi q => by
        by_cases qi : i = o
        · rw [qi] at q
          exact absurd q g
        · exact hN i (by omega) q)
      refine ⟨H', m', ?_, ?_, z3, z4, z5, z6, z7, z8, z9⟩
      · rw [fX2_makePaymentsDue_b2, gd_pos (by omega), if_neg (by omega), gd_pos (by omega), gd_pos (by omega), if_neg g, z1]
      · rw [fX7_passesDay_b7, gd_pos (by omega), gd_pos (by omega), if_neg (by omega), ev_ofO (by omega), cr_some, c10, gd_pos (by omega), if_neg g, z2]
end
section
/-! ===== the day's sweeps, in step ===== -/
theorem corV.fr {H H' : hR} {W W' : Int → Int} {n n' : Int} {x : Int → Int} (h : corV H W n x) (h2 : H'.1 4 2 0 = H.1 4 2 0) (hc : ∀ c i : Int, H'.1 5 c i = H.1 5 c i) (hW : W' = W) (hn : n' = n) : corV H' W' n' x := by
  have e : H'.1 5 1 = H.1 5 1 := funext (fun i => hc 1 i)
  obtain ⟨v1, v2⟩ := h
  refine ⟨?_, fun i hi hA => ?_⟩
  · rw [e, h2, hn]; exact v1
  · rw [h2] at hi
    rw [e] at hA ⊢
    rw [hW, hc, hc, hc, hc]
    exact v2 i hi hA
theorem okV.fr {H H' : hR} (h : okV H) (h2 : H'.1 4 2 0 = H.1 4 2 0) (h5 : H'.1 0 5 0 = H.1 0 5 0) (hc : ∀ c i : Int, H'.1 5 c i = H.1 5 c i) : okV H' := by
  refine ⟨fun i hi => ?_, fun i j a b c => ?_⟩
  · rw [h2] at hi
    rw [hc, hc, hc, hc, hc, h5]
    exact h.1 i hi
  · rw [h2] at c
    rw [hc, hc, hc, hc]
    exact h.2 i j a b c
theorem okUV.fr {H H' : hR} (h : okUV H) (h2 : H'.1 4 2 0 = H.1 4 2 0) (h4 : H'.1 0 4 0 = H.1 0 4 0) (h5 : H'.1 0 5 0 = H.1 0 5 0) (hc : ∀ c i : Int, H'.1 5 c i = H.1 5 c i) (ha : ∀ a : Int, H'.1 2 a 11 = H.1 2 a 11) (ho : ∀ o f : Int, H'.1 3 o f = H.1 3 o f) : okUV H' := by
  refine ⟨fun a q => ?_, fun o q => ?_⟩
  · rw [h4] at q
    rw [ha, h2, sumW_fr (H := H) _ (fun c i _ => hc c i) (fun i _ => ho _ _)]
    exact h.1 a q
  · rw [h5] at q
    rw [ho, h2, cntV_fr (H := H) _ (fun i _ => ⟨hc _ _, hc _ _⟩)]
    exact h.2 o q
theorem Mid.acc {F : Int} {x : Int → Int} {H : hR} {m : mR} (h : Mid F x H m) {a f v : Int} (ha : 0 ≤ a ∧ a < H.1 0 4 0) (hf : 3 ≤ f ∧ f ≤ 10) : Mid F x (hS H 2 a f v) (mS m 0 (33 + 11 * a + f) v) := by
  obtain ⟨⟨c1, c2, c3, c4, c5⟩, t, k1, k2, k3, k4, k5, k6⟩ := h
  have k1' := k1
  unfold okN at k1'
  have g2 := c1.2.1
  have g3 := c1.2.2.1
  have n : ∀ k : Int, ¬ (33 ≤ k ∧ k ≤ 120) → (mS m 0 (33 + 11 * a + f) v).1 0 k = m.1 0 k := fun k q => mS_n m (by omega)
  have e : ∀ t x y : Int, ¬ (t = 2 ∧ x = a ∧ y = f) → (hS H 2 a f v).1 t x y = H.1 t x y := fun t x y q => hS_n H q
  refine ⟨⟨c1.fr (fun t x q => e _ _ _ (by omega)) (fun k q => n k (by omega)), c2.fr (fun x => e _ _ _ (by omega)) (fun k q => n k (by omega)), ?_, c4.fr (fun o y q => e _ _ _ (by omega)) (fun k q => n k (by omega)) (by omega), c5.fr (e _ _ _ (by omega)) (fun c i => e _ _ _ (by omega)) (mS_t m _ _ (by omega)) (n 4 (by omega))⟩, t.fr (e _ _ _ (by omega)) (fun o y q => e _ _ _ (by omega)) (fun k q => n k (by omega)), k1.fr (e _ _ _ (by omega)) (e _ _ _ (by omega)) (e _ _ _ (by omega)) (e _ _ _ (by omega)), k2.fr (fun t x q => e _ _ _ (by omega)), k3.fr (e _ _ _ (by omega)) (fun x y q => e _ _ _ (by omega)), k4.fr (e _ _ _ (by omega)) (e _ _ _ (by omega)) (fun o y q => e _ _ _ (by omega)), k5.fr (e _ _ _ (by omega)) (e _ _ _ (by omega)) (fun c i => e _ _ _ (by omega)), k6.fr (e _ _ _ (by omega)) (e _ _ _ (by omega)) (e _ _ _ (by omega)) (fun c i => e _ _ _ (by omega)) (fun x => e _ _ _ (by omega)) (fun o y => e _ _ _ (by omega))⟩
  intro x hx
  rw [n 1 (by omega)] at hx
  obtain ⟨q1, q2⟩ := c3 x hx
  refine ⟨fun y hy => ?_, q2⟩
  rw [hS_1, mS_1]
  by_cases q : x = a ∧ y = f
  · obtain ⟨r1, r2⟩ := q
    rw [if_pos ⟨rfl, by omega⟩, if_pos ⟨rfl, r1, r2⟩]
  · rw [if_neg (by omega), if_neg (by omega)]
    exact q1 y hy
theorem MC.at {F : Int} {x : Int → Int} {H : hR} {m : mR} (h : Mid F x H m) {a f : Int} (ha : 0 ≤ a ∧ a < H.1 0 4 0) (hf : 0 ≤ f ∧ f ≤ 10) : m.1 0 (33 + 11 * a + f) = H.1 2 a f := (h.1.2.2.1 a (by rw [h.1.1.2.1]; exact ha)).1 f hf
theorem MC.atO {F : Int} {x : Int → Int} {H : hR} {m : mR} (h : Mid F x H m) {o : Int} (ho : 0 ≤ o ∧ o < H.1 0 5 0) : corR H (m.1 0) o := h.1.2.2.2.1 o (by rw [h.1.1.2.2.1]; exact ho)
theorem Mid.waitsFor {F : Int} {H : hR} {m : mR} (h : Mid F (fun _ => 0) H m) (hA : ∀ i : Int, 0 ≤ i ∧ i < H.1 4 2 0 → ¬ H.1 5 1 i = 0) {a : Int} (ha : wR a) : fX7_waitsFor a m = some (sumW H a (H.1 4 2 0).toNat) := by
  have k1 := h.2.2.1
  unfold okN at k1
  have hr : ∀ k : Nat, (k : Int) ≤ H.1 4 2 0 → rk (H.1 5 1) k = k := fun k hk => rk_all k (fun j hj => hA j (by omega))
  have e4 : m.1 0 4 = H.1 4 2 0 := by
    rw [h.1.2.2.2.2.1, hr _ (by omega)]
    omega
  refine em_waitsFor_b5 (j := 0) ha (n := (H.1 4 2 0).toNat) (by omega) (by omega) (fun i hi => ?_) (H.1 4 2 0).toNat fuel0 (by omega) (by show _ < 1000000; omega)
  obtain ⟨k, hk⟩ := Int.eq_ofNat_of_zero_le hi.1
  have hk : i = (k : Int) := hk
  subst hk
  obtain ⟨p0, p1, -⟩ := MC.part h (fun _ => by omega) (i := k) (by omega) (hA k (by omega))
  rw [hr k (by omega)] at p0 p1
  obtain ⟨w1, w2, -, -, -⟩ := h.2.2.2.2.2.2.1.1 k (by omega)
  have q0 : m.1 0 (121 + 16 * H.1 5 0 k + 0) = H.1 3 (H.1 5 0 k) 0 := MC.atO h w1 0 (by omega)
  have q1 := (h.2.2.2.2.2.1 _ w1).2.1.1
  exact ⟨p0, by rw [ev_ofO (by omega), q0], by omega, p1, by omega⟩
def MB (B K1 K : Int) (H : hR) : Prop := (∀ a : Int, 0 ≤ a ∧ a < H.1 0 4 0 → ∀ f : Int, 3 ≤ f ∧ f ≤ 10 → -B ≤ H.1 2 a f ∧ H.1 2 a f ≤ B) ∧ ∀ a : Int, 0 ≤ a ∧ a < H.1 0 4 0 → ∃ n : Int, owV (H.2 a) n ∧ n ≤ K1 * 2 ^ 80 ∧ -H.1 2 a 3 * 2 ^ 80 + n ≤ K * 2 ^ 80
theorem MB.debt {B K1 K : Int} {H : hR} (h : MB B K1 K H) {a : Int} (ha : 0 ≤ a ∧ a < H.1 0 4 0) : -H.1 2 a 3 ≤ K := by
  obtain ⟨n, h1, h2, h3⟩ := h.2 a ha
  have := h1.1
  omega
def moneyF (H H' : hR) : Prop := (∀ t x y : Int, ¬ (t = 2 ∧ 3 ≤ y ∧ y ≤ 10) → H'.1 t x y = H.1 t x y) ∧ H'.2 = H.2
def rows0F (m m' : mR) : Prop := (∀ t : Int, ¬ t = 0 → m'.1 t = m.1 t) ∧ m'.2 = m.2
theorem ls_sweep1 {F B K1 K a : Int} {H : hR} {m : mR} (h : Mid F (fun _ => 0) H m) (hA : ∀ i : Int, 0 ≤ i ∧ i < H.1 4 2 0 → ¬ H.1 5 1 i = 0) (hM : MB B K1 K H) (hB : 0 ≤ B ∧ B ≤ 4611686018427387904) (hK : 0 ≤ K1 ∧ K1 ≤ K ∧ K ≤ 1125899906842624) (ha : 0 ≤ a ∧ a < H.1 0 4 0) :
    ∃ H' m', (∀ fuel : Nat, fX2_sweep_b2 (fuel + 1) a H = fX2_sweep_b2 fuel (a + 1) H') ∧ fX7_sweeps a m = some ((), m') ∧ Mid F (fun _ => 0) H' m' ∧ MB (B + 8400000000 + K) K1 K H' ∧ moneyF H H' ∧ rows0F m m' := by
  have k1 := h.2.2.1
  unfold okN at k1
  obtain ⟨o1, o2, o3⟩ := h.2.2.2.2.1 a ha
  have ca0 := MC.at h ha (f := 0) (by omega)
  have ca2 := MC.at h ha (f := 2) (by omega)
  have ca3 := MC.at h ha (f := 3) (by omega)
  have ca7 := MC.at h ha (f := 7) (by omega)
  have same : MB (B + 8400000000 + K) K1 K H := ⟨fun x hx f hf => by
    have := hM.1 x hx f hf
    omega, hM.2⟩
  by_cases g : H.1 2 a 2 = -6
  · refine ⟨H, m, fun fuel => ?_, ?_, h, same, ⟨fun _ _ _ _ => rfl, rfl⟩, ⟨fun _ _ => rfl, rfl⟩⟩
    · rw [fX2_sweep_b2, gd_pos (by omega), if_neg (by omega), gd_pos (by omega), g, ev_hasA (by omega), bI_f (decide_eq_false (by omega)), cr_some, gd_pos (by omega), if_pos rfl]
    · unfold fX7_sweeps
      rw [ev_ofA (by omega), ca2, g, cr_some, gd_pos (by omega), if_pos rfl]
  · have hfd : 0 ≤ H.1 2 a 2 ∧ H.1 2 a 2 < H.1 0 4 0 ∧ ¬ H.1 2 a 2 = a := by omega
    obtain ⟨f1, f2, -⟩ := h.2.2.2.2.1 (H.1 2 a 2) (by omega)
    have cf1 := MC.at h (a := H.1 2 a 2) (f := 1) (by omega) (by omega)
    have cf3 := MC.at h (a := H.1 2 a 2) (f := 3) (by omega) (by omega)
    have cf8 := MC.at h (a := H.1 2 a 2) (f := 8) (by omega) (by omega)
    have hw := h.waitsFor hA (a := a) (by omega)
    have hu := h.2.2.2.2.2.2.2.1 a ha
    rw [← hu] at hw
    have hsr := sumW_rng (H := H) (a := a) (H.1 4 2 0).toNat (fun i hi => by
      have := (h.2.2.2.2.2.2.1.1 i (by omega)).2.1
      have := hA i (by omega)
      omega)
    rw [← hu] at hsr
    have mA3 := hM.1 a ha 3 (by omega)
    have mA7 := hM.1 a ha 7 (by omega)
    have mF3 := hM.1 (H.1 2 a 2) (by omega) 3 (by omega)
    have mF8 := hM.1 (H.1 2 a 2) (by omega) 8 (by omega)
    have hdebt := hM.debt ha
    generalize hfe : H.1 2 a 2 = fe at *
    have emin : (if (H.1 2 fe 3 - H.1 2 fe 1) ≤ ((H.1 2 a 11 - H.1 2 a 3) - H.1 2 a 0) then fX7_sweeps_b64 a fe (H.1 2 fe 3 - H.1 2 fe 1) m else fX7_sweeps_b64 a fe ((H.1 2 a 11 - H.1 2 a 3) - H.1 2 a 0) m) = fX7_sweeps_b64 a fe (min ((H.1 2 a 11 - H.1 2 a 3) - H.1 2 a 0) (H.1 2 fe 3 - H.1 2 fe 1)) m := by
      by_cases q : (H.1 2 fe 3 - H.1 2 fe 1) ≤ ((H.1 2 a 11 - H.1 2 a 3) - H.1 2 a 0)
      · rw [if_pos q, show min ((H.1 2 a 11 - H.1 2 a 3) - H.1 2 a 0) (H.1 2 fe 3 - H.1 2 fe 1) = H.1 2 fe 3 - H.1 2 fe 1 by omega]
      · rw [if_neg q, show min ((H.1 2 a 11 - H.1 2 a 3) - H.1 2 a 0) (H.1 2 fe 3 - H.1 2 fe 1) = (H.1 2 a 11 - H.1 2 a 3) - H.1 2 a 0 by omega]
    have em0 : fX7_sweeps a m = fX7_sweeps_b64 a fe (min ((H.1 2 a 11 - H.1 2 a 3) - H.1 2 a 0) (H.1 2 fe 3 - H.1 2 fe 1)) m := by
      unfold fX7_sweeps
      rw [ev_ofA (by omega), ca2, cr_some, gd_pos (by omega), if_neg g, hw, cr_some, ev_money (by omega), cr_some, ev_ofA (by omega), cr_some, ca0, gd_pos (by omega), ev_money (by omega), cr_some, ev_ofA (by omega), cr_some, cf1, gd_pos (by omega), Int.add_zero, Int.add_zero, ca3, cf3, gd_pos (by omega), emin]
    have ehas : fX2_hasAccount fe H = some 1 := by rw [ev_hasA (by omega), bI_t (decide_eq_true (by omega))]
    generalize hmv : min ((H.1 2 a 11 - H.1 2 a 3) - H.1 2 a 0) (H.1 2 fe 3 - H.1 2 fe 1) = mv at *
    by_cases q : 0 < mv
    · have c1 : (hS H 2 fe 3 (H.1 2 fe 3 - mv)).1 2 fe 8 = H.1 2 fe 8 := hS_n H (by omega)
      have c2 : (hS (hS H 2 fe 3 (H.1 2 fe 3 - mv)) 2 fe 8 (H.1 2 fe 8 + mv)).1 2 a 3 = H.1 2 a 3 := by rw [hS_n _ (by omega), hS_n _ (by omega)]
      have c3 : (hS (hS (hS H 2 fe 3 (H.1 2 fe 3 - mv)) 2 fe 8 (H.1 2 fe 8 + mv)) 2 a 3 (H.1 2 a 3 + mv)).1 2 a 7 = H.1 2 a 7 := by rw [hS_n _ (by omega), hS_n _ (by omega), hS_n _ (by omega)]
      have d1 := h.acc (a := fe) (f := 3) (v := H.1 2 fe 3 - mv) (by omega) (by omega)
      have d2 := d1.acc (a := fe) (f := 8) (v := H.1 2 fe 8 + mv) (by rw [hS_n H (by omega)]; omega) (by omega)
      have d3 := d2.acc (a := a) (f := 3) (v := H.1 2 a 3 + mv) (by rw [hS_n _ (by omega), hS_n H (by omega)]; omega) (by omega)
      have d4 := d3.acc (a := a) (f := 7) (v := H.1 2 a 7 + mv) (by rw [hS_n _ (by omega), hS_n _ (by omega), hS_n H (by omega)]; omega) (by omega)
      refine ⟨_, _, fun fuel => ?_, ?_, d4, ⟨fun x hx f hf => ?_, fun x hx => ?_⟩, ⟨fun t x y r => by rw [hS_n _ (by omega), hS_n _ (by omega), hS_n _ (by omega), hS_n _ (by omega)], rfl⟩, ⟨fun t r => by rw [mS_t _ _ _ r, mS_t _ _ _ r, mS_t _ _ _ r, mS_t _ _ _ r], rfl⟩⟩
      · rw [fX2_sweep_b2, gd_pos (by omega), if_neg (by omega), gd_pos (by omega), hfe, ehas, cr_some, gd_pos (by omega), if_neg (by omega), gd_pos (by omega), gd_pos (by omega), gd_pos (by omega), gd_pos (by omega), hmv, gd_pos (by omega), if_pos q, bnd_eq, c1, bnd_eq, c2, bnd_eq, c3, bnd_eq]
      · rw [em0]
        unfold fX7_sweeps_b64
        rw [gd_pos (by omega), if_neg (by omega), ev_moves (by omega) (by omega), cl_some, ev_moves (by omega) (by omega), cl_some, ev_moves (by omega) (by omega), cl_some, ev_moves (by omega) (by omega), cl_some, show (3 : Int) + 0 = 3 from rfl, show (3 : Int) + 5 = 8 from rfl, show (3 : Int) + 4 = 7 from rfl, cf3, show H.1 2 fe 3 + -mv = H.1 2 fe 3 - mv by omega, mS_n m (show ¬ ((0 : Int) = 0 ∧ 33 + 11 * fe + 8 = 33 + 11 * fe + 3) by omega), cf8, mS_n _ (show ¬ ((0 : Int) = 0 ∧ 33 + 11 * a + 3 = 33 + 11 * fe + 8) by omega), mS_n _ (show ¬ ((0 : Int) = 0 ∧ 33 + 11 * a + 3 = 33 + 11 * fe + 3) by omega), ca3, mS_n _ (show ¬ ((0 : Int) = 0 ∧ 33 + 11 * a + 7 = 33 + 11 * a + 3) by omega), mS_n _ (show ¬ ((0 : Int) = 0 ∧ 33 + 11 * a + 7 = 33 + 11 * fe + 8) by omega), mS_n _ (show ¬ ((0 : Int) = 0 ∧ 33 + 11 * a + 7 = 33 + 11 * fe + 3) by omega), ca7]
      · rw [hS_n _ (by omega), hS_n _ (by omega), hS_n _ (by omega), hS_n _ (by omega)] at hx
        have := hM.1 x hx f hf
        rw [hS_1, hS_1, hS_1, hS_1]
        by_cases r1 : x = a ∧ f = 7
        · rw [if_pos ⟨rfl, r1.1, r1.2⟩]
          omega
        · rw [if_neg (by omega)]
          by_cases r2 : x = a ∧ f = 3
          · rw [if_pos ⟨rfl, r2.1, r2.2⟩]
            omega
          · rw [if_neg (by omega)]
            by_cases r3 : x = fe ∧ f = 8
            · rw [if_pos ⟨rfl, r3.1, r3.2⟩]
              omega
            · rw [if_neg (by omega)]
              by_cases r4 : x = fe ∧ f = 3
              · rw [if_pos ⟨rfl, r4.1, r4.2⟩]
                omega
              · rw [if_neg (by omega)]
                omega
      · rw [hS_n _ (by omega), hS_n _ (by omega), hS_n _ (by omega), hS_n _ (by omega)] at hx
        obtain ⟨n, n1, n2, n3⟩ := hM.2 x hx
        refine ⟨n, n1, n2, ?_⟩
        rw [hS_n _ (by omega), hS_1, hS_n _ (by omega), hS_1]
        by_cases r2 : x = a
        · rw [if_pos ⟨rfl, r2, rfl⟩]
          rw [r2] at n3
          omega
        · rw [if_neg (by omega)]
          by_cases r4 : x = fe
          · rw [if_pos ⟨rfl, r4, rfl⟩]
            omega
          · rw [if_neg (by omega)]
            exact n3
    · refine ⟨H, m, fun fuel => ?_, ?_, h, same, ⟨fun _ _ _ _ => rfl, rfl⟩, ⟨fun _ _ => rfl, rfl⟩⟩
      · rw [fX2_sweep_b2, gd_pos (by omega), if_neg (by omega), gd_pos (by omega), hfe, ehas, cr_some, gd_pos (by omega), if_neg (by omega), gd_pos (by omega), gd_pos (by omega), gd_pos (by omega), gd_pos (by omega), hmv, gd_pos (by omega), if_neg q]
      · rw [em0]
        unfold fX7_sweeps_b64
        rw [gd_pos (by omega), if_pos (by omega)]
/-- what comes behind the sweeps in a day of the reference -/
noncomputable def restM (m : mR) : Option (Unit × mR) :=
  cr (fX7_today m) fun r67 =>
  cr (fX7_isBusiness r67 m) fun r70 =>
  gd (wR r70) <|
  if r70 = 0 then (
    fX7_passesDay_b82 fuel0 0 m)
  else (
    cl (fX7_paysAll m) fun r77 m77 =>
    fX7_passesDay_b82 fuel0 0 m77)
theorem ls_sweeps {F K1 K : Int} (hK : 0 ≤ K1 ∧ K1 ≤ K ∧ K ≤ 1125899906842624) : ∀ (k fC fM : Nat) (a B : Int) (H : hR) (m : mR), a + k = H.1 0 4 0 → 0 ≤ a → k < fC → k < fM → Mid F (fun _ => 0) H m → (∀ i : Int, 0 ≤ i ∧ i < H.1 4 2 0 → ¬ H.1 5 1 i = 0) → MB B K1 K H → (0 ≤ B ∧ B + k * (8400000000 + K) ≤ 4611686018427387904) →
    ∃ H' m', fX2_sweep_b2 fC a H = some ((), H') ∧ fX7_passesDay_b42 fM a m = restM m' ∧ Mid F (fun _ => 0) H' m' ∧ MB (B + k * (8400000000 + K)) K1 K H' ∧ moneyF H H' ∧ rows0F m m'
  | k, 0, _, _, _, _, _, _, _, h, _, _, _, _, _ => by omega
  | k, _ + 1, 0, _, _, _, _, _, _, _, h, _, _, _, _ => by omega
  | 0, fC + 1, fM + 1, a, B, H, m, hk, ha0, _, _, h, hA, hM, hB => by
    have k1 := h.2.2.1
    unfold okN at k1
    have e1 : m.1 0 1 = H.1 0 4 0 := h.1.1.2.1
    refine ⟨H, m, ?_, ?_, h, ?_, ⟨fun _ _ _ _ => rfl, rfl⟩, ⟨fun _ _ => rfl, rfl⟩⟩
    · rw [fX2_sweep_b2, gd_pos (by omega), if_pos (by omega)]
    · rw [fX7_passesDay_b42, gd_pos (by omega), gd_pos (by omega), if_pos (by omega)]
      rfl
    · rw [show B + ((0 : Nat) : Int) * (8400000000 + K) = B by simp]
      exact hM
  | k + 1, fC + 1, fM + 1, a, B, H, m, hk, ha0, hfC, hfM, h, hA, hM, hB => by
    have k1 := h.2.2.1
    unfold okN at k1
    have e1 : m.1 0 1 = H.1 0 4 0 := h.1.1.2.1
    have ek : B + ((k + 1 : Nat) : Int) * (8400000000 + K) = (B + 8400000000 + K) + k * (8400000000 + K) := by
      rw [show ((k + 1 : Nat) : Int) = k + 1 by omega, Int.add_mul, Int.one_mul]
      omega
    have hkp : 0 ≤ (k : Int) * (8400000000 + K) := Int.mul_nonneg (by omega) (by omega)
    obtain ⟨H1, m1, y1, y2, y3, y4, y5, y6⟩ := ls_sweep1 h hA hM (by omega) hK (a := a) (by omega)
    have e04 : H1.1 0 4 0 = H.1 0 4 0 := y5.1 _ _ _ (by omega)
    obtain ⟨H', m', z1, z2, z3, z4, z5, z6⟩ := ls_sweeps hK k fC fM (a + 1) (B + 8400000000 + K) H1 m1 (by omega) (by omega) (by omega) (by omega) y3 (fun i hi => by
      rw [y5.1 4 2 0 (by omega)] at hi
      rw [y5.1 5 1 i (by omega)]
      exact hA i hi) y4 (by omega)
    refine ⟨H', m', ?_, ?_, z3, ?_, ⟨fun t x y q => (z5.1 t x y q).trans (y5.1 t x y q), z5.2.trans y5.2⟩, ⟨fun t q => (z6.1 t q).trans (y6.1 t q), z6.2.trans y6.2⟩⟩
    · rw [y1, z1]
    · rw [fX7_passesDay_b42, gd_pos (by omega), gd_pos (by omega), if_neg (by omega), y2, cl_some, z2]
    · rw [ek]
      exact z4
end
section
/-! ===== one payment is tried, in step ===== -/
theorem stl_c (H : hR) (p t a b : Int) : (stl H p).1 t a b = if t = 5 ∧ a = 1 ∧ b = p then 0 else if t = 2 ∧ a = H.1 3 (H.1 5 0 p) 0 ∧ b = 11 then H.1 2 (H.1 3 (H.1 5 0 p) 0) 11 - H.1 5 1 p else if t = 3 ∧ a = H.1 5 0 p ∧ b = 15 then H.1 3 (H.1 5 0 p) 15 - 1 else H.1 t a b := rfl
theorem Mid.failS {F : Int} {x : Int → Int} {H : hR} {m : mR} (h : Mid F x H m) (v w : Int) : Mid (F + 1) x (hS (hS H 0 10 0 (H.1 0 10 0 + 1)) 0 11 0 v) (mS (mS m 0 8 (m.1 0 8 + 1)) 6 8 w) := by
  obtain ⟨⟨c1, c2, c3, c4, c5⟩, t, k1, k2, k3, k4, k5, k6⟩ := h
  have k1' := k1
  unfold okN at k1'
  obtain ⟨g1, g2, g3, g4, g6, g7, g8, g9, g10⟩ := c1
  have n : ∀ k : Int, ¬ k = 8 → (mS (mS m 0 8 (m.1 0 8 + 1)) 6 8 w).1 0 k = m.1 0 k := fun k q => by rw [mS_n _ (by omega), mS_n _ (by omega)]
  have e : ∀ t x y : Int, ¬ (t = 0 ∧ x = 10 ∧ y = 0) → ¬ (t = 0 ∧ x = 11 ∧ y = 0) → (hS (hS H 0 10 0 (H.1 0 10 0 + 1)) 0 11 0 v).1 t x y = H.1 t x y := fun t x y q r => by rw [hS_n _ r, hS_n _ q]
  have e10 : (hS (hS H 0 10 0 (H.1 0 10 0 + 1)) 0 11 0 v).1 0 10 0 = H.1 0 10 0 + 1 := by rw [hS_n _ (by omega), hS_p]
  refine ⟨⟨⟨?_, ?_, ?_, ?_, ?_, ?_, ?_, ?_, ?_⟩, c2.fr (fun x => e _ _ _ (by omega) (by omega)) (fun k q => n k (by omega)), c3.fr (fun a f q => e _ _ _ (by omega) (by omega)) (fun a => rfl) (fun k q => n k (by omega)) (fun a => rfl) (by omega), c4.fr (fun o y q => e _ _ _ (by omega) (by omega)) (fun k q => n k (by omega)) (by omega), c5.fr (e _ _ _ (by omega) (by omega)) (fun c i => e _ _ _ (by omega) (by omega)) (by rw [mS_t _ _ _ (by omega), mS_t _ _ _ (by omega)]) (n 4 (by omega))⟩, t.fr (e _ _ _ (by omega) (by omega)) (fun o y q => e _ _ _ (by omega) (by omega)) (fun k q => n k (by omega)), k1.fr (e _ _ _ (by omega) (by omega)) (e _ _ _ (by omega) (by omega)) (e _ _ _ (by omega) (by omega)) (e _ _ _ (by omega) (by omega)), ?_, k3.fr (e _ _ _ (by omega) (by omega)) (fun x y q => e _ _ _ (by omega) (by omega)), k4.fr (e _ _ _ (by omega) (by omega)) (e _ _ _ (by omega) (by omega)) (fun o y q => e _ _ _ (by omega) (by omega)), k5.fr (e _ _ _ (by omega) (by omega)) (e _ _ _ (by omega) (by omega)) (fun c i => e _ _ _ (by omega) (by omega)), k6.fr (e _ _ _ (by omega) (by omega)) (e _ _ _ (by omega) (by omega)) (e _ _ _ (by omega) (by omega)) (fun c i => e _ _ _ (by omega) (by omega)) (fun x => e _ _ _ (by omega) (by omega)) (fun o y => e _ _ _ (by omega) (by omega))⟩
  · rw [n _ (by omega), e _ _ _ (by omega) (by omega)]; exact g1
  · rw [n _ (by omega), e _ _ _ (by omega) (by omega)]; exact g2
  · rw [n _ (by omega), e _ _ _ (by omega) (by omega)]; exact g3
  · rw [n _ (by omega), e _ _ _ (by omega) (by omega)]; exact g4
  · rw [mS_n _ (by omega), mS_p, e10, g6]
  · rw [n _ (by omega), e _ _ _ (by omega) (by omega)]; exact g7
  · rw [n _ (by omega), e _ _ _ (by omega) (by omega)]; exact g8
  · rw [n _ (by omega), e _ _ _ (by omega) (by omega)]; exact g9
  · rw [n _ (by omega), e _ _ _ (by omega) (by omega)]; exact g10
  · unfold okS4 at *
    rw [e10, e 0 6 0 (by omega) (by omega), e 0 7 0 (by omega) (by omega), e 0 8 0 (by omega) (by omega), e 0 9 0 (by omega) (by omega), e 1 2 0 (by omega) (by omega)]
    omega
/-- an entry that is settled: its tries don't count any more -/
theorem Mid.f9 {F p : Int} {x x' : Int → Int} {H H' : hR} {m : mR} (h : Mid F x H m) (hA : H.1 5 1 p = 0) (hH : ∀ t a b : Int, ¬ (t = 5 ∧ a = 4 ∧ b = p) → H'.1 t a b = H.1 t a b) (hD : H'.2 = H.2) (hf : 0 ≤ H'.1 5 4 p ∧ H'.1 5 4 p ≤ 9) (hx : ∀ i : Int, ¬ i = p → x' i = x i) : Mid F x' H' m := by
  obtain ⟨⟨c1, c2, c3, c4, c5⟩, t, k1, k2, k3, k4, k5, k6⟩ := h
  have k1' := k1
  unfold okN at k1'
  have g2 := c1.2.1
  have g3 := c1.2.2.1
  have e5 : H'.1 5 1 = H.1 5 1 := funext (fun i => hH _ _ _ (by omega))
  refine ⟨⟨c1.fr (fun t x q => hH _ _ _ (by omega)) (fun k q => rfl), c2.fr (fun x => hH _ _ _ (by omega)) (fun k q => rfl), c3.fr (fun a f q => hH _ _ _ (by omega)) (fun a => by rw [hD]) (fun k q => rfl) (fun a => rfl) (by omega), c4.fr (fun o y q => hH _ _ _ (by omega)) (fun k q => rfl) (by omega), ⟨?_, fun i hi hA' => ?_⟩⟩, t.fr (hH _ _ _ (by omega)) (fun o y q => hH _ _ _ (by omega)) (fun k q => rfl), k1.fr (hH _ _ _ (by omega)) (hH _ _ _ (by omega)) (hH _ _ _ (by omega)) (hH _ _ _ (by omega)), k2.fr (fun t x q => hH _ _ _ (by omega)), k3.fr (hH _ _ _ (by omega)) (fun x y q => hH _ _ _ (by omega)), k4.fr (hH _ _ _ (by omega)) (hH _ _ _ (by omega)) (fun o y q => hH _ _ _ (by omega)), ⟨fun i hi => ?_, fun i j a b c => ?_⟩, ⟨fun a q => ?_, fun o q => ?_⟩⟩
  · rw [e5, hH 4 2 0 (by omega)]; exact c5.1
  · rw [hH 4 2 0 (by omega)] at hi
    rw [e5] at hA' ⊢
    have hip : ¬ (i : Int) = p := fun q => hA' (by rw [q]; exact hA)
    rw [hH 5 0 i (by omega), hH 5 2 i (by omega), hH 5 3 i (by omega), hH 5 4 i (by omega), hx _ hip]
    exact c5.2 i hi hA'
  · rw [hH 4 2 0 (by omega)] at hi
    have := k5.1 i hi
    rw [hH 5 0 i (by omega), hH 5 1 i (by omega), hH 5 2 i (by omega), hH 5 3 i (by omega), hH 0 5 0 (by omega)]
    by_cases q : i = p
    · subst q
      omega
    · rw [hH 5 4 i (by omega)]
      exact this
  · rw [hH 4 2 0 (by omega)] at c
    rw [hH 5 0 i (by omega), hH 5 3 i (by omega), hH 5 0 j (by omega), hH 5 3 j (by omega)]
    exact k5.2 i j a b c
  · rw [hH 0 4 0 (by omega)] at q
    rw [hH 2 a 11 (by omega), hH 4 2 0 (by omega), k6.1 a q]
    have : ∀ n : Nat, sumW H' a n = sumW H a n := fun n => by
      induction n with
      | zero => rfl
      | succ n ih => rw [sumW_s, sumW_s, ih, hH 5 0 n (by omega), hH 5 1 n (by omega), hH 3 _ 0 (by omega)]
    rw [this]
  · rw [hH 0 5 0 (by omega)] at q
    rw [hH 3 o 15 (by omega), hH 4 2 0 (by omega), k6.2 o q, cntV_fr (H := H) _ (fun i _ => ⟨hH _ _ _ (by omega), hH _ _ _ (by omega)⟩)]
/-- an entry that goes on waiting: tried today, failed once more -/
theorem Mid.tag {F : Int} {x : Int → Int} {H : hR} {m : mR} {p : Nat} (h : Mid F x H m) (hp : (p : Int) < H.1 4 2 0) (hA : ¬ H.1 5 1 p = 0) (hf : H.1 5 4 p + 1 ≤ 8) : Mid F (up1 x p 1) (hS H 5 4 p (H.1 5 4 p + 1)) (mS m 1 (rk (H.1 5 1) p) (pkW (H.1 5 0 p) (H.1 5 1 p) (H.1 5 2 p) (H.1 5 3 p) (H.1 5 4 p + 1) 1)) := by
  obtain ⟨⟨c1, c2, c3, c4, c5⟩, t, k1, k2, k3, k4, k5, k6⟩ := h
  have k1' := k1
  unfold okN at k1'
  have g2 := c1.2.1
  have g3 := c1.2.2.1
  have hH : ∀ t a b : Int, ¬ (t = 5 ∧ a = 4 ∧ b = p) → (hS H 5 4 p (H.1 5 4 p + 1)).1 t a b = H.1 t a b := fun t a b q => hS_n H q
  have n : ∀ k : Int, (mS m 1 (rk (H.1 5 1) p) (pkW (H.1 5 0 p) (H.1 5 1 p) (H.1 5 2 p) (H.1 5 3 p) (H.1 5 4 p + 1) 1)).1 0 k = m.1 0 k := fun k => mS_n m (by omega)
  have e5 : (hS H 5 4 p (H.1 5 4 p + 1)).1 5 1 = H.1 5 1 := funext (fun i => hH _ _ _ (by omega))
  refine ⟨⟨c1.fr (fun t x q => hH _ _ _ (by omega)) (fun k q => n k), c2.fr (fun x => hH _ _ _ (by omega)) (fun k q => n k), c3.fr (fun a f q => hH _ _ _ (by omega)) (fun a => rfl) (fun k q => n k) (fun a => rfl) (by omega), c4.fr (fun o y q => hH _ _ _ (by omega)) (fun k q => n k) (by omega), ⟨?_, fun i hi hA' => ?_⟩⟩, t.fr (hH _ _ _ (by omega)) (fun o y q => hH _ _ _ (by omega)) (fun k q => n k), k1.fr (hH _ _ _ (by omega)) (hH _ _ _ (by omega)) (hH _ _ _ (by omega)) (hH _ _ _ (by omega)), k2.fr (fun t x q => hH _ _ _ (by omega)), k3.fr (hH _ _ _ (by omega)) (fun x y q => hH _ _ _ (by omega)), k4.fr (hH _ _ _ (by omega)) (hH _ _ _ (by omega)) (fun o y q => hH _ _ _ (by omega)), ⟨fun i hi => ?_, fun i j a b c => ?_⟩, ⟨fun a q => ?_, fun o q => ?_⟩⟩
  · rw [e5, hH 4 2 0 (by omega), n]; exact c5.1
  · rw [hH 4 2 0 (by omega)] at hi
    rw [e5] at hA' ⊢
    by_cases hip : (i : Int) = p
    · have hip' : i = p := by omega
      subst hip'
      rw [mS_p, hH 5 0 i (by omega), hH 5 2 i (by omega), hH 5 3 i (by omega), hS_p, up1_p]
    · have hne : ¬ rk (H.1 5 1) i = rk (H.1 5 1) p := by
        by_cases q : i < p
        · have := rk_lt (A := H.1 5 1) q hA'
          omega
        · have := rk_lt (A := H.1 5 1) (n := p) (k := i) (by omega) hA
          omega
      rw [mS_n m (by omega), hH 5 0 i (by omega), hH 5 2 i (by omega), hH 5 3 i (by omega), hH 5 4 i (by omega), up1_n _ _ hip]
      exact c5.2 i hi hA'
  · rw [hH 4 2 0 (by omega)] at hi
    have := k5.1 i hi
    rw [hH 5 0 i (by omega), hH 5 1 i (by omega), hH 5 2 i (by omega), hH 5 3 i (by omega), hH 0 5 0 (by omega)]
    by_cases q : i = p
    · subst q
      rw [hS_p]
      omega
    · rw [hH 5 4 i (by omega)]
      exact this
  · rw [hH 4 2 0 (by omega)] at c
    rw [hH 5 0 i (by omega), hH 5 3 i (by omega), hH 5 0 j (by omega), hH 5 3 j (by omega)]
    exact k5.2 i j a b c
  · rw [hH 0 4 0 (by omega)] at q
    rw [hH 2 a 11 (by omega), hH 4 2 0 (by omega), k6.1 a q]
    have : ∀ n : Nat, sumW (hS H 5 4 p (H.1 5 4 p + 1)) a n = sumW H a n := fun n => by
      induction n with
      | zero => rfl
      | succ n ih => rw [sumW_s, sumW_s, ih, hH 5 0 n (by omega), hH 5 1 n (by omega), hH 3 _ 0 (by omega)]
    rw [this]
  · rw [hH 0 5 0 (by omega)] at q
    rw [hH 3 o 15 (by omega), hH 4 2 0 (by omega), k6.2 o q, cntV_fr (H := H) _ (fun i _ => ⟨hH _ _ _ (by omega), hH _ _ _ (by omega)⟩)]
/-- what a try leaves as it is -/
def payF (p : Int) (H H' : hR) : Prop := (∀ t a b : Int, ¬ (t = 2 ∧ 3 ≤ b) → ¬ (t = 3 ∧ (b = 12 ∨ b = 13 ∨ b = 15)) → ¬ (t = 0 ∧ (a = 10 ∨ a = 11)) → ¬ (t = 5 ∧ b = p ∧ (a = 1 ∨ a = 4)) → H'.1 t a b = H.1 t a b) ∧ H'.2 = H.2 ∧ (H'.1 5 1 p = 0 ∨ (H'.1 5 1 p = H.1 5 1 p ∧ H'.1 5 4 p = H.1 5 4 p + 1))
def rowsP (m m' : mR) : Prop := (∀ t : Int, ¬ t = 0 → ¬ t = 1 → ¬ t = 6 → m'.1 t = m.1 t) ∧ m'.2 = m.2 ∧ ∀ k : Int, ¬ k = 8 → m'.1 6 k = m.1 6 k
/-- the day's failed payers, a bit for each, on both sides -/
def flg (H : hR) (m : mR) : Prop := H.1 0 11 0 = m.1 6 8 ∧ 0 ≤ H.1 0 11 0 ∧ H.1 0 11 0 ≤ 255
theorem flg.fr {H H' : hR} {m m' : mR} (h : flg H m) (e1 : H'.1 0 11 0 = H.1 0 11 0) (e2 : m'.1 6 8 = m.1 6 8) : flg H' m' := by
  unfold flg at *
  rw [e1, e2]
  exact h
theorem flg.of {H' : hR} {m' : mR} {v : Int} (e1 : H'.1 0 11 0 = v) (e2 : m'.1 6 8 = v) (h : 0 ≤ v ∧ v ≤ 255) : flg H' m' := by
  unfold flg
  rw [e1, e2]
  exact ⟨rfl, h⟩
theorem flag_c : ∀ x : Nat, x < 256 → ∀ a : Nat, a < 8 → 0 ≤ orI x (shlI 1 a) ∧ orI x (shlI 1 a) ≤ 255 := by decide +kernel
theorem flag_or {x a : Int} (hx : 0 ≤ x ∧ x ≤ 255) (ha : 0 ≤ a ∧ a < 8) : 0 ≤ orI x (shlI 1 a) ∧ orI x (shlI 1 a) ≤ 255 := by
  obtain ⟨k, hk, rfl⟩ := toN (n := 256) (d := x) (by omega)
  obtain ⟨j, hj, rfl⟩ := toN (n := 8) ha
  exact flag_c k (by omega) j (by omega)
theorem stl_frame (H : hR) (p t a b : Int) (h1 : ¬ (t = 5 ∧ a = 1 ∧ b = p)) (h2 : ¬ (t = 2 ∧ b = 11)) (h3 : ¬ (t = 3 ∧ b = 15)) : (stl H p).1 t a b = H.1 t a b := by
  rw [stl_c, if_neg h1, if_neg (fun q => h2 ⟨q.1, q.2.2⟩), if_neg (fun q => h3 ⟨q.1, q.2.2⟩)]
theorem MB.to {B K1 K B' K' : Int} {H H' : hR} (h : MB B K1 K H) (h4 : H'.1 0 4 0 = H.1 0 4 0) (hf : ∀ a : Int, 0 ≤ a ∧ a < H.1 0 4 0 → ∀ f : Int, 3 ≤ f ∧ f ≤ 10 → -B' ≤ H'.1 2 a f ∧ H'.1 2 a f ≤ B') (hD : H'.2 = H.2) (hq : ∀ a : Int, 0 ≤ a ∧ a < H.1 0 4 0 → -H'.1 2 a 3 + K1 ≤ K' ∨ -H'.1 2 a 3 + K ≤ -H.1 2 a 3 + K') : MB B' K1 K' H' := by
  refine ⟨fun a ha => ?_, fun a ha => ?_⟩
  · rw [h4] at ha
    exact hf a ha
  · rw [h4] at ha
    obtain ⟨n, n1, n2, n3⟩ := h.2 a ha
    rw [hD]
    refine ⟨n, n1, n2, ?_⟩
    rcases hq a ha with q | q
    · have : (-H'.1 2 a 3 + K1) * 2 ^ 80 ≤ K' * 2 ^ 80 := Int.mul_le_mul_of_nonneg_right q (by decide)
      rw [Int.add_mul] at this
      omega
    · have : (-H'.1 2 a 3 + K) * 2 ^ 80 ≤ (-H.1 2 a 3 + K') * 2 ^ 80 := Int.mul_le_mul_of_nonneg_right q (by decide)
      rw [Int.add_mul, Int.add_mul] at this
      omega
theorem ls_made {F B K1 K a o amt : Int} {x : Int → Int} {H : hR} {m : mR} {p : Nat} (h : Mid F x H m) (hx : ∀ i : Int, 0 ≤ x i ∧ x i ≤ 1) (hM : MB B K1 K H) (hB : 0 ≤ B ∧ B ≤ 4611686018427387904) (hK : 0 ≤ K1 ∧ K1 + 1000000 ≤ K) (hp : (p : Int) < H.1 4 2 0) (ho : H.1 5 0 p = o) (ham : H.1 5 1 p = amt) (hA : ¬ amt = 0) (ha : H.1 3 o 0 = a) (hfl : flg H m) (hge : amt ≤ H.1 2 a 3 + H.1 2 a 0) :
    ∃ H' m', fX2_tryPayment p H = some ((), H') ∧ fX7_tries (rk (H.1 5 1) p) m = some ((), m') ∧ Mid F x H' m' ∧ MB (B + 1000000) K1 (K + 10000) H' ∧ flg H' m' ∧ payF p H H' ∧ rowsP m m' ∧ H'.1 5 1 p = 0 := by
  have k1 := h.2.2.1
  unfold okN at k1
  have hroom := roomOK_rng k1.2.2.2.2
  obtain ⟨v1, v2, v3, v4, v5⟩ := h.2.2.2.2.2.2.1.1 p (by omega)
  rw [ho] at v1
  rw [ham] at v2
  obtain ⟨w1, w2, w3⟩ := h.2.2.2.2.2.1 o v1
  unfold okP at w2
  rw [ha] at w2
  obtain ⟨o1, o2, o3⟩ := h.2.2.2.2.1 a w2.1
  obtain ⟨p0, p1, p2, p3, p4, p5⟩ := MC.part h hx hp (by rw [ham]; exact hA)
  rw [ho] at p0
  rw [ham] at p1
  have hc := MC.atO h v1
  have c0 : m.1 0 (121 + 16 * o + 0) = a := (hc 0 (by omega)).trans ha
  have c1 : m.1 0 (121 + 16 * o + 1) = if H.1 3 o 1 = -6 then 8 else H.1 3 o 1 := hc 1 (by omega)
  have c11 : m.1 0 (121 + 16 * o + 11) = H.1 3 o 12 := hc 11 (by omega)
  have ca0 := MC.at h w2.1 (f := 0) (by omega)
  have ca3 := MC.at h w2.1 (f := 3) (by omega)
  have ca5 := MC.at h w2.1 (f := 5) (by omega)
  have mA3 := hM.1 a w2.1 3 (by omega)
  have mA5 := hM.1 a w2.1 5 (by omega)
  have em0 : fX7_tries (rk (H.1 5 1) p) m = cl (fX7_moves a 0 (-amt) m) fun r57 m57 => cl (fX7_moves a 2 amt m57) fun r65 m65 => gd (wR (if H.1 3 o 1 = -6 then 8 else H.1 3 o 1)) <| if (if H.1 3 o 1 = -6 then 8 else H.1 3 o 1) = 8 then (fX7_tries_b93 (rk (H.1 5 1) p) o m65) else (cl (fX7_moves (if H.1 3 o 1 = -6 then 8 else H.1 3 o 1) 0 amt m65) fun r81 m81 => cl (fX7_moves (if H.1 3 o 1 = -6 then 8 else H.1 3 o 1) 3 amt m81) fun r90 m90 => fX7_tries_b93 (rk (H.1 5 1) p) o m90) := by
    unfold fX7_tries
    rw [p0, cr_some, ev_ofO (by omega), cr_some, c0, ev_ofO (by omega), cr_some, c1, p1, cr_some, gd_pos (by omega), ev_money (by omega), cr_some, Int.add_zero, ca3, ev_ofA (by omega), cr_some, ca0, gd_pos (by omega), gd_pos (by omega), if_neg (by omega)]
  have ec0 : fX2_tryPayment p H = bnd (hS H 2 a 3 (H.1 2 a 3 - amt)) fun H72 => bnd (hS H72 2 a 5 (H72.1 2 a 5 + amt)) fun H84 => cr (fX2_hasAccount (H84.1 3 o 1) H84) fun r92 => gd (wR r92) <| if r92 = 0 then (fX2_tryPayment_b138 p o H84) else (gd (0 ≤ (H84.1 3 o 1) ∧ (H84.1 3 o 1) < 8) <| gd (wR amt) <| bnd (hS H84 2 (H84.1 3 o 1) 3 ((H84.1 2 (H84.1 3 o 1) 3) + amt)) fun H115 => gd (0 ≤ (H115.1 3 o 1) ∧ (H115.1 3 o 1) < 8) <| gd (wR amt) <| bnd (hS H115 2 (H115.1 3 o 1) 6 ((H115.1 2 (H115.1 3 o 1) 6) + amt)) fun H135 => fX2_tryPayment_b138 p o H135) := by
    unfold fX2_tryPayment
    rw [gd_pos (by omega), ho, gd_pos (by omega), ha, gd_pos (by omega), gd_pos (by omega), gd_pos (by omega), ham, gd_pos (by omega), gd_pos (by omega), if_pos hge, gd_pos (by omega), bnd_eq, gd_pos (by omega)]
    rfl
  -- both accounts
  have key : ∃ H5 m5, fX2_tryPayment p H = fX2_tryPayment_b138 p o H5 ∧ fX7_tries (rk (H.1 5 1) p) m = fX7_tries_b93 (rk (H.1 5 1) p) o m5 ∧ Mid F x H5 m5 ∧ moneyF H H5 ∧ rows0F m m5 ∧ (∀ j : Int, ¬ (33 ≤ j ∧ j ≤ 120) → m5.1 0 j = m.1 0 j) ∧ MB (B + 1000000) K1 (K + 10000) H5 := by
    have d1 := h.acc (a := a) (f := 3) (v := H.1 2 a 3 - amt) w2.1 (by omega)
    have d2 := d1.acc (a := a) (f := 5) (v := H.1 2 a 5 + amt) (by rw [hS_n H (by omega)]; exact w2.1) (by omega)
    have r5 : (hS H 2 a 3 (H.1 2 a 3 - amt)).1 2 a 5 = H.1 2 a 5 := hS_n H (by omega)
    have r31 : (hS (hS H 2 a 3 (H.1 2 a 3 - amt)) 2 a 5 (H.1 2 a 5 + amt)).1 3 o 1 = H.1 3 o 1 := by rw [hS_n _ (by omega), hS_n _ (by omega)]
    have r04 : (hS (hS H 2 a 3 (H.1 2 a 3 - amt)) 2 a 5 (H.1 2 a 5 + amt)).1 0 4 0 = H.1 0 4 0 := by rw [hS_n _ (by omega), hS_n _ (by omega)]
    have n5 : (mS m 0 (33 + 11 * a + 3) (H.1 2 a 3 - amt)).1 0 (33 + 11 * a + 5) = H.1 2 a 5 := (mS_n m (by omega)).trans ca5
    have e1 : fX7_moves a 0 (-amt) m = some ((), mS m 0 (33 + 11 * a + 3) (H.1 2 a 3 - amt)) := by rw [ev_moves (by omega) (by omega), show (3 : Int) + 0 = 3 from rfl, ca3, show H.1 2 a 3 + -amt = H.1 2 a 3 - amt by omega]
    have e2 : fX7_moves a 2 amt (mS m 0 (33 + 11 * a + 3) (H.1 2 a 3 - amt)) = some ((), mS (mS m 0 (33 + 11 * a + 3) (H.1 2 a 3 - amt)) 0 (33 + 11 * a + 5) (H.1 2 a 5 + amt)) := by rw [ev_moves (by omega) (by omega), show (3 : Int) + 2 = 5 from rfl, n5]
    by_cases g : H.1 3 o 1 = -6
    · refine ⟨hS (hS H 2 a 3 (H.1 2 a 3 - amt)) 2 a 5 (H.1 2 a 5 + amt), mS (mS m 0 (33 + 11 * a + 3) (H.1 2 a 3 - amt)) 0 (33 + 11 * a + 5) (H.1 2 a 5 + amt), ?_, ?_, d2, ⟨fun t x y q => by rw [hS_n _ (by omega), hS_n _ (by omega)], rfl⟩, ⟨fun t q => by rw [mS_t _ _ _ q, mS_t _ _ _ q], rfl⟩, fun j q => by rw [mS_n _ (by omega), mS_n _ (by omega)], hM.to r04 (fun y hy f hf => ?_) rfl (fun y hy => ?_)⟩
      · rw [ec0, bnd_eq, r5, bnd_eq, r31, g, ev_hasA (by rw [r04]; omega), bI_f (decide_eq_false (by omega)), cr_some, gd_pos (by omega), if_pos rfl]
      · rw [em0, e1, cl_some, e2, cl_some, if_pos g, gd_pos (by omega), if_pos rfl]
      · have := hM.1 y hy f hf
        rw [hS_1, hS_1]
        by_cases q1 : y = a ∧ f = 5
        · rw [if_pos ⟨rfl, q1.1, q1.2⟩]
          omega
        · rw [if_neg (by omega)]
          by_cases q2 : y = a ∧ f = 3
          · rw [if_pos ⟨rfl, q2.1, q2.2⟩]
            omega
          · rw [if_neg (by omega)]
            omega
      · rw [hS_n _ (by omega), hS_1]
        by_cases q2 : y = a
        · rw [if_pos ⟨rfl, q2, rfl⟩]
          left
          omega
        · rw [if_neg (by omega)]
          right
          omega
    · have hg : 0 ≤ H.1 3 o 1 ∧ H.1 3 o 1 < H.1 0 4 0 ∧ ¬ H.1 3 o 1 = a := by omega
      generalize hge' : H.1 3 o 1 = ge at *
      have cg3 := MC.at h (a := ge) (f := 3) (by omega) (by omega)
      have cg6 := MC.at h (a := ge) (f := 6) (by omega) (by omega)
      have mG3 := hM.1 ge (by omega) 3 (by omega)
      have mG6 := hM.1 ge (by omega) 6 (by omega)
      have d3 := d2.acc (a := ge) (f := 3) (v := H.1 2 ge 3 + amt) (by rw [r04]; omega) (by omega)
      have d4 := d3.acc (a := ge) (f := 6) (v := H.1 2 ge 6 + amt) (by rw [hS_n _ (by omega), r04]; omega) (by omega)
      have s3 : (hS (hS H 2 a 3 (H.1 2 a 3 - amt)) 2 a 5 (H.1 2 a 5 + amt)).1 2 ge 3 = H.1 2 ge 3 := by rw [hS_n _ (by omega), hS_n _ (by omega)]
      have s31 : (hS (hS (hS H 2 a 3 (H.1 2 a 3 - amt)) 2 a 5 (H.1 2 a 5 + amt)) 2 ge 3 (H.1 2 ge 3 + amt)).1 3 o 1 = ge := by rw [hS_n _ (by omega), r31]
      have s6 : (hS (hS (hS H 2 a 3 (H.1 2 a 3 - amt)) 2 a 5 (H.1 2 a 5 + amt)) 2 ge 3 (H.1 2 ge 3 + amt)).1 2 ge 6 = H.1 2 ge 6 := by rw [hS_n _ (by omega), hS_n _ (by omega), hS_n _ (by omega)]
      have u3 : (mS (mS m 0 (33 + 11 * a + 3) (H.1 2 a 3 - amt)) 0 (33 + 11 * a + 5) (H.1 2 a 5 + amt)).1 0 (33 + 11 * ge + 3) = H.1 2 ge 3 := by rw [mS_n _ (by omega), mS_n _ (by omega), cg3]
      have u6 : (mS (mS (mS m 0 (33 + 11 * a + 3) (H.1 2 a 3 - amt)) 0 (33 + 11 * a + 5) (H.1 2 a 5 + amt)) 0 (33 + 11 * ge + 3) (H.1 2 ge 3 + amt)).1 0 (33 + 11 * ge + 6) = H.1 2 ge 6 := by rw [mS_n _ (by omega), mS_n _ (by omega), mS_n _ (by omega), cg6]
      have e3 : fX7_moves ge 0 amt (mS (mS m 0 (33 + 11 * a + 3) (H.1 2 a 3 - amt)) 0 (33 + 11 * a + 5) (H.1 2 a 5 + amt)) = some ((), mS (mS (mS m 0 (33 + 11 * a + 3) (H.1 2 a 3 - amt)) 0 (33 + 11 * a + 5) (H.1 2 a 5 + amt)) 0 (33 + 11 * ge + 3) (H.1 2 ge 3 + amt)) := by rw [ev_moves (by omega) (by omega), show (3 : Int) + 0 = 3 from rfl, u3]
      have e4 : fX7_moves ge 3 amt (mS (mS (mS m 0 (33 + 11 * a + 3) (H.1 2 a 3 - amt)) 0 (33 + 11 * a + 5) (H.1 2 a 5 + amt)) 0 (33 + 11 * ge + 3) (H.1 2 ge 3 + amt)) = some ((), mS (mS (mS (mS m 0 (33 + 11 * a + 3) (H.1 2 a 3 - amt)) 0 (33 + 11 * a + 5) (H.1 2 a 5 + amt)) 0 (33 + 11 * ge + 3) (H.1 2 ge 3 + amt)) 0 (33 + 11 * ge + 6) (H.1 2 ge 6 + amt)) := by rw [ev_moves (by omega) (by omega), show (3 : Int) + 3 = 6 from rfl, u6]
      refine ⟨_, _, ?_, ?_, d4, ⟨fun t x y q => by rw [hS_n _ (by omega), hS_n _ (by omega), hS_n _ (by omega), hS_n _ (by omega)], rfl⟩, ⟨fun t q => by rw [mS_t _ _ _ q, mS_t _ _ _ q, mS_t _ _ _ q, mS_t _ _ _ q], rfl⟩, fun j q => by rw [mS_n _ (by omega), mS_n _ (by omega), mS_n _ (by omega), mS_n _ (by omega)], hM.to (by rw [hS_n _ (by omega), hS_n _ (by omega), r04]) (fun y hy f hf => ?_) rfl (fun y hy => ?_)⟩
      · rw [ec0, bnd_eq, r5, bnd_eq, r31, ev_hasA (by rw [r04]; omega), r04, bI_t (decide_eq_true (by omega)), cr_some, gd_pos (by omega), if_neg (by omega), gd_pos (by omega), gd_pos (by omega), s3, bnd_eq, s31, gd_pos (by omega), gd_pos (by omega), s6, bnd_eq]
      · rw [em0, e1, cl_some, e2, cl_some, if_neg g, gd_pos (by omega), if_neg (by omega), e3, cl_some, e4, cl_some]
      · have := hM.1 y hy f hf
        rw [hS_1, hS_1, hS_1, hS_1]
        by_cases q1 : y = ge ∧ f = 6
        · rw [if_pos ⟨rfl, q1.1, q1.2⟩]
          omega
        · rw [if_neg (by omega)]
          by_cases q2 : y = ge ∧ f = 3
          · rw [if_pos ⟨rfl, q2.1, q2.2⟩]
            omega
          · rw [if_neg (by omega)]
            by_cases q3 : y = a ∧ f = 5
            · rw [if_pos ⟨rfl, q3.1, q3.2⟩]
              omega
            · rw [if_neg (by omega)]
              by_cases q4 : y = a ∧ f = 3
              · rw [if_pos ⟨rfl, q4.1, q4.2⟩]
                omega
              · rw [if_neg (by omega)]
                omega
      · rw [hS_n _ (by omega), hS_1]
        by_cases q2 : y = ge
        · rw [if_pos ⟨rfl, q2, rfl⟩, q2]
          right
          omega
        · rw [if_neg (by omega), hS_n _ (by omega), hS_1]
          by_cases q3 : y = a
          · rw [if_pos ⟨rfl, q3, rfl⟩]
            left
            omega
          · rw [if_neg (by omega)]
            right
            omega
  obtain ⟨H5, m5, y1, y2, y3, y4, y5, y6, y7⟩ := key
  have z50 : H5.1 5 0 p = o := (y4.1 _ _ _ (by omega)).trans ho
  have z51 : H5.1 5 1 = H.1 5 1 := funext (fun i => y4.1 _ _ _ (by omega))
  have z12 : H5.1 3 o 12 = H.1 3 o 12 := y4.1 _ _ _ (by omega)
  obtain ⟨m', s1, s2, s3, s4, s5⟩ := Mid.settle (f := 12) (o := o) (p := p) (by omega) y3 (by rw [y4.1 4 2 0 (by omega)]; exact hp) (by rw [z51, ham]; exact hA) z50
  rw [z51] at s2
  have fr := fun t a b h1 h2 h3 => stl_frame (hS H5 3 o 12 (H5.1 3 o 12 + 1)) p t a b h1 h2 h3
  refine ⟨_, m', ?_, ?_, s3, y7.to ?_ (fun y hy f hf => ?_) rfl (fun y hy => ?_), ?_, ⟨fun t a b q1 q2 q3 q4 => ?_, ?_, ?_⟩, ⟨fun t q1 q2 q3 => ?_, ?_, fun k q => ?_⟩, ?_⟩
  · rw [y1]
    unfold fX2_tryPayment_b138
    rw [bnd_eq, s1, cl_some]
  · rw [y2]
    unfold fX7_tries_b93
    rw [gd_pos (by omega), gd_pos (by omega), bnd_eq, y6 _ (by omega), c11, bnd_eq, mS_n m5 (by omega), ← z12]
    rw [show (12 : Int) - 1 = 11 from rfl, show (12 : Int) - 7 = 5 from rfl] at s2
    rw [s2, cl_some]
  · rw [fr _ _ _ (by omega) (by omega) (by omega), hS_n _ (by omega)]
  · rw [fr _ _ _ (by omega) (by omega) (by omega), hS_n _ (by omega)]
    exact y7.1 y hy f hf
  · rw [fr _ _ _ (by omega) (by omega) (by omega), hS_n _ (by omega)]
    right
    omega
  · exact hfl.fr (by rw [fr _ _ _ (by omega) (by omega) (by omega), hS_n _ (by omega), y4.1 _ _ _ (by omega)]) (by rw [s4 6 (by omega) (by omega), y5.1 6 (by omega)])
  · rw [fr _ _ _ (by omega) (by omega) (by omega), hS_n _ (by omega), y4.1 _ _ _ (by omega)]
  · exact y4.2
  · left
    rw [stl_c, if_pos ⟨rfl, rfl, rfl⟩]
  · rw [s4 t q1 q2, y5.1 t q1]
  · rw [s5, y5.2]
  · rw [s4 6 (by omega) (by omega), y5.1 6 (by omega)]
  · rw [stl_c, if_pos ⟨rfl, rfl, rfl⟩]
end
section
/-! ===== a try that fails, in step ===== -/
theorem pk_tag (o a n d f : Int) : pkW o a n d f 0 + 1196268651020288 = pkW o a n d (f + 1) 1 := by
  unfold pkW
  omega
theorem ls_fail {F B K1 K a o amt : Int} {x : Int → Int} {H : hR} {m : mR} {p : Nat} (h : Mid F x H m) (hx : ∀ i : Int, 0 ≤ x i ∧ x i ≤ 1) (hM : MB B K1 K H) (hB : 0 ≤ B ∧ B ≤ 4611686018427387904) (hp : (p : Int) < H.1 4 2 0) (ho : H.1 5 0 p = o) (ham : H.1 5 1 p = amt) (hA : ¬ amt = 0) (hx0 : x p = 0) (ha : H.1 3 o 0 = a) (hfl : flg H m) (hge : ¬ amt ≤ H.1 2 a 3 + H.1 2 a 0) :
    ∃ H' m', fX2_tryPayment p H = some ((), H') ∧ fX7_tries (rk (H.1 5 1) p) m = some ((), m') ∧ Mid (F + 1) (up1 x p 1) H' m' ∧ MB (B + 1000000) K1 (K + 10000) H' ∧ flg H' m' ∧ payF p H H' ∧ rowsP m m' := by
  have k1 := h.2.2.1
  unfold okN at k1
  have hroom := roomOK_rng k1.2.2.2.2
  have ks := h.2.2.2.1
  unfold okS4 at ks
  obtain ⟨v1, v2, v3, v4, v5⟩ := h.2.2.2.2.2.2.1.1 p (by omega)
  rw [ho] at v1
  rw [ham] at v2 v5
  obtain ⟨w1, w2, w3⟩ := h.2.2.2.2.2.1 o v1
  unfold okP at w2
  rw [ha] at w2
  obtain ⟨o1, o2, o3⟩ := h.2.2.2.2.1 a w2.1
  obtain ⟨p0, p1, p2, p3, p4, p5⟩ := MC.part h hx hp (by rw [ham]; exact hA)
  rw [ho] at p0
  rw [ham] at p1
  have hc := MC.atO h v1
  have c0 : m.1 0 (121 + 16 * o + 0) = a := (hc 0 (by omega)).trans ha
  have c1 : m.1 0 (121 + 16 * o + 1) = if H.1 3 o 1 = -6 then 8 else H.1 3 o 1 := hc 1 (by omega)
  have c12 : m.1 0 (121 + 16 * o + 12) = H.1 3 o 13 := hc 12 (by omega)
  have ca0 := MC.at h w2.1 (f := 0) (by omega)
  have ca3 := MC.at h w2.1 (f := 3) (by omega)
  have ca9 := MC.at h w2.1 (f := 9) (by omega)
  have mA3 := hM.1 a w2.1 3 (by omega)
  have mA9 := hM.1 a w2.1 9 (by omega)
  have n10 : m.1 0 10 = H.1 0 8 0 := h.1.1.2.2.2.2.2.2.1
  have n9 : m.1 0 9 = H.1 0 7 0 := h.1.1.2.2.2.2.2.1
  have hrk := rk_rng (A := H.1 5 1) p
  have hlt := rk_lt (A := H.1 5 1) (n := p) (k := (H.1 4 2 0).toNat) (by omega) (by rw [ham]; exact hA)
  have hrkn := rk_rng (A := H.1 5 1) (H.1 4 2 0).toNat
  have d1 := h.acc (a := a) (f := 3) (v := H.1 2 a 3 - H.1 0 8 0) w2.1 (by omega)
  have d2 := d1.acc (a := a) (f := 9) (v := H.1 2 a 9 + H.1 0 8 0) (by rw [hS_n H (by omega)]; exact w2.1) (by omega)
  have r9 : (hS H 2 a 3 (H.1 2 a 3 - H.1 0 8 0)).1 2 a 9 = H.1 2 a 9 := hS_n H (by omega)
  have r8 : (hS H 2 a 3 (H.1 2 a 3 - H.1 0 8 0)).1 0 8 0 = H.1 0 8 0 := hS_n H (by omega)
  have r30 : (hS H 2 a 3 (H.1 2 a 3 - H.1 0 8 0)).1 3 o 0 = a := (hS_n H (by omega)).trans ha
  have u9 : (mS m 0 (33 + 11 * a + 3) (H.1 2 a 3 - H.1 0 8 0)).1 0 (33 + 11 * a + 9) = H.1 2 a 9 := (mS_n m (by omega)).trans ca9
  have u10 : (mS m 0 (33 + 11 * a + 3) (H.1 2 a 3 - H.1 0 8 0)).1 0 10 = H.1 0 8 0 := (mS_n m (by omega)).trans n10
  have e1 : fX7_moves a 0 (-(H.1 0 8 0)) m = some ((), mS m 0 (33 + 11 * a + 3) (H.1 2 a 3 - H.1 0 8 0)) := by rw [ev_moves (by omega) (by omega), show (3 : Int) + 0 = 3 from rfl, ca3, show H.1 2 a 3 + -(H.1 0 8 0) = H.1 2 a 3 - H.1 0 8 0 by omega]
  have e2 : fX7_moves a 6 (H.1 0 8 0) (mS m 0 (33 + 11 * a + 3) (H.1 2 a 3 - H.1 0 8 0)) = some ((), mS (mS m 0 (33 + 11 * a + 3) (H.1 2 a 3 - H.1 0 8 0)) 0 (33 + 11 * a + 9) (H.1 2 a 9 + H.1 0 8 0)) := by rw [ev_moves (by omega) (by omega), show (3 : Int) + 6 = 9 from rfl, u9]
  have G2 : (hS (hS H 2 a 3 (H.1 2 a 3 - H.1 0 8 0)) 2 a 9 (H.1 2 a 9 + H.1 0 8 0)).1 0 10 0 = H.1 0 10 0 := by rw [hS_n _ (by omega), hS_n _ (by omega)]
  have d3 := d2.failS (orI (H.1 0 11 0) (shlI 1 a)) (orI (H.1 0 11 0) (shlI 1 a))
  -- the class up to the tries
  have hcl : fX2_tryPayment p H = cl (gd (0 ≤ (p : Int) ∧ (p : Int) < H.1 4 1 0 ∧ H.1 4 1 0 ≤ 2147483647) <| gd (wR (H.1 5 4 p + 1) ∧ wR (H.1 0 7 0)) <| if (H.1 0 7 0) ≤ (H.1 5 4 p + 1) then (cl (fX2_settle p (hS (hS (hS (hS (hS (hS H 2 a 3 (H.1 2 a 3 - H.1 0 8 0)) 2 a 9 (H.1 2 a 9 + H.1 0 8 0)) 0 10 0 (H.1 0 10 0 + 1)) 0 11 0 (orI (H.1 0 11 0) (shlI 1 a))) 5 4 p (H.1 5 4 p + 1)) 3 o 13 (H.1 3 o 13 + 1))) fun r132 H132 => some ((), H132)) else some ((), hS (hS (hS (hS (hS H 2 a 3 (H.1 2 a 3 - H.1 0 8 0)) 2 a 9 (H.1 2 a 9 + H.1 0 8 0)) 0 10 0 (H.1 0 10 0 + 1)) 0 11 0 (orI (H.1 0 11 0) (shlI 1 a))) 5 4 p (H.1 5 4 p + 1))) (fun r59 H59 => some ((), H59)) := by
    have t1 : fX2_failTry p H = (gd (0 ≤ (p : Int) ∧ (p : Int) < H.1 4 1 0 ∧ H.1 4 1 0 ≤ 2147483647) <| gd (wR (H.1 5 4 p + 1) ∧ wR (H.1 0 7 0)) <| if (H.1 0 7 0) ≤ (H.1 5 4 p + 1) then (cl (fX2_settle p (hS (hS (hS (hS (hS (hS H 2 a 3 (H.1 2 a 3 - H.1 0 8 0)) 2 a 9 (H.1 2 a 9 + H.1 0 8 0)) 0 10 0 (H.1 0 10 0 + 1)) 0 11 0 (orI (H.1 0 11 0) (shlI 1 a))) 5 4 p (H.1 5 4 p + 1)) 3 o 13 (H.1 3 o 13 + 1))) fun r132 H132 => some ((), H132)) else some ((), hS (hS (hS (hS (hS H 2 a 3 (H.1 2 a 3 - H.1 0 8 0)) 2 a 9 (H.1 2 a 9 + H.1 0 8 0)) 0 10 0 (H.1 0 10 0 + 1)) 0 11 0 (orI (H.1 0 11 0) (shlI 1 a))) 5 4 p (H.1 5 4 p + 1))) := by
      have q1 : (hS (hS H 2 a 3 (H.1 2 a 3 - H.1 0 8 0)) 2 a 9 (H.1 2 a 9 + H.1 0 8 0)).1 3 o 0 = a := by rw [hS_n _ (by omega)]; exact r30
      have q2 : ∀ v : Int, (hS (hS (hS H 2 a 3 (H.1 2 a 3 - H.1 0 8 0)) 2 a 9 (H.1 2 a 9 + H.1 0 8 0)) 0 10 0 v).1 3 o 0 = a := fun v => by rw [hS_n _ (by omega)]; exact q1
      have q3 : ∀ v : Int, (hS (hS (hS H 2 a 3 (H.1 2 a 3 - H.1 0 8 0)) 2 a 9 (H.1 2 a 9 + H.1 0 8 0)) 0 10 0 v).1 0 11 0 = H.1 0 11 0 := fun v => by rw [hS_n _ (by omega), hS_n _ (by omega), hS_n _ (by omega)]
      have q4 : ∀ v w : Int, (hS (hS (hS (hS H 2 a 3 (H.1 2 a 3 - H.1 0 8 0)) 2 a 9 (H.1 2 a 9 + H.1 0 8 0)) 0 10 0 v) 0 11 0 w).1 4 1 0 = H.1 4 1 0 := fun v w => by rw [hS_n _ (by omega), hS_n _ (by omega), hS_n _ (by omega), hS_n _ (by omega)]
      have q5 : ∀ v w : Int, (hS (hS (hS (hS H 2 a 3 (H.1 2 a 3 - H.1 0 8 0)) 2 a 9 (H.1 2 a 9 + H.1 0 8 0)) 0 10 0 v) 0 11 0 w).1 5 4 p = H.1 5 4 p := fun v w => by rw [hS_n _ (by omega), hS_n _ (by omega), hS_n _ (by omega), hS_n _ (by omega)]
      have q6 : ∀ v w z : Int, (hS (hS (hS (hS (hS H 2 a 3 (H.1 2 a 3 - H.1 0 8 0)) 2 a 9 (H.1 2 a 9 + H.1 0 8 0)) 0 10 0 v) 0 11 0 w) 5 4 p z).1 4 1 0 = H.1 4 1 0 := fun v w z => by rw [hS_n _ (by omega)]; exact q4 v w
      have q7 : ∀ v w z : Int, (hS (hS (hS (hS (hS H 2 a 3 (H.1 2 a 3 - H.1 0 8 0)) 2 a 9 (H.1 2 a 9 + H.1 0 8 0)) 0 10 0 v) 0 11 0 w) 5 4 p z).1 0 7 0 = H.1 0 7 0 := fun v w z => by rw [hS_n _ (by omega), hS_n _ (by omega), hS_n _ (by omega), hS_n _ (by omega), hS_n _ (by omega)]
      have q8 : ∀ v w z : Int, (hS (hS (hS (hS (hS H 2 a 3 (H.1 2 a 3 - H.1 0 8 0)) 2 a 9 (H.1 2 a 9 + H.1 0 8 0)) 0 10 0 v) 0 11 0 w) 5 4 p z).1 3 o 13 = H.1 3 o 13 := fun v w z => by rw [hS_n _ (by omega), hS_n _ (by omega), hS_n _ (by omega), hS_n _ (by omega), hS_n _ (by omega)]
      unfold fX2_failTry
      rw [gd_pos (by omega), ho, gd_pos (by omega), ha, gd_pos (by omega), gd_pos (by omega), bnd_eq, r30, gd_pos (by omega), r8, gd_pos (by omega), r9, bnd_eq, G2, bnd_eq, q2, q3, bnd_eq, q4, gd_pos (by omega), gd_pos (by omega), q5, bnd_eq, q6, q7, q8, hS_p]
      rfl
    unfold fX2_tryPayment
    rw [gd_pos (by omega), ho, gd_pos (by omega), ha, gd_pos (by omega), gd_pos (by omega), gd_pos (by omega), ham, gd_pos (by omega), gd_pos (by omega), if_neg hge, t1]
  -- the reference up to the tries
  have hml : fX7_tries (rk (H.1 5 1) p) m = bnd (mS (mS (mS (mS m 0 (33 + 11 * a + 3) (H.1 2 a 3 - H.1 0 8 0)) 0 (33 + 11 * a + 9) (H.1 2 a 9 + H.1 0 8 0)) 0 8 (m.1 0 8 + 1)) 6 8 (orI (H.1 0 11 0) (shlI 1 a))) fun m176 => cr (fX7_partOf (rk (H.1 5 1) p) 4 m176) fun r182 => gd (wR (r182 + 1)) <| gd (wR64 (r182 + 1) ∧ wR64 (m176.1 0 9)) <| if (r182 + 1) < (m176.1 0 9) then (gd (0 ≤ rk (H.1 5 1) p ∧ rk (H.1 5 1) p < 8400) <| gd ((0 ≤ rk (H.1 5 1) p ∧ rk (H.1 5 1) p < 8400)) <| bnd (mS m176 1 (rk (H.1 5 1) p) ((m176.1 1 (rk (H.1 5 1) p)) + 1196268651020288)) fun m218 => some ((), m218)) else (cl (fX7_misses (rk (H.1 5 1) p) m176) fun r201 m201 => some ((), m201)) := by
    have q1 : (mS (mS m 0 (33 + 11 * a + 3) (H.1 2 a 3 - H.1 0 8 0)) 0 (33 + 11 * a + 9) (H.1 2 a 9 + H.1 0 8 0)).1 0 8 = m.1 0 8 := by rw [mS_n _ (by omega), mS_n _ (by omega)]
    have q2 : (mS (mS (mS m 0 (33 + 11 * a + 3) (H.1 2 a 3 - H.1 0 8 0)) 0 (33 + 11 * a + 9) (H.1 2 a 9 + H.1 0 8 0)) 0 8 (m.1 0 8 + 1)).1 6 8 = H.1 0 11 0 := by rw [mS_n _ (by omega), mS_n _ (by omega), mS_n _ (by omega), hfl.1]
    unfold fX7_tries
    rw [p0, cr_some, ev_ofO (by omega), cr_some, c0, ev_ofO (by omega), cr_some, p1, cr_some, gd_pos (by omega), ev_money (by omega), cr_some, Int.add_zero, ca3, ev_ofA (by omega), cr_some, ca0, gd_pos (by omega), gd_pos (by omega), if_pos (by omega), n10, e1, cl_some, u10, e2, cl_some, q1, bnd_eq, q2]
  have e176 : fX7_partOf (rk (H.1 5 1) p) 4 (mS (mS (mS (mS m 0 (33 + 11 * a + 3) (H.1 2 a 3 - H.1 0 8 0)) 0 (33 + 11 * a + 9) (H.1 2 a 9 + H.1 0 8 0)) 0 8 (m.1 0 8 + 1)) 6 8 (orI (H.1 0 11 0) (shlI 1 a))) = some (H.1 5 4 p) := by
    rw [← p4]
    unfold fX7_partOf
    rw [mS_n _ (by omega), mS_n _ (by omega), mS_n _ (by omega), mS_n _ (by omega)]
  have e9 : (mS (mS (mS (mS m 0 (33 + 11 * a + 3) (H.1 2 a 3 - H.1 0 8 0)) 0 (33 + 11 * a + 9) (H.1 2 a 9 + H.1 0 8 0)) 0 8 (m.1 0 8 + 1)) 6 8 (orI (H.1 0 11 0) (shlI 1 a))).1 0 9 = H.1 0 7 0 := by
    rw [mS_n _ (by omega), mS_n _ (by omega), mS_n _ (by omega), mS_n _ (by omega), n9]
  have m4W : ∀ j : Int, (mS (mS (mS (mS m 0 (33 + 11 * a + 3) (H.1 2 a 3 - H.1 0 8 0)) 0 (33 + 11 * a + 9) (H.1 2 a 9 + H.1 0 8 0)) 0 8 (m.1 0 8 + 1)) 6 8 (orI (H.1 0 11 0) (shlI 1 a))).1 1 j = m.1 1 j := fun j => by
    rw [mS_n _ (by omega), mS_n _ (by omega), mS_n _ (by omega), mS_n _ (by omega)]
  have m4N : ∀ j : Int, ¬ (33 ≤ j ∧ j ≤ 120) → ¬ j = 8 → (mS (mS (mS (mS m 0 (33 + 11 * a + 3) (H.1 2 a 3 - H.1 0 8 0)) 0 (33 + 11 * a + 9) (H.1 2 a 9 + H.1 0 8 0)) 0 8 (m.1 0 8 + 1)) 6 8 (orI (H.1 0 11 0) (shlI 1 a))).1 0 j = m.1 0 j := fun j q1 q2 => by
    rw [mS_n _ (by omega), mS_n _ (by omega), mS_n _ (by omega), mS_n _ (by omega)]
  have m4T : ∀ t : Int, ¬ t = 0 → ¬ t = 6 → (mS (mS (mS (mS m 0 (33 + 11 * a + 3) (H.1 2 a 3 - H.1 0 8 0)) 0 (33 + 11 * a + 9) (H.1 2 a 9 + H.1 0 8 0)) 0 8 (m.1 0 8 + 1)) 6 8 (orI (H.1 0 11 0) (shlI 1 a))).1 t = m.1 t := fun t q1 q2 => by
    rw [mS_t _ _ _ q2, mS_t _ _ _ q1, mS_t _ _ _ q1, mS_t _ _ _ q1]
  have m46 : ∀ k : Int, ¬ k = 8 → (mS (mS (mS (mS m 0 (33 + 11 * a + 3) (H.1 2 a 3 - H.1 0 8 0)) 0 (33 + 11 * a + 9) (H.1 2 a 9 + H.1 0 8 0)) 0 8 (m.1 0 8 + 1)) 6 8 (orI (H.1 0 11 0) (shlI 1 a))).1 6 k = m.1 6 k := fun k q => by
    rw [mS_n _ (by omega), mS_n _ (by omega), mS_n _ (by omega), mS_n _ (by omega)]
  have m468 : (mS (mS (mS (mS m 0 (33 + 11 * a + 3) (H.1 2 a 3 - H.1 0 8 0)) 0 (33 + 11 * a + 9) (H.1 2 a 9 + H.1 0 8 0)) 0 8 (m.1 0 8 + 1)) 6 8 (orI (H.1 0 11 0) (shlI 1 a))).1 6 8 = orI (H.1 0 11 0) (shlI 1 a) := mS_p _ _ _ _
  have u8 : (mS (mS m 0 (33 + 11 * a + 3) (H.1 2 a 3 - H.1 0 8 0)) 0 (33 + 11 * a + 9) (H.1 2 a 9 + H.1 0 8 0)).1 0 8 = m.1 0 8 := by rw [mS_n _ (by omega), mS_n _ (by omega)]
  rw [u8, G2] at d3
  have g4 : ∀ t x y : Int, ¬ (t = 2 ∧ (y = 3 ∨ y = 9)) → ¬ (t = 0 ∧ (x = 10 ∨ x = 11)) → (hS (hS (hS (hS H 2 a 3 (H.1 2 a 3 - H.1 0 8 0)) 2 a 9 (H.1 2 a 9 + H.1 0 8 0)) 0 10 0 (H.1 0 10 0 + 1)) 0 11 0 (orI (H.1 0 11 0) (shlI 1 a))).1 t x y = H.1 t x y := fun t x y q r => by
    rw [hS_n _ (by omega), hS_n _ (by omega), hS_n _ (by omega), hS_n _ (by omega)]
  have g411 : (hS (hS (hS (hS H 2 a 3 (H.1 2 a 3 - H.1 0 8 0)) 2 a 9 (H.1 2 a 9 + H.1 0 8 0)) 0 10 0 (H.1 0 10 0 + 1)) 0 11 0 (orI (H.1 0 11 0) (shlI 1 a))).1 0 11 0 = orI (H.1 0 11 0) (shlI 1 a) := hS_p _ _ _ _ _
  have g4M : MB (B + 1000000) K1 (K + 10000) (hS (hS (hS (hS H 2 a 3 (H.1 2 a 3 - H.1 0 8 0)) 2 a 9 (H.1 2 a 9 + H.1 0 8 0)) 0 10 0 (H.1 0 10 0 + 1)) 0 11 0 (orI (H.1 0 11 0) (shlI 1 a))) := by
    refine hM.to (g4 _ _ _ (by omega) (by omega)) (fun y hy f hf => ?_) rfl (fun y hy => ?_)
    · have := hM.1 y hy f hf
      rw [hS_n _ (by omega), hS_n _ (by omega), hS_1, hS_1]
      by_cases q1 : y = a ∧ f = 9
      · rw [if_pos ⟨rfl, q1.1, q1.2⟩]
        omega
      · rw [if_neg (by omega)]
        by_cases q2 : y = a ∧ f = 3
        · rw [if_pos ⟨rfl, q2.1, q2.2⟩]
          omega
        · rw [if_neg (by omega)]
          omega
    · rw [hS_n _ (by omega), hS_n _ (by omega), hS_n _ (by omega), hS_1]
      by_cases q2 : y = a
      · rw [if_pos ⟨rfl, q2, rfl⟩, q2]
        right
        omega
      · rw [if_neg (by omega)]
        right
        omega
  have g4D : (hS (hS (hS (hS H 2 a 3 (H.1 2 a 3 - H.1 0 8 0)) 2 a 9 (H.1 2 a 9 + H.1 0 8 0)) 0 10 0 (H.1 0 10 0 + 1)) 0 11 0 (orI (H.1 0 11 0) (shlI 1 a))).2 = H.2 := rfl
  have m4D : (mS (mS (mS (mS m 0 (33 + 11 * a + 3) (H.1 2 a 3 - H.1 0 8 0)) 0 (33 + 11 * a + 9) (H.1 2 a 9 + H.1 0 8 0)) 0 8 (m.1 0 8 + 1)) 6 8 (orI (H.1 0 11 0) (shlI 1 a))).2 = m.2 := rfl
  generalize (hS (hS (hS (hS H 2 a 3 (H.1 2 a 3 - H.1 0 8 0)) 2 a 9 (H.1 2 a 9 + H.1 0 8 0)) 0 10 0 (H.1 0 10 0 + 1)) 0 11 0 (orI (H.1 0 11 0) (shlI 1 a))) = H4 at *
  generalize (mS (mS (mS (mS m 0 (33 + 11 * a + 3) (H.1 2 a 3 - H.1 0 8 0)) 0 (33 + 11 * a + 9) (H.1 2 a 9 + H.1 0 8 0)) 0 8 (m.1 0 8 + 1)) 6 8 (orI (H.1 0 11 0) (shlI 1 a))) = m4 at *
  have z51 : H4.1 5 1 = H.1 5 1 := funext (fun i => g4 _ _ _ (by omega) (by omega))
  have z5 : ∀ c i : Int, H4.1 5 c i = H.1 5 c i := fun c i => g4 _ _ _ (by omega) (by omega)
  rw [gd_pos (by omega), gd_pos (by omega)] at hcl
  rw [bnd_eq, e176, cr_some, gd_pos (by omega), e9, gd_pos (by omega)] at hml
  by_cases g : H.1 0 7 0 ≤ H.1 5 4 p + 1
  · -- missed
    rw [if_pos g] at hcl
    rw [if_neg (by omega)] at hml
    have z13 : H4.1 3 o 13 = H.1 3 o 13 := g4 _ _ _ (by omega) (by omega)
    obtain ⟨m', s1, s2, s3, s4, s5⟩ := Mid.settle (f := 13) (o := o) (p := p) (by omega) d3 (by rw [g4 4 2 0 (by omega) (by omega)]; exact hp) (by rw [z51, ham]; exact hA) ((z5 0 p).trans ho)
    rw [z51] at s2
    have t50 : (hS (hS H4 5 4 p (H.1 5 4 p + 1)) 3 o 13 (H.1 3 o 13 + 1)).1 5 0 p = o := by rw [hS_n _ (by omega), hS_n _ (by omega), z5]; exact ho
    have t51 : (hS (hS H4 5 4 p (H.1 5 4 p + 1)) 3 o 13 (H.1 3 o 13 + 1)).1 5 1 p = amt := by rw [hS_n _ (by omega), hS_n _ (by omega), z5]; exact ham
    have t30 : (hS (hS H4 5 4 p (H.1 5 4 p + 1)) 3 o 13 (H.1 3 o 13 + 1)).1 3 o 0 = a := by rw [hS_n _ (by omega), hS_n _ (by omega), g4 _ _ _ (by omega) (by omega)]; exact ha
    have t315 : (hS (hS H4 5 4 p (H.1 5 4 p + 1)) 3 o 13 (H.1 3 o 13 + 1)).1 3 o 15 = H.1 3 o 15 := by rw [hS_n _ (by omega), hS_n _ (by omega), g4 _ _ _ (by omega) (by omega)]
    have t211 : (hS (hS H4 5 4 p (H.1 5 4 p + 1)) 3 o 13 (H.1 3 o 13 + 1)).1 2 a 11 = H.1 2 a 11 := by rw [hS_n _ (by omega), hS_n _ (by omega), g4 _ _ _ (by omega) (by omega)]
    have t41 : (hS (hS H4 5 4 p (H.1 5 4 p + 1)) 3 o 13 (H.1 3 o 13 + 1)).1 4 1 0 = H.1 4 1 0 := by rw [hS_n _ (by omega), hS_n _ (by omega), g4 _ _ _ (by omega) (by omega)]
    have q50 : (hS H4 3 o 13 (H4.1 3 o 13 + 1)).1 5 0 p = o := by rw [hS_n _ (by omega), z5]; exact ho
    have q51 : (hS H4 3 o 13 (H4.1 3 o 13 + 1)).1 5 1 p = amt := by rw [hS_n _ (by omega), z5]; exact ham
    have q30 : (hS H4 3 o 13 (H4.1 3 o 13 + 1)).1 3 o 0 = a := by rw [hS_n _ (by omega), g4 _ _ _ (by omega) (by omega)]; exact ha
    have q315 : (hS H4 3 o 13 (H4.1 3 o 13 + 1)).1 3 o 15 = H.1 3 o 15 := by rw [hS_n _ (by omega), g4 _ _ _ (by omega) (by omega)]
    have q211 : (hS H4 3 o 13 (H4.1 3 o 13 + 1)).1 2 a 11 = H.1 2 a 11 := by rw [hS_n _ (by omega), g4 _ _ _ (by omega) (by omega)]
    have es := ec_settle (H := hS (hS H4 5 4 p (H.1 5 4 p + 1)) 3 o 13 (H.1 3 o 13 + 1)) (p := p) (by rw [t41]; omega) (by rw [t50]; omega) (by rw [t50, t30]; omega) (by rw [t51]; omega)
    have same : ∀ t' y z : Int, ¬ (t' = 5 ∧ y = 4 ∧ z = p) → (stl (hS (hS H4 5 4 p (H.1 5 4 p + 1)) 3 o 13 (H.1 3 o 13 + 1)) p).1 t' y z = (stl (hS H4 3 o 13 (H4.1 3 o 13 + 1)) p).1 t' y z := fun t' y z q => by
      rw [stl_c, stl_c, t50, t51, t30, t315, t211, q50, q51, q30, q315, q211, z13, hS_1, hS_1, hS_1]
      by_cases r : t' = 3 ∧ y = o ∧ z = 13
      · rw [if_pos r, if_pos r]
      · rw [if_neg r, if_neg r, if_neg q]
    have t54 : (stl (hS (hS H4 5 4 p (H.1 5 4 p + 1)) 3 o 13 (H.1 3 o 13 + 1)) p).1 5 4 p = H.1 5 4 p + 1 := by
      rw [stl_frame _ _ _ _ _ (by omega) (by omega) (by omega), hS_n _ (by omega), hS_p]
    have fr := fun t a b h1 h2 h3 => stl_frame (hS H4 3 o 13 (H4.1 3 o 13 + 1)) p t a b h1 h2 h3
    refine ⟨stl (hS (hS H4 5 4 p (H.1 5 4 p + 1)) 3 o 13 (H.1 3 o 13 + 1)) p, m', ?_, ?_, s3.f9 (p := p) (by rw [stl_c, if_pos ⟨rfl, rfl, rfl⟩]) same rfl (by rw [t54]; omega) (fun i hi => up1_n _ _ hi), g4M.to ?_ (fun y hy f hf => ?_) rfl (fun y hy => ?_), ?_, ⟨fun t' y z r1 r2 r3 r4 => ?_, g4D, Or.inl ?_⟩, ⟨fun t' r1 r2 r3 => ?_, ?_, fun k r => ?_⟩⟩
    · rw [hcl, es, cl_some, cl_some]
    · rw [hml]
      have em : fX7_misses (rk (H.1 5 1) p) m4 = some ((), m') := by
        have pp0 : fX7_partOf (rk (H.1 5 1) p) 0 m4 = some o := by
          rw [← p0]
          unfold fX7_partOf
          rw [m4W]
        rw [show (13 : Int) - 1 = 12 from rfl, show (13 : Int) - 7 = 6 from rfl, z13] at s2
        unfold fX7_misses
        rw [pp0, cr_some, gd_pos (by omega), gd_pos (by omega), bnd_eq, m4N _ (by omega) (by omega), c12, bnd_eq, mS_n m4 (by omega), s2, cl_some]
      rw [em, cl_some]
    · rw [same _ _ _ (by omega), fr _ _ _ (by omega) (by omega) (by omega), hS_n _ (by omega)]
    · rw [same _ _ _ (by omega), fr _ _ _ (by omega) (by omega) (by omega), hS_n _ (by omega)]
      exact g4M.1 y hy f hf
    · rw [same _ _ _ (by omega), fr _ _ _ (by omega) (by omega) (by omega), hS_n _ (by omega)]
      right
      omega
    · exact flg.of (v := orI (H.1 0 11 0) (shlI 1 a)) (by rw [same _ _ _ (by omega), fr _ _ _ (by omega) (by omega) (by omega), hS_n _ (by omega), g411]) (by rw [s4 6 (by omega) (by omega), m468]) (flag_or hfl.2 (by omega))
    · rw [same _ _ _ (by omega), fr _ _ _ (by omega) (by omega) (by omega), hS_n _ (by omega), g4 _ _ _ (by omega) (by omega)]
    · rw [stl_c, if_pos ⟨rfl, rfl, rfl⟩]
    · rw [s4 t' r1 r2, m4T t' r1 r3]
    · rw [s5, m4D]
    · rw [s4 6 (by omega) (by omega), m46 k r]
  · -- waits on
    rw [if_neg g] at hcl
    rw [if_pos (by omega), gd_pos (by omega), gd_pos (by omega), bnd_eq] at hml
    have hv := h.1.2.2.2.2.2 p hp (by rw [ham]; exact hA)
    rw [hx0] at hv
    have tg := d3.tag (p := p) (by rw [g4 4 2 0 (by omega) (by omega)]; exact hp) (by rw [z51, ham]; exact hA) (by rw [z5]; omega)
    rw [z51, z5, z5, z5, z5, ← pk_tag, ← hv, ← m4W] at tg
    refine ⟨_, _, ?_, hml, tg, g4M.to ?_ (fun y hy f hf => ?_) rfl (fun y hy => ?_), ?_, ⟨fun t' y z r1 r2 r3 r4 => ?_, g4D, Or.inr ⟨?_, ?_⟩⟩, ⟨fun t' r1 r2 r3 => ?_, ?_, fun k r => ?_⟩⟩
    · rw [hcl, cl_some]
    · rw [hS_n _ (by omega)]
    · rw [hS_n _ (by omega)]
      exact g4M.1 y hy f hf
    · rw [hS_n _ (by omega)]
      right
      omega
    · exact flg.of (v := orI (H.1 0 11 0) (shlI 1 a)) (by rw [hS_n _ (by omega), g411]) (by rw [mS_n _ (by omega), m468]) (flag_or hfl.2 (by omega))
    · rw [hS_n _ (by omega), g4 _ _ _ (by omega) (by omega)]
    · rw [hS_n _ (by omega), z5]
    · rw [hS_p]
    · rw [mS_t _ _ _ r2, m4T t' r1 r3]
    · exact m4D
    · rw [mS_n _ (by omega), m46 k r]
theorem Mid.F {F F' : Int} {x : Int → Int} {H : hR} {m : mR} (h : Mid F x H m) (hF : F ≤ F') : Mid F' x H m := by
  obtain ⟨h1, h2, k1, k2, k3⟩ := h
  refine ⟨h1, h2, k1, ?_, k3⟩
  unfold okS4 at *
  omega
theorem Mid.xs {F : Int} {x x' : Int → Int} {H : hR} {m : mR} (h : Mid F x H m) (hx : ∀ i : Nat, (i : Int) < H.1 4 2 0 → ¬ H.1 5 1 i = 0 → x' i = x i) : Mid F x' H m := by
  obtain ⟨⟨c1, c2, c3, c4, c5⟩, h2⟩ := h
  refine ⟨⟨c1, c2, c3, c4, c5.1, fun i hi hA => ?_⟩, h2⟩
  rw [hx i hi hA]
  exact c5.2 i hi hA
theorem ls_try {F B K1 K : Int} {x : Int → Int} {H : hR} {m : mR} {p : Nat} (h : Mid F x H m) (hx : ∀ i : Int, 0 ≤ x i ∧ x i ≤ 1) (hM : MB B K1 K H) (hB : 0 ≤ B ∧ B ≤ 4611686018427387904) (hK : 0 ≤ K1 ∧ K1 + 1000000 ≤ K) (hp : (p : Int) < H.1 4 2 0) (hA : ¬ H.1 5 1 p = 0) (hx0 : x p = 0) (hfl : flg H m) :
    ∃ H' m', fX2_tryPayment p H = some ((), H') ∧ fX7_tries (rk (H.1 5 1) p) m = some ((), m') ∧ Mid (F + 1) (up1 x p 1) H' m' ∧ MB (B + 1000000) K1 (K + 10000) H' ∧ flg H' m' ∧ payF p H H' ∧ rowsP m m' := by
  by_cases g : H.1 5 1 p ≤ H.1 2 (H.1 3 (H.1 5 0 p) 0) 3 + H.1 2 (H.1 3 (H.1 5 0 p) 0) 0
  · obtain ⟨H', m', q1, q2, q3, q4, q5, q6, q7, q8⟩ := ls_made h hx hM hB hK hp rfl rfl hA rfl hfl g
    refine ⟨H', m', q1, q2, (q3.F (by omega)).xs (fun i hi hA' => ?_), q4, q5, q6, q7⟩
    by_cases c : (i : Int) = p
    · rw [c, up1_p]
      rw [c] at hA'
      exact absurd q8 hA'
    · exact up1_n _ _ c
  · exact ls_fail h hx hM hB hp rfl rfl hA hx0 rfl hfl g
end
section
/-! ===== which payment is tried next ===== -/
def prio (H : hR) (e : Int) : Int := H.1 3 (H.1 5 0 e) 8
theorem rk_inj {A : Int → Int} {i j : Nat} (hi : ¬ A i = 0) (hj : ¬ A j = 0) (h : rk A i = rk A j) : i = j := by
  by_cases q : i < j
  · have := rk_lt (A := A) q hi
    omega
  · by_cases q2 : j < i
    · have := rk_lt (A := A) q2 hj
      omega
    · omega
theorem em_ahead {F : Int} {x : Int → Int} {H : hR} {m : mR} (h : Mid F x H m) (hx : ∀ i : Int, 0 ≤ x i ∧ x i ≤ 1) {i j : Nat} (hij : i < j) (hj : (j : Int) < H.1 4 2 0) (hAi : ¬ H.1 5 1 i = 0) (hAj : ¬ H.1 5 1 j = 0) : fX7_isAhead (rk (H.1 5 1) j) (rk (H.1 5 1) i) m = some (bI (decide (prio H i < prio H j))) := by
  obtain ⟨p0, p1, p2, p3, p4, p5⟩ := MC.part h hx (i := i) (by omega) hAi
  obtain ⟨q0, q1, q2, q3, q4, q5⟩ := MC.part h hx (i := j) (by omega) hAj
  obtain ⟨v1, v2, v3, v4, v5⟩ := h.2.2.2.2.2.2.1.1 i (by omega)
  obtain ⟨u1, u2, u3, u4, u5⟩ := h.2.2.2.2.2.2.1.1 j (by omega)
  have hs := h.2.2.2.2.2.2.1.2 i j (by omega) (by omega) hj
  have k1 := h.2.2.1
  unfold okN at k1
  have ci : m.1 0 (121 + 16 * H.1 5 0 i + 8) = prio H i := MC.atO h v1 8 (by omega)
  have cj : m.1 0 (121 + 16 * H.1 5 0 j + 8) = prio H j := MC.atO h u1 8 (by omega)
  have wi := (h.2.2.2.2.2.1 _ v1).2.1.2.2.2.1
  have wj := (h.2.2.2.2.2.1 _ u1).2.1.2.2.2.1
  have wi' : 0 ≤ prio H i ∧ prio H i ≤ 9 := wi
  have wj' : 0 ≤ prio H j ∧ prio H j ≤ 9 := wj
  unfold fX7_isAhead
  rw [q0, cr_some, ev_ofO (by omega), cr_some, p0, cr_some, ev_ofO (by omega), cr_some, ci, cj, gd_pos (by omega)]
  by_cases g : prio H j = prio H i
  · rw [if_pos g, q3, cr_some, p3, cr_some, gd_pos (by omega), bI_f (decide_eq_false (by omega))]
    by_cases g2 : H.1 5 3 j = H.1 5 3 i
    · rw [if_pos g2, cr_some, cr_some, gd_pos (by omega), if_pos (by omega)]
    · rw [if_neg g2, cr_some, gd_pos (by omega), if_pos (by omega)]
  · rw [if_neg g, gd_pos (by omega)]
    by_cases g2 : prio H j ≤ prio H i
    · rw [if_pos g2, bI_f (decide_eq_false (by omega))]
    · rw [if_neg g2, bI_t (decide_eq_true (by omega))]
def bestT (H : hR) (x : Int → Int) (best k : Int) : Prop :=
  (best = -6 ∧ ∀ i : Nat, (i : Int) < H.1 4 2 0 → ¬ H.1 5 1 i = 0 → rk (H.1 5 1) i < k → x i = 1) ∨
  ∃ p : Nat, (p : Int) < H.1 4 2 0 ∧ ¬ H.1 5 1 p = 0 ∧ best = rk (H.1 5 1) p ∧ rk (H.1 5 1) p < k ∧ x p = 0 ∧ ∀ i : Nat, (i : Int) < H.1 4 2 0 → ¬ H.1 5 1 i = 0 → rk (H.1 5 1) i < k → x i = 0 → prio H i < prio H p ∨ (prio H i = prio H p ∧ p ≤ i)
theorem em_next_b5 {F : Int} {x : Int → Int} {H : hR} {m : mR} (h : Mid F x H m) (hx : ∀ i : Int, 0 ≤ x i ∧ x i ≤ 1) : ∀ (n fuel : Nat) (best k : Int), k + n = m.1 0 4 → 0 ≤ k → n < fuel → bestT H x best k → ∃ r, fX7_nextToTry_b5 m fuel best k = some r ∧ bestT H x r (m.1 0 4)
  | n, 0, _, _, _, _, h, _ => by omega
  | 0, fuel + 1, best, k, h1, h2, _, hb => by
    have k1 := h.2.2.1
    unfold okN at k1
    have hrn := rk_rng (A := H.1 5 1) (H.1 4 2 0).toNat
    have e4 := h.1.2.2.2.2.1
    refine ⟨best, ?_, by rw [show m.1 0 4 = k by omega]; exact hb⟩
    rw [fX7_nextToTry_b5, gd_pos (by omega), gd_pos (by omega), if_pos (by omega)]
  | n + 1, fuel + 1, best, k, h1, h2, h3, hb => by
    have k1 := h.2.2.1
    unfold okN at k1
    have hrn := rk_rng (A := H.1 5 1) (H.1 4 2 0).toNat
    have e4 := h.1.2.2.2.2.1
    obtain ⟨j, j1, j2, j3⟩ := rk_sur (A := H.1 5 1) (H.1 4 2 0).toNat k h2 (by omega)
    have p5 := (MC.part h hx (i := j) (by omega) j2).2.2.2.2.2
    rw [j3] at p5
    have hxj := hx j
    -- rows up to this one
    have sp : ∀ i : Nat, ¬ H.1 5 1 i = 0 → rk (H.1 5 1) i < k + 1 → rk (H.1 5 1) i < k ∨ i = j := fun i hi hr => by
      by_cases q : rk (H.1 5 1) i < k
      · exact Or.inl q
      · exact Or.inr (rk_inj hi j2 (by omega))
    have e0 : fX7_nextToTry_b5 m (fuel + 1) best k = if x j = 0 then (gd (wR best) <| if best = (-6) then ((fX7_nextToTry_b5 m fuel) k (k + 1)) else (cr (fX7_isAhead k best m) fun r35 => gd (wR r35) <| if r35 = 0 then ((fX7_nextToTry_b5 m fuel) best (k + 1)) else ((fX7_nextToTry_b5 m fuel) k (k + 1)))) else ((fX7_nextToTry_b5 m fuel) best (k + 1)) := by
      rw [fX7_nextToTry_b5, gd_pos (by omega), gd_pos (by omega), if_neg (by omega), p5, cr_some, gd_pos (by omega)]
    rw [e0]
    by_cases gx : x j = 0
    · rw [if_pos gx]
      rcases hb with ⟨b1, b2⟩ | ⟨p, q1, q2, q3, q4, q5, q6⟩
      · rw [b1, gd_pos (by omega), if_pos rfl]
        refine em_next_b5 h hx n fuel k (k + 1) (by omega) (by omega) (by omega) (Or.inr ⟨j, by omega, j2, j3.symm, by omega, gx, fun i hi hA hr hx0 => ?_⟩)
        rcases sp i hA hr with s | s
        · have := b2 i hi hA s
          omega
        · rw [s]
          exact Or.inr ⟨rfl, Nat.le_refl _⟩
      · have hpr := rk_rng (A := H.1 5 1) p
        have hpj : p < j := by
          by_cases q : p < j
          · exact q
          · have := rk_le (A := H.1 5 1) (n := j) (k := p) (by omega)
            omega
        have ea := em_ahead h hx hpj (by omega) q2 j2
        rw [j3, ← q3] at ea
        rw [gd_pos (by omega), if_neg (by omega), ea, cr_some, gd_pos (by have := bI_rng (decide (prio H p < prio H j)); omega)]
        by_cases g : prio H p < prio H j
        · rw [bI_t (decide_eq_true g), if_neg (by omega)]
          refine em_next_b5 h hx n fuel k (k + 1) (by omega) (by omega) (by omega) (Or.inr ⟨j, by omega, j2, j3.symm, by omega, gx, fun i hi hA hr hx0 => ?_⟩)
          rcases sp i hA hr with s | s
          · have := q6 i hi hA s hx0
            left
            omega
          · rw [s]
            exact Or.inr ⟨rfl, Nat.le_refl _⟩
        · rw [bI_f (decide_eq_false g), if_pos rfl]
          refine em_next_b5 h hx n fuel best (k + 1) (by omega) (by omega) (by omega) (Or.inr ⟨p, q1, q2, q3, by omega, q5, fun i hi hA hr hx0 => ?_⟩)
          rcases sp i hA hr with s | s
          · exact q6 i hi hA s hx0
          · rw [s]
            omega
    · rw [if_neg gx]
      refine em_next_b5 h hx n fuel best (k + 1) (by omega) (by omega) (by omega) ?_
      rcases hb with ⟨b1, b2⟩ | ⟨p, q1, q2, q3, q4, q5, q6⟩
      · refine Or.inl ⟨b1, fun i hi hA hr => ?_⟩
        rcases sp i hA hr with s | s
        · exact b2 i hi hA s
        · rw [s]
          omega
      · refine Or.inr ⟨p, q1, q2, q3, by omega, q5, fun i hi hA hr hx0 => ?_⟩
        rcases sp i hA hr with s | s
        · exact q6 i hi hA s hx0
        · rw [s] at hx0
          exact absurd hx0 gx
theorem em_next' {F : Int} {x : Int → Int} {H : hR} {m : mR} (h : Mid F x H m) (hx : ∀ i : Int, 0 ≤ x i ∧ x i ≤ 1) : ∃ r, fX7_nextToTry m = some r ∧ bestT H x r (m.1 0 4) := by
  have k1 := h.2.2.1
  unfold okN at k1
  have hrn := rk_rng (A := H.1 5 1) (H.1 4 2 0).toNat
  have e4 := h.1.2.2.2.2.1
  refine em_next_b5 h hx (m.1 0 4).toNat fuel0 (-6) 0 (by omega) (by omega) (by show _ < 1000000; omega) (Or.inl ⟨rfl, fun i hi hA hr => ?_⟩)
  have := rk_rng (A := H.1 5 1) i
  omega
/-- none is left -/
theorem em_next0 {F : Int} {x : Int → Int} {H : hR} {m : mR} (h : Mid F x H m) (hx : ∀ i : Int, 0 ≤ x i ∧ x i ≤ 1) (h1 : ∀ i : Nat, (i : Int) < H.1 4 2 0 → ¬ H.1 5 1 i = 0 → x i = 1) : fX7_nextToTry m = some (-6) := by
  obtain ⟨r, e, hb⟩ := em_next' h hx
  rcases hb with ⟨b1, b2⟩ | ⟨p, q1, q2, q3, q4, q5, q6⟩
  · rw [e, b1]
  · have := h1 p q1 q2
    omega
/-- the first one of the highest priority -/
theorem em_next1 {F : Int} {x : Int → Int} {H : hR} {m : mR} (h : Mid F x H m) (hx : ∀ i : Int, 0 ≤ x i ∧ x i ≤ 1) {p : Nat} (hp : (p : Int) < H.1 4 2 0) (hA : ¬ H.1 5 1 p = 0) (h0 : x p = 0) (hb : ∀ i : Nat, (i : Int) < H.1 4 2 0 → ¬ H.1 5 1 i = 0 → x i = 0 → prio H i < prio H p ∨ (prio H i = prio H p ∧ p ≤ i)) : fX7_nextToTry m = some (rk (H.1 5 1) p) := by
  obtain ⟨r, e, hb'⟩ := em_next' h hx
  have e4 := h.1.2.2.2.2.1
  have hlt := rk_lt (A := H.1 5 1) (n := p) (k := (H.1 4 2 0).toNat) (by omega) hA
  rcases hb' with ⟨b1, b2⟩ | ⟨p', q1, q2, q3, q4, q5, q6⟩
  · have := b2 p hp hA (by omega)
    omega
  · have r1 := hb p' q1 q2 q5
    have r2 := q6 p hp hA (by omega) h0
    have : p' = p := by omega
    rw [e, q3, this]
end
section
/-! ===== the day's payments, in step ===== -/
noncomputable def paysFrom (f : Nat) (m : mR) : Option (Unit × mR) := cr (fX7_nextToTry m) fun r => fX7_paysAll_b5 f r m
def payA (H H' : hR) : Prop := (∀ t a b : Int, ¬ (t = 2 ∧ 3 ≤ b) → ¬ (t = 3 ∧ (b = 12 ∨ b = 13 ∨ b = 15)) → ¬ (t = 0 ∧ (a = 10 ∨ a = 11)) → ¬ (t = 5 ∧ (a = 1 ∨ a = 4)) → H'.1 t a b = H.1 t a b) ∧ H'.2 = H.2
def PS (F0 B0 K1 K0 : Int) (H0 : hR) (m0 : mR) (q : Int → Bool) (H : hR) (m : mR) : Prop :=
  Mid (F0 + cntB q 0 (H0.1 4 2 0).toNat) (fun e => bI (q e)) H m ∧ MB (B0 + 1000000 * cntB q 0 (H0.1 4 2 0).toNat) K1 (K0 + 10000 * cntB q 0 (H0.1 4 2 0).toNat) H ∧ flg H m ∧
  (∀ e : Int, 0 ≤ e ∧ e < H0.1 4 2 0 → (q e = false → H.1 5 1 e = H0.1 5 1 e) ∧ (¬ H.1 5 1 e = 0 → H.1 5 1 e = H0.1 5 1 e ∧ H.1 5 4 e = H0.1 5 4 e + bI (q e))) ∧
  payA H0 H ∧ rowsP m0 m ∧ ∀ f : Nat, paysFrom (f + (cntB q 0 (H0.1 4 2 0).toNat).toNat) m0 = paysFrom f m
theorem PS.congr {F0 B0 K1 K0 : Int} {H0 : hR} {m0 : mR} {q q' : Int → Bool} {H : hR} {m : mR} (h : PS F0 B0 K1 K0 H0 m0 q H m) (hq : ∀ e : Int, 0 ≤ e ∧ e < H0.1 4 2 0 → q' e = q e) : PS F0 B0 K1 K0 H0 m0 q' H m := by
  obtain ⟨h1, h2, h3, h4, h5, h6, h7⟩ := h
  have ec : cntB q' 0 (H0.1 4 2 0).toNat = cntB q 0 (H0.1 4 2 0).toNat := cntB_fr _ (fun j j1 j2 => hq j (by omega))
  have e42 : H.1 4 2 0 = H0.1 4 2 0 := h5.1 _ _ _ (by omega) (by omega) (by omega) (by omega)
  refine ⟨?_, ?_, h3, fun e he => ?_, h5, h6, ?_⟩
  · rw [ec]
    exact h1.xs (fun i hi _ => by
      show bI (q' i) = bI (q i)
      rw [hq i (by omega)])
  · rw [ec]; exact h2
  · rw [hq e he]; exact h4 e he
  · rw [ec]; exact h7
theorem cntB_one {q : Int → Bool} {p : Int} (hp : q p = false) : ∀ n : Nat, cntB (fun e => q e || decide (e = p)) 0 n = cntB q 0 n + (if 0 ≤ p ∧ p < n then 1 else 0)
  | 0 => by
    unfold cntB
    rw [if_neg (by omega)]
    all_goals rfl
  | n + 1 => by
    have ih := cntB_one hp n
    unfold cntB
    rw [ih]
    by_cases g : (0 : Int) + n = p
    · rw [g, hp, decide_eq_true rfl, Bool.or_true, bI_t rfl, bI_f rfl, if_neg (by omega), if_pos (by omega)]
    · rw [decide_eq_false g, Bool.or_false]
      by_cases g2 : 0 ≤ p ∧ p < n
      · rw [if_pos g2, if_pos (by omega)]
        omega
      · rw [if_neg g2, if_neg (by omega)]
        omega
theorem PS.step {F0 B0 K1 K0 : Int} {H0 : hR} {m0 : mR} {q : Int → Bool} {H : hR} {m : mR} {p : Nat} (h : PS F0 B0 K1 K0 H0 m0 q H m) (hA0 : ∀ e : Int, 0 ≤ e ∧ e < H0.1 4 2 0 → ¬ H0.1 5 1 e = 0) (hs : 0 ≤ H0.1 4 2 0 ∧ H0.1 4 2 0 ≤ 8400) (hB : 0 ≤ B0 ∧ B0 ≤ 4611686000000000000) (hK : 0 ≤ K1 ∧ K1 + 1000000 ≤ K0) (hp : (p : Int) < H0.1 4 2 0) (hq : q p = false) (hb : ∀ e : Int, 0 ≤ e ∧ e < H0.1 4 2 0 → q e = false → prio H0 e < prio H0 p ∨ (prio H0 e = prio H0 p ∧ p ≤ e)) :
    ∃ H' m', fX2_tryPayment p H = some ((), H') ∧ PS F0 B0 K1 K0 H0 m0 (fun e => q e || decide (e = (p : Int))) H' m' := by
  obtain ⟨h1, h2, h3, h4, h5, h6, h7⟩ := h
  have hcr := cntB_rng (b := q) (lo := 0) (H0.1 4 2 0).toNat
  have hx : ∀ i : Int, 0 ≤ bI (q i) ∧ bI (q i) ≤ 1 := fun i => bI_rng _
  have e42 : H.1 4 2 0 = H0.1 4 2 0 := h5.1 _ _ _ (by omega) (by omega) (by omega) (by omega)
  have e50 : ∀ e : Int, H.1 5 0 e = H0.1 5 0 e := fun e => h5.1 _ _ _ (by omega) (by omega) (by omega) (by omega)
  have ep : ∀ e : Int, prio H e = prio H0 e := fun e => by
    unfold prio
    rw [e50]
    exact h5.1 _ _ _ (by omega) (by omega) (by omega) (by omega)
  have hAp : ¬ H.1 5 1 p = 0 := by
    rw [(h4 p (by omega)).1 hq]
    exact hA0 p (by omega)
  have hnx := em_next1 h1 hx (p := p) (by omega) hAp (bI_f hq) (fun i hi hA hx0 => by
    have hqi : q i = false := by
      cases hh : q i
      · rfl
      · rw [hh] at hx0
        cases hx0
    rw [ep, ep]
    have := hb i (by omega) hqi
    omega)
  obtain ⟨H', m', y1, y2, y3, y4, y5, y6, y7⟩ := ls_try h1 hx h2 (by omega) (by omega) (p := p) (by omega) hAp (bI_f hq) h3
  have ec := cntB_one hq (H0.1 4 2 0).toNat
  rw [if_pos (by omega)] at ec
  have e42' : H'.1 4 2 0 = H0.1 4 2 0 := (y6.1 _ _ _ (by omega) (by omega) (by omega) (by omega)).trans e42
  refine ⟨H', m', y1, ?_, ?_, y5, fun e he => ?_, ⟨fun t a b q1 q2 q3 q4 => (y6.1 t a b q1 q2 q3 (by omega)).trans (h5.1 t a b q1 q2 q3 q4), y6.2.1.trans h5.2⟩, ⟨fun t q1 q2 q3 => (y7.1 t q1 q2 q3).trans (h6.1 t q1 q2 q3), y7.2.1.trans h6.2.1, fun k hk => (y7.2.2 k hk).trans (h6.2.2 k hk)⟩, fun f => ?_⟩
  · rw [ec]
    refine (y3.F (by omega)).xs (fun i hi hA => ?_)
    show bI (q i || decide ((i : Int) = p)) = up1 (fun e => bI (q e)) p 1 i
    by_cases g : (i : Int) = p
    · rw [g, up1_p, decide_eq_true rfl, Bool.or_true]
      rfl
    · rw [up1_n _ _ g, decide_eq_false g, Bool.or_false]
  · rw [ec, show B0 + 1000000 * (cntB q 0 (H0.1 4 2 0).toNat + 1) = B0 + 1000000 * cntB q 0 (H0.1 4 2 0).toNat + 1000000 by omega, show K0 + 10000 * (cntB q 0 (H0.1 4 2 0).toNat + 1) = K0 + 10000 * cntB q 0 (H0.1 4 2 0).toNat + 10000 by omega]
    exact y4
  · by_cases g : e = p
    · subst g
      show ((q p || decide ((p : Int) = p)) = false → _) ∧ (_ → _ ∧ _ = _ + bI (q p || decide ((p : Int) = p)))
      rw [decide_eq_true rfl, Bool.or_true]
      refine ⟨fun c => (by cases c), fun c => ?_⟩
      rcases y6.2.2 with r | ⟨r1, r2⟩
      · exact absurd r c
      · obtain ⟨z1, z2⟩ := (h4 p he).2 hAp
        rw [r1, r2, z1, z2, hq]
        exact ⟨rfl, by rw [bI_f rfl, bI_t rfl]; omega⟩
    · show ((q e || decide (e = p)) = false → _) ∧ (_ → _ ∧ _ = _ + bI (q e || decide (e = p)))
      rw [decide_eq_false g, Bool.or_false, y6.1 5 1 e (by omega) (by omega) (by omega) (by omega), y6.1 5 4 e (by omega) (by omega) (by omega) (by omega)]
      exact h4 e he
  · rw [ec, show f + (cntB q 0 (H0.1 4 2 0).toNat + 1).toNat = (f + 1) + (cntB q 0 (H0.1 4 2 0).toNat).toNat by omega, h7 (f + 1)]
    have hr := rk_rng (A := H.1 5 1) p
    unfold paysFrom
    rw [hnx, cr_some, fX7_paysAll_b5, gd_pos (by omega), if_neg (by omega), y2, cl_some]
/-- those of a priority that come before a place, and those of higher ones -/
def doneQ (H0 : hR) (P i : Int) (e : Int) : Bool := decide (P < prio H0 e ∨ (prio H0 e = P ∧ e < i))
theorem ls_payOf {F0 B0 K1 K0 P : Int} {H0 : hR} {m0 : mR} (hA0 : ∀ e : Int, 0 ≤ e ∧ e < H0.1 4 2 0 → ¬ H0.1 5 1 e = 0) (hs : 0 ≤ H0.1 4 2 0 ∧ H0.1 4 2 0 ≤ 8400) (hB : 0 ≤ B0 ∧ B0 ≤ 4611686000000000000) (hK : 0 ≤ K1 ∧ K1 + 1000000 ≤ K0) (hP : wR P) : ∀ (k fuel i : Nat) (H : hR) (m : mR), (i : Int) + k = H0.1 4 2 0 → k < fuel → PS F0 B0 K1 K0 H0 m0 (doneQ H0 P i) H m →
    ∃ H' m', fX2_payWaitingOf_b2 fuel P i H = some ((), H') ∧ PS F0 B0 K1 K0 H0 m0 (doneQ H0 P (H0.1 4 2 0)) H' m'
  | k, 0, _, _, _, _, h, _ => by omega
  | 0, fuel + 1, i, H, m, h1, _, h => by
    have e42 : H.1 4 2 0 = H0.1 4 2 0 := h.2.2.2.2.1.1 _ _ _ (by omega) (by omega) (by omega) (by omega)
    refine ⟨H, m, ?_, h.congr (fun e he => ?_)⟩
    · rw [fX2_payWaitingOf_b2, gd_pos (by omega), if_pos (by omega)]
    · rw [show (i : Int) = H0.1 4 2 0 by omega]
  | k + 1, fuel + 1, i, H, m, h1, h2, h => by
    have h5 := h.2.2.2.2.1
    have e42 : H.1 4 2 0 = H0.1 4 2 0 := h5.1 _ _ _ (by omega) (by omega) (by omega) (by omega)
    have e50 : ∀ e : Int, H.1 5 0 e = H0.1 5 0 e := fun e => h5.1 _ _ _ (by omega) (by omega) (by omega) (by omega)
    have ep : H.1 3 (H.1 5 0 i) 8 = prio H0 i := by
      unfold prio
      rw [e50]
      exact h5.1 _ _ _ (by omega) (by omega) (by omega) (by omega)
    have k1 := h.1.2.2.1
    unfold okN at k1
    have hroom := roomOK_rng k1.2.2.2.2
    have hv := (h.1.2.2.2.2.2.2.1.1 i (by omega)).1
    have hpr : 0 ≤ H.1 3 (H.1 5 0 i) 8 ∧ H.1 3 (H.1 5 0 i) 8 ≤ 9 := (h.1.2.2.2.2.2.1 _ hv).2.1.2.2.2.1
    by_cases g : prio H0 i = P
    · obtain ⟨H1, m1, y1, y2⟩ := h.step (p := i) hA0 hs hB hK (by omega) (decide_eq_false (by omega)) (fun e he hq => by
        have := of_decide_eq_false hq
        omega)
      obtain ⟨H', m', z1, z2⟩ := ls_payOf hA0 hs hB hK hP k fuel (i + 1) H1 m1 (by omega) (by omega) (y2.congr (fun e he => by
        unfold doneQ
        rw [← Bool.decide_or]
        refine decide_eq_decide.mpr ?_
        by_cases q : e = i
        · subst q
          omega
        · omega))
      refine ⟨H', m', ?_, z2⟩
      rw [fX2_payWaitingOf_b2, gd_pos (by omega), if_neg (by omega), gd_pos (by omega), gd_pos (by omega), gd_pos (by omega), if_pos (by omega), y1, cl_some]
      exact z1
    · obtain ⟨H', m', z1, z2⟩ := ls_payOf hA0 hs hB hK hP k fuel (i + 1) H m (by omega) (by omega) (h.congr (fun e he => by
        unfold doneQ
        refine decide_eq_decide.mpr ?_
        by_cases q : e = i
        · subst q
          omega
        · omega))
      refine ⟨H', m', ?_, z2⟩
      rw [fX2_payWaitingOf_b2, gd_pos (by omega), if_neg (by omega), gd_pos (by omega), gd_pos (by omega), gd_pos (by omega), if_neg (by omega)]
      exact z1
theorem ec_mask {H : hR} (hk : okN H) (hv : okV H) (ho : okO H) : ∀ (k fuel i : Nat) (x : Int), (i : Int) + k = H.1 4 2 0 → k < fuel → (0 ≤ x ∧ x < 1024) → (∀ e : Int, 0 ≤ e ∧ e < i → bitP x (prio H e) = 1) → ∃ y, fX2_payWaiting_b4 fuel x i H = fX2_payWaiting_b48 fuel0 y 9 H ∧ (0 ≤ y ∧ y < 1024) ∧ ∀ e : Int, 0 ≤ e ∧ e < H.1 4 2 0 → bitP y (prio H e) = 1
  | k, 0, _, _, _, h, _, _ => by omega
  | 0, fuel + 1, i, x, h1, _, hx, hb => by
    have k1 := hk
    unfold okN at k1
    refine ⟨x, ?_, hx, fun e he => hb e (by omega)⟩
    rw [fX2_payWaiting_b4, gd_pos (by omega), if_pos (by omega)]
  | k + 1, fuel + 1, i, x, h1, h2, hx, hb => by
    have k1 := hk
    unfold okN at k1
    have hroom := roomOK_rng k1.2.2.2.2
    have hw := (hv.1 i (by omega)).1
    have hpr : 0 ≤ prio H i ∧ prio H i ≤ 9 := (ho _ hw).2.1.2.2.2.1
    obtain ⟨c1, c2, c3⟩ := bitP_or hx hpr
    obtain ⟨y, e1, e2, e3⟩ := ec_mask hk hv ho k fuel (i + 1) (orI x (shlI 1 (prio H i))) (by omega) (by omega) c1 (fun e he => by
      by_cases q : e = i
      · rw [q]; exact c2
      · have hwe := (hv.1 e (by omega)).1
        have hpe : 0 ≤ prio H e ∧ prio H e ≤ 9 := (ho _ hwe).2.1.2.2.2.1
        exact c3 _ hpe (hb e (by omega)))
    refine ⟨y, ?_, e2, e3⟩
    rw [fX2_payWaiting_b4, gd_pos (by omega), if_neg (by omega), gd_pos (by omega), gd_pos (by omega)]
    exact e1
theorem ls_payAll {F0 B0 K1 K0 y : Int} {H0 : hR} {m0 : mR} (hA0 : ∀ e : Int, 0 ≤ e ∧ e < H0.1 4 2 0 → ¬ H0.1 5 1 e = 0) (hs : 0 ≤ H0.1 4 2 0 ∧ H0.1 4 2 0 ≤ 8400) (hB : 0 ≤ B0 ∧ B0 ≤ 4611686000000000000) (hK : 0 ≤ K1 ∧ K1 + 1000000 ≤ K0) (hy : 0 ≤ y ∧ y < 1024) (hb : ∀ e : Int, 0 ≤ e ∧ e < H0.1 4 2 0 → bitP y (prio H0 e) = 1) : ∀ (k fuel : Nat) (H : hR) (m : mR), k ≤ 10 → k < fuel → PS F0 B0 K1 K0 H0 m0 (doneQ H0 ((k : Int) - 1) 0) H m →
    ∃ H' m', fX2_payWaiting_b48 fuel y ((k : Int) - 1) H = cl (fX5_dropSettled H') (fun r75 H75 => some ((), H75)) ∧ PS F0 B0 K1 K0 H0 m0 (doneQ H0 (-1) 0) H' m'
  | k, 0, _, _, _, h, _ => by omega
  | 0, fuel + 1, H, m, _, _, h => by
    refine ⟨H, m, ?_, h⟩
    rw [fX2_payWaiting_b48, gd_pos (by omega), if_pos (by omega)]
  | k + 1, fuel + 1, H, m, h1, h2, h => by
    have e : ((k + 1 : Nat) : Int) - 1 = k := by omega
    rw [e] at h ⊢
    have hbr := bitP_rng hy (P := k) (by omega)
    have e2 : (k : Int) + -1 = (k : Int) - 1 := by omega
    by_cases g : bitP y k = 0
    · obtain ⟨H', m', z1, z2⟩ := ls_payAll hA0 hs hB hK hy hb k fuel H m (by omega) (by omega) (h.congr (fun e he => by
        have := hb e he
        unfold doneQ
        refine decide_eq_decide.mpr ?_
        have hne : ¬ prio H0 e = k := fun q => by
          rw [q] at this
          omega
        omega))
      refine ⟨H', m', ?_, z2⟩
      unfold bitP at hbr g
      rw [fX2_payWaiting_b48, gd_pos (by omega), if_neg (by omega), gd_pos (by omega), if_pos g, e2]
      exact z1
    · obtain ⟨H1, m1, y1, y2⟩ := ls_payOf hA0 hs hB hK (P := k) (by omega) (H0.1 4 2 0).toNat fuel0 0 H m (by omega) (by show _ < 1000000; omega) h
      obtain ⟨H', m', z1, z2⟩ := ls_payAll hA0 hs hB hK hy hb k fuel H1 m1 (by omega) (by omega) (y2.congr (fun e he => by
        unfold doneQ
        refine decide_eq_decide.mpr ?_
        omega))
      refine ⟨H', m', ?_, z2⟩
      have epo : fX2_payWaitingOf k H = some ((), H1) := y1
      unfold bitP at hbr g
      rw [fX2_payWaiting_b48, gd_pos (by omega), if_neg (by omega), gd_pos (by omega), if_neg g, epo, cl_some, e2]
      exact z1
/-! the reference's flags of today go -/
theorem pk_strip {o a n d f x : Int} (ho : 0 ≤ o ∧ o ≤ 15) (ha : 0 ≤ a ∧ a ≤ 1048575) (hn : 0 ≤ n ∧ n ≤ 2047) (hd : 0 ≤ d ∧ d ≤ 2047) (hf : 0 ≤ f ∧ f ≤ 15) (hx : 0 ≤ x ∧ x ≤ 1) : (0 ≤ pkW o a n d f x ∧ pkW o a n d f x ≤ 9223372036854775807) ∧ pkW o a n d f x % 1125899906842624 = pkW o a n d f 0 := by
  have h1 := pk_parts ho ha hn hd hf hx
  have h2 := pk_parts ho ha hn hd hf (show (0 : Int) ≤ 0 ∧ (0 : Int) ≤ 1 by omega)
  have e : pkW o a n d f x = pkW o a n d f 0 + 1125899906842624 * x := by
    unfold pkW
    omega
  omega
theorem em_strip {W : Int → Int} {n : Int} (hn : 0 ≤ n ∧ n ≤ 8400) (hW : ∀ j : Int, 0 ≤ j ∧ j < n → 0 ≤ W j ∧ W j ≤ 9223372036854775807) : ∀ (k fuel : Nat) (i : Int) (m : mR), i + k = n → 0 ≤ i → k < fuel → m.1 0 4 = n → (∀ j : Int, m.1 1 j = if 0 ≤ j ∧ j < i then W j % 1125899906842624 else W j) → ∃ m', fX7_paysAll_b26 fuel i m = some ((), m') ∧ (∀ j : Int, m'.1 1 j = if 0 ≤ j ∧ j < n then W j % 1125899906842624 else W j) ∧ (∀ t : Int, ¬ t = 1 → m'.1 t = m.1 t) ∧ m'.2 = m.2
  | k, 0, _, _, _, _, h, _, _ => by omega
  | 0, fuel + 1, i, m, h1, h2, _, h4, h5 => by
    refine ⟨m, ?_, fun j => ?_, fun _ _ => rfl, rfl⟩
    · rw [fX7_paysAll_b26, gd_pos (by omega), gd_pos (by omega), if_pos (by omega)]
    · rw [h5, show i = n by omega]
  | k + 1, fuel + 1, i, m, h1, h2, h3, h4, h5 => by
    have hWi := hW i (by omega)
    have ei : m.1 1 i = W i := by rw [h5, if_neg (by omega)]
    obtain ⟨m', q1, q2, q3, q4⟩ := em_strip hn hW k fuel (i + 1) (mS m 1 i (W i % 1125899906842624)) (by omega) (by omega) (by omega) ((mS_n m (by omega)).trans h4) (fun j => by
      by_cases g : j = i
      · subst g
        rw [mS_p, if_pos (by omega)]
      · rw [mS_n m (by omega), h5]
        by_cases g2 : 0 ≤ j ∧ j < i
        · rw [if_pos g2, if_pos (by omega)]
        · rw [if_neg g2, if_neg (by omega)])
    refine ⟨m', ?_, q2, fun t ht => (q3 t ht).trans (mS_t m _ _ ht), q4⟩
    rw [fX7_paysAll_b26, gd_pos (by omega), gd_pos (by omega), if_neg (by omega), gd_pos (by omega), ei, gd_pos (by omega), gd_pos (by omega), bnd_eq]
    exact q1
theorem Mid.strip {F : Int} {x : Int → Int} {H : hR} {m : mR} (h : Mid F x H m) (hx : ∀ i : Int, 0 ≤ x i ∧ x i ≤ 1) : ∃ m', fX7_paysAll_b26 fuel0 0 m = some ((), m') ∧ Mid F (fun _ => 0) H m' ∧ (∀ t : Int, ¬ t = 1 → m'.1 t = m.1 t) ∧ m'.2 = m.2 := by
  have k1 := h.2.2.1
  unfold okN at k1
  have hrn := rk_rng (A := H.1 5 1) (H.1 4 2 0).toNat
  have e4 := h.1.2.2.2.2.1
  have key : ∀ j : Int, 0 ≤ j ∧ j < m.1 0 4 → ∃ i : Nat, (i : Int) < H.1 4 2 0 ∧ ¬ H.1 5 1 i = 0 ∧ rk (H.1 5 1) i = j := fun j hj => by
    obtain ⟨i, i1, i2, i3⟩ := rk_sur (A := H.1 5 1) (H.1 4 2 0).toNat j hj.1 (by omega)
    exact ⟨i, by omega, i2, i3⟩
  have st : ∀ i : Nat, (i : Int) < H.1 4 2 0 → ¬ H.1 5 1 i = 0 → (0 ≤ m.1 1 (rk (H.1 5 1) i) ∧ m.1 1 (rk (H.1 5 1) i) ≤ 9223372036854775807) ∧ m.1 1 (rk (H.1 5 1) i) % 1125899906842624 = pkW (H.1 5 0 i) (H.1 5 1 i) (H.1 5 2 i) (H.1 5 3 i) (H.1 5 4 i) 0 := fun i hi hA => by
    obtain ⟨v1, v2, v3, v4, v5⟩ := h.2.2.2.2.2.2.1.1 i (by omega)
    rw [h.1.2.2.2.2.2 i hi hA]
    exact pk_strip (by omega) (by omega) (by omega) (by omega) (by omega) (hx i)
  obtain ⟨m', q1, q2, q3, q4⟩ := em_strip (W := m.1 1) (n := m.1 0 4) (by omega) (fun j hj => by
    obtain ⟨i, i1, i2, i3⟩ := key j hj
    rw [← i3]
    exact (st i i1 i2).1) (m.1 0 4).toNat fuel0 0 m (by omega) (by omega) (by show _ < 1000000; omega) rfl (fun j => by rw [if_neg (by omega)])
  refine ⟨m', q1, ?_, q3, q4⟩
  obtain ⟨⟨c1, c2, c3, c4, c5⟩, h2⟩ := h
  unfold Mid MC
  rw [q3 0 (by omega), q4]
  refine ⟨⟨c1, c2, c3, c4, c5.1, fun i hi hA => ?_⟩, h2⟩
  have hlt := rk_lt (A := H.1 5 1) (n := i) (k := (H.1 4 2 0).toNat) (by omega) hA
  have hri := rk_rng (A := H.1 5 1) i
  rw [q2, if_pos (by omega)]
  exact (st i hi hA).2
theorem ls_pays {F B K1 K : Int} {H : hR} {m : mR} (h : Mid F (fun _ => 0) H m) (hA : ∀ e : Int, 0 ≤ e ∧ e < H.1 4 2 0 → ¬ H.1 5 1 e = 0) (hM : MB B K1 K H) (hfl : flg H m) (hB : 0 ≤ B ∧ B ≤ 4611686000000000000) (hK : 0 ≤ K1 ∧ K1 + 1000000 ≤ K) :
    ∃ H1 H' m', fX2_payWaiting H = some ((), H') ∧ fX7_paysAll m = some ((), m') ∧ Mid (F + 8400) (fun _ => 0) H1 m' ∧ dropR H1 H' ∧ MB (B + 8400000000) K1 (K + 84000000) H1 ∧ flg H1 m' ∧ payA H H1 ∧ rowsP m m' ∧ (∀ e : Int, 0 ≤ e ∧ e < H.1 4 2 0 → ¬ H1.1 5 1 e = 0 → H1.1 5 1 e = H.1 5 1 e ∧ H1.1 5 4 e = H.1 5 4 e + 1) := by
  have k1 := h.2.2.1
  have k1' := k1
  unfold okN at k1'
  have hz : ∀ n : Nat, cntB (fun _ => false) 0 n = 0 := fun n => by
    induction n with
    | zero => rfl
    | succ n ih =>
      unfold cntB
      rw [ih]
      rfl
  have p0 : PS F B K1 K H m (fun _ => false) H m := by
    refine ⟨?_, ?_, hfl, fun e he => ⟨fun _ => rfl, fun _ => ⟨rfl, ?_⟩⟩, ⟨fun _ _ _ _ _ _ _ => rfl, rfl⟩, ⟨fun _ _ _ _ => rfl, rfl, fun _ _ => rfl⟩, fun f => ?_⟩
    · rw [hz, Int.add_zero]
      exact h
    · rw [hz, Int.mul_zero, Int.mul_zero, Int.add_zero, Int.add_zero]
      exact hM
    · rw [bI_f rfl, Int.add_zero]
    · rw [hz]
      rfl
  obtain ⟨y, e1, e2, e3⟩ := ec_mask k1 h.2.2.2.2.2.2.1 h.2.2.2.2.2.1 (H.1 4 2 0).toNat fuel0 0 0 (by omega) (by show _ < 1000000; omega) (by omega) (fun e he => by omega)
  have p1 : PS F B K1 K H m (doneQ H (((10 : Nat) : Int) - 1) 0) H m := p0.congr (fun e he => by
    have hwe := (h.2.2.2.2.2.2.1.1 e he).1
    have hpe : 0 ≤ prio H e ∧ prio H e ≤ 9 := (h.2.2.2.2.2.1 _ hwe).2.1.2.2.2.1
    exact decide_eq_false (by omega))
  obtain ⟨H1, m1, y1, y2⟩ := ls_payAll hA (by omega) hB hK e2 e3 10 fuel0 H m (by omega) (by decide) p1
  obtain ⟨z1, z2, z3, z4, z5, z6, z7⟩ := y2
  have hc := cntB_rng (b := doneQ H (-1) 0) (lo := 0) (H.1 4 2 0).toNat
  have e42 : H1.1 4 2 0 = H.1 4 2 0 := z5.1 _ _ _ (by omega) (by omega) (by omega) (by omega)
  have hd1 : ∀ e : Int, 0 ≤ e ∧ e < H.1 4 2 0 → doneQ H (-1) 0 e = true := fun e he => by
    have hwe := (h.2.2.2.2.2.2.1.1 e he).1
    have hpe : 0 ≤ prio H e ∧ prio H e ≤ 9 := (h.2.2.2.2.2.1 _ hwe).2.1.2.2.2.1
    exact decide_eq_true (by omega)
  have hn0 := em_next0 z1 (fun i => bI_rng _) (fun i hi _ => bI_t (hd1 i (by omega)))
  obtain ⟨m', s1, s2, s3, s4⟩ := z1.strip (fun i => bI_rng _)
  obtain ⟨H', d1, d2⟩ := ec_drop z1.2.2.1 (fun j hj => by
    have := (z1.2.2.2.2.2.2.1.1 j hj).2.1
    omega)
  refine ⟨H1, H', m', ?_, ?_, s2.F (by omega), d2, ?_, ?_, z5, ⟨fun t q1 q2 q3 => (s3 t q2).trans (z6.1 t q1 q2 q3), s4.trans z6.2.1, fun k hk => by rw [s3 6 (by omega)]; exact z6.2.2 k hk⟩, fun e he hne => ?_⟩
  · have : fX2_payWaiting H = fX2_payWaiting_b48 fuel0 y 9 H := e1
    rw [this]
    rw [show (((10 : Nat) : Int) - 1) = 9 from rfl] at y1
    rw [y1, d1, cl_some]
  · have hf := z7 (fuel0 - (cntB (doneQ H (-1) 0) 0 (H.1 4 2 0).toNat).toNat)
    rw [show fuel0 - (cntB (doneQ H (-1) 0) 0 (H.1 4 2 0).toNat).toNat + (cntB (doneQ H (-1) 0) 0 (H.1 4 2 0).toNat).toNat = fuel0 by show 1000000 - _ + _ = 1000000; omega] at hf
    have : fX7_paysAll m = paysFrom fuel0 m := rfl
    rw [this, hf, show fuel0 - (cntB (doneQ H (-1) 0) 0 (H.1 4 2 0).toNat).toNat = (999999 - (cntB (doneQ H (-1) 0) 0 (H.1 4 2 0).toNat).toNat) + 1 by show 1000000 - _ = _; omega]
    unfold paysFrom
    rw [hn0, cr_some, fX7_paysAll_b5, gd_pos (by omega), if_pos rfl, s1]
  · refine z2.to rfl (fun a ha f hf => ?_) rfl (fun a ha => Or.inr (by omega))
    have := z2.1 a ha f hf
    omega
  · exact z3.fr rfl (by rw [s3 6 (by omega)])
  · obtain ⟨r1, r2⟩ := (z4 e he).2 hne
    rw [hd1 e he, bI_t rfl] at r2
    exact ⟨r1, r2⟩
end
section
/-! ===== doubles: what interest needs ===== -/
/-- the place of the leading digit, in units -/
theorem fp_leadUs {A B X s : Nat} {e : Int} (hA : 0 < A) (hB : 0 < B) (he : -200 ≤ e + s) (hX : X * 2 ^ s = A * 2 ^ (e + 200 + s).toNat) (h1 : B * 2 ^ 120 ≤ X) (h2 : X < B * 2 ^ 255) : ∃ l : Nat, FP.Core.leading A B + e + 200 = l ∧ 120 ≤ l ∧ l ≤ 254 ∧ B * 2 ^ l ≤ X ∧ X < B * 2 ^ (l + 1) := by
  obtain ⟨s1, s2⟩ := fp_lead hA hB
  generalize FP.Core.leading A B = k at *
  have hp : 1 ≤ 2 ^ 120 := Nat.one_le_two_pow
  by_cases g : 0 ≤ k + e + 200
  · obtain ⟨l, hl⟩ := Int.eq_ofNat_of_zero_le g
    have hl : k + e + 200 = (l : Int) := hl
    have hs : 0 < 2 ^ s := Nat.two_pow_pos _
    have u1 : B * 2 ^ l ≤ X := by
      refine Nat.le_of_mul_le_mul_right ?_ hs
      rw [hX]
      by_cases q : 0 ≤ k
      · rw [show (-k).toNat = 0 by omega, Nat.pow_zero, Nat.mul_one] at s1
        calc B * 2 ^ l * 2 ^ s = B * 2 ^ k.toNat * 2 ^ (e + 200 + s).toNat := by rw [Nat.mul_assoc, Nat.mul_assoc, ← Nat.pow_add, ← Nat.pow_add]; congr 2; omega
          _ ≤ A * 2 ^ (e + 200 + s).toNat := Nat.mul_le_mul_right _ s1
      · rw [show k.toNat = 0 by omega, Nat.pow_zero, Nat.mul_one] at s1
        calc B * 2 ^ l * 2 ^ s = B * (2 ^ l * 2 ^ s) := Nat.mul_assoc _ _ _
          _ ≤ A * 2 ^ (-k).toNat * (2 ^ l * 2 ^ s) := Nat.mul_le_mul_right _ s1
          _ = A * 2 ^ (e + 200 + s).toNat := by rw [Nat.mul_assoc, ← Nat.pow_add, ← Nat.pow_add]; congr 2; omega
    have u2 : X < B * 2 ^ (l + 1) := by
      refine Nat.lt_of_mul_lt_mul_right (a := 2 ^ s) ?_
      rw [hX]
      by_cases q : 0 ≤ k
      · rw [show (-k - 1).toNat = 0 by omega, Nat.pow_zero, Nat.mul_one] at s2
        calc A * 2 ^ (e + 200 + s).toNat < B * 2 ^ (k + 1).toNat * 2 ^ (e + 200 + s).toNat := Nat.mul_lt_mul_of_pos_right s2 (Nat.two_pow_pos _)
          _ = B * 2 ^ (l + 1) * 2 ^ s := by rw [Nat.mul_assoc, Nat.mul_assoc, ← Nat.pow_add, ← Nat.pow_add]; congr 2; omega
      · rw [show (k + 1).toNat = 0 by omega, Nat.pow_zero, Nat.mul_one] at s2
        calc A * 2 ^ (e + 200 + s).toNat = A * 2 ^ (-k - 1).toNat * (2 ^ (l + 1) * 2 ^ s) := by rw [Nat.mul_assoc, ← Nat.pow_add, ← Nat.pow_add]; congr 2; omega
          _ < B * (2 ^ (l + 1) * 2 ^ s) := Nat.mul_lt_mul_of_pos_right s2 (Nat.mul_pos (Nat.two_pow_pos _) hs)
          _ = B * 2 ^ (l + 1) * 2 ^ s := (Nat.mul_assoc _ _ _).symm
    refine ⟨l, hl, ?_, ?_, u1, u2⟩
    · by_cases q : 120 ≤ l
      · exact q
      · exfalso
        have : B * 2 ^ (l + 1) ≤ B * 2 ^ 120 := Nat.mul_le_mul_left _ (Nat.pow_le_pow_right (by omega) (by omega))
        omega
    · by_cases q : l ≤ 254
      · exact q
      · exfalso
        have : B * 2 ^ 255 ≤ B * 2 ^ l := Nat.mul_le_mul_left _ (Nat.pow_le_pow_right (by omega) (by omega))
        omega
  · exfalso
    have hs : 0 < 2 ^ s := Nat.two_pow_pos _
    have c1 : X * 2 ^ s < B * 2 ^ s := by
      rw [hX]
      by_cases q : 0 ≤ k
      · rw [show (-k - 1).toNat = 0 by omega, Nat.pow_zero, Nat.mul_one] at s2
        calc A * 2 ^ (e + 200 + s).toNat < B * 2 ^ (k + 1).toNat * 2 ^ (e + 200 + s).toNat := Nat.mul_lt_mul_of_pos_right s2 (Nat.two_pow_pos _)
          _ ≤ B * 2 ^ s := by rw [Nat.mul_assoc, ← Nat.pow_add]; exact Nat.mul_le_mul_left _ (Nat.pow_le_pow_right (by omega) (by omega))
      · rw [show (k + 1).toNat = 0 by omega, Nat.pow_zero, Nat.mul_one] at s2
        calc A * 2 ^ (e + 200 + s).toNat ≤ A * 2 ^ (-k - 1).toNat * 2 ^ s := by rw [Nat.mul_assoc, ← Nat.pow_add]; exact Nat.mul_le_mul_left _ (Nat.pow_le_pow_right (by omega) (by omega))
          _ < B * 2 ^ s := Nat.mul_lt_mul_of_pos_right s2 hs
    have c2 : X < B := Nat.lt_of_mul_lt_mul_right c1
    have c3 : B * 1 ≤ B * 2 ^ 120 := Nat.mul_le_mul_left _ hp
    omega
/-- a rounded quotient: below and above whatever has at most 53 digits -/
theorem fp_rrs {A B X s : Nat} {e : Int} (hA : 0 < A) (hB : 0 < B) (he : -200 ≤ e + s) (hX : X * 2 ^ s = A * 2 ^ (e + 200 + s).toNat) (h1 : B * 2 ^ 120 ≤ X) (h2 : X < B * 2 ^ 255) :
    ∃ c l : Nat, FP.Core.roundRatio FP.Core.b64 false A B e = .fin false c ((l : Int) - 252) ∧ 2 ^ 52 ≤ c ∧ c < 2 ^ 53 ∧ 120 ≤ l ∧ l ≤ 255 ∧ (∀ M G : Nat, M ≤ 2 ^ 53 → X ≤ B * (M * 2 ^ G) → c * 2 ^ (l - 52) ≤ M * 2 ^ G) ∧ ∀ M G : Nat, M ≤ 2 ^ 53 → B * (M * 2 ^ G) ≤ X → M * 2 ^ G ≤ c * 2 ^ (l - 52) := by
  obtain ⟨l, hl, l1, l2, u1, u2⟩ := fp_leadUs hA hB he hX h1 h2
  have hq : FP.Core.quantum FP.Core.b64 A B e = (l : Int) - 252 := by
    unfold FP.Core.quantum
    rw [show FP.Core.b64.qmin = -1074 by decide, show (FP.Core.b64.p : Int) - 1 = 52 by decide]
    omega
  -- units
  have hAD : FP.Core.unitsNum A e ((l : Int) - 252) * (B * 2 ^ (l - 52)) = FP.Core.unitsDen B e ((l : Int) - 252) * X := by
    refine Nat.eq_of_mul_eq_mul_right (Nat.two_pow_pos s) ?_
    rw [Nat.mul_assoc (FP.Core.unitsDen B e ((l : Int) - 252)), hX]
    unfold FP.Core.unitsNum FP.Core.unitsDen
    by_cases g : (l : Int) - 252 ≤ e
    · rw [show ((l : Int) - 252 - e).toNat = 0 by omega, Nat.pow_zero, Nat.mul_one]
      rw [show (e + 200 + s).toNat = (e - ((l : Int) - 252)).toNat + (l - 52) + s by omega, Nat.pow_add, Nat.pow_add]
      ac_rfl
    · rw [show (e - ((l : Int) - 252)).toNat = 0 by omega, Nat.pow_zero, Nat.mul_one]
      have e1 : 2 ^ (l - 52) * 2 ^ s = 2 ^ ((l : Int) - 252 - e).toNat * 2 ^ (e + 200 + s).toNat := by rw [← Nat.pow_add, ← Nat.pow_add]; congr 1; omega
      calc A * (B * 2 ^ (l - 52)) * 2 ^ s = A * B * (2 ^ (l - 52) * 2 ^ s) := by ac_rfl
        _ = A * B * (2 ^ ((l : Int) - 252 - e).toNat * 2 ^ (e + 200 + s).toNat) := by rw [e1]
        _ = B * 2 ^ ((l : Int) - 252 - e).toNat * (A * 2 ^ (e + 200 + s).toNat) := by ac_rfl
  have hU : 0 < FP.Core.unitsDen B e ((l : Int) - 252) := Nat.mul_pos hB (Nat.two_pow_pos _)
  have hD : 0 < B * 2 ^ (l - 52) := Nat.mul_pos hB (Nat.two_pow_pos _)
  generalize hA' : FP.Core.unitsNum A e ((l : Int) - 252) = A' at *
  generalize hB' : FP.Core.unitsDen B e ((l : Int) - 252) = B' at *
  have up : ∀ M : Nat, X ≤ B * (M * 2 ^ (l - 52)) → FP.Core.nearest A' B' ≤ M := fun M h => by
    refine fp_nle hU (Nat.le_of_mul_le_mul_right ?_ hD)
    rw [hAD]
    calc B' * X ≤ B' * (B * (M * 2 ^ (l - 52))) := Nat.mul_le_mul_left _ h
      _ = M * B' * (B * 2 ^ (l - 52)) := by ac_rfl
  have dn : ∀ M : Nat, B * (M * 2 ^ (l - 52)) ≤ X → M ≤ FP.Core.nearest A' B' := fun M h => by
    refine fp_nge hU (Nat.le_of_mul_le_mul_right ?_ hD)
    rw [hAD]
    calc M * B' * (B * 2 ^ (l - 52)) = B' * (B * (M * 2 ^ (l - 52))) := by ac_rfl
      _ ≤ B' * X := Nat.mul_le_mul_left _ h
  have el : 2 ^ 52 * 2 ^ (l - 52) = 2 ^ l := by rw [← Nat.pow_add]; congr 1; omega
  have el1 : 2 ^ 53 * 2 ^ (l - 52) = 2 ^ (l + 1) := by rw [← Nat.pow_add]; congr 1; omega
  have n1 : 2 ^ 52 ≤ FP.Core.nearest A' B' := dn _ (by rw [el]; exact u1)
  have n2 : FP.Core.nearest A' B' ≤ 2 ^ 53 := up _ (by rw [el1]; exact Nat.le_of_lt u2)
  have b1 : ∀ M G : Nat, M ≤ 2 ^ 53 → X ≤ B * (M * 2 ^ G) → FP.Core.nearest A' B' * 2 ^ (l - 52) ≤ M * 2 ^ G := fun M G hM h => by
    by_cases g : l - 52 ≤ G
    · have e1 : M * 2 ^ G = M * 2 ^ (G - (l - 52)) * 2 ^ (l - 52) := by rw [Nat.mul_assoc, ← Nat.pow_add]; congr 2; omega
      rw [e1] at h ⊢
      exact Nat.mul_le_mul_right _ (up _ h)
    · have e2 : M * 2 ^ G ≤ 2 ^ l := by
        calc M * 2 ^ G ≤ 2 ^ 53 * 2 ^ G := Nat.mul_le_mul_right _ hM
          _ = 2 ^ (53 + G) := by rw [← Nat.pow_add]
          _ ≤ 2 ^ l := Nat.pow_le_pow_right (by omega) (by omega)
      have e3 : 2 ^ l ≤ M * 2 ^ G := Nat.le_of_mul_le_mul_left (Nat.le_trans u1 h) hB
      have e4 : FP.Core.nearest A' B' ≤ 2 ^ 52 := up _ (by rw [el]; exact Nat.le_trans h (Nat.mul_le_mul_left _ e2))
      calc FP.Core.nearest A' B' * 2 ^ (l - 52) ≤ 2 ^ 52 * 2 ^ (l - 52) := Nat.mul_le_mul_right _ e4
        _ = 2 ^ l := el
        _ ≤ M * 2 ^ G := e3
  have b2 : ∀ M G : Nat, M ≤ 2 ^ 53 → B * (M * 2 ^ G) ≤ X → M * 2 ^ G ≤ FP.Core.nearest A' B' * 2 ^ (l - 52) := fun M G hM h => by
    by_cases g : l - 52 ≤ G
    · have e1 : M * 2 ^ G = M * 2 ^ (G - (l - 52)) * 2 ^ (l - 52) := by rw [Nat.mul_assoc, ← Nat.pow_add]; congr 2; omega
      rw [e1] at h ⊢
      exact Nat.mul_le_mul_right _ (dn _ h)
    · calc M * 2 ^ G ≤ 2 ^ 53 * 2 ^ G := Nat.mul_le_mul_right _ hM
          _ = 2 ^ (53 + G) := by rw [← Nat.pow_add]
          _ ≤ 2 ^ l := Nat.pow_le_pow_right (by omega) (by omega)
          _ = 2 ^ 52 * 2 ^ (l - 52) := el.symm
          _ ≤ FP.Core.nearest A' B' * 2 ^ (l - 52) := Nat.mul_le_mul_right _ n1
  have er : FP.Core.roundRatio FP.Core.b64 false A B e = FP.Core.settle FP.Core.b64 false (FP.Core.nearest A' B') ((l : Int) - 252) := by
    unfold FP.Core.roundRatio FP.Core.roundAt
    rw [if_neg (by omega), hq, hA', hB']
  rw [er]
  unfold FP.Core.settle FP.Core.bound
  rw [show FP.Core.b64.qmax = 971 by decide, show FP.Core.b64.p = 53 by decide]
  by_cases g : FP.Core.nearest A' B' < 2 ^ 53
  · rw [if_pos g, if_pos (by omega)]
    exact ⟨_, l, rfl, n1, g, l1, by omega, b1, b2⟩
  · rw [if_neg g, if_pos (by omega)]
    have e5 : FP.Core.nearest A' B' = 2 ^ 53 := by omega
    rw [e5] at b1 b2
    have e6 : 2 ^ 53 * 2 ^ (l - 52) = 2 ^ 52 * 2 ^ (l + 1 - 52) := by rw [← Nat.pow_add, ← Nat.pow_add]; congr 1; omega
    rw [e6] at b1 b2
    refine ⟨2 ^ 52, l + 1, ?_, Nat.le_refl _, by omega, by omega, by omega, b1, b2⟩
    rw [show FP.Core.b64.tails = 2 ^ 52 by decide, show (l : Int) - 252 + 1 = ((l + 1 : Nat) : Int) - 252 by omega]
/-- rounding where the exponent may be small -/
theorem dv_rs {A B X s : Nat} {e : Int} {v : UInt64} (hv : v = UInt64.ofNat (FP.Core.encode FP.Core.b64 (FP.Core.roundRatio FP.Core.b64 false A B e))) (hB : 0 < B) (he : -200 ≤ e + s) (hX : X * 2 ^ s = A * 2 ^ (e + 200 + s).toNat) (h1 : B * 2 ^ 120 ≤ X) (h2 : X < B * 2 ^ 255) :
    ∃ V : Nat, dv v V ∧ (∀ M G : Nat, M ≤ 2 ^ 53 → X ≤ B * (M * 2 ^ G) → V ≤ M * 2 ^ G) ∧ ∀ M G : Nat, M ≤ 2 ^ 53 → B * (M * 2 ^ G) ≤ X → M * 2 ^ G ≤ V := by
  have hA : 0 < A := by
    rcases Nat.eq_zero_or_pos A with q | q
    · rw [q, Nat.zero_mul] at hX
      have h3 : 0 < B * 2 ^ 120 := Nat.mul_pos hB (Nat.two_pow_pos _)
      have h4 : 0 < X * 2 ^ s := Nat.mul_pos (by omega) (Nat.two_pow_pos _)
      omega
    · exact q
  obtain ⟨c, l, r1, r2, r3, r4, r5, r6, r7⟩ := fp_rrs hA hB he hX h1 h2
  obtain ⟨d1, d2⟩ := fp_de r2 r3 ⟨r4, r5⟩
  refine ⟨c * 2 ^ (l - 52), Or.inr ⟨c, l, ?_, r2, r3, r4, r5, rfl⟩, r6, r7⟩
  rw [hv, r1]
  have : (UInt64.ofNat (FP.Core.encode FP.Core.b64 (.fin false c ((l : Int) - 252)))).toNat = FP.Core.encode FP.Core.b64 (.fin false c ((l : Int) - 252)) := by
    rw [UInt64.toNat_ofNat']
    exact Nat.mod_eq_of_lt d2
  rw [this]
  exact d1
/-- the digits of a value -/
theorem dv_dec {v : UInt64} {V : Nat} (h : dv v V) : ∃ (c : Nat) (q : Int), FP.Core.decode FP.Core.b64 v.toNat = .fin false c q ∧ (c = 0 ∨ (-200 ≤ q ∧ 68 ≤ q + 200 ∧ q ≤ 3)) ∧ V = c * 2 ^ (q + 200).toNat ∧ c < 2 ^ 53 := by
  rcases h with ⟨h1, q, h2⟩ | ⟨c, l, h1, h2, h3, h4, h5, h6⟩
  · exact ⟨0, q, h2, Or.inl rfl, by rw [h1, Nat.zero_mul], by decide⟩
  · exact ⟨c, (l : Int) - 252, h1, Or.inr (by omega), by rw [h6, show ((l : Int) - 252 + 200).toNat = l - 52 by omega], h3⟩
theorem dv_big {v : UInt64} {V : Nat} (h : dv v V) : V = 0 ∨ 2 ^ 120 ≤ V := by
  rcases h with ⟨h1, -⟩ | ⟨c, l, h1, h2, h3, h4, h5, h6⟩
  · exact Or.inl h1
  · right
    rw [h6]
    calc 2 ^ 120 ≤ 2 ^ 52 * 2 ^ (l - 52) := by rw [← Nat.pow_add]; exact Nat.pow_le_pow_right (by omega) (by omega)
      _ ≤ c * 2 ^ (l - 52) := Nat.mul_le_mul_right _ h2
/-- a whole number as a double -/
theorem dv_l2d {d : Int} (hd : 0 ≤ d ∧ d ≤ 1125899906842624) : dv (FP.l2d (jL d)) (d.toNat * 2 ^ 200) := by
  have e1 : (jL d).toInt = d := jL_toInt (by omega)
  have ev : FP.l2d (jL d) = UInt64.ofNat (FP.Core.encode FP.Core.b64 (FP.Core.roundRatio FP.Core.b64 false d.toNat 1 0)) := by
    show FP.Core.l2d (jL d) = _
    unfold FP.Core.l2d FP.Core.fromInt FP.Core.ofInt FP.Core.round
    rw [e1, decide_eq_false (show ¬ d < 0 by omega), show d.natAbs = d.toNat by omega]
  by_cases g : d = 0
  · subst g
    have := dv_rr0 ev
    rw [show (0 : Int).toNat * 2 ^ 200 = 0 by decide]
    exact this
  · obtain ⟨V, v1, v2, v3⟩ := dv_rr (X := d.toNat * 2 ^ 200) ev (by omega) (by omega) rfl (by omega) (by omega)
    have h1 := v2 d.toNat 200 (by omega) (by omega)
    have h2 := v3 d.toNat 200 (by omega) (by omega)
    have : V = d.toNat * 2 ^ 200 := by omega
    rw [← this]
    exact v1
/-- a product -/
theorem dv_mul {a b : UInt64} {V W X : Nat} (ha : dv a V) (hb : dv b W) (hX : X * 2 ^ 200 = V * W) (h1 : X = 0 ∨ 2 ^ 120 ≤ X) (h2 : X < 2 ^ 255) : ∃ Y : Nat, dv (FP.dmul a b) Y ∧ (∀ M G : Nat, M ≤ 2 ^ 53 → X ≤ M * 2 ^ G → Y ≤ M * 2 ^ G) ∧ ∀ M G : Nat, M ≤ 2 ^ 53 → M * 2 ^ G ≤ X → M * 2 ^ G ≤ Y := by
  obtain ⟨c, q, a1, a2, a3, a4⟩ := dv_dec ha
  obtain ⟨d, r, b1, b2, b3, b4⟩ := dv_dec hb
  have ev : FP.dmul a b = UInt64.ofNat (FP.Core.encode FP.Core.b64 (FP.Core.roundRatio FP.Core.b64 false (c * d) 1 (q + r))) := by
    show FP.Core.dmul a b = _
    unfold FP.Core.dmul FP.Core.mul
    rw [a1, b1]
    rfl
  rcases h1 with h1 | h1
  · have hz : c * d = 0 := by
      rw [h1, Nat.zero_mul, a3, b3] at hX
      have p1 : 0 < 2 ^ (q + 200).toNat := Nat.two_pow_pos _
      have p2 : 0 < 2 ^ (r + 200).toNat := Nat.two_pow_pos _
      rcases Nat.eq_zero_or_pos c with q1 | q1
      · rw [q1, Nat.zero_mul]
      · rcases Nat.eq_zero_or_pos d with q2 | q2
        · rw [q2, Nat.mul_zero]
        · have := Nat.mul_pos (Nat.mul_pos q1 p1) (Nat.mul_pos q2 p2)
          omega
    rw [hz] at ev
    refine ⟨0, dv_rr0 ev, fun M G _ _ => Nat.zero_le _, fun M G _ h => by omega⟩
  · have hc : ¬ c = 0 := fun z => by
      rw [a3, z, Nat.zero_mul, Nat.zero_mul] at hX
      have : 0 < X * 2 ^ 200 := Nat.mul_pos (by omega) (Nat.two_pow_pos _)
      omega
    have hd : ¬ d = 0 := fun z => by
      rw [b3, z, Nat.zero_mul, Nat.mul_zero] at hX
      have : 0 < X * 2 ^ 200 := Nat.mul_pos (by omega) (Nat.two_pow_pos _)
      omega
    have a2 : -200 ≤ q ∧ 68 ≤ q + 200 ∧ q ≤ 3 := by omega
    have b2 : -200 ≤ r ∧ 68 ≤ r + 200 ∧ r ≤ 3 := by omega
    obtain ⟨Y, y1, y2, y3⟩ := dv_rs (X := X) (s := 200) ev (by omega) (by omega) (by
      rw [hX, a3, b3]
      have : 2 ^ (q + r + 200 + (200 : Nat)).toNat = 2 ^ (q + 200).toNat * 2 ^ (r + 200).toNat := by rw [← Nat.pow_add]; congr 1; omega
      rw [this]
      ac_rfl) (by omega) (by omega)
    exact ⟨Y, y1, fun M G h3 h4 => y2 M G h3 (by omega), fun M G h3 h4 => y3 M G h3 (by omega)⟩
/-- a sum -/
theorem dv_add {a b : UInt64} {V W : Nat} (ha : dv a V) (hb : dv b W) (h2 : V + W < 2 ^ 255) : ∃ Y : Nat, dv (FP.dadd a b) Y ∧ (∀ M G : Nat, M ≤ 2 ^ 53 → V + W ≤ M * 2 ^ G → Y ≤ M * 2 ^ G) ∧ ∀ M G : Nat, M ≤ 2 ^ 53 → M * 2 ^ G ≤ V + W → M * 2 ^ G ≤ Y := by
  have hV := dv_big ha
  have hW := dv_big hb
  obtain ⟨c, q, a1, a2, a3, a4⟩ := dv_dec ha
  obtain ⟨d, r, b1, b2, b3, b4⟩ := dv_dec hb
  have es : FP.Core.sumUnits false c q false d r (min q r) = ((FP.Core.inUnits c q (min q r) + FP.Core.inUnits d r (min q r) : Nat) : Int) := by
    unfold FP.Core.sumUnits FP.Core.signed
    simp
  have ev : FP.dadd a b = UInt64.ofNat (FP.Core.encode FP.Core.b64 (FP.Core.roundRatio FP.Core.b64 false (FP.Core.inUnits c q (min q r) + FP.Core.inUnits d r (min q r)) 1 (min q r))) := by
    show FP.Core.dadd a b = _
    unfold FP.Core.dadd FP.Core.add
    rw [a1, b1]
    show UInt64.ofNat (FP.Core.encode FP.Core.b64 (FP.Core.round FP.Core.b64 (FP.Core.Datum.fin (FP.Core.sumSign false false (FP.Core.sumUnits false c q false d r (min q r))) (FP.Core.sumUnits false c q false d r (min q r)).natAbs (min q r)))) = _
    rw [es]
    have sg : FP.Core.sumSign false false (((FP.Core.inUnits c q (min q r) + FP.Core.inUnits d r (min q r) : Nat) : Int)) = false := by
      unfold FP.Core.sumSign
      split
      · rfl
      · exact decide_eq_false (by omega)
    rw [sg, Int.natAbs_natCast]
    rfl
  have hs : ∃ s : Nat, -200 ≤ min q r + (s : Int) := ⟨(-200 - min q r).toNat, by omega⟩
  obtain ⟨s, hs⟩ := hs
  have term : ∀ (k : Nat) (x : Int), min q r ≤ x → (k = 0 ∨ -200 ≤ x) → FP.Core.inUnits k x (min q r) * 2 ^ (min q r + 200 + s).toNat = k * 2 ^ (x + 200).toNat * 2 ^ s := fun k x h3 h4 => by
    unfold FP.Core.inUnits
    rcases h4 with h4 | h4
    · rw [h4]
      simp
    · rw [Nat.mul_assoc, Nat.mul_assoc, ← Nat.pow_add, ← Nat.pow_add]
      congr 2
      omega
  have hX : (V + W) * 2 ^ s = (FP.Core.inUnits c q (min q r) + FP.Core.inUnits d r (min q r)) * 2 ^ (min q r + 200 + s).toNat := by
    rw [Nat.add_mul, Nat.add_mul, term c q (by omega) (by omega), term d r (by omega) (by omega), a3, b3]
  by_cases g : V + W = 0
  · have hz : FP.Core.inUnits c q (min q r) + FP.Core.inUnits d r (min q r) = 0 := by
      rw [g, Nat.zero_mul] at hX
      have p2 : 0 < 2 ^ (min q r + 200 + s).toNat := Nat.two_pow_pos _
      rcases Nat.eq_zero_or_pos (FP.Core.inUnits c q (min q r) + FP.Core.inUnits d r (min q r)) with q1 | q1
      · exact q1
      · have := Nat.mul_pos q1 p2
        omega
    rw [hz] at ev
    exact ⟨0, dv_rr0 ev, fun M G _ _ => Nat.zero_le _, fun M G _ h => by omega⟩
  · obtain ⟨Y, y1, y2, y3⟩ := dv_rs (X := V + W) (s := s) ev (by omega) hs hX (by omega) (by omega)
    exact ⟨Y, y1, fun M G h3 h4 => y2 M G h3 (by omega), fun M G h3 h4 => y3 M G h3 (by omega)⟩
/-- a difference that is not below 0 -/
theorem dv_sub {a b : UInt64} {V W : Nat} (ha : dv a V) (hb : dv b W) (hWV : W ≤ V) (h1 : V - W = 0 ∨ 2 ^ 120 ≤ V - W) (h2 : V - W < 2 ^ 255) : ∃ Y : Nat, dv (FP.dsub a b) Y ∧ (∀ M G : Nat, M ≤ 2 ^ 53 → V - W ≤ M * 2 ^ G → Y ≤ M * 2 ^ G) ∧ ∀ M G : Nat, M ≤ 2 ^ 53 → M * 2 ^ G ≤ V - W → M * 2 ^ G ≤ Y := by
  obtain ⟨c, q, a1, a2, a3, a4⟩ := dv_dec ha
  obtain ⟨d, r, b1, b2, b3, b4⟩ := dv_dec hb
  have hs : ∃ s : Nat, -200 ≤ min q r + (s : Int) := ⟨(-200 - min q r).toNat, by omega⟩
  obtain ⟨s, hs⟩ := hs
  have term : ∀ (k : Nat) (x : Int), min q r ≤ x → (k = 0 ∨ -200 ≤ x) → FP.Core.inUnits k x (min q r) * 2 ^ (min q r + 200 + s).toNat = k * 2 ^ (x + 200).toNat * 2 ^ s := fun k x h3 h4 => by
    unfold FP.Core.inUnits
    rcases h4 with h4 | h4
    · rw [h4]
      simp
    · rw [Nat.mul_assoc, Nat.mul_assoc, ← Nat.pow_add, ← Nat.pow_add]
      congr 2
      omega
  have t1 := term c q (by omega) (by omega)
  have t2 := term d r (by omega) (by omega)
  rw [← a3] at t1
  rw [← b3] at t2
  have p2 : 0 < 2 ^ (min q r + 200 + s).toNat := Nat.two_pow_pos _
  have hle : FP.Core.inUnits d r (min q r) ≤ FP.Core.inUnits c q (min q r) := by
    refine Nat.le_of_mul_le_mul_right ?_ p2
    rw [t1, t2]
    exact Nat.mul_le_mul_right _ hWV
  have es : FP.Core.sumUnits false c q true d r (min q r) = ((FP.Core.inUnits c q (min q r) - FP.Core.inUnits d r (min q r) : Nat) : Int) := by
    unfold FP.Core.sumUnits FP.Core.signed
    simp
    omega
  have ev : FP.dsub a b = UInt64.ofNat (FP.Core.encode FP.Core.b64 (FP.Core.roundRatio FP.Core.b64 false (FP.Core.inUnits c q (min q r) - FP.Core.inUnits d r (min q r)) 1 (min q r))) := by
    show FP.Core.dsub a b = _
    unfold FP.Core.dsub FP.Core.sub
    rw [a1, b1]
    show UInt64.ofNat (FP.Core.encode FP.Core.b64 (FP.Core.round FP.Core.b64 (FP.Core.Datum.fin (FP.Core.sumSign false true (FP.Core.sumUnits false c q true d r (min q r))) (FP.Core.sumUnits false c q true d r (min q r)).natAbs (min q r)))) = _
    rw [es]
    have sg : FP.Core.sumSign false true (((FP.Core.inUnits c q (min q r) - FP.Core.inUnits d r (min q r) : Nat) : Int)) = false := by
      unfold FP.Core.sumSign
      split
      · rfl
      · exact decide_eq_false (by omega)
    rw [sg, Int.natAbs_natCast]
    rfl
  have hX : (V - W) * 2 ^ s = (FP.Core.inUnits c q (min q r) - FP.Core.inUnits d r (min q r)) * 2 ^ (min q r + 200 + s).toNat := by
    rw [Nat.sub_mul, Nat.sub_mul, t1, t2]
  rcases h1 with g | g
  · have hz : FP.Core.inUnits c q (min q r) - FP.Core.inUnits d r (min q r) = 0 := by
      rw [g, Nat.zero_mul] at hX
      rcases Nat.eq_zero_or_pos (FP.Core.inUnits c q (min q r) - FP.Core.inUnits d r (min q r)) with q1 | q1
      · exact q1
      · have := Nat.mul_pos q1 p2
        omega
    rw [hz] at ev
    exact ⟨0, dv_rr0 ev, fun M G _ _ => Nat.zero_le _, fun M G _ h => by omega⟩
  · obtain ⟨Y, y1, y2, y3⟩ := dv_rs (X := V - W) (s := s) ev (by omega) hs hX (by omega) (by omega)
    exact ⟨Y, y1, fun M G h3 h4 => y2 M G h3 (by omega), fun M G h3 h4 => y3 M G h3 (by omega)⟩
/-- a quotient by 365 -/
theorem dv_div {a : UInt64} {V : Nat} (ha : dv a V) (h1 : V = 0 ∨ 365 * 2 ^ 120 ≤ V) (h2 : V < 2 ^ 255) : ∃ Y : Nat, dv (FP.ddiv a 4645128764097822720) Y ∧ (∀ M G : Nat, M ≤ 2 ^ 53 → V ≤ 365 * (M * 2 ^ G) → Y ≤ M * 2 ^ G) ∧ ∀ M G : Nat, M ≤ 2 ^ 53 → 365 * (M * 2 ^ G) ≤ V → M * 2 ^ G ≤ Y := by
  obtain ⟨c, q, a1, a2, a3, a4⟩ := dv_dec ha
  have hb : FP.Core.decode FP.Core.b64 (4645128764097822720 : UInt64).toNat = .fin false (365 * 2 ^ 44) (-44) := by decide +kernel
  have ev : FP.ddiv a 4645128764097822720 = UInt64.ofNat (FP.Core.encode FP.Core.b64 (FP.Core.roundRatio FP.Core.b64 false c (365 * 2 ^ 44) (q - -44))) := by
    show FP.Core.ddiv a 4645128764097822720 = _
    unfold FP.Core.ddiv FP.Core.div
    rw [a1, hb]
    rfl
  rcases h1 with g | g
  · have hz : c = 0 := by
      rw [g] at a3
      have p2 : 0 < 2 ^ (q + 200).toNat := Nat.two_pow_pos _
      rcases Nat.eq_zero_or_pos c with q1 | q1
      · exact q1
      · have := Nat.mul_pos q1 p2
        omega
    rw [hz] at ev
    exact ⟨0, dv_rr0 ev, fun M G _ _ => Nat.zero_le _, fun M G _ h => by omega⟩
  · have hc : ¬ c = 0 := fun z => by
      rw [z, Nat.zero_mul] at a3
      omega
    obtain ⟨Y, y1, y2, y3⟩ := dv_rr (X := V * 2 ^ 44) ev (by omega) (by omega) (by
      rw [a3, Nat.mul_assoc, ← Nat.pow_add]
      congr 2
      omega) (by omega) (by omega)
    exact ⟨Y, y1, fun M G h3 h4 => y2 M G h3 (by
      calc V * 2 ^ 44 ≤ 365 * (M * 2 ^ G) * 2 ^ 44 := Nat.mul_le_mul_right _ h4
        _ = 365 * 2 ^ 44 * (M * 2 ^ G) := by ac_rfl), fun M G h3 h4 => y3 M G h3 (by
      calc 365 * 2 ^ 44 * (M * 2 ^ G) = 365 * (M * 2 ^ G) * 2 ^ 44 := by ac_rfl
        _ ≤ V * 2 ^ 44 := Nat.mul_le_mul_right _ h4)⟩
/-- the whole part -/
theorem dv_floor {a : UInt64} {V : Nat} (ha : dv a V) (h2 : V < 2 ^ 255) : d2lI a = ((V / 2 ^ 200 : Nat) : Int) := by
  obtain ⟨c, q, a1, a2, a3, a4⟩ := dv_dec ha
  have ht : FP.Core.truncate false c q = ((V / 2 ^ 200 : Nat) : Int) := by
    show ((c * 2 ^ q.toNat / 2 ^ (-q).toNat : Nat) : Int) = _
    congr 1
    rw [a3]
    rcases a2 with a2 | a2
    · rw [a2]
      simp
    · by_cases g : 0 ≤ q
      · rw [show (-q).toNat = 0 by omega, Nat.pow_zero, Nat.div_one, show (q + 200).toNat = q.toNat + 200 by omega, Nat.pow_add, ← Nat.mul_assoc, Nat.mul_div_cancel _ (Nat.two_pow_pos _)]
      · rw [show q.toNat = 0 by omega, Nat.pow_zero, Nat.mul_one]
        have e1 : 2 ^ 200 = 2 ^ (-q).toNat * 2 ^ (q + 200).toNat := by rw [← Nat.pow_add]; congr 1; omega
        rw [e1, Nat.mul_div_mul_right _ _ (Nat.two_pow_pos _)]
  have hb : ((V / 2 ^ 200 : Nat) : Int) ≤ 36028797018963968 := by
    have : V / 2 ^ 200 ≤ 36028797018963968 := by omega
    omega
  unfold d2lI
  show (FP.Core.d2l a).toInt = _
  unfold FP.Core.d2l FP.Core.toL FP.Core.toInt
  rw [a1]
  show (Int64.ofInt (max (-2 ^ 63) (min (2 ^ 63 - 1) (FP.Core.truncate false c q)))).toInt = _
  rw [ht, show max (-2 ^ 63) (min (2 ^ 63 - 1) ((V / 2 ^ 200 : Nat) : Int)) = ((V / 2 ^ 200 : Nat) : Int) by omega]
  exact jL_toInt (by omega)
end
section
/-! ===== a day's interest ===== -/
def yrOf (r : Int) : UInt64 := FP.f2d (FP.fdiv (FP.i2f (iI r)) 1148846080)
def rateB (v : UInt64) (r : Nat) : Bool := match FP.Core.decode FP.Core.b64 v.toNat with
  | .fin false c q => if r = 0 then c == 0 else decide (-132 ≤ q) && decide (q ≤ 0) && decide (2 ^ 190 ≤ c * 2 ^ (q + 200).toNat) && decide (c * 2 ^ (q + 200).toNat ≤ 2 ^ 200) && decide (2 ^ 52 ≤ c) && decide (c < 2 ^ 53)
  | _ => false
theorem rate_c : ∀ r : Nat, r < 1001 → FP.l2f (jL r) = FP.i2f (iI r) ∧ okF (FP.fdiv (FP.i2f (iI r)) 1148846080) ∧ rateB (yrOf r) r = true := by decide +kernel
theorem rate_dv {r : Int} (h : 0 ≤ r ∧ r ≤ 1000) : FP.l2f (jL r) = FP.i2f (iI r) ∧ okF (FP.fdiv (FP.i2f (iI r)) 1148846080) ∧ ∃ V : Nat, dv (yrOf r) V ∧ V ≤ 2 ^ 200 ∧ (V = 0 ∨ 2 ^ 190 ≤ V) := by
  obtain ⟨k, hk, rfl⟩ := toN (n := 1001) (d := r) (by omega)
  obtain ⟨h1, h2, h3⟩ := rate_c k (by omega)
  refine ⟨h1, h2, ?_⟩
  unfold rateB at h3
  split at h3
  · rename_i c q e
    by_cases g : k = 0
    · rw [if_pos g] at h3
      have h3 : c = 0 := by simpa using h3
      rw [h3] at e
      exact ⟨0, Or.inl ⟨rfl, q, e⟩, Nat.zero_le _, Or.inl rfl⟩
    · rw [if_neg g] at h3
      simp only [Bool.and_eq_true, decide_eq_true_eq] at h3
      obtain ⟨⟨⟨⟨⟨a1, a2⟩, a3⟩, a4⟩, a5⟩, a6⟩ := h3
      obtain ⟨l, hl⟩ := Int.eq_ofNat_of_zero_le (show 0 ≤ q + 252 by omega)
      have hl : q + 252 = (l : Int) := hl
      refine ⟨c * 2 ^ (q + 200).toNat, Or.inr ⟨c, l, ?_, a5, a6, by omega, by omega, ?_⟩, a4, Or.inr a3⟩
      · rw [e, show q = (l : Int) - 252 by omega]
      · rw [show (q + 200).toNat = l - 52 by omega]
  · cases h3
/-- interest is added -/
theorem int_add {ow : UInt64} {n d r : Int} (ho : owV ow n) (hn : n ≤ 1125899906842624 * 2 ^ 80) (hd : 0 ≤ d ∧ d ≤ 1125899906842624) (hr : 0 ≤ r ∧ r ≤ 1000) :
    okD (yrOf r) ∧ okD (FP.dmul (FP.l2d (jL d)) (yrOf r)) ∧ okD (FP.ddiv (FP.dmul (FP.l2d (jL d)) (yrOf r)) 4645128764097822720) ∧ okD (FP.dadd ow (FP.ddiv (FP.dmul (FP.l2d (jL d)) (yrOf r)) 4645128764097822720)) ∧ owV (FP.dadd ow (FP.ddiv (FP.dmul (FP.l2d (jL d)) (yrOf r)) 4645128764097822720)) (n + d * 2 ^ 72 + 2 ^ 80) := by
  obtain ⟨-, -, V2, y1, y2, y3⟩ := rate_dv hr
  obtain ⟨h0, V0, o1, o2⟩ := ho
  have hl := dv_l2d hd
  obtain ⟨k, hk⟩ := Int.eq_ofNat_of_zero_le hd.1
  have hk : d = (k : Int) := hk
  subst hk
  rw [Int.toNat_natCast] at hl
  have p1 : k * V2 ≤ k * 2 ^ 200 := Nat.mul_le_mul_left _ y2
  have p2 : k = 0 ∨ V2 = 0 ∨ 2 ^ 190 ≤ k * V2 := by
    rcases Nat.eq_zero_or_pos k with g | g
    · exact Or.inl g
    · rcases y3 with y3 | y3
      · exact Or.inr (Or.inl y3)
      · right; right
        calc 2 ^ 190 ≤ V2 := y3
          _ = 1 * V2 := (Nat.one_mul _).symm
          _ ≤ k * V2 := Nat.mul_le_mul_right _ g
  have p3 : k * V2 = 0 ∨ 2 ^ 190 ≤ k * V2 := by
    rcases p2 with g | g | g
    · left; rw [g, Nat.zero_mul]
    · left; rw [g, Nat.mul_zero]
    · exact Or.inr g
  obtain ⟨V3, m1, m2, m3⟩ := dv_mul (X := k * V2) hl y1 (by ac_rfl) (by omega) (by omega)
  have q1 := m2 k 200 (by omega) p1
  have q2 : V3 = 0 ∨ 2 ^ 190 ≤ V3 := by
    rcases p3 with g | g
    · left
      have := m2 0 0 (by omega) (by omega)
      omega
    · right
      have := m3 1 190 (by omega) (by omega)
      omega
  obtain ⟨V4, d1, d2, d3⟩ := dv_div m1 (by omega) (by omega)
  have q3 := d2 k 192 (by omega) (by omega)
  have hV0 : V0 ≤ 2 ^ 250 := by omega
  obtain ⟨V5, a1, a2, a3⟩ := dv_add o1 d1 (by omega)
  have q4 := a2 ((V0 + V4) / 2 ^ 200 + 1) 200 (by omega) (by omega)
  refine ⟨dv_okD y1, dv_okD m1, dv_okD d1, dv_okD a1, by omega, V5, a1, ?_⟩
  omega
/-- interest is taken -/
theorem int_take {ow : UInt64} {n : Int} (ho : owV ow n) (hn : n ≤ 1125899906842624 * 2 ^ 80) :
    0 ≤ d2lI ow ∧ d2lI ow * 2 ^ 80 ≤ n ∧ okD (FP.dsub ow (FP.l2d (jL (d2lI ow)))) ∧ owV (FP.dsub ow (FP.l2d (jL (d2lI ow)))) (n - d2lI ow * 2 ^ 80) := by
  obtain ⟨h0, V0, o1, o2⟩ := ho
  have hV0 : V0 ≤ 2 ^ 250 := by omega
  have hf := dv_floor o1 (by omega)
  have hdm : 2 ^ 200 * (V0 / 2 ^ 200) + V0 % 2 ^ 200 = V0 := Nat.div_add_mod _ _
  have hml : V0 % 2 ^ 200 < 2 ^ 200 := Nat.mod_lt _ (Nat.two_pow_pos _)
  have hl : dv (FP.l2d (jL (d2lI ow))) (V0 / 2 ^ 200 * 2 ^ 200) := by
    have := dv_l2d (d := d2lI ow) (by rw [hf]; omega)
    rw [hf] at this ⊢
    rw [Int.toNat_natCast] at this
    exact this
  have key : ∃ M G : Nat, M ≤ 2 ^ 53 ∧ V0 % 2 ^ 200 = M * 2 ^ G ∧ (V0 % 2 ^ 200 = 0 ∨ 2 ^ 120 ≤ V0 % 2 ^ 200) := by
    rcases o1 with ⟨z, -⟩ | ⟨c, l, c1, c2, c3, c4, c5, c6⟩
    · exact ⟨0, 0, by omega, by rw [z], Or.inl (by rw [z])⟩
    · by_cases g : 200 ≤ l - 52
      · have : V0 % 2 ^ 200 = 0 := by
          rw [c6, show l - 52 = (l - 52 - 200) + 200 by omega, Nat.pow_add, ← Nat.mul_assoc, Nat.mul_mod_left]
        exact ⟨0, 0, by omega, by rw [this], Or.inl this⟩
      · have e1 : V0 % 2 ^ 200 = (c % 2 ^ (200 - (l - 52))) * 2 ^ (l - 52) := by
          have e2 : 2 ^ 200 = 2 ^ (200 - (l - 52)) * 2 ^ (l - 52) := by rw [← Nat.pow_add]; congr 1; omega
          rw [c6, e2, Nat.mul_mod_mul_right]
        refine ⟨c % 2 ^ (200 - (l - 52)), l - 52, Nat.le_trans (Nat.mod_le _ _) (Nat.le_of_lt c3), e1, ?_⟩
        by_cases z : c % 2 ^ (200 - (l - 52)) = 0
        · left
          rw [e1, z, Nat.zero_mul]
        · right
          by_cases w : 172 ≤ l
          · rw [e1]
            calc 2 ^ 120 ≤ 2 ^ (l - 52) := Nat.pow_le_pow_right (by omega) (by omega)
              _ = 1 * 2 ^ (l - 52) := (Nat.one_mul _).symm
              _ ≤ c % 2 ^ (200 - (l - 52)) * 2 ^ (l - 52) := Nat.mul_le_mul_right _ (by omega)
          · have e3 : V0 < 2 ^ 200 := by
              rw [c6]
              calc c * 2 ^ (l - 52) < 2 ^ 53 * 2 ^ (l - 52) := Nat.mul_lt_mul_of_pos_right c3 (Nat.two_pow_pos _)
                _ = 2 ^ (53 + (l - 52)) := by rw [← Nat.pow_add]
                _ ≤ 2 ^ 200 := Nat.pow_le_pow_right (by omega) (by omega)
            rw [Nat.mod_eq_of_lt e3, c6]
            calc 2 ^ 120 ≤ 2 ^ 52 * 2 ^ (l - 52) := by rw [← Nat.pow_add]; exact Nat.pow_le_pow_right (by omega) (by omega)
              _ ≤ c * 2 ^ (l - 52) := Nat.mul_le_mul_right _ c2
  obtain ⟨M, G, k1, k2, k3⟩ := key
  have es : V0 - V0 / 2 ^ 200 * 2 ^ 200 = V0 % 2 ^ 200 := by omega
  obtain ⟨Y, s1, s2, s3⟩ := dv_sub o1 hl (by omega) (by rw [es]; exact k3) (by omega)
  have q := s2 M G k1 (by rw [es, k2]; exact Nat.le_refl _)
  rw [← k2] at q
  refine ⟨by omega, by omega, dv_okD s1, by omega, Y, s1, by omega⟩
end
section
/-! ===== a day's interest in step ===== -/
theorem dropR.rf {H : hR} (hs : 0 ≤ H.1 4 2 0) (hA : ∀ i : Int, 0 ≤ i ∧ i < H.1 4 2 0 → ¬ H.1 5 1 i = 0) : dropR H H := by
  have e : ∀ k : Nat, (k : Int) ≤ H.1 4 2 0 → rk (H.1 5 1) k = k := fun k hk => rk_all k (fun i hi => hA i (by omega))
  refine ⟨fun _ _ _ _ _ => rfl, rfl, ?_, fun i hi _ c _ => by rw [e i (by omega)]⟩
  rw [e _ (by omega)]
  omega
def SimB (F B K1 K : Int) (H : hR) (m : mR) : Prop := CorM H m ∧ Tot H (m.1 0) ∧ okN H ∧ okS4 F H ∧ okA H ∧ okO H ∧ okW H ∧ okU H ∧ MB B K1 K H
theorem Mid.simB {F B K1 K : Int} {H H' : hR} {m : mR} (h : Mid F (fun _ => 0) H m) (d : dropR H H') (hM : MB B K1 K H) : SimB F B K1 K H' m := by
  obtain ⟨⟨c1, c2, c3, c4, c5⟩, t, k1, k2, k3, k4, k5, k6⟩ := h
  obtain ⟨d1, d2, d3, d4⟩ := d
  have d : dropR H H' := ⟨d1, d2, d3, d4⟩
  have k1' := k1
  unfold okN at k1'
  obtain ⟨v1, v2⟩ := d.corW (by omega) c5
  have e : ∀ a f : Int, (H'.1 2 a f = H.1 2 a f) ∧ (H'.1 3 a f = H.1 3 a f) := fun a f => ⟨d1 _ _ _ (by omega) (by omega), d1 _ _ _ (by omega) (by omega)⟩
  have e0 : ∀ a : Int, H'.1 0 a 0 = H.1 0 a 0 := fun a => d1 _ _ _ (by omega) (by omega)
  have e1 : ∀ a : Int, H'.1 1 a 0 = H.1 1 a 0 := fun a => d1 _ _ _ (by omega) (by omega)
  have hr := rk_rng (A := H.1 5 1) (H.1 4 2 0).toNat
  have hs := fun a => d.sum (a := a) (n := (H.1 4 2 0).toNat)
  have hc := fun o => d.cnt (o := o) (n := (H.1 4 2 0).toNat)
  obtain ⟨g1, g2, g3, g4, g6, g7, g8, g9, g10⟩ := c1
  refine ⟨⟨⟨?_, ?_, ?_, ?_, v2, ?_, ?_, ?_, ?_, ?_⟩, c2.fr (fun a => d1 _ _ _ (by omega) (by omega)) (fun _ _ => rfl), c3.fr (fun a f _ => (e a f).1) (fun a => by rw [d2]) (fun _ _ => rfl) (fun _ => rfl) (by rw [g2]; omega), c4.fr (fun o f _ => (e o f).2) (fun _ _ => rfl) (by rw [g3]; omega), v1⟩, t.fr (e0 5) (fun o f _ => (e o f).2) (fun _ _ => rfl), ?_, k2.fr (fun t a q => d1 _ _ _ (by omega) (by omega)), k3.fr (e0 4) (fun a f _ => (e a f).1), k4.fr (e0 4) (e0 5) (fun o f _ => (e o f).2), d.okW (by omega) k5, ⟨fun a ha => ?_, fun o ho => ?_⟩, ⟨fun a ha f hf => ?_, fun a ha => ?_⟩⟩
  · rw [e0]; exact g1
  · rw [e0]; exact g2
  · rw [e0]; exact g3
  · rw [e1]; exact g4
  · rw [e0]; exact g6
  · rw [e0]; exact g7
  · rw [e0]; exact g8
  · rw [e0]; exact g9
  · rw [e1]; exact g10
  · unfold okN
    rw [e0, e0, d3, d1 4 1 0 (by omega) (by omega)]
    exact ⟨k1'.1, k1'.2.1, by omega, by omega, k1'.2.2.2.2⟩
  · rw [e0] at ha
    rw [(e a 11).1, d3, hs a (by omega)]
    exact k6.1 a ha
  · rw [e0] at ho
    rw [(e o 15).2, d3, hc o (by omega)]
    exact k6.2 o ho
  · rw [e0] at ha
    rw [(e a f).1]
    exact hM.1 a ha f hf
  · rw [e0] at ha
    rw [(e a 3).1, d2]
    exact hM.2 a ha
def intF (a : Int) (H H' : hR) : Prop := (∀ t x y : Int, ¬ (t = 2 ∧ x = a ∧ (y = 3 ∨ y = 10)) → H'.1 t x y = H.1 t x y) ∧ ∀ j : Int, ¬ j = a → H'.2 j = H.2 j
def intM (a : Int) (m m' : mR) : Prop := (∀ t j : Int, ¬ (t = 0 ∧ (j = 33 + 11 * a + 3 ∨ j = 33 + 11 * a + 10)) → m'.1 t j = m.1 t j) ∧ ∀ t j : Int, ¬ (t = 0 ∧ j = a) → m'.2 t j = m.2 t j
theorem ls_int1 {B K1 K t r a n : Int} {H : hR} {m : mR} (hc : CorM H m) (hN : okN H) (h0 : H.1 0 6 0 = t) (ht : 0 ≤ t ∧ t ≤ 1094) (h9 : H.1 0 9 0 = r) (hr : 0 ≤ r ∧ r ≤ 1000) (ha : 0 ≤ a ∧ a < H.1 0 4 0) (hB3 : -B ≤ H.1 2 a 3 ∧ H.1 2 a 3 ≤ B) (hB10 : -B ≤ H.1 2 a 10 ∧ H.1 2 a 10 ≤ B) (hB : 0 ≤ B ∧ B ≤ 4611686018427387904) (ho : owV (H.2 a) n) (hn : n ≤ K1 * 2 ^ 80) (hq : -H.1 2 a 3 * 2 ^ 80 + n ≤ K * 2 ^ 80) (hK : 0 ≤ K1 ∧ K1 ≤ K ∧ K ≤ 281474976710656) :
    ∃ H' m', (∀ fuel : Nat, fX2_chargeInterest_b35 (fuel + 1) (FP.fdiv (FP.i2f (iI r)) 1148846080) (if mLast (mOf t) = t then 1 else 0) a H = fX2_chargeInterest_b35 fuel (FP.fdiv (FP.i2f (iI r)) 1148846080) (if mLast (mOf t) = t then 1 else 0) (a + 1) H') ∧ fX7_owes a m = some ((), m') ∧ CorM H' m' ∧ intF a H H' ∧ intM a m m' ∧ (-(B + (K + K / 256 + 2)) ≤ H'.1 2 a 3 ∧ H'.1 2 a 3 ≤ B + (K + K / 256 + 2)) ∧ (-(B + (K + K / 256 + 2)) ≤ H'.1 2 a 10 ∧ H'.1 2 a 10 ≤ B + (K + K / 256 + 2)) ∧ ∃ n', owV (H'.2 a) n' ∧ n' ≤ (K + K / 256 + 2) * 2 ^ 80 ∧ -H'.1 2 a 3 * 2 ^ 80 + n' ≤ (K + K / 256 + 2) * 2 ^ 80 := by
  have hN' := hN
  unfold okN at hN'
  obtain ⟨rt1, rt2, -⟩ := rate_dv hr
  have e0 : m.1 0 0 = t := hc.1.1.trans h0
  have e11 : m.1 0 11 = r := hc.1.2.2.2.2.2.2.2.2.1.trans h9
  have c3 := hc.at ha (f := 3) (by omega)
  have eo : m.2 0 a = H.2 a := (hc.2.2.1 a (by rw [hc.1.2.1]; exact ha)).2
  have h0n := ho.1
  have hmo := mOf_in ht
  have hml := m_rng (m := mOf t) (by omega)
  -- what is added
  have st1 : ∃ H1 m1 n1, (∀ fuel : Nat, fX2_chargeInterest_b35 (fuel + 1) (FP.fdiv (FP.i2f (iI r)) 1148846080) (if mLast (mOf t) = t then 1 else 0) a H = fX2_chargeInterest_b85 (fX2_chargeInterest_b35 fuel) (FP.fdiv (FP.i2f (iI r)) 1148846080) (if mLast (mOf t) = t then 1 else 0) a a H1) ∧ fX7_owes a m = fX7_owes_b46 a m1 ∧ CorM H1 m1 ∧ H1.1 = H.1 ∧ m1.1 = m.1 ∧ (∀ j : Int, ¬ j = a → H1.2 j = H.2 j) ∧ (∀ t j : Int, ¬ (t = 0 ∧ j = a) → m1.2 t j = m.2 t j) ∧ m1.2 0 a = H1.2 a ∧ owV (H1.2 a) n1 ∧ n1 ≤ (K + K / 256 + 2) * 2 ^ 80 ∧ -H.1 2 a 3 * 2 ^ 80 + n1 ≤ (K + K / 256 + 2) * 2 ^ 80 := by
    by_cases g : 0 ≤ H.1 2 a 3
    · refine ⟨H, m, n, fun fuel => ?_, ?_, hc, rfl, rfl, fun _ _ => rfl, fun _ _ _ => rfl, eo, ho, by omega, by omega⟩
      · rw [fX2_chargeInterest_b35, gd_pos (by omega), if_neg (by omega), gd_pos (by omega), gd_pos (by omega), if_pos g]
      · unfold fX7_owes
        rw [ev_money (by omega), cr_some, Int.add_zero, c3, e11, rt1, gd_pos rt2, gd_pos (by omega), if_pos g]
    · have hd : 0 ≤ -H.1 2 a 3 ∧ -H.1 2 a 3 ≤ K := by omega
      obtain ⟨i1, i2, i3, i4, i5⟩ := int_add (r := r) (d := -H.1 2 a 3) ho (by omega) (by omega) hr
      unfold yrOf at i1 i2 i3 i4 i5
      refine ⟨hD H a (FP.dadd (H.2 a) (FP.ddiv (FP.dmul (FP.l2d (jL (-(H.1 2 a 3)))) (FP.f2d (FP.fdiv (FP.i2f (iI r)) 1148846080))) 4645128764097822720)), mD m 0 a (FP.dadd (H.2 a) (FP.ddiv (FP.dmul (FP.l2d (jL (-(H.1 2 a 3)))) (FP.f2d (FP.fdiv (FP.i2f (iI r)) 1148846080))) 4645128764097822720)), _, fun fuel => ?_, ?_, hc.owe, rfl, rfl, fun j hj => up1_n _ _ hj, fun t j hj => ?_, ?_, by rw [show (hD H a (FP.dadd (H.2 a) (FP.ddiv (FP.dmul (FP.l2d (jL (-(H.1 2 a 3)))) (FP.f2d (FP.fdiv (FP.i2f (iI r)) 1148846080))) 4645128764097822720))).2 a = _ from up1_p _ _ _]; exact i5, by omega, by omega⟩
      · rw [fX2_chargeInterest_b35, gd_pos (by omega), if_neg (by omega), gd_pos (by omega), gd_pos (by omega), if_neg g, gd_pos i1, gd_pos i2, gd_pos i3, gd_pos i4, bnd_eq]
      · unfold fX7_owes
        rw [ev_money (by omega), cr_some, Int.add_zero, c3, e11, rt1, gd_pos rt2, gd_pos (by omega), if_neg g, gd_pos (by omega), gd_pos i1, gd_pos i2, gd_pos i3, eo, gd_pos i4, gd_pos (by omega), bnd_eq]
      · rw [mD_2, if_neg hj]
      · rw [mD_2, if_pos ⟨rfl, rfl⟩]
        exact (up1_p _ _ _).symm
  obtain ⟨H1, m1, n1, s1, s2, s3, s4, s5, s6, s7, s8, s9, s10, s11⟩ := st1
  have em0 : fX7_owes_b46 a m1 = if mLast (mOf t) = t then (cl (fX7_moves a 0 (-(d2lI (H1.2 a))) m1) fun r90 m90 => cl (fX7_moves a 7 (d2lI (H1.2 a)) m90) fun r99 m99 => gd (okD (FP.dsub (m99.2 0 a) (FP.l2d (jL (d2lI (H1.2 a)))))) <| bnd (mD m99 0 a (FP.dsub (m99.2 0 a) (FP.l2d (jL (d2lI (H1.2 a)))))) fun m113 => some ((), m113)) else some ((), m1) := by
    unfold fX7_owes_b46
    rw [ev_today, cr_some, s5, e0, em_monthOf ht, cr_some, cr_some, em_start (by omega), cr_some, em_length (by omega), cr_some, gd_pos (by omega), s8]
    by_cases g : mLast (mOf t) = t
    · rw [if_pos (by omega), if_pos g, gd_pos (by omega)]
      have : ∀ k : Unit → mR → Option (Unit × mR), True := fun _ => trivial
      congr 1
      funext r90 m90
      congr 1
      funext r99 m99
      rw [gd_pos (by omega)]
      congr 1
      rw [gd_pos (by omega)]
    · rw [if_neg (by omega), if_neg g]
  by_cases g : mLast (mOf t) = t
  · rw [if_pos g] at s1 em0
    obtain ⟨k1, k2, k3, k4⟩ := int_take s9 (by omega)
    have f3 : H1.1 2 a 3 = H.1 2 a 3 := by rw [s4]
    have f10 : H1.1 2 a 10 = H.1 2 a 10 := by rw [s4]
    have c10 : m1.1 0 (33 + 11 * a + 10) = H.1 2 a 10 := by
      rw [s5]
      exact hc.at ha (f := 10) (by omega)
    have c3' : m1.1 0 (33 + 11 * a + 3) = H.1 2 a 3 := by rw [s5]; exact c3
    have hN1 : okN H1 := by
      unfold okN at hN ⊢
      rw [s4]
      exact hN
    have a1 : 0 ≤ a ∧ a < 8 := by omega
    have z1 := s3.acc hN1 (a := a) (f := 3) (v := H.1 2 a 3 - d2lI (H1.2 a)) a1 (by omega)
    have z2 := z1.acc (hN1.fr (hS_n _ (by omega)) (hS_n _ (by omega)) (hS_n _ (by omega)) (hS_n _ (by omega))) (a := a) (f := 10) (v := H.1 2 a 10 + d2lI (H1.2 a)) a1 (by omega)
    have z3 := z2.owe (a := a) (v := FP.dsub (H1.2 a) (FP.l2d (jL (d2lI (H1.2 a)))))
    refine ⟨_, _, fun fuel => ?_, ?_, z3, ⟨fun t x y q => ?_, fun j hj => ?_⟩, ⟨fun t j q => ?_, fun t j q => ?_⟩, ?_, ?_, n1 - d2lI (H1.2 a) * 2 ^ 80, ?_, by omega, ?_⟩
    · rw [if_pos g, s1]
      unfold fX2_chargeInterest_b85 fX0_takeInterest
      rw [gd_pos (by omega), if_neg (by omega), f3, bnd_eq, hS_n H1 (show ¬ ((2 : Int) = 2 ∧ a = a ∧ (10 : Int) = 3) by omega), f10, bnd_eq]
      rw [hS_2, hS_2, gd_pos k3, bnd_eq, cl_some]
    · rw [s2, em0, ev_moves (by omega) (by omega), cl_some, show (3 : Int) + 0 = 3 from rfl, c3', show H.1 2 a 3 + -d2lI (H1.2 a) = H.1 2 a 3 - d2lI (H1.2 a) by omega, ev_moves (by omega) (by omega), cl_some, show (3 : Int) + 7 = 10 from rfl, mS_n m1 (by omega), c10, mS_2, mS_2, s8, gd_pos k3, bnd_eq]
    · rw [hD_1, hS_n _ (by omega), hS_n _ (by omega), s4]
    · rw [hD_2, if_neg hj, hS_2, hS_2]
      exact s6 j hj
    · rw [mD_1, mS_n _ (by omega), mS_n _ (by omega), s5]
    · rw [mD_2, if_neg q, mS_2, mS_2]
      exact s7 t j q
    · rw [hD_1, hS_n _ (by omega), hS_p]
      omega
    · rw [hD_1, hS_p]
      omega
    · rw [hD_2, if_pos rfl]
      exact k4
    · rw [hD_1, hS_n _ (by omega), hS_p]
      omega
  · rw [if_neg g] at s1 em0
    refine ⟨H1, m1, fun fuel => ?_, ?_, s3, ⟨fun t x y _ => by rw [s4], s6⟩, ⟨fun t j _ => by rw [s5], s7⟩, by rw [s4]; omega, by rw [s4]; omega, n1, s9, s10, by rw [s4]; exact s11⟩
    · rw [if_neg g, s1]
      unfold fX2_chargeInterest_b85
      rw [gd_pos (by omega), if_pos rfl]
    · rw [s2, em0]
def intA (H H' : hR) : Prop := ∀ t x y : Int, ¬ (t = 2 ∧ (y = 3 ∨ y = 10)) → H'.1 t x y = H.1 t x y
def rowsI (m m' : mR) : Prop := (∀ t : Int, ¬ t = 0 → m'.1 t = m.1 t) ∧ (∀ t : Int, ¬ t = 0 → m'.2 t = m.2 t) ∧ ∀ j : Int, ¬ (33 ≤ j ∧ j ≤ 120) → m'.1 0 j = m.1 0 j
/-- all accounts -/
theorem ls_ints {B K1 K t r : Int} (ht : 0 ≤ t ∧ t ≤ 1094) (hr : 0 ≤ r ∧ r ≤ 1000) (hB : 0 ≤ B ∧ B ≤ 4611686018427387904) (hK : 0 ≤ K1 ∧ K1 ≤ K ∧ K ≤ 281474976710656) : ∀ (k fC fM : Nat) (a : Int) (H : hR) (m : mR), a + k = H.1 0 4 0 → 0 ≤ a → k < fC → k < fM → CorM H m → okN H → H.1 0 6 0 = t → H.1 0 9 0 = r →
    (∀ x : Int, 0 ≤ x ∧ x < H.1 0 4 0 → ∀ f : Int, 3 ≤ f ∧ f ≤ 10 → (a ≤ x → -B ≤ H.1 2 x f ∧ H.1 2 x f ≤ B) ∧ -(B + (K + K / 256 + 2)) ≤ H.1 2 x f ∧ H.1 2 x f ≤ B + (K + K / 256 + 2)) →
    (∀ x : Int, 0 ≤ x ∧ x < H.1 0 4 0 → ∃ n : Int, owV (H.2 x) n ∧ (a ≤ x → n ≤ K1 * 2 ^ 80 ∧ -H.1 2 x 3 * 2 ^ 80 + n ≤ K * 2 ^ 80) ∧ n ≤ (K + K / 256 + 2) * 2 ^ 80 ∧ -H.1 2 x 3 * 2 ^ 80 + n ≤ (K + K / 256 + 2) * 2 ^ 80) →
    ∃ H' m', fX2_chargeInterest_b35 fC (FP.fdiv (FP.i2f (iI r)) 1148846080) (if mLast (mOf t) = t then 1 else 0) a H = some ((), H') ∧ fX7_passesDay_b82 fM a m = some ((), mS m' 0 0 (t + 1)) ∧ CorM H' m' ∧ intA H H' ∧ rowsI m m' ∧ MB (B + (K + K / 256 + 2)) (K + K / 256 + 2) (K + K / 256 + 2) H'
  | k, 0, _, _, _, _, _, _, h, _, _, _, _, _, _, _ => by omega
  | k, _ + 1, 0, _, _, _, _, _, _, h, _, _, _, _, _, _ => by omega
  | 0, fC + 1, fM + 1, a, H, m, hk, ha0, _, _, hc, hN, h0, h9, hf, hn => by
    have k1 := hN
    unfold okN at k1
    have e1 : m.1 0 1 = H.1 0 4 0 := hc.1.2.1
    have e0 : m.1 0 0 = t := hc.1.1.trans h0
    refine ⟨H, m, ?_, ?_, hc, fun _ _ _ _ => rfl, ⟨fun _ _ => rfl, fun _ _ => rfl, fun _ _ => rfl⟩, ⟨fun x hx f hf' => (hf x hx f hf').2, fun x hx => ?_⟩⟩
    · rw [fX2_chargeInterest_b35, gd_pos (by omega), if_pos (by omega)]
    · rw [fX7_passesDay_b82, gd_pos (by omega), gd_pos (by omega), if_pos (by omega), bnd_eq, e0]
    · obtain ⟨n, q1, q2, q3, q4⟩ := hn x hx
      exact ⟨n, q1, q3, q4⟩
  | k + 1, fC + 1, fM + 1, a, H, m, hk, ha0, hfC, hfM, hc, hN, h0, h9, hf, hn => by
    have k1 := hN
    unfold okN at k1
    have e1 : m.1 0 1 = H.1 0 4 0 := hc.1.2.1
    obtain ⟨n, q1, q2, -, -⟩ := hn a (by omega)
    obtain ⟨H1, m1, y1, y2, y3, y4, y5, y6, y7, n', y8, y9, y10⟩ := ls_int1 hc hN h0 ht h9 hr (a := a) (by omega) ((hf a (by omega) 3 (by omega)).1 (by omega)) ((hf a (by omega) 10 (by omega)).1 (by omega)) hB q1 (q2 (by omega)).1 (q2 (by omega)).2 hK
    have f4 : H1.1 0 4 0 = H.1 0 4 0 := y4.1 _ _ _ (by omega)
    obtain ⟨H', m', z1, z2, z3, z4, z5, z6⟩ := ls_ints ht hr hB hK k fC fM (a + 1) H1 m1 (by omega) (by omega) (by omega) (by omega) y3 (hN.fr f4 (y4.1 _ _ _ (by omega)) (y4.1 _ _ _ (by omega)) (y4.1 _ _ _ (by omega))) ((y4.1 _ _ _ (by omega)).trans h0) ((y4.1 _ _ _ (by omega)).trans h9) (fun x hx f hf' => by
      rw [f4] at hx
      by_cases g : x = a ∧ (f = 3 ∨ f = 10)
      · obtain ⟨g1, g2⟩ := g
        subst g1
        rcases g2 with rfl | rfl
        · exact ⟨fun c => by omega, y6⟩
        · exact ⟨fun c => by omega, y7⟩
      · rw [y4.1 2 x f (by omega)]
        have := hf x hx f hf'
        exact ⟨fun c => this.1 (by omega), this.2⟩) (fun x hx => by
      rw [f4] at hx
      by_cases g : x = a
      · subst g
        exact ⟨n', y8, fun c => by omega, y9, y10⟩
      · rw [y4.2 x g, y4.1 2 x 3 (by omega)]
        obtain ⟨w, w1, w2, w3⟩ := hn x hx
        exact ⟨w, w1, fun c => w2 (by omega), w3⟩)
    refine ⟨H', m', ?_, ?_, z3, fun t x y q => (z4 t x y q).trans (y4.1 t x y (by omega)), ⟨fun t q => ?_, fun t q => ?_, fun j q => ?_⟩, z6⟩
    · rw [y1, z1]
    · rw [fX7_passesDay_b82, gd_pos (by omega), gd_pos (by omega), if_neg (by omega), y2, cl_some, z2]
    · rw [z5.1 t q]
      funext j
      exact y5.1 t j (by omega)
    · rw [z5.2.1 t q]
      funext j
      exact y5.2 t j (by omega)
    · rw [z5.2.2 j q]
      exact y5.1 0 j (by omega)
end
section
/-! ===== a day in step ===== -/
theorem debtB_mono : ∀ (k n : Nat), debtB n ≤ debtB (n + k)
  | 0, n => Int.le_refl _
  | k + 1, n => by
    have h := debtB_mono k n
    have h2 := debtB_pos (n + k)
    have : debtB (n + (k + 1)) = debtB (n + k) + debtB (n + k) / 128 + 134217728 := rfl
    omega
theorem debtB_top : debtB 1096 ≤ 90000000000000 := by decide +kernel
theorem debtB_le {t : Int} (h : 0 ≤ t ∧ t ≤ 1096) : 0 ≤ debtB t.toNat ∧ debtB t.toNat ≤ 90000000000000 := by
  have h1 := debtB_mono (1096 - t.toNat) t.toNat
  rw [show t.toNat + (1096 - t.toNat) = 1096 by omega] at h1
  have := debtB_top
  exact ⟨debtB_pos _, by omega⟩
theorem Mid.cal {F : Int} {x : Int → Int} {H : hR} {m : mR} (h : Mid F x H m) : calC H (cB H) ∧ calM m (cB H) := by
  have ks := h.2.2.2.1
  unfold okS4 at ks
  have e12 : m.1 0 12 = H.1 1 2 0 := h.1.1.2.2.2.2.2.2.2.2
  refine ⟨ec_cal ks.2.1, fun d hd => ?_⟩
  rw [em_isBz hd (by rw [e12]; exact ks.2.1) h.1.2.1.1]
  unfold mB cB biz
  rw [e12, h.1.2.1.2 d hd]
def zX (C : Int) (H : hR) : Int := 10 + 2 * H.1 1 1 0 + 5 * C - phW ((H.1 0 6 0 + H.1 1 2 0) % 7) - 7 * futH (holB H) (H.1 0 6 0)
def uX (C : Int) (H : hR) : Int := 17 + 2 * H.1 1 1 0 + 5 * C
def okXd (C : Int) (H : hR) : Prop := H.1 1 1 0 ≤ C ∧ okX (H.1 0 6 0) (zX C H) (uX C H) H ∧ okDue (H.1 0 6 0) H
/-- entries that were tried on a business day -/
theorem okX.biz {t Z Z' U : Int} {b : Int → Bool} {H1 H4 : hR} (h : okX t Z U H1) (hO : okO H1) (hZ : Z ≤ Z' + 2) (hZ0 : 0 ≤ Z') (ht : 0 ≤ t ∧ t ≤ 1094) (hb : b t = true) (ha : ∀ o : Int, 0 ≤ o ∧ o < H1.1 0 5 0 → aimed b H1 o) (hn : ∀ o : Int, 0 ≤ o ∧ o < H1.1 0 5 0 → H1.1 3 o 11 = 0 → t < H1.1 3 o 19 ∧ H1.1 3 o 19 ≤ 1094)
    (h5 : H4.1 0 5 0 = H1.1 0 5 0) (hf : ∀ o f : Int, f = 3 ∨ f = 4 ∨ f = 6 ∨ f = 9 ∨ f = 10 ∨ f = 11 ∨ f = 16 → H4.1 3 o f = H1.1 3 o f)
    (he : ∀ j : Int, 0 ≤ j ∧ j < H4.1 4 2 0 → ∃ i : Int, (0 ≤ i ∧ i < H1.1 4 2 0) ∧ H4.1 5 0 j = H1.1 5 0 i ∧ H4.1 5 2 j = H1.1 5 2 i ∧ H4.1 5 4 j = H1.1 5 4 i + 1)
    (he2 : ∀ j k : Int, 0 ≤ j → j ≤ k → k < H4.1 4 2 0 → ∃ i l : Int, (0 ≤ i ∧ i ≤ l ∧ l < H1.1 4 2 0) ∧ (j < k → i < l) ∧ H4.1 5 0 j = H1.1 5 0 i ∧ H4.1 5 2 j = H1.1 5 2 i ∧ H4.1 5 4 j = H1.1 5 4 i + 1 ∧ H4.1 5 0 k = H1.1 5 0 l ∧ H4.1 5 2 k = H1.1 5 2 l) : okX (t + 1) Z' U H4 := by
  obtain ⟨h1, h2, h3⟩ := h
  have qK : ∀ i j : Int, nomK H4 i j = nomK H1 i j := fun i j => nomK_fr (fun f q => hf _ _ (by omega)) j
  refine ⟨fun j hj hk => ?_, fun o ho => ?_, fun j k a b' c d e => ?_⟩
  · obtain ⟨i, i1, i2, i3, i4⟩ := he j hj
    rw [i2, hf _ 3 (by omega)] at hk
    rw [i2, i3, i4, qK, hf _ 16 (by omega)]
    have := h1 i i1 hk
    omega
  · rw [h5] at ho
    rw [hf o 3 (by omega), hf o 9 (by omega), hf o 10 (by omega), hf o 11 (by omega), hf o 16 (by omega), qK]
    obtain ⟨a1, a2, a3⟩ := h2 o ho
    refine ⟨fun c1 c2 => ?_, a2, a3⟩
    obtain ⟨w1, w2, w3⟩ := hO o ho
    unfold okC at w3
    obtain ⟨g1, g2, g3⟩ := ha o ho
    obtain ⟨n1, n2⟩ := hn o ho c2
    have e1 := ixF_K (b := b) (k := H1.1 3 o 16) w1 (by omega) c1
    rw [e1] at g3
    have hd := dtF_rng (b := b) (k := H1.1 3 o 16) w1 (by omega)
    have hr := nomO_rng (b := b) (k := H1.1 3 o 16) w1 (by omega)
    have eK := nomO_K (b := b) (H := H1) (o := o) (k := H1.1 3 o 16) (by have := w1.1; omega)
    rcases hd with hd | ⟨d1, d2, d3⟩
    · omega
    · have eK : nomO b H1 o (H1.1 3 o 16) = nomK H1 o (H1.1 3 o 16) := by
        by_cases q : 1094 < nomK H1 o (H1.1 3 o 16)
        · rw [if_pos q] at eK
          exact absurd eK d1
        · rw [if_neg q] at eK
          exact eK
      by_cases q : nomK H1 o (H1.1 3 o 16) ≤ t
      · rw [eK] at d1 d2 hr
        have := shZ_gt (b := b) (d := nomK H1 o (H1.1 3 o 16)) (r := H1.1 3 o 7) (by omega) (by omega) t q (by omega)
        rw [hb] at this
        cases this
      · omega
  · obtain ⟨i, l, ⟨i1, i2, i3⟩, i4, i5, i6, i7, i8, i9⟩ := he2 j k a b' c
    rw [i5, i8] at d
    rw [i5, hf _ 3 (by omega)] at e
    rw [i6, i7, i9]
    have := h3 i l i1 i2 i3 d e
    omega
theorem okX.non {t Z Z' U : Int} {H1 H4 : hR} (h : okX t Z U H1) (hw : okW H1) (hZ : Z + 5 ≤ Z') (h5 : H4.1 0 5 0 = H1.1 0 5 0) (h42 : H4.1 4 2 0 = H1.1 4 2 0) (hc : ∀ c i : Int, H4.1 5 c i = H1.1 5 c i) (hf : ∀ o f : Int, f = 3 ∨ f = 4 ∨ f = 6 ∨ f = 9 ∨ f = 10 ∨ f = 11 ∨ f = 16 → H4.1 3 o f = H1.1 3 o f) : okX (t + 1) Z' U H4 := by
  have h0 : okX (t + 1) Z' U H1 := by
    obtain ⟨h1, h2, h3⟩ := h
    refine ⟨fun i hi hk => ?_, fun o ho => ⟨fun c1 c2 => ?_, (h2 o ho).2⟩, h3⟩
    · have := h1 i hi hk
      omega
    · have := (h2 o ho).1 c1 c2
      omega
  exact h0.fr hw h42 h5 (fun c i _ => hc c i) (fun o f _ q => hf o f q)
def rows6 (m m' : mR) : Prop := (∀ t : Int, ¬ t = 0 → ¬ t = 1 → ¬ t = 6 → m'.1 t = m.1 t) ∧ m'.2 1 = m.2 1 ∧ ∀ k : Int, ¬ k = 8 → m'.1 6 k = m.1 6 k
theorem ls_day {T C : Int} {H : hR} {m : mR} (hT : 0 ≤ T ∧ T ≤ 100000) (h : Sim T H m) (hX : okXd C H) (hC : 0 ≤ C ∧ C + H.1 0 5 0 ≤ 512) (ha : ∀ o : Int, 0 ≤ o ∧ o < H.1 0 5 0 → aimed (cB H) H o) (ht : H.1 0 6 0 < 1094) :
    ∃ H' m', (∀ (fuel : Nat) (x1 x2 x3 : Int), wR x1 → wR x3 → x3 < x1 → wR (andI (H'.1 0 11 0) x2) → fX2_passDays_b31 (fuel + 1) x1 x2 x3 H = if andI (H'.1 0 11 0) x2 = 0 then fX2_passDays_b31 fuel x1 x2 (x3 + 1) H' else some (H.1 0 6 0, H')) ∧ fX7_passesDay m = some ((), m') ∧ Sim T H' m' ∧ okXd C H' ∧ (∀ o : Int, 0 ≤ o ∧ o < H'.1 0 5 0 → aimed (cB H') H' o) ∧ H'.1 0 6 0 = H.1 0 6 0 + 1 ∧ flg H' m' ∧ H'.1 0 5 0 = H.1 0 5 0 ∧ H'.1 0 4 0 = H.1 0 4 0 ∧ rows6 m m' := by
  generalize htt : H.1 0 6 0 = t at *
  obtain ⟨hol, hx, hdu⟩ := hX
  rw [htt] at hx hdu
  have ks := h.2.2.2.1
  unfold okS at ks
  have hsz := h.2.2.1
  unfold okN at hsz
  have e3 : m.1 0 3 = H.1 1 1 0 := h.1.1.2.2.2.1
  have hhol : 0 ≤ H.1 1 1 0 ∧ H.1 1 1 0 ≤ 20 := by
    have h1 := h.1.2.1.1.1
    have h2 := h.1.2.1.1.2.1
    omega
  have hfut := hol_cnt h.1.2.1 e3 (lo := t) (n := (1095 - t).toNat) (by omega) (by omega)
  have hfut0 := futH_rng (holB H) t
  have hph := phW_rng (w := (t + H.1 1 2 0) % 7) (by omega)
  have hfd : futH (holB H) t ≤ H.1 1 1 0 := hfut
  have hZ : zX C H = 10 + 2 * H.1 1 1 0 + 5 * C - phW ((t + H.1 1 2 0) % 7) - 7 * futH (holB H) t := by
    unfold zX
    rw [htt]
  have hU : uX C H = 17 + 2 * H.1 1 1 0 + 5 * C := rfl
  have hrun : ∀ d : Int, t < d → d ≤ 1094 → (∀ j : Int, t < j → j ≤ d → cB H j = false) → 5 * (d + 1 - t) + zX C H ≤ uX C H := fun d d1 d2 d3 => by
    have r1 := nonB_run (wd := H.1 1 2 0) (hb := holB H) (d - t).toNat (t + 1) (fun j j1 j2 => d3 j (by omega) (by omega))
    have r2 := phW_s (t + H.1 1 2 0)
    have r3 := phW_rng (w := (t + 1 + ((d - t).toNat : Nat) + H.1 1 2 0) % 7) (by omega)
    have r4 := futH_s (b := holB H) (t := t) (by omega)
    have r5 : futH (holB H) (t + 1) = cntB (holB H) (t + 1) (d - t).toNat + cntB (holB H) (t + 1 + ((d - t).toNat : Nat)) (1094 - d).toNat := by
      unfold futH
      rw [show (1095 - (t + 1)).toNat = (d - t).toNat + (1094 - d).toNat by omega, cntB_add]
    have r6 := cntB_rng (b := holB H) (lo := t + 1 + ((d - t).toNat : Nat)) (1094 - d).toNat
    have r7 := bI_rng (holB H t)
    rw [show t + 1 + H.1 1 2 0 = t + H.1 1 2 0 + 1 by omega] at r1
    by_cases g : (t + H.1 1 2 0) % 7 < 5
    · have := r2.1 g
      omega
    · have := r2.2 g
      omega
  -- the day begins
  have h0 : Sim T (hS H 0 11 0 0) (mS m 6 8 0) := ⟨(h.1.own h.2.2.1 (fun t a b q1 q2 q3 q4 => hS_n H (by omega)) rfl).oth (mS_t _ _ _ (by omega)) (mS_t _ _ _ (by omega)) rfl, h.2.1.fr (hS_n H (by omega)) (fun o f q => hS_n H (by omega)) (fun k q => mS_n m (by omega)), h.2.2.fr (Int.le_refl _) (fun t x y q1 q2 q3 q4 => hS_n H (by omega)) rfl⟩
  have hb0 : cB (hS H 0 11 0 0) = cB H := cB_fr (hS_n H (by omega)) (fun a => hS_n H (by omega))
  have f05 : (hS H 0 11 0 0).1 0 5 0 = H.1 0 5 0 := hS_n H (by omega)
  obtain ⟨H1, m1, p1, p2, p3, p4, p5, p6, p7, p8, p9⟩ := ls_dueAll (T := T) (C := C) (t := t) (Z := zX C H) (U := uX C H) (b := cB H) hC.1 (by omega) (by omega) (by omega) hrun (H.1 0 5 0).toNat fuel0 fuel0 0 (hS H 0 11 0 0) (mS m 6 8 0) (by rw [f05]; omega) (by omega) (by show _ < 1000000; omega) (by show _ < 1000000; omega) h0 hb0 ((hS_n H (by omega)).trans htt) (by rw [f05]; exact hC.2) (fun i hi => (ha i (by rw [f05] at hi; exact hi)).fr (fun f => hS_n H (by omega))) (hx.fr h.2.2.2.2.2.2.1 (hS_n H (by omega)) f05 (fun c i _ => hS_n H (by omega)) (fun o f _ _ => hS_n H (by omega))) (fun i hi => by
    rw [hS_n H (by omega)] at hi
    left
    rw [hS_n H (by omega)]
    exact hdu i hi) (fun i hi => by omega)
  rw [f05] at p8 p9
  have g0 : ∀ t' x y : Int, t' = 0 ∨ t' = 1 ∨ t' = 6 → ¬ (t' = 0 ∧ x = 11) → H1.1 t' x y = H.1 t' x y := fun t' x y q1 q2 => by rw [p6.1 _ _ _ (by omega) (by omega) (by omega) (by omega), hS_n H (by omega)]
  have g11 : H1.1 0 11 0 = 0 := by rw [p6.1 _ _ _ (by omega) (by omega) (by omega) (by omega), hS_p]
  have k1 := p3.2.2.1
  have k1' := k1
  unfold okN at k1'
  have hA1 : ∀ i : Int, 0 ≤ i ∧ i < H1.1 4 2 0 → ¬ H1.1 5 1 i = 0 := fun i hi => by
    have := (p3.2.2.2.2.2.2.1.1 i hi).2.1
    omega
  have t1 : H1.1 0 6 0 = t := (g0 _ _ _ (by omega) (by omega)).trans htt
  have hdb := debtB_le (t := t) (by omega)
  have mid1 := p3.mid
  rw [t1] at mid1
  have mb1 : MB (monB T t) (debtB t.toNat) (debtB t.toNat + 1000000) H1 := by
    obtain ⟨-, -, -, -, -, -, k7, k8⟩ := p3.2.2
    refine ⟨fun a q f hf => ?_, fun a q => ?_⟩
    · have := k7 a q f hf
      rw [t1] at this
      omega
    · obtain ⟨n, n1, n2, n3⟩ := k8 a q
      rw [t1] at n2 n3
      exact ⟨n, n1, n2, by omega⟩
  have hBm : monB T t = 100000000 * T + 2251799813685248 * t := rfl
  -- sweeps
  obtain ⟨H2, m2, s1, s2, s3, s4, s5, s6⟩ := ls_sweeps (F := 8400 * t) (K1 := debtB t.toNat) (K := debtB t.toNat + 1000000) (by omega) (H1.1 0 4 0).toNat fuel0 fuel0 0 (monB T t) H1 m1 (by omega) (by omega) (by show _ < 1000000; omega) (by show _ < 1000000; omega) mid1 hA1 mb1 (by
    have : ((H1.1 0 4 0).toNat : Int) * (8400000000 + (debtB t.toNat + 1000000)) ≤ 8 * (8400000000 + 90000001000000) := Int.mul_le_mul (by omega) (by omega) (by omega) (by omega)
    omega)
  have hB1 : ((H1.1 0 4 0).toNat : Int) * (8400000000 + (debtB t.toNat + 1000000)) ≤ 8 * (8400000000 + 90000001000000) := Int.mul_le_mul (by omega) (by omega) (by omega) (by omega)
  have hB1' : 0 ≤ ((H1.1 0 4 0).toNat : Int) * (8400000000 + (debtB t.toNat + 1000000)) := Int.mul_nonneg (by omega) (by omega)
  generalize ((H1.1 0 4 0).toNat : Int) * (8400000000 + (debtB t.toNat + 1000000)) = BS at *
  have hbz := bI_rng (cB H t)
  have cb2 : cB H2 = cB H := by
    rw [cB_fr (s5.1 _ _ _ (by omega)) (fun a => s5.1 _ _ _ (by omega)), cB_fr (p6.1 _ _ _ (by omega) (by omega) (by omega) (by omega)) (fun a => p6.1 _ _ _ (by omega) (by omega) (by omega) (by omega)), hb0]
  obtain ⟨bC, bM⟩ := s3.cal
  rw [cb2] at bC bM
  have t2 : H2.1 0 6 0 = t := (s5.1 _ _ _ (by omega)).trans t1
  have tm2 : m2.1 0 0 = t := s3.1.1.1.trans t2
  have z11 : flg H2 m2 := flg.of (v := 0) (by rw [s5.1 _ _ _ (by omega), g11]) (by rw [s6.1 6 (by omega), p7.1 6 (by omega) (by omega), mS_p]) (by omega)
  have hA2 : ∀ i : Int, 0 ≤ i ∧ i < H2.1 4 2 0 → ¬ H2.1 5 1 i = 0 := fun i hi => by
    rw [s5.1 _ _ _ (by omega)] at hi
    rw [s5.1 _ _ _ (by omega)]
    exact hA1 i hi
  -- payments, if it is a business day
  have pay : ∃ H4 m4, (∀ rec : hR → Option (Int × hR), (if bI (cB H t) = 0 then rec H2 else cl (fX2_payWaiting H2) fun _ H74 => rec H74) = rec H4) ∧ restM m2 = fX7_passesDay_b82 fuel0 0 m4 ∧ SimB (8400 * t + 8400) (monB T t + BS + 8400000000) (debtB t.toNat) (debtB t.toNat + 1000000 + 84000000) H4 m4 ∧ (∀ t' a b : Int, t' = 0 ∧ ¬ a = 10 ∧ ¬ a = 11 ∨ t' = 1 ∨ t' = 6 ∨ (t' = 3 ∧ ¬ b = 12 ∧ ¬ b = 13 ∧ ¬ b = 15) → H4.1 t' a b = H2.1 t' a b) ∧ flg H4 m4 ∧ rowsP m2 m4 ∧ (∀ Z' : Int, (if cB H t = true then zX C H ≤ Z' + 2 ∧ 0 ≤ Z' else zX C H + 5 ≤ Z') → okX (t + 1) Z' (uX C H) H4) ∧ okDue (t + 1) H4 := by
    have er : restM m2 = if bI (cB H t) = 0 then fX7_passesDay_b82 fuel0 0 m2 else cl (fX7_paysAll m2) fun r77 m77 => fX7_passesDay_b82 fuel0 0 m77 := by
      unfold restM
      rw [ev_today, cr_some, tm2, bM t (by omega), cr_some, gd_pos (by omega)]
    have hx2 : okX t (zX C H) (uX C H) H2 := p4.fr p3.2.2.2.2.2.2.1 (s5.1 _ _ _ (by omega)) (s5.1 _ _ _ (by omega)) (fun c i _ => s5.1 _ _ _ (by omega)) (fun o f _ _ => s5.1 _ _ _ (by omega))
    cases hbt : cB H t
    · -- none
      refine ⟨H2, m2, fun rec => by rw [bI_f rfl, if_pos rfl], by rw [er, hbt, bI_f rfl, if_pos rfl], (s3.F (by omega)).simB (dropR.rf s3.2.2.1.2.2.1.1 hA2) (s4.to rfl (fun a q f hf => ?_) rfl (fun a q => Or.inr (by omega))), fun _ _ _ _ => rfl, z11, ⟨fun _ _ _ _ => rfl, rfl, fun _ _ => rfl⟩, fun Z' hZ' => ?_, fun i hi => ?_⟩
      · have := s4.1 a q f hf
        omega
      · have hZ' : zX C H + 5 ≤ Z' := by simpa using hZ'
        exact p4.non p3.2.2.2.2.2.2.1 hZ' (s5.1 _ _ _ (by omega)) (s5.1 _ _ _ (by omega)) (fun c i => s5.1 _ _ _ (by omega)) (fun o f _ => s5.1 _ _ _ (by omega))
      · rw [s5.1 4 2 0 (by omega)] at hi
        rw [s5.1 5 3 i (by omega)]
        exact p5 i hi
    · obtain ⟨H3, H4, m4, y1, y2, y3, y4, y5, y6, y7, y8, y9⟩ := ls_pays s3 hA2 s4 z11 (by omega) (by omega)
      have d42 : ∀ t' a b : Int, ¬ t' = 5 → ¬ (t' = 4 ∧ a = 2 ∧ b = 0) → H4.1 t' a b = H3.1 t' a b := y4.1
      have e342 : H3.1 4 2 0 = H1.1 4 2 0 := (y7.1 _ _ _ (by omega) (by omega) (by omega) (by omega)).trans (s5.1 _ _ _ (by omega))
      have hsr := rk_rng (A := H3.1 5 1) (H3.1 4 2 0).toNat
      have en : ∀ j : Int, 0 ≤ j ∧ j < H4.1 4 2 0 → ∃ i : Nat, (i : Int) < H1.1 4 2 0 ∧ rk (H3.1 5 1) i = j ∧ ¬ H3.1 5 1 i = 0 ∧ H4.1 5 0 j = H1.1 5 0 i ∧ H4.1 5 2 j = H1.1 5 2 i ∧ H4.1 5 3 j = H1.1 5 3 i ∧ H4.1 5 4 j = H1.1 5 4 i + 1 := fun j hj => by
        rw [y4.2.2.1] at hj
        obtain ⟨i, i1, i2, i3⟩ := rk_sur (A := H3.1 5 1) _ j hj.1 hj.2
        have c := fun c hc => y4.2.2.2 i (by omega) i2 c hc
        rw [i3] at c
        have e1 : ∀ c : Int, c = 0 ∨ c = 2 ∨ c = 3 → H3.1 5 c i = H1.1 5 c i := fun c hc => (y7.1 _ _ _ (by omega) (by omega) (by omega) (by omega)).trans (s5.1 _ _ _ (by omega))
        have e4 := (y9 i (by rw [s5.1 4 2 0 (by omega)]; omega) i2).2
        rw [s5.1 5 4 i (by omega)] at e4
        refine ⟨i, by omega, i3, i2, ?_, ?_, ?_, ?_⟩
        · rw [c 0 (by omega), e1 0 (by omega)]
        · rw [c 2 (by omega), e1 2 (by omega)]
        · rw [c 3 (by omega), e1 3 (by omega)]
        · rw [c 4 (by omega), e4]
      refine ⟨H4, m4, fun rec => by rw [bI_t rfl, if_neg (by omega), y1, cl_some], by rw [er, hbt, bI_t rfl, if_neg (by omega), y2, cl_some], y3.simB y4 y5, fun t' a b q => ?_, ?_, y8, fun Z' hZ' => ?_, fun j hj => ?_⟩
      · rw [d42 _ _ _ (by omega) (by omega), y7.1 _ _ _ (by omega) (by omega) (by omega) (by omega)]
      · exact y6.fr (d42 _ _ _ (by omega) (by omega)) rfl
      · have hZ' : zX C H ≤ Z' + 2 ∧ 0 ≤ Z' := by simpa using hZ'
        have f4 : ∀ o f : Int, f = 3 ∨ f = 4 ∨ f = 6 ∨ f = 9 ∨ f = 10 ∨ f = 11 ∨ f = 16 → H4.1 3 o f = H1.1 3 o f := fun o f q => by rw [d42 _ _ _ (by omega) (by omega), y7.1 _ _ _ (by omega) (by omega) (by omega) (by omega), s5.1 _ _ _ (by omega)]
        refine p4.biz (b := cB H) p3.2.2.2.2.2.1 hZ'.1 hZ'.2 (by omega) hbt (fun o q => p8 o (by rw [g0 0 5 0 (by omega) (by omega)] at q; exact q)) (fun o q => p9 o (by rw [g0 0 5 0 (by omega) (by omega)] at q; exact q)) (by rw [d42 _ _ _ (by omega) (by omega), y7.1 _ _ _ (by omega) (by omega) (by omega) (by omega), s5.1 _ _ _ (by omega)]) f4 (fun j hj => ?_) (fun j k q1 q2 q3 => ?_)
        · obtain ⟨i, i1, i2, i3, i4, i5, i6, i7⟩ := en j hj
          exact ⟨i, ⟨by omega, i1⟩, i4, i5, i7⟩
        · obtain ⟨i, i1, i2, i3, i4, i5, i6, i7⟩ := en j (by omega)
          obtain ⟨l, l1, l2, l3, l4, l5, l6, l7⟩ := en k (by omega)
          have hil : i ≤ l ∧ (j < k → i < l) := by
            constructor
            · by_cases q : i ≤ l
              · exact q
              · have := rk_lt (A := H3.1 5 1) (n := l) (k := i) (by omega) l3
                omega
            · intro q
              by_cases q' : i < l
              · exact q'
              · have := rk_le (A := H3.1 5 1) (n := l) (k := i) (by omega)
                omega
          exact ⟨i, l, ⟨by omega, by omega, l1⟩, fun q => by have := hil.2 q; omega, i4, i5, i7, l4, l5⟩
      · obtain ⟨i, i1, i2, i3, i4, i5, i6, i7⟩ := en j hj
        rw [i6]
        exact p5 i (by omega)
  obtain ⟨H4, m4, q1, q2, q3, q4, q5, q6, q7, q8⟩ := pay
  obtain ⟨w1, w2, w3, w4, w5, w6, w7, w8, w9⟩ := q3
  have t4 : H4.1 0 6 0 = t := (q4 _ _ _ (by omega)).trans t2
  have w4' := w4
  unfold okS4 at w4'
  have w3' := w3
  unfold okN at w3'
  -- interest
  obtain ⟨H5, m5, r1, r2, r3, r4, r5, r6⟩ := ls_ints (B := monB T t + BS + 8400000000) (K1 := debtB t.toNat) (K := debtB t.toNat + 1000000 + 84000000) (t := t) (r := H4.1 0 9 0) (by omega) (by omega) (by omega) (by omega) (H4.1 0 4 0).toNat fuel0 fuel0 0 H4 m4 (by omega) (by omega) (by show _ < 1000000; omega) (by show _ < 1000000; omega) w1 w3 t4 rfl (fun x hx f hf => by
    have := w9.1 x hx f hf
    exact ⟨fun _ => this, by omega⟩) (fun x hx => by
    obtain ⟨n, n1, n2, n3⟩ := w9.2 x hx
    exact ⟨n, n1, fun _ => ⟨n2, n3⟩, by omega, by omega⟩)
  have rt2 := (rate_dv (r := H4.1 0 9 0) (by omega)).2.1
  have hmo := mOf_in (d := t) (by omega)
  have ech : fX2_chargeInterest H4 = some ((), H5) := by
    unfold fX2_chargeInterest
    rw [gd_pos rt2, t4, ec_monthOf (by omega), cr_some, ec_last (by omega), cr_some, gd_pos (by have := m_rng (m := mOf t) (by omega); omega)]
    by_cases g : mLast (mOf t) = t
    · rw [if_pos g] at r1 ⊢
      exact r1
    · rw [if_neg g] at r1 ⊢
      exact r1
  have t5 : H5.1 0 6 0 = t := (r4 _ _ _ (by omega)).trans t4
  have f5 : ∀ t' x y : Int, ¬ (t' = 0 ∧ x = 6 ∧ y = 0) → (hS H5 0 6 0 (t + 1)).1 t' x y = H5.1 t' x y := fun t' x y q => hS_n H5 q
  have f54 : ∀ t' x y : Int, ¬ (t' = 0 ∧ x = 6 ∧ y = 0) → ¬ (t' = 2 ∧ (y = 3 ∨ y = 10)) → (hS H5 0 6 0 (t + 1)).1 t' x y = H4.1 t' x y := fun t' x y a b => (f5 _ _ _ a).trans (r4 _ _ _ b)
  have fH : ∀ t' x y : Int, t' = 0 ∧ (x = 4 ∨ x = 5) ∨ t' = 1 ∨ t' = 6 → (hS H5 0 6 0 (t + 1)).1 t' x y = H.1 t' x y := fun t' x y q => by
    rw [f54 _ _ _ (by omega) (by omega), q4 _ _ _ (by omega), s5.1 _ _ _ (by omega), g0 _ _ _ (by omega) (by omega)]
  have hhb : holB (hS H5 0 6 0 (t + 1)) = holB H := by
    funext d
    unfold holB
    rw [fH _ _ _ (by omega)]
  have hcb : cB (hS H5 0 6 0 (t + 1)) = cB H := cB_fr (fH _ _ _ (by omega)) (fun a => fH _ _ _ (by omega))
  have hZ' : zX C (hS H5 0 6 0 (t + 1)) = 10 + 2 * H.1 1 1 0 + 5 * C - phW ((t + 1 + H.1 1 2 0) % 7) - 7 * futH (holB H) (t + 1) := by
    unfold zX
    rw [hhb, hS_p, fH 1 1 0 (by omega), fH 1 2 0 (by omega)]
  have hU' : uX C (hS H5 0 6 0 (t + 1)) = uX C H := by
    unfold uX
    rw [fH 1 1 0 (by omega)]
  have hZZ : (if cB H t = true then zX C H ≤ zX C (hS H5 0 6 0 (t + 1)) + 2 ∧ 0 ≤ zX C (hS H5 0 6 0 (t + 1)) else zX C H + 5 ≤ zX C (hS H5 0 6 0 (t + 1))) := by
    have r4 := futH_s (b := holB H) (t := t) (by omega)
    have r5 := futH_rng (holB H) (t + 1)
    have r8 := phW_s (t + H.1 1 2 0)
    have r9 := phW_rng (w := (t + H.1 1 2 0 + 1) % 7) (by omega)
    have r10 := bI_rng (holB H t)
    rw [hZ, hZ', show t + 1 + H.1 1 2 0 = t + H.1 1 2 0 + 1 by omega]
    unfold cB biz
    by_cases g : (t + H.1 1 2 0) % 7 < 5
    · have g1 := r8.1 g
      rw [decide_eq_true g]
      cases hh : holB H t
      · rw [hh, bI_f rfl] at r4
        rw [if_pos (by rfl)]
        omega
      · rw [hh, bI_t rfl] at r4
        rw [if_neg (by decide)]
        omega
    · have g1 := r8.2 g
      rw [decide_eq_false g, if_neg (by rw [Bool.false_and]; decide)]
      omega
  have hK' : debtB t.toNat + 1000000 + 84000000 + (debtB t.toNat + 1000000 + 84000000) / 256 + 2 ≤ debtB (t + 1).toNat := by
    have : debtB (t + 1).toNat = debtB t.toNat + debtB t.toNat / 128 + 134217728 := by
      rw [show (t + 1).toNat = t.toNat + 1 by omega]
      rfl
    omega
  refine ⟨hS H5 0 6 0 (t + 1), mS m5 0 0 (t + 1), fun fuel x1 x2 x3 a1 a2 a3 a4 => ?_, ?_, ⟨r3.sc (w3.fr (r4 _ _ _ (by omega)) (r4 _ _ _ (by omega)) (r4 _ _ _ (by omega)) (r4 _ _ _ (by omega))) (by omega), w2.fr (f54 _ _ _ (by omega) (by omega)) (fun o f q => f54 _ _ _ (by omega) (by omega)) (fun k q => by rw [mS_n _ (by omega)]; exact r5.2.2 k (by omega)), ?_⟩, ⟨?_, ?_, ?_⟩, fun o q => ?_, hS_p _ _ _ _ _, ?_, fH _ _ _ (by omega), fH _ _ _ (by omega), ⟨fun t' a b c => ?_, ?_, fun k q => ?_⟩⟩
  · -- the class's day
    have e1 : fX2_makePaymentsDue (hS H 0 11 0 0) = some ((), H1) := p1
    have e2 : fX2_sweep H1 = some ((), H2) := s1
    have hb77 : fX2_passDays_b77 (fX2_passDays_b31 fuel) x1 x2 x3 H4 = if andI ((hS H5 0 6 0 (t + 1)).1 0 11 0) x2 = 0 then fX2_passDays_b31 fuel x1 x2 (x3 + 1) (hS H5 0 6 0 (t + 1)) else some (t, hS H5 0 6 0 (t + 1)) := by
      unfold fX2_passDays_b77
      rw [ech, cl_some, t5, bnd_eq, gd_pos a4, hS_p, show t + 1 - 1 = t by omega]
    rw [fX2_passDays_b31, gd_pos (by omega), if_neg (by omega), htt, gd_pos (by omega), if_neg (by omega), bnd_eq, e1, cl_some, e2, cl_some, t2, bC t (by omega), cr_some, gd_pos (by omega)]
    have := q1 (fun G => fX2_passDays_b77 (fX2_passDays_b31 fuel) x1 x2 x3 G)
    rw [this]
    exact hb77
  · unfold fX7_passesDay
    rw [bnd_eq, p2, s2, q2, r2]
  · refine ⟨w3.fr (f54 _ _ _ (by omega) (by omega)) (f54 _ _ _ (by omega) (by omega)) (f54 _ _ _ (by omega) (by omega)) (f54 _ _ _ (by omega) (by omega)), ?_, w5.fr (f54 _ _ _ (by omega) (by omega)) (fun a f q => f54 _ _ _ (by omega) (by omega)), w6.fr (f54 _ _ _ (by omega) (by omega)) (f54 _ _ _ (by omega) (by omega)) (fun o f q => f54 _ _ _ (by omega) (by omega)), w7.fr (f54 _ _ _ (by omega) (by omega)) (f54 _ _ _ (by omega) (by omega)) (fun c i _ => f54 _ _ _ (by omega) (by omega)), w8.fr w3 (f54 _ _ _ (by omega) (by omega)) (f54 _ _ _ (by omega) (by omega)) (f54 _ _ _ (by omega) (by omega)) (fun c i _ => f54 _ _ _ (by omega) (by omega)) (fun a => f54 _ _ _ (by omega) (by omega)) (fun o => ⟨f54 _ _ _ (by omega) (by omega), f54 _ _ _ (by omega) (by omega)⟩), fun a q f hf => ?_, fun a q => ?_⟩
    · unfold okS
      rw [hS_p, f54 1 2 0 (by omega) (by omega), f54 0 7 0 (by omega) (by omega), f54 0 8 0 (by omega) (by omega), f54 0 9 0 (by omega) (by omega), f54 0 10 0 (by omega) (by omega)]
      omega
    · rw [f5 _ _ _ (by omega)] at q
      have := r6.1 a q f hf
      rw [hS_p, f5 2 a f (by omega)]
      unfold monB at *
      omega
    · rw [f5 _ _ _ (by omega)] at q
      obtain ⟨n, n1, n2, n3⟩ := r6.2 a q
      rw [hS_p, f5 2 a 3 (by omega)]
      have c1 := Int.mul_le_mul_of_nonneg_right hK' (show (0 : Int) ≤ 2 ^ 80 by decide)
      exact ⟨n, n1, by omega, by omega⟩
  · rw [fH 1 1 0 (by omega)]
    exact hol
  · rw [hS_p, hU']
    exact (q7 _ hZZ).fr w7 (f54 _ _ _ (by omega) (by omega)) (f54 _ _ _ (by omega) (by omega)) (fun c i _ => f54 _ _ _ (by omega) (by omega)) (fun o f _ q => f54 _ _ _ (by omega) (by omega))
  · rw [hS_p]
    exact q8.fr (f54 _ _ _ (by omega) (by omega)) (fun i _ => f54 _ _ _ (by omega) (by omega))
  · rw [fH 0 5 0 (by omega)] at q
    rw [hcb]
    have a1 := p8 o q
    have e : ∀ f : Int, ¬ f = 12 → ¬ f = 13 → ¬ f = 15 → (hS H5 0 6 0 (t + 1)).1 3 o f = H1.1 3 o f := fun f c1 c2 c3 => by
      rw [f54 _ _ _ (by omega) (by omega), q4 _ _ _ (by omega), s5.1 _ _ _ (by omega)]
    unfold aimed at *
    rw [e 16 (by omega) (by omega) (by omega), e 17 (by omega) (by omega) (by omega), e 18 (by omega) (by omega) (by omega), e 19 (by omega) (by omega) (by omega), ixF_fr (H := H1) (fun f c => e f (by omega) (by omega) (by omega)), nomO_fr (H := H1) (fun f c => e f (by omega) (by omega) (by omega)), dtF_fr (H := H1) (fun f c => e f (by omega) (by omega) (by omega))]
    exact a1
  · exact q5.fr (f54 _ _ _ (by omega) (by omega)) (by rw [mS_n _ (by omega), r5.1 6 (by omega)])
  · rw [mS_t _ _ _ a, r5.1 t' a, q6.1 t' a b c, s6.1 t' a, p7.1 t' a b, mS_t _ _ _ c]
  · rw [mS_2, r5.2.1 1 (by omega), q6.2.1, s6.2, p7.2]
    rfl
  · rw [mS_n _ (by omega), r5.1 6 (by omega), q6.2.2 k q, s6.1 6 (by omega), p7.1 6 (by omega) (by omega), mS_n m (by omega)]
end
section
/-! ===== days go by ===== -/
theorem ec_aimAll {x1 x2 : Int} : ∀ (k fuel : Nat) (o : Int) (H : hR), o + k = H.1 0 5 0 → 0 ≤ o → k < fuel → okN H → okO H → calC H (cB H) → (∀ i : Int, 0 ≤ i ∧ i < o → aimed (cB H) H i) → ∃ H', fX2_passDays_b2 fuel x1 x2 o H = fX2_passDays_b31 fuel0 x1 x2 0 H' ∧ onlyAims H H' ∧ ∀ i : Int, 0 ≤ i ∧ i < H'.1 0 5 0 → aimed (cB H') H' i
  | k, 0, _, _, _, _, h, _, _, _, _ => by omega
  | 0, fuel + 1, o, H, h1, h2, _, hN, hO, hb, ha => by
    unfold okN at hN
    refine ⟨H, ?_, onlyAims.rf H, fun i hi => ha i (by omega)⟩
    rw [fX2_passDays_b2, gd_pos (by omega), if_pos (by omega)]
  | k + 1, fuel + 1, o, H, h1, h2, h3, hN, hO, hb, ha => by
    have hN' := hN
    unfold okN at hN'
    obtain ⟨w1, w2, w3⟩ := hO o (by omega)
    unfold okC at w3
    obtain ⟨⟨u, H1⟩, e1, e2, e3⟩ := ec_aim (o := o) hb w1 (by omega)
    have e2 : onlyAim o H H1 := e2
    have e3 : aimed (cB H) H1 o := e3
    have cb : cB H1 = cB H := cB_fr (e2.1 _ _ _ (by omega)) (fun a => e2.1 _ _ _ (by omega))
    obtain ⟨H', z1, z2, z3⟩ := ec_aimAll k fuel (o + 1) H1 (by rw [e2.1 0 5 0 (by omega)]; omega) (by omega) (by omega) (hN.fr (e2.1 _ _ _ (by omega)) (e2.1 _ _ _ (by omega)) (e2.1 _ _ _ (by omega)) (e2.1 _ _ _ (by omega))) (hO.fr (e2.1 _ _ _ (by omega)) (e2.1 _ _ _ (by omega)) (fun i f q => e2.1 _ _ _ (by omega))) (by rw [cb]; exact hb.fr (fun a => e2.1 _ _ _ (by omega)) (e2.1 _ _ _ (by omega))) (fun i hi => by
      rw [cb]
      by_cases q : i = o
      · rw [q]; exact e3
      · exact (ha i (by omega)).fr (fun f => e2.1 _ _ _ (by omega)))
    refine ⟨H', ?_, ⟨fun t a f q => (z2.1 t a f q).trans (e2.1 t a f (by omega)), z2.2.trans e2.2⟩, z3⟩
    rw [fX2_passDays_b2, gd_pos (by omega), if_neg (by omega), gd_pos (by omega), e1, cl_some, z1]
theorem okXd.aims {C : Int} {H H' : hR} (h : okXd C H) (hw : okW H) (g : onlyAims H H') : okXd C H' := by
  obtain ⟨h1, h2, h3⟩ := h
  have e : ∀ t x y : Int, ¬ t = 3 → H'.1 t x y = H.1 t x y := fun t x y q => g.1 t x y (by omega)
  have hb : holB H' = holB H := by
    funext d
    unfold holB
    rw [e _ _ _ (by omega)]
  have hz : zX C H' = zX C H := by
    unfold zX
    rw [hb, e 0 6 0 (by omega), e 1 1 0 (by omega), e 1 2 0 (by omega)]
  have hu : uX C H' = uX C H := by
    unfold uX
    rw [e 1 1 0 (by omega)]
  refine ⟨by rw [e 1 1 0 (by omega)]; exact h1, ?_, ?_⟩
  · rw [hz, hu, e 0 6 0 (by omega)]
    exact h2.fr hw (e _ _ _ (by omega)) (e _ _ _ (by omega)) (fun c i _ => e _ _ _ (by omega)) (fun o f _ q => g.1 _ _ _ (by omega))
  · rw [e 0 6 0 (by omega)]
    exact h3.fr (e _ _ _ (by omega)) (fun i _ => e _ _ _ (by omega))
theorem rows6.tr {m m1 m2 : mR} (h : rows6 m m1) (g : rows6 m1 m2) : rows6 m m2 :=
  ⟨fun t a b c => (g.1 t a b c).trans (h.1 t a b c), g.2.1.trans h.2.1, fun k hk => (g.2.2 k hk).trans (h.2.2 k hk)⟩
theorem rows6.rf (m : mR) : rows6 m m := ⟨fun _ _ _ _ => rfl, rfl, fun _ _ => rfl⟩
theorem and0 (x : Int) : andI x 0 = 0 := by
  show (iI x &&& iI 0).toInt = 0
  have : iI x &&& iI 0 = 0 := by
    show iI x &&& 0 = 0
    exact Int32.and_zero
  rw [this]
  rfl
/-- days without a watch -/
theorem ls_daysLoop {T C n : Int} (hT : 0 ≤ T ∧ T ≤ 100000) (hC : 0 ≤ C) (hn : 0 ≤ n ∧ n ≤ 400) : ∀ (k fC fM : Nat) (x : Int) (H : hR) (m : mR), x + k = n → 0 ≤ x → k < fC → k < fM → Sim T H m → okXd C H → C + H.1 0 5 0 ≤ 512 → (∀ o : Int, 0 ≤ o ∧ o < H.1 0 5 0 → aimed (cB H) H o) →
    ∃ H' m', fX2_passDays_b31 fC n 0 x H = some (-6, H') ∧ fX7_passesDays_b2 fM n x m = some (H'.1 0 6 0, m') ∧ Sim T H' m' ∧ okXd C H' ∧ H'.1 0 5 0 = H.1 0 5 0 ∧ H'.1 0 4 0 = H.1 0 4 0 ∧ rows6 m m'
  | k, 0, _, _, _, _, _, _, h, _, _, _, _, _ => by omega
  | k, _ + 1, 0, _, _, _, _, _, _, h, _, _, _, _ => by omega
  | 0, fC + 1, fM + 1, x, H, m, h1, h2, _, _, h, hX, hCo, ha => by
    have e0 : m.1 0 0 = H.1 0 6 0 := h.1.1.1
    refine ⟨H, m, ?_, ?_, h, hX, rfl, rfl, rows6.rf m⟩
    · rw [fX2_passDays_b31, gd_pos (by omega), if_pos (by omega)]
    · rw [fX7_passesDays_b2, gd_pos (by omega), if_pos (by omega)]
      unfold fX7_passesDays_b27
      rw [ev_today, cr_some, e0]
  | k + 1, fC + 1, fM + 1, x, H, m, h1, h2, h3, h4, h, hX, hCo, ha => by
    have e0 : m.1 0 0 = H.1 0 6 0 := h.1.1.1
    have ks := h.2.2.2.1
    unfold okS at ks
    by_cases g : 1094 ≤ H.1 0 6 0
    · refine ⟨H, m, ?_, ?_, h, hX, rfl, rfl, rows6.rf m⟩
      · rw [fX2_passDays_b31, gd_pos (by omega), if_neg (by omega), gd_pos (by omega), if_pos g]
      · rw [fX7_passesDays_b2, gd_pos (by omega), if_neg (by omega), ev_today, cr_some, e0, gd_pos (by omega), if_pos g]
        unfold fX7_passesDays_b27
        rw [ev_today, cr_some, e0]
    · obtain ⟨H1, m1, d1, d2, d3, d4, d5, d6, d7, d8, d9, d10⟩ := ls_day hT h hX ⟨hC, hCo⟩ ha (by omega)
      obtain ⟨H', m', z1, z2, z3, z4, z5, z6, z7⟩ := ls_daysLoop hT hC hn k fC fM (x + 1) H1 m1 (by omega) (by omega) (by omega) (by omega) d3 d4 (by omega) d5
      refine ⟨H', m', ?_, ?_, z3, z4, z5.trans d8, z6.trans d9, d10.tr z7⟩
      · rw [d1 fC n 0 x (by omega) (by omega) (by omega) (by rw [and0]; omega), and0, if_pos rfl, z1]
      · rw [fX7_passesDays_b2, gd_pos (by omega), if_neg (by omega), ev_today, cr_some, e0, gd_pos (by omega), if_neg g, d2, cl_some, z2]
theorem ls_days {T C n : Int} {H : hR} {m : mR} (hT : 0 ≤ T ∧ T ≤ 100000) (hC : 0 ≤ C ∧ C + H.1 0 5 0 ≤ 512) (hn : 0 ≤ n ∧ n ≤ 400) (h : Sim T H m) (hX : okXd C H) :
    ∃ H' m', fX2_passDays n 0 H = some (-6, H') ∧ fX7_passesDays n m = some (H'.1 0 6 0, m') ∧ Sim T H' m' ∧ okXd C H' ∧ H'.1 0 5 0 = H.1 0 5 0 ∧ H'.1 0 4 0 = H.1 0 4 0 ∧ rows6 m m' := by
  have k1 := h.2.2.1
  have k1' := k1
  unfold okN at k1'
  obtain ⟨b1, b2⟩ := cal_both h.1 h.2.2.2.1.2.1
  obtain ⟨H1, e1, e2, e3⟩ := ec_aimAll (x1 := n) (x2 := 0) (H.1 0 5 0).toNat fuel0 0 H (by omega) (by omega) (by show _ < 1000000; omega) k1 h.2.2.2.2.2.1 b1 (fun i hi => by omega)
  have f5 : H1.1 0 5 0 = H.1 0 5 0 := e2.1 _ _ _ (by omega)
  obtain ⟨H', m', z1, z2, z3, z4, z5, z6, z7⟩ := ls_daysLoop hT hC.1 hn n.toNat fuel0 fuel0 0 H1 m (by omega) (by omega) (by show _ < 1000000; omega) (by show _ < 1000000; omega) (h.aims e2) (hX.aims h.2.2.2.2.2.2.1 e2) (by omega) e3
  refine ⟨H', m', ?_, z2, z3, z4, z5.trans f5, z6.trans (e2.1 _ _ _ (by omega)), z7⟩
  unfold fX2_passDays
  rw [e1, z1]
/-- days until a watched try fails -/
theorem ls_failsLoop {T C n w w' : Int} (hT : 0 ≤ T ∧ T ≤ 100000) (hC : 0 ≤ C) (hn : 0 ≤ n ∧ n ≤ 400) (hw : ∀ f : Int, 0 ≤ f ∧ f ≤ 255 → (andI f w = 0 ↔ andI f w' = 0)) : ∀ (k fC fM : Nat) (x : Int) (H : hR) (m : mR), x + k = n → 0 ≤ x → k < fC → k < fM → Sim T H m → okXd C H → C + H.1 0 5 0 ≤ 512 → (∀ o : Int, 0 ≤ o ∧ o < H.1 0 5 0 → aimed (cB H) H o) →
    ∃ r H' m', fX2_passDays_b31 fC n w x H = some (r, H') ∧ fX7_failsIn_b2 fM w' n x m = some (r, m') ∧ wR r ∧ Sim T H' m' ∧ rows6 m m'
  | k, 0, _, _, _, _, _, _, h, _, _, _, _, _ => by omega
  | k, _ + 1, 0, _, _, _, _, _, _, h, _, _, _, _ => by omega
  | 0, fC + 1, fM + 1, x, H, m, h1, h2, _, _, h, hX, hCo, ha => by
    refine ⟨-6, H, m, ?_, ?_, by omega, h, rows6.rf m⟩
    · rw [fX2_passDays_b31, gd_pos (by omega), if_pos (by omega)]
    · rw [fX7_failsIn_b2, gd_pos (by omega), if_pos (by omega)]
  | k + 1, fC + 1, fM + 1, x, H, m, h1, h2, h3, h4, h, hX, hCo, ha => by
    have e0 : m.1 0 0 = H.1 0 6 0 := h.1.1.1
    have ks := h.2.2.2.1
    unfold okS at ks
    by_cases g : 1094 ≤ H.1 0 6 0
    · refine ⟨-6, H, m, ?_, ?_, by omega, h, rows6.rf m⟩
      · rw [fX2_passDays_b31, gd_pos (by omega), if_neg (by omega), gd_pos (by omega), if_pos g]
      · rw [fX7_failsIn_b2, gd_pos (by omega), if_neg (by omega), ev_today, cr_some, e0, gd_pos (by omega), if_pos g]
    · obtain ⟨H1, m1, d1, d2, d3, d4, d5, d6, d7, d8, d9, d10⟩ := ls_day hT h hX ⟨hC, hCo⟩ ha (by omega)
      have wa : wR (andI (H1.1 0 11 0) w) := iI_wR _
      have wb : wR (andI (m1.1 6 8) w') := iI_wR _
      have hww := hw (H1.1 0 11 0) d7.2
      have em : fX7_failsIn_b2 (fM + 1) w' n x m = if andI (m1.1 6 8) w' = 0 then fX7_failsIn_b2 fM w' n (x + 1) m1 else some (H.1 0 6 0, m1) := by
        rw [fX7_failsIn_b2, gd_pos (by omega), if_neg (by omega), ev_today, cr_some, e0, gd_pos (by omega), if_neg g, cr_some, d2, cl_some, gd_pos wb]
      rw [← d7.1] at em
      by_cases g2 : andI (H1.1 0 11 0) w = 0
      · obtain ⟨r, H', m', z1, z2, z3, z4, z5⟩ := ls_failsLoop hT hC hn hw k fC fM (x + 1) H1 m1 (by omega) (by omega) (by omega) (by omega) d3 d4 (by omega) d5
        refine ⟨r, H', m', ?_, ?_, z3, z4, d10.tr z5⟩
        · rw [d1 fC n w x (by omega) (by omega) (by omega) wa, if_pos g2, z1]
        · rw [em, if_pos (hww.mp g2), z2]
      · refine ⟨H.1 0 6 0, H1, m1, ?_, ?_, by omega, d3, d10⟩
        · rw [d1 fC n w x (by omega) (by omega) (by omega) wa, if_neg g2]
        · rw [em, if_neg (fun q => g2 (hww.mpr q))]
theorem ls_fails {T C n w w' : Int} {H : hR} {m : mR} (hT : 0 ≤ T ∧ T ≤ 100000) (hC : 0 ≤ C ∧ C + H.1 0 5 0 ≤ 512) (hn : 0 ≤ n ∧ n ≤ 400) (hw : ∀ f : Int, 0 ≤ f ∧ f ≤ 255 → (andI f w = 0 ↔ andI f w' = 0)) (h : Sim T H m) (hX : okXd C H) :
    ∃ r H' m', fX2_passDays n w H = some (r, H') ∧ fX7_failsIn w' n m = some (r, m') ∧ wR r ∧ Sim T H' m' ∧ rows6 m m' := by
  have k1 := h.2.2.1
  have k1' := k1
  unfold okN at k1'
  obtain ⟨b1, b2⟩ := cal_both h.1 h.2.2.2.1.2.1
  obtain ⟨H1, e1, e2, e3⟩ := ec_aimAll (x1 := n) (x2 := w) (H.1 0 5 0).toNat fuel0 0 H (by omega) (by omega) (by show _ < 1000000; omega) k1 h.2.2.2.2.2.1 b1 (fun i hi => by omega)
  have f5 : H1.1 0 5 0 = H.1 0 5 0 := e2.1 _ _ _ (by omega)
  obtain ⟨r, H', m', z1, z2, z3, z4, z5⟩ := ls_failsLoop hT hC.1 hn hw n.toNat fuel0 fuel0 0 H1 m (by omega) (by omega) (by show _ < 1000000; omega) (by show _ < 1000000; omega) (h.aims e2) (hX.aims h.2.2.2.2.2.2.1 e2) (by omega) e3
  refine ⟨r, H', m', ?_, z2, z3, z4, z5⟩
  unfold fX2_passDays
  rw [e1, z1]
theorem watch_c : ∀ f : Nat, f < 256 → andI f (-1) = andI f 255 := by decide +kernel
theorem watch_all {f : Int} (h : 0 ≤ f ∧ f ≤ 255) : andI f (-1) = 0 ↔ andI f 255 = 0 := by
  obtain ⟨k, hk, rfl⟩ := toN (n := 256) (d := f) (by omega)
  rw [watch_c k (by omega)]
end
section
/-! ===== a house is copied ===== -/
def copyR (H2 H' : hR) : Prop := (∀ a : Int, 4 ≤ a ∧ a ≤ 10 → H'.1 0 a 0 = H2.1 0 a 0) ∧ (H'.1 1 1 0 = H2.1 1 1 0 ∧ H'.1 1 2 0 = H2.1 1 2 0) ∧ (∀ a : Int, 0 ≤ a ∧ a < 18 → H'.1 6 a 0 = H2.1 6 a 0) ∧ (∀ a : Int, 0 ≤ a ∧ a < H2.1 0 4 0 → (∀ f : Int, 0 ≤ f ∧ f ≤ 11 → H'.1 2 a f = H2.1 2 a f) ∧ H'.2 a = H2.2 a) ∧ (∀ o : Int, 0 ≤ o ∧ o < H2.1 0 5 0 → ∀ f : Int, 0 ≤ f ∧ f ≤ 16 → H'.1 3 o f = H2.1 3 o f) ∧ H'.1 4 2 0 = H2.1 4 2 0 ∧ (∀ c i : Int, 0 ≤ c ∧ c < 5 → 0 ≤ i ∧ i < H2.1 4 2 0 → H'.1 5 c i = H2.1 5 c i) ∧ H2.1 4 2 0 ≤ H'.1 4 1 0 ∧ roomOK (H'.1 4 1 0)
theorem ec_copyA (H2 H : hR) (a : Int) : ∃ G, fX0_copyFrom H2 a a H = some ((), G) ∧ (∀ t x y : Int, G.1 t x y = if t = 2 ∧ x = a ∧ 0 ≤ y ∧ y ≤ 11 then H2.1 2 a y else H.1 t x y) ∧ ∀ j : Int, G.2 j = if j = a then H2.2 a else H.2 j := by
  refine ⟨_, rfl, fun t x y => ?_, fun j => rfl⟩
  by_cases q : t = 2 ∧ x = a ∧ 0 ≤ y ∧ y ≤ 11
  · obtain ⟨q1, q2, q3, q4⟩ := q
    rw [if_pos ⟨q1, q2, q3, q4⟩]
    subst q1 q2
    have : y = 0 ∨ y = 1 ∨ y = 2 ∨ y = 3 ∨ y = 4 ∨ y = 5 ∨ y = 6 ∨ y = 7 ∨ y = 8 ∨ y = 9 ∨ y = 10 ∨ y = 11 := by omega
    rcases this with rfl | rfl | rfl | rfl | rfl | rfl | rfl | rfl | rfl | rfl | rfl | rfl <;> simp [hS_1, hD_1]
  · rw [if_neg q, hD_1, hS_n _ (by omega), hS_n _ (by omega), hS_n _ (by omega), hS_n _ (by omega), hS_n _ (by omega), hS_n _ (by omega), hS_n _ (by omega), hS_n _ (by omega), hS_n _ (by omega), hS_n _ (by omega), hS_n _ (by omega), hS_n _ (by omega)]
theorem ec_copyO (H2 H : hR) (o : Int) (he : H2.1 3 o 9 = 0 ∨ H2.1 3 o 9 = 1) : ∃ G, fX3_copyFrom H2 o o H = some ((), G) ∧ (∀ t x y : Int, G.1 t x y = if t = 3 ∧ x = o ∧ 0 ≤ y ∧ y ≤ 16 then H2.1 3 o y else H.1 t x y) ∧ G.2 = H.2 := by
  have e : ∃ G, fX3_copyFrom H2 o o H = some ((), G) ∧ G = (hS (hS (hS (hS (hS (hS (hS (hS (hS (hS (hS (hS (hS (hS (hS (hS (hS H 3 o 0 (H2.1 3 o 0)) 3 o 1 (H2.1 3 o 1)) 3 o 2 (H2.1 3 o 2)) 3 o 3 (H2.1 3 o 3)) 3 o 4 (H2.1 3 o 4)) 3 o 5 (H2.1 3 o 5)) 3 o 6 (H2.1 3 o 6)) 3 o 7 (H2.1 3 o 7)) 3 o 8 (H2.1 3 o 8)) 3 o 9 (H2.1 3 o 9)) 3 o 10 (H2.1 3 o 10)) 3 o 11 (H2.1 3 o 11)) 3 o 12 (H2.1 3 o 12)) 3 o 13 (H2.1 3 o 13)) 3 o 14 (H2.1 3 o 14)) 3 o 15 (H2.1 3 o 15)) 3 o 16 (H2.1 3 o 16)) := by
    refine ⟨_, ?_, rfl⟩
    unfold fX3_copyFrom
    rw [bnd_eq, bnd_eq, bnd_eq, bnd_eq, bnd_eq, bnd_eq, bnd_eq, bnd_eq, bnd_eq, gd_pos he]
    rfl
  obtain ⟨G, e1, e2⟩ := e
  refine ⟨G, e1, fun t x y => ?_, by rw [e2]; rfl⟩
  rw [e2]
  by_cases q : t = 3 ∧ x = o ∧ 0 ≤ y ∧ y ≤ 16
  · obtain ⟨q1, q2, q3, q4⟩ := q
    rw [if_pos ⟨q1, q2, q3, q4⟩]
    subst q1 q2
    have : y = 0 ∨ y = 1 ∨ y = 2 ∨ y = 3 ∨ y = 4 ∨ y = 5 ∨ y = 6 ∨ y = 7 ∨ y = 8 ∨ y = 9 ∨ y = 10 ∨ y = 11 ∨ y = 12 ∨ y = 13 ∨ y = 14 ∨ y = 15 ∨ y = 16 := by omega
    rcases this with rfl | rfl | rfl | rfl | rfl | rfl | rfl | rfl | rfl | rfl | rfl | rfl | rfl | rfl | rfl | rfl | rfl <;> simp [hS_1]
  · rw [if_neg q, hS_n _ (by omega), hS_n _ (by omega), hS_n _ (by omega), hS_n _ (by omega), hS_n _ (by omega), hS_n _ (by omega), hS_n _ (by omega), hS_n _ (by omega), hS_n _ (by omega), hS_n _ (by omega), hS_n _ (by omega), hS_n _ (by omega), hS_n _ (by omega), hS_n _ (by omega), hS_n _ (by omega), hS_n _ (by omega), hS_n _ (by omega)]
theorem ec_copyAs {H2 : hR} (h8 : H2.1 0 4 0 ≤ 8) : ∀ (k fuel : Nat) (i : Int) (H : hR), i + k = H2.1 0 4 0 → 0 ≤ i → k < fuel → ∃ H', fX2_copyFrom_b13 H2 fuel i H = fX2_copyFrom_b44 H2 fuel0 0 H' ∧ (∀ t x y : Int, H'.1 t x y = if t = 2 ∧ i ≤ x ∧ x < H2.1 0 4 0 ∧ 0 ≤ y ∧ y ≤ 11 then H2.1 2 x y else H.1 t x y) ∧ ∀ j : Int, H'.2 j = if i ≤ j ∧ j < H2.1 0 4 0 then H2.2 j else H.2 j
  | k, 0, _, _, _, _, h => by omega
  | 0, fuel + 1, i, H, h1, h2, _ => by
    refine ⟨H, ?_, fun t x y => (if_neg (by omega)).symm, fun j => (if_neg (by omega)).symm⟩
    rw [fX2_copyFrom_b13, gd_pos (by omega), if_pos (by omega)]
  | k + 1, fuel + 1, i, H, h1, h2, h3 => by
    obtain ⟨G, g1, g2, g3⟩ := ec_copyA H2 H i
    obtain ⟨H', z1, z2, z3⟩ := ec_copyAs h8 k fuel (i + 1) G (by omega) (by omega) (by omega)
    refine ⟨H', ?_, fun t x y => ?_, fun j => ?_⟩
    · rw [fX2_copyFrom_b13, gd_pos (by omega), if_neg (by omega), gd_pos (by omega), gd_pos (by omega), g1, cl_some, z1]
    · rw [z2, g2]
      by_cases q : t = 2 ∧ i + 1 ≤ x ∧ x < H2.1 0 4 0 ∧ 0 ≤ y ∧ y ≤ 11
      · rw [if_pos q, if_pos (by omega)]
      · rw [if_neg q]
        by_cases q2 : t = 2 ∧ x = i ∧ 0 ≤ y ∧ y ≤ 11
        · rw [if_pos q2, if_pos (by omega), q2.2.1]
        · rw [if_neg q2, if_neg (by omega)]
    · rw [z3, g3]
      by_cases q : i + 1 ≤ j ∧ j < H2.1 0 4 0
      · rw [if_pos q, if_pos (by omega)]
      · rw [if_neg q]
        by_cases q2 : j = i
        · rw [if_pos q2, if_pos (by omega), q2]
        · rw [if_neg q2, if_neg (by omega)]
noncomputable def copyEnd (H2 H : hR) : Option (Unit × hR) :=
  cl (fX5_copyFrom H2 H) fun r81 H81 =>
  bnd (hS H81 0 4 0 (H2.1 0 4 0)) fun H89 =>
  bnd (hS H89 0 5 0 (H2.1 0 5 0)) fun H97 =>
  bnd (hS H97 0 6 0 (H2.1 0 6 0)) fun H105 =>
  bnd (hS H105 0 7 0 (H2.1 0 7 0)) fun H113 =>
  bnd (hS H113 0 8 0 (H2.1 0 8 0)) fun H121 =>
  bnd (hS H121 0 9 0 (H2.1 0 9 0)) fun H129 =>
  bnd (hS H129 0 10 0 (H2.1 0 10 0)) fun H137 =>
  some ((), H137)
theorem ec_copyOs {H2 : hR} (h16 : H2.1 0 5 0 ≤ 16) (he : ∀ o : Int, 0 ≤ o ∧ o < H2.1 0 5 0 → H2.1 3 o 9 = 0 ∨ H2.1 3 o 9 = 1) : ∀ (k fuel : Nat) (i : Int) (H : hR), i + k = H2.1 0 5 0 → 0 ≤ i → k < fuel → ∃ H', fX2_copyFrom_b44 H2 fuel i H = copyEnd H2 H' ∧ (∀ t x y : Int, H'.1 t x y = if t = 3 ∧ i ≤ x ∧ x < H2.1 0 5 0 ∧ 0 ≤ y ∧ y ≤ 16 then H2.1 3 x y else H.1 t x y) ∧ H'.2 = H.2
  | k, 0, _, _, _, _, h => by omega
  | 0, fuel + 1, i, H, h1, h2, _ => by
    refine ⟨H, ?_, fun t x y => (if_neg (by omega)).symm, rfl⟩
    rw [fX2_copyFrom_b44, gd_pos (by omega), if_pos (by omega)]
    rfl
  | k + 1, fuel + 1, i, H, h1, h2, h3 => by
    obtain ⟨G, g1, g2, g3⟩ := ec_copyO H2 H i (he i (by omega))
    obtain ⟨H', z1, z2, z3⟩ := ec_copyOs h16 he k fuel (i + 1) G (by omega) (by omega) (by omega)
    refine ⟨H', ?_, fun t x y => ?_, z3.trans g3⟩
    · rw [fX2_copyFrom_b44, gd_pos (by omega), if_neg (by omega), gd_pos (by omega), gd_pos (by omega), g1, cl_some, z1]
    · rw [z2, g2]
      by_cases q : t = 3 ∧ i + 1 ≤ x ∧ x < H2.1 0 5 0 ∧ 0 ≤ y ∧ y ≤ 16
      · rw [if_pos q, if_pos (by omega)]
      · rw [if_neg q]
        by_cases q2 : t = 3 ∧ x = i ∧ 0 ≤ y ∧ y ≤ 16
        · rw [if_pos q2, if_pos (by omega), q2.2.1]
        · rw [if_neg q2, if_neg (by omega)]
theorem ec_copyW21 {H2 : hR} {R : Int} (hs : 0 ≤ H2.1 4 2 0 ∧ H2.1 4 2 0 ≤ H2.1 4 1 0 ∧ H2.1 4 2 0 ≤ R ∧ H2.1 4 1 0 ≤ 16384 ∧ R ≤ 16384) : ∀ (k fuel : Nat) (c : Int) (H : hR), c + k = 5 → 0 ≤ c → k < fuel → H.1 4 1 0 = R → ∃ H', fX5_copyFrom_b21 H2 fuel c H = some ((), H') ∧ (∀ t x y : Int, H'.1 t x y = if t = 5 ∧ c ≤ x ∧ x < 5 ∧ 0 ≤ y ∧ y < H2.1 4 2 0 then H2.1 5 x y else if t = 4 ∧ x = 2 ∧ y = 0 then H2.1 4 2 0 else H.1 t x y) ∧ H'.2 = H.2
  | k, 0, _, _, _, _, h, _ => by omega
  | 0, fuel + 1, c, H, h1, h2, _, h4 => by
    refine ⟨hS H 4 2 0 (H2.1 4 2 0), ?_, fun t x y => ?_, rfl⟩
    · rw [fX5_copyFrom_b21, gd_pos (by omega), if_pos (by omega), bnd_eq]
    · rw [hS_1, if_neg (show ¬ (t = 5 ∧ c ≤ x ∧ x < 5 ∧ 0 ≤ y ∧ y < H2.1 4 2 0) by omega)]
  | k + 1, fuel + 1, c, H, h1, h2, h3, h4 => by
    have eg : ∀ t x y : Int, (hCol H c (cpy (fun j => H2.1 5 c j) (fun j => H.1 5 c j) 0 0 (H2.1 4 2 0))).1 t x y = if t = 5 ∧ x = c then (if 0 ≤ y ∧ y < 0 + H2.1 4 2 0 then H2.1 5 c (0 + (y - 0)) else H.1 5 c y) else H.1 t x y := fun t x y => rfl
    obtain ⟨H', z1, z2, z3⟩ := ec_copyW21 hs k fuel (c + 1) (hCol H c (cpy (fun j => H2.1 5 c j) (fun j => H.1 5 c j) 0 0 (H2.1 4 2 0))) (by omega) (by omega) (by omega) (by rw [eg, if_neg (by omega)]; exact h4)
    refine ⟨H', ?_, fun t x y => ?_, z3⟩
    · rw [fX5_copyFrom_b21, gd_pos (by omega), if_neg (by omega), gd_pos (by omega), gd_pos (by omega), h4, gd_pos (by omega), bnd_eq, z1]
    · rw [z2, eg]
      by_cases q : t = 5 ∧ c + 1 ≤ x ∧ x < 5 ∧ 0 ≤ y ∧ y < H2.1 4 2 0
      · rw [if_pos q, if_pos (by omega)]
      · rw [if_neg q]
        by_cases q2 : t = 4 ∧ x = 2 ∧ y = 0
        · rw [if_pos q2, if_neg (by omega), if_pos q2]
        · rw [if_neg q2]
          by_cases q3 : t = 5 ∧ x = c
          · rw [if_pos q3]
            by_cases q4 : 0 ≤ y ∧ y < 0 + H2.1 4 2 0
            · rw [if_pos q4, if_pos (by omega), q3.2, show 0 + (y - 0) = y by omega]
            · rw [if_neg q4, if_neg (by omega), if_neg q2, q3.1, q3.2]
          · rw [if_neg q3, if_neg (by omega), if_neg q2]
theorem roomOK_lt {a b : Int} (ha : roomOK a) (hb : roomOK b) (h : a < b) : 2 * a ≤ b := by
  obtain ⟨i, hi, rfl⟩ := ha
  obtain ⟨j, hj, rfl⟩ := hb
  have : ∀ i : Nat, i ≤ 8 → ∀ j : Nat, j ≤ 8 → 64 * (2 : Int) ^ i < 64 * 2 ^ j → 2 * (64 * (2 : Int) ^ i) ≤ 64 * 2 ^ j := by decide
  exact this i hi j hj h
theorem ec_copy {H2 H : hR} (hk : okN H2) (he : ∀ o : Int, 0 ≤ o ∧ o < H2.1 0 5 0 → H2.1 3 o 9 = 0 ∨ H2.1 3 o 9 = 1) (hr : roomOK (H.1 4 1 0)) : ∃ H', fX2_copyFrom H2 H = some ((), H') ∧ copyR H2 H' := by
  unfold okN at hk
  obtain ⟨k1, k2, k3, k4, k5⟩ := hk
  have r1 := roomOK_rng hr
  have r2 := roomOK_rng k5
  obtain ⟨H8, a1, a2, a3⟩ : ∃ H8, fX1_copyFrom H2 H = some ((), H8) ∧ (∀ t x y : Int, H8.1 t x y = if t = 1 ∧ x = 2 ∧ y = 0 then H2.1 1 2 0 else if t = 1 ∧ x = 1 ∧ y = 0 then H2.1 1 1 0 else if t = 6 ∧ y = 0 then (if 0 ≤ x ∧ x < 0 + 18 then H2.1 6 (0 + (x - 0)) 0 else H.1 6 x 0) else H.1 t x y) ∧ H8.2 = H.2 := ⟨_, rfl, fun t x y => rfl, rfl⟩
  obtain ⟨HA, b1, b2, b3⟩ := ec_copyAs (H2 := H2) (by omega) (H2.1 0 4 0).toNat fuel0 0 H8 (by omega) (by omega) (by show _ < 1000000; omega)
  obtain ⟨HO, c1, c2, c3⟩ := ec_copyOs (H2 := H2) (by omega) he (H2.1 0 5 0).toNat fuel0 0 HA (by omega) (by omega) (by show _ < 1000000; omega)
  have eR : HO.1 4 1 0 = H.1 4 1 0 := by rw [c2, if_neg (by omega), b2, if_neg (by omega), a2, if_neg (by omega), if_neg (by omega), if_neg (by omega)]
  have wt : ∃ HW, fX5_copyFrom H2 HO = some ((), HW) ∧ (∀ t x y : Int, ¬ t = 5 → ¬ t = 4 → HW.1 t x y = HO.1 t x y) ∧ HW.2 = HO.2 ∧ HW.1 4 2 0 = H2.1 4 2 0 ∧ (∀ c i : Int, 0 ≤ c ∧ c < 5 → 0 ≤ i ∧ i < H2.1 4 2 0 → HW.1 5 c i = H2.1 5 c i) ∧ H2.1 4 2 0 ≤ HW.1 4 1 0 ∧ roomOK (HW.1 4 1 0) := by
    by_cases g : H2.1 4 2 0 ≤ H.1 4 1 0
    · obtain ⟨HW, w1, w2, w3⟩ := ec_copyW21 (H2 := H2) (R := H.1 4 1 0) (by omega) 5 fuel0 0 HO (by omega) (by omega) (by decide) eR
      refine ⟨HW, ?_, fun t x y q1 q2 => by rw [w2, if_neg (by omega), if_neg (by omega)], w3, by rw [w2, if_neg (by omega), if_pos ⟨rfl, rfl, rfl⟩], fun c i q1 q2 => by rw [w2, if_pos (by omega)], ?_, ?_⟩
      · unfold fX5_copyFrom
        rw [eR, gd_pos (by omega), if_pos g, w1]
      · rw [w2, if_neg (by omega), if_neg (by omega), eR]
        exact g
      · rw [w2, if_neg (by omega), if_neg (by omega), eR]
        exact hr
    · have hlt := roomOK_lt hr k5 (by omega)
      have g1 : (hGrow HO (H2.1 4 1 0)).1 4 1 0 = H2.1 4 1 0 := by simp [hGrow]
      obtain ⟨HW, w1, w2, w3⟩ := ec_copyW21 (H2 := H2) (R := H2.1 4 1 0) (by omega) 5 fuel0 0 (hGrow HO (H2.1 4 1 0)) (by omega) (by omega) (by decide) g1
      have em : fX5_makeRoom (H2.1 4 1 0) HO = some ((), hGrow HO (H2.1 4 1 0)) := by
        unfold fX5_makeRoom
        rw [eR, gd_pos (by omega), if_neg (by omega), gd_pos (by omega)]
      refine ⟨HW, ?_, fun t x y q1 q2 => ?_, w3, by rw [w2, if_neg (by omega), if_pos ⟨rfl, rfl, rfl⟩], fun c i q1 q2 => by rw [w2, if_pos (by omega)], ?_, ?_⟩
      · unfold fX5_copyFrom
        rw [eR, gd_pos (by omega), if_neg g, em, cl_some, w1]
      · rw [w2, if_neg (by omega), if_neg (by omega)]
        exact (if_neg (by omega)).trans (if_neg (by omega))
      · rw [w2, if_neg (by omega), if_neg (by omega), g1]
        exact k4
      · rw [w2, if_neg (by omega), if_neg (by omega), g1]
        exact k5
  obtain ⟨HW, w1, w2, w3, w4, w5, w6, w7⟩ := wt
  have ef : fX2_copyFrom H2 H = some ((), hS (hS (hS (hS (hS (hS (hS HW 0 4 0 (H2.1 0 4 0)) 0 5 0 (H2.1 0 5 0)) 0 6 0 (H2.1 0 6 0)) 0 7 0 (H2.1 0 7 0)) 0 8 0 (H2.1 0 8 0)) 0 9 0 (H2.1 0 9 0)) 0 10 0 (H2.1 0 10 0)) := by
    unfold fX2_copyFrom
    rw [a1, cl_some, b1, c1]
    unfold copyEnd
    rw [w1, cl_some]
    rfl
  refine ⟨_, ef, fun a ha => ?_, ⟨?_, ?_⟩, fun a ha => ?_, fun a ha => ⟨fun f hf => ?_, ?_⟩, fun o ho f hf => ?_, ?_, fun c i q1 q2 => ?_, ?_, ?_⟩
  · have : a = 4 ∨ a = 5 ∨ a = 6 ∨ a = 7 ∨ a = 8 ∨ a = 9 ∨ a = 10 := by omega
    rcases this with rfl | rfl | rfl | rfl | rfl | rfl | rfl <;> simp [hS_1]
  · rw [hS_n _ (by omega), hS_n _ (by omega), hS_n _ (by omega), hS_n _ (by omega), hS_n _ (by omega), hS_n _ (by omega), hS_n _ (by omega), w2 _ _ _ (by omega) (by omega), c2, if_neg (by omega), b2, if_neg (by omega), a2, if_neg (by omega), if_pos (by omega)]
  · rw [hS_n _ (by omega), hS_n _ (by omega), hS_n _ (by omega), hS_n _ (by omega), hS_n _ (by omega), hS_n _ (by omega), hS_n _ (by omega), w2 _ _ _ (by omega) (by omega), c2, if_neg (by omega), b2, if_neg (by omega), a2, if_pos (by omega)]
  · rw [hS_n _ (by omega), hS_n _ (by omega), hS_n _ (by omega), hS_n _ (by omega), hS_n _ (by omega), hS_n _ (by omega), hS_n _ (by omega), w2 _ _ _ (by omega) (by omega), c2, if_neg (by omega), b2, if_neg (by omega), a2, if_neg (by omega), if_neg (by omega), if_pos (by omega), if_pos (by omega), show 0 + (a - 0) = a by omega]
  · rw [hS_n _ (by omega), hS_n _ (by omega), hS_n _ (by omega), hS_n _ (by omega), hS_n _ (by omega), hS_n _ (by omega), hS_n _ (by omega), w2 _ _ _ (by omega) (by omega), c2, if_neg (by omega), b2, if_pos (by omega)]
  · rw [hS_2, hS_2, hS_2, hS_2, hS_2, hS_2, hS_2, w3, c3, b3, if_pos (by omega)]
  · rw [hS_n _ (by omega), hS_n _ (by omega), hS_n _ (by omega), hS_n _ (by omega), hS_n _ (by omega), hS_n _ (by omega), hS_n _ (by omega), w2 _ _ _ (by omega) (by omega), c2, if_pos (by omega)]
  · rw [hS_n _ (by omega), hS_n _ (by omega), hS_n _ (by omega), hS_n _ (by omega), hS_n _ (by omega), hS_n _ (by omega), hS_n _ (by omega), w4]
  · rw [hS_n _ (by omega), hS_n _ (by omega), hS_n _ (by omega), hS_n _ (by omega), hS_n _ (by omega), hS_n _ (by omega), hS_n _ (by omega)]
    exact w5 c i q1 q2
  · rw [hS_n _ (by omega), hS_n _ (by omega), hS_n _ (by omega), hS_n _ (by omega), hS_n _ (by omega), hS_n _ (by omega), hS_n _ (by omega)]
    exact w6
  · rw [hS_n _ (by omega), hS_n _ (by omega), hS_n _ (by omega), hS_n _ (by omega), hS_n _ (by omega), hS_n _ (by omega), hS_n _ (by omega)]
    exact w7
end
section
/-! ===== what a copy keeps ===== -/
def SimN (T : Int) (H : hR) (N W : Int → Int) (O : Int → UInt64) : Prop := Cor H N W O ∧ Tot H N ∧ Ok T H
theorem copyR.hol {H H' : hR} (c : copyR H H') {d : Int} (hd : 0 ≤ d ∧ d ≤ 1094) : holB H' d = holB H d := by
  unfold holB
  rw [c.2.2.1 _ (by omega)]
theorem SimN.copy {T : Int} {H H' : hR} {N W : Int → Int} {O : Int → UInt64} (h : SimN T H N W O) (c : copyR H H') : SimN T H' N W O := by
  have hh := fun {d} hd => c.hol (d := d) hd
  obtain ⟨c1, ⟨c2, c3⟩, -, c4, c5, c6, c7, c8, c9⟩ := c
  obtain ⟨⟨⟨g1, g2, g3, g4, g5, g6, g7, g8, g9, g10⟩, h2, h3, h4, h5⟩, ⟨t5, t6, t7⟩, k1, k2, k3, k4, k5, k6, k7, k8⟩ := h
  have k1' := k1
  unfold okN at k1'
  have e4 := c1 4 (by omega)
  have e5 := c1 5 (by omega)
  have e6 := c1 6 (by omega)
  have hw : ∀ i : Nat, (i : Int) < H.1 4 2 0 → 0 ≤ H.1 5 0 i ∧ H.1 5 0 i < H.1 0 5 0 := fun i hi => (k5.1 i (by omega)).1
  have hs : ∀ a : Int, ∀ n : Nat, (n : Int) ≤ H.1 4 2 0 → sumW H' a n = sumW H a n := fun a n => by
    induction n with
    | zero => intro _; rfl
    | succ n ih =>
      intro hn
      have := hw n (by omega)
      rw [sumW_s, sumW_s, ih (by omega), c7 0 n (by omega) (by omega), c7 1 n (by omega) (by omega), c5 _ this 0 (by omega)]
  have hc : ∀ o : Int, ∀ n : Nat, (n : Int) ≤ H.1 4 2 0 → cntW H' o n = cntW H o n := fun o n => by
    induction n with
    | zero => intro _; rfl
    | succ n ih =>
      intro hn
      rw [cntW_s, cntW_s, ih (by omega), c7 0 n (by omega) (by omega)]
  have hf : ∀ f : Int, 0 ≤ f ∧ f ≤ 16 → ∀ n : Nat, (n : Int) ≤ H.1 0 5 0 → sumF H' f n = sumF H f n := fun f hf n => by
    induction n with
    | zero => intro _; rfl
    | succ n ih =>
      intro hn
      rw [sumF_s, sumF_s, ih (by omega), c5 n (by omega) f hf]
  refine ⟨⟨⟨?_, ?_, ?_, ?_, ?_, ?_, ?_, ?_, ?_, ?_⟩, ⟨h2.1, fun d hd => by rw [hh hd]; exact h2.2 d hd⟩, fun a ha => ?_, fun o ho f hf => ?_, fun i hi => ?_⟩, ⟨?_, ?_, ?_⟩, ?_, ?_, fun a ha => ?_, fun o ho => ?_, ⟨fun i hi => ?_, fun i j hi hij hj => ?_⟩, ⟨fun a ha => ?_, fun o ho => ?_⟩, fun a ha f hf => ?_, fun a ha => ?_⟩
  · rw [e6]; exact g1
  · rw [e4]; exact g2
  · rw [e5]; exact g3
  · rw [c2]; exact g4
  · rw [c6]; exact g5
  · rw [c1 10 (by omega)]; exact g6
  · rw [c1 7 (by omega)]; exact g7
  · rw [c1 8 (by omega)]; exact g8
  · rw [c1 9 (by omega)]; exact g9
  · rw [c3]; exact g10
  · obtain ⟨q1, q2⟩ := h3 a ha
    obtain ⟨p1, p2⟩ := c4 a (by rw [g2] at ha; exact ha)
    exact ⟨fun f hf => by rw [p1 f (by omega)]; exact q1 f hf, by rw [p2]; exact q2⟩
  · rw [h4 o ho f hf]
    exact (ordN_fr (fun f' q => c5 o (by rw [g3] at ho; exact ho) f' (by omega)) hf).symm
  · rw [g5] at hi
    rw [h5 i (by rw [g5]; exact hi), c7 0 i (by omega) hi, c7 1 i (by omega) hi, c7 2 i (by omega) hi, c7 3 i (by omega) hi, c7 4 i (by omega) hi]
  · rw [e5, hf 12 (by omega) _ (by omega)]; exact t5
  · rw [e5, hf 13 (by omega) _ (by omega)]; exact t6
  · rw [e5, hf 14 (by omega) _ (by omega)]; exact t7
  · unfold okN
    rw [e4, e5, c6]
    exact ⟨k1'.1, k1'.2.1, k1'.2.2.1, c8, c9⟩
  · unfold okS at *
    rw [e6, c3, c1 7 (by omega), c1 8 (by omega), c1 9 (by omega), c1 10 (by omega)]
    exact k2
  · rw [e4] at ha
    obtain ⟨p1, p2⟩ := c4 a ha
    rw [p1 0 (by omega), p1 1 (by omega), p1 2 (by omega), e4]
    exact k3 a ha
  · rw [e5] at ho
    obtain ⟨w1, w2, w3⟩ := k4 o ho
    have p := fun f hf => c5 o ho f hf
    refine ⟨w1.fr (fun f q => p f (by omega)), ?_, ?_⟩
    · unfold okP at *
      rw [p 0 (by omega), p 1 (by omega), p 2 (by omega), p 8 (by omega), p 9 (by omega), p 10 (by omega), p 11 (by omega), e4]
      exact w2
    · unfold okC at *
      rw [p 12 (by omega), p 13 (by omega), p 14 (by omega), p 15 (by omega), p 16 (by omega)]
      exact w3
  · rw [c6] at hi
    rw [c7 0 i (by omega) hi, c7 1 i (by omega) hi, c7 2 i (by omega) hi, c7 3 i (by omega) hi, c7 4 i (by omega) hi, e5]
    exact k5.1 i hi
  · rw [c6] at hj
    rw [c7 0 i (by omega) (by omega), c7 3 i (by omega) (by omega), c7 0 j (by omega) (by omega), c7 3 j (by omega) (by omega)]
    exact k5.2 i j hi hij hj
  · rw [e4] at ha
    rw [(c4 a ha).1 11 (by omega), c6, hs a _ (by omega)]
    exact k6.1 a ha
  · rw [e5] at ho
    rw [c5 o ho 15 (by omega), c6, hc o _ (by omega)]
    exact k6.2 o ho
  · rw [e4] at ha
    rw [(c4 a ha).1 f (by omega), e6]
    exact k7 a ha f hf
  · rw [e4] at ha
    rw [(c4 a ha).1 3 (by omega), (c4 a ha).2, e6]
    exact k8 a ha
/-! what bounds the waiting list, with or without a weekday that was just set -/
def zP (P C : Int) (H : hR) : Int := 10 + 2 * H.1 1 1 0 + 5 * C - P - 7 * futH (holB H) (H.1 0 6 0)
def okXp (P C : Int) (H : hR) : Prop := H.1 1 1 0 ≤ C ∧ okX (H.1 0 6 0) (zP P C H) (uX C H) H ∧ okDue (H.1 0 6 0) H
def okXf (C : Int) (H : hR) : Prop := ∃ P : Int, ((P = 5 ∧ H.1 1 1 0 + 1 ≤ C) ∨ P = phW ((H.1 0 6 0 + H.1 1 2 0) % 7)) ∧ okXp P C H
theorem okXp.mono {P P' C C' : Int} {H : hR} (h : okXp P C H) (hP : P' + 5 * C ≤ P + 5 * C') (hC : C ≤ C') : okXp P' C' H := by
  obtain ⟨h1, h2, h3⟩ := h
  refine ⟨by omega, h2.mono ?_ ?_, h3⟩
  · unfold zP
    omega
  · unfold uX
    omega
theorem okXf.d {C : Int} {H : hR} (h : okXf C H) : okXd (C + 1) H := by
  obtain ⟨P, h1, h2⟩ := h
  have hp := phW_rng (w := (H.1 0 6 0 + H.1 1 2 0) % 7) (by omega)
  exact h2.mono (P' := phW ((H.1 0 6 0 + H.1 1 2 0) % 7)) (C' := C + 1) (by omega) (by omega)
theorem okXd.f {C : Int} {H : hR} (h : okXd C H) : okXf C H := ⟨_, Or.inr rfl, h⟩
theorem okXf.mono {C C' : Int} {H : hR} (h : okXf C H) (hC : C ≤ C') : okXf C' H := by
  obtain ⟨P, h1, h2⟩ := h
  exact ⟨P, by omega, h2.mono (by omega) hC⟩
theorem okXp.fr {P C : Int} {H H' : hR} (h : okXp P C H) (hw : okW H) (h1 : H'.1 1 1 0 = H.1 1 1 0) (h6 : H'.1 0 6 0 = H.1 0 6 0) (hh : futH (holB H') (H.1 0 6 0) = futH (holB H) (H.1 0 6 0)) (h2' : H'.1 4 2 0 = H.1 4 2 0) (h5' : H'.1 0 5 0 = H.1 0 5 0) (hc : ∀ c i : Int, 0 ≤ c ∧ c < 5 → 0 ≤ i ∧ i < H.1 4 2 0 → H'.1 5 c i = H.1 5 c i) (hf : ∀ o f : Int, 0 ≤ o ∧ o < H.1 0 5 0 → f = 3 ∨ f = 4 ∨ f = 6 ∨ f = 9 ∨ f = 10 ∨ f = 11 ∨ f = 16 → H'.1 3 o f = H.1 3 o f) : okXp P C H' := by
  obtain ⟨a1, a2, a3⟩ := h
  refine ⟨by omega, ?_, ?_⟩
  · have e1 : zP P C H' = zP P C H := by
      unfold zP
      rw [h1, h6, hh]
    have e2 : uX C H' = uX C H := by
      unfold uX
      rw [h1]
    rw [e1, e2, h6]
    obtain ⟨x1, x2, x3⟩ := a2
    refine ⟨fun i hi => ?_, fun o ho => ?_, fun i j a b c => ?_⟩
    · rw [h2'] at hi
      have ho := (hw.1 i hi).1
      rw [hc 0 i (by omega) hi, hc 2 i (by omega) hi, hc 4 i (by omega) hi, hf _ 3 ho (by omega), hf _ 16 ho (by omega), nomK_fr (H := H) (fun f q => hf _ f ho (by omega))]
      exact x1 i hi
    · rw [h5'] at ho
      rw [hf o 3 ho (by omega), hf o 9 ho (by omega), hf o 10 ho (by omega), hf o 11 ho (by omega), hf o 16 ho (by omega), nomK_fr (H := H) (fun f q => hf _ f ho (by omega))]
      exact x2 o ho
    · rw [h2'] at c
      have ho := (hw.1 i (by omega)).1
      rw [hc 0 i (by omega) (by omega), hc 0 j (by omega) (by omega), hc 2 i (by omega) (by omega), hc 2 j (by omega) (by omega), hc 4 i (by omega) (by omega), hf _ 3 ho (by omega)]
      exact x3 i j a b c
  · intro i hi
    rw [h2'] at hi
    rw [hc 3 i (by omega) hi, h6]
    exact a3 i hi
theorem copyR.fut {H H' : hR} (c : copyR H H') {t : Int} (ht : 0 ≤ t) : futH (holB H') t = futH (holB H) t := cntB_fr _ (fun j j1 j2 => c.hol (by omega))
theorem okXf.copy {C T : Int} {H H' : hR} (h : okXf C H) (hk : Ok T H) (c : copyR H H') : okXf C H' := by
  obtain ⟨P, h1, h2⟩ := h
  have ks := hk.2.1
  unfold okS at ks
  refine ⟨P, ?_, h2.fr hk.2.2.2.2.1 c.2.1.1 (c.1 6 (by omega)) (c.fut (by omega)) c.2.2.2.2.2.1 (c.1 5 (by omega)) (fun x i q1 q2 => c.2.2.2.2.2.2.1 x i q1 q2) (fun o f ho q => c.2.2.2.2.1 o ho f (by omega))⟩
  rw [c.1 6 (by omega), c.2.1.2, c.2.1.1]
  exact h1
theorem Ok.copyP {T : Int} {H : hR} (h : Ok T H) : okN H ∧ ∀ o : Int, 0 ≤ o ∧ o < H.1 0 5 0 → H.1 3 o 9 = 0 ∨ H.1 3 o 9 = 1 := by
  refine ⟨h.1, fun o ho => ?_⟩
  have := (h.2.2.2.1 o ho).2.1
  unfold okP at this
  omega
/-! ===== the reference's rows of kept states ===== -/
def rowN (k : Int) (m : mR) : Int → Int := fun j => m.1 2 (k * 377 + j)
def rowW (k : Int) (m : mR) : Int → Int := fun j => m.1 3 (k * 8400 + j)
def rowO (k : Int) (m : mR) : Int → UInt64 := fun j => m.2 1 (k * 8 + j)
theorem em_keeps66 {k n : Int} (hk : 0 ≤ k ∧ k ≤ 8) (hn : 0 ≤ n ∧ n ≤ 8400) : ∀ (d fuel : Nat) (i : Int) (m : mR), i + d = n → 0 ≤ i → d < fuel → m.1 0 4 = n → ∃ m', fX7_keeps_b66 fuel k i m = some ((), m') ∧ (∀ j : Int, m'.1 3 j = if k * 8400 + i ≤ j ∧ j < k * 8400 + n then m.1 1 (j - k * 8400) else m.1 3 j) ∧ (∀ t : Int, ¬ t = 3 → m'.1 t = m.1 t) ∧ m'.2 = m.2
  | d, 0, _, _, _, _, h, _ => by omega
  | 0, fuel + 1, i, m, h1, h2, _, h4 => by
    refine ⟨m, ?_, fun j => (if_neg (by omega)).symm, fun _ _ => rfl, rfl⟩
    rw [fX7_keeps_b66, gd_pos (by omega), gd_pos (by omega), if_pos (by omega)]
  | d + 1, fuel + 1, i, m, h1, h2, h3, h4 => by
    obtain ⟨m', q1, q2, q3, q4⟩ := em_keeps66 hk hn d fuel (i + 1) (mS m 3 (k * 8400 + i) (m.1 1 i)) (by omega) (by omega) (by omega) ((mS_n m (by omega)).trans h4)
    refine ⟨m', ?_, fun j => ?_, fun t ht => (q3 t ht).trans (mS_t m _ _ ht), q4⟩
    · rw [fX7_keeps_b66, gd_pos (by omega), gd_pos (by omega), if_neg (by omega), gd_pos (by omega), gd_pos (by omega), bnd_eq, q1]
    · rw [q2, mS_n m (by omega)]
      by_cases g : k * 8400 + (i + 1) ≤ j ∧ j < k * 8400 + n
      · rw [if_pos g, if_pos (by omega)]
      · rw [if_neg g]
        by_cases g2 : j = k * 8400 + i
        · subst g2
          rw [mS_p, if_pos (by omega), show k * 8400 + i - k * 8400 = i by omega]
        · rw [mS_n m (by omega), if_neg (by omega)]
theorem em_keeps35 {k : Int} (hk : 0 ≤ k ∧ k ≤ 8) : ∀ (d fuel : Nat) (i : Int) (m : mR), i + d = 8 → 0 ≤ i → d < fuel → ∃ m', fX7_keeps_b35 fuel k i m = fX7_keeps_b66 fuel0 k 0 m' ∧ (∀ j : Int, m'.2 1 j = if k * 8 + i ≤ j ∧ j < k * 8 + 8 then m.2 0 (j - k * 8) else m.2 1 j) ∧ m'.1 = m.1 ∧ ∀ t : Int, ¬ t = 1 → m'.2 t = m.2 t
  | d, 0, _, _, _, _, h => by omega
  | 0, fuel + 1, i, m, h1, h2, _ => by
    refine ⟨m, ?_, fun j => (if_neg (by omega)).symm, rfl, fun _ _ => rfl⟩
    rw [fX7_keeps_b35, gd_pos (by omega), if_pos (by omega)]
  | d + 1, fuel + 1, i, m, h1, h2, h3 => by
    obtain ⟨m', q1, q2, q3, q4⟩ := em_keeps35 hk d fuel (i + 1) (mD m 1 (k * 8 + i) (m.2 0 i)) (by omega) (by omega) (by omega)
    refine ⟨m', ?_, fun j => ?_, q3, fun t ht => (q4 t ht).trans (mD_t m _ _ ht)⟩
    · rw [fX7_keeps_b35, gd_pos (by omega), if_neg (by omega), gd_pos (by omega), gd_pos (by omega), bnd_eq, q1]
    · rw [q2, mD_2, mD_2]
      by_cases g : k * 8 + (i + 1) ≤ j ∧ j < k * 8 + 8
      · rw [if_pos g, if_pos (show k * 8 + i ≤ j ∧ j < k * 8 + 8 by omega), if_neg (by omega)]
      · rw [if_neg g]
        by_cases g2 : j = k * 8 + i
        · subst g2
          rw [if_pos ⟨rfl, rfl⟩, if_pos (by omega), show k * 8 + i - k * 8 = i by omega]
        · rw [if_neg (by omega), if_neg (by omega)]
theorem em_keeps2 {k : Int} (hk : 0 ≤ k ∧ k ≤ 8) : ∀ (d fuel : Nat) (i : Int) (m : mR), i + d = 377 → 0 ≤ i → d < fuel → ∃ m', fX7_keeps_b2 fuel k i m = fX7_keeps_b35 fuel0 k 0 m' ∧ (∀ j : Int, m'.1 2 j = if k * 377 + i ≤ j ∧ j < k * 377 + 377 then m.1 0 (j - k * 377) else m.1 2 j) ∧ (∀ t : Int, ¬ t = 2 → m'.1 t = m.1 t) ∧ m'.2 = m.2
  | d, 0, _, _, _, _, h => by omega
  | 0, fuel + 1, i, m, h1, h2, _ => by
    refine ⟨m, ?_, fun j => (if_neg (by omega)).symm, fun _ _ => rfl, rfl⟩
    rw [fX7_keeps_b2, gd_pos (by omega), if_pos (by omega)]
  | d + 1, fuel + 1, i, m, h1, h2, h3 => by
    obtain ⟨m', q1, q2, q3, q4⟩ := em_keeps2 hk d fuel (i + 1) (mS m 2 (k * 377 + i) (m.1 0 i)) (by omega) (by omega) (by omega)
    refine ⟨m', ?_, fun j => ?_, fun t ht => (q3 t ht).trans (mS_t m _ _ ht), q4⟩
    · rw [fX7_keeps_b2, gd_pos (by omega), if_neg (by omega), gd_pos (by omega), gd_pos (by omega), bnd_eq, q1]
    · rw [q2, mS_n m (by omega)]
      by_cases g : k * 377 + (i + 1) ≤ j ∧ j < k * 377 + 377
      · rw [if_pos g, if_pos (by omega)]
      · rw [if_neg g]
        by_cases g2 : j = k * 377 + i
        · subst g2
          rw [mS_p, if_pos (by omega), show k * 377 + i - k * 377 = i by omega]
        · rw [mS_n m (by omega), if_neg (by omega)]
/-- the rows of copy k are written; all else stays -/
def keptAt (k : Int) (m m' : mR) : Prop := (∀ t : Int, ¬ t = 2 → ¬ t = 3 → m'.1 t = m.1 t) ∧ (∀ t : Int, ¬ t = 1 → m'.2 t = m.2 t) ∧ (∀ j : Int, ¬ (k * 377 ≤ j ∧ j < k * 377 + 377) → m'.1 2 j = m.1 2 j) ∧ (∀ j : Int, ¬ (k * 8400 ≤ j ∧ j < k * 8400 + 8400) → m'.1 3 j = m.1 3 j) ∧ (∀ j : Int, ¬ (k * 8 ≤ j ∧ j < k * 8 + 8) → m'.2 1 j = m.2 1 j) ∧ (∀ j : Int, 0 ≤ j ∧ j < 377 → rowN k m' j = m.1 0 j) ∧ (∀ j : Int, 0 ≤ j ∧ j < 8 → rowO k m' j = m.2 0 j) ∧ ∀ j : Int, 0 ≤ j ∧ j < m.1 0 4 → rowW k m' j = m.1 1 j
theorem em_keeps {k : Int} {m : mR} (hk : 0 ≤ k ∧ k ≤ 8) (hn : 0 ≤ m.1 0 4 ∧ m.1 0 4 ≤ 8400) : ∃ m', fX7_keeps k m = some ((), m') ∧ keptAt k m m' := by
  obtain ⟨m1, a1, a2, a3, a4⟩ := em_keeps2 hk 377 fuel0 0 m (by omega) (by omega) (by decide)
  obtain ⟨m2, b1, b2, b3, b4⟩ := em_keeps35 hk 8 fuel0 0 m1 (by omega) (by omega) (by decide)
  have e4 : m2.1 0 4 = m.1 0 4 := by rw [b3, a3 0 (by omega)]
  obtain ⟨m3, c1, c2, c3, c4⟩ := em_keeps66 hk hn (m.1 0 4).toNat fuel0 0 m2 (by omega) (by omega) (by show _ < 1000000; omega) e4
  refine ⟨m3, ?_, ⟨fun t h2 h3 => ?_, fun t h1 => ?_, fun j hj => ?_, fun j hj => ?_, fun j hj => ?_, fun j hj => ?_, fun j hj => ?_, fun j hj => ?_⟩⟩
  · unfold fX7_keeps
    rw [a1, b1, c1]
  · rw [c3 t h3, b3, a3 t h2]
  · rw [c4, b4 t h1, a4]
  · rw [c3 2 (by omega), b3, a2, if_neg (by omega)]
  · rw [c2, if_neg (by omega), b3, a3 3 (by omega)]
  · rw [c4, b2, if_neg (by omega), a4]
  · unfold rowN
    rw [c3 2 (by omega), b3, a2, if_pos (by omega), show k * 377 + j - k * 377 = j by omega]
  · unfold rowO
    rw [c4, b2, if_pos (by omega), a4, show k * 8 + j - k * 8 = j by omega]
  · unfold rowW
    rw [c2, if_pos (by omega), b3, a3 1 (by omega), show k * 8400 + j - k * 8400 = j by omega]
theorem em_brings66 {k n : Int} (hk : 0 ≤ k ∧ k ≤ 8) (hn : 0 ≤ n ∧ n ≤ 8400) : ∀ (d fuel : Nat) (i : Int) (m : mR), i + d = n → 0 ≤ i → d < fuel → m.1 0 4 = n → ∃ m', fX7_brings_b66 fuel k i m = some ((), m') ∧ (∀ j : Int, m'.1 1 j = if i ≤ j ∧ j < n then m.1 3 (k * 8400 + j) else m.1 1 j) ∧ (∀ t : Int, ¬ t = 1 → m'.1 t = m.1 t) ∧ m'.2 = m.2
  | d, 0, _, _, _, _, h, _ => by omega
  | 0, fuel + 1, i, m, h1, h2, _, h4 => by
    refine ⟨m, ?_, fun j => (if_neg (by omega)).symm, fun _ _ => rfl, rfl⟩
    rw [fX7_brings_b66, gd_pos (by omega), gd_pos (by omega), if_pos (by omega)]
  | d + 1, fuel + 1, i, m, h1, h2, h3, h4 => by
    obtain ⟨m', q1, q2, q3, q4⟩ := em_brings66 hk hn d fuel (i + 1) (mS m 1 i (m.1 3 (k * 8400 + i))) (by omega) (by omega) (by omega) ((mS_n m (by omega)).trans h4)
    refine ⟨m', ?_, fun j => ?_, fun t ht => (q3 t ht).trans (mS_t m _ _ ht), q4⟩
    · rw [fX7_brings_b66, gd_pos (by omega), gd_pos (by omega), if_neg (by omega), gd_pos (by omega), gd_pos (by omega), bnd_eq, q1]
    · rw [q2, mS_n m (by omega)]
      by_cases g : i + 1 ≤ j ∧ j < n
      · rw [if_pos g, if_pos (by omega)]
      · rw [if_neg g]
        by_cases g2 : j = i
        · subst g2
          rw [mS_p, if_pos (by omega)]
        · rw [mS_n m (by omega), if_neg (by omega)]
theorem em_brings35 {k : Int} (hk : 0 ≤ k ∧ k ≤ 8) : ∀ (d fuel : Nat) (i : Int) (m : mR), i + d = 8 → 0 ≤ i → d < fuel → ∃ m', fX7_brings_b35 fuel k i m = fX7_brings_b66 fuel0 k 0 m' ∧ (∀ j : Int, m'.2 0 j = if i ≤ j ∧ j < 8 then m.2 1 (k * 8 + j) else m.2 0 j) ∧ m'.1 = m.1 ∧ ∀ t : Int, ¬ t = 0 → m'.2 t = m.2 t
  | d, 0, _, _, _, _, h => by omega
  | 0, fuel + 1, i, m, h1, h2, _ => by
    refine ⟨m, ?_, fun j => (if_neg (by omega)).symm, rfl, fun _ _ => rfl⟩
    rw [fX7_brings_b35, gd_pos (by omega), if_pos (by omega)]
  | d + 1, fuel + 1, i, m, h1, h2, h3 => by
    obtain ⟨m', q1, q2, q3, q4⟩ := em_brings35 hk d fuel (i + 1) (mD m 0 i (m.2 1 (k * 8 + i))) (by omega) (by omega) (by omega)
    refine ⟨m', ?_, fun j => ?_, q3, fun t ht => (q4 t ht).trans (mD_t m _ _ ht)⟩
    · rw [fX7_brings_b35, gd_pos (by omega), if_neg (by omega), gd_pos (by omega), gd_pos (by omega), bnd_eq, q1]
    · rw [q2, mD_2, mD_2]
      by_cases g : i + 1 ≤ j ∧ j < 8
      · rw [if_pos g, if_pos (show i ≤ j ∧ j < 8 by omega), if_neg (by omega)]
      · rw [if_neg g]
        by_cases g2 : j = i
        · subst g2
          rw [if_pos ⟨rfl, rfl⟩, if_pos (by omega)]
        · rw [if_neg (by omega), if_neg (by omega)]
theorem em_brings2 {k : Int} (hk : 0 ≤ k ∧ k ≤ 8) : ∀ (d fuel : Nat) (i : Int) (m : mR), i + d = 377 → 0 ≤ i → d < fuel → ∃ m', fX7_brings_b2 fuel k i m = fX7_brings_b35 fuel0 k 0 m' ∧ (∀ j : Int, m'.1 0 j = if i ≤ j ∧ j < 377 then m.1 2 (k * 377 + j) else m.1 0 j) ∧ (∀ t : Int, ¬ t = 0 → m'.1 t = m.1 t) ∧ m'.2 = m.2
  | d, 0, _, _, _, _, h => by omega
  | 0, fuel + 1, i, m, h1, h2, _ => by
    refine ⟨m, ?_, fun j => (if_neg (by omega)).symm, fun _ _ => rfl, rfl⟩
    rw [fX7_brings_b2, gd_pos (by omega), if_pos (by omega)]
  | d + 1, fuel + 1, i, m, h1, h2, h3 => by
    obtain ⟨m', q1, q2, q3, q4⟩ := em_brings2 hk d fuel (i + 1) (mS m 0 i (m.1 2 (k * 377 + i))) (by omega) (by omega) (by omega)
    refine ⟨m', ?_, fun j => ?_, fun t ht => (q3 t ht).trans (mS_t m _ _ ht), q4⟩
    · rw [fX7_brings_b2, gd_pos (by omega), if_neg (by omega), gd_pos (by omega), gd_pos (by omega), bnd_eq, q1]
    · rw [q2, mS_n m (by omega)]
      by_cases g : i + 1 ≤ j ∧ j < 377
      · rw [if_pos g, if_pos (by omega)]
      · rw [if_neg g]
        by_cases g2 : j = i
        · subst g2
          rw [mS_p, if_pos (by omega)]
        · rw [mS_n m (by omega), if_neg (by omega)]
/-- copy k is back: the present is its rows -/
def backFrom (k : Int) (m m' : mR) : Prop := (∀ t : Int, ¬ t = 0 → ¬ t = 1 → m'.1 t = m.1 t) ∧ (∀ t : Int, ¬ t = 0 → m'.2 t = m.2 t) ∧ (∀ j : Int, 0 ≤ j ∧ j < 377 → m'.1 0 j = rowN k m j) ∧ (∀ j : Int, 0 ≤ j ∧ j < 8 → m'.2 0 j = rowO k m j) ∧ ∀ j : Int, 0 ≤ j ∧ j < rowN k m 4 → m'.1 1 j = rowW k m j
theorem em_brings {k : Int} {m : mR} (hk : 0 ≤ k ∧ k ≤ 8) (hn : 0 ≤ rowN k m 4 ∧ rowN k m 4 ≤ 8400) : ∃ m', fX7_brings k m = some ((), m') ∧ backFrom k m m' := by
  obtain ⟨m1, a1, a2, a3, a4⟩ := em_brings2 hk 377 fuel0 0 m (by omega) (by omega) (by decide)
  obtain ⟨m2, b1, b2, b3, b4⟩ := em_brings35 hk 8 fuel0 0 m1 (by omega) (by omega) (by decide)
  have e4 : m2.1 0 4 = rowN k m 4 := by rw [b3, a2, if_pos (by omega)]; rfl
  obtain ⟨m3, c1, c2, c3, c4⟩ := em_brings66 hk hn (rowN k m 4).toNat fuel0 0 m2 (by omega) (by omega) (by show _ < 1000000; omega) e4
  refine ⟨m3, ?_, ⟨fun t h0 h1 => ?_, fun t h0 => ?_, fun j hj => ?_, fun j hj => ?_, fun j hj => ?_⟩⟩
  · unfold fX7_brings
    rw [a1, b1, c1]
  · rw [c3 t h1, b3, a3 t h0]
  · rw [c4, b4 t h0, a4]
  · rw [c3 0 (by omega), b3, a2, if_pos (by omega)]
    rfl
  · rw [c4, b2, if_pos (by omega), a4]
    rfl
  · rw [c2, if_pos (by omega), b3, a3 3 (by omega)]
    rfl
/-- only these cells are read -/
theorem SimN.cells {T : Int} {H : hR} {N N' W W' : Int → Int} {O O' : Int → UInt64} (h : SimN T H N W O) (hN : ∀ j : Int, 0 ≤ j ∧ j < 377 → N' j = N j) (hW : ∀ j : Int, 0 ≤ j ∧ j < N 4 → W' j = W j) (hO : ∀ j : Int, 0 ≤ j ∧ j < 8 → O' j = O j) : SimN T H N' W' O' := by
  obtain ⟨⟨h1, h2, h3, h4, h5⟩, ht, hk⟩ := h
  have k1 := hk.1
  unfold okN at k1
  have g2 := h1.2.1
  have g3 := h1.2.2.1
  refine ⟨⟨h1.fr (fun _ _ _ => rfl) (fun k q => hN k (by omega)), h2.fr (fun _ => rfl) (fun k q => hN k (by omega)), fun a ha => ?_, h4.fr (fun _ _ _ => rfl) (fun k q => hN k (by omega)) (by omega), ?_⟩, ht.fr rfl (fun _ _ _ => rfl) (fun k q => hN k (by omega)), hk⟩
  · rw [hN 1 (by omega)] at ha
    obtain ⟨q1, q2⟩ := h3 a ha
    exact ⟨fun f hf => by rw [hN _ (by omega)]; exact q1 f hf, by rw [hO a (by omega)]; exact q2⟩
  · rw [hN 4 (by omega)]
    exact h5.fr (fun _ _ _ => rfl) hW (Int.le_refl _)
end
section
/-! ===== what if: forecasts in step ===== -/
def fcM (m m' : mR) : Prop := (∀ t : Int, t = 4 ∨ t = 5 → m'.1 t = m.1 t) ∧ (∀ k : Int, ¬ k = 8 → m'.1 6 k = m.1 6 k) ∧ (∀ j : Int, j < 3016 → m'.1 2 j = m.1 2 j) ∧ (∀ j : Int, j < 67200 → m'.1 3 j = m.1 3 j) ∧ ∀ j : Int, j < 64 → m'.2 1 j = m.2 1 j
theorem fcM.rf (m : mR) : fcM m m := ⟨fun _ _ => rfl, fun _ _ => rfl, fun _ _ => rfl, fun _ _ => rfl, fun _ _ => rfl⟩
theorem fcM.tr {m m1 m2 : mR} (h : fcM m m1) (g : fcM m1 m2) : fcM m m2 :=
  ⟨fun t q => (g.1 t q).trans (h.1 t q), fun k q => (g.2.1 k q).trans (h.2.1 k q), fun j q => (g.2.2.1 j q).trans (h.2.2.1 j q), fun j q => (g.2.2.2.1 j q).trans (h.2.2.2.1 j q), fun j q => (g.2.2.2.2 j q).trans (h.2.2.2.2 j q)⟩
def fcR (T : Int) (c c' : cR) (m m' : mR) : Prop := (∀ k : Int, ¬ k = 1 → c'.1 k = c.1 k) ∧ c'.2 = c.2 ∧ roomOK ((c'.1 1).1 4 1 0) ∧ Sim T (c.1 0) m' ∧ fcM m m'
def fcOK (T : Int) (c : cR) (m : mR) (a : Option (Int × cR)) (b : Option (Int × mR)) : Prop := ∃ r c' m', a = some (r, c') ∧ b = some (r, m') ∧ wR64 r ∧ fcR T c c' m m'
theorem fcErr {T : Int} {c : cR} {m : mR} {a : Option (Int × cR)} {b : Option (Int × mR)} {r : Int} (h : Sim T (c.1 0) m) (hr : roomOK ((c.1 1).1 4 1 0)) (hw : wR64 r) (ha : a = some (r, c)) (hb : b = some (r, m)) : fcOK T c m a b := ⟨r, c, m, ha, hb, hw, fun _ _ => rfl, rfl, hr, h, fcM.rf m⟩
theorem Sim.kept {T k : Int} {H : hR} {m m1 : mR} (h : Sim T H m) (g : keptAt k m m1) : Sim T H m1 := by
  have e0 := g.1 0 (by omega) (by omega)
  have e1 := g.1 1 (by omega) (by omega)
  have e2 := g.2.1 0 (by omega)
  unfold Sim CorM at *
  rw [e0, e1, e2]
  exact h
theorem Sim.copy {T : Int} {H H' : hR} {m : mR} (h : Sim T H m) (c : copyR H H') : Sim T H' m := SimN.copy (N := m.1 0) (W := m.1 1) (O := m.2 0) h c
/-- the trial's beginning on both sides -/
theorem fc_start {T C : Int} {c : cR} {m : mR} (h : Sim T (c.1 0) m) (hX : okXf C (c.1 0)) (hr : roomOK ((c.1 1).1 4 1 0)) : ∃ H1 m1, fX2_copyFrom (c.1 0) (c.1 1) = some ((), H1) ∧ fX7_keeps 8 m = some ((), m1) ∧ keptAt 8 m m1 ∧ copyR (c.1 0) H1 ∧ Sim T H1 m1 ∧ okXd (C + 1) H1 := by
  obtain ⟨k1, k2⟩ := h.2.2.copyP
  have k1' := k1
  unfold okN at k1'
  have e4 := h.1.1.2.2.2.2.1
  obtain ⟨H1, a1, a2⟩ := ec_copy k1 k2 hr
  obtain ⟨m1, b1, b2⟩ := em_keeps (k := 8) (m := m) (by omega) (by omega)
  exact ⟨H1, m1, a1, b1, b2, a2, (h.kept b2).copy a2, (hX.copy h.2.2 a2).d⟩
theorem fc_back {T : Int} {H : hR} {m m1 m2 : mR} (h : Sim T H m) (k1 : keptAt 8 m m1) (r : rows6 m1 m2) : ∃ m3, fX7_brings 8 m2 = some ((), m3) ∧ Sim T H m3 ∧ fcM m m3 := by
  have k1' := h.2.2.1
  unfold okN at k1'
  have e4 := h.1.1.2.2.2.2.1
  obtain ⟨a1, a2, a3, a4, a5, a6, a7, a8⟩ := k1
  obtain ⟨r1, r2, r3⟩ := r
  have n1 : ∀ j : Int, rowN 8 m2 j = rowN 8 m1 j := fun j => by
    unfold rowN
    rw [r1 2 (by omega) (by omega) (by omega)]
  have n2 : ∀ j : Int, rowW 8 m2 j = rowW 8 m1 j := fun j => by
    unfold rowW
    rw [r1 3 (by omega) (by omega) (by omega)]
  have n3 : ∀ j : Int, rowO 8 m2 j = rowO 8 m1 j := fun j => by
    unfold rowO
    rw [r2]
  have n4 : rowN 8 m2 4 = m.1 0 4 := by rw [n1, a6 4 (by omega)]
  obtain ⟨m3, b1, b2, b3, b4, b5, b6⟩ := em_brings (k := 8) (m := m2) (by omega) (by rw [n4]; omega)
  refine ⟨m3, b1, SimN.cells (N := m.1 0) (W := m.1 1) (O := m.2 0) h (fun j hj => by rw [b4 j hj, n1, a6 j hj]) (fun j hj => by rw [b6 j (by rw [n4]; exact hj), n2, a8 j hj]) (fun j hj => by rw [b5 j hj, n3, a7 j hj]), ⟨fun t q => ?_, fun k q => ?_, fun j q => ?_, fun j q => ?_, fun j q => ?_⟩⟩
  · rw [b2 t (by omega) (by omega), r1 t (by omega) (by omega) (by omega), a1 t (by omega) (by omega)]
  · rw [b2 6 (by omega) (by omega), r3 k q, a1 6 (by omega) (by omega)]
  · rw [b2 2 (by omega) (by omega), r1 2 (by omega) (by omega) (by omega), a3 j (by omega)]
  · rw [b2 3 (by omega) (by omega), r1 3 (by omega) (by omega) (by omega), a4 j (by omega)]
  · rw [b3 1 (by omega), r2, a5 j (by omega)]
theorem cH_1 (c : cR) (H : hR) : (cH c 1 H).1 1 = H := by
  show up1 c.1 1 H 1 = H
  exact up1_p _ _ _
theorem cH_n (c : cR) (H : hR) {k : Int} (h : ¬ k = 1) : (cH c 1 H).1 k = c.1 k := up1_n _ _ h
theorem fc_room {T : Int} {H : hR} (h : Ok T H) : roomOK (H.1 4 1 0) := by
  have := h.1
  unfold okN at this
  exact this.2.2.2.2
theorem ls_balanceIn {T C a n : Int} {c : cR} {m : mR} (hT : 0 ≤ T ∧ T ≤ 100000) (hC : 0 ≤ C ∧ C + 1 + (c.1 0).1 0 5 0 ≤ 512) (h : Sim T (c.1 0) m) (hX : okXf C (c.1 0)) (hr : roomOK ((c.1 1).1 4 1 0)) (ha : wR a) (hn : wR n) : fcOK T c m (fX6_balanceIn a n c) (fX7_balanceIn a n m) := by
  have k1 := h.2.2.1
  unfold okN at k1
  have q2 := h.1.1.2.1
  by_cases g1 : 0 ≤ a ∧ a < (c.1 0).1 0 4 0
  · have hA1 : fX2_hasAccount a (c.1 0) = some 1 := by rw [ev_hasA (by omega), bI_t (decide_eq_true g1)]
    have hA2 : fX7_isAccount a m = some 1 := by rw [ev_isA (by omega), q2, bI_t (decide_eq_true g1)]
    by_cases g2 : 1 ≤ n ∧ n ≤ 400
    · obtain ⟨H1, m1, s1, s2, s3, s4, s5, s6⟩ := fc_start h hX hr
      have e5 : H1.1 0 5 0 = (c.1 0).1 0 5 0 := s4.1 5 (by omega)
      have e4 : H1.1 0 4 0 = (c.1 0).1 0 4 0 := s4.1 4 (by omega)
      obtain ⟨H2, m2, d1, d2, d3, d4, d5, d6, d7⟩ := ls_days (n := n) hT (C := C + 1) (by omega) (by omega) s5 s6
      obtain ⟨m3, b1, b2, b3⟩ := fc_back h s3 d7
      have ce := d3.1.at (a := a) (f := 3) (by omega) (by omega)
      have hm := d3.2.2.2.2.2.2.2.2.1 a (by omega) 3 (by omega)
      have ht := d3.2.2.2.1.1
      unfold monB at hm
      refine ⟨H2.1 2 a 3, cH (cH c 1 H1) 1 H2, m3, ?_, ?_, by omega, fun k hk => by rw [cH_n _ _ hk, cH_n _ _ hk], rfl, by rw [cH_1]; exact fc_room d3.2.2, b2, b3⟩
      · unfold fX6_balanceIn
        rw [hA1, cr_some, gd_pos (by omega), if_neg (by omega), ev_btT (by omega), cr_some, gd_pos (by omega), if_neg (by omega), s1, cl_some, bnd_eq, cH_1, d1, cl_some, bnd_eq, gd_pos (by omega), cH_1]
      · unfold fX7_balanceIn
        rw [hA2, cr_some, gd_pos (by omega), if_neg (by omega), gd_pos (by omega), ev_inT (by omega), cr_some, gd_pos (by omega), if_neg (by omega), s2, cl_some, d2, cl_some, ev_money (by omega), cr_some, b1, cl_some, Int.add_zero, ce]
    · refine fcErr (r := -2) h hr (by omega) ?_ ?_
      · unfold fX6_balanceIn
        rw [hA1, cr_some, gd_pos (by omega), if_neg (by omega), ev_btF (by omega), cr_some, gd_pos (by omega), if_pos rfl]
      · unfold fX7_balanceIn
        rw [hA2, cr_some, gd_pos (by omega), if_neg (by omega), gd_pos (by omega), ev_inF (by omega), cr_some, gd_pos (by omega), if_pos rfl]
  · have hA1 : fX2_hasAccount a (c.1 0) = some 0 := by rw [ev_hasA (by omega), bI_f (decide_eq_false g1)]
    have hA2 : fX7_isAccount a m = some 0 := by rw [ev_isA (by omega), q2, bI_f (decide_eq_false g1)]
    refine fcErr (r := -1) h hr (by omega) ?_ ?_
    · unfold fX6_balanceIn
      rw [hA1, cr_some, gd_pos (by omega), if_pos rfl]
    · unfold fX7_balanceIn
      rw [hA2, cr_some, gd_pos (by omega), if_pos rfl]
theorem ls_firstFailure {T C a : Int} {c : cR} {m : mR} (hT : 0 ≤ T ∧ T ≤ 100000) (hC : 0 ≤ C ∧ C + 1 + (c.1 0).1 0 5 0 ≤ 512) (h : Sim T (c.1 0) m) (hX : okXf C (c.1 0)) (hr : roomOK ((c.1 1).1 4 1 0)) (ha : wR a) : fcOK T c m (fX6_firstFailure a c) (fX7_firstFailure a m) := by
  have k1 := h.2.2.1
  unfold okN at k1
  have q2 := h.1.1.2.1
  obtain ⟨H1, m1, s1, s2, s3, s4, s5, s6⟩ := fc_start h hX hr
  have e5 : H1.1 0 5 0 = (c.1 0).1 0 5 0 := s4.1 5 (by omega)
  have key : ∀ w w' : Int, (∀ f : Int, 0 ≤ f ∧ f ≤ 255 → (andI f w = 0 ↔ andI f w' = 0)) → fcOK T c m (fX6_firstFailure_b50 400 w (cH c 1 H1)) (fX7_firstFailure_b38 w' m1) := by
    intro w w' hw
    obtain ⟨r, H2, m2, d1, d2, d3, d4, d5⟩ := ls_fails (n := 400) hT (C := C + 1) (by omega) (by omega) hw s5 s6
    obtain ⟨m3, b1, b2, b3⟩ := fc_back h s3 d5
    refine ⟨r, cH (cH c 1 H1) 1 H2, m3, ?_, ?_, by omega, fun k hk => by rw [cH_n _ _ hk, cH_n _ _ hk], rfl, by rw [cH_1]; exact fc_room d4.2.2, b2, b3⟩
    · unfold fX6_firstFailure_b50
      rw [cH_1, d1, cl_some, bnd_eq]
    · unfold fX7_firstFailure_b38
      rw [d2, cl_some, b1, cl_some]
  have ec : fX6_firstFailure_b19 a c = if a = -6 then fX6_firstFailure_b50 400 (-1) (cH c 1 H1) else fX6_firstFailure_b50 400 (shlI 1 a) (cH c 1 H1) := by
    unfold fX6_firstFailure_b19
    rw [s1, cl_some, bnd_eq, gd_pos ha]
  have em : fX7_firstFailure_b16 a m = if a = -6 then fX7_firstFailure_b38 255 m1 else fX7_firstFailure_b38 (shlI 1 a) m1 := by
    unfold fX7_firstFailure_b16
    rw [s2, cl_some, gd_pos ha]
  unfold fX6_firstFailure fX7_firstFailure
  rw [gd_pos ha, gd_pos ha, ec, em]
  by_cases g0 : a = -6
  · rw [if_pos g0, if_pos g0, if_pos g0, if_pos g0]
    exact key _ _ (fun f hf => watch_all hf)
  · rw [if_neg g0, if_neg g0, if_neg g0, if_neg g0]
    by_cases g1 : 0 ≤ a ∧ a < (c.1 0).1 0 4 0
    · rw [ev_hasA (by omega), ev_isA (by omega), q2, bI_t (decide_eq_true g1), cr_some, cr_some, gd_pos (by omega), gd_pos (by omega), if_neg (by omega), if_neg (by omega)]
      exact key _ _ (fun f hf => Iff.rfl)
    · rw [ev_hasA (by omega), ev_isA (by omega), q2, bI_f (decide_eq_false g1), cr_some, cr_some, gd_pos (by omega), gd_pos (by omega), if_pos rfl, if_pos rfl]
      exact fcErr (r := -1) h hr (by omega) rfl rfl
theorem Sim.plus {T a v : Int} {H : hR} {m : mR} (h : Sim T H m) (ha : 0 ≤ a ∧ a < H.1 0 4 0) (hv : 0 ≤ v ∧ v ≤ 100000) : Sim (T + 1) (hS H 2 a 3 (H.1 2 a 3 + v)) (mS m 0 (33 + 11 * a + 3) (H.1 2 a 3 + v)) := by
  have k1 := h.2.2.1
  have k1' := k1
  unfold okN at k1'
  obtain ⟨-, -, -, -, -, -, k7, k8⟩ := h.2.2
  refine ⟨h.1.acc k1 (by omega) (by omega), h.2.1.fr (hS_n H (by omega)) (fun o f q => hS_n H (by omega)) (fun k q => mS_n m (by omega)), h.2.2.money (fun t x y q => hS_n H (by omega)) (fun x hx f hf => ?_) (fun x hx => ?_)⟩
  · rw [hS_n H (by omega)] at hx
    have := k7 x hx f hf
    rw [hS_n H (show ¬ ((0 : Int) = 2 ∧ (6 : Int) = a ∧ (0 : Int) = 3) by omega), hS_1]
    unfold monB at *
    by_cases q : x = a ∧ f = 3
    · obtain ⟨q1, q2⟩ := q
      subst q1 q2
      rw [if_pos ⟨rfl, rfl, rfl⟩]
      omega
    · rw [if_neg (by omega)]
      omega
  · rw [hS_n H (by omega)] at hx
    obtain ⟨n, n1, n2, n3⟩ := k8 x hx
    rw [hS_n H (show ¬ ((0 : Int) = 2 ∧ (6 : Int) = a ∧ (0 : Int) = 3) by omega), hS_1]
    refine ⟨n, n1, n2, ?_⟩
    by_cases q : x = a
    · subst q
      rw [if_pos ⟨rfl, rfl, rfl⟩]
      omega
    · rw [if_neg (by omega)]
      exact n3
theorem okXp.acc {P C : Int} {H H' : hR} (h : okXp P C H) (hw : okW H) (hH : ∀ t x y : Int, ¬ t = 2 → H'.1 t x y = H.1 t x y) : okXp P C H' := by
  have hb : holB H' = holB H := by
    funext d
    unfold holB
    rw [hH _ _ _ (by omega)]
  exact h.fr hw (hH _ _ _ (by omega)) (hH _ _ _ (by omega)) (by rw [hb]) (hH _ _ _ (by omega)) (hH _ _ _ (by omega)) (fun c i _ _ => hH _ _ _ (by omega)) (fun o f _ _ => hH _ _ _ (by omega))
theorem okXd.acc {C : Int} {H H' : hR} (h : okXd C H) (hw : okW H) (hH : ∀ t x y : Int, ¬ t = 2 → H'.1 t x y = H.1 t x y) : okXd C H' := by
  have := okXp.acc (P := phW ((H.1 0 6 0 + H.1 1 2 0) % 7)) h hw hH
  unfold okXd
  have e : zX C H' = zP (phW ((H.1 0 6 0 + H.1 1 2 0) % 7)) C H' := by
    unfold zX zP
    rw [hH 0 6 0 (by omega), hH 1 2 0 (by omega)]
  rw [e]
  exact this
theorem ls_least {T C a n : Int} {c0 : cR} {m0 : mR} (hT : 0 ≤ T ∧ T ≤ 99999) (hC : 0 ≤ C ∧ C + 1 + (c0.1 0).1 0 5 0 ≤ 512) (hX : okXf C (c0.1 0)) (ha : 0 ≤ a ∧ a < (c0.1 0).1 0 4 0) (hn : 1 ≤ n ∧ n ≤ 100) : ∀ (k fC fM : Nat) (x : Int) (c : cR) (m : mR), x + 5000 * k = 105000 → 0 ≤ x → k < fC → k < fM → fcR T c0 c m0 m → fcOK T c0 m0 (fX6_leastDeposit_b28 fC a n x c) (fX7_leastDeposit_b27 fM a n x m)
  | k, 0, _, _, _, _, _, _, h, _, _ => by omega
  | k, _ + 1, 0, _, _, _, _, _, _, h, _ => by omega
  | 0, fC + 1, fM + 1, x, c, m, h1, h2, _, _, h => by
    refine ⟨-6, c, m, ?_, ?_, by omega, h⟩
    · rw [fX6_leastDeposit_b28, gd_pos (by omega), if_pos (by omega)]
    · rw [fX7_leastDeposit_b27, gd_pos (by omega), if_pos (by omega)]
  | k + 1, fC + 1, fM + 1, x, c, m, h1, h2, h3, h4, h => by
    obtain ⟨f1, f2, f3, f4, f5⟩ := h
    have e0 : c.1 0 = c0.1 0 := f1 0 (by omega)
    have k1 := f4.2.2.1
    unfold okN at k1
    obtain ⟨H1, m1, s1, s2, s3, s4, s5, s6⟩ := fc_start (c := c) (m := m) (T := T) (C := C) (by rw [e0]; exact f4) (by rw [e0]; exact hX) f3
    rw [e0] at s4
    have e5 : H1.1 0 5 0 = (c0.1 0).1 0 5 0 := s4.1 5 (by omega)
    have e4 : H1.1 0 4 0 = (c0.1 0).1 0 4 0 := s4.1 4 (by omega)
    have s7 := s5.plus (a := a) (v := x) (by omega) (by omega)
    have s8 := s6.acc (H' := hS H1 2 a 3 (H1.1 2 a 3 + x)) s5.2.2.2.2.2.2.1 (fun t y z q => hS_n H1 (by omega))
    have ce := s5.1.at (a := a) (f := 3) (by omega) (by omega)
    have e5' : (hS H1 2 a 3 (H1.1 2 a 3 + x)).1 0 5 0 = H1.1 0 5 0 := hS_n H1 (by omega)
    obtain ⟨r, H2, m2, d1, d2, d3, d4, d5⟩ := ls_fails (T := T + 1) (C := C + 1) (n := n) (w := shlI 1 a) (w' := shlI 1 a) (by omega) (by omega) (by omega) (fun f hf => Iff.rfl) s7 s8
    have r6 : rows6 m1 (mS m1 0 (33 + 11 * a + 3) (H1.1 2 a 3 + x)) := ⟨fun t q _ _ => mS_t m1 _ _ q, rfl, fun k _ => mS_n m1 (by omega)⟩
    obtain ⟨m3, b1, b2, b3⟩ := fc_back (H := c0.1 0) f4 s3 (r6.tr d5)
    have hc2 : fcR T c0 (cH (cH (cH c 1 H1) 1 (hS H1 2 a 3 (H1.1 2 a 3 + x))) 1 H2) m0 m3 := ⟨fun k hk => by rw [cH_n _ _ hk, cH_n _ _ hk, cH_n _ _ hk]; exact f1 k hk, f2, by rw [cH_1]; exact fc_room d4.2.2, b2, f5.tr b3⟩
    have ec : fX6_leastDeposit_b28 (fC + 1) a n x c = if r = -6 then some (x, cH (cH (cH c 1 H1) 1 (hS H1 2 a 3 (H1.1 2 a 3 + x))) 1 H2) else fX6_leastDeposit_b28 fC a n (x + 5000) (cH (cH (cH c 1 H1) 1 (hS H1 2 a 3 (H1.1 2 a 3 + x))) 1 H2) := by
      rw [fX6_leastDeposit_b28, gd_pos (by omega), if_neg (by omega), s1, cl_some, bnd_eq, gd_pos (by omega), gd_pos (by omega), cH_1, bnd_eq, cH_1, d1, cl_some, bnd_eq, gd_pos d3]
    have em : fX7_leastDeposit_b27 (fM + 1) a n x m = if r = -6 then some (x, m3) else fX7_leastDeposit_b27 fM a n (x + 5000) m3 := by
      rw [fX7_leastDeposit_b27, gd_pos (by omega), if_neg (by omega), s2, cl_some, gd_pos (by omega), ev_moves (by omega) (by omega), cl_some, show (3 : Int) + 0 = 3 from rfl, ce, d2, cl_some, b1, cl_some, gd_pos d3]
    rw [ec, em]
    by_cases g : r = -6
    · rw [if_pos g, if_pos g]
      exact ⟨x, _, m3, rfl, rfl, by omega, hc2⟩
    · rw [if_neg g, if_neg g]
      exact ls_least hT hC hX ha hn k fC fM (x + 5000) _ m3 (by omega) (by omega) (by omega) (by omega) hc2
theorem ls_leastDeposit {T C a n : Int} {c : cR} {m : mR} (hT : 0 ≤ T ∧ T ≤ 99999) (hC : 0 ≤ C ∧ C + 1 + (c.1 0).1 0 5 0 ≤ 512) (h : Sim T (c.1 0) m) (hX : okXf C (c.1 0)) (hr : roomOK ((c.1 1).1 4 1 0)) (ha : wR a) (hn : wR n) : fcOK T c m (fX6_leastDeposit a n c) (fX7_leastDeposit a n m) := by
  have k1 := h.2.2.1
  unfold okN at k1
  have q2 := h.1.1.2.1
  unfold fX6_leastDeposit fX7_leastDeposit
  by_cases g1 : 0 ≤ a ∧ a < (c.1 0).1 0 4 0
  · rw [ev_hasA (by omega), ev_isA (by omega), q2, bI_t (decide_eq_true g1), cr_some, cr_some, gd_pos (by omega), gd_pos (by omega), if_neg (by omega), if_neg (by omega), gd_pos hn]
    by_cases g2 : 1 ≤ n ∧ n ≤ 100
    · rw [ev_btT (by omega), ev_inT (by omega), cr_some, cr_some, gd_pos (by omega), gd_pos (by omega), if_neg (by omega), if_neg (by omega)]
      exact ls_least hT hC hX g1 g2 21 fuel0 fuel0 0 c m (by omega) (by omega) (by decide) (by decide) ⟨fun _ _ => rfl, rfl, hr, h, fcM.rf m⟩
    · rw [ev_btF (by omega), ev_inF (by omega), cr_some, cr_some, gd_pos (by omega), gd_pos (by omega), if_pos rfl, if_pos rfl]
      exact fcErr (r := -2) h hr (by omega) rfl rfl
  · rw [ev_hasA (by omega), ev_isA (by omega), q2, bI_f (decide_eq_false g1), cr_some, cr_some, gd_pos (by omega), gd_pos (by omega), if_pos rfl, if_pos rfl]
    exact fcErr (r := -1) h hr (by omega) rfl rfl
theorem ls_ahead {T C o n w : Int} {c : cR} {m : mR} (hT : 0 ≤ T ∧ T ≤ 100000) (hC : 0 ≤ C ∧ C + 1 + (c.1 0).1 0 5 0 ≤ 512) (h : Sim T (c.1 0) m) (hX : okXf C (c.1 0)) (hr : roomOK ((c.1 1).1 4 1 0)) (ho : wR o) (hn : wR n) (hw : wR w) : fcOK T c m (fX6_ahead o n w c) (fX7_ahead o n w m) := by
  have k1 := h.2.2.1
  unfold okN at k1
  have q2 := h.1.1.2.2.1
  unfold fX6_ahead fX7_ahead
  by_cases g1 : 0 ≤ o ∧ o < (c.1 0).1 0 5 0
  · rw [ev_hasO (by omega), ev_isO (by omega), q2, bI_t (decide_eq_true g1), cr_some, cr_some, gd_pos (by omega), gd_pos (by omega), if_neg (by omega), if_neg (by omega), gd_pos hn]
    by_cases g2 : 1 ≤ n ∧ n ≤ 400
    · rw [ev_btT (by omega), ev_inT (by omega), cr_some, cr_some, gd_pos (by omega), gd_pos (by omega), if_neg (by omega), if_neg (by omega), gd_pos hw]
      by_cases g3 : 0 ≤ w ∧ w ≤ 3
      · obtain ⟨H1, m1, s1, s2, s3, s4, s5, s6⟩ := fc_start h hX hr
        have e5 : H1.1 0 5 0 = (c.1 0).1 0 5 0 := s4.1 5 (by omega)
        obtain ⟨H2, m2, d1, d2, d3, d4, d5, d6, d7⟩ := ls_days (n := n) hT (C := C + 1) (by omega) (by omega) s5 s6
        obtain ⟨m3, b1, b2, b3⟩ := fc_back h s3 d7
        have hc1 := h.1.atO g1
        have hc2 := d3.1.atO (o := o) (by omega)
        have w3 := (h.2.2.2.2.2.1 o g1).2.2
        have w3' := (d3.2.2.2.2.2.1 o (by omega)).2.2
        unfold okC at w3 w3'
        have hm1 : ∀ j : Int, m1.1 0 j = m.1 0 j := fun j => by rw [s3.1 0 (by omega) (by omega)]
        rw [ev_btT (by omega), ev_inT (by omega), cr_some, cr_some, gd_pos (by omega), gd_pos (by omega), if_neg (by omega), if_neg (by omega), s1, cl_some, bnd_eq, cH_1, d1, cl_some, bnd_eq, gd_pos (by omega), gd_pos (by omega), gd_pos hw, s2, cl_some, gd_pos hw, cH_1, cH_n _ _ (show ¬ (0 : Int) = 1 by omega), cH_n _ _ (show ¬ (0 : Int) = 1 by omega)]
        have fin : ∀ r : Int, wR64 r → ∀ (a : Option (Int × cR)) (b : Option (Int × mR)), a = some (r, cH (cH c 1 H1) 1 H2) → b = some (r, m3) → fcOK T c m a b := fun r hr' a b ea eb => ⟨r, _, m3, ea, eb, hr', fun k hk => by rw [cH_n _ _ hk, cH_n _ _ hk], rfl, by rw [cH_1]; exact fc_room d3.2.2, b2, b3⟩
        by_cases c3 : w = 3
        · have hcnt := d3.2.2.2.2.2.2.2.1.2 o (by omega)
          have hwo := d3.waitsOf (m' := m2) ho rfl rfl
          rw [← hcnt] at hwo
          rw [if_neg (by omega), if_neg (by omega), if_neg (by omega)]
          refine fin (H2.1 3 o 15) (by omega) _ _ rfl ?_
          rw [if_pos c3]
          unfold fX7_ahead_b61
          rw [d2, cl_some, gd_pos hw, if_pos c3, hwo, cr_some]
          unfold fX7_ahead_b91
          rw [b1, cl_some, Int.sub_zero]
        · have hv : ∀ f : Int, (w = 0 ∧ f = 12) ∨ (w = 1 ∧ f = 13) ∨ (w = 2 ∧ f = 14) → m.1 0 (121 + 16 * o + (11 + w)) = (c.1 0).1 3 o f ∧ m2.1 0 (121 + 16 * o + (11 + w)) = H2.1 3 o f := fun f q => by
            rcases q with ⟨rfl, rfl⟩ | ⟨rfl, rfl⟩ | ⟨rfl, rfl⟩
            · exact ⟨hc1 11 (by omega), hc2 11 (by omega)⟩
            · exact ⟨hc1 12 (by omega), hc2 12 (by omega)⟩
            · exact ⟨hc1 13 (by omega), hc2 13 (by omega)⟩
          have em : ∀ f : Int, (w = 0 ∧ f = 12) ∨ (w = 1 ∧ f = 13) ∨ (w = 2 ∧ f = 14) → (if w = 3 then fX7_ahead_b61 o n w 0 m1 else cr (fX7_ofO o (11 + w) m1) fun r58 => fX7_ahead_b61 o n w r58 m1) = some (H2.1 3 o f - (c.1 0).1 3 o f, m3) := fun f q => by
            rw [if_neg c3, ev_ofO (by omega), cr_some, hm1, (hv f q).1]
            unfold fX7_ahead_b61
            rw [d2, cl_some, gd_pos hw, if_neg c3, ev_ofO (by omega), cr_some, (hv f q).2]
            unfold fX7_ahead_b91
            rw [b1, cl_some]
          by_cases c0 : w = 0
          · rw [if_pos c0]
            exact fin _ (by omega) _ _ rfl (em 12 (by omega))
          · rw [if_neg c0]
            by_cases c1 : w = 1
            · rw [if_pos c1]
              exact fin _ (by omega) _ _ rfl (em 13 (by omega))
            · rw [if_neg c1, if_pos (by omega)]
              exact fin _ (by omega) _ _ rfl (em 14 (by omega))
      · rw [ev_btF (by omega), ev_inF (by omega), cr_some, cr_some, gd_pos (by omega), gd_pos (by omega), if_pos rfl, if_pos rfl]
        exact fcErr (r := -2) h hr (by omega) rfl rfl
    · rw [ev_btF (by omega), ev_inF (by omega), cr_some, cr_some, gd_pos (by omega), gd_pos (by omega), if_pos rfl, if_pos rfl]
      exact fcErr (r := -2) h hr (by omega) rfl rfl
  · rw [ev_hasO (by omega), ev_isO (by omega), q2, bI_f (decide_eq_false g1), cr_some, cr_some, gd_pos (by omega), gd_pos (by omega), if_pos rfl, if_pos rfl]
    exact fcErr (r := -1) h hr (by omega) rfl rfl
end
section
/-! ===== a few of whole's rows that stood among the texts ===== -/
theorem pS_p (p : Int → Int → Int) (t a v : Int) : pS p t a v t a = v := if_pos ⟨rfl, rfl⟩
theorem pS_n (p : Int → Int → Int) {t a v t' a' : Int} (h : ¬ (t' = t ∧ a' = a)) : pS p t a v t' a' = p t' a' := if_neg h
theorem ev_isErr {x : Int} (h : wR x) : fX6_isError x = some (bI (decide (-5 ≤ x ∧ x ≤ -1))) := by
  unfold fX6_isError
  rw [ev_bt (by omega), cr_some]
  have := bI_rng (decide (-5 ≤ x ∧ x ≤ -1))
  rw [gd_pos (by omega)]
end
section
/-! ===== what bounds the waiting list: the calls that leave it alone ===== -/
def Pst {α : Type} (Q : α → Prop) (o : Option α) : Prop := ∀ x, o = some x → Q x
theorem pst_gd {α : Type} {Q : α → Prop} {p : Prop} [Decidable p] {k : Option α} (h : p → Pst Q k) : Pst Q (gd p k) := fun x e => by
  obtain ⟨h1, h2⟩ := gd_inv e
  exact h h1 x h2
theorem pst_cr {α β : Type} {Q : α → Prop} {o : Option β} {k : β → Option α} (h : ∀ y, o = some y → Pst Q (k y)) : Pst Q (cr o k) := fun x e => by
  obtain ⟨y, h1, h2⟩ := cr_inv e
  exact h y h1 x h2
theorem pst_cl {α β S : Type} {Q : α → Prop} {o : Option (β × S)} {k : β → S → Option α} (h : ∀ y s, o = some (y, s) → Pst Q (k y s)) : Pst Q (cl o k) := fun x e => by
  obtain ⟨y, s, h1, h2⟩ := cl_inv e
  exact h y s h1 x h2
theorem pst_if {α : Type} {Q : α → Prop} {p : Prop} [Decidable p] {a b : Option α} (h1 : p → Pst Q a) (h2 : ¬ p → Pst Q b) : Pst Q (if p then a else b) := by
  by_cases g : p
  · rw [if_pos g]
    exact h1 g
  · rw [if_neg g]
    exact h2 g
theorem pst_bnd {α β : Type} {Q : α → Prop} {x : β} {k : β → Option α} (h : Pst Q (k x)) : Pst Q (bnd x k) := h
theorem pst_clb {α β γ S : Type} {Q : α → Prop} {x : γ} {k1 : γ → Option (β × S)} {k : β → S → Option α} (h : Pst Q (cl (k1 x) k)) : Pst Q (cl (bnd x k1) k) := h
theorem pst_cls {α β S : Type} {Q : α → Prop} {y : β} {s : S} {k : β → S → Option α} (h : Pst Q (k y s)) : Pst Q (cl (some (y, s)) k) := h
theorem pst_some {α : Type} {Q : α → Prop} {x : α} (h : Q x) : Pst Q (some x) := fun y e => by
  cases e
  exact h
def frX (H H' : hR) : Prop := ∀ t x y : Int, ¬ t = 2 → ¬ (t = 0 ∧ (x = 4 ∨ x = 7 ∨ x = 8 ∨ x = 9)) → ¬ (t = 1 ∧ x = 2) → ¬ (t = 3 ∧ (y = 2 ∨ y = 8)) → H'.1 t x y = H.1 t x y
theorem frX.rf (H : hR) : frX H H := fun _ _ _ _ _ _ _ => rfl
theorem frX.s {H H' : hR} (h : frX H H') {t x y v : Int} (g : t = 2 ∨ (t = 0 ∧ (x = 4 ∨ x = 7 ∨ x = 8 ∨ x = 9)) ∨ (t = 1 ∧ x = 2) ∨ (t = 3 ∧ (y = 2 ∨ y = 8))) : frX H (hS H' t x y v) := fun t' x' y' a b c d => by
  rw [hS_n H' (by omega)]
  exact h t' x' y' a b c d
theorem frX.d {H H' : hR} (h : frX H H') {i : Int} {v : UInt64} : frX H (hD H' i v) := h
theorem okXp.gen {P P' C C' : Int} {H H' : hR} (h : okXp P C H) (hw : okW H) (h1 : H'.1 1 1 0 ≤ C') (h6 : H'.1 0 6 0 = H.1 0 6 0) (hZ : zP P C H ≤ zP P' C' H') (hU : uX C H ≤ uX C' H') (h2' : H'.1 4 2 0 = H.1 4 2 0) (h5' : H'.1 0 5 0 = H.1 0 5 0) (hc : ∀ c i : Int, H'.1 5 c i = H.1 5 c i) (hf : ∀ o f : Int, f = 3 ∨ f = 4 ∨ f = 6 ∨ f = 9 ∨ f = 10 ∨ f = 11 ∨ f = 16 → H'.1 3 o f = H.1 3 o f) : okXp P' C' H' := by
  obtain ⟨a1, a2, a3⟩ := h
  rw [← h6] at a2 a3
  exact ⟨h1, (a2.mono hZ hU).fr hw h2' h5' (fun c i _ => hc c i) (fun o f _ q => hf o f q), a3.fr h2' (fun i _ => hc 3 i)⟩
theorem okXf.up {C T : Int} {H H' : hR} (h : okXf C H) (hk : Ok T H) (f : frX H H') : okXf (C + 1) H' := by
  obtain ⟨P, h1, h2⟩ := h
  have hp := phW_rng (w := (H.1 0 6 0 + H.1 1 2 0) % 7) (by omega)
  have e1 : H'.1 1 1 0 = H.1 1 1 0 := f 1 1 0 (by omega) (by omega) (by omega) (by omega)
  have e6 : H'.1 0 6 0 = H.1 0 6 0 := f 0 6 0 (by omega) (by omega) (by omega) (by omega)
  have eh : futH (holB H') (H.1 0 6 0) = futH (holB H) (H.1 0 6 0) := cntB_fr _ (fun j _ _ => by
    unfold holB
    rw [f 6 _ 0 (by omega) (by omega) (by omega) (by omega)])
  have ha := h2.1
  refine ⟨5, Or.inl ⟨rfl, by omega⟩, h2.gen hk.2.2.2.2.1 (by omega) e6 ?_ ?_ (f 4 2 0 (by omega) (by omega) (by omega) (by omega)) (f 0 5 0 (by omega) (by omega) (by omega) (by omega)) (fun c i => f 5 c i (by omega) (by omega) (by omega) (by omega)) (fun o f' q => f 3 o f' (by omega) (by omega) (by omega) (by omega))⟩
  · unfold zP
    rw [e1, e6, eh]
    omega
  · unfold uX
    rw [e1]
    omega
theorem x_set {s v : Int} {H : hR} : Pst (fun p => frX H p.2) (fX2_replaceSetting s v H) := by
  unfold fX2_replaceSetting
  repeat' (first | (with_reducible refine pst_gd (fun _ => ?_)) | (with_reducible refine pst_cr (fun _ _ => ?_)) | (with_reducible refine pst_if (fun _ => ?_) (fun _ => ?_)) | (with_reducible refine pst_bnd ?_) | (with_reducible refine pst_some ?_))
  all_goals (first | exact frX.rf _ | exact (frX.rf _).s (by omega))
theorem x_account {v w : Int} {H : hR} : Pst (fun p => frX H p.2) (fX2_addAccount v w H) := by
  unfold fX2_addAccount fX0_open
  repeat' (first | (with_reducible refine pst_gd (fun _ => ?_)) | (with_reducible refine pst_cr (fun _ _ => ?_)) | (with_reducible refine pst_if (fun _ => ?_) (fun _ => ?_)) | (with_reducible refine pst_clb ?_) | (with_reducible refine pst_cls ?_) | (with_reducible refine pst_bnd ?_) | (with_reducible refine pst_some ?_))
  all_goals (repeat' (first | exact frX.rf _ | (refine frX.s ?_ (by omega)) | refine frX.d ?_))
theorem x_feed {a b : Int} {H : hR} : Pst (fun p => frX H p.2) (fX2_nameFeeder a b H) := by
  unfold fX2_nameFeeder fX2_nameFeeder_b31
  repeat' (first | (with_reducible refine pst_gd (fun _ => ?_)) | (with_reducible refine pst_cr (fun _ _ => ?_)) | (with_reducible refine pst_if (fun _ => ?_) (fun _ => ?_)) | (with_reducible refine pst_bnd ?_) | (with_reducible refine pst_some ?_))
  all_goals (repeat' (first | exact frX.rf _ | (refine frX.s ?_ (by omega))))
theorem x_deposit {a c : Int} {H : hR} : Pst (fun p => frX H p.2) (fX2_payIn a c H) := by
  unfold fX2_payIn
  repeat' (first | (with_reducible refine pst_gd (fun _ => ?_)) | (with_reducible refine pst_cr (fun _ _ => ?_)) | (with_reducible refine pst_if (fun _ => ?_) (fun _ => ?_)) | (with_reducible refine pst_bnd ?_) | (with_reducible refine pst_some ?_))
  all_goals (repeat' (first | exact frX.rf _ | (refine frX.s ?_ (by omega))))
theorem x_change {o a p : Int} {H : hR} : Pst (fun p => frX H p.2) (fX2_alterOrder o a p H) := by
  unfold fX2_alterOrder
  repeat' (first | (with_reducible refine pst_gd (fun _ => ?_)) | (with_reducible refine pst_cr (fun _ _ => ?_)) | (with_reducible refine pst_if (fun _ => ?_) (fun _ => ?_)) | (with_reducible refine pst_bnd ?_) | (with_reducible refine pst_some ?_))
  all_goals (repeat' (first | exact frX.rf _ | (refine frX.s ?_ (by omega))))
/-- an order stops -/
theorem okXp.stop {P C o : Int} {H : hR} (h : okXp P C H) (hw : okW H) : okXp P C (hS H 3 o 11 1) := by
  have x : ∀ t a f : Int, ¬ (t = 3 ∧ f = 11) → (hS H 3 o 11 1).1 t a f = H.1 t a f := fun t a f q => hS_n H (by omega)
  obtain ⟨a1, ⟨b1, b2, b3⟩, a3⟩ := h
  have qK : ∀ i j : Int, nomK (hS H 3 o 11 1) i j = nomK H i j := fun i j => nomK_fr (fun f q => x _ _ _ (by omega)) j
  refine ⟨by rw [x _ _ _ (by omega)]; exact a1, ⟨fun i hi hk => ?_, fun i hi => ?_, fun i j a b c d e => ?_⟩, fun i hi => ?_⟩
  · rw [x 4 2 0 (by omega)] at hi
    rw [x 5 0 i (by omega), x 3 _ 3 (by omega)] at hk
    rw [x 5 0 i (by omega), x 5 2 i (by omega), x 5 4 i (by omega), x 3 _ 16 (by omega), qK, x 0 6 0 (by omega)]
    exact b1 i hi hk
  · rw [x 0 5 0 (by omega)] at hi
    obtain ⟨c1, c2, c3⟩ := b2 i hi
    rw [x 3 i 3 (by omega), x 3 i 16 (by omega), x 3 i 9 (by omega), x 3 i 10 (by omega), qK, x 0 6 0 (by omega)]
    refine ⟨fun d1 d2 => c1 d1 ?_, c2, c3⟩
    by_cases g : i = o
    · subst g
      rw [hS_p] at d2
      omega
    · rw [hS_n H (by omega)] at d2
      exact d2
  · rw [x 4 2 0 (by omega)] at c
    rw [x 5 0 i (by omega), x 5 0 j (by omega)] at d
    rw [x 5 0 i (by omega), x 3 _ 3 (by omega)] at e
    rw [x 5 2 i (by omega), x 5 2 j (by omega), x 5 4 i (by omega)]
    exact b3 i j a b c d e
  · rw [x 4 2 0 (by omega)] at hi
    rw [x 5 3 i (by omega), x 0 6 0 (by omega)]
    exact a3 i hi
theorem x_stop {C T o : Int} {H : hR} (h : okXf C H) (hk : Ok T H) : Pst (fun p => okXf (C + 1) p.2) (fX2_stopOrder o H) := by
  unfold fX2_stopOrder
  repeat' (first | (with_reducible refine pst_gd (fun _ => ?_)) | (with_reducible refine pst_cr (fun _ _ => ?_)) | (with_reducible refine pst_if (fun _ => ?_) (fun _ => ?_)) | (with_reducible refine pst_bnd ?_) | (with_reducible refine pst_some ?_))
  · exact h.mono (by omega)
  · obtain ⟨P, h1, h2⟩ := h
    refine okXf.mono (C := C) ⟨P, ?_, h2.stop hk.2.2.2.2.1⟩ (by omega)
    rw [hS_n H (by omega), hS_n H (by omega), hS_n H (by omega)]
    exact h1
  · exact h.mono (by omega)
/-! a day's mark -/
theorem cntB_le {b b' : Int → Bool} {lo : Int} : ∀ n : Nat, (∀ j : Int, lo ≤ j → j < lo + n → bI (b' j) ≤ bI (b j)) → cntB b' lo n ≤ cntB b lo n
  | 0, _ => Int.le_refl _
  | n + 1, h => by
    have h1 := cntB_le n (fun j h1 h2 => h j h1 (by omega))
    have h2 := h (lo + n) (by omega) (by omega)
    unfold cntB
    omega
theorem okXp.mark {P C d v : Int} {H : hR} (h : okXp P C H) (hw : okW H) (hd : 0 ≤ d ∧ d ≤ 1094) (ht : 0 ≤ H.1 0 6 0 ∧ H.1 0 6 0 ≤ 1094) (hv : (v = H.1 1 1 0 + 1 ∧ holB H d = false) ∨ (v = H.1 1 1 0 - 1 ∧ holB H d = true)) : okXp P (C + 1) (hS (flipH H d) 1 1 0 v) := by
  have x : ∀ t a f : Int, ¬ t = 6 → ¬ (t = 1 ∧ a = 1) → (hS (flipH H d) 1 1 0 v).1 t a f = H.1 t a f := fun t a f q1 q2 => by
    unfold flipH
    rw [hS_n _ (by omega), hS_n _ (by omega)]
  have hh : ∀ e : Int, 0 ≤ e ∧ e ≤ 1094 → holB (hS (flipH H d) 1 1 0 v) e = if e = d then !holB H e else holB H e := fun e he => by
    rw [← holB_flip hd he]
    unfold holB
    rw [hS_n _ (by omega)]
  have e1 : (hS (flipH H d) 1 1 0 v).1 1 1 0 = v := hS_p _ _ _ _ _
  have e6 : (hS (flipH H d) 1 1 0 v).1 0 6 0 = H.1 0 6 0 := x _ _ _ (by omega) (by omega)
  have a1 := h.1
  have key : 7 * futH (holB (hS (flipH H d) 1 1 0 v)) (H.1 0 6 0) ≤ 7 * futH (holB H) (H.1 0 6 0) + (if holB H d then 0 else 7) := by
    unfold futH
    cases hb : holB H d
    · have c1 := cntB_or (b := holB H) (x := d) (lo := H.1 0 6 0) (1095 - H.1 0 6 0).toNat
      rw [cntB_fr (b := fun e => holB H e || decide (d = e)) (b' := holB (hS (flipH H d) 1 1 0 v)) _ (fun j j1 j2 => by
        rw [hh j (by omega)]
        by_cases g : j = d
        · subst g
          rw [if_pos rfl, hb, decide_eq_true rfl]
          rfl
        · rw [if_neg g, decide_eq_false (by omega), Bool.or_false])]
      rw [if_neg (by decide)]
      split at c1 <;> omega
    · have c1 := cntB_le (b := holB H) (b' := holB (hS (flipH H d) 1 1 0 v)) (lo := H.1 0 6 0) (1095 - H.1 0 6 0).toNat (fun j j1 j2 => by
        rw [hh j (by omega)]
        by_cases g : j = d
        · subst g
          rw [if_pos rfl, hb]
          decide
        · rw [if_neg g]
          exact Int.le_refl _)
      rw [if_pos rfl]
      omega
  refine h.gen hw (by rw [e1]; omega) e6 ?_ ?_ (x _ _ _ (by omega) (by omega)) (x _ _ _ (by omega) (by omega)) (fun c i => x _ _ _ (by omega) (by omega)) (fun o f' q => x _ _ _ (by omega) (by omega))
  · unfold zP
    rw [e1, e6]
    rcases hv with ⟨v1, v2⟩ | ⟨v1, v2⟩
    · rw [v2, if_neg (by decide)] at key
      omega
    · rw [v2, if_pos rfl] at key
      omega
  · unfold uX
    rw [e1]
    omega
theorem bt_inv {v a b y : Int} (h : fX6_isBetween v a b = some y) (n : ¬ y = 0) : a ≤ v ∧ v ≤ b := by
  have : Pst (fun y => ¬ y = 0 → a ≤ v ∧ v ≤ b) (fX6_isBetween v a b) := by
    unfold fX6_isBetween
    exact pst_gd (fun _ => pst_if (fun _ => pst_some (fun q => absurd rfl q)) (fun g1 => pst_gd (fun _ => pst_if (fun _ => pst_some (fun q => absurd rfl q)) (fun g2 => pst_some (fun _ => by omega)))))
  exact this y h n
theorem x_mark {C T d s : Int} {H : hR} (h : okXf C H) (hk : Ok T H) : Pst (fun p => okXf (C + 1) p.2) (fX1_mark d s H) := by
  have ks := hk.2.1
  unfold okS at ks
  obtain ⟨P, h1, h2⟩ := h
  have same : okXf (C + 1) H := okXf.mono (C := C) ⟨P, h1, h2⟩ (by omega)
  have fl : ∀ v : Int, (0 ≤ d ∧ d ≤ 1094) → ((v = H.1 1 1 0 + 1 ∧ holB H d = false) ∨ (v = H.1 1 1 0 - 1 ∧ holB H d = true)) → okXf (C + 1) (hS (flipH H d) 1 1 0 v) := fun v hd hv => by
    refine ⟨P, ?_, h2.mark hk.2.2.2.2.1 hd (by omega) hv⟩
    have z1 : (hS (flipH H d) 1 1 0 v).1 1 1 0 = v := hS_p _ _ _ _ _
    have z2 : (hS (flipH H d) 1 1 0 v).1 0 6 0 = H.1 0 6 0 := by
      unfold flipH
      rw [hS_n _ (by omega), hS_n _ (by omega)]
    have z3 : (hS (flipH H d) 1 1 0 v).1 1 2 0 = H.1 1 2 0 := by
      unfold flipH
      rw [hS_n _ (by omega), hS_n _ (by omega)]
    rw [z1, z2, z3]
    omega
  unfold fX1_mark
  refine pst_cr (fun y1 q1 => pst_gd (fun _ => pst_if (fun _ => pst_some same) (fun n1 => ?_)))
  have g1 := bt_inv q1 n1
  refine pst_cr (fun y2 q2 => pst_gd (fun _ => pst_if (fun _ => pst_some same) (fun n2 => pst_cr (fun y3 q3 => ?_))))
  have g2 := bt_inv q2 n2
  rw [ec_isHol g1] at q3
  cases q3
  refine pst_gd (fun hs => ?_)
  unfold fX1_mark_b38 fX1_mark_b63 fX1_mark_b96
  refine pst_if (fun c1 => ?_) (fun c1 => ?_)
  · refine pst_gd (fun _ => pst_if (fun _ => pst_some same) (fun n3 => ?_))
    refine pst_gd (fun _ => pst_if (fun _ => ?_) (fun n4 => absurd c1 n4))
    refine pst_gd (fun _ => pst_if (fun _ => ?_) (fun _ => pst_some same))
    refine pst_gd (fun _ => pst_gd (fun _ => pst_bnd (pst_gd (fun _ => pst_if (fun _ => ?_) (fun n4 => absurd c1 n4)))))
    refine pst_bnd (pst_some (fl _ g1 (Or.inl ⟨?_, ?_⟩)))
    · rw [hS_n _ (by omega)]
    · cases hb : holB H d
      · rfl
      · rw [hb, bI_t rfl] at n3
        exact absurd rfl n3
  · refine pst_gd (fun _ => pst_if (fun _ => pst_some same) (fun n3 => ?_))
    refine pst_gd (fun _ => pst_if (fun n4 => absurd n4 c1) (fun _ => ?_))
    refine pst_gd (fun _ => pst_gd (fun _ => pst_bnd (pst_gd (fun _ => pst_if (fun n4 => absurd n4 c1) (fun _ => ?_)))))
    refine pst_bnd (pst_some (fl _ g1 (Or.inr ⟨?_, ?_⟩)))
    · rw [hS_n _ (by omega)]
      omega
    · cases hb : holB H d
      · rw [hb, bI_f rfl] at n3
        exact absurd rfl n3
      · rfl
end
section
/-! ===== what bounds the waiting list: leaving out, goOn, order, giveUp ===== -/
theorem x_leave {b : Int → Bool} {o t : Int} (ht : t ≤ 1094) : ∀ (fuel : Nat) (cnt i : Int) (H : hR), calC H b → okOrd H o → aimed b H o → 0 ≤ H.1 3 o 16 → H.1 3 o 16 ≤ 1095 → i ≤ H.1 3 o 16 →
    Pst (fun p => onlyNext o H p.2 ∧ aimed b p.2 o ∧ H.1 3 o 16 ≤ p.2.1 3 o 16 ∧ p.2.1 3 o 16 ≤ 1095 ∧ t ≤ p.2.1 3 o 19 ∧ (p.2.1 3 o 16 = H.1 3 o 16 ∨ ¬ nomO b H o (p.2.1 3 o 16 - 1) = -6)) (fX3_leaveOutBefore_b10 fuel o t cnt i H)
  | 0, _, _, _, _, _, _, _, _, _ => fun x e => by cases e
  | fuel + 1, cnt, i, H, hb, hk, ha, hf0, hf1, hi => by
    have ha' := ha
    obtain ⟨a1, a2, a3⟩ := ha'
    have hx := ixF_rng b H o (H.1 3 o 16)
    have hr := nomO_rng (b := b) (k := ixF b H o (H.1 3 o 16)) hk (by omega)
    have hd := dtF_rng (b := b) (k := ixF b H o (H.1 3 o 16)) hk (by omega)
    have stay : t ≤ H.1 3 o 19 → onlyNext o H H ∧ aimed b H o ∧ H.1 3 o 16 ≤ H.1 3 o 16 ∧ H.1 3 o 16 ≤ 1095 ∧ t ≤ H.1 3 o 19 ∧ (H.1 3 o 16 = H.1 3 o 16 ∨ ¬ nomO b H o (H.1 3 o 16 - 1) = -6) := fun q => ⟨⟨fun _ _ _ _ => rfl, rfl⟩, ha, Int.le_refl _, hf1, q, Or.inl rfl⟩
    unfold fX3_leaveOutBefore_b10
    refine pst_gd (fun _ => pst_if (fun g => pst_some (stay (by omega))) (fun _ => pst_gd (fun _ => pst_if (fun g => pst_some (stay g)) (fun g => pst_bnd (pst_cl (fun y H1 q => ?_))))))
    have g1 : ¬ nomO b H o (ixF b H o (H.1 3 o 16)) = -6 := fun c => by omega
    have s16 : (hS H 3 o 16 (H.1 3 o 17 + 1)).1 3 o 16 = ixF b H o (H.1 3 o 16) + 1 := by rw [hS_p, a1]
    have k1 : okOrd (hS H 3 o 16 (H.1 3 o 17 + 1)) o := hk.fr (fun f hf => hS_n H (by omega))
    have b1 : calC (hS H 3 o 16 (H.1 3 o 17 + 1)) b := hb.fr (fun a => hS_n H (by omega)) (hS_n H (by omega))
    obtain ⟨⟨u1, H0⟩, e1, hon, hai⟩ := ec_aim (o := o) b1 k1 (by omega)
    rw [e1] at q
    cases q
    have k2 : okOrd H1 o := k1.fr (fun f hf => hon.1 3 o f (by omega))
    have b2 : calC H1 b := b1.fr (fun a => hon.1 6 a 0 (by omega)) (hon.1 1 2 0 (by omega))
    have f16 : H1.1 3 o 16 = ixF b H o (H.1 3 o 16) + 1 := (hon.1 3 o 16 (by omega)).trans s16
    have hH1 : ∀ f : Int, 0 ≤ f ∧ f ≤ 15 → H1.1 3 o f = H.1 3 o f := fun f hf => (hon.1 3 o f (by omega)).trans (hS_n H (by omega))
    intro p ep
    obtain ⟨w1, w2, w3, w4, w5, w6⟩ := x_leave ht fuel (cnt + 1) (i + 1) H1 b2 k2 hai (by omega) (by omega) (by omega) p ep
    refine ⟨⟨fun t' a f q => ?_, w1.2.trans hon.2⟩, w2, by omega, w4, w5, ?_⟩
    · rw [w1.1 t' a f q]
      exact (hon.1 t' a f (by omega)).trans (hS_n H (by omega))
    · rcases w6 with w6 | w6
      · rw [w6, f16, show ixF b H o (H.1 3 o 16) + 1 - 1 = ixF b H o (H.1 3 o 16) by omega]
        exact Or.inr g1
      · rw [nomO_fr (H := H) (fun f q => hH1 f (by omega))] at w6
        exact Or.inr w6
theorem x_leaveOut {b : Int → Bool} {o t : Int} {H : hR} (ht : 0 ≤ t ∧ t ≤ 1094) (hb : calC H b) (hk : okOrd H o) (hf : 0 ≤ H.1 3 o 16 ∧ H.1 3 o 16 ≤ 1095) :
    Pst (fun p => onlyNext o H p.2 ∧ aimed b p.2 o ∧ H.1 3 o 16 ≤ p.2.1 3 o 16 ∧ p.2.1 3 o 16 ≤ 1095 ∧ t ≤ p.2.1 3 o 19 ∧ (p.2.1 3 o 16 = H.1 3 o 16 ∨ ¬ nomO b H o (p.2.1 3 o 16 - 1) = -6)) (fX3_leaveOutBefore o t H) := by
  obtain ⟨⟨u, H1⟩, e1, hon, hai⟩ := ec_aim (o := o) hb hk (by omega)
  have f16 : H1.1 3 o 16 = H.1 3 o 16 := hon.1 3 o 16 (by omega)
  have k2 : okOrd H1 o := hk.fr (fun f q => hon.1 3 o f (by omega))
  have b2 : calC H1 b := hb.fr (fun a => hon.1 6 a 0 (by omega)) (hon.1 1 2 0 (by omega))
  unfold fX3_leaveOutBefore
  refine pst_cl (fun y H2 q => ?_)
  have hy : H2 = H1 := by
    rw [e1] at q
    cases q
    rfl
  subst hy
  intro p ep
  obtain ⟨w1, w2, w3, w4, w5, w6⟩ := x_leave ht.2 fuel0 0 0 _ b2 k2 hai (by omega) (by omega) (by omega) p ep
  refine ⟨⟨fun t' a f q => (w1.1 t' a f q).trans (hon.1 t' a f (by omega)), w1.2.trans hon.2⟩, w2, by omega, w4, w5, ?_⟩
  rw [nomO_fr (H := H) (fun f q => hon.1 3 o f (by omega)), f16] at w6
  exact w6
def same3 (H H' : hR) : Prop := H'.1 1 1 0 = H.1 1 1 0 ∧ H'.1 0 6 0 = H.1 0 6 0 ∧ H'.1 1 2 0 = H.1 1 2 0
def okPh (P C : Int) (H : hR) : Prop := (P = 5 ∧ H.1 1 1 0 + 1 ≤ C) ∨ P = phW ((H.1 0 6 0 + H.1 1 2 0) % 7)
theorem okXp.left {P C o : Int} {H H' : hR} (h : okXp P C H) (hP : okPh P C H) (hw : okW H) (hc : ∀ (lo : Int) (n : Nat), 0 ≤ lo → lo + n ≤ 1095 → cntB (holB H) lo n ≤ H.1 1 1 0) (ht : 0 ≤ H.1 0 6 0 ∧ H.1 0 6 0 ≤ 1094)
    (hx : ∀ t a f : Int, ¬ (t = 3 ∧ a = o) → ¬ (t = 0 ∧ a = 5) → H'.1 t a f = H.1 t a f)
    (h5 : ∀ i : Int, 0 ≤ i → i < H'.1 0 5 0 → i = o ∨ i < H.1 0 5 0)
    (hk : okOrd H' o) (ha : aimed (cB H) H' o) (h16 : 0 ≤ H'.1 3 o 16) (h19 : H.1 0 6 0 ≤ H'.1 3 o 19)
    (h36 : ¬ H'.1 3 o 3 ≤ 1 → H'.1 3 o 16 ≤ 36) (h9 : H'.1 3 o 9 = 1 → H'.1 3 o 10 = 0)
    (h1o : ∀ i : Int, 0 ≤ i ∧ i < H.1 4 2 0 → H.1 5 0 i = o → H.1 3 o 3 = H'.1 3 o 3 ∧ nomK H o (H.1 3 o 16) ≤ nomK H' o (H'.1 3 o 16)) : okXp P C H' := by
  obtain ⟨a1, ⟨b1, b2, b3⟩, a3⟩ := h
  have e1 : H'.1 1 1 0 = H.1 1 1 0 := hx _ _ _ (by omega) (by omega)
  have e6 : H'.1 0 6 0 = H.1 0 6 0 := hx _ _ _ (by omega) (by omega)
  have e12 : H'.1 1 2 0 = H.1 1 2 0 := hx _ _ _ (by omega) (by omega)
  have e42 : H'.1 4 2 0 = H.1 4 2 0 := hx _ _ _ (by omega) (by omega)
  have eh : holB H' = holB H := by
    funext d
    unfold holB
    rw [hx 6 _ 0 (by omega) (by omega)]
  have q5 : ∀ c i : Int, H'.1 5 c i = H.1 5 c i := fun c i => hx _ _ _ (by omega) (by omega)
  have q3 : ∀ i f : Int, ¬ i = o → H'.1 3 i f = H.1 3 i f := fun i f q => hx _ _ _ (by omega) (by omega)
  have qK : ∀ i j : Int, ¬ i = o → nomK H' i j = nomK H i j := fun i j q => nomK_fr (fun f _ => q3 i f q) j
  have eZ : zP P C H' = zP P C H := by
    unfold zP
    rw [e1, e6, eh]
  have eU : uX C H' = uX C H := by
    unfold uX
    rw [e1]
  have hfut : futH (holB H) (H.1 0 6 0) ≤ H.1 1 1 0 := hc _ _ ht.1 (by omega)
  have hf0 := futH_rng (holB H) (H.1 0 6 0)
  have hph := phW_rng (w := (H.1 0 6 0 + H.1 1 2 0) % 7) (by omega)
  have hZ : zP P C H = 10 + 2 * H.1 1 1 0 + 5 * C - P - 7 * futH (holB H) (H.1 0 6 0) := rfl
  unfold okPh at hP
  refine ⟨by omega, ⟨fun i hi c1 => ?_, fun i hi => ?_, fun i j a b c d e => ?_⟩, fun i hi => ?_⟩
  · rw [e42] at hi
    rw [q5] at c1
    rw [q5, q5, q5, e6, eZ]
    by_cases g : H.1 5 0 i = o
    · obtain ⟨w1, w2⟩ := h1o i hi g
      rw [g] at c1 ⊢
      have := b1 i hi (by rw [g, w1]; exact c1)
      rw [g] at this
      omega
    · rw [q3 _ 3 g] at c1
      rw [q3 _ 16 g, qK _ _ g]
      exact b1 i hi c1
  · rw [e6, eZ]
    by_cases g : i = o
    · subst g
      refine ⟨fun c1 c2 => ?_, h36, h9⟩
      obtain ⟨g1, g2, g3⟩ := ha
      have x1 := ixF_K (b := cB H) hk h16 c1
      rw [x1] at g3
      have hd := dtF_rng (b := cB H) (k := H'.1 3 i 16) hk h16
      have hr := nomO_rng (b := cB H) (k := H'.1 3 i 16) hk h16
      have eK := nomO_K (b := cB H) (H := H') (o := i) (k := H'.1 3 i 16) (by have := hk.1; omega)
      have hge := nomK_ge hk h16
      have hfi := hk.2.2.2.1
      by_cases q : 1094 < nomK H' i (H'.1 3 i 16)
      · omega
      · rw [if_neg q] at eK
        rcases hd with ⟨d1, d2⟩ | ⟨d1, d2, d3⟩
        · omega
        · rw [eK] at d1 d2 hr
          by_cases g4 : H.1 0 6 0 ≤ nomK H' i (H'.1 3 i 16)
          · omega
          · have r1 := nonB_run (wd := H.1 1 2 0) (hb := holB H) (H.1 0 6 0 - nomK H' i (H'.1 3 i 16)).toNat (nomK H' i (H'.1 3 i 16)) (fun j j1 j2 => shZ_gt (b := cB H) (d := nomK H' i (H'.1 3 i 16)) (r := H'.1 3 i 7) (by omega) (by omega) j j1 (by omega))
            have r2 := cntB_add (b := holB H) (lo := nomK H' i (H'.1 3 i 16)) (n := (H.1 0 6 0 - nomK H' i (H'.1 3 i 16)).toNat) (1095 - H.1 0 6 0).toNat
            have r3 := hc (nomK H' i (H'.1 3 i 16)) ((H.1 0 6 0 - nomK H' i (H'.1 3 i 16)).toNat + (1095 - H.1 0 6 0).toNat) (by omega) (by omega)
            have r4 := phW_rng (w := (nomK H' i (H'.1 3 i 16) + H.1 1 2 0) % 7) (by omega)
            rw [show nomK H' i (H'.1 3 i 16) + (((H.1 0 6 0 - nomK H' i (H'.1 3 i 16)).toNat : Nat) : Int) = H.1 0 6 0 by omega] at r1 r2
            have r5 : futH (holB H) (H.1 0 6 0) = cntB (holB H) (H.1 0 6 0) (1095 - H.1 0 6 0).toNat := rfl
            omega
    · have hi2 : 0 ≤ i ∧ i < H.1 0 5 0 := by
        rcases h5 i hi.1 hi.2 with q | q <;> omega
      rw [q3 i 3 g, q3 i 11 g, q3 i 9 g, q3 i 10 g, q3 i 16 g, qK _ _ g]
      exact b2 i hi2
  · rw [e42] at c
    rw [q5, q5] at d
    rw [q5] at e
    rw [q5, q5, q5, eU]
    refine b3 i j a b c d ?_
    by_cases g : H.1 5 0 i = o
    · rw [g] at e ⊢
      rw [(h1o i (by omega) g).1]
      exact e
    · rw [q3 _ 3 g] at e
      exact e
  · rw [e42] at hi
    rw [q5, e6]
    exact a3 i hi
theorem Sim.cnt {T : Int} {H : hR} {m : mR} (h : Sim T H m) : ∀ (lo : Int) (n : Nat), 0 ≤ lo → lo + n ≤ 1095 → cntB (holB H) lo n ≤ H.1 1 1 0 := fun lo n h1 h2 => hol_cnt h.1.2.1 h.1.1.2.2.2.1 h1 h2
theorem hasO_inv {x y : Int} {H : hR} (h : fX2_hasOrder x H = some y) (n : ¬ y = 0) : 0 ≤ x ∧ x < H.1 0 5 0 := by
  have : Pst (fun y => ¬ y = 0 → 0 ≤ x ∧ x < H.1 0 5 0) (fX2_hasOrder x H) := by
    unfold fX2_hasOrder
    exact pst_gd (fun _ => pst_if (fun _ => pst_some (fun q => absurd rfl q)) (fun g1 => pst_gd (fun _ => pst_if (fun _ => pst_some (fun q => absurd rfl q)) (fun g2 => pst_some (fun _ => by omega)))))
  exact this y h n
theorem xp_goOn {P C T o : Int} {H : hR} {m : mR} (h : Sim T H m) (hP : okPh P C H) (hd : okXp P C H) : Pst (fun p => okXp P C p.2 ∧ same3 H p.2) (fX2_resumeOrder o H) := by
  have ks := h.2.2.2.1
  unfold okS at ks
  have same : okXp P C H ∧ same3 H H := ⟨hd, rfl, rfl, rfl⟩
  obtain ⟨bc, bm⟩ := cal_both h.1 ks.2.1
  unfold fX2_resumeOrder
  refine pst_cr (fun y1 q1 => pst_gd (fun _ => pst_if (fun _ => pst_some same) (fun n1 => ?_)))
  have ho := hasO_inv q1 n1
  · obtain ⟨w1, w2, w3⟩ := h.2.2.2.2.2.1 o ho
    unfold okC at w3
    have hS11 : ∀ t a f : Int, ¬ (t = 3 ∧ a = o ∧ f = 11) → (hS H 3 o 11 0).1 t a f = H.1 t a f := fun t a f q => hS_n H (by omega)
    have k1 : okOrd (hS H 3 o 11 0) o := w1.fr (fun f hf => hS11 _ _ _ (by omega))
    refine pst_gd (fun _ => pst_gd (fun _ => pst_if (fun _ => pst_gd (fun _ => pst_bnd (pst_gd (fun _ => pst_cl (fun r H' q => pst_some ?_))))) (fun _ => pst_some same)))
    rw [hS11 0 6 0 (by omega)] at q
    obtain ⟨v1, v2, v3, v4, v5, v6⟩ := x_leaveOut (b := cB H) (t := H.1 0 6 0) (by omega) (bc.fr (fun a => hS11 _ _ _ (by omega)) (hS11 _ _ _ (by omega))) k1 (by rw [hS11 3 o 16 (by omega)]; omega) _ q
    have v1 : onlyNext o (hS H 3 o 11 0) H' := v1
    have v2 : aimed (cB H) H' o := v2
    have v3 : (hS H 3 o 11 0).1 3 o 16 ≤ H'.1 3 o 16 := v3
    have v5 : H.1 0 6 0 ≤ H'.1 3 o 19 := v5
    rw [hS11 3 o 16 (by omega)] at v3
    have e : ∀ t a f : Int, ¬ (t = 3 ∧ a = o ∧ (f = 11 ∨ f = 16 ∨ f = 17 ∨ f = 18 ∨ f = 19)) → H'.1 t a f = H.1 t a f := fun t a f q => (v1.1 t a f (by omega)).trans (hS11 t a f (by omega))
    have k2 : okOrd H' o := w1.fr (fun f hf => e _ _ _ (by omega))
    have qK : ∀ k : Int, nomK H' o k = nomK H o k := fun k => nomK_fr (fun f _ => e _ _ _ (by omega)) k
    show okXp P C H' ∧ same3 H H'
    refine ⟨hd.left hP h.2.2.2.2.2.2.1 h.cnt (by omega) (fun t a f p1 p2 => e t a f (by omega)) (fun i i1 i2 => Or.inr (by rw [e 0 5 0 (by omega)] at i2; exact i2)) k2 v2 (by omega) v5 (fun c1 => ?_) (fun c1 => ?_) (fun i hi c1 => ⟨(e _ _ _ (by omega)).symm, ?_⟩), e _ _ _ (by omega), e _ _ _ (by omega), e _ _ _ (by omega)⟩
    · rw [e 3 o 3 (by omega)] at c1
      have old := (hd.2.1.2.1 o ho).2.1 c1
      rcases v6 with v6 | v6
      · have v6 : H'.1 3 o 16 = (hS H 3 o 11 0).1 3 o 16 := v6
        rw [hS11 3 o 16 (by omega)] at v6
        omega
      · have v6 : ¬ nomO (cB H) (hS H 3 o 11 0) o (H'.1 3 o 16 - 1) = -6 := v6
        by_cases z : H'.1 3 o 16 = 0
        · omega
        · have := nomO_36 k1 (by omega) (by rw [hS11 3 o 3 (by omega)]; exact c1) v6
          omega
    · rw [e 3 o 9 (by omega)] at c1
      rw [e 3 o 10 (by omega)]
      exact (hd.2.1.2.1 o ho).2.2 c1
    · rw [qK]
      by_cases z : H.1 3 o 16 = H'.1 3 o 16
      · rw [z]
        exact Int.le_refl _
      · have := nomK_lt w1 (k := H.1 3 o 16) (j := H'.1 3 o 16) (by omega)
        omega
theorem okXf.of3 {C : Int} {H H' : hR} (h : okXf C H) (k : ∀ P, okPh P C H → okXp P C H → okXp P C H' ∧ same3 H H') : okXf C H' := by
  obtain ⟨P, h1, h2⟩ := h
  obtain ⟨k1, k2, k3, k4⟩ := k P h1 h2
  refine ⟨P, ?_, k1⟩
  rw [k2, k3, k4]
  exact h1
theorem okXd.of3 {C : Int} {H H' : hR} (h : okXd C H) (k : ∀ P, okPh P C H → okXp P C H → okXp P C H' ∧ same3 H H') : okXd C H' := by
  obtain ⟨k1, k2, k3, k4⟩ := k _ (Or.inr rfl) h
  have : okXp (phW ((H'.1 0 6 0 + H'.1 1 2 0) % 7)) C H' := by
    rw [k3, k4]
    exact k1
  exact this
theorem x_goOn {C T o : Int} {H : hR} {m : mR} (h : Sim T H m) (hx : okXf C H) : Pst (fun p => okXf C p.2) (fX2_resumeOrder o H) := fun p e => hx.of3 (fun P h1 h2 => xp_goOn h h1 h2 p e)
theorem xd_goOn {C T o : Int} {H : hR} {m : mR} (h : Sim T H m) (hx : okXd C H) : Pst (fun p => okXd C p.2) (fX2_resumeOrder o H) := fun p e => hx.of3 (fun P h1 h2 => xp_goOn h h1 h2 p e)
end
section
/-! ===== what bounds the waiting list: order, giveUp ===== -/
theorem xp_order {P C T : Int} {H : hR} {m : mR} (h : Sim T H m) (hP : okPh P C H) (hd : okXp P C H) {x1 x2 x3 x4 x5 x6 : Int} (h1 : wR x1) (h2 : wR x2) (h3 : wR x3) (h4 : wR x4) (h5 : wR x5) (h6 : wR x6) : Pst (fun p => (okXp P C p.2 ∧ same3 H p.2) ∧ -5 ≤ p.1 ∧ p.2.1 0 5 0 ≤ H.1 0 5 0 + 1) (fX2_addOrder x1 x2 x3 x4 x5 x6 H) := by
  have same : ∀ r : Int, -5 ≤ r → (okXp P C H ∧ same3 H H) ∧ -5 ≤ r ∧ H.1 0 5 0 ≤ H.1 0 5 0 + 1 := fun r hr => ⟨⟨hd, rfl, rfl, rfl⟩, hr, by omega⟩
  rcases ls_ordchk h h1 h2 h3 h4 h5 h6 with ⟨r, r1, r2, r3, r4⟩ | ⟨⟨⟨a1, a2, a3, a4⟩, b2, b3, b4, b5, b6, b7⟩, c1, c2⟩
  · rw [r3]
    exact pst_some (same r r1)
  · have k1 := h.2.2.1
    unfold okN at k1
    have ks := h.2.2.2.1
    unfold okS at ks
    have b3' : (0 ≤ x3 ∧ x3 ≤ 39999) ∧ (1 ≤ x3 / 100 % 100 ∧ x3 / 100 % 100 ≤ 12) ∧ 1 ≤ x3 % 100 ∧ x3 % 100 ≤ 31 := of_decide_eq_true b3
    obtain ⟨bc, bm⟩ := cal_both h.1 ks.2.1
    obtain ⟨⟨u, H1⟩, f1, f2, f3, p0, p1, p2, p3, p4, p5, p6, p7, p8, p9, p10, p11⟩ := ec_begin (H := H) (o := H.1 0 5 0) (x1 := x1) (x2 := x2) (x3 := x3) (x4 := x4) (x5 := x5) (x6 := x6) (by omega) (by omega) (by omega) h6
    have f2 : ∀ t x y : Int, ¬ (t = 3 ∧ x = H.1 0 5 0) → H1.1 t x y = H.1 t x y := f2
    have p3 : H1.1 3 (H.1 0 5 0) 3 = x3 / 10000 := p3
    have p4 : H1.1 3 (H.1 0 5 0) 4 = x3 / 100 % 100 := p4
    have p5 : H1.1 3 (H.1 0 5 0) 5 = x3 % 100 := p5
    have p6 : H1.1 3 (H.1 0 5 0) 6 = x4 := p6
    have p7 : H1.1 3 (H.1 0 5 0) 7 = x5 / 10 := p7
    have p9 : H1.1 3 (H.1 0 5 0) 9 = if x6 = 0 then 1 else 0 := p9
    have p10 : H1.1 3 (H.1 0 5 0) 10 = x6 := p10
    have p16 : H1.1 3 (H.1 0 5 0) 16 = 0 := p11 16 (by decide)
    have ko : okOrd H1 (H.1 0 5 0) := by
      unfold okOrd
      rw [p3, p4, p5, p6, p7]
      omega
    have b1' : calC H1 (cB H) := bc.fr (fun a => f2 _ _ _ (by omega)) (f2 _ _ _ (by omega))
    rw [c1]
    unfold fX2_addOrder_b50
    refine pst_cr (fun _ _ => pst_gd (fun _ => pst_if (fun _ => pst_some (same (-2) (by decide))) (fun _ => pst_cr (fun _ _ => pst_gd (fun _ => pst_if (fun _ => pst_some (same (-2) (by decide))) (fun _ => pst_cr (fun _ _ => pst_gd (fun _ => pst_if (fun _ => pst_some (same (-2) (by decide))) (fun _ => pst_cr (fun _ _ => pst_gd (fun _ => pst_if (fun _ => pst_some (same (-2) (by decide))) (fun _ => pst_cr (fun _ _ => pst_gd (fun _ => pst_if (fun _ => pst_some (same (-2) (by decide))) (fun _ => ?_)))))))))))))))
    refine pst_gd (fun _ => pst_if (fun _ => pst_gd (fun _ => pst_cl (fun y H2 q => ?_))) (fun _ => pst_some (same (-4) (by decide))))
    have hy : H2 = H1 := by
      rw [f1] at q
      cases q
      rfl
    subst hy
    refine pst_gd (fun _ => pst_cl (fun y3 H3 q3 => pst_bnd (pst_some ?_)))
    have i5 : H2.1 0 5 0 = H.1 0 5 0 := f2 _ _ _ (by omega)
    have i6 : H2.1 0 6 0 = H.1 0 6 0 := f2 _ _ _ (by omega)
    rw [i5, i6] at q3
    obtain ⟨v1, v2, v3, v4, v5, v6⟩ := x_leaveOut (b := cB H) (t := H.1 0 6 0) (by omega) b1' ko (by rw [p16]; omega) _ q3
    have v1 : onlyNext (H.1 0 5 0) H2 H3 := v1
    have v2 : aimed (cB H) H3 (H.1 0 5 0) := v2
    have v3 : H2.1 3 (H.1 0 5 0) 16 ≤ H3.1 3 (H.1 0 5 0) 16 := v3
    have v5 : H.1 0 6 0 ≤ H3.1 3 (H.1 0 5 0) 19 := v5
    have v6 : H3.1 3 (H.1 0 5 0) 16 = H2.1 3 (H.1 0 5 0) 16 ∨ ¬ nomO (cB H) H2 (H.1 0 5 0) (H3.1 3 (H.1 0 5 0) 16 - 1) = -6 := v6
    rw [p16] at v3 v6
    have j5 : H3.1 0 5 0 = H.1 0 5 0 := (v1.1 _ _ _ (by omega)).trans i5
    have e : ∀ t a f : Int, ¬ (t = 3 ∧ a = H.1 0 5 0) → ¬ (t = 0 ∧ a = 5) → (hS H3 0 5 0 (H3.1 0 5 0 + 1)).1 t a f = H.1 t a f := fun t a f q1 q2 => by
      rw [hS_n _ (by omega), v1.1 t a f (by omega), f2 t a f q1]
    have e2 : ∀ f : Int, ¬ f = 16 → ¬ f = 17 → ¬ f = 18 → ¬ f = 19 → (hS H3 0 5 0 (H3.1 0 5 0 + 1)).1 3 (H.1 0 5 0) f = H2.1 3 (H.1 0 5 0) f := fun f q1 q2 q3 q4 => by
      rw [hS_n _ (by omega), v1.1 _ _ _ (by omega)]
    have e3 : ∀ f : Int, (hS H3 0 5 0 (H3.1 0 5 0 + 1)).1 3 (H.1 0 5 0) f = H3.1 3 (H.1 0 5 0) f := fun f => hS_n _ (by omega)
    have hlast : (hS H3 0 5 0 (H3.1 0 5 0 + 1)).1 0 5 0 = H.1 0 5 0 + 1 := by rw [hS_p, j5]
    show (okXp P C (hS H3 0 5 0 (H3.1 0 5 0 + 1)) ∧ same3 H (hS H3 0 5 0 (H3.1 0 5 0 + 1))) ∧ -5 ≤ (hS H3 0 5 0 (H3.1 0 5 0 + 1)).1 0 5 0 - 1 ∧ (hS H3 0 5 0 (H3.1 0 5 0 + 1)).1 0 5 0 ≤ H.1 0 5 0 + 1
    refine ⟨⟨hd.left (o := H.1 0 5 0) hP h.2.2.2.2.2.2.1 h.cnt (by omega) e (fun i i1 i2 => ?_) (ko.fr (fun f hf => e2 f (by omega) (by omega) (by omega) (by omega))) (v2.fr e3) (by rw [e3]; exact v3) (by rw [e3]; exact v5) (fun c3 => ?_) (fun c3 => ?_) (fun i hi c3 => ?_), e _ _ _ (by omega) (by omega), e _ _ _ (by omega) (by omega), e _ _ _ (by omega) (by omega)⟩, by rw [hlast]; omega, by rw [hlast]; omega⟩
    · rw [hlast] at i2
      omega
    · rw [e2 3 (by decide) (by decide) (by decide) (by decide)] at c3
      rw [e3]
      rcases v6 with v6 | v6
      · omega
      · by_cases z : H3.1 3 (H.1 0 5 0) 16 = 0
        · omega
        · have := nomO_36 ko (by omega) c3 v6
          omega
    · rw [e2 9 (by decide) (by decide) (by decide) (by decide), p9] at c3
      rw [e2 10 (by decide) (by decide) (by decide) (by decide), p10]
      by_cases z : x6 = 0
      · exact z
      · rw [if_neg z] at c3
        omega
    · have := (h.2.2.2.2.2.2.1.1 i hi).1
      omega
theorem x_order {C T : Int} {H : hR} {m : mR} (h : Sim T H m) (hx : okXf C H) {x1 x2 x3 x4 x5 x6 : Int} (h1 : wR x1) (h2 : wR x2) (h3 : wR x3) (h4 : wR x4) (h5 : wR x5) (h6 : wR x6) : Pst (fun p => okXf C p.2) (fX2_addOrder x1 x2 x3 x4 x5 x6 H) := fun p e => hx.of3 (fun P g1 g2 => (xp_order h g1 g2 h1 h2 h3 h4 h5 h6 p e).1)
theorem xd_order {C T : Int} {H : hR} {m : mR} (h : Sim T H m) (hx : okXd C H) {x1 x2 x3 x4 x5 x6 : Int} (h1 : wR x1) (h2 : wR x2) (h3 : wR x3) (h4 : wR x4) (h5 : wR x5) (h6 : wR x6) : Pst (fun p => okXd C p.2) (fX2_addOrder x1 x2 x3 x4 x5 x6 H) := fun p e => hx.of3 (fun P g1 g2 => (xp_order h g1 g2 h1 h2 h3 h4 h5 h6 p e).1)
/-- fewer entries wait -/
theorem okXp.sub {P C : Int} {H H' : hR} (h : okXp P C H) (h0 : ∀ t a f : Int, t = 0 ∨ t = 1 ∨ t = 6 → H'.1 t a f = H.1 t a f) (hf : ∀ o f : Int, f = 3 ∨ f = 4 ∨ f = 6 ∨ f = 9 ∨ f = 10 ∨ f = 11 ∨ f = 16 → H'.1 3 o f = H.1 3 o f)
    (he : ∀ j k : Int, 0 ≤ j → j ≤ k → k < H'.1 4 2 0 → ∃ i l : Int, (0 ≤ i ∧ i ≤ l ∧ l < H.1 4 2 0) ∧ (j < k → i < l) ∧ (∀ c : Int, c = 0 ∨ c = 2 ∨ c = 3 ∨ c = 4 → H'.1 5 c j = H.1 5 c i) ∧ ∀ c : Int, c = 0 ∨ c = 2 ∨ c = 3 ∨ c = 4 → H'.1 5 c k = H.1 5 c l) : okXp P C H' := by
  obtain ⟨a1, ⟨b1, b2, b3⟩, a3⟩ := h
  have eh : holB H' = holB H := by
    funext d
    unfold holB
    rw [h0 6 _ 0 (by omega)]
  have eZ : zP P C H' = zP P C H := by
    unfold zP
    rw [h0 1 1 0 (by omega), h0 0 6 0 (by omega), eh]
  have eU : uX C H' = uX C H := by
    unfold uX
    rw [h0 1 1 0 (by omega)]
  have qK : ∀ i j : Int, nomK H' i j = nomK H i j := fun i j => nomK_fr (fun f q => hf _ _ (by omega)) j
  refine ⟨by rw [h0 1 1 0 (by omega)]; exact a1, ⟨fun j hj c1 => ?_, fun o ho => ?_, fun j k a b c d e => ?_⟩, fun j hj => ?_⟩
  · obtain ⟨i, l, i1, i2, i3, i4⟩ := he j j hj.1 (Int.le_refl _) hj.2
    rw [i3 0 (by omega), hf _ 3 (by omega)] at c1
    rw [i3 0 (by omega), i3 2 (by omega), i3 4 (by omega), hf _ 16 (by omega), qK, h0 0 6 0 (by omega), eZ]
    exact b1 i (by omega) c1
  · rw [h0 0 5 0 (by omega)] at ho
    rw [hf o 3 (by omega), hf o 9 (by omega), hf o 10 (by omega), hf o 11 (by omega), hf o 16 (by omega), qK, h0 0 6 0 (by omega), eZ]
    exact b2 o ho
  · obtain ⟨i, l, i1, i2, i3, i4⟩ := he j k a b c
    rw [i3 0 (by omega), i4 0 (by omega)] at d
    rw [i3 0 (by omega), hf _ 3 (by omega)] at e
    rw [i3 2 (by omega), i4 2 (by omega), i3 4 (by omega), eU]
    have := b3 i l i1.1 i1.2.1 i1.2.2 d e
    exact ⟨this.1, fun q => this.2 (i2 q)⟩
  · obtain ⟨i, l, i1, i2, i3, i4⟩ := he j j hj.1 (Int.le_refl _) hj.2
    rw [i3 3 (by omega), h0 0 6 0 (by omega)]
    exact a3 i (by omega)
theorem dropR.src {H H' : hR} (h : dropR H H') (hs : 0 ≤ H.1 4 2 0) {j k : Int} (h0 : 0 ≤ j) (hjk : j ≤ k) (hk : k < H'.1 4 2 0) : ∃ i l : Int, (0 ≤ i ∧ i ≤ l ∧ l < H.1 4 2 0) ∧ (j < k → i < l) ∧ (∀ c : Int, 0 ≤ c ∧ c < 5 → H'.1 5 c j = H.1 5 c i) ∧ ∀ c : Int, 0 ≤ c ∧ c < 5 → H'.1 5 c k = H.1 5 c l := by
  obtain ⟨h1, h2, h3, h4⟩ := h
  have key : ∀ j : Int, 0 ≤ j ∧ j < H'.1 4 2 0 → ∃ i : Nat, (i : Int) < H.1 4 2 0 ∧ ¬ H.1 5 1 i = 0 ∧ rk (H.1 5 1) i = j ∧ ∀ c : Int, 0 ≤ c ∧ c < 5 → H'.1 5 c j = H.1 5 c i := fun j hj => by
    rw [h3] at hj
    obtain ⟨i, q1, q2, q3⟩ := rk_sur _ j hj.1 hj.2
    exact ⟨i, by omega, q2, q3, fun c hc => by rw [← q3]; exact h4 i (by omega) q2 c hc⟩
  obtain ⟨i, q1, q2, q3, q4⟩ := key j (by omega)
  obtain ⟨l, r1, r2, r3, r4⟩ := key k (by omega)
  have hil : i ≤ l := by
    by_cases g : i ≤ l
    · exact g
    · have := rk_lt (A := H.1 5 1) (n := l) (k := i) (by omega) r2
      omega
  refine ⟨i, l, by omega, fun q => ?_, q4, r4⟩
  by_cases g : i = l
  · subst g
    omega
  · omega
theorem x_giveUp {C T p : Int} {H : hR} (hk : Ok T H) (hx : okXf C H) : Pst (fun r => okXf (C + 1) r.2 ∧ r.2.1 0 5 0 = H.1 0 5 0) (fX2_dropPayment p H) := by
  have k1 := hk.1
  have k1' := k1
  unfold okN at k1'
  have hroom := roomOK_rng k1'.2.2.2.2
  have same : okXf (C + 1) H := hx.mono (by omega)
  unfold fX2_dropPayment
  refine pst_cr (fun y q => pst_gd (fun _ => pst_if (fun _ => pst_some ⟨same, rfl⟩) (fun n => ?_)))
  have g1 := bt_inv q n
  have hw := hk.2.2.2.2.1.1 p (by omega)
  have hp := (hk.2.2.2.1 (H.1 5 0 p) hw.1).2.1
  unfold okP at hp
  refine pst_gd (fun g2 => pst_gd (fun g3 => pst_bnd (pst_cl (fun y2 s2 q2 => pst_cl (fun y3 H' q3 => pst_some ?_)))))
  have x : ∀ t a f : Int, ¬ (t = 3 ∧ f = 13) → (hS H 3 (H.1 5 0 p) 13 (H.1 3 (H.1 5 0 p) 13 + 1)).1 t a f = H.1 t a f := fun t a f q => hS_n H (by omega)
  have es : fX2_settle p (hS H 3 (H.1 5 0 p) 13 (H.1 3 (H.1 5 0 p) 13 + 1)) = some ((), stl (hS H 3 (H.1 5 0 p) 13 (H.1 3 (H.1 5 0 p) 13 + 1)) p) := ec_settle (by rw [x 4 1 0 (by omega)]; omega) (by rw [x 5 0 p (by omega)]; omega) (by rw [x 5 0 p (by omega), x 3 _ 0 (by omega)]; omega) (by rw [x 5 1 p (by omega)]; omega)
  have hy : s2 = stl (hS H 3 (H.1 5 0 p) 13 (H.1 3 (H.1 5 0 p) 13 + 1)) p := by
    rw [es] at q2
    cases q2
    rfl
  have y : ∀ t a f : Int, ¬ (t = 2 ∧ f = 11) → ¬ (t = 3 ∧ (f = 13 ∨ f = 15)) → ¬ (t = 5 ∧ a = 1) → s2.1 t a f = H.1 t a f := fun t a f h1 h2 h3 => by
    rw [hy]
    unfold stl
    rw [hS_n _ (by omega), hS_n _ (by omega), hS_n _ (by omega), hS_n _ (by omega)]
  have hA : ∀ i : Int, 0 ≤ i ∧ i < s2.1 4 2 0 → wR (s2.1 5 1 i) := fun i hi => by
    rw [y 4 2 0 (by omega) (by omega) (by omega)] at hi
    have := hk.2.2.2.2.1.1 i hi
    rw [hy]
    unfold stl
    by_cases g : i = p
    · subst g
      rw [hS_p]
      omega
    · rw [hS_n _ (by omega), hS_n _ (by omega), hS_n _ (by omega), hS_n _ (by omega)]
      omega
  obtain ⟨H3, ed, hd⟩ := ec_drop (H := s2) (k1.fr (y _ _ _ (by omega) (by omega) (by omega)) (y _ _ _ (by omega) (by omega) (by omega)) (y _ _ _ (by omega) (by omega) (by omega)) (y _ _ _ (by omega) (by omega) (by omega))) hA
  have hz : H' = H3 := by
    rw [ed] at q3
    cases q3
    rfl
  subst hz
  have e42 : s2.1 4 2 0 = H.1 4 2 0 := y _ _ _ (by omega) (by omega) (by omega)
  have z : ∀ t a f : Int, ¬ (t = 2 ∧ f = 11) → ¬ (t = 3 ∧ (f = 13 ∨ f = 15)) → ¬ t = 5 → ¬ (t = 4 ∧ a = 2 ∧ f = 0) → H'.1 t a f = H.1 t a f := fun t a f h1 h2 h3 h4 => (hd.1 t a f h3 h4).trans (y t a f h1 h2 (by omega))
  obtain ⟨P, hP, hX⟩ := hx
  refine ⟨okXf.mono (C := C) ⟨P, ?_, hX.sub (fun t a f q => z _ _ _ (by omega) (by omega) (by omega) (by omega)) (fun o f q => z _ _ _ (by omega) (by omega) (by omega) (by omega)) (fun j k a b c => ?_)⟩ (by omega), z _ _ _ (by omega) (by omega) (by omega) (by omega)⟩
  · show (P = 5 ∧ H'.1 1 1 0 + 1 ≤ C) ∨ P = phW ((H'.1 0 6 0 + H'.1 1 2 0) % 7)
    rw [z 1 1 0 (by omega) (by omega) (by omega) (by omega), z 0 6 0 (by omega) (by omega) (by omega) (by omega), z 1 2 0 (by omega) (by omega) (by omega) (by omega)]
    exact hP
  · obtain ⟨i, l, i1, i2, i3, i4⟩ := hd.src (by omega) a b c
    exact ⟨i, l, by omega, i2, fun c' q => by rw [i3 c' (by omega), y 5 c' i (by omega) (by omega) (by omega)], fun c' q => by rw [i4 c' (by omega), y 5 c' l (by omega) (by omega) (by omega)]⟩
end
section
/-! ===== what stop and goOn leave ===== -/
theorem x_aimN {o : Int} {H : hR} : Pst (fun p => p.2.1 0 5 0 = H.1 0 5 0) (fX3_aim o H) := by
  unfold fX3_aim fX3_aim_b64 fX3_aim_b92
  repeat' (first | (with_reducible refine pst_gd (fun _ => ?_)) | (with_reducible refine pst_cr (fun _ _ => ?_)) | (with_reducible refine pst_if (fun _ => ?_) (fun _ => ?_)) | (with_reducible refine pst_bnd ?_) | (with_reducible refine pst_some ?_))
  all_goals
    repeat rw [hS_n _ (by omega)]
theorem x_leaveN {o t : Int} : ∀ (fuel : Nat) (cnt i : Int) (H : hR), Pst (fun p => cnt ≤ p.1 ∧ p.2.1 0 5 0 = H.1 0 5 0) (fX3_leaveOutBefore_b10 fuel o t cnt i H)
  | 0, _, _, _ => fun x e => by cases e
  | fuel + 1, cnt, i, H => by
    unfold fX3_leaveOutBefore_b10
    refine pst_gd (fun _ => pst_if (fun _ => pst_some ⟨Int.le_refl _, rfl⟩) (fun _ => pst_gd (fun _ => pst_if (fun _ => pst_some ⟨Int.le_refl _, rfl⟩) (fun _ => pst_bnd (pst_cl (fun y H1 q p e => ?_))))))
    obtain ⟨w1, w2⟩ := x_leaveN fuel (cnt + 1) (i + 1) H1 p e
    have w3 : H1.1 0 5 0 = (hS H 3 o 16 (H.1 3 o 17 + 1)).1 0 5 0 := x_aimN _ q
    rw [hS_n H (by omega)] at w3
    exact ⟨by omega, w2.trans w3⟩
theorem n_stop {T o : Int} {H : hR} (hk : Ok T H) : Pst (fun p => -5 ≤ p.1 ∧ p.2.1 0 5 0 = H.1 0 5 0) (fX2_stopOrder o H) := by
  unfold fX2_stopOrder
  refine pst_cr (fun y1 q1 => pst_gd (fun _ => pst_if (fun _ => pst_some ⟨by show (-5 : Int) ≤ -1; decide, rfl⟩) (fun n1 => pst_gd (fun _ => pst_gd (fun _ => pst_if (fun _ => pst_gd (fun _ => pst_bnd (pst_gd (fun _ => pst_some ?_)))) (fun _ => pst_some ⟨Int.le_refl _, rfl⟩))))))
  have ho := hasO_inv q1 n1
  have w := (hk.2.2.2.1 o ho).2.2
  unfold okC at w
  show -5 ≤ (hS H 3 o 11 1).1 3 o 15 ∧ (hS H 3 o 11 1).1 0 5 0 = H.1 0 5 0
  rw [hS_n H (by omega), hS_n H (by omega)]
  omega
theorem n_goOn {o : Int} {H : hR} : Pst (fun p => -5 ≤ p.1 ∧ p.2.1 0 5 0 = H.1 0 5 0) (fX2_resumeOrder o H) := by
  unfold fX2_resumeOrder fX3_leaveOutBefore
  refine pst_cr (fun y1 q1 => pst_gd (fun _ => pst_if (fun _ => pst_some ⟨by show (-5 : Int) ≤ -1; decide, rfl⟩) (fun _ => pst_gd (fun _ => pst_gd (fun _ => pst_if (fun _ => pst_gd (fun _ => pst_bnd (pst_gd (fun _ => pst_cl (fun r H' q => pst_some ?_))))) (fun _ => pst_some ⟨Int.le_refl _, rfl⟩))))))
  obtain ⟨y, H1, q2, q3⟩ := cl_inv q
  obtain ⟨w1, w2⟩ := x_leaveN fuel0 0 0 H1 _ q3
  have w1 : 0 ≤ r := w1
  have w2 : H'.1 0 5 0 = H1.1 0 5 0 := w2
  have w3 : H1.1 0 5 0 = (hS H 3 o 11 0).1 0 5 0 := x_aimN _ q2
  rw [hS_n H (by omega)] at w3
  show -5 ≤ r ∧ H'.1 0 5 0 = H.1 0 5 0
  omega
end
section
/-! ===== the reference's kept states: a new one ===== -/
theorem em_drops62 : ∀ (d fuel : Nat) (i : Int) (m : mR), i + d = 42000 → 0 ≤ i → d < fuel → ∃ m', fX7_drops_b62 fuel i m = some ((), mS m' 6 7 (m'.1 6 7 - 1)) ∧ (∀ j : Int, m'.1 3 j = if i ≤ j ∧ j < 42000 then m.1 3 (j + 8400) else m.1 3 j) ∧ (∀ t : Int, ¬ t = 3 → m'.1 t = m.1 t) ∧ m'.2 = m.2
  | d, 0, _, _, _, _, h => by omega
  | 0, fuel + 1, i, m, h1, h2, _ => by
    refine ⟨m, ?_, fun j => (if_neg (by omega)).symm, fun _ _ => rfl, rfl⟩
    rw [fX7_drops_b62, gd_pos (by omega), if_pos (by omega)]
    rfl
  | d + 1, fuel + 1, i, m, h1, h2, h3 => by
    obtain ⟨m', q1, q2, q3, q4⟩ := em_drops62 d fuel (i + 1) (mS m 3 i (m.1 3 (i + 8400))) (by omega) (by omega) (by omega)
    refine ⟨m', ?_, fun j => ?_, fun t ht => (q3 t ht).trans (mS_t m _ _ ht), q4⟩
    · rw [fX7_drops_b62, gd_pos (by omega), if_neg (by omega), gd_pos (by omega), gd_pos (by omega), bnd_eq, q1]
    · rw [q2]
      by_cases g : i + 1 ≤ j ∧ j < 42000
      · rw [if_pos g, if_pos (by omega), mS_n m (by omega)]
      · rw [if_neg g]
        by_cases g2 : j = i
        · subst g2
          rw [mS_p, if_pos (by omega)]
        · rw [mS_n m (by omega), if_neg (by omega)]
theorem em_drops33 : ∀ (d fuel : Nat) (i : Int) (m : mR), i + d = 40 → 0 ≤ i → d < fuel → ∃ m', fX7_drops_b33 fuel i m = fX7_drops_b62 fuel0 0 m' ∧ (∀ j : Int, m'.2 1 j = if i ≤ j ∧ j < 40 then m.2 1 (j + 8) else m.2 1 j) ∧ m'.1 = m.1 ∧ ∀ t : Int, ¬ t = 1 → m'.2 t = m.2 t
  | d, 0, _, _, _, _, h => by omega
  | 0, fuel + 1, i, m, h1, h2, _ => by
    refine ⟨m, ?_, fun j => (if_neg (by omega)).symm, rfl, fun _ _ => rfl⟩
    rw [fX7_drops_b33, gd_pos (by omega), if_pos (by omega)]
  | d + 1, fuel + 1, i, m, h1, h2, h3 => by
    obtain ⟨m', q1, q2, q3, q4⟩ := em_drops33 d fuel (i + 1) (mD m 1 i (m.2 1 (i + 8))) (by omega) (by omega) (by omega)
    refine ⟨m', ?_, fun j => ?_, q3, fun t ht => (q4 t ht).trans (mD_t m _ _ ht)⟩
    · rw [fX7_drops_b33, gd_pos (by omega), if_neg (by omega), gd_pos (by omega), gd_pos (by omega), bnd_eq, q1]
    · rw [q2, mD_2, mD_2]
      by_cases g : i + 1 ≤ j ∧ j < 40
      · rw [if_pos g, if_pos (show i ≤ j ∧ j < 40 by omega), if_neg (by omega)]
      · rw [if_neg g]
        by_cases g2 : j = i
        · subst g2
          rw [if_pos ⟨rfl, rfl⟩, if_pos (by omega)]
        · rw [if_neg (by omega), if_neg (by omega)]
theorem em_drops2 : ∀ (d fuel : Nat) (i : Int) (m : mR), i + d = 1885 → 0 ≤ i → d < fuel → ∃ m', fX7_drops_b2 fuel i m = fX7_drops_b33 fuel0 0 m' ∧ (∀ j : Int, m'.1 2 j = if i ≤ j ∧ j < 1885 then m.1 2 (j + 377) else m.1 2 j) ∧ (∀ t : Int, ¬ t = 2 → m'.1 t = m.1 t) ∧ m'.2 = m.2
  | d, 0, _, _, _, _, h => by omega
  | 0, fuel + 1, i, m, h1, h2, _ => by
    refine ⟨m, ?_, fun j => (if_neg (by omega)).symm, fun _ _ => rfl, rfl⟩
    rw [fX7_drops_b2, gd_pos (by omega), if_pos (by omega)]
  | d + 1, fuel + 1, i, m, h1, h2, h3 => by
    obtain ⟨m', q1, q2, q3, q4⟩ := em_drops2 d fuel (i + 1) (mS m 2 i (m.1 2 (i + 377))) (by omega) (by omega) (by omega)
    refine ⟨m', ?_, fun j => ?_, fun t ht => (q3 t ht).trans (mS_t m _ _ ht), q4⟩
    · rw [fX7_drops_b2, gd_pos (by omega), if_neg (by omega), gd_pos (by omega), gd_pos (by omega), bnd_eq, q1]
    · rw [q2]
      by_cases g : i + 1 ≤ j ∧ j < 1885
      · rw [if_pos g, if_pos (by omega), mS_n m (by omega)]
      · rw [if_neg g]
        by_cases g2 : j = i
        · subst g2
          rw [mS_p, if_pos (by omega)]
        · rw [mS_n m (by omega), if_neg (by omega)]
/-- copy k of one is copy l of the other -/
def rowEq (k l : Int) (m m' : mR) : Prop := (∀ j : Int, 0 ≤ j ∧ j < 377 → rowN k m' j = rowN l m j) ∧ (∀ j : Int, 0 ≤ j ∧ j < 8 → rowO k m' j = rowO l m j) ∧ ∀ j : Int, 0 ≤ j ∧ j < 8400 → rowW k m' j = rowW l m j
def rowNow (k : Int) (m m' : mR) : Prop := (∀ j : Int, 0 ≤ j ∧ j < 377 → rowN k m' j = m.1 0 j) ∧ (∀ j : Int, 0 ≤ j ∧ j < 8 → rowO k m' j = m.2 0 j) ∧ ∀ j : Int, 0 ≤ j ∧ j < m.1 0 4 → rowW k m' j = m.1 1 j
/-- all but the copies and their number -/
def sameM (m m' : mR) : Prop := m'.1 0 = m.1 0 ∧ m'.1 1 = m.1 1 ∧ m'.2 0 = m.2 0 ∧ m'.1 4 = m.1 4 ∧ m'.1 5 = m.1 5 ∧ ∀ k : Int, ¬ k = 7 → m'.1 6 k = m.1 6 k
theorem em_drops (m : mR) : ∃ m', fX7_drops m = some ((), m') ∧ sameM m m' ∧ m'.1 6 7 = m.1 6 7 - 1 ∧ (∀ k : Int, 0 ≤ k ∧ k ≤ 4 → rowEq k (k + 1) m m') ∧ ∀ k : Int, 5 ≤ k ∧ k ≤ 8 → rowEq k k m m' := by
  obtain ⟨m1, a1, a2, a3, a4⟩ := em_drops2 1885 fuel0 0 m (by omega) (by omega) (by decide)
  obtain ⟨m2, b1, b2, b3, b4⟩ := em_drops33 40 fuel0 0 m1 (by omega) (by omega) (by decide)
  obtain ⟨m3, c1, c2, c3, c4⟩ := em_drops62 42000 fuel0 0 m2 (by omega) (by omega) (by show _ < 1000000; omega)
  have e : ∀ t : Int, ¬ t = 2 → ¬ t = 3 → m3.1 t = m.1 t := fun t h1 h2 => by rw [c3 t h2, b3, a3 t h1]
  have x2 : ∀ j : Int, (mS m3 6 7 (m3.1 6 7 - 1)).1 2 j = if 0 ≤ j ∧ j < 1885 then m.1 2 (j + 377) else m.1 2 j := fun j => by
    rw [mS_n _ (by omega), c3 2 (by omega), b3, a2]
  have x3 : ∀ j : Int, (mS m3 6 7 (m3.1 6 7 - 1)).1 3 j = if 0 ≤ j ∧ j < 42000 then m.1 3 (j + 8400) else m.1 3 j := fun j => by
    rw [mS_n _ (by omega), c2, b3, a3 3 (by omega)]
  have x1 : ∀ j : Int, (mS m3 6 7 (m3.1 6 7 - 1)).2 1 j = if 0 ≤ j ∧ j < 40 then m.2 1 (j + 8) else m.2 1 j := fun j => by
    show m3.2 1 j = _
    rw [c4, b2, a4]
  refine ⟨mS m3 6 7 (m3.1 6 7 - 1), ?_, ⟨?_, ?_, ?_, ?_, ?_, fun k hk => ?_⟩, ?_, fun k hk => ⟨fun j hj => ?_, fun j hj => ?_, fun j hj => ?_⟩, fun k hk => ⟨fun j hj => ?_, fun j hj => ?_, fun j hj => ?_⟩⟩
  · unfold fX7_drops
    rw [a1, b1, c1]
  · rw [mS_t _ _ _ (by omega), e 0 (by omega) (by omega)]
  · rw [mS_t _ _ _ (by omega), e 1 (by omega) (by omega)]
  · show m3.2 0 = _
    rw [c4, b4 0 (by omega), a4]
  · rw [mS_t _ _ _ (by omega), e 4 (by omega) (by omega)]
  · rw [mS_t _ _ _ (by omega), e 5 (by omega) (by omega)]
  · rw [mS_n _ (by omega), e 6 (by omega) (by omega)]
  · rw [mS_p, e 6 (by omega) (by omega)]
  · unfold rowN
    rw [x2, if_pos (by omega), show (k + 1) * 377 + j = k * 377 + j + 377 by omega]
  · unfold rowO
    rw [x1, if_pos (by omega), show (k + 1) * 8 + j = k * 8 + j + 8 by omega]
  · unfold rowW
    rw [x3, if_pos (by omega), show (k + 1) * 8400 + j = k * 8400 + j + 8400 by omega]
  · unfold rowN
    rw [x2, if_neg (by omega)]
  · unfold rowO
    rw [x1, if_neg (by omega)]
  · unfold rowW
    rw [x3, if_neg (by omega)]
theorem keptAt.row {k l : Int} {m m' : mR} (h : keptAt k m m') (hl : 0 ≤ l) (hk : 0 ≤ k) (hkl : ¬ l = k) : rowEq l l m m' := by
  obtain ⟨h1, h2, h3, h4, h5, -⟩ := h
  refine ⟨fun j hj => ?_, fun j hj => ?_, fun j hj => ?_⟩
  · unfold rowN
    exact h3 _ (by omega)
  · unfold rowO
    exact h5 _ (by omega)
  · unfold rowW
    exact h4 _ (by omega)
theorem sameM.tr {m m1 m2 : mR} (h : sameM m m1) (g : sameM m1 m2) : sameM m m2 := by
  obtain ⟨h1, h2, h3, h4, h5, h6⟩ := h
  obtain ⟨g1, g2, g3, g4, g5, g6⟩ := g
  exact ⟨g1.trans h1, g2.trans h2, g3.trans h3, g4.trans h4, g5.trans h5, fun k a => (g6 k a).trans (h6 k a)⟩
theorem rowEq.tr {k l r : Int} {m m1 m2 : mR} (h : rowEq l r m m1) (g : rowEq k l m1 m2) : rowEq k r m m2 :=
  ⟨fun j hj => (g.1 j hj).trans (h.1 j hj), fun j hj => (g.2.1 j hj).trans (h.2.1 j hj), fun j hj => (g.2.2 j hj).trans (h.2.2 j hj)⟩
/-- after records: the number n' of copies; the last is the present; the others are the newest of those that were -/
def recM (n' d : Int) (m m' : mR) : Prop := sameM m m' ∧ m'.1 6 7 = n' ∧ rowNow (n' - 1) m m' ∧ (∀ i : Int, 0 ≤ i ∧ i < n' - 1 → rowEq i (i + d) m m') ∧ ∀ k : Int, k = 6 ∨ k = 7 → rowEq k k m m'
theorem em_records {m : mR} (hs : 0 ≤ m.1 6 7 ∧ m.1 6 7 ≤ 6) (hn : 0 ≤ m.1 0 4 ∧ m.1 0 4 ≤ 8400) : ∃ m', fX7_records m = some ((), m') ∧ recM (if m.1 6 7 = 6 then 6 else m.1 6 7 + 1) (if m.1 6 7 = 6 then 1 else 0) m m' := by
  have b13 : ∀ m1 : mR, (0 ≤ m1.1 6 7 ∧ m1.1 6 7 ≤ 5) → m1.1 0 4 = m.1 0 4 → ∃ m', fX7_records_b13 m1 = some ((), m') ∧ sameM m1 m' ∧ m'.1 6 7 = m1.1 6 7 + 1 ∧ rowNow (m1.1 6 7) m1 m' ∧ ∀ k : Int, 0 ≤ k → ¬ k = m1.1 6 7 → rowEq k k m1 m' := fun m1 h1 h2 => by
    obtain ⟨m', q1, q2⟩ := em_keeps (k := m1.1 6 7) (m := m1) (by omega) (by omega)
    have q := q2
    obtain ⟨w1, w2, w3, w4, w5, w6, w7, w8⟩ := q2
    have e67 : m'.1 6 7 = m1.1 6 7 := by rw [w1 6 (by omega) (by omega)]
    refine ⟨mS m' 6 7 (m'.1 6 7 + 1), ?_, ⟨?_, ?_, ?_, ?_, ?_, fun k hk => ?_⟩, ?_, ⟨w6, w7, w8⟩, fun k hk hk2 => q.row hk h1.1 hk2⟩
    · unfold fX7_records_b13
      rw [q1, cl_some]
      rfl
    · rw [mS_t _ _ _ (by omega), w1 0 (by omega) (by omega)]
    · rw [mS_t _ _ _ (by omega), w1 1 (by omega) (by omega)]
    · show m'.2 0 = _
      rw [w2 0 (by omega)]
    · rw [mS_t _ _ _ (by omega), w1 4 (by omega) (by omega)]
    · rw [mS_t _ _ _ (by omega), w1 5 (by omega) (by omega)]
    · rw [mS_n _ (by omega), w1 6 (by omega) (by omega)]
    · rw [mS_p, e67]
  by_cases g : m.1 6 7 = 6
  · obtain ⟨m1, a1, a2, a3, a4, a5⟩ := em_drops m
    obtain ⟨m', c1, c2, c3, c4, c5⟩ := b13 m1 (by omega) (by rw [a2.1])
    have e5 : m1.1 6 7 = 5 := by omega
    rw [e5] at c3 c4 c5
    refine ⟨m', ?_, a2.tr c2, by rw [if_pos g, c3]; rfl, ?_, fun i hi => ?_, fun k hk => (a5 k (by omega)).tr (c5 k (by omega) (by omega))⟩
    · unfold fX7_records
      rw [gd_pos (by omega), if_pos g, a1, cl_some, c1]
    · rw [if_pos g]
      obtain ⟨d1, d2, d3⟩ := c4
      rw [a2.1] at d1 d3
      rw [a2.2.1] at d3
      rw [a2.2.2.1] at d2
      exact ⟨d1, d2, d3⟩
    · rw [if_pos g] at hi ⊢
      exact (a4 i (by omega)).tr (c5 i (by omega) (by omega))
  · obtain ⟨m', c1, c2, c3, c4, c5⟩ := b13 m (by omega) rfl
    refine ⟨m', ?_, c2, by rw [if_neg g, c3], ?_, fun i hi => ?_, fun k hk => c5 k (by omega) (by omega)⟩
    · unfold fX7_records
      rw [gd_pos (by omega), if_neg g, c1]
    · rw [if_neg g, show m.1 6 7 + 1 - 1 = m.1 6 7 by omega]
      exact c4
    · rw [if_neg g] at hi ⊢
      rw [show i + 0 = i by omega]
      exact c5 i (by omega) (by omega)
theorem recM.of {n' d : Int} {m m' : mR} (e : fX7_records m = some ((), m')) (h : recM n' d m m') : recOf m m' := ⟨e, h.1.1, h.1.2.1, h.1.2.2.1⟩
end
section
/-! ===== kept states in step ===== -/
def live (T C B : Int) (H : hR) (N W : Int → Int) (O : Int → UInt64) : Prop := SimN T H N W O ∧ okXf C H ∧ 9 * H.1 0 5 0 ≤ B
theorem live.cells {T C B : Int} {H : hR} {k l : Int} {m m' : mR} (h : live T C B H (rowN l m) (rowW l m) (rowO l m)) (e : rowEq k l m m') : live T C B H (rowN k m') (rowW k m') (rowO k m') := by
  obtain ⟨h1, h2⟩ := h
  have k1 := h1.2.2.1
  unfold okN at k1
  have g5 := h1.1.1.2.2.2.2.1
  exact ⟨h1.cells (fun j hj => e.1 j hj) (fun j hj => e.2.2 j (by omega)) (fun j hj => e.2.1 j hj), h2⟩
theorem live.mono {T C B T' C' B' : Int} {H : hR} {N W : Int → Int} {O : Int → UInt64} (h : live T C B H N W O) (hT : T ≤ T') (hC : C ≤ C') (hB : B ≤ B') : live T' C' B' H N W O := by
  obtain ⟨h1, h2, h3⟩ := h
  exact ⟨⟨h1.1, h1.2.1, h1.2.2.mono hT⟩, h2.mono hC, by omega⟩
def HistR (T C B : Int) (c : cR) (m : mR) : Prop :=
  (0 ≤ c.2.1 0 3 ∧ c.2.1 0 3 ≤ 6) ∧ c.2.1 0 4 = m.1 6 7 ∧ (0 ≤ m.1 6 7 ∧ m.1 6 7 ≤ 6) ∧
  (∀ i : Int, 0 ≤ i ∧ i < m.1 6 7 → live T C B (c.1 (2 + (c.2.1 0 3 + i) % 7)) (rowN i m) (rowW i m) (rowO i m)) ∧
  (∀ s : Int, 0 ≤ s ∧ s ≤ 1 → c.2.1 1 s = m.1 4 s ∧ (m.1 4 s = 0 ∨ m.1 4 s = 1) ∧ (m.1 4 s = 1 → live T C B (c.1 (9 + s)) (rowN (6 + s) m) (rowW (6 + s) m) (rowO (6 + s) m))) ∧
  ∀ k : Int, 0 ≤ k ∧ k ≤ 10 → roomOK ((c.1 k).1 4 1 0)
theorem HistR.mono {T C B T' C' B' : Int} {c : cR} {m : mR} (h : HistR T C B c m) (hT : T ≤ T') (hC : C ≤ C') (hB : B ≤ B') : HistR T' C' B' c m := by
  obtain ⟨h1, h2, h3, h4, h5, h6⟩ := h
  exact ⟨h1, h2, h3, fun i hi => (h4 i hi).mono hT hC hB, fun s hs => ⟨(h5 s hs).1, (h5 s hs).2.1, fun q => ((h5 s hs).2.2 q).mono hT hC hB⟩, h6⟩
theorem HistR.fr {T C B : Int} {c c' : cR} {m m' : mR} (h : HistR T C B c m) (hc : ∀ k : Int, 2 ≤ k ∧ k ≤ 10 → c'.1 k = c.1 k) (h0 : roomOK ((c'.1 0).1 4 1 0)) (h1 : roomOK ((c'.1 1).1 4 1 0)) (ht : c'.2.1 = c.2.1) (hr : ∀ l : Int, 0 ≤ l ∧ l ≤ 7 → rowEq l l m m') (h4 : m'.1 4 = m.1 4) (h7 : m'.1 6 7 = m.1 6 7) : HistR T C B c' m' := by
  obtain ⟨a1, a2, a3, a4, a5, a6⟩ := h
  unfold HistR
  rw [ht, h4, h7]
  refine ⟨a1, a2, a3, fun i hi => ?_, fun s hs => ⟨(a5 s hs).1, (a5 s hs).2.1, fun q => ?_⟩, fun k hk => ?_⟩
  · rw [hc _ (by omega)]
    exact (a4 i hi).cells (hr i (by omega))
  · rw [hc _ (by omega)]
    exact ((a5 s hs).2.2 q).cells (hr _ (by omega))
  · by_cases g0 : k = 0
    · rw [g0]; exact h0
    · by_cases g1 : k = 1
      · rw [g1]; exact h1
      · rw [hc k (by omega)]
        exact a6 k hk
theorem cT_p (c : cR) (t a v : Int) : (cT c t a v).2.1 t a = v := by
  show pS c.2.1 t a v t a = v
  exact pS_p _ _ _ _
theorem cT_n (c : cR) {t a v t' a' : Int} (h : ¬ (t' = t ∧ a' = a)) : (cT c t a v).2.1 t' a' = c.2.1 t' a' := by
  show pS c.2.1 t a v t' a' = _
  exact pS_n _ h
def rcd (c : cR) : cR := if 6 ≤ c.2.1 0 4 then cT c 0 3 ((c.2.1 0 3 + 1) % 7) else cT c 0 4 (c.2.1 0 4 + 1)
theorem ec_recorded {r : Int} {c : cR} (hr : wR r) (h3 : 0 ≤ c.2.1 0 3 ∧ c.2.1 0 3 ≤ 6) (h4 : 0 ≤ c.2.1 0 4 ∧ c.2.1 0 4 ≤ 6) : fX6_recorded r c = some (r, if -5 ≤ r ∧ r ≤ -1 then c else rcd c) := by
  have hb := bI_rng (decide (-5 ≤ r ∧ r ≤ -1))
  unfold fX6_recorded
  rw [ev_isErr hr, cr_some, gd_pos (by omega)]
  by_cases g : -5 ≤ r ∧ r ≤ -1
  · rw [bI_t (decide_eq_true g), if_neg (by omega), if_pos g]
  · rw [bI_f (decide_eq_false g), if_pos rfl, if_neg g, gd_pos (by omega)]
    unfold rcd
    by_cases g2 : 6 ≤ c.2.1 0 4
    · rw [if_pos g2, if_pos g2, gd_pos (by omega), rmI_pos (by omega)]
      rfl
    · rw [if_neg g2, if_neg g2]
      rfl
theorem hist_rec {T C B : Int} {c : cR} {m : mR} (h : HistR T C B c m) (hS : Sim T (c.1 0) m) (hX : okXf C (c.1 0)) (hB : 9 * (c.1 0).1 0 5 0 ≤ B) :
    ∃ c1 m1, fX6_remember c = some ((), c1) ∧ recOf m m1 ∧ sameM m m1 ∧ c1.1 0 = c.1 0 ∧ c1.1 1 = c.1 1 ∧ c1.2 = c.2 ∧ HistR T C B c1 m ∧ HistR T C B (rcd c1) m1 := by
  obtain ⟨a1, a2, a3, a4, a5, a6⟩ := h
  have k1 := hS.2.2.1
  unfold okN at k1
  have e4 := hS.1.1.2.2.2.2.1
  obtain ⟨H1, f1, f2⟩ := ec_copy (H2 := c.1 0) (H := c.1 (2 + (c.2.1 0 3 + c.2.1 0 4) % 7)) hS.2.2.copyP.1 hS.2.2.copyP.2 (a6 _ (by omega))
  obtain ⟨m1, r1, r2⟩ := em_records (m := m) a3 (by omega)
  have q0 : (cH c (2 + (c.2.1 0 3 + c.2.1 0 4) % 7) H1).1 (2 + (c.2.1 0 3 + c.2.1 0 4) % 7) = H1 := up1_p _ _ _
  have qn : ∀ k : Int, ¬ k = 2 + (c.2.1 0 3 + c.2.1 0 4) % 7 → (cH c (2 + (c.2.1 0 3 + c.2.1 0 4) % 7) H1).1 k = c.1 k := fun k q => up1_n _ _ q
  have hN : SimN T (c.1 0) (m.1 0) (m.1 1) (m.2 0) := hS
  have hN1 := hN.copy f2
  have hl : ∀ k : Int, rowNow k m m1 → live T C B H1 (rowN k m1) (rowW k m1) (rowO k m1) := fun k w => ⟨hN1.cells (fun j hj => w.1 j hj) (fun j hj => w.2.2 j hj) (fun j hj => w.2.1 j hj), hX.copy hS.2.2 f2, by rw [f2.1 5 (by omega)]; exact hB⟩
  have hroom : ∀ k : Int, 0 ≤ k ∧ k ≤ 10 → roomOK (((cH c (2 + (c.2.1 0 3 + c.2.1 0 4) % 7) H1).1 k).1 4 1 0) := fun k hk => by
    by_cases g : k = 2 + (c.2.1 0 3 + c.2.1 0 4) % 7
    · rw [g, q0]
      exact fc_room hN1.2.2
    · rw [qn k g]
      exact a6 k hk
  refine ⟨cH c (2 + (c.2.1 0 3 + c.2.1 0 4) % 7) H1, m1, ?_, r2.of r1, r2.1, qn 0 (by omega), qn 1 (by omega), rfl, ⟨a1, a2, a3, fun i hi => ?_, fun s hs => ⟨(a5 s hs).1, (a5 s hs).2.1, fun q => ?_⟩, hroom⟩, ?_⟩
  · unfold fX6_remember fX6_rowBehindLatest
    rw [gd_pos (by omega), cr_some, rmI_pos (by omega), gd_pos (by omega), f1]
    rfl
  · show live T C B ((cH c (2 + (c.2.1 0 3 + c.2.1 0 4) % 7) H1).1 (2 + (c.2.1 0 3 + i) % 7)) _ _ _
    rw [qn _ (by omega)]
    exact a4 i hi
  · rw [qn _ (by omega)]
    exact (a5 s hs).2.2 q
  · obtain ⟨s1, s2, s3, s4, s5⟩ := r2
    have slots : ∀ c2 : cR, c2.1 = (cH c (2 + (c.2.1 0 3 + c.2.1 0 4) % 7) H1).1 → (∀ s : Int, c2.2.1 1 s = c.2.1 1 s) → ∀ s : Int, 0 ≤ s ∧ s ≤ 1 → c2.2.1 1 s = m1.1 4 s ∧ (m1.1 4 s = 0 ∨ m1.1 4 s = 1) ∧ (m1.1 4 s = 1 → live T C B (c2.1 (9 + s)) (rowN (6 + s) m1) (rowW (6 + s) m1) (rowO (6 + s) m1)) := fun c2 w1 w2 s hs => by
      rw [w2, s1.2.2.2.1, w1, qn _ (by omega)]
      exact ⟨(a5 s hs).1, (a5 s hs).2.1, fun q => ((a5 s hs).2.2 q).cells (s5 _ (by omega))⟩
    unfold rcd
    show HistR T C B (if 6 ≤ c.2.1 0 4 then cT (cH c (2 + (c.2.1 0 3 + c.2.1 0 4) % 7) H1) 0 3 ((c.2.1 0 3 + 1) % 7) else cT (cH c (2 + (c.2.1 0 3 + c.2.1 0 4) % 7) H1) 0 4 (c.2.1 0 4 + 1)) m1
    by_cases g : m.1 6 7 = 6
    · rw [if_pos (by omega)]
      rw [if_pos g] at s2 s3 s4
      rw [if_pos g] at s4
      have z3 : (cT (cH c (2 + (c.2.1 0 3 + c.2.1 0 4) % 7) H1) 0 3 ((c.2.1 0 3 + 1) % 7)).2.1 0 3 = (c.2.1 0 3 + 1) % 7 := cT_p _ _ _ _
      have z4 : (cT (cH c (2 + (c.2.1 0 3 + c.2.1 0 4) % 7) H1) 0 3 ((c.2.1 0 3 + 1) % 7)).2.1 0 4 = c.2.1 0 4 := cT_n _ (by omega)
      refine ⟨by rw [z3]; omega, by rw [z4, s2]; omega, by omega, fun i hi => ?_, slots _ rfl (fun s => cT_n _ (by omega)), hroom⟩
      rw [z3]
      show live T C B ((cH c (2 + (c.2.1 0 3 + c.2.1 0 4) % 7) H1).1 (2 + ((c.2.1 0 3 + 1) % 7 + i) % 7)) _ _ _
      by_cases gi : i = 5
      · subst gi
        rw [show 2 + ((c.2.1 0 3 + 1) % 7 + 5) % 7 = 2 + (c.2.1 0 3 + c.2.1 0 4) % 7 by omega, q0]
        exact hl 5 s3
      · rw [show 2 + ((c.2.1 0 3 + 1) % 7 + i) % 7 = 2 + (c.2.1 0 3 + (i + 1)) % 7 by omega, qn _ (by omega)]
        exact (a4 (i + 1) (by omega)).cells (s4 i (by omega))
    · rw [if_neg (by omega)]
      rw [if_neg g] at s2 s3 s4
      rw [if_neg g] at s4
      have z3 : (cT (cH c (2 + (c.2.1 0 3 + c.2.1 0 4) % 7) H1) 0 4 (c.2.1 0 4 + 1)).2.1 0 3 = c.2.1 0 3 := cT_n _ (by omega)
      have z4 : (cT (cH c (2 + (c.2.1 0 3 + c.2.1 0 4) % 7) H1) 0 4 (c.2.1 0 4 + 1)).2.1 0 4 = c.2.1 0 4 + 1 := cT_p _ _ _ _
      refine ⟨by rw [z3]; omega, by rw [z4, s2]; omega, by omega, fun i hi => ?_, slots _ rfl (fun s => cT_n _ (by omega)), hroom⟩
      rw [z3]
      show live T C B ((cH c (2 + (c.2.1 0 3 + c.2.1 0 4) % 7) H1).1 (2 + (c.2.1 0 3 + i) % 7)) _ _ _
      by_cases gi : i = m.1 6 7
      · subst gi
        rw [← a2, q0, a2]
        have s3' := s3
        rw [show m.1 6 7 + 1 - 1 = m.1 6 7 by omega] at s3'
        exact hl _ s3'
      · rw [qn _ (by omega)]
        have := s4 i (by omega)
        rw [show i + 0 = i by omega] at this
        exact (a4 i (by omega)).cells this
end
section
/-! ===== what every call keeps ===== -/
def Inv (T C To : Int) (c : cR) (m : mR) : Prop :=
  Sim T (c.1 0) m ∧ okXf C (c.1 0) ∧ padR c m ∧ 9 * (c.1 0).1 0 5 0 + m.1 6 10 ≤ 9 * To ∧ HistR T C (9 * To - m.1 6 10) c m
theorem Inv.mono {T C To T' C' To' : Int} {c : cR} {m : mR} (h : Inv T C To c m) (hT : T ≤ T') (hC : C ≤ C') (hTo : To ≤ To') : Inv T' C' To' c m := by
  obtain ⟨h1, h2, h3, h4, h5⟩ := h
  exact ⟨⟨h1.1, h1.2.1, h1.2.2.mono hT⟩, h2.mono hC, h3, by omega, h5.mono hT hC (by omega)⟩
theorem rcd_1 (c : cR) : (rcd c).1 = c.1 := by
  unfold rcd
  split <;> rfl
theorem rcd_p (c : cR) : (rcd c).2.2 = c.2.2 := by
  unfold rcd
  split <;> rfl
theorem rcd_t {c c' : cR} (h : c'.2.1 = c.2.1) : (rcd c').2.1 = (rcd c).2.1 := by
  unfold rcd
  rw [h]
  split
  · show up2 c'.2.1 0 3 _ = up2 c.2.1 0 3 _
    rw [h]
  · show up2 c'.2.1 0 4 _ = up2 c.2.1 0 4 _
    rw [h]
theorem rowEq.of {l : Int} {m m' : mR} (h2 : m'.1 2 = m.1 2) (h3 : m'.1 3 = m.1 3) (h1 : m'.2 1 = m.2 1) : rowEq l l m m' := by
  refine ⟨fun j _ => ?_, fun j _ => ?_, fun j _ => ?_⟩
  · unfold rowN
    rw [h2]
  · unfold rowO
    rw [h1]
  · unfold rowW
    rw [h3]
theorem padR.fr {c c' : cR} {m m' : mR} (h : padR c m) (hp : c'.2.2 = c.2.2) (h5 : m'.1 5 = m.1 5) (h10 : m'.1 6 10 = m.1 6 10) : padR c' m' := by
  unfold padR
  rw [hp, h5, h10]
  exact h
/-- a call that changes the house -/
theorem inv_call {T C To C' To' : Int} {c : cR} {m : mR} {F : hR → Option (Int × hR)} {R : Option (Int × mR)} (I : Inv T C To c m) (hk : callOK T (c.1 0) m (F (c.1 0)) R) (hC : C ≤ C') (hTo : To ≤ To') (hx : Pst (fun p => okXf C' p.2 ∧ 9 * p.2.1 0 5 0 + m.1 6 10 ≤ 9 * To') (F (c.1 0))) :
    ∃ r c' m', (cl (fX6_remember c) fun _ c1 => cl (F (c1.1 0)) fun r11 t11 => bnd (cH c1 0 t11) fun c11 => cl (fX6_recorded r11 c11) fun r14 c14 => some (r14, c14)) = some (r, c') ∧ R = some (r, m') ∧ wR r ∧ Inv (T + 1) C' To' c' m' := by
  obtain ⟨i1, i2, i3, i4, i5⟩ := I
  obtain ⟨c1, m1, q1, q2, q3, q4, q5, q6, q7, q8⟩ := hist_rec i5 i1 i2 (by omega)
  obtain ⟨r, H', e1, hr, e2⟩ := hk
  obtain ⟨x1, x2⟩ := hx _ e1
  have hc0 : (cH c1 0 H').1 0 = H' := by
    show up1 c1.1 0 H' 0 = H'
    exact up1_p _ _ _
  have hcn : ∀ k : Int, ¬ k = 0 → (cH c1 0 H').1 k = c1.1 k := fun k q => up1_n _ _ q
  have hf := q7.1
  have hf4 : c1.2.1 0 4 = m.1 6 7 := q7.2.1
  have hf7 := q7.2.2.1
  have er : (cl (fX6_remember c) fun _ c1 => cl (F (c1.1 0)) fun r11 t11 => bnd (cH c1 0 t11) fun c11 => cl (fX6_recorded r11 c11) fun r14 c14 => some (r14, c14)) = some (r, if -5 ≤ r ∧ r ≤ -1 then cH c1 0 H' else rcd (cH c1 0 H')) := by
    rw [q1, cl_some, q4, e1, cl_some, bnd_eq, ec_recorded (c := cH c1 0 H') hr (show 0 ≤ c1.2.1 0 3 ∧ c1.2.1 0 3 ≤ 6 from hf) (show 0 ≤ c1.2.1 0 4 ∧ c1.2.1 0 4 ≤ 6 by omega)]
    rfl
  have room1 : roomOK ((c1.1 1).1 4 1 0) := q7.2.2.2.2.2 1 (by omega)
  rcases e2 with ⟨r1, r1', rfl, r3⟩ | ⟨r1, r2⟩
  · rw [if_pos (by omega)] at er
    refine ⟨r, cH c1 0 (c.1 0), m, er, r3, hr, ?_⟩
    refine ⟨?_, ?_, i3.fr (by show c1.2.2 = _; rw [q6]) rfl rfl, ?_, ((q7.fr (fun k hk => hcn k (by omega)) ?_ ?_ rfl (fun l hl => rowEq.of rfl rfl rfl) rfl rfl).mono (by omega) hC (by omega))⟩
    · rw [hc0]
      exact ⟨i1.1, i1.2.1, i1.2.2.mono (by omega)⟩
    · rw [hc0]
      exact x1
    · rw [hc0]
      exact x2
    · rw [hc0]
      exact fc_room i1.2.2
    · rw [hcn 1 (by omega)]
      exact room1
  · obtain ⟨m', w1, w2, w3⟩ := r2 m1 q2
    obtain ⟨v1, v2, v3, v4, v5, v6⟩ := w3
    have e10 : m'.1 6 10 = m.1 6 10 := (v6 10 (by omega)).trans (q3.2.2.2.2.2 10 (by omega))
    have e5 : m'.1 5 = m.1 5 := v5.trans q3.2.2.2.2.1
    rw [if_neg r1] at er
    refine ⟨r, rcd (cH c1 0 H'), m', er, w1, hr, ?_⟩
    have g0 : (rcd (cH c1 0 H')).1 0 = H' := by rw [rcd_1, hc0]
    refine ⟨by rw [g0]; exact w2, by rw [g0]; exact x1, i3.fr (by rw [rcd_p]; show c1.2.2 = _; rw [q6]) e5 e10, by rw [g0, e10]; exact x2, ?_⟩
    rw [e10]
    have hk' : ∀ k : Int, 2 ≤ k ∧ k ≤ 10 → (rcd (cH c1 0 H')).1 k = (rcd c1).1 k := fun k hk => by
      rw [rcd_1 c1, rcd_1 (cH c1 0 H')]
      exact hcn k (by omega)
    have h8 : HistR T C (9 * To - m.1 6 10) (rcd (cH c1 0 H')) m' := q8.fr hk' (by rw [g0]; exact fc_room w2.2.2) (by rw [rcd_1 (cH c1 0 H'), hcn 1 (by omega)]; exact room1) (rcd_t rfl) (fun l hl => rowEq.of v1 v2 v3) v4 (v6 7 (by omega))
    exact h8.mono (by omega) hC (by omega)
end
section
/-! ===== each call keeps it ===== -/
def stepI (T C To : Int) (A : Option (Int × cR)) (B : Option (Int × mR)) : Prop := ∃ r c' m', A = some (r, c') ∧ B = some (r, m') ∧ wR r ∧ ∃ C' To', (C ≤ C' ∧ To ≤ To' ∧ C' + To' ≤ C + To + 1) ∧ Inv (T + 100) C' To' c' m'
theorem stepI.of {T C To C' To' : Int} {A : Option (Int × cR)} {B : Option (Int × mR)} (h : ∃ r c' m', A = some (r, c') ∧ B = some (r, m') ∧ wR r ∧ Inv (T + 1) C' To' c' m') (hC : C ≤ C' ∧ To ≤ To' ∧ C' + To' ≤ C + To + 1) : stepI T C To A B := by
  obtain ⟨r, c', m', h1, h2, h3, h4⟩ := h
  exact ⟨r, c', m', h1, h2, h3, C', To', hC, h4.mono (by omega) (by omega) (by omega)⟩
theorem frX.pst {T C To : Int} {c : cR} {m : mR} {o : Option (Int × hR)} (I : Inv T C To c m) (h : Pst (fun p => frX (c.1 0) p.2) o) : Pst (fun p => okXf (C + 1) p.2 ∧ 9 * p.2.1 0 5 0 + m.1 6 10 ≤ 9 * To) o := fun p e => by
  have f := h p e
  have h4 := I.2.2.2.1
  refine ⟨I.2.1.up I.1.2.2 f, ?_⟩
  rw [f 0 5 0 (by omega) (by omega) (by omega) (by omega)]
  exact h4
theorem iv_set {T C To : Int} {c : cR} {m : mR} (I : Inv T C To c m) {s v : Int} (hs : wR s) (hv : wR v) : stepI T C To (fX6_set s v c) (fX7_set s v m) :=
  stepI.of (C' := C + 1) (To' := To) (inv_call (F := fun H => fX2_replaceSetting s v H) I (ls_set I.1 hs hv) (by omega) (by omega) (frX.pst I x_set)) (by omega)
theorem iv_account {T C To : Int} {c : cR} {m : mR} (hT : 0 ≤ T) (I : Inv T C To c m) {s v : Int} (hs : wR s) (hv : wR v) : stepI T C To (fX6_account s v c) (fX7_account s v m) :=
  stepI.of (C' := C + 1) (To' := To) (inv_call (F := fun H => fX2_addAccount s v H) I (ls_account hT I.1 hs hv) (by omega) (by omega) (frX.pst I x_account)) (by omega)
theorem iv_feed {T C To : Int} {c : cR} {m : mR} (I : Inv T C To c m) {s v : Int} (hs : wR s) (hv : wR v) : stepI T C To (fX6_feed s v c) (fX7_feed s v m) :=
  stepI.of (C' := C + 1) (To' := To) (inv_call (F := fun H => fX2_nameFeeder s v H) I (ls_feed I.1 hs hv) (by omega) (by omega) (frX.pst I x_feed)) (by omega)
theorem iv_deposit {T C To : Int} {c : cR} {m : mR} (hT : T ≤ 100000) (I : Inv T C To c m) {s v : Int} (hs : wR s) (hv : wR v) : stepI T C To (fX6_deposit s v c) (fX7_deposit s v m) :=
  stepI.of (C' := C + 1) (To' := To) (inv_call (F := fun H => fX2_payIn s v H) I (ls_depositC hT I.1 hs hv) (by omega) (by omega) (frX.pst I x_deposit)) (by omega)
theorem iv_change {T C To : Int} {c : cR} {m : mR} (I : Inv T C To c m) {o a p : Int} (ho : wR o) (ha : wR a) (hp : wR p) : stepI T C To (fX6_change o a p c) (fX7_change o a p m) :=
  stepI.of (C' := C + 1) (To' := To) (inv_call (F := fun H => fX2_alterOrder o a p H) I (ls_change I.1 ho ha hp) (by omega) (by omega) (frX.pst I x_change)) (by omega)
theorem n_mark {d s : Int} {H : hR} : Pst (fun p => p.2.1 0 5 0 = H.1 0 5 0) (fX1_mark d s H) := by
  unfold fX1_mark fX1_mark_b38 fX1_mark_b63 fX1_mark_b96
  repeat' (first | (with_reducible refine pst_gd (fun _ => ?_)) | (with_reducible refine pst_cr (fun _ _ => ?_)) | (with_reducible refine pst_if (fun _ => ?_) (fun _ => ?_)) | (with_reducible refine pst_bnd ?_) | (with_reducible refine pst_some ?_))
  all_goals first
    | rfl
    | (rw [hS_n _ (by omega), hS_n _ (by omega)])
theorem iv_holiday {T C To : Int} {c : cR} {m : mR} (I : Inv T C To c m) {d s : Int} (hd : wR d) (hs : wR s) : stepI T C To (fX6_holiday d s c) (fX7_holiday d s m) :=
  stepI.of (C' := C + 1) (To' := To) (inv_call (F := fun H => fX1_mark d s H) I (ls_holiday I.1 hd hs) (by omega) (by omega) (fun p e => ⟨x_mark I.2.1 I.1.2.2 p e, by rw [n_mark p e]; exact I.2.2.2.1⟩)) (by omega)
theorem iv_stop {T C To : Int} {c : cR} {m : mR} (I : Inv T C To c m) {o : Int} (ho : wR o) : stepI T C To (fX6_stop o c) (fX7_stop o m) :=
  stepI.of (C' := C + 1) (To' := To) (inv_call (F := fun H => fX2_stopOrder o H) I (ls_stopC I.1 ho) (by omega) (by omega) (fun p e => ⟨x_stop I.2.1 I.1.2.2 p e, by rw [(n_stop I.1.2.2 p e).2]; exact I.2.2.2.1⟩)) (by omega)
theorem iv_goOn {T C To : Int} {c : cR} {m : mR} (I : Inv T C To c m) {o : Int} (ho : wR o) : stepI T C To (fX6_goOn o c) (fX7_goOn o m) :=
  stepI.of (C' := C + 1) (To' := To) (inv_call (F := fun H => fX2_resumeOrder o H) I (ls_goOnC I.1 ho) (by omega) (by omega) (fun p e => ⟨(x_goOn I.1 I.2.1 p e).mono (by omega), by rw [(n_goOn p e).2]; exact I.2.2.2.1⟩)) (by omega)
theorem iv_giveUp {T C To : Int} {c : cR} {m : mR} (I : Inv T C To c m) {p : Int} (hp : wR p) : stepI T C To (fX6_giveUp p c) (fX7_giveUp p m) :=
  stepI.of (C' := C + 1) (To' := To) (inv_call (F := fun H => fX2_dropPayment p H) I (ls_giveUp I.1 hp) (by omega) (by omega) (fun q e => ⟨(x_giveUp I.1.2.2 I.2.1 q e).1, by rw [(x_giveUp I.1.2.2 I.2.1 q e).2]; exact I.2.2.2.1⟩)) (by omega)
theorem iv_order {T C To : Int} {c : cR} {m : mR} (I : Inv T C To c m) {x1 x2 x3 x4 x5 x6 : Int} (h1 : wR x1) (h2 : wR x2) (h3 : wR x3) (h4 : wR x4) (h5 : wR x5) (h6 : wR x6) : stepI T C To (fX6_order x1 x2 x3 x4 x5 x6 c) (fX7_order x1 x2 x3 x4 x5 x6 m) :=
  stepI.of (C' := C) (To' := To + 1) (inv_call (F := fun H => fX2_addOrder x1 x2 x3 x4 x5 x6 H) I (ls_orderC I.1 h1 h2 h3 h4 h5 h6) (by omega) (by omega) (fun p e => ⟨x_order I.1 I.2.1 h1 h2 h3 h4 h5 h6 p e, by
    obtain ⟨P, g1, g2⟩ := I.2.1
    have w := (xp_order I.1 g1 g2 h1 h2 h3 h4 h5 h6 p e).2.2
    have h4' := I.2.2.2.1
    omega⟩)) (by omega)
/-- the pad's calls -/
theorem iv_pad {T C To : Int} {c c' : cR} {m m' : mR} (I : Inv T C To c m) (h1 : c'.1 = c.1) (h2 : c'.2.1 = c.2.1) (hp : padR c' m') (ht : ∀ t : Int, ¬ t = 5 → ¬ t = 6 → m'.1 t = m.1 t) (hd : m'.2 = m.2) (hk : m'.1 6 7 = m.1 6 7) (hl : m'.1 6 10 ≤ m.1 6 10 + 9) : Inv T C (To + 1) c' m' := by
  obtain ⟨i1, i2, i3, i4, i5⟩ := I
  refine ⟨?_, by rw [h1]; exact i2, hp, by rw [h1]; omega, ?_⟩
  · rw [h1]
    exact ⟨i1.1.oth (ht 0 (by omega) (by omega)) (ht 1 (by omega) (by omega)) (by rw [hd]), by rw [ht 0 (by omega) (by omega)]; exact i1.2.1, i1.2.2⟩
  · have h8 : HistR T C (9 * To - m.1 6 10) c' m' := i5.fr (fun k _ => by rw [h1]) (by rw [h1]; exact i5.2.2.2.2.2 0 (by omega)) (by rw [h1]; exact i5.2.2.2.2.2 1 (by omega)) h2 (fun l hl => rowEq.of (ht 2 (by omega) (by omega)) (ht 3 (by omega) (by omega)) (by rw [hd])) (ht 4 (by omega) (by omega)) hk
    exact h8.mono (Int.le_refl _) (Int.le_refl _) (by omega)
end
section
/-! ===== days keeps it ===== -/
theorem Inv.step {T C To C' To' : Int} {A : Option (Int × cR)} {B : Option (Int × mR)} {r : Int} {c' : cR} {m' : mR} (hA : A = some (r, c')) (hB : B = some (r, m')) (hr : wR r) (h : Inv (T + 1) C' To' c' m') (hC : C ≤ C' ∧ To ≤ To' ∧ C' + To' ≤ C + To + 1) : stepI T C To A B := stepI.of ⟨r, c', m', hA, hB, hr, h⟩ hC
theorem iv_days {T C To n : Int} {c : cR} {m : mR} (hT : 0 ≤ T ∧ T ≤ 100000) (hC : 0 ≤ C ∧ C + 1 + To ≤ 512) (I : Inv T C To c m) (hn : wR n) : stepI T C To (fX6_days n c) (fX7_days n m) := by
  have I0 := I
  obtain ⟨i1, i2, i3, i4, i5⟩ := I
  have ks := i1.2.2.2.1
  unfold okS at ks
  have hL := i3.2.1
  have e0 : m.1 0 0 = (c.1 0).1 0 6 0 := i1.1.1.1
  have err : ∀ r : Int, -5 ≤ r → r ≤ -1 → fX2_errorOfDays n (c.1 0) = some r → fX7_checksDays n m = some r → stepI T C To (fX6_days n c) (fX7_days n m) := fun r r1 r2 q1 q2 => by
    refine Inv.step (r := r) (c' := c) (m' := m) ?_ ?_ (by omega) (I0.mono (by omega) (Int.le_refl C) (Int.le_refl To)) (by omega)
    · unfold fX6_days
      rw [q1, cr_some, gd_pos (by omega), if_neg (by omega)]
    · unfold fX7_days
      rw [q2, cr_some, gd_pos (by omega), if_neg (by omega)]
  by_cases g1 : 1 ≤ n ∧ n ≤ 400
  · by_cases g2 : (c.1 0).1 0 6 0 + n ≤ 1094
    · have hq1 : fX2_errorOfDays n (c.1 0) = some 0 := by
        unfold fX2_errorOfDays
        rw [ev_btT (by omega), cr_some, gd_pos (by omega), if_neg (by omega), gd_pos (by omega), if_pos g2]
      have hq2 : fX7_checksDays n m = some 0 := by
        unfold fX7_checksDays
        rw [gd_pos (by omega), ev_inT (by omega), cr_some, gd_pos (by omega), if_neg (by omega), ev_today, cr_some, e0, gd_pos (by omega), if_pos g2]
      obtain ⟨c1, m1, q1, q2, q3, q4, q5, q6, q7, q8⟩ := hist_rec i5 i1 i2 (by omega)
      obtain ⟨H', m', z1, z2, z3, z4, z5, z6, z7⟩ := ls_days (C := C + 1) hT (by omega) (n := n) (by omega) (i1.rec q2) i2.d
      have hc0 : (cH c1 0 H').1 0 = H' := by
        show up1 c1.1 0 H' 0 = H'
        exact up1_p _ _ _
      have hcn : ∀ k : Int, ¬ k = 0 → (cH c1 0 H').1 k = c1.1 k := fun k q => up1_n _ _ q
      have ks2 := z3.2.2.2.1
      unfold okS at ks2
      have hf := q7.1
      have hf4 : c1.2.1 0 4 = m.1 6 7 := q7.2.1
      have hf7 := q7.2.2.1
      have g0 : (rcd (cH c1 0 H')).1 0 = H' := by rw [rcd_1, hc0]
      obtain ⟨v1, v2, v3⟩ := z7
      have e10 : m'.1 6 10 = m.1 6 10 := (v3 10 (by omega)).trans (q3.2.2.2.2.2 10 (by omega))
      have e5 : m'.1 5 = m.1 5 := (v1 5 (by omega) (by omega) (by omega)).trans q3.2.2.2.2.1
      have hk' : ∀ k : Int, 2 ≤ k ∧ k ≤ 10 → (rcd (cH c1 0 H')).1 k = (rcd c1).1 k := fun k hk => by
        rw [rcd_1 c1, rcd_1 (cH c1 0 H')]
        exact hcn k (by omega)
      have h8 : HistR T C (9 * To - m.1 6 10) (rcd (cH c1 0 H')) m' := q8.fr hk' (by rw [g0]; exact fc_room z3.2.2) (by rw [rcd_1 (cH c1 0 H'), hcn 1 (by omega)]; exact q7.2.2.2.2.2 1 (by omega)) (rcd_t rfl) (fun l hl => rowEq.of (v1 2 (by omega) (by omega) (by omega)) (v1 3 (by omega) (by omega) (by omega)) v2) (v1 4 (by omega) (by omega) (by omega)) (v3 7 (by omega))
      refine Inv.step (r := H'.1 0 6 0) (c' := rcd (cH c1 0 H')) (m' := m') (C' := C + 1) (To' := To) ?_ ?_ (by omega) ⟨?_, ?_, i3.fr (by rw [rcd_p]; show c1.2.2 = _; rw [q6]) e5 e10, ?_, ?_⟩ (by omega)
      · unfold fX6_days
        rw [hq1, cr_some, gd_pos (by omega), if_pos rfl, q1, cl_some, q4, z1, cl_some, bnd_eq, hc0, ec_recorded (c := cH c1 0 H') (by omega) (show 0 ≤ c1.2.1 0 3 ∧ c1.2.1 0 3 ≤ 6 from hf) (show 0 ≤ c1.2.1 0 4 ∧ c1.2.1 0 4 ≤ 6 by omega), if_neg (by omega)]
        rfl
      · unfold fX7_days
        rw [hq2, cr_some, gd_pos (by omega), if_pos rfl, q2.1, cl_some, z2]
        rfl
      · rw [g0]
        exact ⟨z3.1, z3.2.1, z3.2.2.mono (by omega)⟩
      · rw [g0]
        exact z4.f
      · rw [g0, e10, z5]
        exact i4
      · rw [e10]
        exact h8.mono (by omega) (by omega) (Int.le_refl _)
    · refine err (-5) (by omega) (by omega) ?_ ?_
      · unfold fX2_errorOfDays
        rw [ev_btT (by omega), cr_some, gd_pos (by omega), if_neg (by omega), gd_pos (by omega), if_neg g2]
      · unfold fX7_checksDays
        rw [gd_pos (by omega), ev_inT (by omega), cr_some, gd_pos (by omega), if_neg (by omega), ev_today, cr_some, e0, gd_pos (by omega), if_neg g2]
  · refine err (-2) (by omega) (by omega) ?_ ?_
    · unfold fX2_errorOfDays
      rw [ev_btF (by omega), cr_some, gd_pos (by omega), if_pos rfl]
    · unfold fX7_checksDays
      rw [gd_pos (by omega), ev_inF (by omega), cr_some, gd_pos (by omega), if_pos rfl]
end
section
/-! ===== undo, save, restore keep it ===== -/
theorem live.size {T C B : Int} {H : hR} {N W : Int → Int} {O : Int → UInt64} (h : live T C B H N W O) : 0 ≤ N 4 ∧ N 4 ≤ 8400 ∧ N 4 = H.1 4 2 0 := by
  have k1 := h.1.2.2.1
  unfold okN at k1
  have g5 := h.1.1.1.2.2.2.2.1
  omega
/-- a kept state comes back -/
theorem live.back {T C B k : Int} {H H1 : hR} {m m' : mR} (h : live T C B H (rowN k m) (rowW k m) (rowO k m)) (c : copyR H H1) (b : backFrom k m m') : Sim T H1 m' ∧ okXf C H1 ∧ 9 * H1.1 0 5 0 ≤ B := by
  obtain ⟨h1, h2, h3⟩ := h
  obtain ⟨b1, b2, b3, b4, b5⟩ := b
  have := (h1.copy c).cells (N' := m'.1 0) (W' := m'.1 1) (O' := m'.2 0) b3 b5 b4
  exact ⟨this, h2.copy h1.2.2 c, by rw [c.1 5 (by omega)]; exact h3⟩
theorem iv_undo {T C To : Int} {c : cR} {m : mR} (I : Inv T C To c m) : stepI T C To (fX6_undo c) (fX7_undo m) := by
  have I0 := I
  obtain ⟨i1, i2, i3, i4, a1, a2, a3, a4, a5, a6⟩ := I
  by_cases g : m.1 6 7 = 0
  · refine Inv.step (r := -5) (c' := c) (m' := m) ?_ ?_ (by omega) (I0.mono (by omega) (Int.le_refl C) (Int.le_refl To)) (by omega)
    · unfold fX6_undo
      rw [gd_pos (by omega), if_pos (by omega)]
    · unfold fX7_undo
      rw [gd_pos (by omega), if_pos g]
  · have hl := a4 (m.1 6 7 - 1) (by omega)
    have hz := hl.size
    obtain ⟨H1, f1, f2⟩ := ec_copy (H2 := c.1 (2 + (c.2.1 0 3 + (m.1 6 7 - 1)) % 7)) (H := c.1 0) hl.1.2.2.copyP.1 hl.1.2.2.copyP.2 (fc_room i1.2.2)
    have e67 : (mS m 6 7 (m.1 6 7 - 1)).1 6 7 = m.1 6 7 - 1 := mS_p _ _ _ _
    have hre : rowEq (m.1 6 7 - 1) (m.1 6 7 - 1) m (mS m 6 7 (m.1 6 7 - 1)) := rowEq.of (mS_t _ _ _ (by omega)) (mS_t _ _ _ (by omega)) rfl
    have hl2 := hl.cells hre
    have hz2 := hl2.size
    obtain ⟨m', b1, b2⟩ := em_brings (k := m.1 6 7 - 1) (m := mS m 6 7 (m.1 6 7 - 1)) (by omega) (by omega)
    obtain ⟨w1, w2, w3⟩ := hl2.back f2 b2
    have e : ∀ t : Int, ¬ t = 0 → ¬ t = 1 → m'.1 t = (mS m 6 7 (m.1 6 7 - 1)).1 t := b2.1
    have e7 : m'.1 6 7 = m.1 6 7 - 1 := by rw [e 6 (by omega) (by omega), e67]
    have e6 : ∀ k : Int, ¬ k = 7 → m'.1 6 k = m.1 6 k := fun k q => by rw [e 6 (by omega) (by omega), mS_n _ (by omega)]
    have et : ∀ t : Int, ¬ t = 0 → ¬ t = 1 → ¬ t = 6 → m'.1 t = m.1 t := fun t q1 q2 q3 => (e t q1 q2).trans (mS_t _ _ _ q3)
    have ed : m'.2 1 = m.2 1 := b2.2.1 1 (by omega)
    have hr : ∀ l : Int, rowEq l l m m' := fun l => rowEq.of (et 2 (by omega) (by omega) (by omega)) (et 3 (by omega) (by omega) (by omega)) ed
    have z3 : (cT c 0 4 (c.2.1 0 4 - 1)).2.1 0 3 = c.2.1 0 3 := cT_n _ (by omega)
    have z4 : (cT c 0 4 (c.2.1 0 4 - 1)).2.1 0 4 = c.2.1 0 4 - 1 := cT_p _ _ _ _
    have zs : ∀ s : Int, (cT c 0 4 (c.2.1 0 4 - 1)).2.1 1 s = c.2.1 1 s := fun s => cT_n _ (by omega)
    have hc0 : (cH (cT c 0 4 (c.2.1 0 4 - 1)) 0 H1).1 0 = H1 := by
      show up1 c.1 0 H1 0 = H1
      exact up1_p _ _ _
    have hcn : ∀ k : Int, ¬ k = 0 → (cH (cT c 0 4 (c.2.1 0 4 - 1)) 0 H1).1 k = c.1 k := fun k q => up1_n _ _ q
    have z3' : (cH (cT c 0 4 (c.2.1 0 4 - 1)) 0 H1).2.1 0 3 = c.2.1 0 3 := z3
    have z4' : (cH (cT c 0 4 (c.2.1 0 4 - 1)) 0 H1).2.1 0 4 = c.2.1 0 4 - 1 := z4
    have zs' : ∀ s : Int, (cH (cT c 0 4 (c.2.1 0 4 - 1)) 0 H1).2.1 1 s = c.2.1 1 s := zs
    have e10 := e6 10 (by omega)
    refine Inv.step (r := m.1 6 7 - 1) (c' := cH (cT c 0 4 (c.2.1 0 4 - 1)) 0 H1) (m' := m') (C' := C) (To' := To) ?_ ?_ (by omega) ?_ (by omega)
    · unfold fX6_undo fX6_rowBehindLatest
      rw [gd_pos (by omega), if_neg (by omega), bnd_eq, z3, z4, gd_pos (by omega), cr_some, rmI_pos (by omega), gd_pos (by omega)]
      show cl (fX2_copyFrom (c.1 (2 + (c.2.1 0 3 + (c.2.1 0 4 - 1)) % 7)) (c.1 0)) _ = _
      rw [a2, f1, cl_some, bnd_eq, ← a2, z4']
    · unfold fX7_undo
      rw [gd_pos (by omega), if_neg g, bnd_eq, e67, b1, cl_some, e7]
    · refine Inv.mono (T := T) (C := C) (To := To) ⟨by rw [hc0]; exact w1, by rw [hc0]; exact w2, i3.fr rfl (et 5 (by omega) (by omega) (by omega)) e10, by rw [hc0, e10]; omega, ⟨by rw [z3']; exact a1, by rw [z4', e7]; omega, by omega, fun i hi => ?_, fun s hs => ?_, fun k hk => ?_⟩⟩ (by omega) (Int.le_refl _) (Int.le_refl _)
      · rw [z3', hcn _ (by omega), e10]
        exact (a4 i (by omega)).cells (hr i)
      · rw [zs', et 4 (by omega) (by omega) (by omega), hcn _ (by omega), e10]
        exact ⟨(a5 s hs).1, (a5 s hs).2.1, fun q => ((a5 s hs).2.2 q).cells (hr _)⟩
      · by_cases g0 : k = 0
        · rw [g0, hc0]
          exact fc_room w1.2.2
        · rw [hcn k g0]
          exact a6 k hk
theorem iv_save {T C To s : Int} {c : cR} {m : mR} (I : Inv T C To c m) (hs : wR s) : stepI T C To (fX6_save s c) (fX7_save s m) := by
  have I0 := I
  obtain ⟨i1, i2, i3, i4, a1, a2, a3, a4, a5, a6⟩ := I
  have ks := i1.2.2.2.1
  unfold okS at ks
  have k1 := i1.2.2.1
  unfold okN at k1
  have e0 : m.1 0 0 = (c.1 0).1 0 6 0 := i1.1.1.1
  have e4 := i1.1.1.2.2.2.2.1
  by_cases g : 0 ≤ s ∧ s ≤ 1
  · obtain ⟨H1, f1, f2⟩ := ec_copy (H2 := c.1 0) (H := c.1 (9 + s)) i1.2.2.copyP.1 i1.2.2.copyP.2 (a6 _ (by omega))
    obtain ⟨m1, b1, b2⟩ := em_keeps (k := 6 + s) (m := m) (by omega) (by omega)
    have b2' := b2
    obtain ⟨w1, w2, w3, w4, w5, w6, w7, w8⟩ := b2'
    have hcs : (cT (cH c (9 + s) H1) 1 s 1).1 (9 + s) = H1 := by
      show up1 c.1 (9 + s) H1 (9 + s) = H1
      exact up1_p _ _ _
    have hcn : ∀ k : Int, ¬ k = 9 + s → (cT (cH c (9 + s) H1) 1 s 1).1 k = c.1 k := fun k q => up1_n _ _ q
    have z0 : ∀ k : Int, (cT (cH c (9 + s) H1) 1 s 1).2.1 0 k = c.2.1 0 k := fun k => cT_n _ (by omega)
    have z1 : (cT (cH c (9 + s) H1) 1 s 1).2.1 1 s = 1 := cT_p _ _ _ _
    have zn : ∀ s' : Int, ¬ s' = s → (cT (cH c (9 + s) H1) 1 s 1).2.1 1 s' = c.2.1 1 s' := fun s' q => cT_n _ (by omega)
    have hr : ∀ l : Int, 0 ≤ l → ¬ l = 6 + s → rowEq l l m (mS m1 4 s 1) := fun l h0 q => by
      have := b2.row (l := l) h0 (by omega) q
      exact this.tr (rowEq.of (mS_t _ _ _ (by omega)) (mS_t _ _ _ (by omega)) rfl)
    have hnew : live T C (9 * To - m.1 6 10) H1 (rowN (6 + s) (mS m1 4 s 1)) (rowW (6 + s) (mS m1 4 s 1)) (rowO (6 + s) (mS m1 4 s 1)) := by
      have hN : SimN T (c.1 0) (m.1 0) (m.1 1) (m.2 0) := i1
      refine ⟨(hN.copy f2).cells (fun j hj => ?_) (fun j hj => ?_) (fun j hj => w7 j hj), i2.copy i1.2.2 f2, by rw [f2.1 5 (by omega)]; omega⟩
      · unfold rowN
        rw [mS_t _ _ _ (by omega)]
        exact w6 j hj
      · unfold rowW
        rw [mS_t _ _ _ (by omega)]
        exact w8 j hj
    have e6 : ∀ k : Int, (mS m1 4 s 1).1 6 k = m.1 6 k := fun k => by rw [mS_t _ _ _ (by omega), w1 6 (by omega) (by omega)]
    have c0 := hcn 0 (by omega)
    refine Inv.step (r := (c.1 0).1 0 6 0) (c' := cT (cH c (9 + s) H1) 1 s 1) (m' := mS m1 4 s 1) (C' := C) (To' := To) ?_ ?_ (by omega) ?_ (by omega)
    · unfold fX6_save
      rw [ev_btT (by omega), cr_some, gd_pos (by omega), if_neg (by omega), gd_pos (by omega), f1, cl_some, bnd_eq, gd_pos (by omega), bnd_eq, c0]
    · unfold fX7_save
      rw [gd_pos hs, ev_inT (by omega), cr_some, gd_pos (by omega), if_neg (by omega), b1, cl_some, gd_pos (by omega), bnd_eq, ev_today, cr_some, mS_t _ _ _ (by omega), w1 0 (by omega) (by omega), e0]
    · refine Inv.mono (T := T) (C := C) (To := To) ⟨by rw [c0]; exact ⟨i1.1.oth (by rw [mS_t _ _ _ (by omega), w1 0 (by omega) (by omega)]) (by rw [mS_t _ _ _ (by omega), w1 1 (by omega) (by omega)]) (w2 0 (by omega)), by rw [mS_t _ _ _ (by omega), w1 0 (by omega) (by omega)]; exact i1.2.1, i1.2.2⟩, by rw [c0]; exact i2, i3.fr rfl (by rw [mS_t _ _ _ (by omega), w1 5 (by omega) (by omega)]) (e6 10), by rw [c0, e6]; exact i4, ⟨by rw [z0]; exact a1, by rw [z0, e6]; exact a2, by rw [e6]; exact a3, fun i hi => ?_, fun s' hs' => ?_, fun k hk => ?_⟩⟩ (by omega) (Int.le_refl _) (Int.le_refl _)
      · rw [e6] at hi
        rw [z0, hcn _ (by omega), e6]
        exact (a4 i hi).cells (hr i (by omega) (by omega))
      · by_cases q : s' = s
        · subst q
          rw [z1, mS_p, hcs, e6]
          exact ⟨rfl, Or.inr rfl, fun _ => hnew⟩
        · rw [zn s' q, mS_n _ (by omega), w1 4 (by omega) (by omega), hcn _ (by omega), e6]
          exact ⟨(a5 s' hs').1, (a5 s' hs').2.1, fun z => ((a5 s' hs').2.2 z).cells (hr _ (by omega) (by omega))⟩
      · by_cases g0 : k = 9 + s
        · rw [g0, hcs]
          exact fc_room hnew.1.2.2
        · rw [hcn k g0]
          exact a6 k hk
  · refine Inv.step (r := -2) (c' := c) (m' := m) ?_ ?_ (by omega) (I0.mono (by omega) (Int.le_refl C) (Int.le_refl To)) (by omega)
    · unfold fX6_save
      rw [ev_btF (by omega), cr_some, gd_pos (by omega), if_pos rfl]
    · unfold fX7_save
      rw [gd_pos hs, ev_inF (by omega), cr_some, gd_pos (by omega), if_pos rfl]
end
section
/-! ===== restore keeps it ===== -/
theorem iv_restore {T C To s : Int} {c : cR} {m : mR} (I : Inv T C To c m) (hs : wR s) : stepI T C To (fX6_restore s c) (fX7_restore s m) := by
  have I0 := I
  obtain ⟨i1, i2, i3, i4, i5⟩ := I
  by_cases g : 0 ≤ s ∧ s ≤ 1
  · have hsl := i5.2.2.2.2.1 s g
    by_cases g1 : m.1 4 s = 0
    · refine Inv.step (r := -5) (c' := c) (m' := m) ?_ ?_ (by omega) (I0.mono (by omega) (Int.le_refl C) (Int.le_refl To)) (by omega)
      · unfold fX6_restore
        rw [ev_btT (by omega), cr_some, gd_pos (by omega), if_neg (by omega), gd_pos (by omega), gd_pos (by omega), if_pos (by omega)]
      · unfold fX7_restore
        rw [gd_pos hs, ev_inT (by omega), cr_some, gd_pos (by omega), if_neg (by omega), gd_pos (by omega), gd_pos (by omega), if_pos g1]
    · obtain ⟨c1, m1, q1, q2, q3, q4, q5, q6, q7, q8⟩ := hist_rec i5 i1 i2 (by omega)
      have h4 : m1.1 4 = m.1 4 := q3.2.2.2.1
      have hl := (q8.2.2.2.2.1 s g).2.2 (by rw [h4]; omega)
      rw [rcd_1 c1] at hl
      have hz := hl.size
      have hr0 : roomOK ((c1.1 0).1 4 1 0) := q7.2.2.2.2.2 0 (by omega)
      obtain ⟨H1, f1, f2⟩ := ec_copy (H2 := c1.1 (9 + s)) (H := c1.1 0) hl.1.2.2.copyP.1 hl.1.2.2.copyP.2 hr0
      obtain ⟨m', b1, b2⟩ := em_brings (k := 6 + s) (m := m1) (by omega) (by omega)
      obtain ⟨w1, w2, w3⟩ := hl.back f2 b2
      have et : ∀ t : Int, ¬ t = 0 → ¬ t = 1 → m'.1 t = m1.1 t := b2.1
      have ed : m'.2 1 = m1.2 1 := b2.2.1 1 (by omega)
      have hc0 : (cH c1 0 H1).1 0 = H1 := by
        show up1 c1.1 0 H1 0 = H1
        exact up1_p _ _ _
      have hcn : ∀ k : Int, ¬ k = 0 → (cH c1 0 H1).1 k = c1.1 k := fun k q => up1_n _ _ q
      have ks2 := w1.2.2.2.1
      unfold okS at ks2
      have e0 : m'.1 0 0 = H1.1 0 6 0 := w1.1.1.1
      have hf := q7.1
      have hf4 : c1.2.1 0 4 = m.1 6 7 := q7.2.1
      have hf7 := q7.2.2.1
      have g0 : (rcd (cH c1 0 H1)).1 0 = H1 := by rw [rcd_1, hc0]
      have e10 : m'.1 6 10 = m.1 6 10 := by rw [et 6 (by omega) (by omega)]; exact q3.2.2.2.2.2 10 (by omega)
      have e5 : m'.1 5 = m.1 5 := (et 5 (by omega) (by omega)).trans q3.2.2.2.2.1
      have hk' : ∀ k : Int, 2 ≤ k ∧ k ≤ 10 → (rcd (cH c1 0 H1)).1 k = (rcd c1).1 k := fun k hk => by
        rw [rcd_1 c1, rcd_1 (cH c1 0 H1)]
        exact hcn k (by omega)
      have h8 : HistR T C (9 * To - m.1 6 10) (rcd (cH c1 0 H1)) m' := q8.fr hk' (by rw [g0]; exact fc_room w1.2.2) (by rw [rcd_1 (cH c1 0 H1), hcn 1 (by omega)]; exact q7.2.2.2.2.2 1 (by omega)) (rcd_t rfl) (fun l hl => rowEq.of (et 2 (by omega) (by omega)) (et 3 (by omega) (by omega)) ed) (et 4 (by omega) (by omega)) (by rw [et 6 (by omega) (by omega)])
      have hs1 : c1.2.1 1 s = m.1 4 s := (q7.2.2.2.2.1 s g).1
      have hs0 : c.2.1 1 s = m.1 4 s := hsl.1
      refine Inv.step (r := H1.1 0 6 0) (c' := rcd (cH c1 0 H1)) (m' := m') (C' := C) (To' := To) ?_ ?_ (by omega) (Inv.mono (T := T) (C := C) (To := To) ⟨by rw [g0]; exact w1, by rw [g0]; exact w2, i3.fr (by rw [rcd_p]; show c1.2.2 = _; rw [q6]) e5 e10, by rw [g0, e10]; omega, by rw [e10]; exact h8⟩ (by omega) (Int.le_refl _) (Int.le_refl _)) (by omega)
      · unfold fX6_restore
        rw [ev_btT (by omega), cr_some, gd_pos (by omega), if_neg (by omega), gd_pos (by omega), gd_pos (by have := hsl.2.1; omega), if_neg (by omega), q1, cl_some, gd_pos (by omega), f1, cl_some, bnd_eq, hc0, ec_recorded (c := cH c1 0 H1) (by omega) (show 0 ≤ c1.2.1 0 3 ∧ c1.2.1 0 3 ≤ 6 from hf) (show 0 ≤ c1.2.1 0 4 ∧ c1.2.1 0 4 ≤ 6 by omega), if_neg (by omega)]
        rfl
      · unfold fX7_restore
        rw [gd_pos hs, ev_inT (by omega), cr_some, gd_pos (by omega), if_neg (by omega), gd_pos (by omega), gd_pos (by have := hsl.2.1; omega), if_neg g1, q2.1, cl_some, b1, cl_some, ev_today, cr_some, e0]
  · refine Inv.step (r := -2) (c' := c) (m' := m) ?_ ?_ (by omega) (I0.mono (by omega) (Int.le_refl C) (Int.le_refl To)) (by omega)
    · unfold fX6_restore
      rw [ev_btF (by omega), cr_some, gd_pos (by omega), if_pos rfl]
    · unfold fX7_restore
      rw [gd_pos hs, ev_inF (by omega), cr_some, gd_pos (by omega), if_pos rfl]
end
section
/-! ===== forecasts and questions keep it ===== -/
theorem Inv.fc {T C To : Int} {c c' : cR} {m m' : mR} (I : Inv T C To c m) (h : fcR T c c' m m') : Inv T C To c' m' := by
  obtain ⟨i1, i2, i3, i4, i5⟩ := I
  obtain ⟨h1, h2, h3, h4, h5, h6, h7, h8, h9⟩ := h
  have e10 := h6 10 (by omega)
  have c0 := h1 0 (by omega)
  have hh : HistR T C (9 * To - m.1 6 10) c' m' := i5.fr (fun k hk => h1 k (by omega)) (by rw [c0]; exact fc_room i1.2.2) h3 (by rw [h2]) (fun l hl => ⟨fun j hj => by
      unfold rowN
      exact h7 _ (by omega), fun j hj => by
      unfold rowO
      exact h9 _ (by omega), fun j hj => by
      unfold rowW
      exact h8 _ (by omega)⟩) (h5 4 (by omega)) (h6 7 (by omega))
  exact ⟨by rw [c0]; exact h4, by rw [c0]; exact i2, i3.fr (by rw [h2]) (h5 5 (by omega)) e10, by rw [c0, e10]; exact i4, by rw [e10]; exact hh⟩
theorem okXf.aims {C T : Int} {H H' : hR} (h : okXf C H) (hk : Ok T H) (g : onlyAims H H') : okXf C H' := h.of3 (fun P h1 h2 => ⟨h2.fr hk.2.2.2.2.1 (g.1 _ _ _ (by omega)) (g.1 _ _ _ (by omega)) (by
    have : holB H' = holB H := by
      funext d
      unfold holB
      rw [g.1 6 _ 0 (by omega)]
    rw [this]) (g.1 _ _ _ (by omega)) (g.1 _ _ _ (by omega)) (fun c i _ _ => g.1 _ _ _ (by omega)) (fun o f _ q => g.1 _ _ _ (by omega)), g.1 _ _ _ (by omega), g.1 _ _ _ (by omega), g.1 _ _ _ (by omega)⟩)
theorem Inv.aims {T C To : Int} {c c' : cR} {m : mR} (I : Inv T C To c m) (h2 : c'.2 = c.2) (h1 : ∀ k : Int, ¬ k = 0 → c'.1 k = c.1 k) (g : onlyAims (c.1 0) (c'.1 0)) : Inv T C To c' m := by
  obtain ⟨i1, i2, i3, i4, i5⟩ := I
  have hs := i1.aims g
  have hh : HistR T C (9 * To - m.1 6 10) c' m := i5.fr (fun k hk => h1 k (by omega)) (fc_room hs.2.2) (by rw [h1 1 (by omega)]; exact i5.2.2.2.2.2 1 (by omega)) (by rw [h2]) (fun l hl => rowEq.of rfl rfl rfl) rfl rfl
  exact ⟨hs, i2.aims i1.2.2 g, i3.fr (by rw [h2]) rfl rfl, by rw [g.1 0 5 0 (by omega)]; exact i4, hh⟩
def stepL (T C To : Int) (A : Option (Int × cR)) (B : Option (Int × mR)) : Prop := ∃ r c' m', A = some (r, c') ∧ B = some (r, m') ∧ wR64 r ∧ Inv T C To c' m'
theorem stepL.of {T C To : Int} {c : cR} {m : mR} {A : Option (Int × cR)} {B : Option (Int × mR)} (I : Inv T C To c m) (h : fcOK T c m A B) : stepL T C To A B := by
  obtain ⟨r, c', m', h1, h2, h3, h4⟩ := h
  exact ⟨r, c', m', h1, h2, h3, I.fc h4⟩
theorem Inv.ord {T C To : Int} {c : cR} {m : mR} (I : Inv T C To c m) : 0 ≤ (c.1 0).1 0 5 0 ∧ (c.1 0).1 0 5 0 ≤ To := by
  have k1 := I.1.2.2.1
  unfold okN at k1
  have h1 := I.2.2.2.1
  have h2 := I.2.2.1.2.1
  omega
theorem Inv.room {T C To : Int} {c : cR} {m : mR} (I : Inv T C To c m) {k : Int} (hk : 0 ≤ k ∧ k ≤ 10) : roomOK ((c.1 k).1 4 1 0) := I.2.2.2.2.2.2.2.2.2 k hk
theorem iv_balanceIn {T C To a n : Int} {c : cR} {m : mR} (hT : 0 ≤ T ∧ T ≤ 99900) (hC : 0 ≤ C ∧ C + 1 + To ≤ 512) (I : Inv T C To c m) (ha : wR a) (hn : wR n) : stepL T C To (fX6_balanceIn a n c) (fX7_balanceIn a n m) := by
  have := I.ord
  exact stepL.of I (ls_balanceIn (C := C) (by omega) (by omega) I.1 I.2.1 (I.room (by omega)) ha hn)
theorem iv_firstFailure {T C To a : Int} {c : cR} {m : mR} (hT : 0 ≤ T ∧ T ≤ 99900) (hC : 0 ≤ C ∧ C + 1 + To ≤ 512) (I : Inv T C To c m) (ha : wR a) : stepL T C To (fX6_firstFailure a c) (fX7_firstFailure a m) := by
  have := I.ord
  exact stepL.of I (ls_firstFailure (C := C) (by omega) (by omega) I.1 I.2.1 (I.room (by omega)) ha)
theorem iv_leastDeposit {T C To a n : Int} {c : cR} {m : mR} (hT : 0 ≤ T ∧ T ≤ 99900) (hC : 0 ≤ C ∧ C + 1 + To ≤ 512) (I : Inv T C To c m) (ha : wR a) (hn : wR n) : stepL T C To (fX6_leastDeposit a n c) (fX7_leastDeposit a n m) := by
  have := I.ord
  exact stepL.of I (ls_leastDeposit (C := C) (by omega) (by omega) I.1 I.2.1 (I.room (by omega)) ha hn)
theorem iv_ahead {T C To o n w : Int} {c : cR} {m : mR} (hT : 0 ≤ T ∧ T ≤ 99900) (hC : 0 ≤ C ∧ C + 1 + To ≤ 512) (I : Inv T C To c m) (ho : wR o) (hn : wR n) (hw : wR w) : stepL T C To (fX6_ahead o n w c) (fX7_ahead o n w m) := by
  have := I.ord
  exact stepL.of I (ls_ahead (C := C) (by omega) (by omega) I.1 I.2.1 (I.room (by omega)) ho hn hw)
end
section
/-! ===== the start, and the room ===== -/
theorem phi_le {G : gR} (h : ∀ k : Int, 0 ≤ k ∧ k ≤ 10 → roomOK ((G.1.1 k).1 4 1 0)) : phi G ≤ 180224 := by
  have e : ∀ k : Nat, k < 11 → rmN (G.1.1 k) ≤ 16384 := fun k hk => by
    have := roomOK_rng (h k (by omega))
    unfold rmN
    omega
  have h0 := e 0 (by decide)
  have h1 := e 1 (by decide)
  have h2 := e 2 (by decide)
  have h3 := e 3 (by decide)
  have h4 := e 4 (by decide)
  have h5 := e 5 (by decide)
  have h6 := e 6 (by decide)
  have h7 := e 7 (by decide)
  have h8 := e 8 (by decide)
  have h9 := e 9 (by decide)
  have h10 := e 10 (by decide)
  show rmN (G.1.1 ((0 : Nat) : Int)) + (rmN (G.1.1 ((1 : Nat) : Int)) + (rmN (G.1.1 ((2 : Nat) : Int)) + (rmN (G.1.1 ((3 : Nat) : Int)) + (rmN (G.1.1 ((4 : Nat) : Int)) + (rmN (G.1.1 ((5 : Nat) : Int)) + (rmN (G.1.1 ((6 : Nat) : Int)) + (rmN (G.1.1 ((7 : Nat) : Int)) + (rmN (G.1.1 ((8 : Nat) : Int)) + (rmN (G.1.1 ((9 : Nat) : Int)) + (rmN (G.1.1 ((10 : Nat) : Int)) + 0)))))))))) ≤ 180224
  omega
theorem iv_start : Inv 0 0 0 C0 M0 := by
  have room : roomOK 64 := ⟨0, by decide, rfl⟩
  have hb : ∀ d : Int, 0 ≤ d ∧ d ≤ 1094 → holB H0 d = false := fun d hd => by
    unfold holB
    rw [show H0.1 6 (d / 64) 0 = 0 from rfl]
    obtain ⟨k, h1, h2⟩ := toN (n := 64) (d := d % 64) (by omega)
    rw [h2]
    have : ∀ k : Nat, k < 64 → bitL 0 k = false := by decide +kernel
    exact this k (by omega)
  have hs : Sim 0 H0 M0 := by
    refine ⟨⟨⟨rfl, rfl, rfl, rfl, rfl, rfl, rfl, rfl, rfl, rfl⟩, ⟨⟨by decide, by decide, fun k h1 h2 => ?_, fun i j h1 h2 => ?_⟩, fun d hd => ?_⟩, fun a ha => ?_, fun o ho => ?_, fun i hi => ?_⟩, ⟨rfl, rfl, rfl⟩, ⟨by decide, by decide, by decide, by decide, room⟩, ⟨by decide, by decide, by decide, by decide, by decide, by decide⟩, fun a ha => ?_, fun o ho => ?_, ⟨fun i hi => ?_, fun i j h1 h2 h3 => ?_⟩, ⟨fun a ha => ?_, fun o ho => ?_⟩, fun a ha => ?_, fun a ha => ?_⟩
    · have h2 : k < 0 := h2
      omega
    · have h2 : i < 0 := h2
      omega
    · rw [hb d hd]
      rfl
    · have ha : 0 ≤ a ∧ a < 0 := ha
      omega
    · have ho : 0 ≤ o ∧ o < 0 := ho
      omega
    · have hi : 0 ≤ i ∧ i < 0 := hi
      omega
    · have ha : 0 ≤ a ∧ a < 0 := ha
      omega
    · have ho : 0 ≤ o ∧ o < 0 := ho
      omega
    · have hi : 0 ≤ i ∧ i < 0 := hi
      omega
    · have h3 : j < 0 := h3
      omega
    · have ha : 0 ≤ a ∧ a < 0 := ha
      omega
    · have ho : 0 ≤ o ∧ o < 0 := ho
      omega
    · have ha : 0 ≤ a ∧ a < 0 := ha
      omega
    · have ha : 0 ≤ a ∧ a < 0 := ha
      omega
  refine ⟨hs, ⟨_, Or.inr rfl, by decide, ⟨fun i hi => ?_, fun o ho => ?_, fun i j a b c => ?_⟩, fun i hi => ?_⟩, ⟨rfl, by decide, fun j hj => ?_⟩, by decide, ⟨by decide, rfl, by decide, fun i hi => ?_, fun s hs => ⟨rfl, Or.inl rfl, fun q => ?_⟩, fun k hk => room⟩⟩
  · have hi : 0 ≤ i ∧ i < 0 := hi
    omega
  · have ho : 0 ≤ o ∧ o < 0 := ho
    omega
  · have c : j < 0 := c
    omega
  · have hi : 0 ≤ i ∧ i < 0 := hi
    omega
  · have hj : 0 ≤ j ∧ j < 0 := hj
    omega
  · have hi : 0 ≤ i ∧ i < 0 := hi
    omega
  · have q : (0 : Int) = 1 := q
    omega
end
section
/-! ===== owedBits: halving, comparing ===== -/
theorem dv_half {a : UInt64} {V : Nat} (ha : dv a V) (h1 : 2 ^ 121 ≤ V) (h2 : V < 2 ^ 255) : ∃ Y : Nat, dv (FP.ddiv a 4611686018427387904) Y ∧ (∀ M G : Nat, M ≤ 2 ^ 53 → V ≤ 2 * (M * 2 ^ G) → Y ≤ M * 2 ^ G) ∧ ∀ M G : Nat, M ≤ 2 ^ 53 → 2 * (M * 2 ^ G) ≤ V → M * 2 ^ G ≤ Y := by
  obtain ⟨c, q, a1, a2, a3, a4⟩ := dv_dec ha
  have hb : FP.Core.decode FP.Core.b64 (4611686018427387904 : UInt64).toNat = .fin false (2 ^ 52) (-51) := by decide +kernel
  have ev : FP.ddiv a 4611686018427387904 = UInt64.ofNat (FP.Core.encode FP.Core.b64 (FP.Core.roundRatio FP.Core.b64 false c (2 ^ 52) (q - -51))) := by
    show FP.Core.ddiv a 4611686018427387904 = _
    unfold FP.Core.ddiv FP.Core.div
    rw [a1, hb]
    rfl
  have hc : ¬ c = 0 := fun z => by
    rw [z, Nat.zero_mul] at a3
    omega
  obtain ⟨Y, y1, y2, y3⟩ := dv_rr (X := V * 2 ^ 51) ev (by omega) (by omega) (by
    rw [a3, Nat.mul_assoc, ← Nat.pow_add]
    congr 2
    omega) (by omega) (by omega)
  exact ⟨Y, y1, fun M G h3 h4 => y2 M G h3 (by
    calc V * 2 ^ 51 ≤ 2 * (M * 2 ^ G) * 2 ^ 51 := Nat.mul_le_mul_right _ h4
      _ = 2 ^ 52 * (M * 2 ^ G) := by
        rw [show (2 : Nat) ^ 52 = 2 * 2 ^ 51 from rfl]
        ac_rfl), fun M G h3 h4 => y3 M G h3 (by
    calc 2 ^ 52 * (M * 2 ^ G) = 2 * (M * 2 ^ G) * 2 ^ 51 := by
          rw [show (2 : Nat) ^ 52 = 2 * 2 ^ 51 from rfl]
          ac_rfl
      _ ≤ V * 2 ^ 51 := Nat.mul_le_mul_right _ h4)⟩
end
section
/-! ===== owedBits: comparing ===== -/
theorem dv_ord {x y : UInt64} {V W : Nat} (hx : dv x V) (hy : dv y W) : FP.dcmp x y = some (compare (V : Int) (W : Int)) := by
  obtain ⟨c, q, a1, a2, a3, a4⟩ := dv_dec hx
  obtain ⟨d, r, b1, b2, b3, b4⟩ := dv_dec hy
  show FP.Core.cmp FP.Core.b64 x.toNat y.toNat = _
  unfold FP.Core.cmp
  rw [a1, b1]
  show some (compare ((FP.Core.inUnits c q (min q r) : Nat) : Int) ((FP.Core.inUnits d r (min q r) : Nat) : Int)) = _
  unfold FP.Core.inUnits
  have key : ∀ A B : Nat, (A < B ↔ V < W) → (B < A ↔ W < V) → compare (A : Int) (B : Int) = compare (V : Int) (W : Int) := fun A B h1 h2 => by
    show (if (A : Int) < (B : Int) then Ordering.lt else if (A : Int) = (B : Int) then Ordering.eq else Ordering.gt) = (if (V : Int) < (W : Int) then Ordering.lt else if (V : Int) = (W : Int) then Ordering.eq else Ordering.gt)
    by_cases g1 : V < W
    · have := h1.mpr g1
      rw [if_pos (by omega), if_pos (by omega)]
    · have n1 : ¬ A < B := fun z => g1 (h1.mp z)
      by_cases g2 : W < V
      · have := h2.mpr g2
        rw [if_neg (by omega), if_neg (by omega), if_neg (by omega), if_neg (by omega)]
      · have n2 : ¬ B < A := fun z => g2 (h2.mp z)
        rw [if_neg (by omega), if_pos (by omega), if_neg (by omega), if_pos (by omega)]
  refine congrArg some (key _ _ ?_ ?_)
  all_goals
    have p1 : 0 < 2 ^ (q - min q r).toNat := Nat.two_pow_pos _
    have p2 : 0 < 2 ^ (r - min q r).toNat := Nat.two_pow_pos _
    have p3 : 0 < 2 ^ (q + 200).toNat := Nat.two_pow_pos _
    have p4 : 0 < 2 ^ (r + 200).toNat := Nat.two_pow_pos _
    by_cases hc : c = 0
    · subst hc
      rw [Nat.zero_mul] at a3 ⊢
      by_cases hd : d = 0
      · subst hd
        rw [Nat.zero_mul] at b3 ⊢
        omega
      · have z1 := Nat.mul_pos (show 0 < d by omega) p2
        have z2 := Nat.mul_pos (show 0 < d by omega) p4
        omega
    · by_cases hd : d = 0
      · subst hd
        rw [Nat.zero_mul] at b3 ⊢
        have z1 := Nat.mul_pos (show 0 < c by omega) p1
        have z2 := Nat.mul_pos (show 0 < c by omega) p3
        omega
      · have e1 : V = c * 2 ^ (q - min q r).toNat * 2 ^ (min q r + 200).toNat := by
          rw [a3, Nat.mul_assoc, ← Nat.pow_add]
          congr 2
          omega
        have e2 : W = d * 2 ^ (r - min q r).toNat * 2 ^ (min q r + 200).toNat := by
          rw [b3, Nat.mul_assoc, ← Nat.pow_add]
          congr 2
          omega
        have p5 : 0 < 2 ^ (min q r + 200).toNat := Nat.two_pow_pos _
        rw [e1, e2]
        exact (Nat.mul_lt_mul_right p5).symm
theorem dv_cmp {x y : UInt64} {V W : Nat} {op : CmpOp} (hx : dv x V) (hy : dv y W) : dcI x y op = if V < W then -1 else if V = W then 0 else 1 := by
  unfold dcI
  rw [dv_ord hx hy]
  have e : compare (V : Int) (W : Int) = if (V : Int) < (W : Int) then Ordering.lt else if (V : Int) = (W : Int) then Ordering.eq else Ordering.gt := rfl
  rw [e]
  by_cases g1 : V < W
  · rw [if_pos (by omega), if_pos g1]
    cases op <;> rfl
  · rw [if_neg (by omega), if_neg g1]
    by_cases g2 : V = W
    · rw [if_pos (by omega), if_pos g2]
      cases op <;> rfl
    · rw [if_neg (by omega), if_neg g2]
      cases op <;> rfl
end
section
/-! ===== owedBits in step ===== -/
theorem dv_one : dv FP.dconst1 (2 ^ 200) := Or.inr ⟨2 ^ 52, 200, by decide +kernel, by decide, by decide, by decide, by decide, by decide +kernel⟩
theorem dv_two : dv 4611686018427387904 (2 ^ 201) := Or.inr ⟨2 ^ 52, 201, by decide +kernel, by decide, by decide, by decide, by decide, by decide +kernel⟩
theorem dv_b52 : dv 4841369599423283200 (2 ^ 252) := Or.inr ⟨2 ^ 52, 252, by decide +kernel, by decide, by decide, by decide, by decide, by decide +kernel⟩
theorem ow_end {x : UInt64} {V : Nat} (h : dv x V) (h1 : 2 ^ 200 ≤ V) (h2 : V ≤ 2 ^ 201) : okD (FP.dsub x FP.dconst1) ∧ okD (FP.dmul (FP.dsub x FP.dconst1) 4841369599423283200) := by
  obtain ⟨c, q, a1, a2, a3, a4⟩ := dv_dec h
  have hc : ¬ c = 0 := fun z => by
    rw [z, Nat.zero_mul] at a3
    omega
  have hq : 148 ≤ (q + 200).toNat := by
    by_cases g : 148 ≤ (q + 200).toNat
    · exact g
    · have p1 : 2 ^ (q + 200).toNat ≤ 2 ^ 147 := Nat.pow_le_pow_right (by decide) (by omega)
      have p2 : c * 2 ^ (q + 200).toNat ≤ 2 ^ 53 * 2 ^ 147 - 2 ^ 147 := by
        have : c * 2 ^ (q + 200).toNat ≤ (2 ^ 53 - 1) * 2 ^ 147 := Nat.mul_le_mul (by omega) p1
        omega
      omega
  obtain ⟨t, ht⟩ : ∃ t : Nat, V = t * 2 ^ 148 := ⟨c * 2 ^ ((q + 200).toNat - 148), by
    rw [a3, Nat.mul_assoc, ← Nat.pow_add]
    congr 2
    omega⟩
  obtain ⟨Y, y1, y2, y3⟩ := dv_sub h dv_one h1 (by omega) (by omega)
  have z1 := y2 1 201 (by decide) (by omega)
  obtain ⟨Z, w1, w2, w3⟩ := dv_mul (X := Y * 2 ^ 52) y1 dv_b52 (by
    rw [Nat.mul_assoc, ← Nat.pow_add]) (by
    rcases dv_big y1 with g | g
    · left
      rw [g]
    · right
      omega) (by omega)
  exact ⟨dv_okD y1, dv_okD w1⟩
theorem ow_up : ∀ (j fC fM : Nat) (x : UInt64) (e i : Int) (V : Nat), dv x V → 2 ^ (200 - j) ≤ V → 2 ^ 120 ≤ V → V ≤ 2 ^ 201 → j < fC → j < fM → 0 ≤ i → i + j < 1022 → ∃ r : Int, fX6_bitsOf_b55 fC x e i = some r ∧ fX7_bitsOf_b39 fM e x = some r
  | j, 0, _, _, _, _, _, _, _, _, _, h, _, _, _ => by omega
  | j, _ + 1, 0, _, _, _, _, _, _, _, _, _, h, _, _ => by omega
  | j, fC + 1, fM + 1, x, e, i, V, h, h1, h0, h2, hf, hg, hi, hj => by
    have hcmp := dv_cmp (op := .g) h dv_one
    have hr : wR (dcI x FP.dconst1 .g) := by
      rw [hcmp]
      split
      · omega
      · split <;> omega
    by_cases g : 2 ^ 200 ≤ V
    · obtain ⟨k1, k2⟩ := ow_end h g h2
      have g2 : 0 ≤ dcI x FP.dconst1 .g := by
        rw [hcmp, if_neg (by omega)]
        split <;> omega
      refine ⟨(lshlI e 52) + (d2lI (FP.dmul (FP.dsub x FP.dconst1) 4841369599423283200)), ?_, ?_⟩
      · rw [fX6_bitsOf_b55, gd_pos (by omega), if_neg (by omega), gd_pos hr, if_pos g2]
        unfold fX6_bitsOf_b87
        rw [gd_pos k1, gd_pos k2]
      · rw [fX7_bitsOf_b39, gd_pos hr, if_pos g2, gd_pos k1, gd_pos k2]
    · have g2 : ¬ 0 ≤ dcI x FP.dconst1 .g := by
        rw [hcmp, if_pos (by omega)]
        omega
      obtain ⟨j', rfl⟩ : ∃ j', j = j' + 1 := by
        cases j with
        | zero => exact absurd h1 (by omega)
        | succ n => exact ⟨n, rfl⟩
      obtain ⟨Y, y1, y2, y3⟩ := dv_mul (X := 2 * V) h dv_two (by
        rw [show (2 : Nat) ^ 201 = 2 * 2 ^ 200 from rfl]
        ac_rfl) (by omega) (by omega)
      have z1 := y2 1 201 (by decide) (by omega)
      have z2 := y3 1 121 (by decide) (by omega)
      have z3 : 2 ^ (200 - j') ≤ Y := by
        by_cases gj : 200 ≤ j'
        · rw [show 200 - j' = 0 by omega]
          omega
        · have p : 2 ^ (200 - j') = 2 * 2 ^ (200 - (j' + 1)) := by
            rw [show 200 - j' = (200 - (j' + 1)) + 1 by omega, Nat.pow_succ, Nat.mul_comm]
          have := y3 1 (200 - j') (by decide) (by omega)
          omega
      obtain ⟨r, r1, r2⟩ := ow_up j' fC fM (FP.dmul x 4611686018427387904) (e - 1) (i + 1) Y y1 z3 (by omega) (by omega) (by omega) (by omega) (by omega) (by omega)
      refine ⟨r, ?_, ?_⟩
      · rw [fX6_bitsOf_b55, gd_pos (by omega), if_neg (by omega), gd_pos hr, if_neg g2, gd_pos (dv_okD y1)]
        exact r1
      · rw [fX7_bitsOf_b39, gd_pos hr, if_neg g2, gd_pos (dv_okD y1)]
        exact r2
end
section
/-! ===== owedBits in step: halving, the call ===== -/
theorem ow_down : ∀ (j fC fM : Nat) (x : UInt64) (e i : Int) (V : Nat), dv x V → 2 ^ 120 ≤ V → V ≤ 2 ^ (200 + j) → j ≤ 50 → j < fC → j < fM → 0 ≤ i → i + j < 1023 → ∃ r : Int, fX6_bitsOf_b18 fC x e i = some r ∧ fX7_bitsOf_b15 fM e x = some r
  | j, 0, _, _, _, _, _, _, _, _, _, h, _, _, _ => by omega
  | j, _ + 1, 0, _, _, _, _, _, _, _, _, _, h, _, _ => by omega
  | j, fC + 1, fM + 1, x, e, i, V, h, h0, h2, hj50, hf, hg, hi, hj => by
    have hcmp := dv_cmp (op := .l) h dv_two
    have hr : wR (dcI x 4611686018427387904 .l) := by
      rw [hcmp]
      split
      · omega
      · split <;> omega
    by_cases g : V < 2 ^ 201
    · have g2 : dcI x 4611686018427387904 .l < 0 := by
        rw [hcmp, if_pos g]
        omega
      obtain ⟨r, r1, r2⟩ := ow_up 80 fuel0 fuel0 x e 0 V h (by omega) h0 (by omega) (by decide) (by decide) (by omega) (by omega)
      refine ⟨r, ?_, ?_⟩
      · rw [fX6_bitsOf_b18, gd_pos (by omega), if_neg (by omega), gd_pos hr, if_pos g2]
        exact r1
      · rw [fX7_bitsOf_b15, gd_pos hr, if_pos g2]
        exact r2
    · have g2 : ¬ dcI x 4611686018427387904 .l < 0 := by
        rw [hcmp, if_neg g]
        split <;> omega
      obtain ⟨j', rfl⟩ : ∃ j', j = j' + 1 := by
        cases j with
        | zero => exact absurd h2 (by omega)
        | succ n => exact ⟨n, rfl⟩
      have p1 : 2 ^ (200 + (j' + 1)) ≤ 2 ^ 250 := Nat.pow_le_pow_right (by decide) (by omega)
      have p2 : 2 ^ (200 + (j' + 1)) = 2 * 2 ^ (200 + j') := by
        rw [show 200 + (j' + 1) = (200 + j') + 1 by omega, Nat.pow_succ, Nat.mul_comm]
      obtain ⟨Y, y1, y2, y3⟩ := dv_half h (by omega) (by omega)
      have z1 := y2 1 (200 + j') (by decide) (by omega)
      have z2 := y3 1 120 (by decide) (by omega)
      obtain ⟨r, r1, r2⟩ := ow_down j' fC fM (FP.ddiv x 4611686018427387904) (e + 1) (i + 1) Y y1 (by omega) (by omega) (by omega) (by omega) (by omega) (by omega) (by omega)
      refine ⟨r, ?_, ?_⟩
      · rw [fX6_bitsOf_b18, gd_pos (by omega), if_neg (by omega), gd_pos hr, if_neg g2, gd_pos (dv_okD y1)]
        exact r1
      · rw [fX7_bitsOf_b15, gd_pos hr, if_neg g2, gd_pos (dv_okD y1)]
        exact r2
theorem ow_bits {x : UInt64} {V : Nat} (h : dv x V) (hV : V ≤ 2 ^ 250) : ∃ r : Int, fX6_bitsOf x = some r ∧ fX7_bitsOf x = some r := by
  have hcmp := dv_cmp (op := .l) h dv_zero
  have hr : wR (dcI x FP.dconst0 .l) := by
    rw [hcmp]
    split
    · omega
    · split <;> omega
  unfold fX6_bitsOf fX7_bitsOf
  rw [gd_pos hr, gd_pos hr]
  by_cases g : V = 0
  · have e : dcI x FP.dconst0 .l = 0 := by rw [hcmp, if_neg (by omega), if_pos g]
    rw [e, if_neg (by omega), if_pos rfl]
    exact ⟨0, rfl, rfl⟩
  · have e : dcI x FP.dconst0 .l = 1 := by rw [hcmp, if_neg (by omega), if_neg g]
    rw [e, if_pos (by omega), if_neg (by omega)]
    have hb := dv_big h
    exact ow_down 50 fuel0 fuel0 x 1023 0 V h (by omega) hV (by omega) (by decide) (by decide) (by omega) (by omega)
theorem ask_owed {T : Int} {c : cR} {m : mR} (h : Sim T (c.1 0) m) (_ : 0 ≤ T ∧ T ≤ 100000) {a : Int} (ha : wR a) : ∃ r : Int, fX6_owedBits a c = some r ∧ fX7_owedBits a m = some r := by
  have k1 := h.2.2.1
  unfold okN at k1
  have ks := h.2.2.2.1
  unfold okS at ks
  have q1 := h.1.1.2.1
  unfold fX6_owedBits fX7_owedBits
  by_cases g : 0 ≤ a ∧ a < (c.1 0).1 0 4 0
  · rw [ev_hasA (by omega), ev_isA (by omega), q1, bI_t (decide_eq_true g), cr_some, cr_some, gd_pos (by omega), gd_pos (by omega), if_neg (by omega), if_neg (by omega), gd_pos (by omega), gd_pos (by omega)]
    have e : m.2 0 a = (c.1 0).2 a := (h.1.2.2.1 a (by rw [q1]; exact g)).2
    obtain ⟨n, ⟨n0, V, v1, v2⟩, n2, -⟩ := h.2.2.2.2.2.2.2.2.2 a g
    have hd := debtB_le (t := (c.1 0).1 0 6 0) (by omega)
    obtain ⟨r, r1, r2⟩ := ow_bits v1 (by omega)
    rw [e, r1, r2]
    exact ⟨r, rfl, rfl⟩
  · refine ⟨-1, ?_, ?_⟩
    · rw [ev_hasA (by omega), bI_f (decide_eq_false g), cr_some, gd_pos (show wR 0 by omega), if_pos rfl]
    · rw [ev_isA (by omega), q1, bI_f (decide_eq_false g), cr_some, gd_pos (show wR 0 by omega), if_pos rfl]
end

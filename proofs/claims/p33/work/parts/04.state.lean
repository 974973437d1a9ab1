/-! ===== the states as plain functions, and the words of the functions that the methods are ===== -/
/-- a house: numbers by tag (0 house's own by field, 1 calendar, 2 account by number and field, 3 order, 4 waiting, 5 column by column and place, 6 bits by word), interest owed by account -/
abbrev hR : Type := (Int → Int → Int → Int) × (Int → UInt64)
/-- the class: houses, its own numbers (0 by field, 1 saved by place), the pad's (0 by field, 1 signs) -/
abbrev cR : Type := (Int → hR) × (Int → Int → Int) × (Int → Int → Int)
/-- the reference: 0 now, 1 waits, 2 kept, 3 keptWaits, 4 isSaved, 5 pad, 6 its own by field; doubles: 0 owed, 1 keptOwed -/
abbrev mR : Type := (Int → Int → Int) × (Int → Int → UInt64)
abbrev gR : Type := cR × mR
def up1 {α : Type} (f : Int → α) (a : Int) (v : α) : Int → α := fun a' => if a' = a then v else f a'
def up2 {α : Type} (f : Int → Int → α) (t a : Int) (v : α) : Int → Int → α := fun t' a' => if t' = t ∧ a' = a then v else f t' a'
def up3 {α : Type} (f : Int → Int → Int → α) (t a b : Int) (v : α) : Int → Int → Int → α := fun t' a' b' => if t' = t ∧ a' = a ∧ b' = b then v else f t' a' b'
def hS (H : hR) (t a b v : Int) : hR := (up3 H.1 t a b v, H.2)
def hD (H : hR) (i : Int) (v : UInt64) : hR := (H.1, up1 H.2 i v)
def cH (c : cR) (k : Int) (H : hR) : cR := (up1 c.1 k H, c.2)
def cT (c : cR) (t a v : Int) : cR := (c.1, up2 c.2.1 t a v, c.2.2)
def cP (c : cR) (p : Int → Int → Int) : cR := (c.1, c.2.1, p)
def pS (p : Int → Int → Int) (t a v : Int) : Int → Int → Int := up2 p t a v
def mS (m : mR) (t a v : Int) : mR := (up2 m.1 t a v, m.2)
def mD (m : mR) (t a : Int) (v : UInt64) : mR := (m.1, up2 m.2 t a v)
/-- a row copied: k places from place sp of f on, to place dp of g on -/
def cpy {α : Type} (f g : Int → α) (sp dp k : Int) : Int → α := fun j => if dp ≤ j ∧ j < dp + k then f (sp + (j - dp)) else g j
def hBits (H : hR) (f : Int → Int) : hR := (fun t a b => if t = 6 ∧ b = 0 then f a else H.1 t a b, H.2)
def hCol (H : hR) (c : Int) (f : Int → Int) : hR := (fun t a b => if t = 5 ∧ a = c then f b else H.1 t a b, H.2)
/-! words -/
def gd {α : Type} (p : Prop) [Decidable p] (k : Option α) : Option α := if p then k else none
def bnd {α β : Type} (x : β) (k : β → Option α) : Option α := k x
def cl {α β S : Type} (o : Option (β × S)) (k : β → S → Option α) : Option α := o.bind (fun p => k p.1 p.2)
def cr {α β : Type} (o : Option β) (k : β → Option α) : Option α := o.bind k
theorem gd_pos {α : Type} {p : Prop} [Decidable p] {k : Option α} (h : p) : gd p k = k := if_pos h
theorem bnd_eq {α β : Type} {x : β} {k : β → Option α} : bnd x k = k x := rfl
theorem cl_some {α β S : Type} {x : β} {s : S} {k : β → S → Option α} : cl (some (x, s)) k = k x s := rfl
theorem cr_some {α β : Type} {x : β} {k : β → Option α} : cr (some x) k = k x := rfl
theorem gd_inv {α : Type} {p : Prop} [Decidable p] {k : Option α} {x : α} (h : gd p k = some x) : p ∧ k = some x := by
  unfold gd at h
  split at h
  · exact ⟨by assumption, h⟩
  · cases h
theorem cl_inv {α β S : Type} {o : Option (β × S)} {k : β → S → Option α} {x : α} (h : cl o k = some x) : ∃ y s, o = some (y, s) ∧ k y s = some x := by
  cases o with
  | none => cases h
  | some p => exact ⟨p.1, p.2, rfl, h⟩
theorem cr_inv {α β : Type} {o : Option β} {k : β → Option α} {x : α} (h : cr o k = some x) : ∃ y, o = some y ∧ k y = some x := by
  cases o with
  | none => cases h
  | some p => exact ⟨p, rfl, h⟩
def dvI (a b : Int) : Int := if 0 ≤ a then a / b else -(-a / b)
def rmI (a b : Int) : Int := if 0 ≤ a then a % b else -(-a % b)
theorem dvI_pos {a b : Int} (h : 0 ≤ a) : dvI a b = a / b := if_pos h
theorem rmI_pos {a b : Int} (h : 0 ≤ a) : rmI a b = a % b := if_pos h
def andI (a b : Int) : Int := (iI a &&& iI b).toInt
def orI (a b : Int) : Int := (iI a ||| iI b).toInt
def xorI (a b : Int) : Int := (iI a ^^^ iI b).toInt
def shlI (a b : Int) : Int := (iI a <<< (iI b &&& 31)).toInt
def shrI (a b : Int) : Int := (iI a >>> (iI b &&& 31)).toInt
def i2cI (a : Int) : Int := (((iI a).toUInt32 % 65536).toInt32).toInt
def landI (a b : Int) : Int := (jL a &&& jL b).toInt
def lorI (a b : Int) : Int := (jL a ||| jL b).toInt
def lxorI (a b : Int) : Int := (jL a ^^^ jL b).toInt
def lshlI (a b : Int) : Int := (jL a <<< ((iI b).toInt64 &&& 63)).toInt
def lshrI (a b : Int) : Int := (jL a >>> ((iI b).toInt64 &&& 63)).toInt
def lushrI (a b : Int) : Int := (((jL a).toUInt64 >>> ((iI b).toInt64.toUInt64 &&& Int64.toUInt64 63)).toInt64).toInt
def d2lI (v : UInt64) : Int := (FP.d2l v).toInt
def dcI (v w : UInt64) (op : CmpOp) : Int := (Op.cmpValue (FP.dcmp v w) op).toInt
abbrev okD (v : UInt64) : Prop := v &&& 0x7fffffffffffffff ≤ 0x7ff0000000000000
abbrev okF (v : UInt32) : Prop := v &&& 0x7fffffff ≤ 0x7f800000
theorem iI_wR (x : Int32) : wR x.toInt := by
  have h1 := x.le_toInt
  have h2 := x.toInt_lt
  omega
theorem jL_wR (x : Int64) : wR64 x.toInt := by
  have h1 := x.le_toInt
  have h2 := x.toInt_lt
  omega
/-- which of the text constants' signs a sign is: 0 digits, 1 kinds, 2 rules -/
def idxS (w c : Int) : Int := if w = 0 then (if 48 ≤ c ∧ c ≤ 55 then c - 48 else -1) else if w = 1 then (if c = 100 then 0 else if c = 119 then 1 else if c = 109 then 2 else if c = 101 then 3 else -1) else (if c = 46 then 0 else if c = 102 then 1 else if c = 98 then 2 else if c = 120 then 3 else if c = 33 then 4 else -1)
/-- the static rows: 0 least, 1 most, 2 the months' starts -/
def sRow (k j : Int) : Int := if k = 0 then (([1, 0, 0, 0] : List Int).getD j.toNat 0) else if k = 1 then (([9, 10000, 1000, 6] : List Int).getD j.toNat 0) else (([0, 31, 59, 90, 120, 151, 181, 212, 243, 273, 304, 334, 365] : List Int).getD j.toNat 0)
def sLen (k : Int) : Int := if k = 2 then 13 else 4
/-- far more than any loop goes round -/
def fuel0 : Nat := 1000000

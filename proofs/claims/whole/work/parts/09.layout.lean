/-! ===== the whole state as functions, and the heap that it lays ===== -/
/-- ints: kind, three indices. 0 house (k, field), 1 calendar (k, field), 2 account (k, i, field), 3 order (k, i, field), 4 waiting (k, field), 5 column (k, c, i), 6 top (field), 7 saved (i), 8 pad (field), 9 signs (i), 10 model (field), 11 its isSaved (i), 12 its pad (i) -/
abbrev gI : Type := Nat → Nat → Nat → Nat → Int
/-- longs: 0 bits (k, word), 1 account (k, i, field), 2 now, 3 waits, 4 kept, 5 keptWaits -/
abbrev gL : Type := Nat → Nat → Nat → Nat → Int64
/-- doubles: 0 account (k, i), 1 owed, 2 keptOwed -/
abbrev gD : Type := Nat → Nat → Nat → Nat → UInt64
/-- with the columns' addresses, and the first free address -/
abbrev gW : Type := gI × gL × gD × (Nat → Nat → Nat) × Nat
abbrev gW.i (G : gW) : gI := G.1
abbrev gW.l (G : gW) : gL := G.2.1
abbrev gW.d (G : gW) : gD := G.2.2.1
abbrev gW.ca (G : gW) : Nat → Nat → Nat := G.2.2.2.1
abbrev gW.nx (G : gW) : Nat := G.2.2.2.2
def up4 {α : Type} (f : Nat → Nat → Nat → Nat → α) (t a b c : Nat) (v : α) : Nat → Nat → Nat → Nat → α := fun t' a' b' c' => if t' = t ∧ a' = a ∧ b' = b ∧ c' = c then v else f t' a' b' c'
theorem up4_eq {α : Type} {f : Nat → Nat → Nat → Nat → α} {t a b c : Nat} {v : α} : up4 f t a b c v t a b c = v := if_pos ⟨rfl, rfl, rfl, rfl⟩
theorem up4_ne {α : Type} {f : Nat → Nat → Nat → Nat → α} {t a b c t' a' b' c' : Nat} {v : α} (h : ¬ (t' = t ∧ a' = a ∧ b' = b ∧ c' = c)) : up4 f t a b c v t' a' b' c' = f t' a' b' c' := if_neg h
def setI (G : gW) (t a b c : Nat) (v : Int) : gW := (up4 G.i t a b c v, G.l, G.d, G.ca, G.nx)
def setL (G : gW) (t a b c : Nat) (v : Int64) : gW := (G.i, up4 G.l t a b c v, G.d, G.ca, G.nx)
def setD (G : gW) (t a b c : Nat) (v : UInt64) : gW := (G.i, G.l, up4 G.d t a b c v, G.ca, G.nx)
def hO (k : Nat) : Nat := if k < 2 then 36 * k + 1 else 36 * k + 6
def locH (k r : Nat) : Nat × Nat × Nat := if r < 7 then (r, k, 0) else if r < 12 then (7, k, r) else if r < 20 then (8, k, r - 12) else (9, k, r - 20)
/-- what stands at an offset: a tag and two indices -/
def loc (o : Nat) : Nat × Nat × Nat :=
  if o = 0 then (10, 0, 0) else if o < 73 then locH ((o - 1) / 36) ((o - 1) % 36) else if o < 78 then (o - 62, 0, 0) else if o < 402 then locH ((o - 6) / 36) ((o - 6) % 36) else if o < 411 then (o - 386, 0, 0) else (7, 0, 0)
def off (t k i : Nat) : Nat := if t < 7 then hO k + t else if t = 8 then hO k + (12 + i) else if t = 9 then hO k + (20 + i) else if t = 10 then 0 else if t < 16 then t + 62 else t + 386
theorem loc_h {k t : Nat} (hk : k < 11) (ht : t < 36) : loc (hO k + t) = locH k t := by
  unfold loc hO
  by_cases h : k < 2
  · rw [if_pos h, if_neg (by omega), if_pos (by omega)]
    congr 1 <;> omega
  · rw [if_neg h, if_neg (by omega), if_neg (by omega), if_neg (by omega), if_pos (by omega)]
    congr 1 <;> omega
theorem locH_off {k r t a b : Nat} (hr : r < 36) (h : locH k r = (t, a, b)) (h7 : t ≠ 7) : hO k + r = off t a b ∧ t < 10 := by
  unfold locH at h
  unfold off
  split at h
  · (simp only [Prod.mk.injEq] at h; obtain ⟨rfl, rfl, rfl⟩ := h)
    rw [if_pos (by assumption)]
    exact ⟨rfl, by omega⟩
  · split at h
    · (simp only [Prod.mk.injEq] at h; obtain ⟨rfl, rfl, rfl⟩ := h)
      exact absurd rfl h7
    · split at h
      · (simp only [Prod.mk.injEq] at h; obtain ⟨rfl, rfl, rfl⟩ := h)
        refine ⟨?_, by omega⟩
        simp
        omega
      · (simp only [Prod.mk.injEq] at h; obtain ⟨rfl, rfl, rfl⟩ := h)
        refine ⟨?_, by omega⟩
        simp
        omega
theorem loc_off {o t a b : Nat} (h : loc o = (t, a, b)) (h7 : t ≠ 7) : o = off t a b := by
  unfold loc at h
  split at h
  · (simp only [Prod.mk.injEq] at h; obtain ⟨rfl, rfl, rfl⟩ := h)
    subst o
    rfl
  · split at h
    · obtain ⟨h1, -⟩ := locH_off (Nat.mod_lt _ (by decide)) h h7
      rw [← h1]
      unfold hO
      have : (o - 1) / 36 < 2 := by omega
      rw [if_pos this]
      omega
    · split at h
      · (simp only [Prod.mk.injEq] at h; obtain ⟨rfl, rfl, rfl⟩ := h)
        unfold off
        rw [if_neg (by omega), if_neg (by omega), if_neg (by omega), if_neg (by omega), if_pos (by omega)]
        omega
      · split at h
        · obtain ⟨h1, -⟩ := locH_off (Nat.mod_lt _ (by decide)) h h7
          rw [← h1]
          unfold hO
          have : ¬ (o - 6) / 36 < 2 := by omega
          rw [if_neg this]
          omega
        · split at h
          · (simp only [Prod.mk.injEq] at h; obtain ⟨rfl, rfl, rfl⟩ := h)
            unfold off
            rw [if_neg (by omega), if_neg (by omega), if_neg (by omega), if_neg (by omega), if_neg (by omega)]
            omega
          · (simp only [Prod.mk.injEq] at h; obtain ⟨rfl, rfl, rfl⟩ := h)
            exact absurd rfl h7
/-! addresses -/
def aTop (E : wE) : Nat := wb E
def aH (E : wE) (k : Nat) : Nat := wb E + off 0 k 0
def aCal (E : wE) (k : Nat) : Nat := wb E + off 1 k 0
def aBits (E : wE) (k : Nat) : Nat := wb E + off 2 k 0
def aAccs (E : wE) (k : Nat) : Nat := wb E + off 3 k 0
def aOrds (E : wE) (k : Nat) : Nat := wb E + off 4 k 0
def aWait (E : wE) (k : Nat) : Nat := wb E + off 5 k 0
def aCols (E : wE) (k : Nat) : Nat := wb E + off 6 k 0
def aAcc (E : wE) (k i : Nat) : Nat := wb E + off 8 k i
def aOrd (E : wE) (k i : Nat) : Nat := wb E + off 9 k i
def aHist (E : wE) : Nat := wb E + off 11 0 0
def aSlots (E : wE) : Nat := wb E + off 12 0 0
def aSaved (E : wE) : Nat := wb E + off 13 0 0
def aPad (E : wE) : Nat := wb E + off 14 0 0
def aSigns (E : wE) : Nat := wb E + off 15 0 0
def aM (E : wE) (j : Nat) : Nat := wb E + off (16 + j) 0 0
/-! cells -/
def cHouse (E : wE) (g : gI) (k : Nat) : List Value := [.ref (aCal E k), .ref (aAccs E k), .ref (aOrds E k), .ref (aWait E k), .int (iI (g 0 k 4 0)), .int (iI (g 0 k 5 0)), .int (iI (g 0 k 6 0)), .int (iI (g 0 k 7 0)), .int (iI (g 0 k 8 0)), .int (iI (g 0 k 9 0)), .int (iI (g 0 k 10 0)), .int (iI (g 0 k 11 0))]
def cCal (E : wE) (g : gI) (k : Nat) : List Value := [.ref (aBits E k), .int (iI (g 1 k 1 0)), .int (iI (g 1 k 2 0))]
def cAcc (g : gI) (l : gL) (d : gD) (k i : Nat) : List Value := [.int (iI (g 2 k i 0)), .int (iI (g 2 k i 1)), .int (iI (g 2 k i 2)), .long (l 1 k i 3), .long (l 1 k i 4), .long (l 1 k i 5), .long (l 1 k i 6), .long (l 1 k i 7), .long (l 1 k i 8), .long (l 1 k i 9), .long (l 1 k i 10), .long (l 1 k i 11), .double (d 0 k i 0)]
def cOrd (g : gI) (k i : Nat) : List Value := [.int (iI (g 3 k i 0)), .int (iI (g 3 k i 1)), .int (iI (g 3 k i 2)), .int (iI (g 3 k i 3)), .int (iI (g 3 k i 4)), .int (iI (g 3 k i 5)), .int (iI (g 3 k i 6)), .int (iI (g 3 k i 7)), .int (iI (g 3 k i 8)), .int (iI (g 3 k i 9)), .int (iI (g 3 k i 10)), .int (iI (g 3 k i 11)), .int (iI (g 3 k i 12)), .int (iI (g 3 k i 13)), .int (iI (g 3 k i 14)), .int (iI (g 3 k i 15)), .int (iI (g 3 k i 16)), .int (iI (g 3 k i 17)), .int (iI (g 3 k i 18)), .int (iI (g 3 k i 19))]
def cWait (E : wE) (g : gI) (k : Nat) : List Value := [.ref (aCols E k), .int (iI (g 4 k 1 0)), .int (iI (g 4 k 2 0))]
def cTop (E : wE) (g : gI) : List Value := [.ref (aH E 0), .ref (aH E 1), .ref (aHist E), .int (iI (g 6 3 0 0)), .int (iI (g 6 4 0 0)), .ref (aSlots E), .ref (aSaved E), .ref (aPad E)]
def cPad (E : wE) (g : gI) : List Value := [.ref (aSigns E), .int (iI (g 8 1 0 0)), .int (iI (g 8 2 0 0)), .int (iI (g 8 3 0 0)), .int (iI (g 8 4 0 0)), .int (iI (g 8 5 0 0)), .int (iI (g 8 6 0 0)), .int (iI (g 8 7 0 0)), .int (iI (g 8 8 0 0)), .int (iI (g 8 9 0 0)), .int (iI (g 8 10 0 0))]
def cMod (E : wE) (g : gI) : List Value := [.ref (aM E 1), .ref (aM E 2), .ref (aM E 3), .ref (aM E 4), .ref (aM E 5), .ref (aM E 6), .ref (aM E 7), .int (iI (g 10 7 0 0)), .int (iI (g 10 8 0 0)), .ref (aM E 8), .int (iI (g 10 10 0 0)), .int (iI (g 10 11 0 0)), .int (iI (g 10 12 0 0)), .int (iI (g 10 13 0 0)), .int (iI (g 10 14 0 0)), .int (iI (g 10 15 0 0)), .int (iI (g 10 16 0 0)), .int (iI (g 10 17 0 0)), .int (iI (g 10 18 0 0)), .int (iI (g 10 19 0 0)), .int (iI (g 10 20 0 0))]
def cell (E : wE) (G : gW) (t k i : Nat) : Option va_E := match t with
  | 0 => some (.inr (2, cHouse E G.i k))
  | 1 => some (.inr (1, cCal E G.i k))
  | 2 => some (eL E 18 (fun j => G.l 0 k j 0))
  | 3 => some (eQ E 6 8 (fun j => some (aAcc E k j)))
  | 4 => some (eQ E 7 16 (fun j => some (aOrd E k j)))
  | 5 => some (.inr (5, cWait E G.i k))
  | 6 => some (eQ E 5 5 (fun j => some (G.ca k j)))
  | 8 => some (.inr (0, cAcc G.i G.l G.d k i))
  | 9 => some (.inr (3, cOrd G.i k i))
  | 10 => some (.inr (6, cTop E G.i))
  | 11 => some (eQ E 8 7 (fun j => some (aH E (2 + j))))
  | 12 => some (eQ E 8 2 (fun j => some (aH E (9 + j))))
  | 13 => some (eZ E 2 (fun j => iI (G.i 7 j 0 0)))
  | 14 => some (.inr (4, cPad E G.i))
  | 15 => some (eC E 80 (fun j => iI (G.i 9 j 0 0)))
  | 16 => some (.inr (7, cMod E G.i))
  | 17 => some (eL E 377 (fun j => G.l 2 j 0 0))
  | 18 => some (eD E 8 (fun j => G.d 1 j 0 0))
  | 19 => some (eL E 8400 (fun j => G.l 3 j 0 0))
  | 20 => some (eL E 3393 (fun j => G.l 4 j 0 0))
  | 21 => some (eD E 72 (fun j => G.d 2 j 0 0))
  | 22 => some (eL E 75600 (fun j => G.l 5 j 0 0))
  | 23 => some (eI E 2 (fun j => iI (G.i 11 j 0 0)))
  | 24 => some (eI E 80 (fun j => iI (G.i 12 j 0 0)))
  | _ => none
def wPairs : List (Nat × Nat) := (List.range 11).flatMap fun k => (List.range 5).map fun c => (k, c)
def dyn (E : wE) (G : gW) (q : Nat) : Option va_E := (wPairs.find? fun p => Nat.beq (G.ca p.1 p.2) q).map fun p => eI E (G.i 4 p.1 1 0).toNat (fun j => iI (G.i 5 p.1 p.2 j))
def lay (E : wE) (G : gW) : hW := (fun q => if wb E ≤ q then (if (loc (q - wb E)).1 = 7 then dyn E G q else cell E G (loc (q - wb E)).1 (loc (q - wb E)).2.1 (loc (q - wb E)).2.2) else none, G.nx)
theorem lay_at {E : wE} {G : gW} {o t k i : Nat} (h : loc o = (t, k, i)) (h7 : t ≠ 7) : (lay E G).1 (wb E + o) = cell E G t k i := by
  show (if _ then _ else _) = _
  rw [if_pos (Nat.le_add_right _ _), Nat.add_sub_cancel_left, h, if_neg h7]
theorem lc_h {k t : Nat} (hk : k < 11) (ht : t < 7) : loc (off t k 0) = (t, k, 0) := by
  unfold off
  rw [if_pos ht, loc_h hk (by omega)]
  unfold locH
  rw [if_pos ht]
theorem lc_a {k i : Nat} (hk : k < 11) (hi : i < 8) : loc (off 8 k i) = (8, k, i) := by
  show loc (hO k + (12 + i)) = _
  rw [loc_h hk (by omega)]
  unfold locH
  rw [if_neg (by omega), if_neg (by omega), if_pos (by omega), Nat.add_sub_cancel_left]
theorem lc_o {k i : Nat} (hk : k < 11) (hi : i < 16) : loc (off 9 k i) = (9, k, i) := by
  show loc (hO k + (20 + i)) = _
  rw [loc_h hk (by omega)]
  unfold locH
  rw [if_neg (by omega), if_neg (by omega), if_neg (by omega), Nat.add_sub_cancel_left]
section RD
variable {E : wE} {G : gW} {k i : Nat}
theorem rd_top : (lay E G).1 (aTop E) = some (.inr (6, cTop E G.i)) := lay_at (o := 0) (t := 10) (k := 0) (i := 0) rfl (by decide)
theorem rd_h (hk : k < 11 := by omega) : (lay E G).1 (aH E k) = some (.inr (2, cHouse E G.i k)) := lay_at (lc_h hk (by decide)) (by decide)
theorem rd_cal (hk : k < 11 := by omega) : (lay E G).1 (aCal E k) = some (.inr (1, cCal E G.i k)) := lay_at (lc_h hk (by decide)) (by decide)
theorem rd_bits (hk : k < 11 := by omega) : (lay E G).1 (aBits E k) = some (eL E 18 (fun j => G.l 0 k j 0)) := lay_at (lc_h hk (by decide)) (by decide)
theorem rd_accs (hk : k < 11 := by omega) : (lay E G).1 (aAccs E k) = some (eQ E 6 8 (fun j => some (aAcc E k j))) := lay_at (lc_h hk (by decide)) (by decide)
theorem rd_ords (hk : k < 11 := by omega) : (lay E G).1 (aOrds E k) = some (eQ E 7 16 (fun j => some (aOrd E k j))) := lay_at (lc_h hk (by decide)) (by decide)
theorem rd_wait (hk : k < 11 := by omega) : (lay E G).1 (aWait E k) = some (.inr (5, cWait E G.i k)) := lay_at (lc_h hk (by decide)) (by decide)
theorem rd_cols (hk : k < 11 := by omega) : (lay E G).1 (aCols E k) = some (eQ E 5 5 (fun j => some (G.ca k j))) := lay_at (lc_h hk (by decide)) (by decide)
theorem rd_acc (hk : k < 11 := by omega) (hi : i < 8 := by omega) : (lay E G).1 (aAcc E k i) = some (.inr (0, cAcc G.i G.l G.d k i)) := lay_at (lc_a hk hi) (by decide)
theorem rd_ord (hk : k < 11 := by omega) (hi : i < 16 := by omega) : (lay E G).1 (aOrd E k i) = some (.inr (3, cOrd G.i k i)) := lay_at (lc_o hk hi) (by decide)
theorem rd_hist : (lay E G).1 (aHist E) = some (eQ E 8 7 (fun j => some (aH E (2 + j)))) := lay_at (t := 11) (k := 0) (i := 0) rfl (by decide)
theorem rd_slots : (lay E G).1 (aSlots E) = some (eQ E 8 2 (fun j => some (aH E (9 + j)))) := lay_at (t := 12) (k := 0) (i := 0) rfl (by decide)
theorem rd_saved : (lay E G).1 (aSaved E) = some (eZ E 2 (fun j => iI (G.i 7 j 0 0))) := lay_at (t := 13) (k := 0) (i := 0) rfl (by decide)
theorem rd_pad : (lay E G).1 (aPad E) = some (.inr (4, cPad E G.i)) := lay_at (t := 14) (k := 0) (i := 0) rfl (by decide)
theorem rd_signs : (lay E G).1 (aSigns E) = some (eC E 80 (fun j => iI (G.i 9 j 0 0))) := lay_at (t := 15) (k := 0) (i := 0) rfl (by decide)
theorem rd_m : (lay E G).1 (aM E 0) = some (.inr (7, cMod E G.i)) := lay_at (t := 16) (k := 0) (i := 0) rfl (by decide)
theorem rd_now : (lay E G).1 (aM E 1) = some (eL E 377 (fun j => G.l 2 j 0 0)) := lay_at (t := 17) (k := 0) (i := 0) rfl (by decide)
theorem rd_owed : (lay E G).1 (aM E 2) = some (eD E 8 (fun j => G.d 1 j 0 0)) := lay_at (t := 18) (k := 0) (i := 0) rfl (by decide)
theorem rd_waits : (lay E G).1 (aM E 3) = some (eL E 8400 (fun j => G.l 3 j 0 0)) := lay_at (t := 19) (k := 0) (i := 0) rfl (by decide)
theorem rd_kept : (lay E G).1 (aM E 4) = some (eL E 3393 (fun j => G.l 4 j 0 0)) := lay_at (t := 20) (k := 0) (i := 0) rfl (by decide)
theorem rd_keptO : (lay E G).1 (aM E 5) = some (eD E 72 (fun j => G.d 2 j 0 0)) := lay_at (t := 21) (k := 0) (i := 0) rfl (by decide)
theorem rd_keptW : (lay E G).1 (aM E 6) = some (eL E 75600 (fun j => G.l 5 j 0 0)) := lay_at (t := 22) (k := 0) (i := 0) rfl (by decide)
theorem rd_ms : (lay E G).1 (aM E 7) = some (eI E 2 (fun j => iI (G.i 11 j 0 0))) := lay_at (t := 23) (k := 0) (i := 0) rfl (by decide)
theorem rd_mp : (lay E G).1 (aM E 8) = some (eI E 80 (fun j => iI (G.i 12 j 0 0))) := lay_at (t := 24) (k := 0) (i := 0) rfl (by decide)
end RD

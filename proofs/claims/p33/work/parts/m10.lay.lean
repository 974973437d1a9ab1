/-! ===== the heap of the plain states (by program: wip/p33/gen_lay.py) ===== -/
def hO (k : Nat) : Nat := if k < 2 then 36 * k + 1 else 36 * k + 6
def locH (k r : Nat) : Nat × Nat × Nat := if r < 7 then (r, k, 0) else if r < 12 then (7, k, r) else if r < 20 then (8, k, r - 12) else (9, k, r - 20)
/-- what stands at an offset: a tag and two indices -/
def loc (o : Nat) : Nat × Nat × Nat :=
  if o = 0 then (10, 0, 0) else if o < 73 then locH ((o - 1) / 36) ((o - 1) % 36) else if o < 78 then (o - 62, 0, 0) else if o < 402 then locH ((o - 6) / 36) ((o - 6) % 36) else (7, 0, 0)
def off (t k i : Nat) : Nat := if t < 7 then hO k + t else if t = 8 then hO k + (12 + i) else if t = 9 then hO k + (20 + i) else if t = 10 then 0 else if t < 16 then t + 62 else t + 386
theorem loc_h {k t : Nat} (hk : k < 11) (ht : t < 36) : loc (hO k + t) = locH k t := by
  unfold loc hO
  by_cases h : k < 2
  · rw [if_pos h, if_neg (by omega), if_pos (by omega)]
    congr 1 <;> omega
  · rw [if_neg h, if_neg (by omega), if_neg (by omega), if_neg (by omega), if_pos (by omega)]
    congr 1 <;> omega
theorem locH_off {k r t a b : Nat} (hr : r < 36) (h : locH k r = (t, a, b)) (h7 : t ≠ 7) : hO k + r = off t a b ∧ t < 10 := by
  unfold locH at h
  unfold off
  split at h
  · (simp only [Prod.mk.injEq] at h; obtain ⟨rfl, rfl, rfl⟩ := h)
    rw [if_pos (by assumption)]
    exact ⟨rfl, by omega⟩
  · split at h
    · (simp only [Prod.mk.injEq] at h; obtain ⟨rfl, rfl, rfl⟩ := h)
      exact absurd rfl h7
    · split at h
      · (simp only [Prod.mk.injEq] at h; obtain ⟨rfl, rfl, rfl⟩ := h)
        refine ⟨?_, by omega⟩
        simp
        omega
      · (simp only [Prod.mk.injEq] at h; obtain ⟨rfl, rfl, rfl⟩ := h)
        refine ⟨?_, by omega⟩
        simp
        omega
theorem loc_off {o t a b : Nat} (h : loc o = (t, a, b)) (h7 : t ≠ 7) : o = off t a b := by
  unfold loc at h
  split at h
  · (simp only [Prod.mk.injEq] at h; obtain ⟨rfl, rfl, rfl⟩ := h)
    subst o
    rfl
  · split at h
    · obtain ⟨h1, -⟩ := locH_off (Nat.mod_lt _ (by decide)) h h7
      rw [← h1]
      unfold hO
      have : (o - 1) / 36 < 2 := by omega
      rw [if_pos this]
      omega
    · split at h
      · (simp only [Prod.mk.injEq] at h; obtain ⟨rfl, rfl, rfl⟩ := h)
        unfold off
        rw [if_neg (by omega), if_neg (by omega), if_neg (by omega), if_neg (by omega), if_pos (by omega)]
        omega
      · split at h
        · obtain ⟨h1, -⟩ := locH_off (Nat.mod_lt _ (by decide)) h h7
          rw [← h1]
          unfold hO
          have : ¬ (o - 6) / 36 < 2 := by omega
          rw [if_neg this]
          omega
        · (simp only [Prod.mk.injEq] at h; obtain ⟨rfl, rfl, rfl⟩ := h)
          exact absurd rfl h7
theorem lc_h {k t : Nat} (hk : k < 11) (ht : t < 7) : loc (off t k 0) = (t, k, 0) := by
  unfold off
  rw [if_pos ht, loc_h hk (by omega)]
  unfold locH
  rw [if_pos ht]
theorem lc_a {k i : Nat} (hk : k < 11) (hi : i < 8) : loc (off 8 k i) = (8, k, i) := by
  show loc (hO k + (12 + i)) = _
  rw [loc_h hk (by omega)]
  unfold locH
  rw [if_neg (by omega), if_neg (by omega), if_pos (by omega), Nat.add_sub_cancel_left]
theorem lc_o {k i : Nat} (hk : k < 11) (hi : i < 16) : loc (off 9 k i) = (9, k, i) := by
  show loc (hO k + (20 + i)) = _
  rw [loc_h hk (by omega)]
  unfold locH
  rw [if_neg (by omega), if_neg (by omega), if_neg (by omega), Nat.add_sub_cancel_left]
theorem loc_v {o t a b : Nat} (h : loc o = (t, a, b)) (h7 : t ≠ 7) : (t < 7 → b = 0) ∧ (10 ≤ t → a = 0 ∧ b = 0) := by
  unfold loc locH at h
  split at h
  · simp only [Prod.mk.injEq] at h; obtain ⟨rfl, rfl, rfl⟩ := h; exact ⟨fun _ => rfl, fun _ => ⟨rfl, rfl⟩⟩
  · split at h
    · repeat' split at h
      all_goals (simp only [Prod.mk.injEq] at h; obtain ⟨rfl, rfl, rfl⟩ := h; exact ⟨fun q => by omega, fun q => by omega⟩)
    · split at h
      · simp only [Prod.mk.injEq] at h; obtain ⟨rfl, rfl, rfl⟩ := h; exact ⟨fun _ => rfl, fun _ => ⟨rfl, rfl⟩⟩
      · split at h
        · repeat' split at h
          all_goals (simp only [Prod.mk.injEq] at h; obtain ⟨rfl, rfl, rfl⟩ := h; exact ⟨fun q => by omega, fun q => by omega⟩)
        · simp only [Prod.mk.injEq] at h; obtain ⟨rfl, rfl, rfl⟩ := h; exact absurd rfl h7
theorem locH_k {k r : Nat} (h : (locH k r).1 ≠ 7) : (locH k r).1 < 10 ∧ (locH k r).2.1 = k := by
  unfold locH at h ⊢
  repeat' split
  all_goals first | (exact ⟨by omega, rfl⟩) | (simp_all; done) | (constructor <;> simp_all <;> omega)
/-! addresses -/
def aTop (E : wE) : Nat := wb E
def aH (E : wE) (k : Int) : Nat := wb E + off 0 k.toNat 0
def aCal (E : wE) (k : Int) : Nat := wb E + off 1 k.toNat 0
def aBits (E : wE) (k : Int) : Nat := wb E + off 2 k.toNat 0
def aAccs (E : wE) (k : Int) : Nat := wb E + off 3 k.toNat 0
def aOrds (E : wE) (k : Int) : Nat := wb E + off 4 k.toNat 0
def aWait (E : wE) (k : Int) : Nat := wb E + off 5 k.toNat 0
def aCols (E : wE) (k : Int) : Nat := wb E + off 6 k.toNat 0
def aAcc (E : wE) (k i : Int) : Nat := wb E + off 8 k.toNat i.toNat
def aOrd (E : wE) (k i : Int) : Nat := wb E + off 9 k.toNat i.toNat
def aHist (E : wE) : Nat := wb E + off 11 0 0
def aSlots (E : wE) : Nat := wb E + off 12 0 0
def aSaved (E : wE) : Nat := wb E + off 13 0 0
def aPad (E : wE) : Nat := wb E + off 14 0 0
def aSigns (E : wE) : Nat := wb E + off 15 0 0
/-! cells -/
def cHouse (E : wE) (H : hR) (k : Int) : List Value := [.ref (aCal E k), .ref (aAccs E k), .ref (aOrds E k), .ref (aWait E k), .int (iI (H.1 0 4 0)), .int (iI (H.1 0 5 0)), .int (iI (H.1 0 6 0)), .int (iI (H.1 0 7 0)), .int (iI (H.1 0 8 0)), .int (iI (H.1 0 9 0)), .int (iI (H.1 0 10 0)), .int (iI (H.1 0 11 0))]
def cCal (E : wE) (H : hR) (k : Int) : List Value := [.ref (aBits E k), .int (iI (H.1 1 1 0)), .int (iI (H.1 1 2 0))]
def cAcc (H : hR) (i : Int) : List Value := [.int (iI (H.1 2 i 0)), .int (iI (H.1 2 i 1)), .int (iI (H.1 2 i 2)), .long (jL (H.1 2 i 3)), .long (jL (H.1 2 i 4)), .long (jL (H.1 2 i 5)), .long (jL (H.1 2 i 6)), .long (jL (H.1 2 i 7)), .long (jL (H.1 2 i 8)), .long (jL (H.1 2 i 9)), .long (jL (H.1 2 i 10)), .long (jL (H.1 2 i 11)), .double (H.2 i)]
def cOrd (H : hR) (i : Int) : List Value := [.int (iI (H.1 3 i 0)), .int (iI (H.1 3 i 1)), .int (iI (H.1 3 i 2)), .int (iI (H.1 3 i 3)), .int (iI (H.1 3 i 4)), .int (iI (H.1 3 i 5)), .int (iI (H.1 3 i 6)), .int (iI (H.1 3 i 7)), .int (iI (H.1 3 i 8)), .int (iI (H.1 3 i 9)), .int (iI (H.1 3 i 10)), .int (iI (H.1 3 i 11)), .int (iI (H.1 3 i 12)), .int (iI (H.1 3 i 13)), .int (iI (H.1 3 i 14)), .int (iI (H.1 3 i 15)), .int (iI (H.1 3 i 16)), .int (iI (H.1 3 i 17)), .int (iI (H.1 3 i 18)), .int (iI (H.1 3 i 19))]
def cWait (E : wE) (H : hR) (k : Int) : List Value := [.ref (aCols E k), .int (iI (H.1 4 1 0)), .int (iI (H.1 4 2 0))]
def cTop (E : wE) (T : Int → Int → Int) : List Value := [.ref (aH E 0), .ref (aH E 1), .ref (aHist E), .int (iI (T 0 3)), .int (iI (T 0 4)), .ref (aSlots E), .ref (aSaved E), .ref (aPad E)]
def cPad (E : wE) (p : Int → Int → Int) : List Value := [.ref (aSigns E), .int (iI (p 0 1)), .int (iI (p 0 2)), .int (iI (p 0 3)), .int (iI (p 0 4)), .int (iI (p 0 5)), .int (iI (p 0 6)), .int (iI (p 0 7)), .int (iI (p 0 8)), .int (iI (p 0 9)), .int (iI (p 0 10))]
def cellH (E : wE) (H : hR) (ca : Nat → Nat) (t k i : Nat) : Option va_E := match t with
  | 0 => some (.inr (2, cHouse E H k))
  | 1 => some (.inr (1, cCal E H k))
  | 2 => some (eL E 18 (fun j => jL (H.1 6 j 0)))
  | 3 => some (eQ E 6 8 (fun j => some (aAcc E k j)))
  | 4 => some (eQ E 7 16 (fun j => some (aOrd E k j)))
  | 5 => some (.inr (5, cWait E H k))
  | 6 => some (eQ E 5 5 (fun j => some (ca j)))
  | 8 => some (.inr (0, cAcc H i))
  | 9 => some (.inr (3, cOrd H i))
  | _ => none
def cellT (E : wE) (G : gR) (t : Nat) : Option va_E := match t with
  | 10 => some (.inr (6, cTop E G.1.2.1))
  | 11 => some (eQ E 8 7 (fun j => some (aH E (2 + (j : Int)))))
  | 12 => some (eQ E 8 2 (fun j => some (aH E (9 + (j : Int)))))
  | 13 => some (eZ E 2 (fun j => iI (G.1.2.1 1 j)))
  | 14 => some (.inr (4, cPad E G.1.2.2))
  | 15 => some (eC E 80 (fun j => iI (G.1.2.2 1 j)))
  | _ => none
abbrev caT : Type := Nat → Nat → Nat
def colE (E : wE) (H : hR) (c : Nat) : va_E := eI E (rmN H) (fun i => iI (H.1 5 c i))
/-- the columns stand apart from all else and from one another -/
def caOK (E : wE) (ca : caT) (nx : Nat) : Prop := (∀ k c, k < 11 → c < 5 → wb E ≤ ca k c ∧ ca k c < nx ∧ (loc (ca k c - wb E)).1 = 7) ∧ (∀ k c k' c', k < 11 → c < 5 → k' < 11 → c' < 5 → ca k c = ca k' c' → k = k' ∧ c = c') ∧ wb E + 402 ≤ nx
def rep (E : wE) (G : gR) (ca : caT) (h : hW) : Prop := caOK E ca h.2 ∧ (∀ t k i, t < 10 → k < 11 → loc (off t k i) = (t, k, i) → t ≠ 7 → h.1 (wb E + off t k i) = cellH E (G.1.1 k) (ca k) t k i) ∧ (∀ t, 10 ≤ t → t < 16 → h.1 (wb E + off t 0 0) = cellT E G t) ∧ (∀ k c, k < 11 → c < 5 → h.1 (ca k c) = some (colE E (G.1.1 k) c))
theorem lc_t {t : Nat} (h : 10 ≤ t) (h2 : t < 16) : loc (off t 0 0) = (t, 0, 0) := by
  have : ∀ t, t < 16 → 10 ≤ t → loc (off t 0 0) = (t, 0, 0) := by decide
  exact this t h2 h
theorem w_up_eq {h : hW} {a : Nat} {e : va_E} : (wUp h a e).1 a = some e := by
  show (bif Nat.beq a a then _ else _) = _
  rw [Nat.beq_refl, cond_true]
theorem w_up_ne {h : hW} {a b : Nat} {e : va_E} (q : ¬ b = a) : (wUp h a e).1 b = h.1 b := by
  show (bif Nat.beq b a then _ else _) = _
  rw [w_bF q, cond_false]
theorem off_ne {t k i t' k' i' : Nat} (h1 : loc (off t k i) = (t, k, i)) (h2 : loc (off t' k' i') = (t', k', i')) (h : ¬ (t' = t ∧ k' = k ∧ i' = i)) (b : Nat) : ¬ b + off t' k' i' = b + off t k i := by
  intro q
  have q := Nat.add_left_cancel q
  rw [q, h1] at h2
  simp only [Prod.mk.injEq] at h2
  exact h ⟨h2.1.symm, h2.2.1.symm, h2.2.2.symm⟩
theorem ca_ne {E : wE} {ca : caT} {nx k c t k' i' : Nat} (h : caOK E ca nx) (hk : k < 11) (hc : c < 5) (h2 : loc (off t k' i') = (t, k', i')) (h7 : t ≠ 7) : ¬ ca k c = wb E + off t k' i' := by
  intro q
  have h9 := (h.1 k c hk hc).2.2
  rw [q, Nat.add_sub_cancel_left, h2] at h9
  exact h7 h9
theorem off_ne10 {t k i t' : Nat} (h1 : loc (off t k i) = (t, k, i)) (ht : t < 10) (h2 : 10 ≤ t') (h3 : t' < 16) (b : Nat) : ¬ b + off t' 0 0 = b + off t k i :=
  off_ne h1 (lc_t h2 h3) (fun q => by omega) b
/-! the lens of a house -/
def setH (G : gR) (k : Int) (H : hR) : gR := (cH G.1 k H, G.2)
theorem setH_at {G : gR} {k : Int} {H : hR} : (setH G k H).1.1 k = H := if_pos rfl
theorem setH_ne {G : gR} {k k' : Int} {H : hR} (h : ¬ k' = k) : (setH G k H).1.1 k' = G.1.1 k' := if_neg h
theorem setH_self {G : gR} {k : Int} : setH G k (G.1.1 k) = G := by
  unfold setH cH
  have : up1 G.1.1 k (G.1.1 k) = G.1.1 := by
    funext k'
    unfold up1
    split
    · rename_i q
      rw [q]
    · rfl
  rw [this]
theorem setH_setH {G : gR} {k : Int} {H H' : hR} : setH (setH G k H) k H' = setH G k H' := by
  unfold setH cH
  have : up1 (up1 G.1.1 k H) k H' = up1 G.1.1 k H' := by
    funext k'
    unfold up1
    split <;> rfl
  simp only [this]
/-- one cell of a house is written -/
theorem rep_H {E : wE} {G : gR} {H H' : hR} {ca : caT} {h : hW} {k t i : Nat} {e : va_E} (hk : k < 11) (ht : t < 10) (h7 : t ≠ 7) (hl : loc (off t k i) = (t, k, i)) (hr : rep E (setH G k H) ca h) (hc : cellH E H' (ca k) t k i = some e)
    (hrest : ∀ t' i', t' < 10 → t' ≠ 7 → (t' < 7 → i' = 0) → ¬ (t' = t ∧ i' = i) → cellH E H' (ca k) t' k i' = cellH E H (ca k) t' k i') (hcol : ∀ c, colE E H' c = colE E H c) : rep E (setH G k H') ca (wUp h (wb E + off t k i) e) := by
  obtain ⟨r1, r2, r3, r4⟩ := hr
  refine ⟨r1, fun t' k' i' q1 q2 q3 q4 => ?_, fun t' q1 q2 => ?_, fun k' c q1 q2 => ?_⟩
  · by_cases hs : t' = t ∧ k' = k ∧ i' = i
    · obtain ⟨rfl, rfl, rfl⟩ := hs
      rw [w_up_eq, setH_at, hc]
    · rw [w_up_ne (off_ne hl q3 hs _), r2 t' k' i' q1 q2 q3 q4]
      by_cases hkk : k' = k
      · subst hkk
        rw [setH_at, setH_at]
        exact (hrest t' i' q1 q4 (loc_v q3 q4).1 (fun q => hs ⟨q.1, rfl, q.2⟩)).symm
      · rw [setH_ne (fun q => hkk (by omega)), setH_ne (fun q => hkk (by omega))]
  · rw [w_up_ne (off_ne10 hl ht q1 q2 _)]
    exact r3 t' q1 q2
  · rw [w_up_ne (ca_ne r1 q1 q2 hl h7), r4 k' c q1 q2]
    by_cases hkk : k' = k
    · subst hkk
      rw [setH_at, setH_at, hcol]
    · rw [setH_ne (fun q => hkk (by omega)), setH_ne (fun q => hkk (by omega))]
/-- one of the other cells is written -/
theorem rep_T {E : wE} {G G' : gR} {ca : caT} {h : hW} {t : Nat} {e : va_E} (h1 : 10 ≤ t) (h2 : t < 16) (hr : rep E G ca h) (hc : cellT E G' t = some e) (hrest : ∀ t', ¬ t' = t → cellT E G' t' = cellT E G t') (hG : G'.1.1 = G.1.1) : rep E G' ca (wUp h (wb E + off t 0 0) e) := by
  obtain ⟨r1, r2, r3, r4⟩ := hr
  refine ⟨r1, fun t' k' i' q1 q2 q3 q4 => ?_, fun t' q1 q2 => ?_, fun k' c q1 q2 => ?_⟩
  · rw [w_up_ne (off_ne (lc_t h1 h2) q3 (fun q => by omega) _), r2 t' k' i' q1 q2 q3 q4, hG]
  · by_cases hs : t' = t
    · subst hs
      rw [w_up_eq, hc]
    · rw [w_up_ne (off_ne (lc_t h1 h2) (lc_t q1 q2) (fun q => hs q.1) _), r3 t' q1 q2, hrest t' hs]
  · rw [w_up_ne (ca_ne r1 q1 q2 (lc_t h1 h2) (by omega)), r4 k' c q1 q2, hG]
/-- one place of a column is written -/
theorem rep_C {E : wE} {G : gR} {H H' : hR} {ca : caT} {h : hW} {k c : Nat} (hk : k < 11) (hc : c < 5) (hr : rep E (setH G k H) ca h) (hcell : ∀ t' i', t' < 10 → t' ≠ 7 → cellH E H' (ca k) t' k i' = cellH E H (ca k) t' k i') (hcol : ∀ c' : Nat, c' < 5 → ¬ c' = c → colE E H' c' = colE E H c') : rep E (setH G k H') ca (wUp h (ca k c) (colE E H' c)) := by
  obtain ⟨r1, r2, r3, r4⟩ := hr
  refine ⟨r1, fun t' k' i' q1 q2 q3 q4 => ?_, fun t' q1 q2 => ?_, fun k' c' q1 q2 => ?_⟩
  · rw [w_up_ne (fun q => ca_ne r1 hk hc q3 q4 q.symm), r2 t' k' i' q1 q2 q3 q4]
    by_cases hkk : k' = k
    · subst hkk
      rw [setH_at, setH_at]
      exact (hcell t' i' q1 q4).symm
    · rw [setH_ne (fun q => hkk (by omega)), setH_ne (fun q => hkk (by omega))]
  · rw [w_up_ne (fun q => ca_ne r1 hk hc (lc_t q1 q2) (by omega) q.symm)]
    exact r3 t' q1 q2
  · by_cases hs : k' = k ∧ c' = c
    · obtain ⟨rfl, rfl⟩ := hs
      rw [w_up_eq, setH_at]
    · rw [w_up_ne (fun q => hs (r1.2.1 k' c' k c q1 q2 hk hc q)), r4 k' c' q1 q2]
      by_cases hkk : k' = k
      · subst hkk
        rw [setH_at, setH_at, hcol c' q2 (fun q => hs ⟨rfl, q⟩)]
      · rw [setH_ne (fun q => hkk (by omega)), setH_ne (fun q => hkk (by omega))]
/-! reads -/
section RD
variable {E : wE} {G : gR} {H : hR} {ca : caT} {h : hW} {k i : Int}
theorem i_cast {k : Int} {n : Nat} (h : 0 ≤ k ∧ k < n) : ((k.toNat : Nat) : Int) = k ∧ k.toNat < n := by omega
theorem rd_h (hr : rep E G ca h) (hH : G.1.1 k = H) (hk : 0 ≤ k ∧ k < 11) : h.1 (aH E k) = some (.inr (2, cHouse E H k)) := by
  obtain ⟨e, h2⟩ := i_cast (n := 11) hk
  have h9 := hr.2.1 0 k.toNat 0 (by decide) h2 (lc_h h2 (by decide)) (by decide)
  rw [e, hH] at h9
  refine h9.trans ?_
  simp only [cellH, e]
theorem rd_cal (hr : rep E G ca h) (hH : G.1.1 k = H) (hk : 0 ≤ k ∧ k < 11) : h.1 (aCal E k) = some (.inr (1, cCal E H k)) := by
  obtain ⟨e, h2⟩ := i_cast (n := 11) hk
  have h9 := hr.2.1 1 k.toNat 0 (by decide) h2 (lc_h h2 (by decide)) (by decide)
  rw [e, hH] at h9
  refine h9.trans ?_
  simp only [cellH, e]
theorem rd_bits (hr : rep E G ca h) (hH : G.1.1 k = H) (hk : 0 ≤ k ∧ k < 11) : h.1 (aBits E k) = some (eL E 18 (fun j => jL (H.1 6 j 0))) := by
  obtain ⟨e, h2⟩ := i_cast (n := 11) hk
  have h9 := hr.2.1 2 k.toNat 0 (by decide) h2 (lc_h h2 (by decide)) (by decide)
  rw [e, hH] at h9
  refine h9.trans ?_
  simp only [cellH, e]
theorem rd_accs (hr : rep E G ca h) (hH : G.1.1 k = H) (hk : 0 ≤ k ∧ k < 11) : h.1 (aAccs E k) = some (eQ E 6 8 (fun j => some (aAcc E k j))) := by
  obtain ⟨e, h2⟩ := i_cast (n := 11) hk
  have h9 := hr.2.1 3 k.toNat 0 (by decide) h2 (lc_h h2 (by decide)) (by decide)
  rw [e, hH] at h9
  refine h9.trans ?_
  simp only [cellH, e]
theorem rd_ords (hr : rep E G ca h) (hH : G.1.1 k = H) (hk : 0 ≤ k ∧ k < 11) : h.1 (aOrds E k) = some (eQ E 7 16 (fun j => some (aOrd E k j))) := by
  obtain ⟨e, h2⟩ := i_cast (n := 11) hk
  have h9 := hr.2.1 4 k.toNat 0 (by decide) h2 (lc_h h2 (by decide)) (by decide)
  rw [e, hH] at h9
  refine h9.trans ?_
  simp only [cellH, e]
theorem rd_wait (hr : rep E G ca h) (hH : G.1.1 k = H) (hk : 0 ≤ k ∧ k < 11) : h.1 (aWait E k) = some (.inr (5, cWait E H k)) := by
  obtain ⟨e, h2⟩ := i_cast (n := 11) hk
  have h9 := hr.2.1 5 k.toNat 0 (by decide) h2 (lc_h h2 (by decide)) (by decide)
  rw [e, hH] at h9
  refine h9.trans ?_
  simp only [cellH, e]
theorem rd_cols (hr : rep E G ca h) (hH : G.1.1 k = H) (hk : 0 ≤ k ∧ k < 11) : h.1 (aCols E k) = some (eQ E 5 5 (fun j => some (ca k.toNat j))) := by
  obtain ⟨e, h2⟩ := i_cast (n := 11) hk
  have h9 := hr.2.1 6 k.toNat 0 (by decide) h2 (lc_h h2 (by decide)) (by decide)
  rw [e, hH] at h9
  refine h9.trans ?_
  simp only [cellH, e]
theorem rd_acc (hr : rep E G ca h) (hH : G.1.1 k = H) (hk : 0 ≤ k ∧ k < 11) (hi : 0 ≤ i ∧ i < 8) : h.1 (aAcc E k i) = some (.inr (0, cAcc H i)) := by
  obtain ⟨e, h2⟩ := i_cast (n := 11) hk
  obtain ⟨e1, h3⟩ := i_cast (n := 8) hi
  have h9 := hr.2.1 8 k.toNat i.toNat (by decide) h2 (lc_a h2 h3) (by decide)
  rw [e, hH] at h9
  refine h9.trans ?_
  simp only [cellH, e1]
theorem rd_ord (hr : rep E G ca h) (hH : G.1.1 k = H) (hk : 0 ≤ k ∧ k < 11) (hi : 0 ≤ i ∧ i < 16) : h.1 (aOrd E k i) = some (.inr (3, cOrd H i)) := by
  obtain ⟨e, h2⟩ := i_cast (n := 11) hk
  obtain ⟨e1, h3⟩ := i_cast (n := 16) hi
  have h9 := hr.2.1 9 k.toNat i.toNat (by decide) h2 (lc_o h2 h3) (by decide)
  rw [e, hH] at h9
  refine h9.trans ?_
  simp only [cellH, e1]
theorem rd_col {c : Int} (hr : rep E G ca h) (hH : G.1.1 k = H) (hk : 0 ≤ k ∧ k < 11) (hc : 0 ≤ c ∧ c < 5) : h.1 (ca k.toNat c.toNat) = some (eI E (rmN H) (fun j => iI (H.1 5 c j))) := by
  obtain ⟨e, h2⟩ := i_cast (n := 11) hk
  obtain ⟨e1, h3⟩ := i_cast (n := 5) hc
  have h9 := hr.2.2.2 k.toNat c.toNat h2 h3
  rw [e, hH] at h9
  refine h9.trans ?_
  simp only [colE, e1]
theorem rd_top (hr : rep E G ca h) : h.1 (aTop E) = some (.inr (6, cTop E G.1.2.1)) := hr.2.2.1 10 (by decide) (by decide)
theorem rd_hist (hr : rep E G ca h) : h.1 (aHist E) = some (eQ E 8 7 (fun j => some (aH E (2 + (j : Int))))) := hr.2.2.1 11 (by decide) (by decide)
theorem rd_slots (hr : rep E G ca h) : h.1 (aSlots E) = some (eQ E 8 2 (fun j => some (aH E (9 + (j : Int))))) := hr.2.2.1 12 (by decide) (by decide)
theorem rd_saved (hr : rep E G ca h) : h.1 (aSaved E) = some (eZ E 2 (fun j => iI (G.1.2.1 1 j))) := hr.2.2.1 13 (by decide) (by decide)
theorem rd_pad (hr : rep E G ca h) : h.1 (aPad E) = some (.inr (4, cPad E G.1.2.2)) := hr.2.2.1 14 (by decide) (by decide)
theorem rd_signs (hr : rep E G ca h) : h.1 (aSigns E) = some (eC E 80 (fun j => iI (G.1.2.2 1 j))) := hr.2.2.1 15 (by decide) (by decide)
end RD
/-! writes -/
section WR
variable {E : wE} {G : gR} {H : hR} {ca : caT} {h : hW} {k i : Int}
theorem wr_h {f : Nat} {v : Int} (hr : rep E (setH G k H) ca h) (hk : 0 ≤ k ∧ k < 11) (hf : f = 4 ∨ f = 5 ∨ f = 6 ∨ f = 7 ∨ f = 8 ∨ f = 9 ∨ f = 10 ∨ f = 11) : rep E (setH G k (hS H 0 f 0 v)) ca (wUp h (aH E k) (.inr (2, (cHouse E H k).set f (.int (iI v))))) := by
  obtain ⟨e, h2⟩ := i_cast (n := 11) hk
  have hr : rep E (setH G (k.toNat : Nat) H) ca h := by rw [e]; exact hr
  have h9 := rep_H (H' := hS H 0 f 0 v) (t := 0) (i := 0) (e := .inr (2, (cHouse E H k).set f (.int (iI v)))) h2 (by decide) (by decide) (lc_h h2 (by decide)) hr ?_ ?_ ?_
  · rw [e] at h9
    exact h9
  · rcases hf with rfl | rfl | rfl | rfl | rfl | rfl | rfl | rfl <;> simp [cellH, cHouse, cCal, cAcc, cOrd, cWait, hS, up3, List.set, e]
  · intro t' i' q1 q7 q2 q3
    have q4 : t' = 0 ∨ t' = 1 ∨ t' = 2 ∨ t' = 3 ∨ t' = 4 ∨ t' = 5 ∨ t' = 6 ∨ t' = 8 ∨ t' = 9 := by omega
    rcases q4 with rfl | rfl | rfl | rfl | rfl | rfl | rfl | rfl | rfl
    all_goals first | (simp [cellH, cHouse, cCal, cAcc, cOrd, cWait, hS, up3]; done) | (exact absurd ⟨rfl, q2 (by decide)⟩ q3)
  · intro c
    simp [colE, rmN, hS, up3]
theorem wr_cal {f : Nat} {v : Int} (hr : rep E (setH G k H) ca h) (hk : 0 ≤ k ∧ k < 11) (hf : f = 1 ∨ f = 2) : rep E (setH G k (hS H 1 f 0 v)) ca (wUp h (aCal E k) (.inr (1, (cCal E H k).set f (.int (iI v))))) := by
  obtain ⟨e, h2⟩ := i_cast (n := 11) hk
  have hr : rep E (setH G (k.toNat : Nat) H) ca h := by rw [e]; exact hr
  have h9 := rep_H (H' := hS H 1 f 0 v) (t := 1) (i := 0) (e := .inr (1, (cCal E H k).set f (.int (iI v)))) h2 (by decide) (by decide) (lc_h h2 (by decide)) hr ?_ ?_ ?_
  · rw [e] at h9
    exact h9
  · rcases hf with rfl | rfl <;> simp [cellH, cHouse, cCal, cAcc, cOrd, cWait, hS, up3, List.set, e]
  · intro t' i' q1 q7 q2 q3
    have q4 : t' = 0 ∨ t' = 1 ∨ t' = 2 ∨ t' = 3 ∨ t' = 4 ∨ t' = 5 ∨ t' = 6 ∨ t' = 8 ∨ t' = 9 := by omega
    rcases q4 with rfl | rfl | rfl | rfl | rfl | rfl | rfl | rfl | rfl
    all_goals first | (simp [cellH, cHouse, cCal, cAcc, cOrd, cWait, hS, up3]; done) | (exact absurd ⟨rfl, q2 (by decide)⟩ q3)
  · intro c
    simp [colE, rmN, hS, up3]
theorem wr_wait {f : Nat} {v : Int} (hr : rep E (setH G k H) ca h) (hk : 0 ≤ k ∧ k < 11) (hf : f = 2) : rep E (setH G k (hS H 4 f 0 v)) ca (wUp h (aWait E k) (.inr (5, (cWait E H k).set f (.int (iI v))))) := by
  obtain ⟨e, h2⟩ := i_cast (n := 11) hk
  have hr : rep E (setH G (k.toNat : Nat) H) ca h := by rw [e]; exact hr
  have h9 := rep_H (H' := hS H 4 f 0 v) (t := 5) (i := 0) (e := .inr (5, (cWait E H k).set f (.int (iI v)))) h2 (by decide) (by decide) (lc_h h2 (by decide)) hr ?_ ?_ ?_
  · rw [e] at h9
    exact h9
  · subst hf <;> simp [cellH, cHouse, cCal, cAcc, cOrd, cWait, hS, up3, List.set, e]
  · intro t' i' q1 q7 q2 q3
    have q4 : t' = 0 ∨ t' = 1 ∨ t' = 2 ∨ t' = 3 ∨ t' = 4 ∨ t' = 5 ∨ t' = 6 ∨ t' = 8 ∨ t' = 9 := by omega
    rcases q4 with rfl | rfl | rfl | rfl | rfl | rfl | rfl | rfl | rfl
    all_goals first | (simp [cellH, cHouse, cCal, cAcc, cOrd, cWait, hS, up3]; done) | (exact absurd ⟨rfl, q2 (by decide)⟩ q3)
  · intro c
    subst hf
    simp [colE, rmN, hS, up3]
theorem wr_acci {f : Nat} {v : Int} (hr : rep E (setH G k H) ca h) (hk : 0 ≤ k ∧ k < 11) (hi : 0 ≤ i ∧ i < 8) (hf : f = 0 ∨ f = 1 ∨ f = 2) : rep E (setH G k (hS H 2 i f v)) ca (wUp h (aAcc E k i) (.inr (0, (cAcc H i).set f (.int (iI v))))) := by
  obtain ⟨e, h2⟩ := i_cast (n := 11) hk
  obtain ⟨e1, h3⟩ := i_cast (n := 8) hi
  have hr : rep E (setH G (k.toNat : Nat) H) ca h := by rw [e]; exact hr
  have h9 := rep_H (H' := hS H 2 i f v) (t := 8) (i := i.toNat) (e := .inr (0, (cAcc H i).set f (.int (iI v)))) h2 (by decide) (by decide) (lc_a h2 h3) hr ?_ ?_ ?_
  · rw [e] at h9
    exact h9
  · rcases hf with rfl | rfl | rfl <;> simp [cellH, cHouse, cCal, cAcc, cOrd, cWait, hS, up3, List.set, e, e1]
  · intro t' i' q1 q7 q2 q3
    have q4 : t' = 0 ∨ t' = 1 ∨ t' = 2 ∨ t' = 3 ∨ t' = 4 ∨ t' = 5 ∨ t' = 6 ∨ t' = 8 ∨ t' = 9 := by omega
    rcases q4 with rfl | rfl | rfl | rfl | rfl | rfl | rfl | rfl | rfl
    all_goals first | (simp [cellH, cHouse, cCal, cAcc, cOrd, cWait, hS, up3]; done) | (have q5 : ¬ (i' : Int) = i := fun q => q3 ⟨rfl, by omega⟩; simp [cellH, cHouse, cCal, cAcc, cOrd, cWait, hS, up3, q5])
  · intro c
    simp [colE, rmN, hS, up3]
theorem wr_accl {f : Nat} {v : Int} (hr : rep E (setH G k H) ca h) (hk : 0 ≤ k ∧ k < 11) (hi : 0 ≤ i ∧ i < 8) (hf : f = 3 ∨ f = 4 ∨ f = 5 ∨ f = 6 ∨ f = 7 ∨ f = 8 ∨ f = 9 ∨ f = 10 ∨ f = 11) : rep E (setH G k (hS H 2 i f v)) ca (wUp h (aAcc E k i) (.inr (0, (cAcc H i).set f (.long (jL v))))) := by
  obtain ⟨e, h2⟩ := i_cast (n := 11) hk
  obtain ⟨e1, h3⟩ := i_cast (n := 8) hi
  have hr : rep E (setH G (k.toNat : Nat) H) ca h := by rw [e]; exact hr
  have h9 := rep_H (H' := hS H 2 i f v) (t := 8) (i := i.toNat) (e := .inr (0, (cAcc H i).set f (.long (jL v)))) h2 (by decide) (by decide) (lc_a h2 h3) hr ?_ ?_ ?_
  · rw [e] at h9
    exact h9
  · rcases hf with rfl | rfl | rfl | rfl | rfl | rfl | rfl | rfl | rfl <;> simp [cellH, cHouse, cCal, cAcc, cOrd, cWait, hS, up3, List.set, e, e1]
  · intro t' i' q1 q7 q2 q3
    have q4 : t' = 0 ∨ t' = 1 ∨ t' = 2 ∨ t' = 3 ∨ t' = 4 ∨ t' = 5 ∨ t' = 6 ∨ t' = 8 ∨ t' = 9 := by omega
    rcases q4 with rfl | rfl | rfl | rfl | rfl | rfl | rfl | rfl | rfl
    all_goals first | (simp [cellH, cHouse, cCal, cAcc, cOrd, cWait, hS, up3]; done) | (have q5 : ¬ (i' : Int) = i := fun q => q3 ⟨rfl, by omega⟩; simp [cellH, cHouse, cCal, cAcc, cOrd, cWait, hS, up3, q5])
  · intro c
    simp [colE, rmN, hS, up3]
theorem wr_ord {f : Nat} {v : Int} (hr : rep E (setH G k H) ca h) (hk : 0 ≤ k ∧ k < 11) (hi : 0 ≤ i ∧ i < 16) (hf : f = 0 ∨ f = 1 ∨ f = 2 ∨ f = 3 ∨ f = 4 ∨ f = 5 ∨ f = 6 ∨ f = 7 ∨ f = 8 ∨ f = 9 ∨ f = 10 ∨ f = 11 ∨ f = 12 ∨ f = 13 ∨ f = 14 ∨ f = 15 ∨ f = 16 ∨ f = 17 ∨ f = 18 ∨ f = 19) : rep E (setH G k (hS H 3 i f v)) ca (wUp h (aOrd E k i) (.inr (3, (cOrd H i).set f (.int (iI v))))) := by
  obtain ⟨e, h2⟩ := i_cast (n := 11) hk
  obtain ⟨e1, h3⟩ := i_cast (n := 16) hi
  have hr : rep E (setH G (k.toNat : Nat) H) ca h := by rw [e]; exact hr
  have h9 := rep_H (H' := hS H 3 i f v) (t := 9) (i := i.toNat) (e := .inr (3, (cOrd H i).set f (.int (iI v)))) h2 (by decide) (by decide) (lc_o h2 h3) hr ?_ ?_ ?_
  · rw [e] at h9
    exact h9
  · rcases hf with rfl | rfl | rfl | rfl | rfl | rfl | rfl | rfl | rfl | rfl | rfl | rfl | rfl | rfl | rfl | rfl | rfl | rfl | rfl | rfl <;> simp [cellH, cHouse, cCal, cAcc, cOrd, cWait, hS, up3, List.set, e, e1]
  · intro t' i' q1 q7 q2 q3
    have q4 : t' = 0 ∨ t' = 1 ∨ t' = 2 ∨ t' = 3 ∨ t' = 4 ∨ t' = 5 ∨ t' = 6 ∨ t' = 8 ∨ t' = 9 := by omega
    rcases q4 with rfl | rfl | rfl | rfl | rfl | rfl | rfl | rfl | rfl
    all_goals first | (simp [cellH, cHouse, cCal, cAcc, cOrd, cWait, hS, up3]; done) | (have q5 : ¬ (i' : Int) = i := fun q => q3 ⟨rfl, by omega⟩; simp [cellH, cHouse, cCal, cAcc, cOrd, cWait, hS, up3, q5])
  · intro c
    simp [colE, rmN, hS, up3]
theorem wr_accd {v : UInt64} (hr : rep E (setH G k H) ca h) (hk : 0 ≤ k ∧ k < 11) (hi : 0 ≤ i ∧ i < 8) : rep E (setH G k (hD H i v)) ca (wUp h (aAcc E k i) (.inr (0, (cAcc H i).set 12 (.double v)))) := by
  obtain ⟨e, h2⟩ := i_cast (n := 11) hk
  obtain ⟨e1, h3⟩ := i_cast (n := 8) hi
  have hr : rep E (setH G (k.toNat : Nat) H) ca h := by rw [e]; exact hr
  have h9 := rep_H (H' := hD H i v) (t := 8) (i := i.toNat) (e := .inr (0, (cAcc H i).set 12 (.double v))) h2 (by decide) (by decide) (lc_a h2 h3) hr ?_ ?_ ?_
  · rw [e] at h9
    exact h9
  · simp [cellH, cAcc, hD, up1, List.set, e1]
  · intro t' i' q1 q7 q2 q3
    have q4 : t' = 0 ∨ t' = 1 ∨ t' = 2 ∨ t' = 3 ∨ t' = 4 ∨ t' = 5 ∨ t' = 6 ∨ t' = 8 ∨ t' = 9 := by omega
    rcases q4 with rfl | rfl | rfl | rfl | rfl | rfl | rfl | rfl | rfl
    all_goals first | (simp [cellH, cHouse, cCal, cAcc, cOrd, cWait, hD, up1]; done) | (have q5 : ¬ (i' : Int) = i := fun q => q3 ⟨rfl, by omega⟩; simp [cellH, cHouse, cCal, cAcc, cOrd, cWait, hD, up1, q5])
  · intro c
    simp [colE, rmN, hD]
/-- a row of words in place of the bits -/
theorem wr_bitsF {f : Nat → Int64} {g : Int → Int} (hr : rep E (setH G k H) ca h) (hk : 0 ≤ k ∧ k < 11) (hg : ∀ j : Nat, j < 18 → f j = jL (g j)) (hf : ∀ j : Nat, 18 ≤ j → f j = jL (g j)) : rep E (setH G k (hBits H g)) ca (wUp h (aBits E k) (eL E 18 f)) := by
  obtain ⟨e, h2⟩ := i_cast (n := 11) hk
  have hr : rep E (setH G (k.toNat : Nat) H) ca h := by rw [e]; exact hr
  have h9 := rep_H (H' := hBits H g) (t := 2) (i := 0) (e := eL E 18 f) h2 (by decide) (by decide) (lc_h h2 (by decide)) hr ?_ ?_ ?_
  · rw [e] at h9
    exact h9
  · have : f = fun j : Nat => jL (g j) := by
      funext j
      rcases Nat.lt_or_ge j 18 with q | q
      · exact hg j q
      · exact hf j q
    simp [cellH, hBits, this]
  · intro t' i' q1 q7 q2 q3
    have q4 : t' = 0 ∨ t' = 1 ∨ t' = 2 ∨ t' = 3 ∨ t' = 4 ∨ t' = 5 ∨ t' = 6 ∨ t' = 8 ∨ t' = 9 := by omega
    rcases q4 with rfl | rfl | rfl | rfl | rfl | rfl | rfl | rfl | rfl
    all_goals first | (simp [cellH, cHouse, cCal, cAcc, cOrd, cWait, hBits]; done) | (exact absurd ⟨rfl, q2 (by decide)⟩ q3)
  · intro c
    simp [colE, rmN, hBits]
theorem hBits_S {z v : Int} : hBits H (up1 (fun j => H.1 6 j 0) z v) = hS H 6 z 0 v := by
  unfold hBits hS
  congr 1
  funext t a b
  simp only [up1, up3]
  by_cases q : t = 6 ∧ b = 0
  · obtain ⟨rfl, rfl⟩ := q
    by_cases q2 : a = z <;> simp [q2]
  · by_cases q2 : t = 6 ∧ a = z ∧ b = 0
    · exact absurd ⟨q2.1, q2.2.2⟩ q
    · rw [if_neg q, if_neg q2]
theorem wr_bits {z v : Int} (hr : rep E (setH G k H) ca h) (hk : 0 ≤ k ∧ k < 11) (hz : 0 ≤ z ∧ z < 18) : rep E (setH G k (hS H 6 z 0 v)) ca (wUp h (aBits E k) (eL E 18 (va_up (fun j : Nat => jL (H.1 6 j 0)) z.toNat (jL v)))) := by
  rw [← hBits_S]
  have : ∀ j : Nat, va_up (fun j : Nat => jL (H.1 6 j 0)) z.toNat (jL v) j = jL (up1 (fun j => H.1 6 j 0) z v j) := by
    intro j
    unfold va_up up1
    by_cases q : j = z.toNat
    · rw [if_pos q, if_pos (by omega)]
    · rw [if_neg q, if_neg (by omega)]
  exact wr_bitsF hr hk (fun j _ => this j) (fun j _ => this j)
theorem wr_colF {c : Int} {f : Nat → Int32} {g : Int → Int} (hr : rep E (setH G k H) ca h) (hk : 0 ≤ k ∧ k < 11) (hc : 0 ≤ c ∧ c < 5) (hf : ∀ j : Nat, f j = iI (g j)) : rep E (setH G k (hCol H c g)) ca (wUp h (ca k.toNat c.toNat) (eI E (rmN H) f)) := by
  obtain ⟨e, h2⟩ := i_cast (n := 11) hk
  obtain ⟨e1, h3⟩ := i_cast (n := 5) hc
  have hr : rep E (setH G (k.toNat : Nat) H) ca h := by rw [e]; exact hr
  have h9 := rep_C (H' := hCol H c g) h2 h3 hr ?_ ?_
  · rw [e] at h9
    have e5 : colE E (hCol H c g) c.toNat = eI E (rmN H) f := by
      have : f = fun j : Nat => iI (g j) := funext hf
      simp [colE, rmN, hCol, e1, this]
    rw [e5] at h9
    exact h9
  · intro t' i' q1 q7
    have q4 : t' = 0 ∨ t' = 1 ∨ t' = 2 ∨ t' = 3 ∨ t' = 4 ∨ t' = 5 ∨ t' = 6 ∨ t' = 8 ∨ t' = 9 := by omega
    rcases q4 with rfl | rfl | rfl | rfl | rfl | rfl | rfl | rfl | rfl
    all_goals simp [cellH, cHouse, cCal, cAcc, cOrd, cWait, hCol]
  · intro c' q1 q2
    have q5 : ¬ (c' : Int) = c := fun q => q2 (by omega)
    simp [colE, rmN, hCol, q5]
theorem hCol_S {c z v : Int} : hCol H c (up1 (fun j => H.1 5 c j) z v) = hS H 5 c z v := by
  unfold hCol hS
  congr 1
  funext t a b
  simp only [up1, up3]
  by_cases q : t = 5 ∧ a = c
  · obtain ⟨rfl, rfl⟩ := q
    by_cases q2 : b = z <;> simp [q2]
  · by_cases q2 : t = 5 ∧ a = c ∧ b = z
    · exact absurd ⟨q2.1, q2.2.1⟩ q
    · rw [if_neg q, if_neg q2]
theorem w_upI {g : Int → Int} {z v : Int} (hz : 0 ≤ z) (j : Nat) : va_up (fun j : Nat => iI (g j)) z.toNat (iI v) j = iI (up1 g z v j) := by
  unfold va_up up1
  by_cases q : j = z.toNat
  · rw [if_pos q, if_pos (by omega)]
  · rw [if_neg q, if_neg (by omega)]
theorem w_upL {g : Int → Int} {z v : Int} (hz : 0 ≤ z) (j : Nat) : va_up (fun j : Nat => jL (g j)) z.toNat (jL v) j = jL (up1 g z v j) := by
  unfold va_up up1
  by_cases q : j = z.toNat
  · rw [if_pos q, if_pos (by omega)]
  · rw [if_neg q, if_neg (by omega)]
theorem w_upD {g : Int → UInt64} {z : Int} {v : UInt64} (hz : 0 ≤ z) (j : Nat) : va_up (fun j : Nat => g j) z.toNat v j = up1 g z v j := by
  unfold va_up up1
  by_cases q : j = z.toNat
  · rw [if_pos q, if_pos (by omega)]
  · rw [if_neg q, if_neg (by omega)]
theorem wr_col {c z v : Int} (hr : rep E (setH G k H) ca h) (hk : 0 ≤ k ∧ k < 11) (hc : 0 ≤ c ∧ c < 5) (hz : 0 ≤ z) : rep E (setH G k (hS H 5 c z v)) ca (wUp h (ca k.toNat c.toNat) (eI E (rmN H) (va_up (fun j : Nat => iI (H.1 5 c j)) z.toNat (iI v)))) := by
  rw [← hCol_S]
  exact wr_colF hr hk hc (fun j => w_upI hz j)
theorem up2_row {α : Type} {f : Int → Int → α} {t z : Int} {v : α} : (fun j : Nat => up2 f t z v t j) = fun j : Nat => up1 (fun j => f t j) z v j := by
  funext j
  simp [up2, up1]
theorem w_upIF {g : Int → Int} {z v : Int} (hz : 0 ≤ z) : va_up (fun j : Nat => iI (g j)) z.toNat (iI v) = fun j : Nat => iI (up1 g z v j) := funext (w_upI hz)
theorem w_upLF {g : Int → Int} {z v : Int} (hz : 0 ≤ z) : va_up (fun j : Nat => jL (g j)) z.toNat (jL v) = fun j : Nat => jL (up1 g z v j) := funext (w_upL hz)
theorem w_upDF {g : Int → UInt64} {z : Int} {v : UInt64} (hz : 0 ≤ z) : va_up (fun j : Nat => g j) z.toNat v = fun j : Nat => up1 g z v j := funext (w_upD hz)
section WT
variable {c : cR} {p : Int → Int → Int} {m : mR} {C : cR}
theorem wr_topf {f : Nat} {v : Int} (hr : rep E (c, m) ca h) (hf : f = 3 ∨ f = 4) : rep E (cT c 0 f v, m) ca (wUp h (aTop E) (.inr (6, (cTop E c.2.1).set f (.int (iI v))))) := by
  refine rep_T (t := 10) (by decide) (by decide) hr ?_ ?_ rfl
  · rcases hf with rfl | rfl <;> simp [cellT, cTop, cT, up2, List.set]
  · intro t' q
    have q4 : t' = 10 ∨ t' = 11 ∨ t' = 12 ∨ t' = 13 ∨ t' = 14 ∨ t' = 15 ∨ t' < 10 ∨ 15 < t' := by omega
    rcases q4 with rfl | rfl | rfl | rfl | rfl | rfl | q4 | q4
    all_goals first | rfl | (exact absurd rfl q) | (simp [cellT, cTop, cPad, cT, pS, up2]; done) | skip
    all_goals (unfold cellT; split <;> first | rfl | omega)
theorem wr_saved {z v : Int} (hr : rep E (c, m) ca h) (hz : 0 ≤ z ∧ z < 2) : rep E (cT c 1 z v, m) ca (wUp h (aSaved E) (eZ E 2 (va_up (fun j : Nat => iI (c.2.1 1 j)) z.toNat (iI v)))) := by
  refine rep_T (t := 13) (by decide) (by decide) hr ?_ ?_ rfl
  · rw [w_upIF hz.1]; simp [cellT, cT, up2, up1]
  · intro t' q
    have q4 : t' = 10 ∨ t' = 11 ∨ t' = 12 ∨ t' = 13 ∨ t' = 14 ∨ t' = 15 ∨ t' < 10 ∨ 15 < t' := by omega
    rcases q4 with rfl | rfl | rfl | rfl | rfl | rfl | q4 | q4
    all_goals first | rfl | (exact absurd rfl q) | (simp [cellT, cTop, cPad, cT, pS, up2]; done) | skip
    all_goals (unfold cellT; split <;> first | rfl | omega)
theorem wr_padf {f : Nat} {v : Int} (hr : rep E ((c.1, c.2.1, p), m) ca h) (hf : f = 1 ∨ f = 2 ∨ f = 3 ∨ f = 4 ∨ f = 5 ∨ f = 6 ∨ f = 7 ∨ f = 8 ∨ f = 9 ∨ f = 10) : rep E ((c.1, c.2.1, pS p 0 f v), m) ca (wUp h (aPad E) (.inr (4, (cPad E p).set f (.int (iI v))))) := by
  refine rep_T (t := 14) (by decide) (by decide) hr ?_ ?_ rfl
  · rcases hf with rfl | rfl | rfl | rfl | rfl | rfl | rfl | rfl | rfl | rfl <;> simp [cellT, cPad, pS, up2, List.set]
  · intro t' q
    have q4 : t' = 10 ∨ t' = 11 ∨ t' = 12 ∨ t' = 13 ∨ t' = 14 ∨ t' = 15 ∨ t' < 10 ∨ 15 < t' := by omega
    rcases q4 with rfl | rfl | rfl | rfl | rfl | rfl | q4 | q4
    all_goals first | rfl | (exact absurd rfl q) | (simp [cellT, cTop, cPad, cT, pS, up2]; done) | skip
    all_goals (unfold cellT; split <;> first | rfl | omega)
theorem wr_signs {z v : Int} (hr : rep E ((c.1, c.2.1, p), m) ca h) (hz : 0 ≤ z ∧ z < 80) : rep E ((c.1, c.2.1, pS p 1 z v), m) ca (wUp h (aSigns E) (eC E 80 (va_up (fun j : Nat => iI (p 1 j)) z.toNat (iI v)))) := by
  refine rep_T (t := 15) (by decide) (by decide) hr ?_ ?_ rfl
  · rw [w_upIF hz.1]; simp [cellT, pS, up2, up1]
  · intro t' q
    have q4 : t' = 10 ∨ t' = 11 ∨ t' = 12 ∨ t' = 13 ∨ t' = 14 ∨ t' = 15 ∨ t' < 10 ∨ 15 < t' := by omega
    rcases q4 with rfl | rfl | rfl | rfl | rfl | rfl | q4 | q4
    all_goals first | rfl | (exact absurd rfl q) | (simp [cellT, cTop, cPad, cT, pS, up2]; done) | skip
    all_goals (unfold cellT; split <;> first | rfl | omega)
end WT
end WR

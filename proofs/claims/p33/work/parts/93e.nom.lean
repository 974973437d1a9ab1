/-! ===== an order's occurrences ===== -/
theorem mul_bnd {a b A B : Int} (h1 : 0 ≤ a) (h2 : a ≤ A) (h3 : 0 ≤ b) (h4 : b ≤ B) : 0 ≤ a * b ∧ a * b ≤ A * B :=
  ⟨Int.mul_nonneg h1 h3, Int.mul_le_mul h2 h4 h3 (Int.le_trans h1 h2)⟩
def lastOfB (b : Int → Bool) (mo : Int) : Int := if lastBz b (mLast mo) < mFirst mo then mLast mo else lastBz b (mLast mo)
/-- an index's nominal day, out of: first day, kind, what the index steps come to, day of the month -/
def nomP (b : Int → Bool) (fi ki p dm : Int) : Int :=
  if ki = 0 then (if 1094 < fi + p then -6 else fi + p)
  else if ki = 1 then (if 1094 < fi + 7 * p then -6 else fi + 7 * p)
  else if 35 < mOf fi + p then -6
  else if ki = 2 then min (mFirst (mOf fi + p) + dm - 1) (mLast (mOf fi + p))
  else lastOfB b (mOf fi + p)
theorem lastOfB_rng (b : Int → Bool) {mo : Int} (h : 0 ≤ mo ∧ mo ≤ 35) : mFirst mo ≤ lastOfB b mo ∧ lastOfB b mo ≤ mLast mo := by
  have h1 := m_rng h
  have h2 := lastBz_rng b (mLast mo)
  unfold lastOfB
  split <;> omega
/-- within the months' bounds -/
theorem nomP_mon {b : Int → Bool} {fi ki p dm : Int} (hk : ¬ ki = 0 ∧ ¬ ki = 1) (hf : 0 ≤ fi ∧ fi ≤ 1094) (hp : 0 ≤ p) (hd : 1 ≤ dm) : (35 < mOf fi + p ∧ nomP b fi ki p dm = -6) ∨ (mOf fi + p ≤ 35 ∧ mFirst (mOf fi + p) ≤ nomP b fi ki p dm ∧ nomP b fi ki p dm ≤ mLast (mOf fi + p)) := by
  have hm := mOf_in hf
  unfold nomP
  rw [if_neg hk.1, if_neg hk.2]
  by_cases h : 35 < mOf fi + p
  · rw [if_pos h]; exact Or.inl ⟨h, rfl⟩
  · rw [if_neg h]
    have h1 := m_rng (m := mOf fi + p) (by omega)
    have h2 := lastOfB_rng b (mo := mOf fi + p) (by omega)
    refine Or.inr ⟨by omega, ?_⟩
    split
    · omega
    · exact h2
theorem nomP_rng {b : Int → Bool} {fi ki p dm : Int} (hf : 0 ≤ fi ∧ fi ≤ 1094) (hp : 0 ≤ p) (hd : 1 ≤ dm) : nomP b fi ki p dm = -6 ∨ (p ≤ nomP b fi ki p dm ∧ nomP b fi ki p dm ≤ 1094) := by
  by_cases h0 : ki = 0
  · unfold nomP; rw [if_pos h0]; split <;> omega
  · by_cases h1 : ki = 1
    · unfold nomP; rw [if_neg h0, if_pos h1]; split <;> omega
    · have hm := mOf_in hf
      rcases nomP_mon (b := b) ⟨h0, h1⟩ hf hp hd with h | ⟨h2, h3, h4⟩
      · exact Or.inl h.2
      · have h5 := m_rng (m := mOf fi + p) (by omega)
        refine Or.inr ⟨?_, by omega⟩
        have h6 : mOf fi + p ≤ mFirst (mOf fi + p) := by
          obtain ⟨k, h7, h8⟩ := toN (n := 36) (d := mOf fi + p) (by omega)
          rw [h8]
          have : ∀ k : Nat, k < 36 → (k : Int) ≤ mFirst k := by decide +kernel
          exact this k (by omega)
        omega
/-- a later index: none, or a later day -/
theorem nomP_lt {b : Int → Bool} {fi ki p q dm : Int} (hf : 0 ≤ fi ∧ fi ≤ 1094) (hp : 0 ≤ p) (hq : p < q) (hd : 1 ≤ dm) : nomP b fi ki q dm = -6 ∨ (¬ nomP b fi ki p dm = -6 ∧ nomP b fi ki p dm < nomP b fi ki q dm) := by
  by_cases h0 : ki = 0
  · unfold nomP; rw [if_pos h0, if_pos h0]; split
    · exact Or.inl rfl
    · rw [if_neg (by omega)]; exact Or.inr (by omega)
  · by_cases h1 : ki = 1
    · unfold nomP; rw [if_neg h0, if_pos h1, if_neg h0, if_pos h1]; split
      · exact Or.inl rfl
      · rw [if_neg (by omega)]; exact Or.inr (by omega)
    · have hm := mOf_in hf
      rcases nomP_mon (b := b) (p := q) ⟨h0, h1⟩ hf (by omega) hd with h | ⟨h2, h3, h4⟩
      · exact Or.inl h.2
      · rcases nomP_mon (b := b) (p := p) ⟨h0, h1⟩ hf hp hd with h | ⟨h5, h6, h7⟩
        · omega
        · have := m_lt (a := mOf fi + p) (b := mOf fi + q) (by omega)
          have h8 := m_rng (m := mOf fi + p) (by omega)
          exact Or.inr (by omega)
/-- behind the first index none is before the first day -/
theorem nomP_ge {b : Int → Bool} {fi ki p dm : Int} (hf : 0 ≤ fi ∧ fi ≤ 1094) (hp : 1 ≤ p) (hd : 1 ≤ dm) : nomP b fi ki p dm = -6 ∨ fi < nomP b fi ki p dm := by
  by_cases h0 : ki = 0
  · unfold nomP; rw [if_pos h0]; split <;> omega
  · by_cases h1 : ki = 1
    · unfold nomP; rw [if_neg h0, if_pos h1]; split <;> omega
    · have hm := mOf_in hf
      rcases nomP_mon (b := b) (p := p) ⟨h0, h1⟩ hf (by omega) hd with h | ⟨h2, h3, h4⟩
      · exact Or.inl h.2
      · have := m_lt (a := mOf fi) (b := mOf fi + p) (by omega)
        exact Or.inr (by omega)
/-- an order's fields within their bounds -/
def okOrd (H : hR) (o : Int) : Prop := (0 ≤ H.1 3 o 3 ∧ H.1 3 o 3 ≤ 3) ∧ (1 ≤ H.1 3 o 4 ∧ H.1 3 o 4 ≤ 12) ∧ (1 ≤ H.1 3 o 5 ∧ H.1 3 o 5 ≤ 31) ∧ (0 ≤ H.1 3 o 6 ∧ H.1 3 o 6 ≤ 1094) ∧ (0 ≤ H.1 3 o 7 ∧ H.1 3 o 7 ≤ 4)
def nomO (b : Int → Bool) (H : hR) (o k : Int) : Int := nomP b (H.1 3 o 6) (H.1 3 o 3) (k * H.1 3 o 4) (H.1 3 o 5)
theorem nomO_fr {b : Int → Bool} {H H' : hR} {o : Int} (hH : ∀ f : Int, 3 ≤ f ∧ f ≤ 6 → H'.1 3 o f = H.1 3 o f) (k : Int) : nomO b H' o k = nomO b H o k := by
  unfold nomO
  rw [hH 6 (by decide), hH 3 (by decide), hH 4 (by decide), hH 5 (by decide)]
theorem okOrd.fr {H H' : hR} {o : Int} (h : okOrd H o) (hH : ∀ f : Int, 3 ≤ f ∧ f ≤ 7 → H'.1 3 o f = H.1 3 o f) : okOrd H' o := by
  unfold okOrd at *
  rw [hH 6 (by decide), hH 3 (by decide), hH 4 (by decide), hH 5 (by decide), hH 7 (by decide)]
  exact h
theorem nomO_rng {b : Int → Bool} {H : hR} {o k : Int} (h : okOrd H o) (hk : 0 ≤ k) : nomO b H o k = -6 ∨ (k ≤ nomO b H o k ∧ nomO b H o k ≤ 1094) := by
  obtain ⟨h1, h2, h3, h4, h5⟩ := h
  have h6 : k * 1 ≤ k * H.1 3 o 4 := Int.mul_le_mul_of_nonneg_left h2.1 hk
  have := nomP_rng (b := b) (ki := H.1 3 o 3) (p := k * H.1 3 o 4) h4 (by omega) h3.1
  unfold nomO
  omega
theorem nomO_lt {b : Int → Bool} {H : hR} {o k j : Int} (h : okOrd H o) (hk : 0 ≤ k) (hj : k < j) : nomO b H o j = -6 ∨ (¬ nomO b H o k = -6 ∧ nomO b H o k < nomO b H o j) := by
  obtain ⟨h1, h2, h3, h4, h5⟩ := h
  have h6 : k * 1 ≤ k * H.1 3 o 4 := Int.mul_le_mul_of_nonneg_left h2.1 hk
  have h7 : k * H.1 3 o 4 < j * H.1 3 o 4 := Int.mul_lt_mul_of_pos_right hj (by omega)
  exact nomP_lt h4 (by omega) h7 h3.1
theorem nomO_ge {b : Int → Bool} {H : hR} {o k : Int} (h : okOrd H o) (hk : 1 ≤ k) : nomO b H o k = -6 ∨ H.1 3 o 6 < nomO b H o k := by
  obtain ⟨h1, h2, h3, h4, h5⟩ := h
  have h6 : k * 1 ≤ k * H.1 3 o 4 := Int.mul_le_mul_of_nonneg_left h2.1 (by omega)
  exact nomP_ge h4 (by omega) h3.1
theorem ec_nominal {b : Int → Bool} {H : hR} {o k : Int} (hb : calC H b) (h : okOrd H o) (hk : 0 ≤ k ∧ k ≤ 2000) : fX3_nominalDay o k H = some (nomO b H o k) := by
  obtain ⟨h1, h2, h3, h4, h5⟩ := h
  have hp := mul_bnd hk.1 hk.2 (show 0 ≤ H.1 3 o 4 by omega) h2.2
  have hm := mOf_in h4
  have e0 : H.1 3 o 3 = 0 → nomO b H o k = if 1094 < H.1 3 o 6 + k * H.1 3 o 4 then -6 else H.1 3 o 6 + k * H.1 3 o 4 := fun g => if_pos g
  have e1 : H.1 3 o 3 = 1 → nomO b H o k = if 1094 < H.1 3 o 6 + 7 * (k * H.1 3 o 4) then -6 else H.1 3 o 6 + 7 * (k * H.1 3 o 4) := fun g => (if_neg (by omega)).trans (if_pos g)
  have e2 : ¬ H.1 3 o 3 = 0 → ¬ H.1 3 o 3 = 1 → nomO b H o k = if 35 < mOf (H.1 3 o 6) + k * H.1 3 o 4 then -6 else if H.1 3 o 3 = 2 then min (mFirst (mOf (H.1 3 o 6) + k * H.1 3 o 4) + H.1 3 o 5 - 1) (mLast (mOf (H.1 3 o 6) + k * H.1 3 o 4)) else lastOfB b (mOf (H.1 3 o 6) + k * H.1 3 o 4) := fun g g' => (if_neg g).trans (if_neg g')
  refine po_eq ?_
  unfold fX3_nominalDay fX3_nominalDay_b15 fX3_nominalDay_b38
  by_cases g0 : H.1 3 o 3 = 0
  · refine po_gd (by omega) (po_ift g0 (po_gd (by omega) (po_ift g0 (po_gd (by omega) ?_))))
    rw [e0 g0, Int.mul_one]
    refine po_if (fun g => po_some ?_) (fun g => po_some ?_)
    · rw [if_pos g]
    · rw [if_neg g]
  · by_cases g1 : H.1 3 o 3 = 1
    · refine po_gd (by omega) (po_iff g0 (po_gd (by omega) (po_ift g1 (po_gd (by omega) (po_iff g0 (po_gd (by omega) ?_))))))
      rw [e1 g1, Int.mul_comm _ 7]
      refine po_if (fun g => po_some ?_) (fun g => po_some ?_)
      · rw [if_pos g]
      · rw [if_neg g]
    · have e := e2 g0 g1
      clear e0 e1 e2
      refine po_gd (by omega) (po_iff g0 (po_gd (by omega) (po_iff g1 (po_cre (ec_monthOf h4) (po_gd (by omega) ?_)))))
      by_cases g2 : mOf (H.1 3 o 6) + k * H.1 3 o 4 ≤ 35
      · have hr := m_rng (m := mOf (H.1 3 o 6) + k * H.1 3 o 4) (by omega)
        rw [if_neg (show ¬ 35 < mOf (H.1 3 o 6) + k * H.1 3 o 4 by omega)] at e
        refine po_ift g2 (po_cre (ec_first (by omega)) (po_cre (ec_last (by omega)) (po_gd (by omega) (po_if (fun g3 => po_gd (by omega) (po_some ?_)) (fun g3 => po_cre (ec_lastB hb (by omega)) ?_)))))
        · rw [e, if_pos g3]
        · have hl := lastBz_rng b (mLast (mOf (H.1 3 o 6) + k * H.1 3 o 4))
          rw [if_neg g3] at e
          unfold lastOfB at e
          refine po_gd (by omega) (po_if (fun g => po_some ?_) (fun g => po_some ?_))
          · rw [e, if_pos g]
          · rw [e, if_neg g]
      · refine po_iff g2 (po_some ?_)
        rw [e, if_pos (by omega)]

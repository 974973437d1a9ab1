/-! ===== the reference's kept states: a new one ===== -/
theorem em_drops62 : ∀ (d fuel : Nat) (i : Int) (m : mR), i + d = 42000 → 0 ≤ i → d < fuel → ∃ m', fX7_drops_b62 fuel i m = some ((), mS m' 6 7 (m'.1 6 7 - 1)) ∧ (∀ j : Int, m'.1 3 j = if i ≤ j ∧ j < 42000 then m.1 3 (j + 8400) else m.1 3 j) ∧ (∀ t : Int, ¬ t = 3 → m'.1 t = m.1 t) ∧ m'.2 = m.2
  | d, 0, _, _, _, _, h => by omega
  | 0, fuel + 1, i, m, h1, h2, _ => by
    refine ⟨m, ?_, fun j => (if_neg (by omega)).symm, fun _ _ => rfl, rfl⟩
    rw [fX7_drops_b62, gd_pos (by omega), if_pos (by omega)]
    rfl
  | d + 1, fuel + 1, i, m, h1, h2, h3 => by
    obtain ⟨m', q1, q2, q3, q4⟩ := em_drops62 d fuel (i + 1) (mS m 3 i (m.1 3 (i + 8400))) (by omega) (by omega) (by omega)
    refine ⟨m', ?_, fun j => ?_, fun t ht => (q3 t ht).trans (mS_t m _ _ ht), q4⟩
    · rw [fX7_drops_b62, gd_pos (by omega), if_neg (by omega), gd_pos (by omega), gd_pos (by omega), bnd_eq, q1]
    · rw [q2]
      by_cases g : i + 1 ≤ j ∧ j < 42000
      · rw [if_pos g, if_pos (by omega), mS_n m (by omega)]
      · rw [if_neg g]
        by_cases g2 : j = i
        · subst g2
          rw [mS_p, if_pos (by omega)]
        · rw [mS_n m (by omega), if_neg (by omega)]
theorem em_drops33 : ∀ (d fuel : Nat) (i : Int) (m : mR), i + d = 40 → 0 ≤ i → d < fuel → ∃ m', fX7_drops_b33 fuel i m = fX7_drops_b62 fuel0 0 m' ∧ (∀ j : Int, m'.2 1 j = if i ≤ j ∧ j < 40 then m.2 1 (j + 8) else m.2 1 j) ∧ m'.1 = m.1 ∧ ∀ t : Int, ¬ t = 1 → m'.2 t = m.2 t
  | d, 0, _, _, _, _, h => by omega
  | 0, fuel + 1, i, m, h1, h2, _ => by
    refine ⟨m, ?_, fun j => (if_neg (by omega)).symm, rfl, fun _ _ => rfl⟩
    rw [fX7_drops_b33, gd_pos (by omega), if_pos (by omega)]
  | d + 1, fuel + 1, i, m, h1, h2, h3 => by
    obtain ⟨m', q1, q2, q3, q4⟩ := em_drops33 d fuel (i + 1) (mD m 1 i (m.2 1 (i + 8))) (by omega) (by omega) (by omega)
    refine ⟨m', ?_, fun j => ?_, q3, fun t ht => (q4 t ht).trans (mD_t m _ _ ht)⟩
    · rw [fX7_drops_b33, gd_pos (by omega), if_neg (by omega), gd_pos (by omega), gd_pos (by omega), bnd_eq, q1]
    · rw [q2, mD_2, mD_2]
      by_cases g : i + 1 ≤ j ∧ j < 40
      · rw [if_pos g, if_pos (show i ≤ j ∧ j < 40 by omega), if_neg (by omega)]
      · rw [if_neg g]
        by_cases g2 : j = i
        · subst g2
          rw [if_pos ⟨rfl, rfl⟩, if_pos (by omega)]
        · rw [if_neg (by omega), if_neg (by omega)]
theorem em_drops2 : ∀ (d fuel : Nat) (i : Int) (m : mR), i + d = 1885 → 0 ≤ i → d < fuel → ∃ m', fX7_drops_b2 fuel i m = fX7_drops_b33 fuel0 0 m' ∧ (∀ j : Int, m'.1 2 j = if i ≤ j ∧ j < 1885 then m.1 2 (j + 377) else m.1 2 j) ∧ (∀ t : Int, ¬ t = 2 → m'.1 t = m.1 t) ∧ m'.2 = m.2
  | d, 0, _, _, _, _, h => by omega
  | 0, fuel + 1, i, m, h1, h2, _ => by
    refine ⟨m, ?_, fun j => (if_neg (by omega)).symm, fun _ _ => rfl, rfl⟩
    rw [fX7_drops_b2, gd_pos (by omega), if_pos (by omega)]
  | d + 1, fuel + 1, i, m, h1, h2, h3 => by
    obtain ⟨m', q1, q2, q3, q4⟩ := em_drops2 d fuel (i + 1) (mS m 2 i (m.1 2 (i + 377))) (by omega) (by omega) (by omega)
    refine ⟨m', ?_, fun j => ?_, fun t ht => (q3 t ht).trans (mS_t m _ _ ht), q4⟩
    · rw [fX7_drops_b2, gd_pos (by omega), if_neg (by omega), gd_pos (by omega), gd_pos (by omega), bnd_eq, q1]
    · rw [q2]
      by_cases g : i + 1 ≤ j ∧ j < 1885
      · rw [if_pos g, if_pos (by omega), mS_n m (by omega)]
      · rw [if_neg g]
        by_cases g2 : j = i
        · subst g2
          rw [mS_p, if_pos (by omega)]
        · rw [mS_n m (by omega), if_neg (by omega)]
/-- copy k of one is copy l of the other -/
def rowEq (k l : Int) (m m' : mR) : Prop := (∀ j : Int, 0 ≤ j ∧ j < 377 → rowN k m' j = rowN l m j) ∧ (∀ j : Int, 0 ≤ j ∧ j < 8 → rowO k m' j = rowO l m j) ∧ ∀ j : Int, 0 ≤ j ∧ j < 8400 → rowW k m' j = rowW l m j
def rowNow (k : Int) (m m' : mR) : Prop := (∀ j : Int, 0 ≤ j ∧ j < 377 → rowN k m' j = m.1 0 j) ∧ (∀ j : Int, 0 ≤ j ∧ j < 8 → rowO k m' j = m.2 0 j) ∧ ∀ j : Int, 0 ≤ j ∧ j < m.1 0 4 → rowW k m' j = m.1 1 j
/-- all but the copies and their number -/
def sameM (m m' : mR) : Prop := m'.1 0 = m.1 0 ∧ m'.1 1 = m.1 1 ∧ m'.2 0 = m.2 0 ∧ m'.1 4 = m.1 4 ∧ m'.1 5 = m.1 5 ∧ ∀ k : Int, ¬ k = 7 → m'.1 6 k = m.1 6 k
theorem em_drops (m : mR) : ∃ m', fX7_drops m = some ((), m') ∧ sameM m m' ∧ m'.1 6 7 = m.1 6 7 - 1 ∧ (∀ k : Int, 0 ≤ k ∧ k ≤ 4 → rowEq k (k + 1) m m') ∧ ∀ k : Int, 5 ≤ k ∧ k ≤ 8 → rowEq k k m m' := by
  obtain ⟨m1, a1, a2, a3, a4⟩ := em_drops2 1885 fuel0 0 m (by omega) (by omega) (by decide)
  obtain ⟨m2, b1, b2, b3, b4⟩ := em_drops33 40 fuel0 0 m1 (by omega) (by omega) (by decide)
  obtain ⟨m3, c1, c2, c3, c4⟩ := em_drops62 42000 fuel0 0 m2 (by omega) (by omega) (by show _ < 1000000; omega)
  have e : ∀ t : Int, ¬ t = 2 → ¬ t = 3 → m3.1 t = m.1 t := fun t h1 h2 => by rw [c3 t h2, b3, a3 t h1]
  have x2 : ∀ j : Int, (mS m3 6 7 (m3.1 6 7 - 1)).1 2 j = if 0 ≤ j ∧ j < 1885 then m.1 2 (j + 377) else m.1 2 j := fun j => by
    rw [mS_n _ (by omega), c3 2 (by omega), b3, a2]
  have x3 : ∀ j : Int, (mS m3 6 7 (m3.1 6 7 - 1)).1 3 j = if 0 ≤ j ∧ j < 42000 then m.1 3 (j + 8400) else m.1 3 j := fun j => by
    rw [mS_n _ (by omega), c2, b3, a3 3 (by omega)]
  have x1 : ∀ j : Int, (mS m3 6 7 (m3.1 6 7 - 1)).2 1 j = if 0 ≤ j ∧ j < 40 then m.2 1 (j + 8) else m.2 1 j := fun j => by
    show m3.2 1 j = _
    rw [c4, b2, a4]
  refine ⟨mS m3 6 7 (m3.1 6 7 - 1), ?_, ⟨?_, ?_, ?_, ?_, ?_, fun k hk => ?_⟩, ?_, fun k hk => ⟨fun j hj => ?_, fun j hj => ?_, fun j hj => ?_⟩, fun k hk => ⟨fun j hj => ?_, fun j hj => ?_, fun j hj => ?_⟩⟩
  · unfold fX7_drops
    rw [a1, b1, c1]
  · rw [mS_t _ _ _ (by omega), e 0 (by omega) (by omega)]
  · rw [mS_t _ _ _ (by omega), e 1 (by omega) (by omega)]
  · show m3.2 0 = _
    rw [c4, b4 0 (by omega), a4]
  · rw [mS_t _ _ _ (by omega), e 4 (by omega) (by omega)]
  · rw [mS_t _ _ _ (by omega), e 5 (by omega) (by omega)]
  · rw [mS_n _ (by omega), e 6 (by omega) (by omega)]
  · rw [mS_p, e 6 (by omega) (by omega)]
  · unfold rowN
    rw [x2, if_pos (by omega), show (k + 1) * 377 + j = k * 377 + j + 377 by omega]
  · unfold rowO
    rw [x1, if_pos (by omega), show (k + 1) * 8 + j = k * 8 + j + 8 by omega]
  · unfold rowW
    rw [x3, if_pos (by omega), show (k + 1) * 8400 + j = k * 8400 + j + 8400 by omega]
  · unfold rowN
    rw [x2, if_neg (by omega)]
  · unfold rowO
    rw [x1, if_neg (by omega)]
  · unfold rowW
    rw [x3, if_neg (by omega)]
theorem keptAt.row {k l : Int} {m m' : mR} (h : keptAt k m m') (hl : 0 ≤ l) (hk : 0 ≤ k) (hkl : ¬ l = k) : rowEq l l m m' := by
  obtain ⟨h1, h2, h3, h4, h5, -⟩ := h
  refine ⟨fun j hj => ?_, fun j hj => ?_, fun j hj => ?_⟩
  · unfold rowN
    exact h3 _ (by omega)
  · unfold rowO
    exact h5 _ (by omega)
  · unfold rowW
    exact h4 _ (by omega)
theorem sameM.tr {m m1 m2 : mR} (h : sameM m m1) (g : sameM m1 m2) : sameM m m2 := by
  obtain ⟨h1, h2, h3, h4, h5, h6⟩ := h
  obtain ⟨g1, g2, g3, g4, g5, g6⟩ := g
  exact ⟨g1.trans h1, g2.trans h2, g3.trans h3, g4.trans h4, g5.trans h5, fun k a => (g6 k a).trans (h6 k a)⟩
theorem rowEq.tr {k l r : Int} {m m1 m2 : mR} (h : rowEq l r m m1) (g : rowEq k l m1 m2) : rowEq k r m m2 :=
  ⟨fun j hj => (g.1 j hj).trans (h.1 j hj), fun j hj => (g.2.1 j hj).trans (h.2.1 j hj), fun j hj => (g.2.2 j hj).trans (h.2.2 j hj)⟩
/-- after records: the number n' of copies; the last is the present; the others are the newest of those that were -/
def recM (n' d : Int) (m m' : mR) : Prop := sameM m m' ∧ m'.1 6 7 = n' ∧ rowNow (n' - 1) m m' ∧ (∀ i : Int, 0 ≤ i ∧ i < n' - 1 → rowEq i (i + d) m m') ∧ ∀ k : Int, k = 6 ∨ k = 7 → rowEq k k m m'
theorem em_records {m : mR} (hs : 0 ≤ m.1 6 7 ∧ m.1 6 7 ≤ 6) (hn : 0 ≤ m.1 0 4 ∧ m.1 0 4 ≤ 8400) : ∃ m', fX7_records m = some ((), m') ∧ recM (if m.1 6 7 = 6 then 6 else m.1 6 7 + 1) (if m.1 6 7 = 6 then 1 else 0) m m' := by
  have b13 : ∀ m1 : mR, (0 ≤ m1.1 6 7 ∧ m1.1 6 7 ≤ 5) → m1.1 0 4 = m.1 0 4 → ∃ m', fX7_records_b13 m1 = some ((), m') ∧ sameM m1 m' ∧ m'.1 6 7 = m1.1 6 7 + 1 ∧ rowNow (m1.1 6 7) m1 m' ∧ ∀ k : Int, 0 ≤ k → ¬ k = m1.1 6 7 → rowEq k k m1 m' := fun m1 h1 h2 => by
    obtain ⟨m', q1, q2⟩ := em_keeps (k := m1.1 6 7) (m := m1) (by omega) (by omega)
    have q := q2
    obtain ⟨w1, w2, w3, w4, w5, w6, w7, w8⟩ := q2
    have e67 : m'.1 6 7 = m1.1 6 7 := by rw [w1 6 (by omega) (by omega)]
    refine ⟨mS m' 6 7 (m'.1 6 7 + 1), ?_, ⟨?_, ?_, ?_, ?_, ?_, fun k hk => ?_⟩, ?_, ⟨w6, w7, w8⟩, fun k hk hk2 => q.row hk h1.1 hk2⟩
    · unfold fX7_records_b13
      rw [q1, cl_some]
      rfl
    · rw [mS_t _ _ _ (by omega), w1 0 (by omega) (by omega)]
    · rw [mS_t _ _ _ (by omega), w1 1 (by omega) (by omega)]
    · show m'.2 0 = _
      rw [w2 0 (by omega)]
    · rw [mS_t _ _ _ (by omega), w1 4 (by omega) (by omega)]
    · rw [mS_t _ _ _ (by omega), w1 5 (by omega) (by omega)]
    · rw [mS_n _ (by omega), w1 6 (by omega) (by omega)]
    · rw [mS_p, e67]
  by_cases g : m.1 6 7 = 6
  · obtain ⟨m1, a1, a2, a3, a4, a5⟩ := em_drops m
    obtain ⟨m', c1, c2, c3, c4, c5⟩ := b13 m1 (by omega) (by rw [a2.1])
    have e5 : m1.1 6 7 = 5 := by omega
    rw [e5] at c3 c4 c5
    refine ⟨m', ?_, a2.tr c2, by rw [if_pos g, c3]; rfl, ?_, fun i hi => ?_, fun k hk => (a5 k (by omega)).tr (c5 k (by omega) (by omega))⟩
    · unfold fX7_records
      rw [gd_pos (by omega), if_pos g, a1, cl_some, c1]
    · rw [if_pos g]
      obtain ⟨d1, d2, d3⟩ := c4
      rw [a2.1] at d1 d3
      rw [a2.2.1] at d3
      rw [a2.2.2.1] at d2
      exact ⟨d1, d2, d3⟩
    · rw [if_pos g] at hi ⊢
      exact (a4 i (by omega)).tr (c5 i (by omega) (by omega))
  · obtain ⟨m', c1, c2, c3, c4, c5⟩ := b13 m (by omega) rfl
    refine ⟨m', ?_, c2, by rw [if_neg g, c3], ?_, fun i hi => ?_, fun k hk => c5 k (by omega) (by omega)⟩
    · unfold fX7_records
      rw [gd_pos (by omega), if_neg g, c1]
    · rw [if_neg g, show m.1 6 7 + 1 - 1 = m.1 6 7 by omega]
      exact c4
    · rw [if_neg g] at hi ⊢
      rw [show i + 0 = i by omega]
      exact c5 i (by omega) (by omega)
theorem recM.of {n' d : Int} {m m' : mR} (e : fX7_records m = some ((), m')) (h : recM n' d m m') : recOf m m' := ⟨e, h.1.1, h.1.2.1, h.1.2.2.1⟩

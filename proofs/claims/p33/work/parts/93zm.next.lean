/-! ===== which payment is tried next ===== -/
def prio (H : hR) (e : Int) : Int := H.1 3 (H.1 5 0 e) 8
theorem rk_inj {A : Int → Int} {i j : Nat} (hi : ¬ A i = 0) (hj : ¬ A j = 0) (h : rk A i = rk A j) : i = j := by
  by_cases q : i < j
  · have := rk_lt (A := A) q hi
    omega
  · by_cases q2 : j < i
    · have := rk_lt (A := A) q2 hj
      omega
    · omega
theorem em_ahead {F : Int} {x : Int → Int} {H : hR} {m : mR} (h : Mid F x H m) (hx : ∀ i : Int, 0 ≤ x i ∧ x i ≤ 1) {i j : Nat} (hij : i < j) (hj : (j : Int) < H.1 4 2 0) (hAi : ¬ H.1 5 1 i = 0) (hAj : ¬ H.1 5 1 j = 0) : fX7_isAhead (rk (H.1 5 1) j) (rk (H.1 5 1) i) m = some (bI (decide (prio H i < prio H j))) := by
  obtain ⟨p0, p1, p2, p3, p4, p5⟩ := MC.part h hx (i := i) (by omega) hAi
  obtain ⟨q0, q1, q2, q3, q4, q5⟩ := MC.part h hx (i := j) (by omega) hAj
  obtain ⟨v1, v2, v3, v4, v5⟩ := h.2.2.2.2.2.2.1.1 i (by omega)
  obtain ⟨u1, u2, u3, u4, u5⟩ := h.2.2.2.2.2.2.1.1 j (by omega)
  have hs := h.2.2.2.2.2.2.1.2 i j (by omega) (by omega) hj
  have k1 := h.2.2.1
  unfold okN at k1
  have ci : m.1 0 (121 + 16 * H.1 5 0 i + 8) = prio H i := MC.atO h v1 8 (by omega)
  have cj : m.1 0 (121 + 16 * H.1 5 0 j + 8) = prio H j := MC.atO h u1 8 (by omega)
  have wi := (h.2.2.2.2.2.1 _ v1).2.1.2.2.2.1
  have wj := (h.2.2.2.2.2.1 _ u1).2.1.2.2.2.1
  have wi' : 0 ≤ prio H i ∧ prio H i ≤ 9 := wi
  have wj' : 0 ≤ prio H j ∧ prio H j ≤ 9 := wj
  unfold fX7_isAhead
  rw [q0, cr_some, ev_ofO (by omega), cr_some, p0, cr_some, ev_ofO (by omega), cr_some, ci, cj, gd_pos (by omega)]
  by_cases g : prio H j = prio H i
  · rw [if_pos g, q3, cr_some, p3, cr_some, gd_pos (by omega), bI_f (decide_eq_false (by omega))]
    by_cases g2 : H.1 5 3 j = H.1 5 3 i
    · rw [if_pos g2, cr_some, cr_some, gd_pos (by omega), if_pos (by omega)]
    · rw [if_neg g2, cr_some, gd_pos (by omega), if_pos (by omega)]
  · rw [if_neg g, gd_pos (by omega)]
    by_cases g2 : prio H j ≤ prio H i
    · rw [if_pos g2, bI_f (decide_eq_false (by omega))]
    · rw [if_neg g2, bI_t (decide_eq_true (by omega))]
def bestT (H : hR) (x : Int → Int) (best k : Int) : Prop :=
  (best = -6 ∧ ∀ i : Nat, (i : Int) < H.1 4 2 0 → ¬ H.1 5 1 i = 0 → rk (H.1 5 1) i < k → x i = 1) ∨
  ∃ p : Nat, (p : Int) < H.1 4 2 0 ∧ ¬ H.1 5 1 p = 0 ∧ best = rk (H.1 5 1) p ∧ rk (H.1 5 1) p < k ∧ x p = 0 ∧ ∀ i : Nat, (i : Int) < H.1 4 2 0 → ¬ H.1 5 1 i = 0 → rk (H.1 5 1) i < k → x i = 0 → prio H i < prio H p ∨ (prio H i = prio H p ∧ p ≤ i)
theorem em_next_b5 {F : Int} {x : Int → Int} {H : hR} {m : mR} (h : Mid F x H m) (hx : ∀ i : Int, 0 ≤ x i ∧ x i ≤ 1) : ∀ (n fuel : Nat) (best k : Int), k + n = m.1 0 4 → 0 ≤ k → n < fuel → bestT H x best k → ∃ r, fX7_nextToTry_b5 m fuel best k = some r ∧ bestT H x r (m.1 0 4)
  | n, 0, _, _, _, _, h, _ => by omega
  | 0, fuel + 1, best, k, h1, h2, _, hb => by
    have k1 := h.2.2.1
    unfold okN at k1
    have hrn := rk_rng (A := H.1 5 1) (H.1 4 2 0).toNat
    have e4 := h.1.2.2.2.2.1
    refine ⟨best, ?_, by rw [show m.1 0 4 = k by omega]; exact hb⟩
    rw [fX7_nextToTry_b5, gd_pos (by omega), gd_pos (by omega), if_pos (by omega)]
  | n + 1, fuel + 1, best, k, h1, h2, h3, hb => by
    have k1 := h.2.2.1
    unfold okN at k1
    have hrn := rk_rng (A := H.1 5 1) (H.1 4 2 0).toNat
    have e4 := h.1.2.2.2.2.1
    obtain ⟨j, j1, j2, j3⟩ := rk_sur (A := H.1 5 1) (H.1 4 2 0).toNat k h2 (by omega)
    have p5 := (MC.part h hx (i := j) (by omega) j2).2.2.2.2.2
    rw [j3] at p5
    have hxj := hx j
    -- rows up to this one
    have sp : ∀ i : Nat, ¬ H.1 5 1 i = 0 → rk (H.1 5 1) i < k + 1 → rk (H.1 5 1) i < k ∨ i = j := fun i hi hr => by
      by_cases q : rk (H.1 5 1) i < k
      · exact Or.inl q
      · exact Or.inr (rk_inj hi j2 (by omega))
    have e0 : fX7_nextToTry_b5 m (fuel + 1) best k = if x j = 0 then (gd (wR best) <| if best = (-6) then ((fX7_nextToTry_b5 m fuel) k (k + 1)) else (cr (fX7_isAhead k best m) fun r35 => gd (wR r35) <| if r35 = 0 then ((fX7_nextToTry_b5 m fuel) best (k + 1)) else ((fX7_nextToTry_b5 m fuel) k (k + 1)))) else ((fX7_nextToTry_b5 m fuel) best (k + 1)) := by
      rw [fX7_nextToTry_b5, gd_pos (by omega), gd_pos (by omega), if_neg (by omega), p5, cr_some, gd_pos (by omega)]
    rw [e0]
    by_cases gx : x j = 0
    · rw [if_pos gx]
      rcases hb with ⟨b1, b2⟩ | ⟨p, q1, q2, q3, q4, q5, q6⟩
      · rw [b1, gd_pos (by omega), if_pos rfl]
        refine em_next_b5 h hx n fuel k (k + 1) (by omega) (by omega) (by omega) (Or.inr ⟨j, by omega, j2, j3.symm, by omega, gx, fun i hi hA hr hx0 => ?_⟩)
        rcases sp i hA hr with s | s
        · have := b2 i hi hA s
          omega
        · rw [s]
          exact Or.inr ⟨rfl, Nat.le_refl _⟩
      · have hpr := rk_rng (A := H.1 5 1) p
        have hpj : p < j := by
          by_cases q : p < j
          · exact q
          · have := rk_le (A := H.1 5 1) (n := j) (k := p) (by omega)
            omega
        have ea := em_ahead h hx hpj (by omega) q2 j2
        rw [j3, ← q3] at ea
        rw [gd_pos (by omega), if_neg (by omega), ea, cr_some, gd_pos (by have := bI_rng (decide (prio H p < prio H j)); omega)]
        by_cases g : prio H p < prio H j
        · rw [bI_t (decide_eq_true g), if_neg (by omega)]
          refine em_next_b5 h hx n fuel k (k + 1) (by omega) (by omega) (by omega) (Or.inr ⟨j, by omega, j2, j3.symm, by omega, gx, fun i hi hA hr hx0 => ?_⟩)
          rcases sp i hA hr with s | s
          · have := q6 i hi hA s hx0
            left
            omega
          · rw [s]
            exact Or.inr ⟨rfl, Nat.le_refl _⟩
        · rw [bI_f (decide_eq_false g), if_pos rfl]
          refine em_next_b5 h hx n fuel best (k + 1) (by omega) (by omega) (by omega) (Or.inr ⟨p, q1, q2, q3, by omega, q5, fun i hi hA hr hx0 => ?_⟩)
          rcases sp i hA hr with s | s
          · exact q6 i hi hA s hx0
          · rw [s]
            omega
    · rw [if_neg gx]
      refine em_next_b5 h hx n fuel best (k + 1) (by omega) (by omega) (by omega) ?_
      rcases hb with ⟨b1, b2⟩ | ⟨p, q1, q2, q3, q4, q5, q6⟩
      · refine Or.inl ⟨b1, fun i hi hA hr => ?_⟩
        rcases sp i hA hr with s | s
        · exact b2 i hi hA s
        · rw [s]
          omega
      · refine Or.inr ⟨p, q1, q2, q3, by omega, q5, fun i hi hA hr hx0 => ?_⟩
        rcases sp i hA hr with s | s
        · exact q6 i hi hA s hx0
        · rw [s] at hx0
          exact absurd hx0 gx
theorem em_next' {F : Int} {x : Int → Int} {H : hR} {m : mR} (h : Mid F x H m) (hx : ∀ i : Int, 0 ≤ x i ∧ x i ≤ 1) : ∃ r, fX7_nextToTry m = some r ∧ bestT H x r (m.1 0 4) := by
  have k1 := h.2.2.1
  unfold okN at k1
  have hrn := rk_rng (A := H.1 5 1) (H.1 4 2 0).toNat
  have e4 := h.1.2.2.2.2.1
  refine em_next_b5 h hx (m.1 0 4).toNat fuel0 (-6) 0 (by omega) (by omega) (by show _ < 1000000; omega) (Or.inl ⟨rfl, fun i hi hA hr => ?_⟩)
  have := rk_rng (A := H.1 5 1) i
  omega
/-- none is left -/
theorem em_next0 {F : Int} {x : Int → Int} {H : hR} {m : mR} (h : Mid F x H m) (hx : ∀ i : Int, 0 ≤ x i ∧ x i ≤ 1) (h1 : ∀ i : Nat, (i : Int) < H.1 4 2 0 → ¬ H.1 5 1 i = 0 → x i = 1) : fX7_nextToTry m = some (-6) := by
  obtain ⟨r, e, hb⟩ := em_next' h hx
  rcases hb with ⟨b1, b2⟩ | ⟨p, q1, q2, q3, q4, q5, q6⟩
  · rw [e, b1]
  · have := h1 p q1 q2
    omega
/-- the first one of the highest priority -/
theorem em_next1 {F : Int} {x : Int → Int} {H : hR} {m : mR} (h : Mid F x H m) (hx : ∀ i : Int, 0 ≤ x i ∧ x i ≤ 1) {p : Nat} (hp : (p : Int) < H.1 4 2 0) (hA : ¬ H.1 5 1 p = 0) (h0 : x p = 0) (hb : ∀ i : Nat, (i : Int) < H.1 4 2 0 → ¬ H.1 5 1 i = 0 → x i = 0 → prio H i < prio H p ∨ (prio H i = prio H p ∧ p ≤ i)) : fX7_nextToTry m = some (rk (H.1 5 1) p) := by
  obtain ⟨r, e, hb'⟩ := em_next' h hx
  have e4 := h.1.2.2.2.2.1
  have hlt := rk_lt (A := H.1 5 1) (n := p) (k := (H.1 4 2 0).toNat) (by omega) hA
  rcases hb' with ⟨b1, b2⟩ | ⟨p', q1, q2, q3, q4, q5, q6⟩
  · have := b2 p hp hA (by omega)
    omega
  · have r1 := hb p' q1 q2 q5
    have r2 := q6 p hp hA (by omega) h0
    have : p' = p := by omega
    rw [e, q3, this]

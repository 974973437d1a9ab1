theorem roomOK_rng {r : Int} (h : roomOK r) : 64 ≤ r ∧ r ≤ 16384 := by
  obtain ⟨k, hk, rfl⟩ := h
  have : ∀ k : Nat, k ≤ 8 → 64 ≤ 64 * (2 : Int) ^ k ∧ 64 * (2 : Int) ^ k ≤ 16384 := by decide
  exact this k hk
theorem ask_ofPayment {T : Int} {c : cR} {m : mR} (h : Sim T (c.1 0) m) {i w : Int} (hi : wR i) (hw : wR w) : askOK (fX6_ofPayment i w c) (fX7_ofPayment i w m) := by
  have k1 := h.2.2.1
  unfold okN at k1
  have hr := roomOK_rng k1.2.2.2.2
  have e4 := h.1.1.2.2.2.2.1
  by_cases g1 : 0 ≤ i ∧ i ≤ (c.1 0).1 4 2 0 - 1
  · obtain ⟨p0, p1, p2, p3, p4⟩ := h.part (i := i) (by omega)
    obtain ⟨w1, w2, w3, w4, w5⟩ := h.2.2.2.2.2.2.1.1 i (by omega)
    have hg : (0 ≤ w ∧ w ≤ 4) → ∀ r : Int, r = (c.1 0).1 5 w i → wR r → fX7_partOf i w m = some r → askOK (fX6_ofPayment i w c) (fX7_ofPayment i w m) := by
      intro g2 r hrr hwr hp
      subst hrr
      refine askOf hwr (po_eq ?_) (po_eq ?_)
      · unfold fX6_ofPayment
        (repeat (first | (with_reducible refine po_gd ?_ ?_; · omega) | (with_reducible refine po_bnd ?_) | (with_reducible refine po_ift ?_ ?_; · omega) | (with_reducible refine po_iff ?_ ?_; · omega) | (with_reducible refine po_crs ?_) | (with_reducible refine po_cls ?_) | (with_reducible refine po_cre (ev_btT ?_) ?_; (· omega))))
        exact po_some rfl
      · unfold fX7_ofPayment
        rw [e4]
        (repeat (first | (with_reducible refine po_gd ?_ ?_; · omega) | (with_reducible refine po_bnd ?_) | (with_reducible refine po_ift ?_ ?_; · omega) | (with_reducible refine po_iff ?_ ?_; · omega) | (with_reducible refine po_crs ?_) | (with_reducible refine po_cls ?_) | (with_reducible refine po_cre (ev_inT ?_) ?_; (· omega)) | (with_reducible refine po_cre hp ?_)))
        exact po_some rfl
    by_cases g2 : 0 ≤ w ∧ w ≤ 4
    · have : w = 0 ∨ w = 1 ∨ w = 2 ∨ w = 3 ∨ w = 4 := by omega
      rcases this with rfl | rfl | rfl | rfl | rfl
      · exact hg g2 _ rfl (by omega) p0
      · exact hg g2 _ rfl (by omega) p1
      · exact hg g2 _ rfl (by omega) p2
      · exact hg g2 _ rfl (by omega) p3
      · exact hg g2 _ rfl (by omega) p4
    · refine askOf (r := -2) (by decide) (po_eq ?_) (po_eq ?_)
      · unfold fX6_ofPayment
        (repeat (first | (with_reducible refine po_gd ?_ ?_; · omega) | (with_reducible refine po_bnd ?_) | (with_reducible refine po_ift ?_ ?_; · omega) | (with_reducible refine po_iff ?_ ?_; · omega) | (with_reducible refine po_crs ?_) | (with_reducible refine po_cls ?_) | (with_reducible refine po_cre (ev_btT ?_) ?_; (· omega)) | (with_reducible refine po_cre (ev_btF ?_) ?_; (· omega))))
        exact po_some rfl
      · unfold fX7_ofPayment
        rw [e4]
        (repeat (first | (with_reducible refine po_gd ?_ ?_; · omega) | (with_reducible refine po_bnd ?_) | (with_reducible refine po_ift ?_ ?_; · omega) | (with_reducible refine po_iff ?_ ?_; · omega) | (with_reducible refine po_crs ?_) | (with_reducible refine po_cls ?_) | (with_reducible refine po_cre (ev_inT ?_) ?_; (· omega)) | (with_reducible refine po_cre (ev_inF ?_) ?_; (· omega))))
        exact po_some rfl
  · refine askOf (r := -1) (by decide) (po_eq ?_) (po_eq ?_)
    · unfold fX6_ofPayment
      (repeat (first | (with_reducible refine po_gd ?_ ?_; · omega) | (with_reducible refine po_bnd ?_) | (with_reducible refine po_ift ?_ ?_; · omega) | (with_reducible refine po_iff ?_ ?_; · omega) | (with_reducible refine po_crs ?_) | (with_reducible refine po_cls ?_) | (with_reducible refine po_cre (ev_btF ?_) ?_; (· omega))))
      exact po_some rfl
    · unfold fX7_ofPayment
      rw [e4]
      (repeat (first | (with_reducible refine po_gd ?_ ?_; · omega) | (with_reducible refine po_bnd ?_) | (with_reducible refine po_ift ?_ ?_; · omega) | (with_reducible refine po_iff ?_ ?_; · omega) | (with_reducible refine po_crs ?_) | (with_reducible refine po_cls ?_) | (with_reducible refine po_cre (ev_inF ?_) ?_; (· omega))))
      exact po_some rfl
theorem sumW_rng {H : hR} {a : Int} : ∀ n : Nat, (∀ i : Int, 0 ≤ i ∧ i < n → 1 ≤ H.1 5 1 i ∧ H.1 5 1 i ≤ 1000000) → 0 ≤ sumW H a n ∧ sumW H a n ≤ 1000000 * n
  | 0, _ => by unfold sumW; omega
  | n + 1, h => by
    have h1 := sumW_rng (a := a) n (fun i hi => h i (by omega))
    have h2 := h n (by omega)
    unfold sumW
    split <;> omega
theorem em_waitsFor_b5 {H : hR} {m : mR} {a : Int} (ha : wR a) {n : Nat} (hn : m.1 0 4 = n) (hn2 : n ≤ 8400) (hp : ∀ i : Int, 0 ≤ i ∧ i < n → fX7_partOf i 0 m = some (H.1 5 0 i) ∧ fX7_ofO (H.1 5 0 i) 0 m = some (H.1 3 (H.1 5 0 i) 0) ∧ wR (H.1 3 (H.1 5 0 i) 0) ∧ fX7_partOf i 1 m = some (H.1 5 1 i) ∧ wR (H.1 5 1 i)) : ∀ (k fuel : Nat) (j : Nat), j + k = n → k < fuel → fX7_waitsFor_b5 m fuel a (sumW H a j) j = some (sumW H a n)
  | k, 0, j, _, h => by omega
  | 0, fuel + 1, j, h1, _ => by
    unfold fX7_waitsFor_b5
    rw [gd_pos (by omega), gd_pos (by omega), if_pos (by omega), show j = n by omega]
  | k + 1, fuel + 1, j, h1, h2 => by
    obtain ⟨p1, p2, p3, p4, p5⟩ := hp j (by omega)
    have ih := em_waitsFor_b5 ha hn hn2 hp k fuel (j + 1) (by omega) (by omega)
    unfold fX7_waitsFor_b5 fX7_waitsFor_b47
    rw [gd_pos (by omega), gd_pos (by omega), if_neg (by omega), p1, cr_some, p2, cr_some, gd_pos (by omega)]
    by_cases g : H.1 3 (H.1 5 0 j) 0 = a
    · rw [if_pos g, p4, cr_some, gd_pos p5]
      have e : sumW H a (j + 1) = sumW H a j + H.1 5 1 j := by
        show sumW H a j + (if H.1 3 (H.1 5 0 j) 0 = a then H.1 5 1 j else 0) = _
        rw [if_pos g]
      rw [← e]
      exact ih
    · rw [if_neg g]
      have e : sumW H a (j + 1) = sumW H a j + 0 := by
        show sumW H a j + (if H.1 3 (H.1 5 0 j) 0 = a then H.1 5 1 j else 0) = _
        rw [if_neg g]
      rw [← e]
      exact ih
theorem Sim.waitsFor {T : Int} {H : hR} {m : mR} (h : Sim T H m) {a : Int} (ha : wR a) : fX7_waitsFor a m = some (sumW H a (H.1 4 2 0).toNat) := by
  have k1 := h.2.2.1
  unfold okN at k1
  have e4 := h.1.1.2.2.2.2.1
  refine em_waitsFor_b5 (j := 0) ha (n := (H.1 4 2 0).toNat) (by omega) (by omega) (fun i hi => ?_) (H.1 4 2 0).toNat fuel0 (by omega) (by show _ < 1000000; omega)
  obtain ⟨p0, p1, -, -, -⟩ := h.part (i := i) (by omega)
  obtain ⟨w1, w2, -, -, -⟩ := h.2.2.2.2.2.2.1.1 i (by omega)
  have q0 : m.1 0 (121 + 16 * H.1 5 0 i + 0) = H.1 3 (H.1 5 0 i) 0 := h.1.atO w1 0 (by decide)
  have q1 := (h.2.2.2.2.2.1 _ w1).2.1.1
  exact ⟨p0, by rw [ev_ofO (by omega), q0], by omega, p1, by omega⟩
/-- a long answer -/
def askL (a b : Option Int) : Prop := ∃ r : Int, a = some r ∧ b = some r ∧ wR64 r
theorem ask_money {T : Int} {c : cR} {m : mR} (hT : 0 ≤ T ∧ T ≤ 100000) (h : Sim T (c.1 0) m) {a w : Int} (ha : wR a) (hw : wR w) : askL (fX6_money a w c) (fX7_money a w m) := by
  have k1 := h.2.2.1
  unfold okN at k1
  have q2 := h.1.1.2.1
  have ht := h.2.2.2.1.1
  by_cases g1 : 0 ≤ a ∧ a < (c.1 0).1 0 4 0
  · have hA1 : fX2_hasAccount a (c.1 0) = some 1 := by rw [ev_hasA (by omega), bI_t (decide_eq_true g1)]
    have hA2 : fX7_isAccount a m = some 1 := by rw [ev_isA (by omega), q2, bI_t (decide_eq_true g1)]
    by_cases g2 : 0 ≤ w ∧ w ≤ 7
    · have hm := h.2.2.2.2.2.2.2.2.1 a g1 (w + 3) (by omega)
      unfold monB at hm
      have ce := h.1.at g1 (f := 3 + w) (by omega)
      have es : fX0_sumOf a w (c.1 0) = some ((c.1 0).1 2 a (w + 3)) := by
        refine po_eq ?_
        unfold fX0_sumOf
        have : w = 0 ∨ w = 1 ∨ w = 2 ∨ w = 3 ∨ w = 4 ∨ w = 5 ∨ w = 6 ∨ w = 7 := by omega
        rcases this with rfl | rfl | rfl | rfl | rfl | rfl | rfl | rfl
        all_goals
          (repeat (first | (with_reducible refine po_gd ?_ ?_; · omega) | (with_reducible refine po_bnd ?_) | (with_reducible refine po_ift ?_ ?_; · omega) | (with_reducible refine po_iff ?_ ?_; · omega) | (with_reducible refine po_crs ?_) | (with_reducible refine po_cls ?_)))
          exact po_some rfl
      have em : fX7_moneyOf a w m = some ((c.1 0).1 2 a (w + 3)) := by
        rw [ev_money (by omega), show 33 + 11 * a + 3 + w = 33 + 11 * a + (3 + w) by omega, ce, show 3 + w = w + 3 by omega]
      refine ⟨(c.1 0).1 2 a (w + 3), po_eq ?_, po_eq ?_, by omega⟩
      · unfold fX6_money
        (repeat (first | (with_reducible refine po_gd ?_ ?_; · omega) | (with_reducible refine po_bnd ?_) | (with_reducible refine po_ift ?_ ?_; · omega) | (with_reducible refine po_iff ?_ ?_; · omega) | (with_reducible refine po_crs ?_) | (with_reducible refine po_cls ?_) | (with_reducible refine po_cre hA1 ?_) | (with_reducible refine po_cre es ?_)))
        exact po_some rfl
      · unfold fX7_money
        (repeat (first | (with_reducible refine po_gd ?_ ?_; · omega) | (with_reducible refine po_bnd ?_) | (with_reducible refine po_ift ?_ ?_; · omega) | (with_reducible refine po_iff ?_ ?_; · omega) | (with_reducible refine po_crs ?_) | (with_reducible refine po_cls ?_) | (with_reducible refine po_cre hA2 ?_) | (with_reducible refine po_cre (ev_inT ?_) ?_; (· omega)) | (with_reducible refine po_cre em ?_)))
        exact po_some rfl
    · by_cases g3 : w = 8
      · subst g3
        have hs := h.2.2.2.2.2.2.2.1.1 a g1
        have hf := h.waitsFor ha
        rw [← hs] at hf
        have hr := sumW_rng (H := c.1 0) (a := a) ((c.1 0).1 4 2 0).toNat (fun i hi => (h.2.2.2.2.2.2.1.1 i (by omega)).2.1)
        rw [← hs] at hr
        have es : fX0_sumOf a 8 (c.1 0) = some ((c.1 0).1 2 a 11) := by
          refine po_eq ?_
          unfold fX0_sumOf
          (repeat (first | (with_reducible refine po_gd ?_ ?_; · omega) | (with_reducible refine po_bnd ?_) | (with_reducible refine po_ift ?_ ?_; · omega) | (with_reducible refine po_iff ?_ ?_; · omega) | (with_reducible refine po_crs ?_) | (with_reducible refine po_cls ?_)))
          exact po_some rfl
        refine ⟨(c.1 0).1 2 a 11, po_eq ?_, po_eq ?_, by omega⟩
        · unfold fX6_money
          (repeat (first | (with_reducible refine po_gd ?_ ?_; · omega) | (with_reducible refine po_bnd ?_) | (with_reducible refine po_ift ?_ ?_; · omega) | (with_reducible refine po_iff ?_ ?_; · omega) | (with_reducible refine po_crs ?_) | (with_reducible refine po_cls ?_) | (with_reducible refine po_cre hA1 ?_) | (with_reducible refine po_cre es ?_)))
          exact po_some rfl
        · unfold fX7_money
          (repeat (first | (with_reducible refine po_gd ?_ ?_; · omega) | (with_reducible refine po_bnd ?_) | (with_reducible refine po_ift ?_ ?_; · omega) | (with_reducible refine po_iff ?_ ?_; · omega) | (with_reducible refine po_crs ?_) | (with_reducible refine po_cls ?_) | (with_reducible refine po_cre hA2 ?_) | (with_reducible refine po_cre (ev_inT ?_) ?_; (· omega)) | (with_reducible refine po_cre hf ?_)))
          exact po_some rfl
      · have es : fX0_sumOf a w (c.1 0) = some (-2) := by
          refine po_eq ?_
          unfold fX0_sumOf
          (repeat (first | (with_reducible refine po_gd ?_ ?_; · omega) | (with_reducible refine po_bnd ?_) | (with_reducible refine po_ift ?_ ?_; · omega) | (with_reducible refine po_iff ?_ ?_; · omega) | (with_reducible refine po_crs ?_) | (with_reducible refine po_cls ?_)))
          exact po_some rfl
        refine ⟨-2, po_eq ?_, po_eq ?_, by decide⟩
        · unfold fX6_money
          (repeat (first | (with_reducible refine po_gd ?_ ?_; · omega) | (with_reducible refine po_bnd ?_) | (with_reducible refine po_ift ?_ ?_; · omega) | (with_reducible refine po_iff ?_ ?_; · omega) | (with_reducible refine po_crs ?_) | (with_reducible refine po_cls ?_) | (with_reducible refine po_cre hA1 ?_) | (with_reducible refine po_cre es ?_)))
          exact po_some rfl
        · unfold fX7_money
          (repeat (first | (with_reducible refine po_gd ?_ ?_; · omega) | (with_reducible refine po_bnd ?_) | (with_reducible refine po_ift ?_ ?_; · omega) | (with_reducible refine po_iff ?_ ?_; · omega) | (with_reducible refine po_crs ?_) | (with_reducible refine po_cls ?_) | (with_reducible refine po_cre hA2 ?_) | (with_reducible refine po_cre (ev_inF ?_) ?_; (· omega))))
          exact po_some rfl
  · have hA1 : fX2_hasAccount a (c.1 0) = some 0 := by rw [ev_hasA (by omega), bI_f (decide_eq_false g1)]
    have hA2 : fX7_isAccount a m = some 0 := by rw [ev_isA (by omega), q2, bI_f (decide_eq_false g1)]
    refine ⟨-1, po_eq ?_, po_eq ?_, by decide⟩
    · unfold fX6_money
      (repeat (first | (with_reducible refine po_gd ?_ ?_; · omega) | (with_reducible refine po_bnd ?_) | (with_reducible refine po_ift ?_ ?_; · omega) | (with_reducible refine po_iff ?_ ?_; · omega) | (with_reducible refine po_crs ?_) | (with_reducible refine po_cls ?_) | (with_reducible refine po_cre hA1 ?_)))
      exact po_some rfl
    · unfold fX7_money
      (repeat (first | (with_reducible refine po_gd ?_ ?_; · omega) | (with_reducible refine po_bnd ?_) | (with_reducible refine po_ift ?_ ?_; · omega) | (with_reducible refine po_iff ?_ ?_; · omega) | (with_reducible refine po_crs ?_) | (with_reducible refine po_cls ?_) | (with_reducible refine po_cre hA2 ?_)))
      exact po_some rfl

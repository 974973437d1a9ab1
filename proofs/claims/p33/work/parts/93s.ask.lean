/-! ===== questions, answered alike ===== -/
def askOK (a b : Option Int) : Prop := ∃ r : Int, a = some r ∧ b = some r ∧ wR r
theorem askOf {a b : Option Int} {r : Int} (hr : wR r) (h1 : a = some r) (h2 : b = some r) : askOK a b := ⟨r, h1, h2, hr⟩
theorem ask_shift {T : Int} {c : cR} {m : mR} (h : Sim T (c.1 0) m) {d r : Int} (hd : wR d) (hr : wR r) : askOK (fX6_shift d r c) (fX7_shift d r m) := by
  obtain ⟨b1, b2⟩ := cal_both h.1 h.2.2.2.1.2.1
  by_cases g1 : 0 ≤ d ∧ d ≤ 1094
  · have hD1 : fX7_isDay d = some 1 := by
      unfold fX7_isDay
      rw [gd_pos hd, ev_inT (by omega), cr_some, gd_pos (by decide)]
    by_cases g2 : 0 ≤ r ∧ r ≤ 4
    · have e1 := ec_shifted b1 (d := d) (r := r) (by omega)
      have e2 := em_shifted b2 (d := d) (r := r) (by omega)
      have e3 := shZ_rng (cB (c.1 0)) (d := d) (r := r) g1
      refine askOf (r := shZ (cB (c.1 0)) d r) (by omega) (po_eq ?_) (po_eq ?_)
      · unfold fX6_shift
        (repeat (first | (with_reducible refine po_gd ?_ ?_; · omega) | (with_reducible refine po_bnd ?_) | (with_reducible refine po_ift ?_ ?_; · omega) | (with_reducible refine po_iff ?_ ?_; · omega) | (with_reducible refine po_crs ?_) | (with_reducible refine po_cls ?_) | (with_reducible refine po_cre (ev_btT ?_) ?_; (· omega)) | (with_reducible refine po_cre e1 ?_)))
        exact po_some rfl
      · unfold fX7_shift
        (repeat (first | (with_reducible refine po_gd ?_ ?_; · omega) | (with_reducible refine po_bnd ?_) | (with_reducible refine po_ift ?_ ?_; · omega) | (with_reducible refine po_iff ?_ ?_; · omega) | (with_reducible refine po_crs ?_) | (with_reducible refine po_cls ?_) | (with_reducible refine po_cre hD1 ?_) | (with_reducible refine po_cre (ev_inT ?_) ?_; (· omega)) | (with_reducible refine po_cre e2 ?_)))
        exact po_some rfl
    · refine askOf (r := -2) (by decide) (po_eq ?_) (po_eq ?_)
      · unfold fX6_shift
        (repeat (first | (with_reducible refine po_gd ?_ ?_; · omega) | (with_reducible refine po_bnd ?_) | (with_reducible refine po_ift ?_ ?_; · omega) | (with_reducible refine po_iff ?_ ?_; · omega) | (with_reducible refine po_crs ?_) | (with_reducible refine po_cls ?_) | (with_reducible refine po_cre (ev_btT ?_) ?_; (· omega)) | (with_reducible refine po_cre (ev_btF ?_) ?_; (· omega))))
        exact po_some rfl
      · unfold fX7_shift
        (repeat (first | (with_reducible refine po_gd ?_ ?_; · omega) | (with_reducible refine po_bnd ?_) | (with_reducible refine po_ift ?_ ?_; · omega) | (with_reducible refine po_iff ?_ ?_; · omega) | (with_reducible refine po_crs ?_) | (with_reducible refine po_cls ?_) | (with_reducible refine po_cre hD1 ?_) | (with_reducible refine po_cre (ev_inF ?_) ?_; (· omega))))
        exact po_some rfl
  · have hD1 : fX7_isDay d = some 0 := by
      unfold fX7_isDay
      rw [gd_pos hd, ev_inF (by omega), cr_some, gd_pos (by decide)]
    refine askOf (r := -2) (by decide) (po_eq ?_) (po_eq ?_)
    · unfold fX6_shift
      (repeat (first | (with_reducible refine po_gd ?_ ?_; · omega) | (with_reducible refine po_bnd ?_) | (with_reducible refine po_ift ?_ ?_; · omega) | (with_reducible refine po_iff ?_ ?_; · omega) | (with_reducible refine po_crs ?_) | (with_reducible refine po_cls ?_) | (with_reducible refine po_cre (ev_btF ?_) ?_; (· omega))))
      exact po_some rfl
    · unfold fX7_shift
      (repeat (first | (with_reducible refine po_gd ?_ ?_; · omega) | (with_reducible refine po_bnd ?_) | (with_reducible refine po_ift ?_ ?_; · omega) | (with_reducible refine po_iff ?_ ?_; · omega) | (with_reducible refine po_crs ?_) | (with_reducible refine po_cls ?_) | (with_reducible refine po_cre hD1 ?_)))
      exact po_some rfl
theorem ask_ofDay {T : Int} {c : cR} {m : mR} (h : Sim T (c.1 0) m) {d w : Int} (hd : wR d) (hw : wR w) : askOK (fX6_ofDay d w c) (fX7_ofDay d w m) := by
  have hwd := h.2.2.2.1.2.1
  obtain ⟨b1, b2⟩ := cal_both h.1 hwd
  have e12 : m.1 0 12 = (c.1 0).1 1 2 0 := h.1.1.2.2.2.2.2.2.2.2.2
  by_cases g1 : 0 ≤ d ∧ d ≤ 1094
  · have hD1 : fX7_isDay d = some 1 := by
      unfold fX7_isDay
      rw [gd_pos hd, ev_inT (by omega), cr_some, gd_pos (by decide)]
    have wc : fX1_weekdayOf d (c.1 0) = some ((d + (c.1 0).1 1 2 0) % 7) := by
      unfold fX1_weekdayOf
      rw [gd_pos (by omega), rmI_pos (by omega)]
    have wm : fX7_weekdayOf d m = some ((d + (c.1 0).1 1 2 0) % 7) := by
      unfold fX7_weekdayOf
      rw [ev_of (by decide), cr_some, e12, gd_pos (by omega), rmI_pos (by omega)]
    have m1 := ec_monthOf g1
    have m2 := em_monthOf g1
    have mr := mOf_in g1
    have f1 := ec_first (m := mOf d) (by omega)
    have f2 := em_start (m := mOf d) (by omega)
    have z1 := b1 d g1
    have z2 := b2 d g1
    have zr := bI_rng (cB (c.1 0) d)
    have n1 := ec_next b1 (d := d) (by omega)
    have n2 := em_next b2 (d := d) (by omega)
    have nr := nextBz_rng (cB (c.1 0)) d
    have l1 := ec_lastB b1 (d := d) (by omega)
    have l2 := em_lastB b2 (d := d) (by omega)
    have lr := lastBz_rng (cB (c.1 0)) d
    have hs : ∀ r : Int, wR r → fX1_numberOf d w (c.1 0) = some r → fX7_ofDay d w m = some r → askOK (fX6_ofDay d w c) (fX7_ofDay d w m) := by
      intro r hr q1 q2
      refine askOf hr (po_eq ?_) q2
      unfold fX6_ofDay
      (repeat (first | (with_reducible refine po_gd ?_ ?_; · omega) | (with_reducible refine po_bnd ?_) | (with_reducible refine po_ift ?_ ?_; · omega) | (with_reducible refine po_iff ?_ ?_; · omega) | (with_reducible refine po_crs ?_) | (with_reducible refine po_cls ?_) | (with_reducible refine po_cre (ev_btT ?_) ?_; (· omega)) | (with_reducible refine po_cre q1 ?_)))
      exact po_some rfl
    by_cases c0 : w = 0
    · refine hs ((d + (c.1 0).1 1 2 0) % 7) (by omega) (po_eq ?_) (po_eq ?_)
      · unfold fX1_numberOf
        (repeat (first | (with_reducible refine po_gd ?_ ?_; · omega) | (with_reducible refine po_bnd ?_) | (with_reducible refine po_ift ?_ ?_; · omega) | (with_reducible refine po_iff ?_ ?_; · omega) | (with_reducible refine po_crs ?_) | (with_reducible refine po_cls ?_) | (with_reducible refine po_cre wc ?_)))
        exact po_some rfl
      · unfold fX7_ofDay
        (repeat (first | (with_reducible refine po_gd ?_ ?_; · omega) | (with_reducible refine po_bnd ?_) | (with_reducible refine po_ift ?_ ?_; · omega) | (with_reducible refine po_iff ?_ ?_; · omega) | (with_reducible refine po_crs ?_) | (with_reducible refine po_cls ?_) | (with_reducible refine po_cre hD1 ?_) | (with_reducible refine po_cre wm ?_)))
        exact po_some rfl
    · by_cases c1 : w = 1
      · refine hs (mOf d) (by omega) (po_eq ?_) (po_eq ?_)
        · unfold fX1_numberOf
          (repeat (first | (with_reducible refine po_gd ?_ ?_; · omega) | (with_reducible refine po_bnd ?_) | (with_reducible refine po_ift ?_ ?_; · omega) | (with_reducible refine po_iff ?_ ?_; · omega) | (with_reducible refine po_crs ?_) | (with_reducible refine po_cls ?_) | (with_reducible refine po_cre m1 ?_)))
          exact po_some rfl
        · unfold fX7_ofDay
          (repeat (first | (with_reducible refine po_gd ?_ ?_; · omega) | (with_reducible refine po_bnd ?_) | (with_reducible refine po_ift ?_ ?_; · omega) | (with_reducible refine po_iff ?_ ?_; · omega) | (with_reducible refine po_crs ?_) | (with_reducible refine po_cls ?_) | (with_reducible refine po_cre hD1 ?_) | (with_reducible refine po_cre m2 ?_)))
          exact po_some rfl
      · by_cases c2 : w = 2
        · refine hs (d - mFirst (mOf d) + 1) (by have := m_rng (m := mOf d) (by omega); omega) (po_eq ?_) (po_eq ?_)
          · unfold fX1_numberOf
            (repeat (first | (with_reducible refine po_gd ?_ ?_; · omega) | (with_reducible refine po_bnd ?_) | (with_reducible refine po_ift ?_ ?_; · omega) | (with_reducible refine po_iff ?_ ?_; · omega) | (with_reducible refine po_crs ?_) | (with_reducible refine po_cls ?_) | (with_reducible refine po_cre m1 ?_) | (with_reducible refine po_cre f1 ?_)))
            exact po_some rfl
          · unfold fX7_ofDay
            (repeat (first | (with_reducible refine po_gd ?_ ?_; · omega) | (with_reducible refine po_bnd ?_) | (with_reducible refine po_ift ?_ ?_; · omega) | (with_reducible refine po_iff ?_ ?_; · omega) | (with_reducible refine po_crs ?_) | (with_reducible refine po_cls ?_) | (with_reducible refine po_cre hD1 ?_) | (with_reducible refine po_cre m2 ?_) | (with_reducible refine po_cre f2 ?_)))
            exact po_some rfl
        · by_cases c3 : w = 3
          · cases hb : cB (c.1 0) d
            · rw [hb, bI_f rfl] at z1 z2
              refine hs 0 (by decide) (po_eq ?_) (po_eq ?_)
              · unfold fX1_numberOf
                (repeat (first | (with_reducible refine po_gd ?_ ?_; · omega) | (with_reducible refine po_bnd ?_) | (with_reducible refine po_ift ?_ ?_; · omega) | (with_reducible refine po_iff ?_ ?_; · omega) | (with_reducible refine po_crs ?_) | (with_reducible refine po_cls ?_) | (with_reducible refine po_cre z1 ?_)))
                exact po_some rfl
              · unfold fX7_ofDay
                (repeat (first | (with_reducible refine po_gd ?_ ?_; · omega) | (with_reducible refine po_bnd ?_) | (with_reducible refine po_ift ?_ ?_; · omega) | (with_reducible refine po_iff ?_ ?_; · omega) | (with_reducible refine po_crs ?_) | (with_reducible refine po_cls ?_) | (with_reducible refine po_cre hD1 ?_) | (with_reducible refine po_cre z2 ?_)))
                exact po_some rfl
            · rw [hb, bI_t rfl] at z1 z2
              refine hs 1 (by decide) (po_eq ?_) (po_eq ?_)
              · unfold fX1_numberOf
                (repeat (first | (with_reducible refine po_gd ?_ ?_; · omega) | (with_reducible refine po_bnd ?_) | (with_reducible refine po_ift ?_ ?_; · omega) | (with_reducible refine po_iff ?_ ?_; · omega) | (with_reducible refine po_crs ?_) | (with_reducible refine po_cls ?_) | (with_reducible refine po_cre z1 ?_)))
                exact po_some rfl
              · unfold fX7_ofDay
                (repeat (first | (with_reducible refine po_gd ?_ ?_; · omega) | (with_reducible refine po_bnd ?_) | (with_reducible refine po_ift ?_ ?_; · omega) | (with_reducible refine po_iff ?_ ?_; · omega) | (with_reducible refine po_crs ?_) | (with_reducible refine po_cls ?_) | (with_reducible refine po_cre hD1 ?_) | (with_reducible refine po_cre z2 ?_)))
                exact po_some rfl
          · by_cases c4 : w = 4
            · refine hs (nextBz (cB (c.1 0)) d) (by omega) (po_eq ?_) (po_eq ?_)
              · unfold fX1_numberOf
                (repeat (first | (with_reducible refine po_gd ?_ ?_; · omega) | (with_reducible refine po_bnd ?_) | (with_reducible refine po_ift ?_ ?_; · omega) | (with_reducible refine po_iff ?_ ?_; · omega) | (with_reducible refine po_crs ?_) | (with_reducible refine po_cls ?_) | (with_reducible refine po_cre n1 ?_)))
                exact po_some rfl
              · unfold fX7_ofDay
                (repeat (first | (with_reducible refine po_gd ?_ ?_; · omega) | (with_reducible refine po_bnd ?_) | (with_reducible refine po_ift ?_ ?_; · omega) | (with_reducible refine po_iff ?_ ?_; · omega) | (with_reducible refine po_crs ?_) | (with_reducible refine po_cls ?_) | (with_reducible refine po_cre hD1 ?_) | (with_reducible refine po_cre n2 ?_)))
                exact po_some rfl
            · by_cases c5 : w = 5
              · refine hs (lastBz (cB (c.1 0)) d) (by omega) (po_eq ?_) (po_eq ?_)
                · unfold fX1_numberOf
                  (repeat (first | (with_reducible refine po_gd ?_ ?_; · omega) | (with_reducible refine po_bnd ?_) | (with_reducible refine po_ift ?_ ?_; · omega) | (with_reducible refine po_iff ?_ ?_; · omega) | (with_reducible refine po_crs ?_) | (with_reducible refine po_cls ?_) | (with_reducible refine po_cre l1 ?_)))
                  exact po_some rfl
                · unfold fX7_ofDay
                  (repeat (first | (with_reducible refine po_gd ?_ ?_; · omega) | (with_reducible refine po_bnd ?_) | (with_reducible refine po_ift ?_ ?_; · omega) | (with_reducible refine po_iff ?_ ?_; · omega) | (with_reducible refine po_crs ?_) | (with_reducible refine po_cls ?_) | (with_reducible refine po_cre hD1 ?_) | (with_reducible refine po_cre l2 ?_)))
                  exact po_some rfl
              · refine hs (-2) (by decide) (po_eq ?_) (po_eq ?_)
                · unfold fX1_numberOf
                  (repeat (first | (with_reducible refine po_gd ?_ ?_; · omega) | (with_reducible refine po_bnd ?_) | (with_reducible refine po_ift ?_ ?_; · omega) | (with_reducible refine po_iff ?_ ?_; · omega) | (with_reducible refine po_crs ?_) | (with_reducible refine po_cls ?_)))
                  exact po_some rfl
                · unfold fX7_ofDay
                  (repeat (first | (with_reducible refine po_gd ?_ ?_; · omega) | (with_reducible refine po_bnd ?_) | (with_reducible refine po_ift ?_ ?_; · omega) | (with_reducible refine po_iff ?_ ?_; · omega) | (with_reducible refine po_crs ?_) | (with_reducible refine po_cls ?_) | (with_reducible refine po_cre hD1 ?_)))
                  exact po_some rfl
  · have hD1 : fX7_isDay d = some 0 := by
      unfold fX7_isDay
      rw [gd_pos hd, ev_inF (by omega), cr_some, gd_pos (by decide)]
    refine askOf (r := -2) (by decide) (po_eq ?_) (po_eq ?_)
    · unfold fX6_ofDay
      (repeat (first | (with_reducible refine po_gd ?_ ?_; · omega) | (with_reducible refine po_bnd ?_) | (with_reducible refine po_ift ?_ ?_; · omega) | (with_reducible refine po_iff ?_ ?_; · omega) | (with_reducible refine po_crs ?_) | (with_reducible refine po_cls ?_) | (with_reducible refine po_cre (ev_btF ?_) ?_; (· omega))))
      exact po_some rfl
    · unfold fX7_ofDay
      (repeat (first | (with_reducible refine po_gd ?_ ?_; · omega) | (with_reducible refine po_bnd ?_) | (with_reducible refine po_ift ?_ ?_; · omega) | (with_reducible refine po_iff ?_ ?_; · omega) | (with_reducible refine po_crs ?_) | (with_reducible refine po_cls ?_) | (with_reducible refine po_cre hD1 ?_)))
      exact po_some rfl

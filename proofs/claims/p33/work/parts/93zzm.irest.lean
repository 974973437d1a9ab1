/-! ===== restore keeps it ===== -/
theorem iv_restore {T C To s : Int} {c : cR} {m : mR} (I : Inv T C To c m) (hs : wR s) : stepI T C To (fX6_restore s c) (fX7_restore s m) := by
  have I0 := I
  obtain ⟨i1, i2, i3, i4, i5⟩ := I
  by_cases g : 0 ≤ s ∧ s ≤ 1
  · have hsl := i5.2.2.2.2.1 s g
    by_cases g1 : m.1 4 s = 0
    · refine Inv.step (r := -5) (c' := c) (m' := m) ?_ ?_ (by omega) (I0.mono (by omega) (Int.le_refl C) (Int.le_refl To)) (by omega)
      · unfold fX6_restore
        rw [ev_btT (by omega), cr_some, gd_pos (by omega), if_neg (by omega), gd_pos (by omega), gd_pos (by omega), if_pos (by omega)]
      · unfold fX7_restore
        rw [gd_pos hs, ev_inT (by omega), cr_some, gd_pos (by omega), if_neg (by omega), gd_pos (by omega), gd_pos (by omega), if_pos g1]
    · obtain ⟨c1, m1, q1, q2, q3, q4, q5, q6, q7, q8⟩ := hist_rec i5 i1 i2 (by omega)
      have h4 : m1.1 4 = m.1 4 := q3.2.2.2.1
      have hl := (q8.2.2.2.2.1 s g).2.2 (by rw [h4]; omega)
      rw [rcd_1 c1] at hl
      have hz := hl.size
      have hr0 : roomOK ((c1.1 0).1 4 1 0) := q7.2.2.2.2.2 0 (by omega)
      obtain ⟨H1, f1, f2⟩ := ec_copy (H2 := c1.1 (9 + s)) (H := c1.1 0) hl.1.2.2.copyP.1 hl.1.2.2.copyP.2 hr0
      obtain ⟨m', b1, b2⟩ := em_brings (k := 6 + s) (m := m1) (by omega) (by omega)
      obtain ⟨w1, w2, w3⟩ := hl.back f2 b2
      have et : ∀ t : Int, ¬ t = 0 → ¬ t = 1 → m'.1 t = m1.1 t := b2.1
      have ed : m'.2 1 = m1.2 1 := b2.2.1 1 (by omega)
      have hc0 : (cH c1 0 H1).1 0 = H1 := by
        show up1 c1.1 0 H1 0 = H1
        exact up1_p _ _ _
      have hcn : ∀ k : Int, ¬ k = 0 → (cH c1 0 H1).1 k = c1.1 k := fun k q => up1_n _ _ q
      have ks2 := w1.2.2.2.1
      unfold okS at ks2
      have e0 : m'.1 0 0 = H1.1 0 6 0 := w1.1.1.1
      have hf := q7.1
      have hf4 : c1.2.1 0 4 = m.1 6 7 := q7.2.1
      have hf7 := q7.2.2.1
      have g0 : (rcd (cH c1 0 H1)).1 0 = H1 := by rw [rcd_1, hc0]
      have e10 : m'.1 6 10 = m.1 6 10 := by rw [et 6 (by omega) (by omega)]; exact q3.2.2.2.2.2 10 (by omega)
      have e5 : m'.1 5 = m.1 5 := (et 5 (by omega) (by omega)).trans q3.2.2.2.2.1
      have hk' : ∀ k : Int, 2 ≤ k ∧ k ≤ 10 → (rcd (cH c1 0 H1)).1 k = (rcd c1).1 k := fun k hk => by
        rw [rcd_1 c1, rcd_1 (cH c1 0 H1)]
        exact hcn k (by omega)
      have h8 : HistR T C (9 * To - m.1 6 10) (rcd (cH c1 0 H1)) m' := q8.fr hk' (by rw [g0]; exact fc_room w1.2.2) (by rw [rcd_1 (cH c1 0 H1), hcn 1 (by omega)]; exact q7.2.2.2.2.2 1 (by omega)) (rcd_t rfl) (fun l hl => rowEq.of (et 2 (by omega) (by omega)) (et 3 (by omega) (by omega)) ed) (et 4 (by omega) (by omega)) (by rw [et 6 (by omega) (by omega)])
      have hs1 : c1.2.1 1 s = m.1 4 s := (q7.2.2.2.2.1 s g).1
      have hs0 : c.2.1 1 s = m.1 4 s := hsl.1
      refine Inv.step (r := H1.1 0 6 0) (c' := rcd (cH c1 0 H1)) (m' := m') (C' := C) (To' := To) ?_ ?_ (by omega) (Inv.mono (T := T) (C := C) (To := To) ⟨by rw [g0]; exact w1, by rw [g0]; exact w2, i3.fr (by rw [rcd_p]; show c1.2.2 = _; rw [q6]) e5 e10, by rw [g0, e10]; omega, by rw [e10]; exact h8⟩ (by omega) (Int.le_refl _) (Int.le_refl _)) (by omega)
      · unfold fX6_restore
        rw [ev_btT (by omega), cr_some, gd_pos (by omega), if_neg (by omega), gd_pos (by omega), gd_pos (by have := hsl.2.1; omega), if_neg (by omega), q1, cl_some, gd_pos (by omega), f1, cl_some, bnd_eq, hc0, ec_recorded (c := cH c1 0 H1) (by omega) (show 0 ≤ c1.2.1 0 3 ∧ c1.2.1 0 3 ≤ 6 from hf) (show 0 ≤ c1.2.1 0 4 ∧ c1.2.1 0 4 ≤ 6 by omega), if_neg (by omega)]
        rfl
      · unfold fX7_restore
        rw [gd_pos hs, ev_inT (by omega), cr_some, gd_pos (by omega), if_neg (by omega), gd_pos (by omega), gd_pos (by have := hsl.2.1; omega), if_neg g1, q2.1, cl_some, b1, cl_some, ev_today, cr_some, e0]
  · refine Inv.step (r := -2) (c' := c) (m' := m) ?_ ?_ (by omega) (I0.mono (by omega) (Int.le_refl C) (Int.le_refl To)) (by omega)
    · unfold fX6_restore
      rw [ev_btF (by omega), cr_some, gd_pos (by omega), if_pos rfl]
    · unfold fX7_restore
      rw [gd_pos hs, ev_inF (by omega), cr_some, gd_pos (by omega), if_pos rfl]

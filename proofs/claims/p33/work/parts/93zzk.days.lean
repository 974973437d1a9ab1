/-! ===== days keeps it ===== -/
theorem Inv.step {T C To C' To' : Int} {A : Option (Int × cR)} {B : Option (Int × mR)} {r : Int} {c' : cR} {m' : mR} (hA : A = some (r, c')) (hB : B = some (r, m')) (hr : wR r) (h : Inv (T + 1) C' To' c' m') (hC : C ≤ C' ∧ To ≤ To' ∧ C' + To' ≤ C + To + 1) : stepI T C To A B := stepI.of ⟨r, c', m', hA, hB, hr, h⟩ hC
theorem iv_days {T C To n : Int} {c : cR} {m : mR} (hT : 0 ≤ T ∧ T ≤ 100000) (hC : 0 ≤ C ∧ C + 1 + To ≤ 512) (I : Inv T C To c m) (hn : wR n) : stepI T C To (fX6_days n c) (fX7_days n m) := by
  have I0 := I
  obtain ⟨i1, i2, i3, i4, i5⟩ := I
  have ks := i1.2.2.2.1
  unfold okS at ks
  have hL := i3.2.1
  have e0 : m.1 0 0 = (c.1 0).1 0 6 0 := i1.1.1.1
  have err : ∀ r : Int, -5 ≤ r → r ≤ -1 → fX2_errorOfDays n (c.1 0) = some r → fX7_checksDays n m = some r → stepI T C To (fX6_days n c) (fX7_days n m) := fun r r1 r2 q1 q2 => by
    refine Inv.step (r := r) (c' := c) (m' := m) ?_ ?_ (by omega) (I0.mono (by omega) (Int.le_refl C) (Int.le_refl To)) (by omega)
    · unfold fX6_days
      rw [q1, cr_some, gd_pos (by omega), if_neg (by omega)]
    · unfold fX7_days
      rw [q2, cr_some, gd_pos (by omega), if_neg (by omega)]
  by_cases g1 : 1 ≤ n ∧ n ≤ 400
  · by_cases g2 : (c.1 0).1 0 6 0 + n ≤ 1094
    · have hq1 : fX2_errorOfDays n (c.1 0) = some 0 := by
        unfold fX2_errorOfDays
        rw [ev_btT (by omega), cr_some, gd_pos (by omega), if_neg (by omega), gd_pos (by omega), if_pos g2]
      have hq2 : fX7_checksDays n m = some 0 := by
        unfold fX7_checksDays
        rw [gd_pos (by omega), ev_inT (by omega), cr_some, gd_pos (by omega), if_neg (by omega), ev_today, cr_some, e0, gd_pos (by omega), if_pos g2]
      obtain ⟨c1, m1, q1, q2, q3, q4, q5, q6, q7, q8⟩ := hist_rec i5 i1 i2 (by omega)
      obtain ⟨H', m', z1, z2, z3, z4, z5, z6, z7⟩ := ls_days (C := C + 1) hT (by omega) (n := n) (by omega) (i1.rec q2) i2.d
      have hc0 : (cH c1 0 H').1 0 = H' := by
        show up1 c1.1 0 H' 0 = H'
        exact up1_p _ _ _
      have hcn : ∀ k : Int, ¬ k = 0 → (cH c1 0 H').1 k = c1.1 k := fun k q => up1_n _ _ q
      have ks2 := z3.2.2.2.1
      unfold okS at ks2
      have hf := q7.1
      have hf4 : c1.2.1 0 4 = m.1 6 7 := q7.2.1
      have hf7 := q7.2.2.1
      have g0 : (rcd (cH c1 0 H')).1 0 = H' := by rw [rcd_1, hc0]
      obtain ⟨v1, v2, v3⟩ := z7
      have e10 : m'.1 6 10 = m.1 6 10 := (v3 10 (by omega)).trans (q3.2.2.2.2.2 10 (by omega))
      have e5 : m'.1 5 = m.1 5 := (v1 5 (by omega) (by omega) (by omega)).trans q3.2.2.2.2.1
      have hk' : ∀ k : Int, 2 ≤ k ∧ k ≤ 10 → (rcd (cH c1 0 H')).1 k = (rcd c1).1 k := fun k hk => by
        rw [rcd_1 c1, rcd_1 (cH c1 0 H')]
        exact hcn k (by omega)
      have h8 : HistR T C (9 * To - m.1 6 10) (rcd (cH c1 0 H')) m' := q8.fr hk' (by rw [g0]; exact fc_room z3.2.2) (by rw [rcd_1 (cH c1 0 H'), hcn 1 (by omega)]; exact q7.2.2.2.2.2 1 (by omega)) (rcd_t rfl) (fun l hl => rowEq.of (v1 2 (by omega) (by omega) (by omega)) (v1 3 (by omega) (by omega) (by omega)) v2) (v1 4 (by omega) (by omega) (by omega)) (v3 7 (by omega))
      refine Inv.step (r := H'.1 0 6 0) (c' := rcd (cH c1 0 H')) (m' := m') (C' := C + 1) (To' := To) ?_ ?_ (by omega) ⟨?_, ?_, i3.fr (by rw [rcd_p]; show c1.2.2 = _; rw [q6]) e5 e10, ?_, ?_⟩ (by omega)
      · unfold fX6_days
        rw [hq1, cr_some, gd_pos (by omega), if_pos rfl, q1, cl_some, q4, z1, cl_some, bnd_eq, hc0, ec_recorded (c := cH c1 0 H') (by omega) (show 0 ≤ c1.2.1 0 3 ∧ c1.2.1 0 3 ≤ 6 from hf) (show 0 ≤ c1.2.1 0 4 ∧ c1.2.1 0 4 ≤ 6 by omega), if_neg (by omega)]
        rfl
      · unfold fX7_days
        rw [hq2, cr_some, gd_pos (by omega), if_pos rfl, q2.1, cl_some, z2]
        rfl
      · rw [g0]
        exact ⟨z3.1, z3.2.1, z3.2.2.mono (by omega)⟩
      · rw [g0]
        exact z4.f
      · rw [g0, e10, z5]
        exact i4
      · rw [e10]
        exact h8.mono (by omega) (by omega) (Int.le_refl _)
    · refine err (-5) (by omega) (by omega) ?_ ?_
      · unfold fX2_errorOfDays
        rw [ev_btT (by omega), cr_some, gd_pos (by omega), if_neg (by omega), gd_pos (by omega), if_neg g2]
      · unfold fX7_checksDays
        rw [gd_pos (by omega), ev_inT (by omega), cr_some, gd_pos (by omega), if_neg (by omega), ev_today, cr_some, e0, gd_pos (by omega), if_neg g2]
  · refine err (-2) (by omega) (by omega) ?_ ?_
    · unfold fX2_errorOfDays
      rw [ev_btF (by omega), cr_some, gd_pos (by omega), if_pos rfl]
    · unfold fX7_checksDays
      rw [gd_pos (by omega), ev_inF (by omega), cr_some, gd_pos (by omega), if_pos rfl]

/-! ===== carryOut keeps it ===== -/
theorem Inv.text {T C To : Int} {c : cR} {m m' : mR} {p' : Int → Int → Int} (I : Inv T C To c m) (hp : padR (cP c p') m') (f : mF6 m m') : Inv T C To (cP c p') m' := by
  obtain ⟨i1, i2, i3, i4, i5⟩ := I
  have e10 := f.2.2 10 (by omega)
  have h8 : HistR T C (9 * To - m.1 6 10) (cP c p') m' := i5.fr (fun k _ => rfl) (i5.2.2.2.2.2 0 (by omega)) (i5.2.2.2.2.2 1 (by omega)) rfl (fun l hl => rowEq.of (f.1 2 (by omega)) (f.1 3 (by omega)) (by rw [f.2.1])) (f.1 4 (by omega)) (f.2.2 7 (by omega))
  exact ⟨i1.text f, i2, hp, by rw [e10]; exact i4, by rw [e10]; exact h8⟩
theorem iv_carryOut {T C To : Int} {c : cR} {m : mR} (hT : 0 ≤ T ∧ T ≤ 99900) (hC : 0 ≤ C ∧ C + 1 + To ≤ 512) (I : Inv T C To c m) : stepI T C To (fX6_carryOut c) (fX7_carryOut m) := by
  obtain ⟨k, e, p', m', a1, a2, a3, a4, a5, a6, a7, a8⟩ := tx_fault I.2.2.1
  have I2 := I.text a6 a7
  have hL := I.2.2.1.2.1
  rcases a3 with rfl | ⟨rfl, hS⟩
  · refine Inv.step (r := -3) (c' := cP c p') (m' := m') ?_ ?_ (by omega) (I2.mono (by omega) (Int.le_refl C) (Int.le_refl To)) (by omega)
    · unfold fX6_carryOut
      rw [a1, cl_some, bnd_eq, gd_pos (by omega), if_pos rfl]
    · unfold fX7_carryOut
      rw [a2, if_pos rfl, cl_some, gd_pos (by omega), if_neg (by omega)]
  · obtain ⟨i1, i2, i3, i4, i5⟩ := I2
    have i2d := i2.d
    obtain ⟨c1, m1, q1, q2, q3, q4, q5, q6, q7, q8⟩ := hist_rec i5 i1 i2 (by omega)
    have e10 : m'.1 6 10 = m.1 6 10 := a7.2.2 10 (by omega)
    have e5 : m'.1 5 = m.1 5 := a7.1 5 (by omega)
    have hs : okT (fun j => m.1 5 j) (m.1 6 10) := I.2.2.1.t.1
    have hL0 : 0 < m.1 6 10 := by
      obtain ⟨b, v, f, ⟨w1, -, -⟩, -⟩ := hS
      unfold actOut at w1
      omega
    have f1 : m1.1 6 10 = m.1 6 10 := (q3.2.2.2.2.2 10 (by omega)).trans e10
    have f5 : m1.1 5 = m.1 5 := q3.2.2.2.2.1.trans e5
    have hp : pT (fun j => m.1 5 j) (m.1 6 10) 0 (cP c1 (pS c1.2.2 0 2 0)).2.2 := by
      obtain ⟨w1, w2, w3⟩ := i3
      have ep : c1.2.2 = p' := by rw [q6]; rfl
      show pT _ _ 0 (pS c1.2.2 0 2 0)
      rw [ep]
      refine ⟨(pS_n _ (by omega)).trans (w1.trans e10), pS_p _ _ _ _, fun j hj => (pS_n _ (by omega)).trans ?_⟩
      have := (w3 j (by omega)).1
      rw [e5] at this
      exact this
    have hm : mT (fun j => m.1 5 j) (m.1 6 10) 0 (mS m1 6 11 0) := ⟨(mS_n _ (by omega)).trans f1, mS_p _ _ _ _, fun j hj => (mS_n _ (by omega)).trans (by rw [f5])⟩
    have hsim : Sim T ((cP c1 (pS c1.2.2 0 2 0)).1 0) (mS m1 6 11 0) := by
      show Sim T (c1.1 0) _
      rw [q4]
      exact (i1.rec q2).text (mF6.s m1 (by omega))
    have hX : okXd (C + 1) ((cP c1 (pS c1.2.2 0 2 0)).1 0) := by
      show okXd (C + 1) (c1.1 0)
      rw [q4]
      exact i2d
    have hO : 9 * ((cP c1 (pS c1.2.2 0 2 0)).1 0).1 0 5 0 + (m.1 6 10 - 0) ≤ 9 * To := by
      show 9 * (c1.1 0).1 0 5 0 + _ ≤ _
      rw [q4]
      have i4' : 9 * ((cP c p').1 0).1 0 5 0 + m'.1 6 10 ≤ 9 * To := i4
      omega
    obtain ⟨r, c9, m9, z1, z2, z3, z4, z5, z6, z7, z8, z9⟩ := ls_carry hs (C := C + 1) (To := To) (by omega) 81 fuel0 fuel0 0 0 0 T (cP c1 (pS c1.2.2 0 2 0)) (mS m1 6 11 0) hS (by decide) (by decide) (by omega) hL0 (by omega) (by omega) (by omega) hT.1 (by omega) hp hm hsim hX hO
    have z6 : ∀ k : Int, ¬ k = 0 → c9.1 k = c1.1 k := z6
    have z7 : c9.2.1 = c1.2.1 := z7
    obtain ⟨v1, v2, v3, v4, v5, v6⟩ := z8
    have hf := q7.1
    have hf4 : c1.2.1 0 4 = m'.1 6 7 := q7.2.1
    have hf7 := q7.2.2.1
    have hfT : (cP c9 (pS c9.2.2 0 1 0)).2.1 = c1.2.1 := z7
    have g1 : (rcd (cP c9 (pS c9.2.2 0 1 0))).1 = c9.1 := by rw [rcd_1]; rfl
    have gp : (rcd (cP c9 (pS c9.2.2 0 1 0))).2.2 = pS c9.2.2 0 1 0 := by rw [rcd_p]; rfl
    have t0 : ∀ t : Int, ¬ t = 6 → (mS m9 6 10 0).1 t = m9.1 t := fun t q => mS_t _ _ _ q
    have s0 : Sim (T + 81) ((rcd (cP c9 (pS c9.2.2 0 1 0))).1 0) (mS m9 6 10 0) := by
      rw [g1]
      have z4 : Sim (T + 81) (c9.1 0) m9 := z4
      exact ⟨z4.1.oth (t0 0 (by omega)) (t0 1 (by omega)) rfl, by rw [t0 0 (by omega)]; exact z4.2.1, z4.2.2⟩
    have h8 : HistR T C (9 * To - m'.1 6 10) (rcd (cP c9 (pS c9.2.2 0 1 0))) (mS m9 6 10 0) := by
      refine q8.fr (fun k hk => ?_) (fc_room s0.2.2) ?_ (rcd_t hfT) (fun l hl => rowEq.of ?_ ?_ ?_) ?_ ?_
      · rw [g1, rcd_1 c1]
        exact z6 k (by omega)
      · rw [g1, z6 1 (by omega)]
        exact q7.2.2.2.2.2 1 (by omega)
      · rw [t0 2 (by omega), v1, mS_t _ _ _ (by omega)]
      · rw [t0 3 (by omega), v2, mS_t _ _ _ (by omega)]
      · exact v3
      · rw [t0 4 (by omega), v4, mS_t _ _ _ (by omega)]
      · rw [mS_n _ (by omega), v6 7 (by omega) (by omega), mS_n _ (by omega)]
    have e0 : (mS m9 6 10 0).1 6 10 = 0 := mS_p _ _ _ _
    refine ⟨r, rcd (cP c9 (pS c9.2.2 0 1 0)), mS m9 6 10 0, ?_, ?_, by omega, C + 1, To, by omega, Inv.mono (T := T + 81) (C := C + 1) (To := To) ⟨s0, ?_, ⟨?_, by rw [e0]; omega, fun j hj => ?_⟩, ?_, ?_⟩ (by omega) (Int.le_refl _) (Int.le_refl _)⟩
    · unfold fX6_carryOut
      rw [a1, cl_some, bnd_eq, gd_pos (by omega), if_neg (by omega), q1, cl_some, bnd_eq, z1]
      unfold fX6_carryOut_b96
      rw [bnd_eq, ec_recorded (c := cP c9 (pS c9.2.2 0 1 0)) (by omega) (by rw [hfT]; exact hf) (by rw [hfT]; omega), if_neg (by omega)]
      rfl
    · unfold fX7_carryOut
      rw [a2, if_neg (by omega), cl_some, gd_pos (by omega), if_pos rfl, q2.1, cl_some, bnd_eq, z2]
    · rw [g1]
      exact z5.f
    · rw [gp, pS_p, e0]
    · rw [e0] at hj
      omega
    · rw [g1, e0]
      omega
    · rw [e0]
      exact h8.mono (by omega) (by omega) (by omega)

/-! ===== what every call keeps ===== -/
def Inv (T C To : Int) (c : cR) (m : mR) : Prop :=
  Sim T (c.1 0) m ∧ okXf C (c.1 0) ∧ padR c m ∧ 9 * (c.1 0).1 0 5 0 + m.1 6 10 ≤ 9 * To ∧ HistR T C (9 * To - m.1 6 10) c m
theorem Inv.mono {T C To T' C' To' : Int} {c : cR} {m : mR} (h : Inv T C To c m) (hT : T ≤ T') (hC : C ≤ C') (hTo : To ≤ To') : Inv T' C' To' c m := by
  obtain ⟨h1, h2, h3, h4, h5⟩ := h
  exact ⟨⟨h1.1, h1.2.1, h1.2.2.mono hT⟩, h2.mono hC, h3, by omega, h5.mono hT hC (by omega)⟩
theorem rcd_1 (c : cR) : (rcd c).1 = c.1 := by
  unfold rcd
  split <;> rfl
theorem rcd_p (c : cR) : (rcd c).2.2 = c.2.2 := by
  unfold rcd
  split <;> rfl
theorem rcd_t {c c' : cR} (h : c'.2.1 = c.2.1) : (rcd c').2.1 = (rcd c).2.1 := by
  unfold rcd
  rw [h]
  split
  · show up2 c'.2.1 0 3 _ = up2 c.2.1 0 3 _
    rw [h]
  · show up2 c'.2.1 0 4 _ = up2 c.2.1 0 4 _
    rw [h]
theorem rowEq.of {l : Int} {m m' : mR} (h2 : m'.1 2 = m.1 2) (h3 : m'.1 3 = m.1 3) (h1 : m'.2 1 = m.2 1) : rowEq l l m m' := by
  refine ⟨fun j _ => ?_, fun j _ => ?_, fun j _ => ?_⟩
  · unfold rowN
    rw [h2]
  · unfold rowO
    rw [h1]
  · unfold rowW
    rw [h3]
theorem padR.fr {c c' : cR} {m m' : mR} (h : padR c m) (hp : c'.2.2 = c.2.2) (h5 : m'.1 5 = m.1 5) (h10 : m'.1 6 10 = m.1 6 10) : padR c' m' := by
  unfold padR
  rw [hp, h5, h10]
  exact h
/-- a call that changes the house -/
theorem inv_call {T C To C' To' : Int} {c : cR} {m : mR} {F : hR → Option (Int × hR)} {R : Option (Int × mR)} (I : Inv T C To c m) (hk : callOK T (c.1 0) m (F (c.1 0)) R) (hC : C ≤ C') (hTo : To ≤ To') (hx : Pst (fun p => okXf C' p.2 ∧ 9 * p.2.1 0 5 0 + m.1 6 10 ≤ 9 * To') (F (c.1 0))) :
    ∃ r c' m', (cl (fX6_remember c) fun _ c1 => cl (F (c1.1 0)) fun r11 t11 => bnd (cH c1 0 t11) fun c11 => cl (fX6_recorded r11 c11) fun r14 c14 => some (r14, c14)) = some (r, c') ∧ R = some (r, m') ∧ wR r ∧ Inv (T + 1) C' To' c' m' := by
  obtain ⟨i1, i2, i3, i4, i5⟩ := I
  obtain ⟨c1, m1, q1, q2, q3, q4, q5, q6, q7, q8⟩ := hist_rec i5 i1 i2 (by omega)
  obtain ⟨r, H', e1, hr, e2⟩ := hk
  obtain ⟨x1, x2⟩ := hx _ e1
  have hc0 : (cH c1 0 H').1 0 = H' := by
    show up1 c1.1 0 H' 0 = H'
    exact up1_p _ _ _
  have hcn : ∀ k : Int, ¬ k = 0 → (cH c1 0 H').1 k = c1.1 k := fun k q => up1_n _ _ q
  have hf := q7.1
  have hf4 : c1.2.1 0 4 = m.1 6 7 := q7.2.1
  have hf7 := q7.2.2.1
  have er : (cl (fX6_remember c) fun _ c1 => cl (F (c1.1 0)) fun r11 t11 => bnd (cH c1 0 t11) fun c11 => cl (fX6_recorded r11 c11) fun r14 c14 => some (r14, c14)) = some (r, if -5 ≤ r ∧ r ≤ -1 then cH c1 0 H' else rcd (cH c1 0 H')) := by
    rw [q1, cl_some, q4, e1, cl_some, bnd_eq, ec_recorded (c := cH c1 0 H') hr (show 0 ≤ c1.2.1 0 3 ∧ c1.2.1 0 3 ≤ 6 from hf) (show 0 ≤ c1.2.1 0 4 ∧ c1.2.1 0 4 ≤ 6 by omega)]
    rfl
  have room1 : roomOK ((c1.1 1).1 4 1 0) := q7.2.2.2.2.2 1 (by omega)
  rcases e2 with ⟨r1, r1', rfl, r3⟩ | ⟨r1, r2⟩
  · rw [if_pos (by omega)] at er
    refine ⟨r, cH c1 0 (c.1 0), m, er, r3, hr, ?_⟩
    refine ⟨?_, ?_, i3.fr (by show c1.2.2 = _; rw [q6]) rfl rfl, ?_, ((q7.fr (fun k hk => hcn k (by omega)) ?_ ?_ rfl (fun l hl => rowEq.of rfl rfl rfl) rfl rfl).mono (by omega) hC (by omega))⟩
    · rw [hc0]
      exact ⟨i1.1, i1.2.1, i1.2.2.mono (by omega)⟩
    · rw [hc0]
      exact x1
    · rw [hc0]
      exact x2
    · rw [hc0]
      exact fc_room i1.2.2
    · rw [hcn 1 (by omega)]
      exact room1
  · obtain ⟨m', w1, w2, w3⟩ := r2 m1 q2
    obtain ⟨v1, v2, v3, v4, v5, v6⟩ := w3
    have e10 : m'.1 6 10 = m.1 6 10 := (v6 10 (by omega)).trans (q3.2.2.2.2.2 10 (by omega))
    have e5 : m'.1 5 = m.1 5 := v5.trans q3.2.2.2.2.1
    rw [if_neg r1] at er
    refine ⟨r, rcd (cH c1 0 H'), m', er, w1, hr, ?_⟩
    have g0 : (rcd (cH c1 0 H')).1 0 = H' := by rw [rcd_1, hc0]
    refine ⟨by rw [g0]; exact w2, by rw [g0]; exact x1, i3.fr (by rw [rcd_p]; show c1.2.2 = _; rw [q6]) e5 e10, by rw [g0, e10]; exact x2, ?_⟩
    rw [e10]
    have hk' : ∀ k : Int, 2 ≤ k ∧ k ≤ 10 → (rcd (cH c1 0 H')).1 k = (rcd c1).1 k := fun k hk => by
      rw [rcd_1 c1, rcd_1 (cH c1 0 H')]
      exact hcn k (by omega)
    have h8 : HistR T C (9 * To - m.1 6 10) (rcd (cH c1 0 H')) m' := q8.fr hk' (by rw [g0]; exact fc_room w2.2.2) (by rw [rcd_1 (cH c1 0 H'), hcn 1 (by omega)]; exact room1) (rcd_t rfl) (fun l hl => rowEq.of v1 v2 v3) v4 (v6 7 (by omega))
    exact h8.mono (by omega) hC (by omega)

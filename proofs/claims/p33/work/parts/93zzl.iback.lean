/-! ===== undo, save, restore keep it ===== -/
theorem live.size {T C B : Int} {H : hR} {N W : Int → Int} {O : Int → UInt64} (h : live T C B H N W O) : 0 ≤ N 4 ∧ N 4 ≤ 8400 ∧ N 4 = H.1 4 2 0 := by
  have k1 := h.1.2.2.1
  unfold okN at k1
  have g5 := h.1.1.1.2.2.2.2.1
  omega
/-- a kept state comes back -/
theorem live.back {T C B k : Int} {H H1 : hR} {m m' : mR} (h : live T C B H (rowN k m) (rowW k m) (rowO k m)) (c : copyR H H1) (b : backFrom k m m') : Sim T H1 m' ∧ okXf C H1 ∧ 9 * H1.1 0 5 0 ≤ B := by
  obtain ⟨h1, h2, h3⟩ := h
  obtain ⟨b1, b2, b3, b4, b5⟩ := b
  have := (h1.copy c).cells (N' := m'.1 0) (W' := m'.1 1) (O' := m'.2 0) b3 b5 b4
  exact ⟨this, h2.copy h1.2.2 c, by rw [c.1 5 (by omega)]; exact h3⟩
theorem iv_undo {T C To : Int} {c : cR} {m : mR} (I : Inv T C To c m) : stepI T C To (fX6_undo c) (fX7_undo m) := by
  have I0 := I
  obtain ⟨i1, i2, i3, i4, a1, a2, a3, a4, a5, a6⟩ := I
  by_cases g : m.1 6 7 = 0
  · refine Inv.step (r := -5) (c' := c) (m' := m) ?_ ?_ (by omega) (I0.mono (by omega) (Int.le_refl C) (Int.le_refl To)) (by omega)
    · unfold fX6_undo
      rw [gd_pos (by omega), if_pos (by omega)]
    · unfold fX7_undo
      rw [gd_pos (by omega), if_pos g]
  · have hl := a4 (m.1 6 7 - 1) (by omega)
    have hz := hl.size
    obtain ⟨H1, f1, f2⟩ := ec_copy (H2 := c.1 (2 + (c.2.1 0 3 + (m.1 6 7 - 1)) % 7)) (H := c.1 0) hl.1.2.2.copyP.1 hl.1.2.2.copyP.2 (fc_room i1.2.2)
    have e67 : (mS m 6 7 (m.1 6 7 - 1)).1 6 7 = m.1 6 7 - 1 := mS_p _ _ _ _
    have hre : rowEq (m.1 6 7 - 1) (m.1 6 7 - 1) m (mS m 6 7 (m.1 6 7 - 1)) := rowEq.of (mS_t _ _ _ (by omega)) (mS_t _ _ _ (by omega)) rfl
    have hl2 := hl.cells hre
    have hz2 := hl2.size
    obtain ⟨m', b1, b2⟩ := em_brings (k := m.1 6 7 - 1) (m := mS m 6 7 (m.1 6 7 - 1)) (by omega) (by omega)
    obtain ⟨w1, w2, w3⟩ := hl2.back f2 b2
    have e : ∀ t : Int, ¬ t = 0 → ¬ t = 1 → m'.1 t = (mS m 6 7 (m.1 6 7 - 1)).1 t := b2.1
    have e7 : m'.1 6 7 = m.1 6 7 - 1 := by rw [e 6 (by omega) (by omega), e67]
    have e6 : ∀ k : Int, ¬ k = 7 → m'.1 6 k = m.1 6 k := fun k q => by rw [e 6 (by omega) (by omega), mS_n _ (by omega)]
    have et : ∀ t : Int, ¬ t = 0 → ¬ t = 1 → ¬ t = 6 → m'.1 t = m.1 t := fun t q1 q2 q3 => (e t q1 q2).trans (mS_t _ _ _ q3)
    have ed : m'.2 1 = m.2 1 := b2.2.1 1 (by omega)
    have hr : ∀ l : Int, rowEq l l m m' := fun l => rowEq.of (et 2 (by omega) (by omega) (by omega)) (et 3 (by omega) (by omega) (by omega)) ed
    have z3 : (cT c 0 4 (c.2.1 0 4 - 1)).2.1 0 3 = c.2.1 0 3 := cT_n _ (by omega)
    have z4 : (cT c 0 4 (c.2.1 0 4 - 1)).2.1 0 4 = c.2.1 0 4 - 1 := cT_p _ _ _ _
    have zs : ∀ s : Int, (cT c 0 4 (c.2.1 0 4 - 1)).2.1 1 s = c.2.1 1 s := fun s => cT_n _ (by omega)
    have hc0 : (cH (cT c 0 4 (c.2.1 0 4 - 1)) 0 H1).1 0 = H1 := by
      show up1 c.1 0 H1 0 = H1
      exact up1_p _ _ _
    have hcn : ∀ k : Int, ¬ k = 0 → (cH (cT c 0 4 (c.2.1 0 4 - 1)) 0 H1).1 k = c.1 k := fun k q => up1_n _ _ q
    have z3' : (cH (cT c 0 4 (c.2.1 0 4 - 1)) 0 H1).2.1 0 3 = c.2.1 0 3 := z3
    have z4' : (cH (cT c 0 4 (c.2.1 0 4 - 1)) 0 H1).2.1 0 4 = c.2.1 0 4 - 1 := z4
    have zs' : ∀ s : Int, (cH (cT c 0 4 (c.2.1 0 4 - 1)) 0 H1).2.1 1 s = c.2.1 1 s := zs
    have e10 := e6 10 (by omega)
    refine Inv.step (r := m.1 6 7 - 1) (c' := cH (cT c 0 4 (c.2.1 0 4 - 1)) 0 H1) (m' := m') (C' := C) (To' := To) ?_ ?_ (by omega) ?_ (by omega)
    · unfold fX6_undo fX6_rowBehindLatest
      rw [gd_pos (by omega), if_neg (by omega), bnd_eq, z3, z4, gd_pos (by omega), cr_some, rmI_pos (by omega), gd_pos (by omega)]
      show cl (fX2_copyFrom (c.1 (2 + (c.2.1 0 3 + (c.2.1 0 4 - 1)) % 7)) (c.1 0)) _ = _
      rw [a2, f1, cl_some, bnd_eq, ← a2, z4']
    · unfold fX7_undo
      rw [gd_pos (by omega), if_neg g, bnd_eq, e67, b1, cl_some, e7]
    · refine Inv.mono (T := T) (C := C) (To := To) ⟨by rw [hc0]; exact w1, by rw [hc0]; exact w2, i3.fr rfl (et 5 (by omega) (by omega) (by omega)) e10, by rw [hc0, e10]; omega, ⟨by rw [z3']; exact a1, by rw [z4', e7]; omega, by omega, fun i hi => ?_, fun s hs => ?_, fun k hk => ?_⟩⟩ (by omega) (Int.le_refl _) (Int.le_refl _)
      · rw [z3', hcn _ (by omega), e10]
        exact (a4 i (by omega)).cells (hr i)
      · rw [zs', et 4 (by omega) (by omega) (by omega), hcn _ (by omega), e10]
        exact ⟨(a5 s hs).1, (a5 s hs).2.1, fun q => ((a5 s hs).2.2 q).cells (hr _)⟩
      · by_cases g0 : k = 0
        · rw [g0, hc0]
          exact fc_room w1.2.2
        · rw [hcn k g0]
          exact a6 k hk
theorem iv_save {T C To s : Int} {c : cR} {m : mR} (I : Inv T C To c m) (hs : wR s) : stepI T C To (fX6_save s c) (fX7_save s m) := by
  have I0 := I
  obtain ⟨i1, i2, i3, i4, a1, a2, a3, a4, a5, a6⟩ := I
  have ks := i1.2.2.2.1
  unfold okS at ks
  have k1 := i1.2.2.1
  unfold okN at k1
  have e0 : m.1 0 0 = (c.1 0).1 0 6 0 := i1.1.1.1
  have e4 := i1.1.1.2.2.2.2.1
  by_cases g : 0 ≤ s ∧ s ≤ 1
  · obtain ⟨H1, f1, f2⟩ := ec_copy (H2 := c.1 0) (H := c.1 (9 + s)) i1.2.2.copyP.1 i1.2.2.copyP.2 (a6 _ (by omega))
    obtain ⟨m1, b1, b2⟩ := em_keeps (k := 6 + s) (m := m) (by omega) (by omega)
    have b2' := b2
    obtain ⟨w1, w2, w3, w4, w5, w6, w7, w8⟩ := b2'
    have hcs : (cT (cH c (9 + s) H1) 1 s 1).1 (9 + s) = H1 := by
      show up1 c.1 (9 + s) H1 (9 + s) = H1
      exact up1_p _ _ _
    have hcn : ∀ k : Int, ¬ k = 9 + s → (cT (cH c (9 + s) H1) 1 s 1).1 k = c.1 k := fun k q => up1_n _ _ q
    have z0 : ∀ k : Int, (cT (cH c (9 + s) H1) 1 s 1).2.1 0 k = c.2.1 0 k := fun k => cT_n _ (by omega)
    have z1 : (cT (cH c (9 + s) H1) 1 s 1).2.1 1 s = 1 := cT_p _ _ _ _
    have zn : ∀ s' : Int, ¬ s' = s → (cT (cH c (9 + s) H1) 1 s 1).2.1 1 s' = c.2.1 1 s' := fun s' q => cT_n _ (by omega)
    have hr : ∀ l : Int, 0 ≤ l → ¬ l = 6 + s → rowEq l l m (mS m1 4 s 1) := fun l h0 q => by
      have := b2.row (l := l) h0 (by omega) q
      exact this.tr (rowEq.of (mS_t _ _ _ (by omega)) (mS_t _ _ _ (by omega)) rfl)
    have hnew : live T C (9 * To - m.1 6 10) H1 (rowN (6 + s) (mS m1 4 s 1)) (rowW (6 + s) (mS m1 4 s 1)) (rowO (6 + s) (mS m1 4 s 1)) := by
      have hN : SimN T (c.1 0) (m.1 0) (m.1 1) (m.2 0) := i1
      refine ⟨(hN.copy f2).cells (fun j hj => ?_) (fun j hj => ?_) (fun j hj => w7 j hj), i2.copy i1.2.2 f2, by rw [f2.1 5 (by omega)]; omega⟩
      · unfold rowN
        rw [mS_t _ _ _ (by omega)]
        exact w6 j hj
      · unfold rowW
        rw [mS_t _ _ _ (by omega)]
        exact w8 j hj
    have e6 : ∀ k : Int, (mS m1 4 s 1).1 6 k = m.1 6 k := fun k => by rw [mS_t _ _ _ (by omega), w1 6 (by omega) (by omega)]
    have c0 := hcn 0 (by omega)
    refine Inv.step (r := (c.1 0).1 0 6 0) (c' := cT (cH c (9 + s) H1) 1 s 1) (m' := mS m1 4 s 1) (C' := C) (To' := To) ?_ ?_ (by omega) ?_ (by omega)
    · unfold fX6_save
      rw [ev_btT (by omega), cr_some, gd_pos (by omega), if_neg (by omega), gd_pos (by omega), f1, cl_some, bnd_eq, gd_pos (by omega), bnd_eq, c0]
    · unfold fX7_save
      rw [gd_pos hs, ev_inT (by omega), cr_some, gd_pos (by omega), if_neg (by omega), b1, cl_some, gd_pos (by omega), bnd_eq, ev_today, cr_some, mS_t _ _ _ (by omega), w1 0 (by omega) (by omega), e0]
    · refine Inv.mono (T := T) (C := C) (To := To) ⟨by rw [c0]; exact ⟨i1.1.oth (by rw [mS_t _ _ _ (by omega), w1 0 (by omega) (by omega)]) (by rw [mS_t _ _ _ (by omega), w1 1 (by omega) (by omega)]) (w2 0 (by omega)), by rw [mS_t _ _ _ (by omega), w1 0 (by omega) (by omega)]; exact i1.2.1, i1.2.2⟩, by rw [c0]; exact i2, i3.fr rfl (by rw [mS_t _ _ _ (by omega), w1 5 (by omega) (by omega)]) (e6 10), by rw [c0, e6]; exact i4, ⟨by rw [z0]; exact a1, by rw [z0, e6]; exact a2, by rw [e6]; exact a3, fun i hi => ?_, fun s' hs' => ?_, fun k hk => ?_⟩⟩ (by omega) (Int.le_refl _) (Int.le_refl _)
      · rw [e6] at hi
        rw [z0, hcn _ (by omega), e6]
        exact (a4 i hi).cells (hr i (by omega) (by omega))
      · by_cases q : s' = s
        · subst q
          rw [z1, mS_p, hcs, e6]
          exact ⟨rfl, Or.inr rfl, fun _ => hnew⟩
        · rw [zn s' q, mS_n _ (by omega), w1 4 (by omega) (by omega), hcn _ (by omega), e6]
          exact ⟨(a5 s' hs').1, (a5 s' hs').2.1, fun z => ((a5 s' hs').2.2 z).cells (hr _ (by omega) (by omega))⟩
      · by_cases g0 : k = 9 + s
        · rw [g0, hcs]
          exact fc_room hnew.1.2.2
        · rw [hcn k g0]
          exact a6 k hk
  · refine Inv.step (r := -2) (c' := c) (m' := m) ?_ ?_ (by omega) (I0.mono (by omega) (Int.le_refl C) (Int.le_refl To)) (by omega)
    · unfold fX6_save
      rw [ev_btF (by omega), cr_some, gd_pos (by omega), if_pos rfl]
    · unfold fX7_save
      rw [gd_pos hs, ev_inF (by omega), cr_some, gd_pos (by omega), if_pos rfl]

/-! ===== what if: forecasts in step ===== -/
def fcM (m m' : mR) : Prop := (∀ t : Int, t = 4 ∨ t = 5 → m'.1 t = m.1 t) ∧ (∀ k : Int, ¬ k = 8 → m'.1 6 k = m.1 6 k) ∧ (∀ j : Int, j < 3016 → m'.1 2 j = m.1 2 j) ∧ (∀ j : Int, j < 67200 → m'.1 3 j = m.1 3 j) ∧ ∀ j : Int, j < 64 → m'.2 1 j = m.2 1 j
theorem fcM.rf (m : mR) : fcM m m := ⟨fun _ _ => rfl, fun _ _ => rfl, fun _ _ => rfl, fun _ _ => rfl, fun _ _ => rfl⟩
theorem fcM.tr {m m1 m2 : mR} (h : fcM m m1) (g : fcM m1 m2) : fcM m m2 :=
  ⟨fun t q => (g.1 t q).trans (h.1 t q), fun k q => (g.2.1 k q).trans (h.2.1 k q), fun j q => (g.2.2.1 j q).trans (h.2.2.1 j q), fun j q => (g.2.2.2.1 j q).trans (h.2.2.2.1 j q), fun j q => (g.2.2.2.2 j q).trans (h.2.2.2.2 j q)⟩
def fcR (T : Int) (c c' : cR) (m m' : mR) : Prop := (∀ k : Int, ¬ k = 1 → c'.1 k = c.1 k) ∧ c'.2 = c.2 ∧ roomOK ((c'.1 1).1 4 1 0) ∧ Sim T (c.1 0) m' ∧ fcM m m'
def fcOK (T : Int) (c : cR) (m : mR) (a : Option (Int × cR)) (b : Option (Int × mR)) : Prop := ∃ r c' m', a = some (r, c') ∧ b = some (r, m') ∧ wR64 r ∧ fcR T c c' m m'
theorem fcErr {T : Int} {c : cR} {m : mR} {a : Option (Int × cR)} {b : Option (Int × mR)} {r : Int} (h : Sim T (c.1 0) m) (hr : roomOK ((c.1 1).1 4 1 0)) (hw : wR64 r) (ha : a = some (r, c)) (hb : b = some (r, m)) : fcOK T c m a b := ⟨r, c, m, ha, hb, hw, fun _ _ => rfl, rfl, hr, h, fcM.rf m⟩
theorem Sim.kept {T k : Int} {H : hR} {m m1 : mR} (h : Sim T H m) (g : keptAt k m m1) : Sim T H m1 := by
  have e0 := g.1 0 (by omega) (by omega)
  have e1 := g.1 1 (by omega) (by omega)
  have e2 := g.2.1 0 (by omega)
  unfold Sim CorM at *
  rw [e0, e1, e2]
  exact h
theorem Sim.copy {T : Int} {H H' : hR} {m : mR} (h : Sim T H m) (c : copyR H H') : Sim T H' m := SimN.copy (N := m.1 0) (W := m.1 1) (O := m.2 0) h c
/-- the trial's beginning on both sides -/
theorem fc_start {T C : Int} {c : cR} {m : mR} (h : Sim T (c.1 0) m) (hX : okXf C (c.1 0)) (hr : roomOK ((c.1 1).1 4 1 0)) : ∃ H1 m1, fX2_copyFrom (c.1 0) (c.1 1) = some ((), H1) ∧ fX7_keeps 8 m = some ((), m1) ∧ keptAt 8 m m1 ∧ copyR (c.1 0) H1 ∧ Sim T H1 m1 ∧ okXd (C + 1) H1 := by
  obtain ⟨k1, k2⟩ := h.2.2.copyP
  have k1' := k1
  unfold okN at k1'
  have e4 := h.1.1.2.2.2.2.1
  obtain ⟨H1, a1, a2⟩ := ec_copy k1 k2 hr
  obtain ⟨m1, b1, b2⟩ := em_keeps (k := 8) (m := m) (by omega) (by omega)
  exact ⟨H1, m1, a1, b1, b2, a2, (h.kept b2).copy a2, (hX.copy h.2.2 a2).d⟩
theorem fc_back {T : Int} {H : hR} {m m1 m2 : mR} (h : Sim T H m) (k1 : keptAt 8 m m1) (r : rows6 m1 m2) : ∃ m3, fX7_brings 8 m2 = some ((), m3) ∧ Sim T H m3 ∧ fcM m m3 := by
  have k1' := h.2.2.1
  unfold okN at k1'
  have e4 := h.1.1.2.2.2.2.1
  obtain ⟨a1, a2, a3, a4, a5, a6, a7, a8⟩ := k1
  obtain ⟨r1, r2, r3⟩ := r
  have n1 : ∀ j : Int, rowN 8 m2 j = rowN 8 m1 j := fun j => by
    unfold rowN
    rw [r1 2 (by omega) (by omega) (by omega)]
  have n2 : ∀ j : Int, rowW 8 m2 j = rowW 8 m1 j := fun j => by
    unfold rowW
    rw [r1 3 (by omega) (by omega) (by omega)]
  have n3 : ∀ j : Int, rowO 8 m2 j = rowO 8 m1 j := fun j => by
    unfold rowO
    rw [r2]
  have n4 : rowN 8 m2 4 = m.1 0 4 := by rw [n1, a6 4 (by omega)]
  obtain ⟨m3, b1, b2, b3, b4, b5, b6⟩ := em_brings (k := 8) (m := m2) (by omega) (by rw [n4]; omega)
  refine ⟨m3, b1, SimN.cells (N := m.1 0) (W := m.1 1) (O := m.2 0) h (fun j hj => by rw [b4 j hj, n1, a6 j hj]) (fun j hj => by rw [b6 j (by rw [n4]; exact hj), n2, a8 j hj]) (fun j hj => by rw [b5 j hj, n3, a7 j hj]), ⟨fun t q => ?_, fun k q => ?_, fun j q => ?_, fun j q => ?_, fun j q => ?_⟩⟩
  · rw [b2 t (by omega) (by omega), r1 t (by omega) (by omega) (by omega), a1 t (by omega) (by omega)]
  · rw [b2 6 (by omega) (by omega), r3 k q, a1 6 (by omega) (by omega)]
  · rw [b2 2 (by omega) (by omega), r1 2 (by omega) (by omega) (by omega), a3 j (by omega)]
  · rw [b2 3 (by omega) (by omega), r1 3 (by omega) (by omega) (by omega), a4 j (by omega)]
  · rw [b3 1 (by omega), r2, a5 j (by omega)]
theorem cH_1 (c : cR) (H : hR) : (cH c 1 H).1 1 = H := by
  show up1 c.1 1 H 1 = H
  exact up1_p _ _ _
theorem cH_n (c : cR) (H : hR) {k : Int} (h : ¬ k = 1) : (cH c 1 H).1 k = c.1 k := up1_n _ _ h
theorem fc_room {T : Int} {H : hR} (h : Ok T H) : roomOK (H.1 4 1 0) := by
  have := h.1
  unfold okN at this
  exact this.2.2.2.2
theorem ls_balanceIn {T C a n : Int} {c : cR} {m : mR} (hT : 0 ≤ T ∧ T ≤ 100000) (hC : 0 ≤ C ∧ C + 1 + (c.1 0).1 0 5 0 ≤ 512) (h : Sim T (c.1 0) m) (hX : okXf C (c.1 0)) (hr : roomOK ((c.1 1).1 4 1 0)) (ha : wR a) (hn : wR n) : fcOK T c m (fX6_balanceIn a n c) (fX7_balanceIn a n m) := by
  have k1 := h.2.2.1
  unfold okN at k1
  have q2 := h.1.1.2.1
  by_cases g1 : 0 ≤ a ∧ a < (c.1 0).1 0 4 0
  · have hA1 : fX2_hasAccount a (c.1 0) = some 1 := by rw [ev_hasA (by omega), bI_t (decide_eq_true g1)]
    have hA2 : fX7_isAccount a m = some 1 := by rw [ev_isA (by omega), q2, bI_t (decide_eq_true g1)]
    by_cases g2 : 1 ≤ n ∧ n ≤ 400
    · obtain ⟨H1, m1, s1, s2, s3, s4, s5, s6⟩ := fc_start h hX hr
      have e5 : H1.1 0 5 0 = (c.1 0).1 0 5 0 := s4.1 5 (by omega)
      have e4 : H1.1 0 4 0 = (c.1 0).1 0 4 0 := s4.1 4 (by omega)
      obtain ⟨H2, m2, d1, d2, d3, d4, d5, d6, d7⟩ := ls_days (n := n) hT (C := C + 1) (by omega) (by omega) s5 s6
      obtain ⟨m3, b1, b2, b3⟩ := fc_back h s3 d7
      have ce := d3.1.at (a := a) (f := 3) (by omega) (by omega)
      have hm := d3.2.2.2.2.2.2.2.2.1 a (by omega) 3 (by omega)
      have ht := d3.2.2.2.1.1
      unfold monB at hm
      refine ⟨H2.1 2 a 3, cH (cH c 1 H1) 1 H2, m3, ?_, ?_, by omega, fun k hk => by rw [cH_n _ _ hk, cH_n _ _ hk], rfl, by rw [cH_1]; exact fc_room d3.2.2, b2, b3⟩
      · unfold fX6_balanceIn
        rw [hA1, cr_some, gd_pos (by omega), if_neg (by omega), ev_btT (by omega), cr_some, gd_pos (by omega), if_neg (by omega), s1, cl_some, bnd_eq, cH_1, d1, cl_some, bnd_eq, gd_pos (by omega), cH_1]
      · unfold fX7_balanceIn
        rw [hA2, cr_some, gd_pos (by omega), if_neg (by omega), gd_pos (by omega), ev_inT (by omega), cr_some, gd_pos (by omega), if_neg (by omega), s2, cl_some, d2, cl_some, ev_money (by omega), cr_some, b1, cl_some, Int.add_zero, ce]
    · refine fcErr (r := -2) h hr (by omega) ?_ ?_
      · unfold fX6_balanceIn
        rw [hA1, cr_some, gd_pos (by omega), if_neg (by omega), ev_btF (by omega), cr_some, gd_pos (by omega), if_pos rfl]
      · unfold fX7_balanceIn
        rw [hA2, cr_some, gd_pos (by omega), if_neg (by omega), gd_pos (by omega), ev_inF (by omega), cr_some, gd_pos (by omega), if_pos rfl]
  · have hA1 : fX2_hasAccount a (c.1 0) = some 0 := by rw [ev_hasA (by omega), bI_f (decide_eq_false g1)]
    have hA2 : fX7_isAccount a m = some 0 := by rw [ev_isA (by omega), q2, bI_f (decide_eq_false g1)]
    refine fcErr (r := -1) h hr (by omega) ?_ ?_
    · unfold fX6_balanceIn
      rw [hA1, cr_some, gd_pos (by omega), if_pos rfl]
    · unfold fX7_balanceIn
      rw [hA2, cr_some, gd_pos (by omega), if_pos rfl]
theorem ls_firstFailure {T C a : Int} {c : cR} {m : mR} (hT : 0 ≤ T ∧ T ≤ 100000) (hC : 0 ≤ C ∧ C + 1 + (c.1 0).1 0 5 0 ≤ 512) (h : Sim T (c.1 0) m) (hX : okXf C (c.1 0)) (hr : roomOK ((c.1 1).1 4 1 0)) (ha : wR a) : fcOK T c m (fX6_firstFailure a c) (fX7_firstFailure a m) := by
  have k1 := h.2.2.1
  unfold okN at k1
  have q2 := h.1.1.2.1
  obtain ⟨H1, m1, s1, s2, s3, s4, s5, s6⟩ := fc_start h hX hr
  have e5 : H1.1 0 5 0 = (c.1 0).1 0 5 0 := s4.1 5 (by omega)
  have key : ∀ w w' : Int, (∀ f : Int, 0 ≤ f ∧ f ≤ 255 → (andI f w = 0 ↔ andI f w' = 0)) → fcOK T c m (fX6_firstFailure_b50 400 w (cH c 1 H1)) (fX7_firstFailure_b38 w' m1) := by
    intro w w' hw
    obtain ⟨r, H2, m2, d1, d2, d3, d4, d5⟩ := ls_fails (n := 400) hT (C := C + 1) (by omega) (by omega) hw s5 s6
    obtain ⟨m3, b1, b2, b3⟩ := fc_back h s3 d5
    refine ⟨r, cH (cH c 1 H1) 1 H2, m3, ?_, ?_, by omega, fun k hk => by rw [cH_n _ _ hk, cH_n _ _ hk], rfl, by rw [cH_1]; exact fc_room d4.2.2, b2, b3⟩
    · unfold fX6_firstFailure_b50
      rw [cH_1, d1, cl_some, bnd_eq]
    · unfold fX7_firstFailure_b38
      rw [d2, cl_some, b1, cl_some]
  have ec : fX6_firstFailure_b19 a c = if a = -6 then fX6_firstFailure_b50 400 (-1) (cH c 1 H1) else fX6_firstFailure_b50 400 (shlI 1 a) (cH c 1 H1) := by
    unfold fX6_firstFailure_b19
    rw [s1, cl_some, bnd_eq, gd_pos ha]
  have em : fX7_firstFailure_b16 a m = if a = -6 then fX7_firstFailure_b38 255 m1 else fX7_firstFailure_b38 (shlI 1 a) m1 := by
    unfold fX7_firstFailure_b16
    rw [s2, cl_some, gd_pos ha]
  unfold fX6_firstFailure fX7_firstFailure
  rw [gd_pos ha, gd_pos ha, ec, em]
  by_cases g0 : a = -6
  · rw [if_pos g0, if_pos g0, if_pos g0, if_pos g0]
    exact key _ _ (fun f hf => watch_all hf)
  · rw [if_neg g0, if_neg g0, if_neg g0, if_neg g0]
    by_cases g1 : 0 ≤ a ∧ a < (c.1 0).1 0 4 0
    · rw [ev_hasA (by omega), ev_isA (by omega), q2, bI_t (decide_eq_true g1), cr_some, cr_some, gd_pos (by omega), gd_pos (by omega), if_neg (by omega), if_neg (by omega)]
      exact key _ _ (fun f hf => Iff.rfl)
    · rw [ev_hasA (by omega), ev_isA (by omega), q2, bI_f (decide_eq_false g1), cr_some, cr_some, gd_pos (by omega), gd_pos (by omega), if_pos rfl, if_pos rfl]
      exact fcErr (r := -1) h hr (by omega) rfl rfl
theorem Sim.plus {T a v : Int} {H : hR} {m : mR} (h : Sim T H m) (ha : 0 ≤ a ∧ a < H.1 0 4 0) (hv : 0 ≤ v ∧ v ≤ 100000) : Sim (T + 1) (hS H 2 a 3 (H.1 2 a 3 + v)) (mS m 0 (33 + 11 * a + 3) (H.1 2 a 3 + v)) := by
  have k1 := h.2.2.1
  have k1' := k1
  unfold okN at k1'
  obtain ⟨-, -, -, -, -, -, k7, k8⟩ := h.2.2
  refine ⟨h.1.acc k1 (by omega) (by omega), h.2.1.fr (hS_n H (by omega)) (fun o f q => hS_n H (by omega)) (fun k q => mS_n m (by omega)), h.2.2.money (fun t x y q => hS_n H (by omega)) (fun x hx f hf => ?_) (fun x hx => ?_)⟩
  · rw [hS_n H (by omega)] at hx
    have := k7 x hx f hf
    rw [hS_n H (show ¬ ((0 : Int) = 2 ∧ (6 : Int) = a ∧ (0 : Int) = 3) by omega), hS_1]
    unfold monB at *
    by_cases q : x = a ∧ f = 3
    · obtain ⟨q1, q2⟩ := q
      subst q1 q2
      rw [if_pos ⟨rfl, rfl, rfl⟩]
      omega
    · rw [if_neg (by omega)]
      omega
  · rw [hS_n H (by omega)] at hx
    obtain ⟨n, n1, n2, n3⟩ := k8 x hx
    rw [hS_n H (show ¬ ((0 : Int) = 2 ∧ (6 : Int) = a ∧ (0 : Int) = 3) by omega), hS_1]
    refine ⟨n, n1, n2, ?_⟩
    by_cases q : x = a
    · subst q
      rw [if_pos ⟨rfl, rfl, rfl⟩]
      omega
    · rw [if_neg (by omega)]
      exact n3
theorem okXp.acc {P C : Int} {H H' : hR} (h : okXp P C H) (hw : okW H) (hH : ∀ t x y : Int, ¬ t = 2 → H'.1 t x y = H.1 t x y) : okXp P C H' := by
  have hb : holB H' = holB H := by
    funext d
    unfold holB
    rw [hH _ _ _ (by omega)]
  exact h.fr hw (hH _ _ _ (by omega)) (hH _ _ _ (by omega)) (by rw [hb]) (hH _ _ _ (by omega)) (hH _ _ _ (by omega)) (fun c i _ _ => hH _ _ _ (by omega)) (fun o f _ _ => hH _ _ _ (by omega))
theorem okXd.acc {C : Int} {H H' : hR} (h : okXd C H) (hw : okW H) (hH : ∀ t x y : Int, ¬ t = 2 → H'.1 t x y = H.1 t x y) : okXd C H' := by
  have := okXp.acc (P := phW ((H.1 0 6 0 + H.1 1 2 0) % 7)) h hw hH
  unfold okXd
  have e : zX C H' = zP (phW ((H.1 0 6 0 + H.1 1 2 0) % 7)) C H' := by
    unfold zX zP
    rw [hH 0 6 0 (by omega), hH 1 2 0 (by omega)]
  rw [e]
  exact this
theorem ls_least {T C a n : Int} {c0 : cR} {m0 : mR} (hT : 0 ≤ T ∧ T ≤ 99999) (hC : 0 ≤ C ∧ C + 1 + (c0.1 0).1 0 5 0 ≤ 512) (hX : okXf C (c0.1 0)) (ha : 0 ≤ a ∧ a < (c0.1 0).1 0 4 0) (hn : 1 ≤ n ∧ n ≤ 100) : ∀ (k fC fM : Nat) (x : Int) (c : cR) (m : mR), x + 5000 * k = 105000 → 0 ≤ x → k < fC → k < fM → fcR T c0 c m0 m → fcOK T c0 m0 (fX6_leastDeposit_b28 fC a n x c) (fX7_leastDeposit_b27 fM a n x m)
  | k, 0, _, _, _, _, _, _, h, _, _ => by omega
  | k, _ + 1, 0, _, _, _, _, _, _, h, _ => by omega
  | 0, fC + 1, fM + 1, x, c, m, h1, h2, _, _, h => by
    refine ⟨-6, c, m, ?_, ?_, by omega, h⟩
    · rw [fX6_leastDeposit_b28, gd_pos (by omega), if_pos (by omega)]
    · rw [fX7_leastDeposit_b27, gd_pos (by omega), if_pos (by omega)]
  | k + 1, fC + 1, fM + 1, x, c, m, h1, h2, h3, h4, h => by
    obtain ⟨f1, f2, f3, f4, f5⟩ := h
    have e0 : c.1 0 = c0.1 0 := f1 0 (by omega)
    have k1 := f4.2.2.1
    unfold okN at k1
    obtain ⟨H1, m1, s1, s2, s3, s4, s5, s6⟩ := fc_start (c := c) (m := m) (T := T) (C := C) (by rw [e0]; exact f4) (by rw [e0]; exact hX) f3
    rw [e0] at s4
    have e5 : H1.1 0 5 0 = (c0.1 0).1 0 5 0 := s4.1 5 (by omega)
    have e4 : H1.1 0 4 0 = (c0.1 0).1 0 4 0 := s4.1 4 (by omega)
    have s7 := s5.plus (a := a) (v := x) (by omega) (by omega)
    have s8 := s6.acc (H' := hS H1 2 a 3 (H1.1 2 a 3 + x)) s5.2.2.2.2.2.2.1 (fun t y z q => hS_n H1 (by omega))
    have ce := s5.1.at (a := a) (f := 3) (by omega) (by omega)
    have e5' : (hS H1 2 a 3 (H1.1 2 a 3 + x)).1 0 5 0 = H1.1 0 5 0 := hS_n H1 (by omega)
    obtain ⟨r, H2, m2, d1, d2, d3, d4, d5⟩ := ls_fails (T := T + 1) (C := C + 1) (n := n) (w := shlI 1 a) (w' := shlI 1 a) (by omega) (by omega) (by omega) (fun f hf => Iff.rfl) s7 s8
    have r6 : rows6 m1 (mS m1 0 (33 + 11 * a + 3) (H1.1 2 a 3 + x)) := ⟨fun t q _ _ => mS_t m1 _ _ q, rfl, fun k _ => mS_n m1 (by omega)⟩
    obtain ⟨m3, b1, b2, b3⟩ := fc_back (H := c0.1 0) f4 s3 (r6.tr d5)
    have hc2 : fcR T c0 (cH (cH (cH c 1 H1) 1 (hS H1 2 a 3 (H1.1 2 a 3 + x))) 1 H2) m0 m3 := ⟨fun k hk => by rw [cH_n _ _ hk, cH_n _ _ hk, cH_n _ _ hk]; exact f1 k hk, f2, by rw [cH_1]; exact fc_room d4.2.2, b2, f5.tr b3⟩
    have ec : fX6_leastDeposit_b28 (fC + 1) a n x c = if r = -6 then some (x, cH (cH (cH c 1 H1) 1 (hS H1 2 a 3 (H1.1 2 a 3 + x))) 1 H2) else fX6_leastDeposit_b28 fC a n (x + 5000) (cH (cH (cH c 1 H1) 1 (hS H1 2 a 3 (H1.1 2 a 3 + x))) 1 H2) := by
      rw [fX6_leastDeposit_b28, gd_pos (by omega), if_neg (by omega), s1, cl_some, bnd_eq, gd_pos (by omega), gd_pos (by omega), cH_1, bnd_eq, cH_1, d1, cl_some, bnd_eq, gd_pos d3]
    have em : fX7_leastDeposit_b27 (fM + 1) a n x m = if r = -6 then some (x, m3) else fX7_leastDeposit_b27 fM a n (x + 5000) m3 := by
      rw [fX7_leastDeposit_b27, gd_pos (by omega), if_neg (by omega), s2, cl_some, gd_pos (by omega), ev_moves (by omega) (by omega), cl_some, show (3 : Int) + 0 = 3 from rfl, ce, d2, cl_some, b1, cl_some, gd_pos d3]
    rw [ec, em]
    by_cases g : r = -6
    · rw [if_pos g, if_pos g]
      exact ⟨x, _, m3, rfl, rfl, by omega, hc2⟩
    · rw [if_neg g, if_neg g]
      exact ls_least hT hC hX ha hn k fC fM (x + 5000) _ m3 (by omega) (by omega) (by omega) (by omega) hc2
theorem ls_leastDeposit {T C a n : Int} {c : cR} {m : mR} (hT : 0 ≤ T ∧ T ≤ 99999) (hC : 0 ≤ C ∧ C + 1 + (c.1 0).1 0 5 0 ≤ 512) (h : Sim T (c.1 0) m) (hX : okXf C (c.1 0)) (hr : roomOK ((c.1 1).1 4 1 0)) (ha : wR a) (hn : wR n) : fcOK T c m (fX6_leastDeposit a n c) (fX7_leastDeposit a n m) := by
  have k1 := h.2.2.1
  unfold okN at k1
  have q2 := h.1.1.2.1
  unfold fX6_leastDeposit fX7_leastDeposit
  by_cases g1 : 0 ≤ a ∧ a < (c.1 0).1 0 4 0
  · rw [ev_hasA (by omega), ev_isA (by omega), q2, bI_t (decide_eq_true g1), cr_some, cr_some, gd_pos (by omega), gd_pos (by omega), if_neg (by omega), if_neg (by omega), gd_pos hn]
    by_cases g2 : 1 ≤ n ∧ n ≤ 100
    · rw [ev_btT (by omega), ev_inT (by omega), cr_some, cr_some, gd_pos (by omega), gd_pos (by omega), if_neg (by omega), if_neg (by omega)]
      exact ls_least hT hC hX g1 g2 21 fuel0 fuel0 0 c m (by omega) (by omega) (by decide) (by decide) ⟨fun _ _ => rfl, rfl, hr, h, fcM.rf m⟩
    · rw [ev_btF (by omega), ev_inF (by omega), cr_some, cr_some, gd_pos (by omega), gd_pos (by omega), if_pos rfl, if_pos rfl]
      exact fcErr (r := -2) h hr (by omega) rfl rfl
  · rw [ev_hasA (by omega), ev_isA (by omega), q2, bI_f (decide_eq_false g1), cr_some, cr_some, gd_pos (by omega), gd_pos (by omega), if_pos rfl, if_pos rfl]
    exact fcErr (r := -1) h hr (by omega) rfl rfl
theorem ls_ahead {T C o n w : Int} {c : cR} {m : mR} (hT : 0 ≤ T ∧ T ≤ 100000) (hC : 0 ≤ C ∧ C + 1 + (c.1 0).1 0 5 0 ≤ 512) (h : Sim T (c.1 0) m) (hX : okXf C (c.1 0)) (hr : roomOK ((c.1 1).1 4 1 0)) (ho : wR o) (hn : wR n) (hw : wR w) : fcOK T c m (fX6_ahead o n w c) (fX7_ahead o n w m) := by
  have k1 := h.2.2.1
  unfold okN at k1
  have q2 := h.1.1.2.2.1
  unfold fX6_ahead fX7_ahead
  by_cases g1 : 0 ≤ o ∧ o < (c.1 0).1 0 5 0
  · rw [ev_hasO (by omega), ev_isO (by omega), q2, bI_t (decide_eq_true g1), cr_some, cr_some, gd_pos (by omega), gd_pos (by omega), if_neg (by omega), if_neg (by omega), gd_pos hn]
    by_cases g2 : 1 ≤ n ∧ n ≤ 400
    · rw [ev_btT (by omega), ev_inT (by omega), cr_some, cr_some, gd_pos (by omega), gd_pos (by omega), if_neg (by omega), if_neg (by omega), gd_pos hw]
      by_cases g3 : 0 ≤ w ∧ w ≤ 3
      · obtain ⟨H1, m1, s1, s2, s3, s4, s5, s6⟩ := fc_start h hX hr
        have e5 : H1.1 0 5 0 = (c.1 0).1 0 5 0 := s4.1 5 (by omega)
        obtain ⟨H2, m2, d1, d2, d3, d4, d5, d6, d7⟩ := ls_days (n := n) hT (C := C + 1) (by omega) (by omega) s5 s6
        obtain ⟨m3, b1, b2, b3⟩ := fc_back h s3 d7
        have hc1 := h.1.atO g1
        have hc2 := d3.1.atO (o := o) (by omega)
        have w3 := (h.2.2.2.2.2.1 o g1).2.2
        have w3' := (d3.2.2.2.2.2.1 o (by omega)).2.2
        unfold okC at w3 w3'
        have hm1 : ∀ j : Int, m1.1 0 j = m.1 0 j := fun j => by rw [s3.1 0 (by omega) (by omega)]
        rw [ev_btT (by omega), ev_inT (by omega), cr_some, cr_some, gd_pos (by omega), gd_pos (by omega), if_neg (by omega), if_neg (by omega), s1, cl_some, bnd_eq, cH_1, d1, cl_some, bnd_eq, gd_pos (by omega), gd_pos (by omega), gd_pos hw, s2, cl_some, gd_pos hw, cH_1, cH_n _ _ (show ¬ (0 : Int) = 1 by omega), cH_n _ _ (show ¬ (0 : Int) = 1 by omega)]
        have fin : ∀ r : Int, wR64 r → ∀ (a : Option (Int × cR)) (b : Option (Int × mR)), a = some (r, cH (cH c 1 H1) 1 H2) → b = some (r, m3) → fcOK T c m a b := fun r hr' a b ea eb => ⟨r, _, m3, ea, eb, hr', fun k hk => by rw [cH_n _ _ hk, cH_n _ _ hk], rfl, by rw [cH_1]; exact fc_room d3.2.2, b2, b3⟩
        by_cases c3 : w = 3
        · have hcnt := d3.2.2.2.2.2.2.2.1.2 o (by omega)
          have hwo := d3.waitsOf (m' := m2) ho rfl rfl
          rw [← hcnt] at hwo
          rw [if_neg (by omega), if_neg (by omega), if_neg (by omega)]
          refine fin (H2.1 3 o 15) (by omega) _ _ rfl ?_
          rw [if_pos c3]
          unfold fX7_ahead_b61
          rw [d2, cl_some, gd_pos hw, if_pos c3, hwo, cr_some]
          unfold fX7_ahead_b91
          rw [b1, cl_some, Int.sub_zero]
        · have hv : ∀ f : Int, (w = 0 ∧ f = 12) ∨ (w = 1 ∧ f = 13) ∨ (w = 2 ∧ f = 14) → m.1 0 (121 + 16 * o + (11 + w)) = (c.1 0).1 3 o f ∧ m2.1 0 (121 + 16 * o + (11 + w)) = H2.1 3 o f := fun f q => by
            rcases q with ⟨rfl, rfl⟩ | ⟨rfl, rfl⟩ | ⟨rfl, rfl⟩
            · exact ⟨hc1 11 (by omega), hc2 11 (by omega)⟩
            · exact ⟨hc1 12 (by omega), hc2 12 (by omega)⟩
            · exact ⟨hc1 13 (by omega), hc2 13 (by omega)⟩
          have em : ∀ f : Int, (w = 0 ∧ f = 12) ∨ (w = 1 ∧ f = 13) ∨ (w = 2 ∧ f = 14) → (if w = 3 then fX7_ahead_b61 o n w 0 m1 else cr (fX7_ofO o (11 + w) m1) fun r58 => fX7_ahead_b61 o n w r58 m1) = some (H2.1 3 o f - (c.1 0).1 3 o f, m3) := fun f q => by
            rw [if_neg c3, ev_ofO (by omega), cr_some, hm1, (hv f q).1]
            unfold fX7_ahead_b61
            rw [d2, cl_some, gd_pos hw, if_neg c3, ev_ofO (by omega), cr_some, (hv f q).2]
            unfold fX7_ahead_b91
            rw [b1, cl_some]
          by_cases c0 : w = 0
          · rw [if_pos c0]
            exact fin _ (by omega) _ _ rfl (em 12 (by omega))
          · rw [if_neg c0]
            by_cases c1 : w = 1
            · rw [if_pos c1]
              exact fin _ (by omega) _ _ rfl (em 13 (by omega))
            · rw [if_neg c1, if_pos (by omega)]
              exact fin _ (by omega) _ _ rfl (em 14 (by omega))
      · rw [ev_btF (by omega), ev_inF (by omega), cr_some, cr_some, gd_pos (by omega), gd_pos (by omega), if_pos rfl, if_pos rfl]
        exact fcErr (r := -2) h hr (by omega) rfl rfl
    · rw [ev_btF (by omega), ev_inF (by omega), cr_some, cr_some, gd_pos (by omega), gd_pos (by omega), if_pos rfl, if_pos rfl]
      exact fcErr (r := -2) h hr (by omega) rfl rfl
  · rw [ev_hasO (by omega), ev_isO (by omega), q2, bI_f (decide_eq_false g1), cr_some, cr_some, gd_pos (by omega), gd_pos (by omega), if_pos rfl, if_pos rfl]
    exact fcErr (r := -1) h hr (by omega) rfl rfl

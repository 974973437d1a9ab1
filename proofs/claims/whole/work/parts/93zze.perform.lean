/-! ===== texts: one act in step ===== -/
theorem x_aimN {o : Int} {H : hR} : Pst (fun p => p.2.1 0 5 0 = H.1 0 5 0) (fX3_aim o H) := by
  unfold fX3_aim fX3_aim_b64 fX3_aim_b92
  repeat' (first | (with_reducible refine pst_gd (fun _ => ?_)) | (with_reducible refine pst_cr (fun _ _ => ?_)) | (with_reducible refine pst_if (fun _ => ?_) (fun _ => ?_)) | (with_reducible refine pst_bnd ?_) | (with_reducible refine pst_some ?_))
  all_goals
    repeat rw [hS_n _ (by omega)]
theorem x_leaveN {o t : Int} : ∀ (fuel : Nat) (cnt i : Int) (H : hR), Pst (fun p => cnt ≤ p.1 ∧ p.2.1 0 5 0 = H.1 0 5 0) (fX3_leaveOutBefore_b10 fuel o t cnt i H)
  | 0, _, _, _ => fun x e => by cases e
  | fuel + 1, cnt, i, H => by
    unfold fX3_leaveOutBefore_b10
    refine pst_gd (fun _ => pst_if (fun _ => pst_some ⟨Int.le_refl _, rfl⟩) (fun _ => pst_gd (fun _ => pst_if (fun _ => pst_some ⟨Int.le_refl _, rfl⟩) (fun _ => pst_bnd (pst_cl (fun y H1 q p e => ?_))))))
    obtain ⟨w1, w2⟩ := x_leaveN fuel (cnt + 1) (i + 1) H1 p e
    have w3 : H1.1 0 5 0 = (hS H 3 o 16 (H.1 3 o 17 + 1)).1 0 5 0 := x_aimN _ q
    rw [hS_n H (by omega)] at w3
    exact ⟨by omega, w2.trans w3⟩
theorem n_goOn {o : Int} {H : hR} : Pst (fun p => -5 ≤ p.1 ∧ p.2.1 0 5 0 = H.1 0 5 0) (fX2_resumeOrder o H) := by
  unfold fX2_resumeOrder fX3_leaveOutBefore
  refine pst_cr (fun y1 q1 => pst_gd (fun _ => pst_if (fun _ => pst_some ⟨by show (-5 : Int) ≤ -1; decide, rfl⟩) (fun _ => pst_gd (fun _ => pst_gd (fun _ => pst_if (fun _ => pst_gd (fun _ => pst_bnd (pst_gd (fun _ => pst_cl (fun r H' q => pst_some ?_))))) (fun _ => pst_some ⟨Int.le_refl _, rfl⟩))))))
  obtain ⟨y, H1, q2, q3⟩ := cl_inv q
  obtain ⟨w1, w2⟩ := x_leaveN fuel0 0 0 H1 _ q3
  have w1 : 0 ≤ r := w1
  have w2 : H'.1 0 5 0 = H1.1 0 5 0 := w2
  have w3 : H1.1 0 5 0 = (hS H 3 o 11 0).1 0 5 0 := x_aimN _ q2
  rw [hS_n H (by omega)] at w3
  show -5 ≤ r ∧ H'.1 0 5 0 = H.1 0 5 0
  omega
theorem n_stop {T o : Int} {H : hR} (hk : Ok T H) : Pst (fun p => -5 ≤ p.1 ∧ p.2.1 0 5 0 = H.1 0 5 0) (fX2_stopOrder o H) := by
  unfold fX2_stopOrder
  refine pst_cr (fun y1 q1 => pst_gd (fun _ => pst_if (fun _ => pst_some ⟨by show (-5 : Int) ≤ -1; decide, rfl⟩) (fun n1 => pst_gd (fun _ => pst_gd (fun _ => pst_if (fun _ => pst_gd (fun _ => pst_bnd (pst_gd (fun _ => pst_some ?_)))) (fun _ => pst_some ⟨Int.le_refl _, rfl⟩))))))
  have ho := hasO_inv q1 n1
  have w := (hk.2.2.2.1 o ho).2.2
  unfold okC at w
  show -5 ≤ (hS H 3 o 11 1).1 3 o 15 ∧ (hS H 3 o 11 1).1 0 5 0 = H.1 0 5 0
  rw [hS_n H (by omega), hS_n H (by omega)]
  omega
theorem n_deposit {a c : Int} {H : hR} : Pst (fun p => -5 ≤ p.1 ∧ ∀ t x y : Int, ¬ t = 2 → p.2.1 t x y = H.1 t x y) (fX2_payIn a c H) := by
  unfold fX2_payIn
  have e : ∀ v w : Int, ∀ t x y : Int, ¬ t = 2 → (hS (hS H 2 a 3 v) 2 a 4 w).1 t x y = H.1 t x y := fun v w t x y q => by
    rw [hS_n _ (by omega), hS_n _ (by omega)]
  refine pst_cr (fun _ _ => pst_gd (fun _ => pst_if (fun _ => pst_some ⟨by show (-5 : Int) ≤ -1; decide, fun _ _ _ _ => rfl⟩) (fun _ => pst_cr (fun _ _ => pst_gd (fun _ => pst_if (fun _ => pst_some ⟨by show (-5 : Int) ≤ -2; decide, fun _ _ _ _ => rfl⟩) (fun _ => ?_))))))
  refine pst_gd (fun _ => pst_gd (fun _ => pst_bnd (pst_gd (fun _ => pst_gd (fun _ => pst_bnd (pst_gd (fun _ => pst_gd (fun _ => pst_if (fun _ => pst_some ⟨by show (-5 : Int) ≤ 0; decide, e _ _⟩) (fun _ => pst_some ⟨by show (-5 : Int) ≤ 1; decide, e _ _⟩)))))))))
theorem okXd.same {C T : Int} {H H' : hR} (h : okXd C H) (hk : Ok T H) (f : ∀ t x y : Int, ¬ t = 2 → H'.1 t x y = H.1 t x y) : okXd C H' := h.of3 (fun P h1 h2 => ⟨h2.fr hk.2.2.2.2.1 (f _ _ _ (by omega)) (f _ _ _ (by omega)) (by
    have : holB H' = holB H := by
      funext d
      unfold holB
      rw [f 6 _ 0 (by omega)]
    rw [this]) (f _ _ _ (by omega)) (f _ _ _ (by omega)) (fun c i _ _ => f _ _ _ (by omega)) (fun o f' _ _ => f _ _ _ (by omega)), f _ _ _ (by omega), f _ _ _ (by omega), f _ _ _ (by omega)⟩)
theorem okXd.stop {C T o : Int} {H : hR} (h : okXd C H) (hk : Ok T H) : okXd C (hS H 3 o 11 1) := h.of3 (fun P h1 h2 => ⟨h2.stop hk.2.2.2.2.1, hS_n H (by omega), hS_n H (by omega), hS_n H (by omega)⟩)
theorem xd_stop {C T o : Int} {H : hR} (h : okXd C H) (hk : Ok T H) : Pst (fun p => okXd C p.2) (fX2_stopOrder o H) := by
  unfold fX2_stopOrder
  exact pst_cr (fun y1 q1 => pst_gd (fun _ => pst_if (fun _ => pst_some h) (fun n1 => pst_gd (fun _ => pst_gd (fun _ => pst_if (fun _ => pst_gd (fun _ => pst_bnd (pst_gd (fun _ => pst_some (h.stop hk))))) (fun _ => pst_some h))))))
def rowsA (m m' : mR) : Prop := m'.1 2 = m.1 2 ∧ m'.1 3 = m.1 3 ∧ m'.2 1 = m.2 1 ∧ m'.1 4 = m.1 4 ∧ m'.1 5 = m.1 5 ∧ ∀ k : Int, ¬ k = 8 → k ≤ 11 → m'.1 6 k = m.1 6 k
theorem rowsA.tr {m m1 m2 : mR} (h : rowsA m m1) (g : rowsA m1 m2) : rowsA m m2 := by
  obtain ⟨h1, h2, h3, h4, h5, h6⟩ := h
  obtain ⟨g1, g2, g3, g4, g5, g6⟩ := g
  exact ⟨g1.trans h1, g2.trans h2, g3.trans h3, g4.trans h4, g5.trans h5, fun k a b => (g6 k a b).trans (h6 k a b)⟩
theorem rowsA.rf (m : mR) : rowsA m m := ⟨rfl, rfl, rfl, rfl, rfl, fun _ _ _ => rfl⟩
theorem keptEq.a {m m' : mR} (h : keptEq m m') : rowsA m m' := ⟨h.1, h.2.1, h.2.2.1, h.2.2.2.1, h.2.2.2.2.1, fun k a _ => h.2.2.2.2.2 k a⟩
theorem rows6.a {m m' : mR} (h : rows6 m m') : rowsA m m' := ⟨h.1 2 (by omega) (by omega) (by omega), h.1 3 (by omega) (by omega) (by omega), h.2.1, h.1 4 (by omega) (by omega) (by omega), h.1 5 (by omega) (by omega) (by omega), fun k a _ => h.2.2 k a⟩
theorem mF6.a {m m' : mR} (h : mF6 m m') (e : m'.1 6 11 = m.1 6 11) : rowsA m m' := ⟨h.1 2 (by omega), h.1 3 (by omega), by rw [h.2.1], h.1 4 (by omega), h.1 5 (by omega), fun k a b => by
  by_cases g : k = 11
  · rw [g, e]
  · exact h.2.2 k (by omega)⟩
/-- an act that is a call of its own -/
theorem act_of {T C d : Int} {c : cR} {m : mR} {call : Option (Int × hR)} {chk : Option Int} {core : Option (Int × mR)} (h : Sim T (c.1 0) m) (k : coreOK T (c.1 0) m call chk core) (p : Pst (fun p => -5 ≤ p.1 ∧ okXd C p.2 ∧ p.2.1 0 5 0 ≤ (c.1 0).1 0 5 0 + d) call) :
    ∃ r c' m', (cl call fun r t => bnd (cH c 0 t) fun c1 => some (r, c1)) = some (r, c') ∧ (cr chk fun r => gd (wR r) <| if r = 0 then (cl core fun r71 m71 => some (r71, m71)) else some (r, m)) = some (r, m') ∧ wR r ∧ -5 ≤ r ∧ Sim (T + 1) (c'.1 0) m' ∧ okXd C (c'.1 0) ∧ (∀ i : Int, ¬ i = 0 → c'.1 i = c.1 i) ∧ c'.2 = c.2 ∧ rowsA m m' ∧ (c'.1 0).1 0 5 0 ≤ (c.1 0).1 0 5 0 + d := by
  obtain ⟨r, H', e1, hr, k⟩ := k
  obtain ⟨p1, p2, p3⟩ := p _ e1
  have hc0 : (cH c 0 H').1 0 = H' := by
    show up1 c.1 0 H' 0 = H'
    exact up1_p _ _ _
  have hcn : ∀ i : Int, ¬ i = 0 → (cH c 0 H').1 i = c.1 i := fun i q => up1_n _ _ q
  rcases k with ⟨r1, r2, rfl, r3⟩ | ⟨r1, r2, m', r3, r4, r5⟩
  · refine ⟨r, cH c 0 (c.1 0), m, by rw [e1]; rfl, ?_, hr, r1, ?_, by rw [hc0]; exact p2, hcn, rfl, rowsA.rf m, by rw [hc0]; exact p3⟩
    · rw [r3, cr_some, gd_pos hr, if_neg (by omega)]
    · rw [hc0]
      exact ⟨h.1, h.2.1, h.2.2.mono (by omega)⟩
  · refine ⟨r, cH c 0 H', m', by rw [e1]; rfl, ?_, hr, p1, by rw [hc0]; exact r4, by rw [hc0]; exact p2, hcn, rfl, r5.a, by rw [hc0]; exact p3⟩
    rw [r2, cr_some, gd_pos (by omega), if_pos rfl, r3]
    rfl
theorem ls_act {s : Int → Int} {L a b v : Int} {f : Int → Int} {T C : Int} {c : cR} {m : mR} (hT : 0 ≤ T ∧ T ≤ 100000) (hC : 0 ≤ C ∧ C + (c.1 0).1 0 5 0 ≤ 512) (h : Sim T (c.1 0) m) (hX : okXd C (c.1 0)) (o : actOut s L a 1 1 b v f) (gC : actR 1 1 v f (c.2.2 0) 0 (verbOf v)) (gM : actR 1 1 v f (m.1 6) 10 v) :
    ∃ r r' c' m', fX6_perform c = some (r, c') ∧ fX7_does m = some (r', m') ∧ wR r ∧ wR r' ∧ -5 ≤ r ∧ (r < 0 ↔ r' < 0) ∧ Sim (T + 1) (c'.1 0) m' ∧ okXd C (c'.1 0) ∧ (∀ i : Int, ¬ i = 0 → c'.1 i = c.1 i) ∧ c'.2 = c.2 ∧ rowsA m m' ∧ (c'.1 0).1 0 5 0 ≤ (c.1 0).1 0 5 0 + (if v = 0 then 1 else 0) := by
  have k1 := h.2.2.1
  unfold okN at k1
  have ks := h.2.2.2.1
  unfold okS at ks
  have e0 : m.1 0 0 = (c.1 0).1 0 6 0 := h.1.1.1
  obtain ⟨x3, x0, x1, x2⟩ := gC rfl rfl
  obtain ⟨y3, y0, y1, y2⟩ := gM rfl rfl
  rw [Int.zero_add] at x3
  rw [show (10 : Int) + 3 = 13 from rfl] at y3
  have hout : (v = 0 ∧ a + 9 ≤ b ∧ (0 ≤ f 4 ∧ f 4 ≤ 7) ∧ (0 ≤ f 5 ∧ f 5 ≤ 8) ∧ (0 ≤ f 6 ∧ f 6 ≤ 99999) ∧ (0 ≤ f 7 ∧ f 7 ≤ 3) ∧ (0 ≤ f 8 ∧ f 8 ≤ 99999) ∧ (0 ≤ f 9 ∧ f 9 ≤ 99999) ∧ 0 ≤ f 10 ∧ f 10 ≤ 4) ∨ (v = 1 ∧ (0 ≤ f 4 ∧ f 4 ≤ 7) ∧ 0 ≤ f 6 ∧ f 6 ≤ 99999) ∨ ((2 ≤ v ∧ v ≤ 4) ∧ 0 ≤ f 6 ∧ f 6 ≤ 99999) := by
    unfold actOut at o
    rcases o with o | o | o
    · omega
    · omega
    · exact o.2.2.2.2
  have one : ∀ {call : Option (Int × hR)} {chk : Option Int} {core : Option (Int × mR)}, coreOK T (c.1 0) m call chk core → Pst (fun p => -5 ≤ p.1 ∧ okXd C p.2 ∧ p.2.1 0 5 0 ≤ (c.1 0).1 0 5 0 + (if v = 0 then 1 else 0)) call → (fX6_perform c = cl call fun r t => bnd (cH c 0 t) fun c1 => some (r, c1)) → (fX7_does m = cr chk fun r => gd (wR r) <| if r = 0 then (cl core fun r71 m71 => some (r71, m71)) else some (r, m)) → ∃ r r' c' m', fX6_perform c = some (r, c') ∧ fX7_does m = some (r', m') ∧ wR r ∧ wR r' ∧ -5 ≤ r ∧ (r < 0 ↔ r' < 0) ∧ Sim (T + 1) (c'.1 0) m' ∧ okXd C (c'.1 0) ∧ (∀ i : Int, ¬ i = 0 → c'.1 i = c.1 i) ∧ c'.2 = c.2 ∧ rowsA m m' ∧ (c'.1 0).1 0 5 0 ≤ (c.1 0).1 0 5 0 + (if v = 0 then 1 else 0) := by
    intro call chk core q1 q2 q3 q4
    obtain ⟨r, c', m', z1, z2, z3, z4, z5, z6, z7, z8, z9, z10⟩ := act_of h q1 q2
    exact ⟨r, r, c', m', q3.trans z1, q4.trans z2, z3, z3, z4, Iff.rfl, z5, z6, z7, z8, z9, z10⟩
  rcases hout with ⟨v0, v1, v4, v5, v6, v7, v8, v9, v10⟩ | ⟨v0, v4, v6⟩ | ⟨v0, v6⟩
  · subst v0
    have x3 : c.2.2 0 3 = 112 := x3
    have c4 : c.2.2 0 4 = f 4 := x0 rfl 4 (by omega)
    have c5 : c.2.2 0 5 = f 5 := x0 rfl 5 (by omega)
    have c6 : c.2.2 0 6 = f 6 := x0 rfl 6 (by omega)
    have c7 : c.2.2 0 7 = f 7 := x0 rfl 7 (by omega)
    have c8 : c.2.2 0 8 = f 8 := x0 rfl 8 (by omega)
    have c9 : c.2.2 0 9 = f 9 := x0 rfl 9 (by omega)
    have c10 : c.2.2 0 10 = f 10 := x0 rfl 10 (by omega)
    have m4 : m.1 6 14 = f 4 := y0 rfl 4 (by omega)
    have m5 : m.1 6 15 = f 5 := y0 rfl 5 (by omega)
    have m6 : m.1 6 16 = f 6 := y0 rfl 6 (by omega)
    have m7 : m.1 6 17 = f 7 := y0 rfl 7 (by omega)
    have m8 : m.1 6 18 = f 8 := y0 rfl 8 (by omega)
    have m9 : m.1 6 19 = f 9 := y0 rfl 9 (by omega)
    have m10 : m.1 6 20 = f 10 := y0 rfl 10 (by omega)
    -- the check refuses a month or a day that isn't there
    have bad : ∀ (m1 : mR) (z : Int), Sim T (c.1 0) m1 → wR z → ¬ ((1 ≤ z / 100 % 100 ∧ z / 100 % 100 ≤ 12) ∧ 1 ≤ z % 100 ∧ z % 100 ≤ 31) → ∃ r, -5 ≤ r ∧ r ≤ -1 ∧ fX7_checksOrder (9 * f 4 + f 5) (f 6) z ((c.1 0).1 0 6 0) (10 * f 10 + 5) 0 m1 = some r := fun m1 z hs hz hn => by
      rcases ls_ordchk hs (x1 := 9 * f 4 + f 5) (x2 := f 6) (x3 := z) (x4 := (c.1 0).1 0 6 0) (x5 := 10 * f 10 + 5) (x6 := 0) (by omega) (by omega) hz (by omega) (by omega) (by omega) with ⟨r, r1, r2, r3, r4⟩ | ⟨⟨_, _, b3, _⟩, _, _⟩
      · exact ⟨r, r1, r2, r4⟩
      · have b3' : (0 ≤ z ∧ z ≤ 39999) ∧ (1 ≤ z / 100 % 100 ∧ z / 100 % 100 ≤ 12) ∧ 1 ≤ z % 100 ∧ z % 100 ≤ 31 := of_decide_eq_true b3
        exact absurd b3'.2 hn
    have b28 : ∀ m1 : mR, m1.1 0 0 = m.1 0 0 → (∀ k : Int, ¬ k = 18 → ¬ k = 19 → m1.1 6 k = m.1 6 k) → fX7_doesNewOrder_b28 m1 = cr (fX7_checksOrder (9 * f 4 + f 5) (f 6) (((10000 * f 7) + (100 * m1.1 6 18)) + m1.1 6 19) ((c.1 0).1 0 6 0) (10 * f 10 + 5) 0 m1) fun r84 => gd (wR r84) <| if r84 = 0 then (cl (fX7_makes (9 * f 4 + f 5) (f 6) (((10000 * f 7) + (100 * m1.1 6 18)) + m1.1 6 19) ((c.1 0).1 0 6 0) (10 * f 10 + 5) 0 m1) fun r117 m117 => some (r117, m117)) else some (r84, m1) := fun m1 q0 q => by
      unfold fX7_doesNewOrder_b28
      rw [ev_today, cr_some, cr_some, q0, e0, q 14 (by omega) (by omega), q 15 (by omega) (by omega), q 16 (by omega) (by omega), q 17 (by omega) (by omega), q 20 (by omega) (by omega), m4, m5, m6, m7, m10]
    have eM : fX7_does m = cl (fX7_doesNewOrder m) fun r37 m37 => some (r37, m37) := by
      unfold fX7_does
      rw [gd_pos (by omega), if_pos y3]
    by_cases g : f 8 ≤ 12 ∧ f 9 ≤ 31
    · have eC : fX6_perform c = cl (fX2_addOrder (9 * f 4 + f 5) (f 6) (((10000 * f 7) + (100 * f 8)) + f 9) ((c.1 0).1 0 6 0) (10 * f 10 + 5) 0 (c.1 0)) fun r t => bnd (cH c 0 t) fun c1 => some (r, c1) := by
        unfold fX6_perform
        rw [gd_pos (by omega), if_neg (by omega), if_neg (by omega), if_pos x3, c4, c5, c6, c7, c8, c9, c10, gd_pos (by omega), if_neg (by omega), gd_pos (by omega), if_pos g.2]
      have hD : fX7_does m = cr (fX7_checksOrder (9 * f 4 + f 5) (f 6) (((10000 * f 7) + (100 * f 8)) + f 9) ((c.1 0).1 0 6 0) (10 * f 10 + 5) 0 m) fun r => gd (wR r) <| if r = 0 then (cl (fX7_makes (9 * f 4 + f 5) (f 6) (((10000 * f 7) + (100 * f 8)) + f 9) ((c.1 0).1 0 6 0) (10 * f 10 + 5) 0 m) fun r71 m71 => some (r71, m71)) else some (r, m) := by
        have : fX7_doesNewOrder m = fX7_doesNewOrder_b28 m := by
          unfold fX7_doesNewOrder
          rw [m8, m9, gd_pos (by omega), if_neg (by omega), gd_pos (by omega), if_pos (by omega)]
        rw [eM, this, b28 m rfl (fun _ _ _ => rfl), m8, m9]
        rcases ls_ordchk h (x1 := 9 * f 4 + f 5) (x2 := f 6) (x3 := ((10000 * f 7) + (100 * f 8)) + f 9) (x4 := (c.1 0).1 0 6 0) (x5 := 10 * f 10 + 5) (x6 := 0) (by omega) (by omega) (by omega) (by omega) (by omega) (by omega) with ⟨r, r1, r2, r3, r4⟩ | ⟨_, _, r4⟩
        · rw [r4, cr_some, gd_pos (by omega), if_neg (by omega)]
          rfl
        · rw [r4, cr_some, gd_pos (by omega), if_pos rfl]
          cases fX7_makes (9 * f 4 + f 5) (f 6) (((10000 * f 7) + (100 * f 8)) + f 9) ((c.1 0).1 0 6 0) (10 * f 10 + 5) 0 m with
          | none => rfl
          | some x => rfl
      refine one (ls_order h (by omega) (by omega) (by omega) (by omega) (by omega) (by omega)) (fun p e => ?_) eC hD
      have w := xp_order h (Or.inr rfl) hX (by omega) (by omega) (by omega) (by omega) (by omega) (by omega) p e
      exact ⟨w.2.1, xd_order h hX (by omega) (by omega) (by omega) (by omega) (by omega) (by omega) p e, by rw [if_pos rfl]; exact w.2.2⟩
    · have eC : fX6_perform c = some (-2, c) := by
        unfold fX6_perform
        rw [gd_pos (by omega), if_neg (by omega), if_neg (by omega), if_pos x3, c8, c9, gd_pos (by omega)]
        by_cases q : 12 < f 8
        · rw [if_pos q]
        · rw [if_neg q, gd_pos (by omega), if_neg (by omega)]
      have fin : ∀ m1 r, -5 ≤ r → r ≤ -1 → fX7_does m = some (r, m1) → Sim T (c.1 0) m1 → rowsA m m1 → ∃ r r' c' m', fX6_perform c = some (r, c') ∧ fX7_does m = some (r', m') ∧ wR r ∧ wR r' ∧ -5 ≤ r ∧ (r < 0 ↔ r' < 0) ∧ Sim (T + 1) (c'.1 0) m' ∧ okXd C (c'.1 0) ∧ (∀ i : Int, ¬ i = 0 → c'.1 i = c.1 i) ∧ c'.2 = c.2 ∧ rowsA m m' ∧ (c'.1 0).1 0 5 0 ≤ (c.1 0).1 0 5 0 + (if (0 : Int) = 0 then 1 else 0) := fun m1 r r1 r2 r3 r4 r5 => ⟨-2, r, c, m1, eC, r3, by decide, by omega, by decide, by omega, ⟨r4.1, r4.2.1, r4.2.2.mono (by omega)⟩, hX, fun _ _ => rfl, rfl, r5, by rw [if_pos rfl]; omega⟩
      by_cases q : f 8 ≤ 99 ∧ f 9 ≤ 99
      · have : fX7_doesNewOrder m = fX7_doesNewOrder_b28 m := by
          unfold fX7_doesNewOrder
          rw [m8, m9, gd_pos (by omega), if_neg (by omega), gd_pos (by omega), if_pos (by omega)]
        obtain ⟨r, r1, r2, r3⟩ := bad m (((10000 * f 7) + (100 * f 8)) + f 9) h (by omega) (by omega)
        refine fin m r r1 r2 ?_ h (rowsA.rf m)
        rw [eM, this, b28 m rfl (fun _ _ _ => rfl), m8, m9, r3, cr_some, gd_pos (by omega), if_neg (by omega)]
        rfl
      · have e18 : (mS (mS m 6 18 0) 6 19 0).1 6 18 = 0 := by rw [mS_n _ (by omega), mS_p]
        have e19 : (mS (mS m 6 18 0) 6 19 0).1 6 19 = 0 := mS_p _ _ _ _
        have ek : ∀ k : Int, ¬ k = 18 → ¬ k = 19 → (mS (mS m 6 18 0) 6 19 0).1 6 k = m.1 6 k := fun k q1 q2 => by rw [mS_n _ (by omega), mS_n _ (by omega)]
        have et : ∀ t : Int, ¬ t = 6 → (mS (mS m 6 18 0) 6 19 0).1 t = m.1 t := fun t q => by rw [mS_t _ _ _ q, mS_t _ _ _ q]
        have this : fX7_doesNewOrder m = fX7_doesNewOrder_b28 (mS (mS m 6 18 0) 6 19 0) := by
          unfold fX7_doesNewOrder fX7_doesNewOrder_b18
          rw [m8, m9, gd_pos (by omega)]
          by_cases q1 : 99 < f 8
          · rw [if_pos q1]
            rfl
          · rw [if_neg q1, gd_pos (by omega), if_neg (by omega)]
            rfl
        have hs : Sim T (c.1 0) (mS (mS m 6 18 0) 6 19 0) := ⟨h.1.oth (et 0 (by omega)) (et 1 (by omega)) rfl, by rw [et 0 (by omega)]; exact h.2.1, h.2.2⟩
        obtain ⟨r, r1, r2, r3⟩ := bad (mS (mS m 6 18 0) 6 19 0) (((10000 * f 7) + (100 * 0)) + 0) hs (by omega) (by omega)
        refine fin (mS (mS m 6 18 0) 6 19 0) r r1 r2 ?_ hs ⟨et 2 (by omega), et 3 (by omega), rfl, et 4 (by omega), et 5 (by omega), fun k _ q2 => ek k (by omega) (by omega)⟩
        rw [eM, this, b28 _ (by rw [et 0 (by omega)]) ek, e18, e19, r3, cr_some, gd_pos (by omega), if_neg (by omega)]
        rfl
  · subst v0
    have x3 : c.2.2 0 3 = 100 := x3
    obtain ⟨c4, c6⟩ := x1 rfl
    obtain ⟨m4, m6⟩ := y1 rfl
    have c4 : c.2.2 0 4 = f 4 := c4
    have c6 : c.2.2 0 6 = f 6 := c6
    have m4 : m.1 6 14 = f 4 := m4
    have m6 : m.1 6 16 = f 6 := m6
    refine one (ls_deposit hT.2 h (a := f 4) (c := f 6) (by omega) (by omega)) (fun p e => ?_) ?_ ?_
    · obtain ⟨w1, w2⟩ := n_deposit p e
      exact ⟨w1, hX.same h.2.2 w2, by rw [w2 0 5 0 (by omega), if_neg (by omega)]; omega⟩
    · unfold fX6_perform
      rw [gd_pos (by omega), if_pos x3, c4, c6]
    · unfold fX7_does
      rw [gd_pos (by omega), if_neg (by omega), if_pos y3, m4, m6]
  · have c6 : c.2.2 0 6 = f 6 := x2 v0.1
    have m6 : m.1 6 16 = f 6 := y2 v0.1
    have hv : v = 2 ∨ v = 3 ∨ v = 4 := by omega
    rcases hv with rfl | rfl | rfl
    · have x3 : c.2.2 0 3 = 115 := x3
      refine one (ls_stop h (o := f 6) (by omega)) (fun p e => ?_) ?_ ?_
      · obtain ⟨w1, w2⟩ := n_stop h.2.2 p e
        exact ⟨w1, xd_stop hX h.2.2 p e, by rw [w2, if_neg (by omega)]; omega⟩
      · unfold fX6_perform
        rw [gd_pos (by omega), if_neg (by omega), if_neg (by omega), if_neg (by omega), if_pos x3, c6]
      · unfold fX7_does
        rw [gd_pos (by omega), if_neg (by omega), if_neg (by omega), if_pos y3, m6]
    · have x3 : c.2.2 0 3 = 103 := x3
      refine one (ls_goOn h (o := f 6) (by omega)) (fun p e => ?_) ?_ ?_
      · obtain ⟨w1, w2⟩ := n_goOn p e
        exact ⟨w1, xd_goOn h hX p e, by rw [w2, if_neg (by omega)]; omega⟩
      · unfold fX6_perform
        rw [gd_pos (by omega), if_neg (by omega), if_pos x3, c6]
      · unfold fX7_does
        rw [gd_pos (by omega), if_neg (by omega), if_neg (by omega), if_neg (by omega), if_pos y3, m6]
    · have x3 : c.2.2 0 3 = 110 := x3
      have eC : fX6_perform c = cr (fX2_errorOfDays (f 6) (c.1 0)) fun r179 => gd (wR r179) <| if r179 = 0 then (cl (fX2_passDays (f 6) 0 (c.1 0)) fun r196 t196 => bnd (cH c 0 t196) fun c196 => some (r179, c196)) else (some (r179, c)) := by
        unfold fX6_perform
        rw [gd_pos (by omega), if_neg (by omega), if_neg (by omega), if_neg (by omega), if_neg (by omega), c6]
      have eM : fX7_does m = cr (fX7_checksDays (f 6) m) fun r134 => gd (wR r134) <| if r134 = 0 then (cl (fX7_passesDays (f 6) m) fun r151 m151 => some (r151, m151)) else (some (r134, m)) := by
        unfold fX7_does
        rw [gd_pos (by omega), if_neg (by omega), if_neg (by omega), if_neg (by omega), if_neg (by omega), m6]
      have err : ∀ r : Int, -5 ≤ r → r ≤ -1 → fX2_errorOfDays (f 6) (c.1 0) = some r → fX7_checksDays (f 6) m = some r → ∃ r r' c' m', fX6_perform c = some (r, c') ∧ fX7_does m = some (r', m') ∧ wR r ∧ wR r' ∧ -5 ≤ r ∧ (r < 0 ↔ r' < 0) ∧ Sim (T + 1) (c'.1 0) m' ∧ okXd C (c'.1 0) ∧ (∀ i : Int, ¬ i = 0 → c'.1 i = c.1 i) ∧ c'.2 = c.2 ∧ rowsA m m' ∧ (c'.1 0).1 0 5 0 ≤ (c.1 0).1 0 5 0 + (if (4 : Int) = 0 then 1 else 0) := fun r r1 r2 q1 q2 => by
        refine ⟨r, r, c, m, ?_, ?_, by omega, by omega, r1, Iff.rfl, ⟨h.1, h.2.1, h.2.2.mono (by omega)⟩, hX, fun _ _ => rfl, rfl, rowsA.rf m, by rw [if_neg (by omega)]; omega⟩
        · rw [eC, q1, cr_some, gd_pos (by omega), if_neg (by omega)]
        · rw [eM, q2, cr_some, gd_pos (by omega), if_neg (by omega)]
      by_cases g1 : 1 ≤ f 6 ∧ f 6 ≤ 400
      · by_cases g2 : (c.1 0).1 0 6 0 + f 6 ≤ 1094
        · have hq1 : fX2_errorOfDays (f 6) (c.1 0) = some 0 := by
            unfold fX2_errorOfDays
            rw [ev_btT (by omega), cr_some, gd_pos (by omega), if_neg (by omega), gd_pos (by omega), if_pos g2]
          have hq2 : fX7_checksDays (f 6) m = some 0 := by
            unfold fX7_checksDays
            rw [gd_pos (by omega), ev_inT (by omega), cr_some, gd_pos (by omega), if_neg (by omega), ev_today, cr_some, e0, gd_pos (by omega), if_pos g2]
          obtain ⟨H', m', z1, z2, z3, z4, z5, z6, z7⟩ := ls_days hT hC (n := f 6) (by omega) h hX
          have hc0 : (cH c 0 H').1 0 = H' := by
            show up1 c.1 0 H' 0 = H'
            exact up1_p _ _ _
          have ks2 := z3.2.2.2.1
          unfold okS at ks2
          refine ⟨0, H'.1 0 6 0, cH c 0 H', m', ?_, ?_, by omega, by omega, by omega, by omega, ?_, by rw [hc0]; exact z4, fun i q => up1_n _ _ q, rfl, z7.a, by rw [hc0, if_neg (by omega)]; omega⟩
          · rw [eC, hq1, cr_some, gd_pos (by omega), if_pos rfl, z1]
            rfl
          · rw [eM, hq2, cr_some, gd_pos (by omega), if_pos rfl, z2]
            rfl
          · rw [hc0]
            exact ⟨z3.1, z3.2.1, z3.2.2.mono (by omega)⟩
        · refine err (-5) (by omega) (by omega) ?_ ?_
          · unfold fX2_errorOfDays
            rw [ev_btT (by omega), cr_some, gd_pos (by omega), if_neg (by omega), gd_pos (by omega), if_neg g2]
          · unfold fX7_checksDays
            rw [gd_pos (by omega), ev_inT (by omega), cr_some, gd_pos (by omega), if_neg (by omega), ev_today, cr_some, e0, gd_pos (by omega), if_neg g2]
      · refine err (-2) (by omega) (by omega) ?_ ?_
        · unfold fX2_errorOfDays
          rw [ev_btF (by omega), cr_some, gd_pos (by omega), if_pos rfl]
        · unfold fX7_checksDays
          rw [gd_pos (by omega), ev_inF (by omega), cr_some, gd_pos (by omega), if_pos rfl]

/-! ===== the law's checks ===== -/
/-- after at most n calls -/
def JI (n : Int) (c : cR) : Prop := ∃ T C To m, (0 ≤ T ∧ T ≤ 100 * n) ∧ (0 ≤ C ∧ 0 ≤ To ∧ C + To ≤ n) ∧ Inv T C To c m
def JJ (n : Int) (c : cR) : Prop := JI n c ∧ Bal (c.1 0)
theorem JI.aim {n : Int} {c c' : cR} (h : JI n c) (a : AimC c c') : JI n c' := by
  obtain ⟨T, C, To, m, h1, h2, I⟩ := h
  exact ⟨T, C, To, m, h1, h2, a.inv I⟩
theorem JJ.aim {n : Int} {c c' : cR} (h : JJ n c) (a : AimC c c') : JJ n c' := ⟨h.1.aim a, (sameH.aims a.2.2).2.1 h.2⟩
theorem JI.up {n n' : Int} {c : cR} (h : JI n c) (q : n ≤ n') : JI n' c := by
  obtain ⟨T, C, To, m, h1, h2, I⟩ := h
  exact ⟨T, C, To, m, by omega, by omega, I⟩
theorem JJ.up {n n' : Int} {c : cR} (h : JJ n c) (q : n ≤ n') : JJ n' c := ⟨h.1.up q, h.2⟩
theorem JI.ok {n : Int} {c : cR} (h : JI n c) : ∃ T, Ok T (c.1 0) := by
  obtain ⟨T, C, To, m, h1, h2, I⟩ := h
  exact ⟨T, I.1.2.2⟩
theorem JI.day {n : Int} {c : cR} (h : JI n c) : 0 ≤ (c.1 0).1 0 6 0 ∧ (c.1 0).1 0 6 0 ≤ 1094 := by
  obtain ⟨T, hk⟩ := h.ok
  have ks := hk.2.1
  unfold okS at ks
  exact ks.1
theorem JI.chg {n : Int} {c : cR} (h : JI n c) : 0 ≤ c.2.1 0 4 ∧ c.2.1 0 4 ≤ 6 := by
  obtain ⟨T, C, To, m, h1, h2, I⟩ := h
  exact I.chg.2
theorem JI.view {n : Int} {c : cR} (h : JI n c) (hn : n ≤ 500) : ∃ v, wR64 v ∧ ∀ c2 : cR, sameH (c.1 0) (c2.1 0) → ∃ c', fL_view c2 = some (v, c') ∧ AimC c2 c' := by
  obtain ⟨T, C, To, m, h1, h2, I⟩ := h
  exact view_of (by omega) I
theorem JJ.step {n : Int} {c : cR} {f : cR → Option (Int × cR)} {g : mR → Option (Int × mR)} {F : hR → Option (Int × hR)} (o : OP f g F) (h : JJ n c) (hn : n ≤ 500) : ∃ r c', f c = some (r, c') ∧ wR r ∧ -6 ≤ r ∧ Ext c c' r ∧ JJ (n + 1) c' := by
  obtain ⟨⟨T, C, To, m, h1, h2, I⟩, hb⟩ := h
  obtain ⟨r, c', m', e1, -, hr, C', To', hh, J⟩ := o.1 T C To c m (by omega) (by omega) I
  obtain ⟨r2, c2, H', e2, e3, e4, x⟩ := o.2.1 T C To c m (by omega) (by omega) I
  rw [e1] at e2
  cases e2
  subst e4
  exact ⟨r, c', e1, hr, o.2.2.2 _ _ _ _ _ _ _ I.1 J.1 e3, x, ⟨T + 100, C', To', m', by omega, by omega, J⟩, o.2.2.1 _ hb _ e3⟩
theorem JI.same {n n2 : Int} {c c2 : cR} {f : cR → Option (Int × cR)} {g : mR → Option (Int × mR)} {F : hR → Option (Int × hR)} (o : OP f g F) (h : JI n c) (hn : n ≤ 500) (h2 : JI n2 c2) (hn2 : n2 ≤ 500) (s : sameH (c.1 0) (c2.1 0)) {r r2 : Int} {c' c2' : cR} (e : f c = some (r, c')) (e2 : f c2 = some (r2, c2')) : r2 = r := by
  obtain ⟨T, C, To, m, a1, a2, I⟩ := h
  obtain ⟨T2, C2, To2, m2, b1, b2, I2⟩ := h2
  exact op_same o (by omega) (by omega) I (by omega) (by omega) I2 s e e2
theorem JI.undo {n : Int} {c : cR} (h : JI n c) (h1 : 1 ≤ c.2.1 0 4) : ∃ c', fX6_undo c = some (c.2.1 0 4 - 1, c') ∧ c'.2.1 0 4 = c.2.1 0 4 - 1 ∧ copyR (c.1 (rowL c)) (c'.1 0) ∧ JI (n + 1) c' := by
  obtain ⟨T, C, To, m, a1, a2, I⟩ := h
  obtain ⟨c1, e1, e2, e3⟩ := ext_undo I h1
  obtain ⟨r, c', m', e4, -, hr, C', To', hh, J⟩ := iv_undo I
  have q := (Prod.mk.inj (Option.some.inj (e1.symm.trans e4))).2
  subst q
  exact ⟨c1, e1, e2, e3, T + 100, C', To', m', by omega, by omega, J⟩
theorem JI.save {n s : Int} {c : cR} (h : JI n c) (hs : 0 ≤ s ∧ s ≤ 1) : ∃ c', fX6_save s c = some ((c.1 0).1 0 6 0, c') ∧ c'.1 0 = c.1 0 ∧ c'.2.1 0 4 = c.2.1 0 4 ∧ copyR (c.1 0) (c'.1 (9 + s)) ∧ c'.2.1 1 s = 1 ∧ JI (n + 1) c' := by
  obtain ⟨T, C, To, m, a1, a2, I⟩ := h
  obtain ⟨c1, e1, e2, e3, e4, e5⟩ := ext_save I hs
  obtain ⟨r, c', m', e6, -, hr, C', To', hh, J⟩ := iv_save I (s := s) (by omega)
  have q := (Prod.mk.inj (Option.some.inj (e1.symm.trans e6))).2
  subst q
  exact ⟨c1, e1, e2, e3, e4, e5, T + 100, C', To', m', by omega, by omega, J⟩
theorem JI.restore {n s : Int} {c : cR} (h : JI n c) (hs : 0 ≤ s ∧ s ≤ 1) (h1 : c.2.1 1 s = 1) : ∃ c', fX6_restore s c = some ((c'.1 0).1 0 6 0, c') ∧ copyR (c.1 (9 + s)) (c'.1 0) ∧ JI (n + 1) c' := by
  obtain ⟨T, C, To, m, a1, a2, I⟩ := h
  obtain ⟨c1, r1, e1, e2, e3⟩ := ext_restore I hs h1
  obtain ⟨r, c', m', e6, -, hr, C', To', hh, J⟩ := iv_restore I (s := s) (by omega)
  subst e2
  have q := (Prod.mk.inj (Option.some.inj (e1.symm.trans e6))).2
  subst q
  exact ⟨c1, e1, e3, T + 100, C', To', m', by omega, by omega, J⟩
/-- undo() restores what was there, and the call then tells the same -/
theorem undone_ok {w a b t n r v : Int} {c c1 : cR} {f : cR → Option (Int × cR)} {g : mR → Option (Int × mR)} {F : hR → Option (Int × hR)} (o : OP f g F) (he : ∀ c : cR, (c.1 0).1 0 6 0 = t → fL_turn w a b c = f c) (hn : n ≤ 400) (hc : JJ n c) (ht : (c.1 0).1 0 6 0 = t) (e1 : f c = some (r, c1)) (hr : wR r) (x : Ext c c1 r) (hx : ¬ (-5 ≤ r ∧ r ≤ -1)) (h1 : JJ (n + 1) c1) (hv : ∀ c2 : cR, sameH (c.1 0) (c2.1 0) → ∃ c', fL_view c2 = some (v, c') ∧ AimC c2 c') : ∃ c4, fL_isUndone w a b r v c1 = some (1, c4) ∧ JJ (n + 3) c4 := by
  have k1 := h1.1.chg
  obtain ⟨-, -, x3⟩ := x
  rcases x3 with ⟨q1, q2, -⟩ | ⟨-, x4, x5⟩
  · exact absurd ⟨q1, q2⟩ hx
  have k0 := hc.1.chg
  have hp : 1 ≤ c1.2.1 0 4 := by
    split at x4 <;> omega
  obtain ⟨c2, e2, k2, q2, j2⟩ := h1.1.undo hp
  have s2 : sameH (c.1 0) (c2.1 0) := (sameH.copy x5).tr (sameH.copy q2)
  obtain ⟨c3, e3, a3⟩ := hv c2 s2
  have s3 : sameH (c.1 0) (c3.1 0) := s2.tr (sameH.aims a3.2.2)
  have j3 : JJ (n + 1 + 1) c3 := ⟨j2.aim a3, s3.2.1 hc.2⟩
  obtain ⟨r4, c4, e4, hr4, hm, x4', j4⟩ := JJ.step o j3 (by omega)
  have hrr : r4 = r := JI.same o hc.1 (by omega) j3.1 (by omega) s3 e1 e4
  subst hrr
  have k3 : c3.2.1 0 4 = c1.2.1 0 4 - 1 := by rw [a3.1]; exact k2
  have k4 : c4.2.1 0 4 = c1.2.1 0 4 := by
    rcases x4'.2.2 with ⟨q1, q2, -⟩ | ⟨-, y4, -⟩
    · exact absurd ⟨q1, q2⟩ hx
    · rw [if_pos (by omega)] at y4
      omega
  refine ⟨c4, ?_, j4.up (by omega)⟩
  rw [fL_isUndone, cnt_10, cr_some, e2, cl_some, gd_pos (by omega), if_pos rfl, cnt_10, cr_some, k2, gd_pos (by omega), if_pos rfl, e3, cl_some, if_pos rfl, he c3 (s3.2.2.1.trans ht), e4, cl_some, gd_pos (by omega), if_pos rfl, cnt_10, cr_some, k4, gd_pos (by omega), if_pos rfl]
/-- what was saved is restored as it was -/
theorem saved_ok {a b n : Int} (ha : wR a) (hb : wR b) (hn : n ≤ 400) {c : cR} (hc : JJ n c) : ∃ c', fL_isSaved a b c = some (1, c') ∧ JJ (n + 3) c' := by
  obtain ⟨v, v1, hv⟩ := hc.1.view (by omega)
  obtain ⟨c1, e1, a1⟩ := hv c (sameH.rf _)
  have s1 : sameH (c.1 0) (c1.1 0) := sameH.aims a1.2.2
  have j1 : JJ n c1 := hc.aim a1
  have hs := andI_rng (a := a) (b := 1) (by omega)
  obtain ⟨c2, e2, h2, k2, q2, f2, j2⟩ := j1.1.save hs
  have jj2 : JJ (n + 1) c2 := ⟨j2, by rw [h2]; exact j1.2⟩
  have d1 := j1.1.day
  have d2 := j2.day
  obtain ⟨u, eu, bu⟩ := up_ok b (n := 14) (by omega)
  obtain ⟨f, g, F, o, he⟩ := to_turn (t := (c2.1 0).1 0 6 0) (w := u) (a := b) (b := a) (by omega) hb ha d2
  obtain ⟨r3, c3, e3, hr3, hm3, x3, j3⟩ := JJ.step o jj2 (by omega)
  have f3 : c3.2.1 1 (andI a 1) = 1 := (x3.2.1 _).trans f2
  have h9 : c3.1 (9 + andI a 1) = c2.1 (9 + andI a 1) := x3.1 _ (by omega)
  obtain ⟨c4, e4, q4, j4⟩ := j3.1.restore hs f3
  rw [h9] at q4
  have s4 : sameH (c.1 0) (c4.1 0) := (s1.tr (sameH.copy q2)).tr (sameH.copy q4)
  have d4 := j4.day
  have k1 := j1.1.chg
  obtain ⟨c5, e5, a5⟩ := hv c4 s4
  refine ⟨c5, ?_, JJ.up (n := n + 1 + 1 + 1) ⟨j4.aim a5, (s4.tr (sameH.aims a5.2.2)).2.1 hc.2⟩ (by omega)⟩
  rw [fL_isSaved, e1, cl_some, cnt_10, cr_some, e2, cl_some, cnt_0, cr_some, h2, gd_pos (by omega), if_pos rfl, cnt_10, cr_some, k2, gd_pos (by omega), if_pos rfl, eu, cr_some, he c2 rfl, e3, cl_some, e4, cl_some, cnt_0, cr_some, gd_pos (by omega), if_pos rfl, e5, cl_some, if_pos rfl]
theorem JJ.fc {n : Int} {c : cR} {A : Option (Int × cR)} {B : mR → Option (Int × mR)} (h : JJ n c) (hn : n ≤ 400) (hk : ∀ T C To m, (0 ≤ T ∧ T ≤ 99999) → (0 ≤ C ∧ C + 1 + (c.1 0).1 0 5 0 ≤ 512) → Inv T C To c m → fcOK T c m A (B m)) : ∃ r c', A = some (r, c') ∧ c'.1 0 = c.1 0 ∧ c'.2 = c.2 ∧ JJ n c' := by
  obtain ⟨⟨T, C, To, m, a1, a2, I⟩, hb⟩ := h
  have io := I.ord
  obtain ⟨r, c', m', e1, -, -, e2⟩ := hk T C To m (by omega) (by omega) I
  have h0 : c'.1 0 = c.1 0 := e2.1 0 (by omega)
  exact ⟨r, c', e1, h0, e2.2.1, ⟨T, C, To, m', a1, a2, I.fc e2⟩, by rw [h0]; exact hb⟩
/-- what is asked about days to come changes nothing -/
theorem asks_ok {a b n : Int} (hn : n ≤ 400) {c : cR} (hc : JJ n c) : ∃ c', fL_asks a b c = some (1, c') ∧ JJ n c' := by
  obtain ⟨v, v1, hv⟩ := hc.1.view (by omega)
  obtain ⟨c1, e1, a1⟩ := hv c (sameH.rf _)
  have s1 : sameH (c.1 0) (c1.1 0) := sameH.aims a1.2.2
  have j1 : JJ n c1 := hc.aim a1
  obtain ⟨u4, eu4, bu4⟩ := up_ok a (n := 4) (by omega)
  obtain ⟨u30, eu30, bu30⟩ := up_ok b (n := 30) (by omega)
  obtain ⟨u5, eu5, bu5⟩ := up_ok b (n := 5) (by omega)
  have w3 := andI_wR b 3
  obtain ⟨r2, c2, e2, h2, k2, j2⟩ := j1.fc (A := fX6_balanceIn u4 (1 + u30) c1) (B := fX7_balanceIn u4 (1 + u30)) hn (fun T C To m hT hC I => ls_balanceIn (C := C) (by omega) hC I.1 I.2.1 (I.room (by omega)) (by omega) (by omega))
  obtain ⟨r3, c3, e3, h3, k3, j3⟩ := j2.fc (A := fX6_ahead u4 (1 + u30) (andI b 3) c2) (B := fX7_ahead u4 (1 + u30) (andI b 3)) hn (fun T C To m hT hC I => ls_ahead (C := C) (by omega) hC I.1 I.2.1 (I.room (by omega)) (by omega) (by omega) w3)
  obtain ⟨r4, c4, e4, h4, k4, j4⟩ := j3.fc (A := fX6_leastDeposit u4 (1 + u5) c3) (B := fX7_leastDeposit u4 (1 + u5)) hn (fun T C To m hT hC I => ls_leastDeposit (C := C) (by omega) hC I.1 I.2.1 (I.room (by omega)) (by omega) (by omega))
  have s4 : sameH (c.1 0) (c4.1 0) := s1.tr (sameH.of (h4.trans (h3.trans h2)))
  obtain ⟨c5, e5, a5⟩ := hv c4 s4
  have k5 : c5.2.1 0 4 = c1.2.1 0 4 := by rw [a5.1, k4, k3, k2]
  have kc := j1.1.chg
  refine ⟨c5, ?_, j4.aim a5⟩
  rw [fL_asks, e1, cl_some, cnt_10, cr_some, eu4, cr_some, eu30, cr_some, e2, cl_some, cr_some, cr_some, e3, cl_some, cr_some, eu5, cr_some, e4, cl_some, e5, cl_some, if_pos rfl, cnt_10, cr_some, k5, gd_pos (by omega), if_pos rfl]

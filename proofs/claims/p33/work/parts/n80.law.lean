/-! ===== the law: each turn holds, so all do ===== -/
theorem cell_ok {ln : Nat} {xs : Int → Int} {k : Int} (hln : ln ≤ 260) (hk : 0 ≤ k ∧ k < (ln : Int)) : fL_cell ln xs k = some (xs k) := by
  unfold fL_cell
  rw [gd_pos (by omega), if_neg (by omega), gd_pos (by omega)]
section LB
variable {ln : Nat} {xs : Int → Int} {rec29 : Int → Int → cR → Option (Int × cR)} {u k x a b w v n : Int} {c : cR}
theorem lb_246 (hc : JJ n c) : fL_law_b246 ln xs rec29 u k c = rec29 u (k + 1) c := by
  obtain ⟨T, hk⟩ := hc.1.ok
  rw [fL_law_b246, bl_ok hk hc.2, cr_some, gd_pos (by omega), if_neg (by omega), io_ok hk, cl_some, gd_pos (by omega), if_neg (by omega)]
theorem lb_225 (hn : n ≤ 400) (hc : JJ n c) : ∃ c', fL_law_b225 ln xs rec29 u k x a b c = rec29 u (k + 1) c' ∧ JJ n c' := by
  have w96 := andI_wR x 96
  by_cases g : andI x 96 = 32
  · obtain ⟨c1, e1, j1⟩ := asks_ok (a := a) (b := b) hn hc
    refine ⟨c1, ?_, j1⟩
    rw [fL_law_b225, gd_pos w96, if_pos g, e1, cl_some, gd_pos (by omega), if_neg (by omega), lb_246 j1]
  · refine ⟨c, ?_, hc⟩
    rw [fL_law_b225, gd_pos w96, if_neg g, lb_246 hc]
theorem lb_206 (hn : n ≤ 390) (ha : wR a) (hb : wR b) (hc : JJ n c) : ∃ c', fL_law_b206 ln xs rec29 u k x a b c = rec29 u (k + 1) c' ∧ JJ (n + 3) c' := by
  have w96 := andI_wR x 96
  by_cases g : andI x 96 = 0
  · obtain ⟨c1, e1, j1⟩ := saved_ok ha hb (by omega) hc
    obtain ⟨c2, e2, j2⟩ := lb_225 (ln := ln) (xs := xs) (rec29 := rec29) (u := u) (k := k) (x := x) (a := a) (b := b) (by omega) j1
    refine ⟨c2, ?_, j2⟩
    rw [fL_law_b206, gd_pos w96, if_pos g, e1, cl_some, gd_pos (by omega), if_neg (by omega), e2]
  · obtain ⟨c2, e2, j2⟩ := lb_225 (ln := ln) (xs := xs) (rec29 := rec29) (u := u) (k := k) (x := x) (a := a) (b := b) (by omega) hc
    refine ⟨c2, ?_, j2.up (by omega)⟩
    rw [fL_law_b206, gd_pos w96, if_neg g, e2]
theorem lb_79 (hn : n ≤ 380) (ha : wR a) (hb : wR b) (hw : wR w) (hc : JJ n c) : ∃ c', fL_law_b79 ln xs rec29 u k x a b w c = rec29 u (k + 1) c' ∧ JJ (n + 6) c' := by
  obtain ⟨v, v1, hv⟩ := hc.1.view (by omega)
  obtain ⟨c1, e1, a1⟩ := hv c (sameH.rf _)
  have s1 : sameH (c.1 0) (c1.1 0) := sameH.aims a1.2.2
  have j1 : JJ n c1 := hc.aim a1
  have hv1 : ∀ c2 : cR, sameH (c1.1 0) (c2.1 0) → ∃ c', fL_view c2 = some (v, c') ∧ AimC c2 c' := fun c2 s => hv c2 (s1.tr s)
  obtain ⟨f, g, F, o, he⟩ := to_turn (t := (c1.1 0).1 0 6 0) hw ha hb j1.1.day
  obtain ⟨r, c2, e2, hr, hm, x2, j2⟩ := JJ.step o j1 (by omega)
  have k1 := j1.1.chg
  have w16 := andI_wR x 16
  by_cases hx : -5 ≤ r ∧ r ≤ -1
  · have h2 : c2.1 0 = c1.1 0 ∧ c2.2.1 0 4 = c1.2.1 0 4 := by
      rcases x2.2.2 with ⟨-, -, q1, q2⟩ | ⟨q, -⟩
      · exact ⟨q1, q2⟩
      · exact absurd hx q
    obtain ⟨c3, e3, a3⟩ := hv1 c2 (sameH.of h2.1)
    have k3 : c3.2.1 0 4 = c1.2.1 0 4 := by rw [a3.1]; exact h2.2
    obtain ⟨c4, e4, j4⟩ := lb_206 (ln := ln) (xs := xs) (rec29 := rec29) (u := u) (k := k) (x := x) (by omega) ha hb (j2.aim a3)
    refine ⟨c4, ?_, j4.up (by omega)⟩
    rw [fL_law_b79, e1, cl_some, cnt_10, cr_some, he c1 rfl, e2, cl_some, gd_pos hr, if_neg (by omega), fL_law_b119, gd_pos hr, if_neg (by omega), gd_pos (by omega), if_pos rfl, e3, cl_some, if_pos rfl, cnt_10, cr_some, k3, gd_pos (by omega), if_pos rfl]
    exact e4
  · have k2 : c2.2.1 0 4 = (if c1.2.1 0 4 < 6 then c1.2.1 0 4 + 1 else 6) := by
      rcases x2.2.2 with ⟨q1, q2, -⟩ | ⟨-, q, -⟩
      · exact absurd ⟨q1, q2⟩ hx
      · exact q
    have E : ∀ t1 : Int, wR t1 → c2.2.1 0 4 = t1 → ∃ c', fL_law_b176 ln xs rec29 u k x a b w v r (c2.2.1 0 4) t1 c2 = rec29 u (k + 1) c' ∧ JJ (n + 6) c' := fun t1 h1 q => by
      by_cases g16 : andI x 16 = 0
      · obtain ⟨c4, e4, j4⟩ := undone_ok o he (by omega) j1 rfl e2 hr x2 hx j2 hv1
        obtain ⟨c5, e5, j5⟩ := lb_206 (ln := ln) (xs := xs) (rec29 := rec29) (u := u) (k := k) (x := x) (by omega) ha hb j4
        refine ⟨c5, ?_, j5.up (by omega)⟩
        rw [fL_law_b176, gd_pos (by omega), if_pos q, gd_pos w16, if_pos g16, e4, cl_some, gd_pos (by omega), if_neg (by omega)]
        exact e5
      · obtain ⟨c5, e5, j5⟩ := lb_206 (ln := ln) (xs := xs) (rec29 := rec29) (u := u) (k := k) (x := x) (by omega) ha hb j2
        refine ⟨c5, ?_, j5.up (by omega)⟩
        rw [fL_law_b176, gd_pos (by omega), if_pos q, gd_pos w16, if_neg g16]
        exact e5
    have E2 : ∃ c', fL_law_b154 ln xs rec29 u k x a b w v (c1.2.1 0 4) r c2 = rec29 u (k + 1) c' ∧ JJ (n + 6) c' := by
      by_cases g6 : 6 ≤ c1.2.1 0 4
      · rw [if_neg (by omega)] at k2
        obtain ⟨c', q1, q2⟩ := E 6 (by omega) k2
        exact ⟨c', by rw [fL_law_b154, cnt_10, cr_some, gd_pos (by omega), if_pos g6]; exact q1, q2⟩
      · rw [if_pos (by omega)] at k2
        obtain ⟨c', q1, q2⟩ := E (c1.2.1 0 4 + 1) (by omega) k2
        exact ⟨c', by rw [fL_law_b154, cnt_10, cr_some, gd_pos (by omega), if_neg g6]; exact q1, q2⟩
    obtain ⟨c', q1, q2⟩ := E2
    refine ⟨c', ?_, q2⟩
    rw [fL_law_b79, e1, cl_some, cnt_10, cr_some, he c1 rfl, e2, cl_some, gd_pos hr]
    by_cases h6 : r = -6
    · rw [if_pos h6, fL_law_b119, gd_pos hr, if_neg (by omega), gd_pos (by omega), if_neg (by omega)]
      exact q1
    · rw [if_neg h6, fL_law_b119, gd_pos hr, if_pos (by omega)]
      exact q1
end LB
theorem law_loop {ln : Nat} {xs : Int → Int} {u : Int} (hln : ln ≤ 260) (hu : 0 ≤ u ∧ u ≤ 32 ∧ 3 * u ≤ (ln : Int)) (hx : ∀ j, wR (xs j)) : ∀ (n fuel : Nat) (k : Int) (c : cR), k + n = u → 0 ≤ k → n < fuel → JJ (6 * k) c → ∃ c', fL_law_b29 ln xs fuel u k c = some (1, c') ∧ JJ (6 * u) c'
  | n, 0, _, _, _, _, h, _ => by omega
  | 0, fuel + 1, k, c, h1, h2, _, hc => by
    have : k = u := by omega
    subst this
    exact ⟨c, by rw [fL_law_b29, gd_pos (by omega), if_pos (by omega)], hc⟩
  | n + 1, fuel + 1, k, c, h1, h2, h3, hc => by
    have hgo : ∀ w : Int, wR w → ∃ c', fL_law_b79 ln xs (fL_law_b29 ln xs fuel) u k (xs (3 * k)) (xs (3 * k + 1)) (xs (3 * k + 2)) w c = some (1, c') ∧ JJ (6 * u) c' := fun w hw => by
      obtain ⟨c1, e1, j1⟩ := lb_79 (ln := ln) (xs := xs) (rec29 := fL_law_b29 ln xs fuel) (u := u) (k := k) (x := xs (3 * k)) (n := 6 * k) (by omega) (hx (3 * k + 1)) (hx (3 * k + 2)) hw hc
      obtain ⟨c2, e2, j2⟩ := law_loop hln hu hx n fuel (k + 1) c1 (by omega) (by omega) (by omega) (j1.up (by omega))
      exact ⟨c2, e1.trans e2, j2⟩
    by_cases g : 3 ≤ k
    · obtain ⟨c', q1, q2⟩ := hgo (andI (xs (3 * k)) 15) (andI_wR _ _)
      refine ⟨c', ?_, q2⟩
      rw [fL_law_b29, gd_pos (by omega), if_neg (by omega), cell_ok hln (by omega), cr_some, cell_ok hln (by omega), cr_some, cell_ok hln (by omega), cr_some, gd_pos (by omega), if_pos g]
      exact q1
    · obtain ⟨c', q1, q2⟩ := hgo 2 (by omega)
      refine ⟨c', ?_, q2⟩
      rw [fL_law_b29, gd_pos (by omega), if_neg (by omega), cell_ok hln (by omega), cr_some, cell_ok hln (by omega), cr_some, cell_ok hln (by omega), cr_some, gd_pos (by omega), if_neg g]
      exact q1
theorem JJ_0 : JJ 0 C0 := ⟨⟨0, 0, 0, M0, by omega, by omega, iv_start⟩, fun a ha => by
  have : a < 0 := ha.2
  omega⟩
theorem law_true (ln : Nat) (xs : Int → Int) (hln : ln ≤ 260) (hx : ∀ j, wR (xs j)) : ∃ c', fL_law_b8 ln xs C0 = some (1, c') ∧ phi (c', M0) ≤ 180224 := by
  have key : ∀ u : Int, 0 ≤ u ∧ u ≤ 32 ∧ 3 * u ≤ (ln : Int) → ∃ c', fL_law_b29 ln xs fuel0 u 0 C0 = some (1, c') ∧ phi (c', M0) ≤ 180224 := fun u hu => by
    obtain ⟨c', e, j⟩ := law_loop hln hu hx u.toNat fuel0 0 C0 (by omega) (by omega) (by show _ < 1000000; omega) JJ_0
    obtain ⟨⟨T, C, To, m, h1, h2, I⟩, -⟩ := j
    exact ⟨c', e, phi_le (fun k hk => I.room hk)⟩
  have hd : dvI (ln : Int) 3 = (ln : Int) / 3 := dvI_pos (by omega)
  unfold fL_law_b8
  rw [gd_pos (by omega), hd, gd_pos (by omega)]
  by_cases g : 32 ≤ (ln : Int) / 3
  · rw [if_pos g]
    exact key 32 (by omega)
  · rw [if_neg g, gd_pos (by omega)]
    exact key ((ln : Int) / 3) (by omega)

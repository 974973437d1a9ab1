/-! ===== a day's interest in step ===== -/
theorem dropR.rf {H : hR} (hs : 0 ≤ H.1 4 2 0) (hA : ∀ i : Int, 0 ≤ i ∧ i < H.1 4 2 0 → ¬ H.1 5 1 i = 0) : dropR H H := by
  have e : ∀ k : Nat, (k : Int) ≤ H.1 4 2 0 → rk (H.1 5 1) k = k := fun k hk => rk_all k (fun i hi => hA i (by omega))
  refine ⟨fun _ _ _ _ _ => rfl, rfl, ?_, fun i hi _ c _ => by rw [e i (by omega)]⟩
  rw [e _ (by omega)]
  omega
def SimB (F B K1 K : Int) (H : hR) (m : mR) : Prop := CorM H m ∧ Tot H (m.1 0) ∧ okN H ∧ okS4 F H ∧ okA H ∧ okO H ∧ okW H ∧ okU H ∧ MB B K1 K H
theorem Mid.simB {F B K1 K : Int} {H H' : hR} {m : mR} (h : Mid F (fun _ => 0) H m) (d : dropR H H') (hM : MB B K1 K H) : SimB F B K1 K H' m := by
  obtain ⟨⟨c1, c2, c3, c4, c5⟩, t, k1, k2, k3, k4, k5, k6⟩ := h
  obtain ⟨d1, d2, d3, d4⟩ := d
  have d : dropR H H' := ⟨d1, d2, d3, d4⟩
  have k1' := k1
  unfold okN at k1'
  obtain ⟨v1, v2⟩ := d.corW (by omega) c5
  have e : ∀ a f : Int, (H'.1 2 a f = H.1 2 a f) ∧ (H'.1 3 a f = H.1 3 a f) := fun a f => ⟨d1 _ _ _ (by omega) (by omega), d1 _ _ _ (by omega) (by omega)⟩
  have e0 : ∀ a : Int, H'.1 0 a 0 = H.1 0 a 0 := fun a => d1 _ _ _ (by omega) (by omega)
  have e1 : ∀ a : Int, H'.1 1 a 0 = H.1 1 a 0 := fun a => d1 _ _ _ (by omega) (by omega)
  have hr := rk_rng (A := H.1 5 1) (H.1 4 2 0).toNat
  have hs := fun a => d.sum (a := a) (n := (H.1 4 2 0).toNat)
  have hc := fun o => d.cnt (o := o) (n := (H.1 4 2 0).toNat)
  obtain ⟨g1, g2, g3, g4, g6, g7, g8, g9, g10⟩ := c1
  refine ⟨⟨⟨?_, ?_, ?_, ?_, v2, ?_, ?_, ?_, ?_, ?_⟩, c2.fr (fun a => d1 _ _ _ (by omega) (by omega)) (fun _ _ => rfl), c3.fr (fun a f _ => (e a f).1) (fun a => by rw [d2]) (fun _ _ => rfl) (fun _ => rfl) (by rw [g2]; omega), c4.fr (fun o f _ => (e o f).2) (fun _ _ => rfl) (by rw [g3]; omega), v1⟩, t.fr (e0 5) (fun o f _ => (e o f).2) (fun _ _ => rfl), ?_, k2.fr (fun t a q => d1 _ _ _ (by omega) (by omega)), k3.fr (e0 4) (fun a f _ => (e a f).1), k4.fr (e0 4) (e0 5) (fun o f _ => (e o f).2), d.okW (by omega) k5, ⟨fun a ha => ?_, fun o ho => ?_⟩, ⟨fun a ha f hf => ?_, fun a ha => ?_⟩⟩
  · rw [e0]; exact g1
  · rw [e0]; exact g2
  · rw [e0]; exact g3
  · rw [e1]; exact g4
  · rw [e0]; exact g6
  · rw [e0]; exact g7
  · rw [e0]; exact g8
  · rw [e0]; exact g9
  · rw [e1]; exact g10
  · unfold okN
    rw [e0, e0, d3, d1 4 1 0 (by omega) (by omega)]
    exact ⟨k1'.1, k1'.2.1, by omega, by omega, k1'.2.2.2.2⟩
  · rw [e0] at ha
    rw [(e a 11).1, d3, hs a (by omega)]
    exact k6.1 a ha
  · rw [e0] at ho
    rw [(e o 15).2, d3, hc o (by omega)]
    exact k6.2 o ho
  · rw [e0] at ha
    rw [(e a f).1]
    exact hM.1 a ha f hf
  · rw [e0] at ha
    rw [(e a 3).1, d2]
    exact hM.2 a ha
def intF (a : Int) (H H' : hR) : Prop := (∀ t x y : Int, ¬ (t = 2 ∧ x = a ∧ (y = 3 ∨ y = 10)) → H'.1 t x y = H.1 t x y) ∧ ∀ j : Int, ¬ j = a → H'.2 j = H.2 j
def intM (a : Int) (m m' : mR) : Prop := (∀ t j : Int, ¬ (t = 0 ∧ (j = 33 + 11 * a + 3 ∨ j = 33 + 11 * a + 10)) → m'.1 t j = m.1 t j) ∧ ∀ t j : Int, ¬ (t = 0 ∧ j = a) → m'.2 t j = m.2 t j
theorem ls_int1 {B K1 K t r a n : Int} {H : hR} {m : mR} (hc : CorM H m) (hN : okN H) (h0 : H.1 0 6 0 = t) (ht : 0 ≤ t ∧ t ≤ 1094) (h9 : H.1 0 9 0 = r) (hr : 0 ≤ r ∧ r ≤ 1000) (ha : 0 ≤ a ∧ a < H.1 0 4 0) (hB3 : -B ≤ H.1 2 a 3 ∧ H.1 2 a 3 ≤ B) (hB10 : -B ≤ H.1 2 a 10 ∧ H.1 2 a 10 ≤ B) (hB : 0 ≤ B ∧ B ≤ 4611686018427387904) (ho : owV (H.2 a) n) (hn : n ≤ K1 * 2 ^ 80) (hq : -H.1 2 a 3 * 2 ^ 80 + n ≤ K * 2 ^ 80) (hK : 0 ≤ K1 ∧ K1 ≤ K ∧ K ≤ 281474976710656) :
    ∃ H' m', (∀ fuel : Nat, fX2_chargeInterest_b35 (fuel + 1) (FP.fdiv (FP.i2f (iI r)) 1148846080) (if mLast (mOf t) = t then 1 else 0) a H = fX2_chargeInterest_b35 fuel (FP.fdiv (FP.i2f (iI r)) 1148846080) (if mLast (mOf t) = t then 1 else 0) (a + 1) H') ∧ fX7_owes a m = some ((), m') ∧ CorM H' m' ∧ intF a H H' ∧ intM a m m' ∧ (-(B + (K + K / 256 + 2)) ≤ H'.1 2 a 3 ∧ H'.1 2 a 3 ≤ B + (K + K / 256 + 2)) ∧ (-(B + (K + K / 256 + 2)) ≤ H'.1 2 a 10 ∧ H'.1 2 a 10 ≤ B + (K + K / 256 + 2)) ∧ ∃ n', owV (H'.2 a) n' ∧ n' ≤ (K + K / 256 + 2) * 2 ^ 80 ∧ -H'.1 2 a 3 * 2 ^ 80 + n' ≤ (K + K / 256 + 2) * 2 ^ 80 := by
  have hN' := hN
  unfold okN at hN'
  obtain ⟨rt1, rt2, -⟩ := rate_dv hr
  have e0 : m.1 0 0 = t := hc.1.1.trans h0
  have e11 : m.1 0 11 = r := hc.1.2.2.2.2.2.2.2.2.1.trans h9
  have c3 := hc.at ha (f := 3) (by omega)
  have eo : m.2 0 a = H.2 a := (hc.2.2.1 a (by rw [hc.1.2.1]; exact ha)).2
  have h0n := ho.1
  have hmo := mOf_in ht
  have hml := m_rng (m := mOf t) (by omega)
  -- what is added
  have st1 : ∃ H1 m1 n1, (∀ fuel : Nat, fX2_chargeInterest_b35 (fuel + 1) (FP.fdiv (FP.i2f (iI r)) 1148846080) (if mLast (mOf t) = t then 1 else 0) a H = fX2_chargeInterest_b85 (fX2_chargeInterest_b35 fuel) (FP.fdiv (FP.i2f (iI r)) 1148846080) (if mLast (mOf t) = t then 1 else 0) a a H1) ∧ fX7_owes a m = fX7_owes_b46 a m1 ∧ CorM H1 m1 ∧ H1.1 = H.1 ∧ m1.1 = m.1 ∧ (∀ j : Int, ¬ j = a → H1.2 j = H.2 j) ∧ (∀ t j : Int, ¬ (t = 0 ∧ j = a) → m1.2 t j = m.2 t j) ∧ m1.2 0 a = H1.2 a ∧ owV (H1.2 a) n1 ∧ n1 ≤ (K + K / 256 + 2) * 2 ^ 80 ∧ -H.1 2 a 3 * 2 ^ 80 + n1 ≤ (K + K / 256 + 2) * 2 ^ 80 := by
    by_cases g : 0 ≤ H.1 2 a 3
    · refine ⟨H, m, n, fun fuel => ?_, ?_, hc, rfl, rfl, fun _ _ => rfl, fun _ _ _ => rfl, eo, ho, by omega, by omega⟩
      · rw [fX2_chargeInterest_b35, gd_pos (by omega), if_neg (by omega), gd_pos (by omega), gd_pos (by omega), if_pos g]
      · unfold fX7_owes
        rw [ev_money (by omega), cr_some, Int.add_zero, c3, e11, rt1, gd_pos rt2, gd_pos (by omega), if_pos g]
    · have hd : 0 ≤ -H.1 2 a 3 ∧ -H.1 2 a 3 ≤ K := by omega
      obtain ⟨i1, i2, i3, i4, i5⟩ := int_add (r := r) (d := -H.1 2 a 3) ho (by omega) (by omega) hr
      unfold yrOf at i1 i2 i3 i4 i5
      refine ⟨hD H a (FP.dadd (H.2 a) (FP.ddiv (FP.dmul (FP.l2d (jL (-(H.1 2 a 3)))) (FP.f2d (FP.fdiv (FP.i2f (iI r)) 1148846080))) 4645128764097822720)), mD m 0 a (FP.dadd (H.2 a) (FP.ddiv (FP.dmul (FP.l2d (jL (-(H.1 2 a 3)))) (FP.f2d (FP.fdiv (FP.i2f (iI r)) 1148846080))) 4645128764097822720)), _, fun fuel => ?_, ?_, hc.owe, rfl, rfl, fun j hj => up1_n _ _ hj, fun t j hj => ?_, ?_, by rw [show (hD H a (FP.dadd (H.2 a) (FP.ddiv (FP.dmul (FP.l2d (jL (-(H.1 2 a 3)))) (FP.f2d (FP.fdiv (FP.i2f (iI r)) 1148846080))) 4645128764097822720))).2 a = _ from up1_p _ _ _]; exact i5, by omega, by omega⟩
      · rw [fX2_chargeInterest_b35, gd_pos (by omega), if_neg (by omega), gd_pos (by omega), gd_pos (by omega), if_neg g, gd_pos i1, gd_pos i2, gd_pos i3, gd_pos i4, bnd_eq]
      · unfold fX7_owes
        rw [ev_money (by omega), cr_some, Int.add_zero, c3, e11, rt1, gd_pos rt2, gd_pos (by omega), if_neg g, gd_pos (by omega), gd_pos i1, gd_pos i2, gd_pos i3, eo, gd_pos i4, gd_pos (by omega), bnd_eq]
      · rw [mD_2, if_neg hj]
      · rw [mD_2, if_pos ⟨rfl, rfl⟩]
        exact (up1_p _ _ _).symm
  obtain ⟨H1, m1, n1, s1, s2, s3, s4, s5, s6, s7, s8, s9, s10, s11⟩ := st1
  have em0 : fX7_owes_b46 a m1 = if mLast (mOf t) = t then (cl (fX7_moves a 0 (-(d2lI (H1.2 a))) m1) fun r90 m90 => cl (fX7_moves a 7 (d2lI (H1.2 a)) m90) fun r99 m99 => gd (okD (FP.dsub (m99.2 0 a) (FP.l2d (jL (d2lI (H1.2 a)))))) <| bnd (mD m99 0 a (FP.dsub (m99.2 0 a) (FP.l2d (jL (d2lI (H1.2 a)))))) fun m113 => some ((), m113)) else some ((), m1) := by
    unfold fX7_owes_b46
    rw [ev_today, cr_some, s5, e0, em_monthOf ht, cr_some, cr_some, em_start (by omega), cr_some, em_length (by omega), cr_some, gd_pos (by omega), s8]
    by_cases g : mLast (mOf t) = t
    · rw [if_pos (by omega), if_pos g, gd_pos (by omega)]
      have : ∀ k : Unit → mR → Option (Unit × mR), True := fun _ => trivial
      congr 1
      funext r90 m90
      congr 1
      funext r99 m99
      rw [gd_pos (by omega)]
      congr 1
      rw [gd_pos (by omega)]
    · rw [if_neg (by omega), if_neg g]
  by_cases g : mLast (mOf t) = t
  · rw [if_pos g] at s1 em0
    obtain ⟨k1, k2, k3, k4⟩ := int_take s9 (by omega)
    have f3 : H1.1 2 a 3 = H.1 2 a 3 := by rw [s4]
    have f10 : H1.1 2 a 10 = H.1 2 a 10 := by rw [s4]
    have c10 : m1.1 0 (33 + 11 * a + 10) = H.1 2 a 10 := by
      rw [s5]
      exact hc.at ha (f := 10) (by omega)
    have c3' : m1.1 0 (33 + 11 * a + 3) = H.1 2 a 3 := by rw [s5]; exact c3
    have hN1 : okN H1 := by
      unfold okN at hN ⊢
      rw [s4]
      exact hN
    have a1 : 0 ≤ a ∧ a < 8 := by omega
    have z1 := s3.acc hN1 (a := a) (f := 3) (v := H.1 2 a 3 - d2lI (H1.2 a)) a1 (by omega)
    have z2 := z1.acc (hN1.fr (hS_n _ (by omega)) (hS_n _ (by omega)) (hS_n _ (by omega)) (hS_n _ (by omega))) (a := a) (f := 10) (v := H.1 2 a 10 + d2lI (H1.2 a)) a1 (by omega)
    have z3 := z2.owe (a := a) (v := FP.dsub (H1.2 a) (FP.l2d (jL (d2lI (H1.2 a)))))
    refine ⟨_, _, fun fuel => ?_, ?_, z3, ⟨fun t x y q => ?_, fun j hj => ?_⟩, ⟨fun t j q => ?_, fun t j q => ?_⟩, ?_, ?_, n1 - d2lI (H1.2 a) * 2 ^ 80, ?_, by omega, ?_⟩
    · rw [if_pos g, s1]
      unfold fX2_chargeInterest_b85 fX0_takeInterest
      rw [gd_pos (by omega), if_neg (by omega), f3, bnd_eq, hS_n H1 (show ¬ ((2 : Int) = 2 ∧ a = a ∧ (10 : Int) = 3) by omega), f10, bnd_eq]
      rw [hS_2, hS_2, gd_pos k3, bnd_eq, cl_some]
    · rw [s2, em0, ev_moves (by omega) (by omega), cl_some, show (3 : Int) + 0 = 3 from rfl, c3', show H.1 2 a 3 + -d2lI (H1.2 a) = H.1 2 a 3 - d2lI (H1.2 a) by omega, ev_moves (by omega) (by omega), cl_some, show (3 : Int) + 7 = 10 from rfl, mS_n m1 (by omega), c10, mS_2, mS_2, s8, gd_pos k3, bnd_eq]
    · rw [hD_1, hS_n _ (by omega), hS_n _ (by omega), s4]
    · rw [hD_2, if_neg hj, hS_2, hS_2]
      exact s6 j hj
    · rw [mD_1, mS_n _ (by omega), mS_n _ (by omega), s5]
    · rw [mD_2, if_neg q, mS_2, mS_2]
      exact s7 t j q
    · rw [hD_1, hS_n _ (by omega), hS_p]
      omega
    · rw [hD_1, hS_p]
      omega
    · rw [hD_2, if_pos rfl]
      exact k4
    · rw [hD_1, hS_n _ (by omega), hS_p]
      omega
  · rw [if_neg g] at s1 em0
    refine ⟨H1, m1, fun fuel => ?_, ?_, s3, ⟨fun t x y _ => by rw [s4], s6⟩, ⟨fun t j _ => by rw [s5], s7⟩, by rw [s4]; omega, by rw [s4]; omega, n1, s9, s10, by rw [s4]; exact s11⟩
    · rw [if_neg g, s1]
      unfold fX2_chargeInterest_b85
      rw [gd_pos (by omega), if_pos rfl]
    · rw [s2, em0]
def intA (H H' : hR) : Prop := ∀ t x y : Int, ¬ (t = 2 ∧ (y = 3 ∨ y = 10)) → H'.1 t x y = H.1 t x y
def rowsI (m m' : mR) : Prop := (∀ t : Int, ¬ t = 0 → m'.1 t = m.1 t) ∧ (∀ t : Int, ¬ t = 0 → m'.2 t = m.2 t) ∧ ∀ j : Int, ¬ (33 ≤ j ∧ j ≤ 120) → m'.1 0 j = m.1 0 j
/-- all accounts -/
theorem ls_ints {B K1 K t r : Int} (ht : 0 ≤ t ∧ t ≤ 1094) (hr : 0 ≤ r ∧ r ≤ 1000) (hB : 0 ≤ B ∧ B ≤ 4611686018427387904) (hK : 0 ≤ K1 ∧ K1 ≤ K ∧ K ≤ 281474976710656) : ∀ (k fC fM : Nat) (a : Int) (H : hR) (m : mR), a + k = H.1 0 4 0 → 0 ≤ a → k < fC → k < fM → CorM H m → okN H → H.1 0 6 0 = t → H.1 0 9 0 = r →
    (∀ x : Int, 0 ≤ x ∧ x < H.1 0 4 0 → ∀ f : Int, 3 ≤ f ∧ f ≤ 10 → (a ≤ x → -B ≤ H.1 2 x f ∧ H.1 2 x f ≤ B) ∧ -(B + (K + K / 256 + 2)) ≤ H.1 2 x f ∧ H.1 2 x f ≤ B + (K + K / 256 + 2)) →
    (∀ x : Int, 0 ≤ x ∧ x < H.1 0 4 0 → ∃ n : Int, owV (H.2 x) n ∧ (a ≤ x → n ≤ K1 * 2 ^ 80 ∧ -H.1 2 x 3 * 2 ^ 80 + n ≤ K * 2 ^ 80) ∧ n ≤ (K + K / 256 + 2) * 2 ^ 80 ∧ -H.1 2 x 3 * 2 ^ 80 + n ≤ (K + K / 256 + 2) * 2 ^ 80) →
    ∃ H' m', fX2_chargeInterest_b35 fC (FP.fdiv (FP.i2f (iI r)) 1148846080) (if mLast (mOf t) = t then 1 else 0) a H = some ((), H') ∧ fX7_passesDay_b82 fM a m = some ((), mS m' 0 0 (t + 1)) ∧ CorM H' m' ∧ intA H H' ∧ rowsI m m' ∧ MB (B + (K + K / 256 + 2)) (K + K / 256 + 2) (K + K / 256 + 2) H'
  | k, 0, _, _, _, _, _, _, h, _, _, _, _, _, _, _ => by omega
  | k, _ + 1, 0, _, _, _, _, _, _, h, _, _, _, _, _, _ => by omega
  | 0, fC + 1, fM + 1, a, H, m, hk, ha0, _, _, hc, hN, h0, h9, hf, hn => by
    have k1 := hN
    unfold okN at k1
    have e1 : m.1 0 1 = H.1 0 4 0 := hc.1.2.1
    have e0 : m.1 0 0 = t := hc.1.1.trans h0
    refine ⟨H, m, ?_, ?_, hc, fun _ _ _ _ => rfl, ⟨fun _ _ => rfl, fun _ _ => rfl, fun _ _ => rfl⟩, ⟨fun x hx f hf' => (hf x hx f hf').2, fun x hx => ?_⟩⟩
    · rw [fX2_chargeInterest_b35, gd_pos (by omega), if_pos (by omega)]
    · rw [fX7_passesDay_b82, gd_pos (by omega), gd_pos (by omega), if_pos (by omega), bnd_eq, e0]
    · obtain ⟨n, q1, q2, q3, q4⟩ := hn x hx
      exact ⟨n, q1, q3, q4⟩
  | k + 1, fC + 1, fM + 1, a, H, m, hk, ha0, hfC, hfM, hc, hN, h0, h9, hf, hn => by
    have k1 := hN
    unfold okN at k1
    have e1 : m.1 0 1 = H.1 0 4 0 := hc.1.2.1
    obtain ⟨n, q1, q2, -, -⟩ := hn a (by omega)
    obtain ⟨H1, m1, y1, y2, y3, y4, y5, y6, y7, n', y8, y9, y10⟩ := ls_int1 hc hN h0 ht h9 hr (a := a) (by omega) ((hf a (by omega) 3 (by omega)).1 (by omega)) ((hf a (by omega) 10 (by omega)).1 (by omega)) hB q1 (q2 (by omega)).1 (q2 (by omega)).2 hK
    have f4 : H1.1 0 4 0 = H.1 0 4 0 := y4.1 _ _ _ (by omega)
    obtain ⟨H', m', z1, z2, z3, z4, z5, z6⟩ := ls_ints ht hr hB hK k fC fM (a + 1) H1 m1 (by omega) (by omega) (by omega) (by omega) y3 (hN.fr f4 (y4.1 _ _ _ (by omega)) (y4.1 _ _ _ (by omega)) (y4.1 _ _ _ (by omega))) ((y4.1 _ _ _ (by omega)).trans h0) ((y4.1 _ _ _ (by omega)).trans h9) (fun x hx f hf' => by
      rw [f4] at hx
      by_cases g : x = a ∧ (f = 3 ∨ f = 10)
      · obtain ⟨g1, g2⟩ := g
        subst g1
        rcases g2 with rfl | rfl
        · exact ⟨fun c => by omega, y6⟩
        · exact ⟨fun c => by omega, y7⟩
      · rw [y4.1 2 x f (by omega)]
        have := hf x hx f hf'
        exact ⟨fun c => this.1 (by omega), this.2⟩) (fun x hx => by
      rw [f4] at hx
      by_cases g : x = a
      · subst g
        exact ⟨n', y8, fun c => by omega, y9, y10⟩
      · rw [y4.2 x g, y4.1 2 x 3 (by omega)]
        obtain ⟨w, w1, w2, w3⟩ := hn x hx
        exact ⟨w, w1, fun c => w2 (by omega), w3⟩)
    refine ⟨H', m', ?_, ?_, z3, fun t x y q => (z4 t x y q).trans (y4.1 t x y (by omega)), ⟨fun t q => ?_, fun t q => ?_, fun j q => ?_⟩, z6⟩
    · rw [y1, z1]
    · rw [fX7_passesDay_b82, gd_pos (by omega), gd_pos (by omega), if_neg (by omega), y2, cl_some, z2]
    · rw [z5.1 t q]
      funext j
      exact y5.1 t j (by omega)
    · rw [z5.2.1 t q]
      funext j
      exact y5.2 t j (by omega)
    · rw [z5.2.2 j q]
      exact y5.1 0 j (by omega)

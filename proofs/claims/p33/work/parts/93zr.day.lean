/-! ===== a day in step ===== -/
theorem debtB_mono : ∀ (k n : Nat), debtB n ≤ debtB (n + k)
  | 0, n => Int.le_refl _
  | k + 1, n => by
    have h := debtB_mono k n
    have h2 := debtB_pos (n + k)
    have : debtB (n + (k + 1)) = debtB (n + k) + debtB (n + k) / 128 + 134217728 := rfl
    omega
theorem debtB_top : debtB 1096 ≤ 90000000000000 := by decide +kernel
theorem debtB_le {t : Int} (h : 0 ≤ t ∧ t ≤ 1096) : 0 ≤ debtB t.toNat ∧ debtB t.toNat ≤ 90000000000000 := by
  have h1 := debtB_mono (1096 - t.toNat) t.toNat
  rw [show t.toNat + (1096 - t.toNat) = 1096 by omega] at h1
  have := debtB_top
  exact ⟨debtB_pos _, by omega⟩
theorem Mid.cal {F : Int} {x : Int → Int} {H : hR} {m : mR} (h : Mid F x H m) : calC H (cB H) ∧ calM m (cB H) := by
  have ks := h.2.2.2.1
  unfold okS4 at ks
  have e12 : m.1 0 12 = H.1 1 2 0 := h.1.1.2.2.2.2.2.2.2.2
  refine ⟨ec_cal ks.2.1, fun d hd => ?_⟩
  rw [em_isBz hd (by rw [e12]; exact ks.2.1) h.1.2.1.1]
  unfold mB cB biz
  rw [e12, h.1.2.1.2 d hd]
def zX (C : Int) (H : hR) : Int := 10 + 2 * H.1 1 1 0 + 5 * C - phW ((H.1 0 6 0 + H.1 1 2 0) % 7) - 7 * futH (holB H) (H.1 0 6 0)
def uX (C : Int) (H : hR) : Int := 17 + 2 * H.1 1 1 0 + 5 * C
def okXd (C : Int) (H : hR) : Prop := H.1 1 1 0 ≤ C ∧ okX (H.1 0 6 0) (zX C H) (uX C H) H ∧ okDue (H.1 0 6 0) H
/-- entries that were tried on a business day -/
theorem okX.biz {t Z Z' U : Int} {b : Int → Bool} {H1 H4 : hR} (h : okX t Z U H1) (hO : okO H1) (hZ : Z ≤ Z' + 2) (hZ0 : 0 ≤ Z') (ht : 0 ≤ t ∧ t ≤ 1094) (hb : b t = true) (ha : ∀ o : Int, 0 ≤ o ∧ o < H1.1 0 5 0 → aimed b H1 o) (hn : ∀ o : Int, 0 ≤ o ∧ o < H1.1 0 5 0 → H1.1 3 o 11 = 0 → t < H1.1 3 o 19 ∧ H1.1 3 o 19 ≤ 1094)
    (h5 : H4.1 0 5 0 = H1.1 0 5 0) (hf : ∀ o f : Int, f = 3 ∨ f = 4 ∨ f = 6 ∨ f = 9 ∨ f = 10 ∨ f = 11 ∨ f = 16 → H4.1 3 o f = H1.1 3 o f)
    (he : ∀ j : Int, 0 ≤ j ∧ j < H4.1 4 2 0 → ∃ i : Int, (0 ≤ i ∧ i < H1.1 4 2 0) ∧ H4.1 5 0 j = H1.1 5 0 i ∧ H4.1 5 2 j = H1.1 5 2 i ∧ H4.1 5 4 j = H1.1 5 4 i + 1)
    (he2 : ∀ j k : Int, 0 ≤ j → j ≤ k → k < H4.1 4 2 0 → ∃ i l : Int, (0 ≤ i ∧ i ≤ l ∧ l < H1.1 4 2 0) ∧ (j < k → i < l) ∧ H4.1 5 0 j = H1.1 5 0 i ∧ H4.1 5 2 j = H1.1 5 2 i ∧ H4.1 5 4 j = H1.1 5 4 i + 1 ∧ H4.1 5 0 k = H1.1 5 0 l ∧ H4.1 5 2 k = H1.1 5 2 l) : okX (t + 1) Z' U H4 := by
  obtain ⟨h1, h2, h3⟩ := h
  have qK : ∀ i j : Int, nomK H4 i j = nomK H1 i j := fun i j => nomK_fr (fun f q => hf _ _ (by omega)) j
  refine ⟨fun j hj hk => ?_, fun o ho => ?_, fun j k a b' c d e => ?_⟩
  · obtain ⟨i, i1, i2, i3, i4⟩ := he j hj
    rw [i2, hf _ 3 (by omega)] at hk
    rw [i2, i3, i4, qK, hf _ 16 (by omega)]
    have := h1 i i1 hk
    omega
  · rw [h5] at ho
    rw [hf o 3 (by omega), hf o 9 (by omega), hf o 10 (by omega), hf o 11 (by omega), hf o 16 (by omega), qK]
    obtain ⟨a1, a2, a3⟩ := h2 o ho
    refine ⟨fun c1 c2 => ?_, a2, a3⟩
    obtain ⟨w1, w2, w3⟩ := hO o ho
    unfold okC at w3
    obtain ⟨g1, g2, g3⟩ := ha o ho
    obtain ⟨n1, n2⟩ := hn o ho c2
    have e1 := ixF_K (b := b) (k := H1.1 3 o 16) w1 (by omega) c1
    rw [e1] at g3
    have hd := dtF_rng (b := b) (k := H1.1 3 o 16) w1 (by omega)
    have hr := nomO_rng (b := b) (k := H1.1 3 o 16) w1 (by omega)
    have eK := nomO_K (b := b) (H := H1) (o := o) (k := H1.1 3 o 16) (by have := w1.1; omega)
    rcases hd with hd | ⟨d1, d2, d3⟩
    · omega
    · have eK : nomO b H1 o (H1.1 3 o 16) = nomK H1 o (H1.1 3 o 16) := by
        by_cases q : 1094 < nomK H1 o (H1.1 3 o 16)
        · rw [if_pos q] at eK
          exact absurd eK d1
        · rw [if_neg q] at eK
          exact eK
      by_cases q : nomK H1 o (H1.1 3 o 16) ≤ t
      · rw [eK] at d1 d2 hr
        have := shZ_gt (b := b) (d := nomK H1 o (H1.1 3 o 16)) (r := H1.1 3 o 7) (by omega) (by omega) t q (by omega)
        rw [hb] at this
        cases this
      · omega
  · obtain ⟨i, l, ⟨i1, i2, i3⟩, i4, i5, i6, i7, i8, i9⟩ := he2 j k a b' c
    rw [i5, i8] at d
    rw [i5, hf _ 3 (by omega)] at e
    rw [i6, i7, i9]
    have := h3 i l i1 i2 i3 d e
    omega
theorem okX.non {t Z Z' U : Int} {H1 H4 : hR} (h : okX t Z U H1) (hw : okW H1) (hZ : Z + 5 ≤ Z') (h5 : H4.1 0 5 0 = H1.1 0 5 0) (h42 : H4.1 4 2 0 = H1.1 4 2 0) (hc : ∀ c i : Int, H4.1 5 c i = H1.1 5 c i) (hf : ∀ o f : Int, f = 3 ∨ f = 4 ∨ f = 6 ∨ f = 9 ∨ f = 10 ∨ f = 11 ∨ f = 16 → H4.1 3 o f = H1.1 3 o f) : okX (t + 1) Z' U H4 := by
  have h0 : okX (t + 1) Z' U H1 := by
    obtain ⟨h1, h2, h3⟩ := h
    refine ⟨fun i hi hk => ?_, fun o ho => ⟨fun c1 c2 => ?_, (h2 o ho).2⟩, h3⟩
    · have := h1 i hi hk
      omega
    · have := (h2 o ho).1 c1 c2
      omega
  exact h0.fr hw h42 h5 (fun c i _ => hc c i) (fun o f _ q => hf o f q)
def rows6 (m m' : mR) : Prop := (∀ t : Int, ¬ t = 0 → ¬ t = 1 → ¬ t = 6 → m'.1 t = m.1 t) ∧ m'.2 1 = m.2 1 ∧ ∀ k : Int, ¬ k = 8 → m'.1 6 k = m.1 6 k
theorem ls_day {T C : Int} {H : hR} {m : mR} (hT : 0 ≤ T ∧ T ≤ 100000) (h : Sim T H m) (hX : okXd C H) (hC : 0 ≤ C ∧ C + H.1 0 5 0 ≤ 512) (ha : ∀ o : Int, 0 ≤ o ∧ o < H.1 0 5 0 → aimed (cB H) H o) (ht : H.1 0 6 0 < 1094) :
    ∃ H' m', (∀ (fuel : Nat) (x1 x2 x3 : Int), wR x1 → wR x3 → x3 < x1 → wR (andI (H'.1 0 11 0) x2) → fX2_passDays_b31 (fuel + 1) x1 x2 x3 H = if andI (H'.1 0 11 0) x2 = 0 then fX2_passDays_b31 fuel x1 x2 (x3 + 1) H' else some (H.1 0 6 0, H')) ∧ fX7_passesDay m = some ((), m') ∧ Sim T H' m' ∧ okXd C H' ∧ (∀ o : Int, 0 ≤ o ∧ o < H'.1 0 5 0 → aimed (cB H') H' o) ∧ H'.1 0 6 0 = H.1 0 6 0 + 1 ∧ flg H' m' ∧ H'.1 0 5 0 = H.1 0 5 0 ∧ H'.1 0 4 0 = H.1 0 4 0 ∧ rows6 m m' := by
  generalize htt : H.1 0 6 0 = t at *
  obtain ⟨hol, hx, hdu⟩ := hX
  rw [htt] at hx hdu
  have ks := h.2.2.2.1
  unfold okS at ks
  have hsz := h.2.2.1
  unfold okN at hsz
  have e3 : m.1 0 3 = H.1 1 1 0 := h.1.1.2.2.2.1
  have hhol : 0 ≤ H.1 1 1 0 ∧ H.1 1 1 0 ≤ 20 := by
    have h1 := h.1.2.1.1.1
    have h2 := h.1.2.1.1.2.1
    omega
  have hfut := hol_cnt h.1.2.1 e3 (lo := t) (n := (1095 - t).toNat) (by omega) (by omega)
  have hfut0 := futH_rng (holB H) t
  have hph := phW_rng (w := (t + H.1 1 2 0) % 7) (by omega)
  have hfd : futH (holB H) t ≤ H.1 1 1 0 := hfut
  have hZ : zX C H = 10 + 2 * H.1 1 1 0 + 5 * C - phW ((t + H.1 1 2 0) % 7) - 7 * futH (holB H) t := by
    unfold zX
    rw [htt]
  have hU : uX C H = 17 + 2 * H.1 1 1 0 + 5 * C := rfl
  have hrun : ∀ d : Int, t < d → d ≤ 1094 → (∀ j : Int, t < j → j ≤ d → cB H j = false) → 5 * (d + 1 - t) + zX C H ≤ uX C H := fun d d1 d2 d3 => by
    have r1 := nonB_run (wd := H.1 1 2 0) (hb := holB H) (d - t).toNat (t + 1) (fun j j1 j2 => d3 j (by omega) (by omega))
    have r2 := phW_s (t + H.1 1 2 0)
    have r3 := phW_rng (w := (t + 1 + ((d - t).toNat : Nat) + H.1 1 2 0) % 7) (by omega)
    have r4 := futH_s (b := holB H) (t := t) (by omega)
    have r5 : futH (holB H) (t + 1) = cntB (holB H) (t + 1) (d - t).toNat + cntB (holB H) (t + 1 + ((d - t).toNat : Nat)) (1094 - d).toNat := by
      unfold futH
      rw [show (1095 - (t + 1)).toNat = (d - t).toNat + (1094 - d).toNat by omega, cntB_add]
    have r6 := cntB_rng (b := holB H) (lo := t + 1 + ((d - t).toNat : Nat)) (1094 - d).toNat
    have r7 := bI_rng (holB H t)
    rw [show t + 1 + H.1 1 2 0 = t + H.1 1 2 0 + 1 by omega] at r1
    by_cases g : (t + H.1 1 2 0) % 7 < 5
    · have := r2.1 g
      omega
    · have := r2.2 g
      omega
  -- the day begins
  have h0 : Sim T (hS H 0 11 0 0) (mS m 6 8 0) := ⟨(h.1.own h.2.2.1 (fun t a b q1 q2 q3 q4 => hS_n H (by omega)) rfl).oth (mS_t _ _ _ (by omega)) (mS_t _ _ _ (by omega)) rfl, h.2.1.fr (hS_n H (by omega)) (fun o f q => hS_n H (by omega)) (fun k q => mS_n m (by omega)), h.2.2.fr (Int.le_refl _) (fun t x y q1 q2 q3 q4 => hS_n H (by omega)) rfl⟩
  have hb0 : cB (hS H 0 11 0 0) = cB H := cB_fr (hS_n H (by omega)) (fun a => hS_n H (by omega))
  have f05 : (hS H 0 11 0 0).1 0 5 0 = H.1 0 5 0 := hS_n H (by omega)
  obtain ⟨H1, m1, p1, p2, p3, p4, p5, p6, p7, p8, p9⟩ := ls_dueAll (T := T) (C := C) (t := t) (Z := zX C H) (U := uX C H) (b := cB H) hC.1 (by omega) (by omega) (by omega) hrun (H.1 0 5 0).toNat fuel0 fuel0 0 (hS H 0 11 0 0) (mS m 6 8 0) (by rw [f05]; omega) (by omega) (by show _ < 1000000; omega) (by show _ < 1000000; omega) h0 hb0 ((hS_n H (by omega)).trans htt) (by rw [f05]; exact hC.2) (fun i hi => (ha i (by rw [f05] at hi; exact hi)).fr (fun f => hS_n H (by omega))) (hx.fr h.2.2.2.2.2.2.1 (hS_n H (by omega)) f05 (fun c i _ => hS_n H (by omega)) (fun o f _ _ => hS_n H (by omega))) (fun i hi => by
    rw [hS_n H (by omega)] at hi
    left
    rw [hS_n H (by omega)]
    exact hdu i hi) (fun i hi => by omega)
  rw [f05] at p8 p9
  have g0 : ∀ t' x y : Int, t' = 0 ∨ t' = 1 ∨ t' = 6 → ¬ (t' = 0 ∧ x = 11) → H1.1 t' x y = H.1 t' x y := fun t' x y q1 q2 => by rw [p6.1 _ _ _ (by omega) (by omega) (by omega) (by omega), hS_n H (by omega)]
  have g11 : H1.1 0 11 0 = 0 := by rw [p6.1 _ _ _ (by omega) (by omega) (by omega) (by omega), hS_p]
  have k1 := p3.2.2.1
  have k1' := k1
  unfold okN at k1'
  have hA1 : ∀ i : Int, 0 ≤ i ∧ i < H1.1 4 2 0 → ¬ H1.1 5 1 i = 0 := fun i hi => by
    have := (p3.2.2.2.2.2.2.1.1 i hi).2.1
    omega
  have t1 : H1.1 0 6 0 = t := (g0 _ _ _ (by omega) (by omega)).trans htt
  have hdb := debtB_le (t := t) (by omega)
  have mid1 := p3.mid
  rw [t1] at mid1
  have mb1 : MB (monB T t) (debtB t.toNat) (debtB t.toNat + 1000000) H1 := by
    obtain ⟨-, -, -, -, -, -, k7, k8⟩ := p3.2.2
    refine ⟨fun a q f hf => ?_, fun a q => ?_⟩
    · have := k7 a q f hf
      rw [t1] at this
      omega
    · obtain ⟨n, n1, n2, n3⟩ := k8 a q
      rw [t1] at n2 n3
      exact ⟨n, n1, n2, by omega⟩
  have hBm : monB T t = 100000000 * T + 2251799813685248 * t := rfl
  -- sweeps
  obtain ⟨H2, m2, s1, s2, s3, s4, s5, s6⟩ := ls_sweeps (F := 8400 * t) (K1 := debtB t.toNat) (K := debtB t.toNat + 1000000) (by omega) (H1.1 0 4 0).toNat fuel0 fuel0 0 (monB T t) H1 m1 (by omega) (by omega) (by show _ < 1000000; omega) (by show _ < 1000000; omega) mid1 hA1 mb1 (by
    have : ((H1.1 0 4 0).toNat : Int) * (8400000000 + (debtB t.toNat + 1000000)) ≤ 8 * (8400000000 + 90000001000000) := Int.mul_le_mul (by omega) (by omega) (by omega) (by omega)
    omega)
  have hB1 : ((H1.1 0 4 0).toNat : Int) * (8400000000 + (debtB t.toNat + 1000000)) ≤ 8 * (8400000000 + 90000001000000) := Int.mul_le_mul (by omega) (by omega) (by omega) (by omega)
  have hB1' : 0 ≤ ((H1.1 0 4 0).toNat : Int) * (8400000000 + (debtB t.toNat + 1000000)) := Int.mul_nonneg (by omega) (by omega)
  generalize ((H1.1 0 4 0).toNat : Int) * (8400000000 + (debtB t.toNat + 1000000)) = BS at *
  have hbz := bI_rng (cB H t)
  have cb2 : cB H2 = cB H := by
    rw [cB_fr (s5.1 _ _ _ (by omega)) (fun a => s5.1 _ _ _ (by omega)), cB_fr (p6.1 _ _ _ (by omega) (by omega) (by omega) (by omega)) (fun a => p6.1 _ _ _ (by omega) (by omega) (by omega) (by omega)), hb0]
  obtain ⟨bC, bM⟩ := s3.cal
  rw [cb2] at bC bM
  have t2 : H2.1 0 6 0 = t := (s5.1 _ _ _ (by omega)).trans t1
  have tm2 : m2.1 0 0 = t := s3.1.1.1.trans t2
  have z11 : flg H2 m2 := flg.of (v := 0) (by rw [s5.1 _ _ _ (by omega), g11]) (by rw [s6.1 6 (by omega), p7.1 6 (by omega) (by omega), mS_p]) (by omega)
  have hA2 : ∀ i : Int, 0 ≤ i ∧ i < H2.1 4 2 0 → ¬ H2.1 5 1 i = 0 := fun i hi => by
    rw [s5.1 _ _ _ (by omega)] at hi
    rw [s5.1 _ _ _ (by omega)]
    exact hA1 i hi
  -- payments, if it is a business day
  have pay : ∃ H4 m4, (∀ rec : hR → Option (Int × hR), (if bI (cB H t) = 0 then rec H2 else cl (fX2_payWaiting H2) fun _ H74 => rec H74) = rec H4) ∧ restM m2 = fX7_passesDay_b82 fuel0 0 m4 ∧ SimB (8400 * t + 8400) (monB T t + BS + 8400000000) (debtB t.toNat) (debtB t.toNat + 1000000 + 84000000) H4 m4 ∧ (∀ t' a b : Int, t' = 0 ∧ ¬ a = 10 ∧ ¬ a = 11 ∨ t' = 1 ∨ t' = 6 ∨ (t' = 3 ∧ ¬ b = 12 ∧ ¬ b = 13 ∧ ¬ b = 15) → H4.1 t' a b = H2.1 t' a b) ∧ flg H4 m4 ∧ rowsP m2 m4 ∧ (∀ Z' : Int, (if cB H t = true then zX C H ≤ Z' + 2 ∧ 0 ≤ Z' else zX C H + 5 ≤ Z') → okX (t + 1) Z' (uX C H) H4) ∧ okDue (t + 1) H4 := by
    have er : restM m2 = if bI (cB H t) = 0 then fX7_passesDay_b82 fuel0 0 m2 else cl (fX7_paysAll m2) fun r77 m77 => fX7_passesDay_b82 fuel0 0 m77 := by
      unfold restM
      rw [ev_today, cr_some, tm2, bM t (by omega), cr_some, gd_pos (by omega)]
    have hx2 : okX t (zX C H) (uX C H) H2 := p4.fr p3.2.2.2.2.2.2.1 (s5.1 _ _ _ (by omega)) (s5.1 _ _ _ (by omega)) (fun c i _ => s5.1 _ _ _ (by omega)) (fun o f _ _ => s5.1 _ _ _ (by omega))
    cases hbt : cB H t
    · -- none
      refine ⟨H2, m2, fun rec => by rw [bI_f rfl, if_pos rfl], by rw [er, hbt, bI_f rfl, if_pos rfl], (s3.F (by omega)).simB (dropR.rf s3.2.2.1.2.2.1.1 hA2) (s4.to rfl (fun a q f hf => ?_) rfl (fun a q => Or.inr (by omega))), fun _ _ _ _ => rfl, z11, ⟨fun _ _ _ _ => rfl, rfl, fun _ _ => rfl⟩, fun Z' hZ' => ?_, fun i hi => ?_⟩
      · have := s4.1 a q f hf
        omega
      · have hZ' : zX C H + 5 ≤ Z' := by simpa using hZ'
        exact p4.non p3.2.2.2.2.2.2.1 hZ' (s5.1 _ _ _ (by omega)) (s5.1 _ _ _ (by omega)) (fun c i => s5.1 _ _ _ (by omega)) (fun o f _ => s5.1 _ _ _ (by omega))
      · rw [s5.1 4 2 0 (by omega)] at hi
        rw [s5.1 5 3 i (by omega)]
        exact p5 i hi
    · obtain ⟨H3, H4, m4, y1, y2, y3, y4, y5, y6, y7, y8, y9⟩ := ls_pays s3 hA2 s4 z11 (by omega) (by omega)
      have d42 : ∀ t' a b : Int, ¬ t' = 5 → ¬ (t' = 4 ∧ a = 2 ∧ b = 0) → H4.1 t' a b = H3.1 t' a b := y4.1
      have e342 : H3.1 4 2 0 = H1.1 4 2 0 := (y7.1 _ _ _ (by omega) (by omega) (by omega) (by omega)).trans (s5.1 _ _ _ (by omega))
      have hsr := rk_rng (A := H3.1 5 1) (H3.1 4 2 0).toNat
      have en : ∀ j : Int, 0 ≤ j ∧ j < H4.1 4 2 0 → ∃ i : Nat, (i : Int) < H1.1 4 2 0 ∧ rk (H3.1 5 1) i = j ∧ ¬ H3.1 5 1 i = 0 ∧ H4.1 5 0 j = H1.1 5 0 i ∧ H4.1 5 2 j = H1.1 5 2 i ∧ H4.1 5 3 j = H1.1 5 3 i ∧ H4.1 5 4 j = H1.1 5 4 i + 1 := fun j hj => by
        rw [y4.2.2.1] at hj
        obtain ⟨i, i1, i2, i3⟩ := rk_sur (A := H3.1 5 1) _ j hj.1 hj.2
        have c := fun c hc => y4.2.2.2 i (by omega) i2 c hc
        rw [i3] at c
        have e1 : ∀ c : Int, c = 0 ∨ c = 2 ∨ c = 3 → H3.1 5 c i = H1.1 5 c i := fun c hc => (y7.1 _ _ _ (by omega) (by omega) (by omega) (by omega)).trans (s5.1 _ _ _ (by omega))
        have e4 := (y9 i (by rw [s5.1 4 2 0 (by omega)]; omega) i2).2
        rw [s5.1 5 4 i (by omega)] at e4
        refine ⟨i, by omega, i3, i2, ?_, ?_, ?_, ?_⟩
        · rw [c 0 (by omega), e1 0 (by omega)]
        · rw [c 2 (by omega), e1 2 (by omega)]
        · rw [c 3 (by omega), e1 3 (by omega)]
        · rw [c 4 (by omega), e4]
      refine ⟨H4, m4, fun rec => by rw [bI_t rfl, if_neg (by omega), y1, cl_some], by rw [er, hbt, bI_t rfl, if_neg (by omega), y2, cl_some], y3.simB y4 y5, fun t' a b q => ?_, ?_, y8, fun Z' hZ' => ?_, fun j hj => ?_⟩
      · rw [d42 _ _ _ (by omega) (by omega), y7.1 _ _ _ (by omega) (by omega) (by omega) (by omega)]
      · exact y6.fr (d42 _ _ _ (by omega) (by omega)) rfl
      · have hZ' : zX C H ≤ Z' + 2 ∧ 0 ≤ Z' := by simpa using hZ'
        have f4 : ∀ o f : Int, f = 3 ∨ f = 4 ∨ f = 6 ∨ f = 9 ∨ f = 10 ∨ f = 11 ∨ f = 16 → H4.1 3 o f = H1.1 3 o f := fun o f q => by rw [d42 _ _ _ (by omega) (by omega), y7.1 _ _ _ (by omega) (by omega) (by omega) (by omega), s5.1 _ _ _ (by omega)]
        refine p4.biz (b := cB H) p3.2.2.2.2.2.1 hZ'.1 hZ'.2 (by omega) hbt (fun o q => p8 o (by rw [g0 0 5 0 (by omega) (by omega)] at q; exact q)) (fun o q => p9 o (by rw [g0 0 5 0 (by omega) (by omega)] at q; exact q)) (by rw [d42 _ _ _ (by omega) (by omega), y7.1 _ _ _ (by omega) (by omega) (by omega) (by omega), s5.1 _ _ _ (by omega)]) f4 (fun j hj => ?_) (fun j k q1 q2 q3 => ?_)
        · obtain ⟨i, i1, i2, i3, i4, i5, i6, i7⟩ := en j hj
          exact ⟨i, ⟨by omega, i1⟩, i4, i5, i7⟩
        · obtain ⟨i, i1, i2, i3, i4, i5, i6, i7⟩ := en j (by omega)
          obtain ⟨l, l1, l2, l3, l4, l5, l6, l7⟩ := en k (by omega)
          have hil : i ≤ l ∧ (j < k → i < l) := by
            constructor
            · by_cases q : i ≤ l
              · exact q
              · have := rk_lt (A := H3.1 5 1) (n := l) (k := i) (by omega) l3
                omega
            · intro q
              by_cases q' : i < l
              · exact q'
              · have := rk_le (A := H3.1 5 1) (n := l) (k := i) (by omega)
                omega
          exact ⟨i, l, ⟨by omega, by omega, l1⟩, fun q => by have := hil.2 q; omega, i4, i5, i7, l4, l5⟩
      · obtain ⟨i, i1, i2, i3, i4, i5, i6, i7⟩ := en j hj
        rw [i6]
        exact p5 i (by omega)
  obtain ⟨H4, m4, q1, q2, q3, q4, q5, q6, q7, q8⟩ := pay
  obtain ⟨w1, w2, w3, w4, w5, w6, w7, w8, w9⟩ := q3
  have t4 : H4.1 0 6 0 = t := (q4 _ _ _ (by omega)).trans t2
  have w4' := w4
  unfold okS4 at w4'
  have w3' := w3
  unfold okN at w3'
  -- interest
  obtain ⟨H5, m5, r1, r2, r3, r4, r5, r6⟩ := ls_ints (B := monB T t + BS + 8400000000) (K1 := debtB t.toNat) (K := debtB t.toNat + 1000000 + 84000000) (t := t) (r := H4.1 0 9 0) (by omega) (by omega) (by omega) (by omega) (H4.1 0 4 0).toNat fuel0 fuel0 0 H4 m4 (by omega) (by omega) (by show _ < 1000000; omega) (by show _ < 1000000; omega) w1 w3 t4 rfl (fun x hx f hf => by
    have := w9.1 x hx f hf
    exact ⟨fun _ => this, by omega⟩) (fun x hx => by
    obtain ⟨n, n1, n2, n3⟩ := w9.2 x hx
    exact ⟨n, n1, fun _ => ⟨n2, n3⟩, by omega, by omega⟩)
  have rt2 := (rate_dv (r := H4.1 0 9 0) (by omega)).2.1
  have hmo := mOf_in (d := t) (by omega)
  have ech : fX2_chargeInterest H4 = some ((), H5) := by
    unfold fX2_chargeInterest
    rw [gd_pos rt2, t4, ec_monthOf (by omega), cr_some, ec_last (by omega), cr_some, gd_pos (by have := m_rng (m := mOf t) (by omega); omega)]
    by_cases g : mLast (mOf t) = t
    · rw [if_pos g] at r1 ⊢
      exact r1
    · rw [if_neg g] at r1 ⊢
      exact r1
  have t5 : H5.1 0 6 0 = t := (r4 _ _ _ (by omega)).trans t4
  have f5 : ∀ t' x y : Int, ¬ (t' = 0 ∧ x = 6 ∧ y = 0) → (hS H5 0 6 0 (t + 1)).1 t' x y = H5.1 t' x y := fun t' x y q => hS_n H5 q
  have f54 : ∀ t' x y : Int, ¬ (t' = 0 ∧ x = 6 ∧ y = 0) → ¬ (t' = 2 ∧ (y = 3 ∨ y = 10)) → (hS H5 0 6 0 (t + 1)).1 t' x y = H4.1 t' x y := fun t' x y a b => (f5 _ _ _ a).trans (r4 _ _ _ b)
  have fH : ∀ t' x y : Int, t' = 0 ∧ (x = 4 ∨ x = 5) ∨ t' = 1 ∨ t' = 6 → (hS H5 0 6 0 (t + 1)).1 t' x y = H.1 t' x y := fun t' x y q => by
    rw [f54 _ _ _ (by omega) (by omega), q4 _ _ _ (by omega), s5.1 _ _ _ (by omega), g0 _ _ _ (by omega) (by omega)]
  have hhb : holB (hS H5 0 6 0 (t + 1)) = holB H := by
    funext d
    unfold holB
    rw [fH _ _ _ (by omega)]
  have hcb : cB (hS H5 0 6 0 (t + 1)) = cB H := cB_fr (fH _ _ _ (by omega)) (fun a => fH _ _ _ (by omega))
  have hZ' : zX C (hS H5 0 6 0 (t + 1)) = 10 + 2 * H.1 1 1 0 + 5 * C - phW ((t + 1 + H.1 1 2 0) % 7) - 7 * futH (holB H) (t + 1) := by
    unfold zX
    rw [hhb, hS_p, fH 1 1 0 (by omega), fH 1 2 0 (by omega)]
  have hU' : uX C (hS H5 0 6 0 (t + 1)) = uX C H := by
    unfold uX
    rw [fH 1 1 0 (by omega)]
  have hZZ : (if cB H t = true then zX C H ≤ zX C (hS H5 0 6 0 (t + 1)) + 2 ∧ 0 ≤ zX C (hS H5 0 6 0 (t + 1)) else zX C H + 5 ≤ zX C (hS H5 0 6 0 (t + 1))) := by
    have r4 := futH_s (b := holB H) (t := t) (by omega)
    have r5 := futH_rng (holB H) (t + 1)
    have r8 := phW_s (t + H.1 1 2 0)
    have r9 := phW_rng (w := (t + H.1 1 2 0 + 1) % 7) (by omega)
    have r10 := bI_rng (holB H t)
    rw [hZ, hZ', show t + 1 + H.1 1 2 0 = t + H.1 1 2 0 + 1 by omega]
    unfold cB biz
    by_cases g : (t + H.1 1 2 0) % 7 < 5
    · have g1 := r8.1 g
      rw [decide_eq_true g]
      cases hh : holB H t
      · rw [hh, bI_f rfl] at r4
        rw [if_pos (by rfl)]
        omega
      · rw [hh, bI_t rfl] at r4
        rw [if_neg (by decide)]
        omega
    · have g1 := r8.2 g
      rw [decide_eq_false g, if_neg (by rw [Bool.false_and]; decide)]
      omega
  have hK' : debtB t.toNat + 1000000 + 84000000 + (debtB t.toNat + 1000000 + 84000000) / 256 + 2 ≤ debtB (t + 1).toNat := by
    have : debtB (t + 1).toNat = debtB t.toNat + debtB t.toNat / 128 + 134217728 := by
      rw [show (t + 1).toNat = t.toNat + 1 by omega]
      rfl
    omega
  refine ⟨hS H5 0 6 0 (t + 1), mS m5 0 0 (t + 1), fun fuel x1 x2 x3 a1 a2 a3 a4 => ?_, ?_, ⟨r3.sc (w3.fr (r4 _ _ _ (by omega)) (r4 _ _ _ (by omega)) (r4 _ _ _ (by omega)) (r4 _ _ _ (by omega))) (by omega), w2.fr (f54 _ _ _ (by omega) (by omega)) (fun o f q => f54 _ _ _ (by omega) (by omega)) (fun k q => by rw [mS_n _ (by omega)]; exact r5.2.2 k (by omega)), ?_⟩, ⟨?_, ?_, ?_⟩, fun o q => ?_, hS_p _ _ _ _ _, ?_, fH _ _ _ (by omega), fH _ _ _ (by omega), ⟨fun t' a b c => ?_, ?_, fun k q => ?_⟩⟩
  · -- the class's day
    have e1 : fX2_makePaymentsDue (hS H 0 11 0 0) = some ((), H1) := p1
    have e2 : fX2_sweep H1 = some ((), H2) := s1
    have hb77 : fX2_passDays_b77 (fX2_passDays_b31 fuel) x1 x2 x3 H4 = if andI ((hS H5 0 6 0 (t + 1)).1 0 11 0) x2 = 0 then fX2_passDays_b31 fuel x1 x2 (x3 + 1) (hS H5 0 6 0 (t + 1)) else some (t, hS H5 0 6 0 (t + 1)) := by
      unfold fX2_passDays_b77
      rw [ech, cl_some, t5, bnd_eq, gd_pos a4, hS_p, show t + 1 - 1 = t by omega]
    rw [fX2_passDays_b31, gd_pos (by omega), if_neg (by omega), htt, gd_pos (by omega), if_neg (by omega), bnd_eq, e1, cl_some, e2, cl_some, t2, bC t (by omega), cr_some, gd_pos (by omega)]
    have := q1 (fun G => fX2_passDays_b77 (fX2_passDays_b31 fuel) x1 x2 x3 G)
    rw [this]
    exact hb77
  · unfold fX7_passesDay
    rw [bnd_eq, p2, s2, q2, r2]
  · refine ⟨w3.fr (f54 _ _ _ (by omega) (by omega)) (f54 _ _ _ (by omega) (by omega)) (f54 _ _ _ (by omega) (by omega)) (f54 _ _ _ (by omega) (by omega)), ?_, w5.fr (f54 _ _ _ (by omega) (by omega)) (fun a f q => f54 _ _ _ (by omega) (by omega)), w6.fr (f54 _ _ _ (by omega) (by omega)) (f54 _ _ _ (by omega) (by omega)) (fun o f q => f54 _ _ _ (by omega) (by omega)), w7.fr (f54 _ _ _ (by omega) (by omega)) (f54 _ _ _ (by omega) (by omega)) (fun c i _ => f54 _ _ _ (by omega) (by omega)), w8.fr w3 (f54 _ _ _ (by omega) (by omega)) (f54 _ _ _ (by omega) (by omega)) (f54 _ _ _ (by omega) (by omega)) (fun c i _ => f54 _ _ _ (by omega) (by omega)) (fun a => f54 _ _ _ (by omega) (by omega)) (fun o => ⟨f54 _ _ _ (by omega) (by omega), f54 _ _ _ (by omega) (by omega)⟩), fun a q f hf => ?_, fun a q => ?_⟩
    · unfold okS
      rw [hS_p, f54 1 2 0 (by omega) (by omega), f54 0 7 0 (by omega) (by omega), f54 0 8 0 (by omega) (by omega), f54 0 9 0 (by omega) (by omega), f54 0 10 0 (by omega) (by omega)]
      omega
    · rw [f5 _ _ _ (by omega)] at q
      have := r6.1 a q f hf
      rw [hS_p, f5 2 a f (by omega)]
      unfold monB at *
      omega
    · rw [f5 _ _ _ (by omega)] at q
      obtain ⟨n, n1, n2, n3⟩ := r6.2 a q
      rw [hS_p, f5 2 a 3 (by omega)]
      have c1 := Int.mul_le_mul_of_nonneg_right hK' (show (0 : Int) ≤ 2 ^ 80 by decide)
      exact ⟨n, n1, by omega, by omega⟩
  · rw [fH 1 1 0 (by omega)]
    exact hol
  · rw [hS_p, hU']
    exact (q7 _ hZZ).fr w7 (f54 _ _ _ (by omega) (by omega)) (f54 _ _ _ (by omega) (by omega)) (fun c i _ => f54 _ _ _ (by omega) (by omega)) (fun o f _ q => f54 _ _ _ (by omega) (by omega))
  · rw [hS_p]
    exact q8.fr (f54 _ _ _ (by omega) (by omega)) (fun i _ => f54 _ _ _ (by omega) (by omega))
  · rw [fH 0 5 0 (by omega)] at q
    rw [hcb]
    have a1 := p8 o q
    have e : ∀ f : Int, ¬ f = 12 → ¬ f = 13 → ¬ f = 15 → (hS H5 0 6 0 (t + 1)).1 3 o f = H1.1 3 o f := fun f c1 c2 c3 => by
      rw [f54 _ _ _ (by omega) (by omega), q4 _ _ _ (by omega), s5.1 _ _ _ (by omega)]
    unfold aimed at *
    rw [e 16 (by omega) (by omega) (by omega), e 17 (by omega) (by omega) (by omega), e 18 (by omega) (by omega) (by omega), e 19 (by omega) (by omega) (by omega), ixF_fr (H := H1) (fun f c => e f (by omega) (by omega) (by omega)), nomO_fr (H := H1) (fun f c => e f (by omega) (by omega) (by omega)), dtF_fr (H := H1) (fun f c => e f (by omega) (by omega) (by omega))]
    exact a1
  · exact q5.fr (f54 _ _ _ (by omega) (by omega)) (by rw [mS_n _ (by omega), r5.1 6 (by omega)])
  · rw [mS_t _ _ _ a, r5.1 t' a, q6.1 t' a b c, s6.1 t' a, p7.1 t' a b, mS_t _ _ _ c]
  · rw [mS_2, r5.2.1 1 (by omega), q6.2.1, s6.2, p7.2]
    rfl
  · rw [mS_n _ (by omega), r5.1 6 (by omega), q6.2.2 k q, s6.1 6 (by omega), p7.1 6 (by omega) (by omega), mS_n m (by omega)]

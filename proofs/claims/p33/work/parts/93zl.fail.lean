/-! ===== a try that fails, in step ===== -/
theorem pk_tag (o a n d f : Int) : pkW o a n d f 0 + 1196268651020288 = pkW o a n d (f + 1) 1 := by
  unfold pkW
  omega
theorem ls_fail {F B K1 K a o amt : Int} {x : Int → Int} {H : hR} {m : mR} {p : Nat} (h : Mid F x H m) (hx : ∀ i : Int, 0 ≤ x i ∧ x i ≤ 1) (hM : MB B K1 K H) (hB : 0 ≤ B ∧ B ≤ 4611686018427387904) (hp : (p : Int) < H.1 4 2 0) (ho : H.1 5 0 p = o) (ham : H.1 5 1 p = amt) (hA : ¬ amt = 0) (hx0 : x p = 0) (ha : H.1 3 o 0 = a) (hfl : flg H m) (hge : ¬ amt ≤ H.1 2 a 3 + H.1 2 a 0) :
    ∃ H' m', fX2_tryPayment p H = some ((), H') ∧ fX7_tries (rk (H.1 5 1) p) m = some ((), m') ∧ Mid (F + 1) (up1 x p 1) H' m' ∧ MB (B + 1000000) K1 (K + 10000) H' ∧ flg H' m' ∧ payF p H H' ∧ rowsP m m' := by
  have k1 := h.2.2.1
  unfold okN at k1
  have hroom := roomOK_rng k1.2.2.2.2
  have ks := h.2.2.2.1
  unfold okS4 at ks
  obtain ⟨v1, v2, v3, v4, v5⟩ := h.2.2.2.2.2.2.1.1 p (by omega)
  rw [ho] at v1
  rw [ham] at v2 v5
  obtain ⟨w1, w2, w3⟩ := h.2.2.2.2.2.1 o v1
  unfold okP at w2
  rw [ha] at w2
  obtain ⟨o1, o2, o3⟩ := h.2.2.2.2.1 a w2.1
  obtain ⟨p0, p1, p2, p3, p4, p5⟩ := MC.part h hx hp (by rw [ham]; exact hA)
  rw [ho] at p0
  rw [ham] at p1
  have hc := MC.atO h v1
  have c0 : m.1 0 (121 + 16 * o + 0) = a := (hc 0 (by omega)).trans ha
  have c1 : m.1 0 (121 + 16 * o + 1) = if H.1 3 o 1 = -6 then 8 else H.1 3 o 1 := hc 1 (by omega)
  have c12 : m.1 0 (121 + 16 * o + 12) = H.1 3 o 13 := hc 12 (by omega)
  have ca0 := MC.at h w2.1 (f := 0) (by omega)
  have ca3 := MC.at h w2.1 (f := 3) (by omega)
  have ca9 := MC.at h w2.1 (f := 9) (by omega)
  have mA3 := hM.1 a w2.1 3 (by omega)
  have mA9 := hM.1 a w2.1 9 (by omega)
  have n10 : m.1 0 10 = H.1 0 8 0 := h.1.1.2.2.2.2.2.2.1
  have n9 : m.1 0 9 = H.1 0 7 0 := h.1.1.2.2.2.2.2.1
  have hrk := rk_rng (A := H.1 5 1) p
  have hlt := rk_lt (A := H.1 5 1) (n := p) (k := (H.1 4 2 0).toNat) (by omega) (by rw [ham]; exact hA)
  have hrkn := rk_rng (A := H.1 5 1) (H.1 4 2 0).toNat
  have d1 := h.acc (a := a) (f := 3) (v := H.1 2 a 3 - H.1 0 8 0) w2.1 (by omega)
  have d2 := d1.acc (a := a) (f := 9) (v := H.1 2 a 9 + H.1 0 8 0) (by rw [hS_n H (by omega)]; exact w2.1) (by omega)
  have r9 : (hS H 2 a 3 (H.1 2 a 3 - H.1 0 8 0)).1 2 a 9 = H.1 2 a 9 := hS_n H (by omega)
  have r8 : (hS H 2 a 3 (H.1 2 a 3 - H.1 0 8 0)).1 0 8 0 = H.1 0 8 0 := hS_n H (by omega)
  have r30 : (hS H 2 a 3 (H.1 2 a 3 - H.1 0 8 0)).1 3 o 0 = a := (hS_n H (by omega)).trans ha
  have u9 : (mS m 0 (33 + 11 * a + 3) (H.1 2 a 3 - H.1 0 8 0)).1 0 (33 + 11 * a + 9) = H.1 2 a 9 := (mS_n m (by omega)).trans ca9
  have u10 : (mS m 0 (33 + 11 * a + 3) (H.1 2 a 3 - H.1 0 8 0)).1 0 10 = H.1 0 8 0 := (mS_n m (by omega)).trans n10
  have e1 : fX7_moves a 0 (-(H.1 0 8 0)) m = some ((), mS m 0 (33 + 11 * a + 3) (H.1 2 a 3 - H.1 0 8 0)) := by rw [ev_moves (by omega) (by omega), show (3 : Int) + 0 = 3 from rfl, ca3, show H.1 2 a 3 + -(H.1 0 8 0) = H.1 2 a 3 - H.1 0 8 0 by omega]
  have e2 : fX7_moves a 6 (H.1 0 8 0) (mS m 0 (33 + 11 * a + 3) (H.1 2 a 3 - H.1 0 8 0)) = some ((), mS (mS m 0 (33 + 11 * a + 3) (H.1 2 a 3 - H.1 0 8 0)) 0 (33 + 11 * a + 9) (H.1 2 a 9 + H.1 0 8 0)) := by rw [ev_moves (by omega) (by omega), show (3 : Int) + 6 = 9 from rfl, u9]
  have G2 : (hS (hS H 2 a 3 (H.1 2 a 3 - H.1 0 8 0)) 2 a 9 (H.1 2 a 9 + H.1 0 8 0)).1 0 10 0 = H.1 0 10 0 := by rw [hS_n _ (by omega), hS_n _ (by omega)]
  have d3 := d2.failS (orI (H.1 0 11 0) (shlI 1 a)) (orI (H.1 0 11 0) (shlI 1 a))
  -- the class up to the tries
  have hcl : fX2_tryPayment p H = cl (gd (0 ≤ (p : Int) ∧ (p : Int) < H.1 4 1 0 ∧ H.1 4 1 0 ≤ 2147483647) <| gd (wR (H.1 5 4 p + 1) ∧ wR (H.1 0 7 0)) <| if (H.1 0 7 0) ≤ (H.1 5 4 p + 1) then (cl (fX2_settle p (hS (hS (hS (hS (hS (hS H 2 a 3 (H.1 2 a 3 - H.1 0 8 0)) 2 a 9 (H.1 2 a 9 + H.1 0 8 0)) 0 10 0 (H.1 0 10 0 + 1)) 0 11 0 (orI (H.1 0 11 0) (shlI 1 a))) 5 4 p (H.1 5 4 p + 1)) 3 o 13 (H.1 3 o 13 + 1))) fun r132 H132 => some ((), H132)) else some ((), hS (hS (hS (hS (hS H 2 a 3 (H.1 2 a 3 - H.1 0 8 0)) 2 a 9 (H.1 2 a 9 + H.1 0 8 0)) 0 10 0 (H.1 0 10 0 + 1)) 0 11 0 (orI (H.1 0 11 0) (shlI 1 a))) 5 4 p (H.1 5 4 p + 1))) (fun r59 H59 => some ((), H59)) := by
    have t1 : fX2_failTry p H = (gd (0 ≤ (p : Int) ∧ (p : Int) < H.1 4 1 0 ∧ H.1 4 1 0 ≤ 2147483647) <| gd (wR (H.1 5 4 p + 1) ∧ wR (H.1 0 7 0)) <| if (H.1 0 7 0) ≤ (H.1 5 4 p + 1) then (cl (fX2_settle p (hS (hS (hS (hS (hS (hS H 2 a 3 (H.1 2 a 3 - H.1 0 8 0)) 2 a 9 (H.1 2 a 9 + H.1 0 8 0)) 0 10 0 (H.1 0 10 0 + 1)) 0 11 0 (orI (H.1 0 11 0) (shlI 1 a))) 5 4 p (H.1 5 4 p + 1)) 3 o 13 (H.1 3 o 13 + 1))) fun r132 H132 => some ((), H132)) else some ((), hS (hS (hS (hS (hS H 2 a 3 (H.1 2 a 3 - H.1 0 8 0)) 2 a 9 (H.1 2 a 9 + H.1 0 8 0)) 0 10 0 (H.1 0 10 0 + 1)) 0 11 0 (orI (H.1 0 11 0) (shlI 1 a))) 5 4 p (H.1 5 4 p + 1))) := by
      have q1 : (hS (hS H 2 a 3 (H.1 2 a 3 - H.1 0 8 0)) 2 a 9 (H.1 2 a 9 + H.1 0 8 0)).1 3 o 0 = a := by rw [hS_n _ (by omega)]; exact r30
      have q2 : ∀ v : Int, (hS (hS (hS H 2 a 3 (H.1 2 a 3 - H.1 0 8 0)) 2 a 9 (H.1 2 a 9 + H.1 0 8 0)) 0 10 0 v).1 3 o 0 = a := fun v => by rw [hS_n _ (by omega)]; exact q1
      have q3 : ∀ v : Int, (hS (hS (hS H 2 a 3 (H.1 2 a 3 - H.1 0 8 0)) 2 a 9 (H.1 2 a 9 + H.1 0 8 0)) 0 10 0 v).1 0 11 0 = H.1 0 11 0 := fun v => by rw [hS_n _ (by omega), hS_n _ (by omega), hS_n _ (by omega)]
      have q4 : ∀ v w : Int, (hS (hS (hS (hS H 2 a 3 (H.1 2 a 3 - H.1 0 8 0)) 2 a 9 (H.1 2 a 9 + H.1 0 8 0)) 0 10 0 v) 0 11 0 w).1 4 1 0 = H.1 4 1 0 := fun v w => by rw [hS_n _ (by omega), hS_n _ (by omega), hS_n _ (by omega), hS_n _ (by omega)]
      have q5 : ∀ v w : Int, (hS (hS (hS (hS H 2 a 3 (H.1 2 a 3 - H.1 0 8 0)) 2 a 9 (H.1 2 a 9 + H.1 0 8 0)) 0 10 0 v) 0 11 0 w).1 5 4 p = H.1 5 4 p := fun v w => by rw [hS_n _ (by omega), hS_n _ (by omega), hS_n _ (by omega), hS_n _ (by omega)]
      have q6 : ∀ v w z : Int, (hS (hS (hS (hS (hS H 2 a 3 (H.1 2 a 3 - H.1 0 8 0)) 2 a 9 (H.1 2 a 9 + H.1 0 8 0)) 0 10 0 v) 0 11 0 w) 5 4 p z).1 4 1 0 = H.1 4 1 0 := fun v w z => by rw [hS_n _ (by omega)]; exact q4 v w
      have q7 : ∀ v w z : Int, (hS (hS (hS (hS (hS H 2 a 3 (H.1 2 a 3 - H.1 0 8 0)) 2 a 9 (H.1 2 a 9 + H.1 0 8 0)) 0 10 0 v) 0 11 0 w) 5 4 p z).1 0 7 0 = H.1 0 7 0 := fun v w z => by rw [hS_n _ (by omega), hS_n _ (by omega), hS_n _ (by omega), hS_n _ (by omega), hS_n _ (by omega)]
      have q8 : ∀ v w z : Int, (hS (hS (hS (hS (hS H 2 a 3 (H.1 2 a 3 - H.1 0 8 0)) 2 a 9 (H.1 2 a 9 + H.1 0 8 0)) 0 10 0 v) 0 11 0 w) 5 4 p z).1 3 o 13 = H.1 3 o 13 := fun v w z => by rw [hS_n _ (by omega), hS_n _ (by omega), hS_n _ (by omega), hS_n _ (by omega), hS_n _ (by omega)]
      unfold fX2_failTry
      rw [gd_pos (by omega), ho, gd_pos (by omega), ha, gd_pos (by omega), gd_pos (by omega), bnd_eq, r30, gd_pos (by omega), r8, gd_pos (by omega), r9, bnd_eq, G2, bnd_eq, q2, q3, bnd_eq, q4, gd_pos (by omega), gd_pos (by omega), q5, bnd_eq, q6, q7, q8, hS_p]
      rfl
    unfold fX2_tryPayment
    rw [gd_pos (by omega), ho, gd_pos (by omega), ha, gd_pos (by omega), gd_pos (by omega), gd_pos (by omega), ham, gd_pos (by omega), gd_pos (by omega), if_neg hge, t1]
  -- the reference up to the tries
  have hml : fX7_tries (rk (H.1 5 1) p) m = bnd (mS (mS (mS (mS m 0 (33 + 11 * a + 3) (H.1 2 a 3 - H.1 0 8 0)) 0 (33 + 11 * a + 9) (H.1 2 a 9 + H.1 0 8 0)) 0 8 (m.1 0 8 + 1)) 6 8 (orI (H.1 0 11 0) (shlI 1 a))) fun m176 => cr (fX7_partOf (rk (H.1 5 1) p) 4 m176) fun r182 => gd (wR (r182 + 1)) <| gd (wR64 (r182 + 1) ∧ wR64 (m176.1 0 9)) <| if (r182 + 1) < (m176.1 0 9) then (gd (0 ≤ rk (H.1 5 1) p ∧ rk (H.1 5 1) p < 8400) <| gd ((0 ≤ rk (H.1 5 1) p ∧ rk (H.1 5 1) p < 8400)) <| bnd (mS m176 1 (rk (H.1 5 1) p) ((m176.1 1 (rk (H.1 5 1) p)) + 1196268651020288)) fun m218 => some ((), m218)) else (cl (fX7_misses (rk (H.1 5 1) p) m176) fun r201 m201 => some ((), m201)) := by
    have q1 : (mS (mS m 0 (33 + 11 * a + 3) (H.1 2 a 3 - H.1 0 8 0)) 0 (33 + 11 * a + 9) (H.1 2 a 9 + H.1 0 8 0)).1 0 8 = m.1 0 8 := by rw [mS_n _ (by omega), mS_n _ (by omega)]
    have q2 : (mS (mS (mS m 0 (33 + 11 * a + 3) (H.1 2 a 3 - H.1 0 8 0)) 0 (33 + 11 * a + 9) (H.1 2 a 9 + H.1 0 8 0)) 0 8 (m.1 0 8 + 1)).1 6 8 = H.1 0 11 0 := by rw [mS_n _ (by omega), mS_n _ (by omega), mS_n _ (by omega), hfl.1]
    unfold fX7_tries
    rw [p0, cr_some, ev_ofO (by omega), cr_some, c0, ev_ofO (by omega), cr_some, p1, cr_some, gd_pos (by omega), ev_money (by omega), cr_some, Int.add_zero, ca3, ev_ofA (by omega), cr_some, ca0, gd_pos (by omega), gd_pos (by omega), if_pos (by omega), n10, e1, cl_some, u10, e2, cl_some, q1, bnd_eq, q2]
  have e176 : fX7_partOf (rk (H.1 5 1) p) 4 (mS (mS (mS (mS m 0 (33 + 11 * a + 3) (H.1 2 a 3 - H.1 0 8 0)) 0 (33 + 11 * a + 9) (H.1 2 a 9 + H.1 0 8 0)) 0 8 (m.1 0 8 + 1)) 6 8 (orI (H.1 0 11 0) (shlI 1 a))) = some (H.1 5 4 p) := by
    rw [← p4]
    unfold fX7_partOf
    rw [mS_n _ (by omega), mS_n _ (by omega), mS_n _ (by omega), mS_n _ (by omega)]
  have e9 : (mS (mS (mS (mS m 0 (33 + 11 * a + 3) (H.1 2 a 3 - H.1 0 8 0)) 0 (33 + 11 * a + 9) (H.1 2 a 9 + H.1 0 8 0)) 0 8 (m.1 0 8 + 1)) 6 8 (orI (H.1 0 11 0) (shlI 1 a))).1 0 9 = H.1 0 7 0 := by
    rw [mS_n _ (by omega), mS_n _ (by omega), mS_n _ (by omega), mS_n _ (by omega), n9]
  have m4W : ∀ j : Int, (mS (mS (mS (mS m 0 (33 + 11 * a + 3) (H.1 2 a 3 - H.1 0 8 0)) 0 (33 + 11 * a + 9) (H.1 2 a 9 + H.1 0 8 0)) 0 8 (m.1 0 8 + 1)) 6 8 (orI (H.1 0 11 0) (shlI 1 a))).1 1 j = m.1 1 j := fun j => by
    rw [mS_n _ (by omega), mS_n _ (by omega), mS_n _ (by omega), mS_n _ (by omega)]
  have m4N : ∀ j : Int, ¬ (33 ≤ j ∧ j ≤ 120) → ¬ j = 8 → (mS (mS (mS (mS m 0 (33 + 11 * a + 3) (H.1 2 a 3 - H.1 0 8 0)) 0 (33 + 11 * a + 9) (H.1 2 a 9 + H.1 0 8 0)) 0 8 (m.1 0 8 + 1)) 6 8 (orI (H.1 0 11 0) (shlI 1 a))).1 0 j = m.1 0 j := fun j q1 q2 => by
    rw [mS_n _ (by omega), mS_n _ (by omega), mS_n _ (by omega), mS_n _ (by omega)]
  have m4T : ∀ t : Int, ¬ t = 0 → ¬ t = 6 → (mS (mS (mS (mS m 0 (33 + 11 * a + 3) (H.1 2 a 3 - H.1 0 8 0)) 0 (33 + 11 * a + 9) (H.1 2 a 9 + H.1 0 8 0)) 0 8 (m.1 0 8 + 1)) 6 8 (orI (H.1 0 11 0) (shlI 1 a))).1 t = m.1 t := fun t q1 q2 => by
    rw [mS_t _ _ _ q2, mS_t _ _ _ q1, mS_t _ _ _ q1, mS_t _ _ _ q1]
  have m46 : ∀ k : Int, ¬ k = 8 → (mS (mS (mS (mS m 0 (33 + 11 * a + 3) (H.1 2 a 3 - H.1 0 8 0)) 0 (33 + 11 * a + 9) (H.1 2 a 9 + H.1 0 8 0)) 0 8 (m.1 0 8 + 1)) 6 8 (orI (H.1 0 11 0) (shlI 1 a))).1 6 k = m.1 6 k := fun k q => by
    rw [mS_n _ (by omega), mS_n _ (by omega), mS_n _ (by omega), mS_n _ (by omega)]
  have m468 : (mS (mS (mS (mS m 0 (33 + 11 * a + 3) (H.1 2 a 3 - H.1 0 8 0)) 0 (33 + 11 * a + 9) (H.1 2 a 9 + H.1 0 8 0)) 0 8 (m.1 0 8 + 1)) 6 8 (orI (H.1 0 11 0) (shlI 1 a))).1 6 8 = orI (H.1 0 11 0) (shlI 1 a) := mS_p _ _ _ _
  have u8 : (mS (mS m 0 (33 + 11 * a + 3) (H.1 2 a 3 - H.1 0 8 0)) 0 (33 + 11 * a + 9) (H.1 2 a 9 + H.1 0 8 0)).1 0 8 = m.1 0 8 := by rw [mS_n _ (by omega), mS_n _ (by omega)]
  rw [u8, G2] at d3
  have g4 : ∀ t x y : Int, ¬ (t = 2 ∧ (y = 3 ∨ y = 9)) → ¬ (t = 0 ∧ (x = 10 ∨ x = 11)) → (hS (hS (hS (hS H 2 a 3 (H.1 2 a 3 - H.1 0 8 0)) 2 a 9 (H.1 2 a 9 + H.1 0 8 0)) 0 10 0 (H.1 0 10 0 + 1)) 0 11 0 (orI (H.1 0 11 0) (shlI 1 a))).1 t x y = H.1 t x y := fun t x y q r => by
    rw [hS_n _ (by omega), hS_n _ (by omega), hS_n _ (by omega), hS_n _ (by omega)]
  have g411 : (hS (hS (hS (hS H 2 a 3 (H.1 2 a 3 - H.1 0 8 0)) 2 a 9 (H.1 2 a 9 + H.1 0 8 0)) 0 10 0 (H.1 0 10 0 + 1)) 0 11 0 (orI (H.1 0 11 0) (shlI 1 a))).1 0 11 0 = orI (H.1 0 11 0) (shlI 1 a) := hS_p _ _ _ _ _
  have g4M : MB (B + 1000000) K1 (K + 10000) (hS (hS (hS (hS H 2 a 3 (H.1 2 a 3 - H.1 0 8 0)) 2 a 9 (H.1 2 a 9 + H.1 0 8 0)) 0 10 0 (H.1 0 10 0 + 1)) 0 11 0 (orI (H.1 0 11 0) (shlI 1 a))) := by
    refine hM.to (g4 _ _ _ (by omega) (by omega)) (fun y hy f hf => ?_) rfl (fun y hy => ?_)
    · have := hM.1 y hy f hf
      rw [hS_n _ (by omega), hS_n _ (by omega), hS_1, hS_1]
      by_cases q1 : y = a ∧ f = 9
      · rw [if_pos ⟨rfl, q1.1, q1.2⟩]
        omega
      · rw [if_neg (by omega)]
        by_cases q2 : y = a ∧ f = 3
        · rw [if_pos ⟨rfl, q2.1, q2.2⟩]
          omega
        · rw [if_neg (by omega)]
          omega
    · rw [hS_n _ (by omega), hS_n _ (by omega), hS_n _ (by omega), hS_1]
      by_cases q2 : y = a
      · rw [if_pos ⟨rfl, q2, rfl⟩, q2]
        right
        omega
      · rw [if_neg (by omega)]
        right
        omega
  have g4D : (hS (hS (hS (hS H 2 a 3 (H.1 2 a 3 - H.1 0 8 0)) 2 a 9 (H.1 2 a 9 + H.1 0 8 0)) 0 10 0 (H.1 0 10 0 + 1)) 0 11 0 (orI (H.1 0 11 0) (shlI 1 a))).2 = H.2 := rfl
  have m4D : (mS (mS (mS (mS m 0 (33 + 11 * a + 3) (H.1 2 a 3 - H.1 0 8 0)) 0 (33 + 11 * a + 9) (H.1 2 a 9 + H.1 0 8 0)) 0 8 (m.1 0 8 + 1)) 6 8 (orI (H.1 0 11 0) (shlI 1 a))).2 = m.2 := rfl
  generalize (hS (hS (hS (hS H 2 a 3 (H.1 2 a 3 - H.1 0 8 0)) 2 a 9 (H.1 2 a 9 + H.1 0 8 0)) 0 10 0 (H.1 0 10 0 + 1)) 0 11 0 (orI (H.1 0 11 0) (shlI 1 a))) = H4 at *
  generalize (mS (mS (mS (mS m 0 (33 + 11 * a + 3) (H.1 2 a 3 - H.1 0 8 0)) 0 (33 + 11 * a + 9) (H.1 2 a 9 + H.1 0 8 0)) 0 8 (m.1 0 8 + 1)) 6 8 (orI (H.1 0 11 0) (shlI 1 a))) = m4 at *
  have z51 : H4.1 5 1 = H.1 5 1 := funext (fun i => g4 _ _ _ (by omega) (by omega))
  have z5 : ∀ c i : Int, H4.1 5 c i = H.1 5 c i := fun c i => g4 _ _ _ (by omega) (by omega)
  rw [gd_pos (by omega), gd_pos (by omega)] at hcl
  rw [bnd_eq, e176, cr_some, gd_pos (by omega), e9, gd_pos (by omega)] at hml
  by_cases g : H.1 0 7 0 ≤ H.1 5 4 p + 1
  · -- missed
    rw [if_pos g] at hcl
    rw [if_neg (by omega)] at hml
    have z13 : H4.1 3 o 13 = H.1 3 o 13 := g4 _ _ _ (by omega) (by omega)
    obtain ⟨m', s1, s2, s3, s4, s5⟩ := Mid.settle (f := 13) (o := o) (p := p) (by omega) d3 (by rw [g4 4 2 0 (by omega) (by omega)]; exact hp) (by rw [z51, ham]; exact hA) ((z5 0 p).trans ho)
    rw [z51] at s2
    have t50 : (hS (hS H4 5 4 p (H.1 5 4 p + 1)) 3 o 13 (H.1 3 o 13 + 1)).1 5 0 p = o := by rw [hS_n _ (by omega), hS_n _ (by omega), z5]; exact ho
    have t51 : (hS (hS H4 5 4 p (H.1 5 4 p + 1)) 3 o 13 (H.1 3 o 13 + 1)).1 5 1 p = amt := by rw [hS_n _ (by omega), hS_n _ (by omega), z5]; exact ham
    have t30 : (hS (hS H4 5 4 p (H.1 5 4 p + 1)) 3 o 13 (H.1 3 o 13 + 1)).1 3 o 0 = a := by rw [hS_n _ (by omega), hS_n _ (by omega), g4 _ _ _ (by omega) (by omega)]; exact ha
    have t315 : (hS (hS H4 5 4 p (H.1 5 4 p + 1)) 3 o 13 (H.1 3 o 13 + 1)).1 3 o 15 = H.1 3 o 15 := by rw [hS_n _ (by omega), hS_n _ (by omega), g4 _ _ _ (by omega) (by omega)]
    have t211 : (hS (hS H4 5 4 p (H.1 5 4 p + 1)) 3 o 13 (H.1 3 o 13 + 1)).1 2 a 11 = H.1 2 a 11 := by rw [hS_n _ (by omega), hS_n _ (by omega), g4 _ _ _ (by omega) (by omega)]
    have t41 : (hS (hS H4 5 4 p (H.1 5 4 p + 1)) 3 o 13 (H.1 3 o 13 + 1)).1 4 1 0 = H.1 4 1 0 := by rw [hS_n _ (by omega), hS_n _ (by omega), g4 _ _ _ (by omega) (by omega)]
    have q50 : (hS H4 3 o 13 (H4.1 3 o 13 + 1)).1 5 0 p = o := by rw [hS_n _ (by omega), z5]; exact ho
    have q51 : (hS H4 3 o 13 (H4.1 3 o 13 + 1)).1 5 1 p = amt := by rw [hS_n _ (by omega), z5]; exact ham
    have q30 : (hS H4 3 o 13 (H4.1 3 o 13 + 1)).1 3 o 0 = a := by rw [hS_n _ (by omega), g4 _ _ _ (by omega) (by omega)]; exact ha
    have q315 : (hS H4 3 o 13 (H4.1 3 o 13 + 1)).1 3 o 15 = H.1 3 o 15 := by rw [hS_n _ (by omega), g4 _ _ _ (by omega) (by omega)]
    have q211 : (hS H4 3 o 13 (H4.1 3 o 13 + 1)).1 2 a 11 = H.1 2 a 11 := by rw [hS_n _ (by omega), g4 _ _ _ (by omega) (by omega)]
    have es := ec_settle (H := hS (hS H4 5 4 p (H.1 5 4 p + 1)) 3 o 13 (H.1 3 o 13 + 1)) (p := p) (by rw [t41]; omega) (by rw [t50]; omega) (by rw [t50, t30]; omega) (by rw [t51]; omega)
    have same : ∀ t' y z : Int, ¬ (t' = 5 ∧ y = 4 ∧ z = p) → (stl (hS (hS H4 5 4 p (H.1 5 4 p + 1)) 3 o 13 (H.1 3 o 13 + 1)) p).1 t' y z = (stl (hS H4 3 o 13 (H4.1 3 o 13 + 1)) p).1 t' y z := fun t' y z q => by
      rw [stl_c, stl_c, t50, t51, t30, t315, t211, q50, q51, q30, q315, q211, z13, hS_1, hS_1, hS_1]
      by_cases r : t' = 3 ∧ y = o ∧ z = 13
      · rw [if_pos r, if_pos r]
      · rw [if_neg r, if_neg r, if_neg q]
    have t54 : (stl (hS (hS H4 5 4 p (H.1 5 4 p + 1)) 3 o 13 (H.1 3 o 13 + 1)) p).1 5 4 p = H.1 5 4 p + 1 := by
      rw [stl_frame _ _ _ _ _ (by omega) (by omega) (by omega), hS_n _ (by omega), hS_p]
    have fr := fun t a b h1 h2 h3 => stl_frame (hS H4 3 o 13 (H4.1 3 o 13 + 1)) p t a b h1 h2 h3
    refine ⟨stl (hS (hS H4 5 4 p (H.1 5 4 p + 1)) 3 o 13 (H.1 3 o 13 + 1)) p, m', ?_, ?_, s3.f9 (p := p) (by rw [stl_c, if_pos ⟨rfl, rfl, rfl⟩]) same rfl (by rw [t54]; omega) (fun i hi => up1_n _ _ hi), g4M.to ?_ (fun y hy f hf => ?_) rfl (fun y hy => ?_), ?_, ⟨fun t' y z r1 r2 r3 r4 => ?_, g4D, Or.inl ?_⟩, ⟨fun t' r1 r2 r3 => ?_, ?_, fun k r => ?_⟩⟩
    · rw [hcl, es, cl_some, cl_some]
    · rw [hml]
      have em : fX7_misses (rk (H.1 5 1) p) m4 = some ((), m') := by
        have pp0 : fX7_partOf (rk (H.1 5 1) p) 0 m4 = some o := by
          rw [← p0]
          unfold fX7_partOf
          rw [m4W]
        rw [show (13 : Int) - 1 = 12 from rfl, show (13 : Int) - 7 = 6 from rfl, z13] at s2
        unfold fX7_misses
        rw [pp0, cr_some, gd_pos (by omega), gd_pos (by omega), bnd_eq, m4N _ (by omega) (by omega), c12, bnd_eq, mS_n m4 (by omega), s2, cl_some]
      rw [em, cl_some]
    · rw [same _ _ _ (by omega), fr _ _ _ (by omega) (by omega) (by omega), hS_n _ (by omega)]
    · rw [same _ _ _ (by omega), fr _ _ _ (by omega) (by omega) (by omega), hS_n _ (by omega)]
      exact g4M.1 y hy f hf
    · rw [same _ _ _ (by omega), fr _ _ _ (by omega) (by omega) (by omega), hS_n _ (by omega)]
      right
      omega
    · exact flg.of (v := orI (H.1 0 11 0) (shlI 1 a)) (by rw [same _ _ _ (by omega), fr _ _ _ (by omega) (by omega) (by omega), hS_n _ (by omega), g411]) (by rw [s4 6 (by omega) (by omega), m468]) (flag_or hfl.2 (by omega))
    · rw [same _ _ _ (by omega), fr _ _ _ (by omega) (by omega) (by omega), hS_n _ (by omega), g4 _ _ _ (by omega) (by omega)]
    · rw [stl_c, if_pos ⟨rfl, rfl, rfl⟩]
    · rw [s4 t' r1 r2, m4T t' r1 r3]
    · rw [s5, m4D]
    · rw [s4 6 (by omega) (by omega), m46 k r]
  · -- waits on
    rw [if_neg g] at hcl
    rw [if_pos (by omega), gd_pos (by omega), gd_pos (by omega), bnd_eq] at hml
    have hv := h.1.2.2.2.2.2 p hp (by rw [ham]; exact hA)
    rw [hx0] at hv
    have tg := d3.tag (p := p) (by rw [g4 4 2 0 (by omega) (by omega)]; exact hp) (by rw [z51, ham]; exact hA) (by rw [z5]; omega)
    rw [z51, z5, z5, z5, z5, ← pk_tag, ← hv, ← m4W] at tg
    refine ⟨_, _, ?_, hml, tg, g4M.to ?_ (fun y hy f hf => ?_) rfl (fun y hy => ?_), ?_, ⟨fun t' y z r1 r2 r3 r4 => ?_, g4D, Or.inr ⟨?_, ?_⟩⟩, ⟨fun t' r1 r2 r3 => ?_, ?_, fun k r => ?_⟩⟩
    · rw [hcl, cl_some]
    · rw [hS_n _ (by omega)]
    · rw [hS_n _ (by omega)]
      exact g4M.1 y hy f hf
    · rw [hS_n _ (by omega)]
      right
      omega
    · exact flg.of (v := orI (H.1 0 11 0) (shlI 1 a)) (by rw [hS_n _ (by omega), g411]) (by rw [mS_n _ (by omega), m468]) (flag_or hfl.2 (by omega))
    · rw [hS_n _ (by omega), g4 _ _ _ (by omega) (by omega)]
    · rw [hS_n _ (by omega), z5]
    · rw [hS_p]
    · rw [mS_t _ _ _ r2, m4T t' r1 r3]
    · exact m4D
    · rw [mS_n _ (by omega), m46 k r]
theorem Mid.F {F F' : Int} {x : Int → Int} {H : hR} {m : mR} (h : Mid F x H m) (hF : F ≤ F') : Mid F' x H m := by
  obtain ⟨h1, h2, k1, k2, k3⟩ := h
  refine ⟨h1, h2, k1, ?_, k3⟩
  unfold okS4 at *
  omega
theorem Mid.xs {F : Int} {x x' : Int → Int} {H : hR} {m : mR} (h : Mid F x H m) (hx : ∀ i : Nat, (i : Int) < H.1 4 2 0 → ¬ H.1 5 1 i = 0 → x' i = x i) : Mid F x' H m := by
  obtain ⟨⟨c1, c2, c3, c4, c5⟩, h2⟩ := h
  refine ⟨⟨c1, c2, c3, c4, c5.1, fun i hi hA => ?_⟩, h2⟩
  rw [hx i hi hA]
  exact c5.2 i hi hA
theorem ls_try {F B K1 K : Int} {x : Int → Int} {H : hR} {m : mR} {p : Nat} (h : Mid F x H m) (hx : ∀ i : Int, 0 ≤ x i ∧ x i ≤ 1) (hM : MB B K1 K H) (hB : 0 ≤ B ∧ B ≤ 4611686018427387904) (hK : 0 ≤ K1 ∧ K1 + 1000000 ≤ K) (hp : (p : Int) < H.1 4 2 0) (hA : ¬ H.1 5 1 p = 0) (hx0 : x p = 0) (hfl : flg H m) :
    ∃ H' m', fX2_tryPayment p H = some ((), H') ∧ fX7_tries (rk (H.1 5 1) p) m = some ((), m') ∧ Mid (F + 1) (up1 x p 1) H' m' ∧ MB (B + 1000000) K1 (K + 10000) H' ∧ flg H' m' ∧ payF p H H' ∧ rowsP m m' := by
  by_cases g : H.1 5 1 p ≤ H.1 2 (H.1 3 (H.1 5 0 p) 0) 3 + H.1 2 (H.1 3 (H.1 5 0 p) 0) 0
  · obtain ⟨H', m', q1, q2, q3, q4, q5, q6, q7, q8⟩ := ls_made h hx hM hB hK hp rfl rfl hA rfl hfl g
    refine ⟨H', m', q1, q2, (q3.F (by omega)).xs (fun i hi hA' => ?_), q4, q5, q6, q7⟩
    by_cases c : (i : Int) = p
    · rw [c, up1_p]
      rw [c] at hA'
      exact absurd q8 hA'
    · exact up1_n _ _ c
  · exact ls_fail h hx hM hB hp rfl rfl hA hx0 rfl hfl g

/-! ===== the day's payments, in step ===== -/
noncomputable def paysFrom (f : Nat) (m : mR) : Option (Unit × mR) := cr (fX7_nextToTry m) fun r => fX7_paysAll_b5 f r m
def payA (H H' : hR) : Prop := (∀ t a b : Int, ¬ (t = 2 ∧ 3 ≤ b) → ¬ (t = 3 ∧ (b = 12 ∨ b = 13 ∨ b = 15)) → ¬ (t = 0 ∧ (a = 10 ∨ a = 11)) → ¬ (t = 5 ∧ (a = 1 ∨ a = 4)) → H'.1 t a b = H.1 t a b) ∧ H'.2 = H.2
def PS (F0 B0 K1 K0 : Int) (H0 : hR) (m0 : mR) (q : Int → Bool) (H : hR) (m : mR) : Prop :=
  Mid (F0 + cntB q 0 (H0.1 4 2 0).toNat) (fun e => bI (q e)) H m ∧ MB (B0 + 1000000 * cntB q 0 (H0.1 4 2 0).toNat) K1 (K0 + 10000 * cntB q 0 (H0.1 4 2 0).toNat) H ∧ flg H m ∧
  (∀ e : Int, 0 ≤ e ∧ e < H0.1 4 2 0 → (q e = false → H.1 5 1 e = H0.1 5 1 e) ∧ (¬ H.1 5 1 e = 0 → H.1 5 1 e = H0.1 5 1 e ∧ H.1 5 4 e = H0.1 5 4 e + bI (q e))) ∧
  payA H0 H ∧ rowsP m0 m ∧ ∀ f : Nat, paysFrom (f + (cntB q 0 (H0.1 4 2 0).toNat).toNat) m0 = paysFrom f m
theorem PS.congr {F0 B0 K1 K0 : Int} {H0 : hR} {m0 : mR} {q q' : Int → Bool} {H : hR} {m : mR} (h : PS F0 B0 K1 K0 H0 m0 q H m) (hq : ∀ e : Int, 0 ≤ e ∧ e < H0.1 4 2 0 → q' e = q e) : PS F0 B0 K1 K0 H0 m0 q' H m := by
  obtain ⟨h1, h2, h3, h4, h5, h6, h7⟩ := h
  have ec : cntB q' 0 (H0.1 4 2 0).toNat = cntB q 0 (H0.1 4 2 0).toNat := cntB_fr _ (fun j j1 j2 => hq j (by omega))
  have e42 : H.1 4 2 0 = H0.1 4 2 0 := h5.1 _ _ _ (by omega) (by omega) (by omega) (by omega)
  refine ⟨?_, ?_, h3, fun e he => ?_, h5, h6, ?_⟩
  · rw [ec]
    exact h1.xs (fun i hi _ => by
      show bI (q' i) = bI (q i)
      rw [hq i (by omega)])
  · rw [ec]; exact h2
  · rw [hq e he]; exact h4 e he
  · rw [ec]; exact h7
theorem cntB_one {q : Int → Bool} {p : Int} (hp : q p = false) : ∀ n : Nat, cntB (fun e => q e || decide (e = p)) 0 n = cntB q 0 n + (if 0 ≤ p ∧ p < n then 1 else 0)
  | 0 => by
    unfold cntB
    rw [if_neg (by omega)]
    all_goals rfl
  | n + 1 => by
    have ih := cntB_one hp n
    unfold cntB
    rw [ih]
    by_cases g : (0 : Int) + n = p
    · rw [g, hp, decide_eq_true rfl, Bool.or_true, bI_t rfl, bI_f rfl, if_neg (by omega), if_pos (by omega)]
    · rw [decide_eq_false g, Bool.or_false]
      by_cases g2 : 0 ≤ p ∧ p < n
      · rw [if_pos g2, if_pos (by omega)]
        omega
      · rw [if_neg g2, if_neg (by omega)]
        omega
theorem PS.step {F0 B0 K1 K0 : Int} {H0 : hR} {m0 : mR} {q : Int → Bool} {H : hR} {m : mR} {p : Nat} (h : PS F0 B0 K1 K0 H0 m0 q H m) (hA0 : ∀ e : Int, 0 ≤ e ∧ e < H0.1 4 2 0 → ¬ H0.1 5 1 e = 0) (hs : 0 ≤ H0.1 4 2 0 ∧ H0.1 4 2 0 ≤ 8400) (hB : 0 ≤ B0 ∧ B0 ≤ 4611686000000000000) (hK : 0 ≤ K1 ∧ K1 + 1000000 ≤ K0) (hp : (p : Int) < H0.1 4 2 0) (hq : q p = false) (hb : ∀ e : Int, 0 ≤ e ∧ e < H0.1 4 2 0 → q e = false → prio H0 e < prio H0 p ∨ (prio H0 e = prio H0 p ∧ p ≤ e)) :
    ∃ H' m', fX2_tryPayment p H = some ((), H') ∧ PS F0 B0 K1 K0 H0 m0 (fun e => q e || decide (e = (p : Int))) H' m' := by
  obtain ⟨h1, h2, h3, h4, h5, h6, h7⟩ := h
  have hcr := cntB_rng (b := q) (lo := 0) (H0.1 4 2 0).toNat
  have hx : ∀ i : Int, 0 ≤ bI (q i) ∧ bI (q i) ≤ 1 := fun i => bI_rng _
  have e42 : H.1 4 2 0 = H0.1 4 2 0 := h5.1 _ _ _ (by omega) (by omega) (by omega) (by omega)
  have e50 : ∀ e : Int, H.1 5 0 e = H0.1 5 0 e := fun e => h5.1 _ _ _ (by omega) (by omega) (by omega) (by omega)
  have ep : ∀ e : Int, prio H e = prio H0 e := fun e => by
    unfold prio
    rw [e50]
    exact h5.1 _ _ _ (by omega) (by omega) (by omega) (by omega)
  have hAp : ¬ H.1 5 1 p = 0 := by
    rw [(h4 p (by omega)).1 hq]
    exact hA0 p (by omega)
  have hnx := em_next1 h1 hx (p := p) (by omega) hAp (bI_f hq) (fun i hi hA hx0 => by
    have hqi : q i = false := by
      cases hh : q i
      · rfl
      · rw [hh] at hx0
        cases hx0
    rw [ep, ep]
    have := hb i (by omega) hqi
    omega)
  obtain ⟨H', m', y1, y2, y3, y4, y5, y6, y7⟩ := ls_try h1 hx h2 (by omega) (by omega) (p := p) (by omega) hAp (bI_f hq) h3
  have ec := cntB_one hq (H0.1 4 2 0).toNat
  rw [if_pos (by omega)] at ec
  have e42' : H'.1 4 2 0 = H0.1 4 2 0 := (y6.1 _ _ _ (by omega) (by omega) (by omega) (by omega)).trans e42
  refine ⟨H', m', y1, ?_, ?_, y5, fun e he => ?_, ⟨fun t a b q1 q2 q3 q4 => (y6.1 t a b q1 q2 q3 (by omega)).trans (h5.1 t a b q1 q2 q3 q4), y6.2.1.trans h5.2⟩, ⟨fun t q1 q2 q3 => (y7.1 t q1 q2 q3).trans (h6.1 t q1 q2 q3), y7.2.1.trans h6.2.1, fun k hk => (y7.2.2 k hk).trans (h6.2.2 k hk)⟩, fun f => ?_⟩
  · rw [ec]
    refine (y3.F (by omega)).xs (fun i hi hA => ?_)
    show bI (q i || decide ((i : Int) = p)) = up1 (fun e => bI (q e)) p 1 i
    by_cases g : (i : Int) = p
    · rw [g, up1_p, decide_eq_true rfl, Bool.or_true]
      rfl
    · rw [up1_n _ _ g, decide_eq_false g, Bool.or_false]
  · rw [ec, show B0 + 1000000 * (cntB q 0 (H0.1 4 2 0).toNat + 1) = B0 + 1000000 * cntB q 0 (H0.1 4 2 0).toNat + 1000000 by omega, show K0 + 10000 * (cntB q 0 (H0.1 4 2 0).toNat + 1) = K0 + 10000 * cntB q 0 (H0.1 4 2 0).toNat + 10000 by omega]
    exact y4
  · by_cases g : e = p
    · subst g
      show ((q p || decide ((p : Int) = p)) = false → _) ∧ (_ → _ ∧ _ = _ + bI (q p || decide ((p : Int) = p)))
      rw [decide_eq_true rfl, Bool.or_true]
      refine ⟨fun c => (by cases c), fun c => ?_⟩
      rcases y6.2.2 with r | ⟨r1, r2⟩
      · exact absurd r c
      · obtain ⟨z1, z2⟩ := (h4 p he).2 hAp
        rw [r1, r2, z1, z2, hq]
        exact ⟨rfl, by rw [bI_f rfl, bI_t rfl]; omega⟩
    · show ((q e || decide (e = p)) = false → _) ∧ (_ → _ ∧ _ = _ + bI (q e || decide (e = p)))
      rw [decide_eq_false g, Bool.or_false, y6.1 5 1 e (by omega) (by omega) (by omega) (by omega), y6.1 5 4 e (by omega) (by omega) (by omega) (by omega)]
      exact h4 e he
  · rw [ec, show f + (cntB q 0 (H0.1 4 2 0).toNat + 1).toNat = (f + 1) + (cntB q 0 (H0.1 4 2 0).toNat).toNat by omega, h7 (f + 1)]
    have hr := rk_rng (A := H.1 5 1) p
    unfold paysFrom
    rw [hnx, cr_some, fX7_paysAll_b5, gd_pos (by omega), if_neg (by omega), y2, cl_some]
/-- those of a priority that come before a place, and those of higher ones -/
def doneQ (H0 : hR) (P i : Int) (e : Int) : Bool := decide (P < prio H0 e ∨ (prio H0 e = P ∧ e < i))
theorem ls_payOf {F0 B0 K1 K0 P : Int} {H0 : hR} {m0 : mR} (hA0 : ∀ e : Int, 0 ≤ e ∧ e < H0.1 4 2 0 → ¬ H0.1 5 1 e = 0) (hs : 0 ≤ H0.1 4 2 0 ∧ H0.1 4 2 0 ≤ 8400) (hB : 0 ≤ B0 ∧ B0 ≤ 4611686000000000000) (hK : 0 ≤ K1 ∧ K1 + 1000000 ≤ K0) (hP : wR P) : ∀ (k fuel i : Nat) (H : hR) (m : mR), (i : Int) + k = H0.1 4 2 0 → k < fuel → PS F0 B0 K1 K0 H0 m0 (doneQ H0 P i) H m →
    ∃ H' m', fX2_payWaitingOf_b2 fuel P i H = some ((), H') ∧ PS F0 B0 K1 K0 H0 m0 (doneQ H0 P (H0.1 4 2 0)) H' m'
  | k, 0, _, _, _, _, h, _ => by omega
  | 0, fuel + 1, i, H, m, h1, _, h => by
    have e42 : H.1 4 2 0 = H0.1 4 2 0 := h.2.2.2.2.1.1 _ _ _ (by omega) (by omega) (by omega) (by omega)
    refine ⟨H, m, ?_, h.congr (fun e he => ?_)⟩
    · rw [fX2_payWaitingOf_b2, gd_pos (by omega), if_pos (by omega)]
    · rw [show (i : Int) = H0.1 4 2 0 by omega]
  | k + 1, fuel + 1, i, H, m, h1, h2, h => by
    have h5 := h.2.2.2.2.1
    have e42 : H.1 4 2 0 = H0.1 4 2 0 := h5.1 _ _ _ (by omega) (by omega) (by omega) (by omega)
    have e50 : ∀ e : Int, H.1 5 0 e = H0.1 5 0 e := fun e => h5.1 _ _ _ (by omega) (by omega) (by omega) (by omega)
    have ep : H.1 3 (H.1 5 0 i) 8 = prio H0 i := by
      unfold prio
      rw [e50]
      exact h5.1 _ _ _ (by omega) (by omega) (by omega) (by omega)
    have k1 := h.1.2.2.1
    unfold okN at k1
    have hroom := roomOK_rng k1.2.2.2.2
    have hv := (h.1.2.2.2.2.2.2.1.1 i (by omega)).1
    have hpr : 0 ≤ H.1 3 (H.1 5 0 i) 8 ∧ H.1 3 (H.1 5 0 i) 8 ≤ 9 := (h.1.2.2.2.2.2.1 _ hv).2.1.2.2.2.1
    by_cases g : prio H0 i = P
    · obtain ⟨H1, m1, y1, y2⟩ := h.step (p := i) hA0 hs hB hK (by omega) (decide_eq_false (by omega)) (fun e he hq => by
        have := of_decide_eq_false hq
        omega)
      obtain ⟨H', m', z1, z2⟩ := ls_payOf hA0 hs hB hK hP k fuel (i + 1) H1 m1 (by omega) (by omega) (y2.congr (fun e he => by
        unfold doneQ
        rw [← Bool.decide_or]
        refine decide_eq_decide.mpr ?_
        by_cases q : e = i
        · subst q
          omega
        · omega))
      refine ⟨H', m', ?_, z2⟩
      rw [fX2_payWaitingOf_b2, gd_pos (by omega), if_neg (by omega), gd_pos (by omega), gd_pos (by omega), gd_pos (by omega), if_pos (by omega), y1, cl_some]
      exact z1
    · obtain ⟨H', m', z1, z2⟩ := ls_payOf hA0 hs hB hK hP k fuel (i + 1) H m (by omega) (by omega) (h.congr (fun e he => by
        unfold doneQ
        refine decide_eq_decide.mpr ?_
        by_cases q : e = i
        · subst q
          omega
        · omega))
      refine ⟨H', m', ?_, z2⟩
      rw [fX2_payWaitingOf_b2, gd_pos (by omega), if_neg (by omega), gd_pos (by omega), gd_pos (by omega), gd_pos (by omega), if_neg (by omega)]
      exact z1
theorem ec_mask {H : hR} (hk : okN H) (hv : okV H) (ho : okO H) : ∀ (k fuel i : Nat) (x : Int), (i : Int) + k = H.1 4 2 0 → k < fuel → (0 ≤ x ∧ x < 1024) → (∀ e : Int, 0 ≤ e ∧ e < i → bitP x (prio H e) = 1) → ∃ y, fX2_payWaiting_b4 fuel x i H = fX2_payWaiting_b48 fuel0 y 9 H ∧ (0 ≤ y ∧ y < 1024) ∧ ∀ e : Int, 0 ≤ e ∧ e < H.1 4 2 0 → bitP y (prio H e) = 1
  | k, 0, _, _, _, h, _, _ => by omega
  | 0, fuel + 1, i, x, h1, _, hx, hb => by
    have k1 := hk
    unfold okN at k1
    refine ⟨x, ?_, hx, fun e he => hb e (by omega)⟩
    rw [fX2_payWaiting_b4, gd_pos (by omega), if_pos (by omega)]
  | k + 1, fuel + 1, i, x, h1, h2, hx, hb => by
    have k1 := hk
    unfold okN at k1
    have hroom := roomOK_rng k1.2.2.2.2
    have hw := (hv.1 i (by omega)).1
    have hpr : 0 ≤ prio H i ∧ prio H i ≤ 9 := (ho _ hw).2.1.2.2.2.1
    obtain ⟨c1, c2, c3⟩ := bitP_or hx hpr
    obtain ⟨y, e1, e2, e3⟩ := ec_mask hk hv ho k fuel (i + 1) (orI x (shlI 1 (prio H i))) (by omega) (by omega) c1 (fun e he => by
      by_cases q : e = i
      · rw [q]; exact c2
      · have hwe := (hv.1 e (by omega)).1
        have hpe : 0 ≤ prio H e ∧ prio H e ≤ 9 := (ho _ hwe).2.1.2.2.2.1
        exact c3 _ hpe (hb e (by omega)))
    refine ⟨y, ?_, e2, e3⟩
    rw [fX2_payWaiting_b4, gd_pos (by omega), if_neg (by omega), gd_pos (by omega), gd_pos (by omega)]
    exact e1
theorem ls_payAll {F0 B0 K1 K0 y : Int} {H0 : hR} {m0 : mR} (hA0 : ∀ e : Int, 0 ≤ e ∧ e < H0.1 4 2 0 → ¬ H0.1 5 1 e = 0) (hs : 0 ≤ H0.1 4 2 0 ∧ H0.1 4 2 0 ≤ 8400) (hB : 0 ≤ B0 ∧ B0 ≤ 4611686000000000000) (hK : 0 ≤ K1 ∧ K1 + 1000000 ≤ K0) (hy : 0 ≤ y ∧ y < 1024) (hb : ∀ e : Int, 0 ≤ e ∧ e < H0.1 4 2 0 → bitP y (prio H0 e) = 1) : ∀ (k fuel : Nat) (H : hR) (m : mR), k ≤ 10 → k < fuel → PS F0 B0 K1 K0 H0 m0 (doneQ H0 ((k : Int) - 1) 0) H m →
    ∃ H' m', fX2_payWaiting_b48 fuel y ((k : Int) - 1) H = cl (fX5_dropSettled H') (fun r75 H75 => some ((), H75)) ∧ PS F0 B0 K1 K0 H0 m0 (doneQ H0 (-1) 0) H' m'
  | k, 0, _, _, _, h, _ => by omega
  | 0, fuel + 1, H, m, _, _, h => by
    refine ⟨H, m, ?_, h⟩
    rw [fX2_payWaiting_b48, gd_pos (by omega), if_pos (by omega)]
  | k + 1, fuel + 1, H, m, h1, h2, h => by
    have e : ((k + 1 : Nat) : Int) - 1 = k := by omega
    rw [e] at h ⊢
    have hbr := bitP_rng hy (P := k) (by omega)
    have e2 : (k : Int) + -1 = (k : Int) - 1 := by omega
    by_cases g : bitP y k = 0
    · obtain ⟨H', m', z1, z2⟩ := ls_payAll hA0 hs hB hK hy hb k fuel H m (by omega) (by omega) (h.congr (fun e he => by
        have := hb e he
        unfold doneQ
        refine decide_eq_decide.mpr ?_
        have hne : ¬ prio H0 e = k := fun q => by
          rw [q] at this
          omega
        omega))
      refine ⟨H', m', ?_, z2⟩
      unfold bitP at hbr g
      rw [fX2_payWaiting_b48, gd_pos (by omega), if_neg (by omega), gd_pos (by omega), if_pos g, e2]
      exact z1
    · obtain ⟨H1, m1, y1, y2⟩ := ls_payOf hA0 hs hB hK (P := k) (by omega) (H0.1 4 2 0).toNat fuel0 0 H m (by omega) (by show _ < 1000000; omega) h
      obtain ⟨H', m', z1, z2⟩ := ls_payAll hA0 hs hB hK hy hb k fuel H1 m1 (by omega) (by omega) (y2.congr (fun e he => by
        unfold doneQ
        refine decide_eq_decide.mpr ?_
        omega))
      refine ⟨H', m', ?_, z2⟩
      have epo : fX2_payWaitingOf k H = some ((), H1) := y1
      unfold bitP at hbr g
      rw [fX2_payWaiting_b48, gd_pos (by omega), if_neg (by omega), gd_pos (by omega), if_neg g, epo, cl_some, e2]
      exact z1
/-! the reference's flags of today go -/
theorem pk_strip {o a n d f x : Int} (ho : 0 ≤ o ∧ o ≤ 15) (ha : 0 ≤ a ∧ a ≤ 1048575) (hn : 0 ≤ n ∧ n ≤ 2047) (hd : 0 ≤ d ∧ d ≤ 2047) (hf : 0 ≤ f ∧ f ≤ 15) (hx : 0 ≤ x ∧ x ≤ 1) : (0 ≤ pkW o a n d f x ∧ pkW o a n d f x ≤ 9223372036854775807) ∧ pkW o a n d f x % 1125899906842624 = pkW o a n d f 0 := by
  have h1 := pk_parts ho ha hn hd hf hx
  have h2 := pk_parts ho ha hn hd hf (show (0 : Int) ≤ 0 ∧ (0 : Int) ≤ 1 by omega)
  have e : pkW o a n d f x = pkW o a n d f 0 + 1125899906842624 * x := by
    unfold pkW
    omega
  omega
theorem em_strip {W : Int → Int} {n : Int} (hn : 0 ≤ n ∧ n ≤ 8400) (hW : ∀ j : Int, 0 ≤ j ∧ j < n → 0 ≤ W j ∧ W j ≤ 9223372036854775807) : ∀ (k fuel : Nat) (i : Int) (m : mR), i + k = n → 0 ≤ i → k < fuel → m.1 0 4 = n → (∀ j : Int, m.1 1 j = if 0 ≤ j ∧ j < i then W j % 1125899906842624 else W j) → ∃ m', fX7_paysAll_b26 fuel i m = some ((), m') ∧ (∀ j : Int, m'.1 1 j = if 0 ≤ j ∧ j < n then W j % 1125899906842624 else W j) ∧ (∀ t : Int, ¬ t = 1 → m'.1 t = m.1 t) ∧ m'.2 = m.2
  | k, 0, _, _, _, _, h, _, _ => by omega
  | 0, fuel + 1, i, m, h1, h2, _, h4, h5 => by
    refine ⟨m, ?_, fun j => ?_, fun _ _ => rfl, rfl⟩
    · rw [fX7_paysAll_b26, gd_pos (by omega), gd_pos (by omega), if_pos (by omega)]
    · rw [h5, show i = n by omega]
  | k + 1, fuel + 1, i, m, h1, h2, h3, h4, h5 => by
    have hWi := hW i (by omega)
    have ei : m.1 1 i = W i := by rw [h5, if_neg (by omega)]
    obtain ⟨m', q1, q2, q3, q4⟩ := em_strip hn hW k fuel (i + 1) (mS m 1 i (W i % 1125899906842624)) (by omega) (by omega) (by omega) ((mS_n m (by omega)).trans h4) (fun j => by
      by_cases g : j = i
      · subst g
        rw [mS_p, if_pos (by omega)]
      · rw [mS_n m (by omega), h5]
        by_cases g2 : 0 ≤ j ∧ j < i
        · rw [if_pos g2, if_pos (by omega)]
        · rw [if_neg g2, if_neg (by omega)])
    refine ⟨m', ?_, q2, fun t ht => (q3 t ht).trans (mS_t m _ _ ht), q4⟩
    rw [fX7_paysAll_b26, gd_pos (by omega), gd_pos (by omega), if_neg (by omega), gd_pos (by omega), ei, gd_pos (by omega), gd_pos (by omega), bnd_eq]
    exact q1
theorem Mid.strip {F : Int} {x : Int → Int} {H : hR} {m : mR} (h : Mid F x H m) (hx : ∀ i : Int, 0 ≤ x i ∧ x i ≤ 1) : ∃ m', fX7_paysAll_b26 fuel0 0 m = some ((), m') ∧ Mid F (fun _ => 0) H m' ∧ (∀ t : Int, ¬ t = 1 → m'.1 t = m.1 t) ∧ m'.2 = m.2 := by
  have k1 := h.2.2.1
  unfold okN at k1
  have hrn := rk_rng (A := H.1 5 1) (H.1 4 2 0).toNat
  have e4 := h.1.2.2.2.2.1
  have key : ∀ j : Int, 0 ≤ j ∧ j < m.1 0 4 → ∃ i : Nat, (i : Int) < H.1 4 2 0 ∧ ¬ H.1 5 1 i = 0 ∧ rk (H.1 5 1) i = j := fun j hj => by
    obtain ⟨i, i1, i2, i3⟩ := rk_sur (A := H.1 5 1) (H.1 4 2 0).toNat j hj.1 (by omega)
    exact ⟨i, by omega, i2, i3⟩
  have st : ∀ i : Nat, (i : Int) < H.1 4 2 0 → ¬ H.1 5 1 i = 0 → (0 ≤ m.1 1 (rk (H.1 5 1) i) ∧ m.1 1 (rk (H.1 5 1) i) ≤ 9223372036854775807) ∧ m.1 1 (rk (H.1 5 1) i) % 1125899906842624 = pkW (H.1 5 0 i) (H.1 5 1 i) (H.1 5 2 i) (H.1 5 3 i) (H.1 5 4 i) 0 := fun i hi hA => by
    obtain ⟨v1, v2, v3, v4, v5⟩ := h.2.2.2.2.2.2.1.1 i (by omega)
    rw [h.1.2.2.2.2.2 i hi hA]
    exact pk_strip (by omega) (by omega) (by omega) (by omega) (by omega) (hx i)
  obtain ⟨m', q1, q2, q3, q4⟩ := em_strip (W := m.1 1) (n := m.1 0 4) (by omega) (fun j hj => by
    obtain ⟨i, i1, i2, i3⟩ := key j hj
    rw [← i3]
    exact (st i i1 i2).1) (m.1 0 4).toNat fuel0 0 m (by omega) (by omega) (by show _ < 1000000; omega) rfl (fun j => by rw [if_neg (by omega)])
  refine ⟨m', q1, ?_, q3, q4⟩
  obtain ⟨⟨c1, c2, c3, c4, c5⟩, h2⟩ := h
  unfold Mid MC
  rw [q3 0 (by omega), q4]
  refine ⟨⟨c1, c2, c3, c4, c5.1, fun i hi hA => ?_⟩, h2⟩
  have hlt := rk_lt (A := H.1 5 1) (n := i) (k := (H.1 4 2 0).toNat) (by omega) hA
  have hri := rk_rng (A := H.1 5 1) i
  rw [q2, if_pos (by omega)]
  exact (st i hi hA).2
theorem ls_pays {F B K1 K : Int} {H : hR} {m : mR} (h : Mid F (fun _ => 0) H m) (hA : ∀ e : Int, 0 ≤ e ∧ e < H.1 4 2 0 → ¬ H.1 5 1 e = 0) (hM : MB B K1 K H) (hfl : flg H m) (hB : 0 ≤ B ∧ B ≤ 4611686000000000000) (hK : 0 ≤ K1 ∧ K1 + 1000000 ≤ K) :
    ∃ H1 H' m', fX2_payWaiting H = some ((), H') ∧ fX7_paysAll m = some ((), m') ∧ Mid (F + 8400) (fun _ => 0) H1 m' ∧ dropR H1 H' ∧ MB (B + 8400000000) K1 (K + 84000000) H1 ∧ flg H1 m' ∧ payA H H1 ∧ rowsP m m' ∧ (∀ e : Int, 0 ≤ e ∧ e < H.1 4 2 0 → ¬ H1.1 5 1 e = 0 → H1.1 5 1 e = H.1 5 1 e ∧ H1.1 5 4 e = H.1 5 4 e + 1) := by
  have k1 := h.2.2.1
  have k1' := k1
  unfold okN at k1'
  have hz : ∀ n : Nat, cntB (fun _ => false) 0 n = 0 := fun n => by
    induction n with
    | zero => rfl
    | succ n ih =>
      unfold cntB
      rw [ih]
      rfl
  have p0 : PS F B K1 K H m (fun _ => false) H m := by
    refine ⟨?_, ?_, hfl, fun e he => ⟨fun _ => rfl, fun _ => ⟨rfl, ?_⟩⟩, ⟨fun _ _ _ _ _ _ _ => rfl, rfl⟩, ⟨fun _ _ _ _ => rfl, rfl, fun _ _ => rfl⟩, fun f => ?_⟩
    · rw [hz, Int.add_zero]
      exact h
    · rw [hz, Int.mul_zero, Int.mul_zero, Int.add_zero, Int.add_zero]
      exact hM
    · rw [bI_f rfl, Int.add_zero]
    · rw [hz]
      rfl
  obtain ⟨y, e1, e2, e3⟩ := ec_mask k1 h.2.2.2.2.2.2.1 h.2.2.2.2.2.1 (H.1 4 2 0).toNat fuel0 0 0 (by omega) (by show _ < 1000000; omega) (by omega) (fun e he => by omega)
  have p1 : PS F B K1 K H m (doneQ H (((10 : Nat) : Int) - 1) 0) H m := p0.congr (fun e he => by
    have hwe := (h.2.2.2.2.2.2.1.1 e he).1
    have hpe : 0 ≤ prio H e ∧ prio H e ≤ 9 := (h.2.2.2.2.2.1 _ hwe).2.1.2.2.2.1
    exact decide_eq_false (by omega))
  obtain ⟨H1, m1, y1, y2⟩ := ls_payAll hA (by omega) hB hK e2 e3 10 fuel0 H m (by omega) (by decide) p1
  obtain ⟨z1, z2, z3, z4, z5, z6, z7⟩ := y2
  have hc := cntB_rng (b := doneQ H (-1) 0) (lo := 0) (H.1 4 2 0).toNat
  have e42 : H1.1 4 2 0 = H.1 4 2 0 := z5.1 _ _ _ (by omega) (by omega) (by omega) (by omega)
  have hd1 : ∀ e : Int, 0 ≤ e ∧ e < H.1 4 2 0 → doneQ H (-1) 0 e = true := fun e he => by
    have hwe := (h.2.2.2.2.2.2.1.1 e he).1
    have hpe : 0 ≤ prio H e ∧ prio H e ≤ 9 := (h.2.2.2.2.2.1 _ hwe).2.1.2.2.2.1
    exact decide_eq_true (by omega)
  have hn0 := em_next0 z1 (fun i => bI_rng _) (fun i hi _ => bI_t (hd1 i (by omega)))
  obtain ⟨m', s1, s2, s3, s4⟩ := z1.strip (fun i => bI_rng _)
  obtain ⟨H', d1, d2⟩ := ec_drop z1.2.2.1 (fun j hj => by
    have := (z1.2.2.2.2.2.2.1.1 j hj).2.1
    omega)
  refine ⟨H1, H', m', ?_, ?_, s2.F (by omega), d2, ?_, ?_, z5, ⟨fun t q1 q2 q3 => (s3 t q2).trans (z6.1 t q1 q2 q3), s4.trans z6.2.1, fun k hk => by rw [s3 6 (by omega)]; exact z6.2.2 k hk⟩, fun e he hne => ?_⟩
  · have : fX2_payWaiting H = fX2_payWaiting_b48 fuel0 y 9 H := e1
    rw [this]
    rw [show (((10 : Nat) : Int) - 1) = 9 from rfl] at y1
    rw [y1, d1, cl_some]
  · have hf := z7 (fuel0 - (cntB (doneQ H (-1) 0) 0 (H.1 4 2 0).toNat).toNat)
    rw [show fuel0 - (cntB (doneQ H (-1) 0) 0 (H.1 4 2 0).toNat).toNat + (cntB (doneQ H (-1) 0) 0 (H.1 4 2 0).toNat).toNat = fuel0 by show 1000000 - _ + _ = 1000000; omega] at hf
    have : fX7_paysAll m = paysFrom fuel0 m := rfl
    rw [this, hf, show fuel0 - (cntB (doneQ H (-1) 0) 0 (H.1 4 2 0).toNat).toNat = (999999 - (cntB (doneQ H (-1) 0) 0 (H.1 4 2 0).toNat).toNat) + 1 by show 1000000 - _ = _; omega]
    unfold paysFrom
    rw [hn0, cr_some, fX7_paysAll_b5, gd_pos (by omega), if_pos rfl, s1]
  · refine z2.to rfl (fun a ha f hf => ?_) rfl (fun a ha => Or.inr (by omega))
    have := z2.1 a ha f hf
    omega
  · exact z3.fr rfl (by rw [s3 6 (by omega)])
  · obtain ⟨r1, r2⟩ := (z4 e he).2 hne
    rw [hd1 e he, bI_t rfl] at r2
    exact ⟨r1, r2⟩

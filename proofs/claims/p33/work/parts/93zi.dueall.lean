/-! ===== all orders' occurrences of today, in step ===== -/
def dueA (H H' : hR) : Prop := (∀ t a f : Int, ¬ (t = 3 ∧ ¬ (f ≤ 9)) → ¬ (t = 2 ∧ f = 11) → ¬ t = 4 → ¬ t = 5 → H'.1 t a f = H.1 t a f) ∧ H'.2 = H.2
theorem ls_dueAll {T C t Z U : Int} {b : Int → Bool} (hC : 0 ≤ C) (hU : U ≤ 57 + 5 * C) (hZ : 0 ≤ Z ∧ Z + 5 ≤ U) (ht : 0 ≤ t ∧ t ≤ 1094)
    (hrun : ∀ d : Int, t < d → d ≤ 1094 → (∀ j : Int, t < j → j ≤ d → b j = false) → 5 * (d + 1 - t) + Z ≤ U) :
    ∀ (k fC fM : Nat) (o : Int) (H : hR) (m : mR), o + k = H.1 0 5 0 → 0 ≤ o → k < fC → k < fM → Sim T H m → cB H = b → H.1 0 6 0 = t → C + H.1 0 5 0 ≤ 512 → (∀ i : Int, 0 ≤ i ∧ i < H.1 0 5 0 → aimed b H i) → okX t Z U H → dueD o t H → (∀ i : Int, 0 ≤ i ∧ i < o → H.1 3 i 11 = 0 → t < H.1 3 i 19 ∧ H.1 3 i 19 ≤ 1094) →
    ∃ H' m', fX2_makePaymentsDue_b2 fC o H = some ((), H') ∧ fX7_passesDay_b7 fM o m = fX7_passesDay_b42 fuel0 0 m' ∧ Sim T H' m' ∧ okX t Z U H' ∧ okDue (t + 1) H' ∧ dueA H H' ∧ rowsF m m' ∧ (∀ i : Int, 0 ≤ i ∧ i < H.1 0 5 0 → aimed b H' i) ∧ (∀ i : Int, 0 ≤ i ∧ i < H.1 0 5 0 → H'.1 3 i 11 = 0 → t < H'.1 3 i 19 ∧ H'.1 3 i 19 ≤ 1094)
  | k, 0, _, _, _, _, _, _, h, _, _, _, _, _, _, _, _, _ => by omega
  | k, _ + 1, 0, _, _, _, _, _, _, h, _, _, _, _, _, _, _, _ => by omega
  | 0, fC + 1, fM + 1, o, H, m, hk, ho0, _, _, h, hb, h0, hCo, ha, hX, hD, hN => by
    have k1 := h.2.2.1
    unfold okN at k1
    have e2 : m.1 0 2 = H.1 0 5 0 := h.1.1.2.2.1
    refine ⟨H, m, ?_, ?_, h, hX, fun i hi => ?_, ⟨fun _ _ _ _ _ _ _ => rfl, rfl⟩, ⟨fun _ _ _ => rfl, rfl⟩, ha, fun i hi => hN i (by omega)⟩
    · rw [fX2_makePaymentsDue_b2, gd_pos (by omega), if_pos (by omega)]
    · rw [fX7_passesDay_b7, gd_pos (by omega), gd_pos (by omega), if_pos (by omega)]
    · have := hD i hi
      omega
  | k + 1, fC + 1, fM + 1, o, H, m, hk, ho0, hfC, hfM, h, hb, h0, hCo, ha, hX, hD, hN => by
    have k1 := h.2.2.1
    have k1' := k1
    unfold okN at k1'
    have e2 : m.1 0 2 = H.1 0 5 0 := h.1.1.2.2.1
    have ho : 0 ≤ o ∧ o < H.1 0 5 0 := by omega
    obtain ⟨w1, w2, w3⟩ := h.2.2.2.2.2.1 o ho
    unfold okP at w2
    unfold okC at w3
    have hc := h.1.atO ho
    have c10 : m.1 0 (121 + 16 * o + 10) = H.1 3 o 11 := hc 10 (by omega)
    have c14 : m.1 0 (121 + 16 * o + 14) = H.1 3 o 16 := hc 14 (by omega)
    obtain ⟨b1, b2⟩ := cal_both h.1 h.2.2.2.1.2.1
    rw [hb] at b1 b2
    have hmono : ∀ G : hR, dueD o t G → dueD (o + 1) t G := fun G q i hi => by
      have := q i hi
      omega
    by_cases g : H.1 3 o 11 = 0
    · obtain ⟨H1, m1, y1, y2, y3, y4, y5, y6, y7, y8, y9⟩ := ls_due (T := T) (C := C) (rec := fX2_makePaymentsDue_b2 fC) hC hU hZ ht hrun (1096 - H.1 3 o 16).toNat fuel0 fuel0 0 H m rfl (by show _ < 1000000; omega) (by show _ < 1000000; omega) h hb h0 ho hCo g (ha o ho) (by omega) (by omega) hX hD
      have f05 : H1.1 0 5 0 = H.1 0 5 0 := y6.1 _ _ _ (by omega) (by omega) (by omega) (by omega)
      have yb : cB H1 = b := (cB_fr (y6.1 _ _ _ (by omega) (by omega) (by omega) (by omega)) (fun a => y6.1 _ _ _ (by omega) (by omega) (by omega) (by omega))).trans hb
      have f3 : ∀ i f : Int, ¬ i = o → H1.1 3 i f = H.1 3 i f := fun i f q => y6.1 _ _ _ (by omega) (by omega) (by omega) (by omega)
      obtain ⟨H', m', z1, z2, z3, z4, z5, z6, z7, z8, z9⟩ := ls_dueAll hC hU hZ ht hrun k fC fM (o + 1) H1 m1 (by omega) (by omega) (by omega) (by omega) y3 yb ((y6.1 0 6 0 (by omega) (by omega) (by omega) (by omega)).trans h0) (by omega) (fun i hi => by
        by_cases q : i = o
        · rw [q]; exact y8
        · exact (ha i (by omega)).fr (fun f => f3 i f q)) y4 (hmono H1 y5) (fun i hi q => by
        by_cases qi : i = o
        · rw [qi] at q ⊢
          exact y9 q
        · rw [f3 i 11 qi] at q
          rw [f3 i 19 qi]
          exact hN i (by omega) q)
      rw [f05] at z8 z9
      refine ⟨H', m', ?_, ?_, z3, z4, z5, ⟨fun t a f q1 q2 q3 q4 => (z6.1 t a f q1 q2 q3 q4).trans (y6.1 t a f (by omega) q2 q3 q4), z6.2.trans y6.2⟩, ⟨fun t q1 q2 => (z7.1 t q1 q2).trans (y7.1 t q1 q2), z7.2.trans y7.2⟩, z8, z9⟩
      · rw [fX2_makePaymentsDue_b2, gd_pos (by omega), if_neg (by omega), gd_pos (by omega), gd_pos (by omega), if_pos g, y1, z1]
      · have ecd : fX7_comesDue o m = some ((), m1) := by
          unfold fX7_comesDue
          rw [ev_ofO (by omega), cr_some, c14, em_occ b2 w1 hc (by omega) (by omega), cr_some, y2]
        rw [fX7_passesDay_b7, gd_pos (by omega), gd_pos (by omega), if_neg (by omega), ev_ofO (by omega), cr_some, c10, g, gd_pos (by omega), if_pos rfl, ecd, cl_some, z2]
    · obtain ⟨H', m', z1, z2, z3, z4, z5, z6, z7, z8, z9⟩ := ls_dueAll hC hU hZ ht hrun k fC fM (o + 1) H m (by omega) (by omega) (by omega) (by omega) h hb h0 hCo ha hX (hmono H hD) (fun i hi q => by
        by_cases qi : i = o
        · rw [qi] at q
          exact absurd q g
        · exact hN i (by omega) q)
      refine ⟨H', m', ?_, ?_, z3, z4, z5, z6, z7, z8, z9⟩
      · rw [fX2_makePaymentsDue_b2, gd_pos (by omega), if_neg (by omega), gd_pos (by omega), gd_pos (by omega), if_neg g, z1]
      · rw [fX7_passesDay_b7, gd_pos (by omega), gd_pos (by omega), if_neg (by omega), ev_ofO (by omega), cr_some, c10, gd_pos (by omega), if_neg g, z2]

/-! ===== count ===== -/
theorem ec_sumO {H : hR} {w f : Int} (hn : 0 ≤ H.1 0 5 0 ∧ H.1 0 5 0 ≤ 16) (hw : ∀ o : Int, 0 ≤ o ∧ o < H.1 0 5 0 → fX3_numberOf o w H = some (H.1 3 o f)) : ∀ (k fuel : Nat) (j : Nat), j + k = (H.1 0 5 0).toNat → k < fuel → fX2_sumOverOrders_b4 H fuel w (sumF H f j) j = some (sumF H f (H.1 0 5 0).toNat)
  | k, 0, j, _, h => by omega
  | 0, fuel + 1, j, h1, _ => by
    unfold fX2_sumOverOrders_b4
    rw [gd_pos (by omega), if_pos (by omega), ← h1]
    rfl
  | k + 1, fuel + 1, j, h1, h2 => by
    have ih := ec_sumO hn hw k fuel (j + 1) (by omega) (by omega)
    unfold fX2_sumOverOrders_b4
    rw [gd_pos (by omega), if_neg (by omega), gd_pos (by omega), hw j (by omega), cr_some]
    exact ih
theorem sumF_rng {H : hR} {f : Int} : ∀ n : Nat, (∀ i : Int, 0 ≤ i ∧ i < n → 0 ≤ H.1 3 i f ∧ H.1 3 i f ≤ 1095) → 0 ≤ sumF H f n ∧ sumF H f n ≤ 1095 * n
  | 0, _ => by unfold sumF; omega
  | n + 1, h => by
    have h1 := sumF_rng (f := f) n (fun i hi => h i (by omega))
    have h2 := h n (by omega)
    unfold sumF
    omega
theorem ask_count {T : Int} {c : cR} {m : mR} (h : Sim T (c.1 0) m) (hp : c.2.2 0 1 = m.1 6 10 ∧ wR (m.1 6 10)) (hs : c.2.1 0 4 = m.1 6 7 ∧ wR (m.1 6 7)) {w : Int} (hw : wR w) : askOK (fX6_count w c) (fX7_count w m) := by
  obtain ⟨q0, q1, q2, q3, q4, q5, q6, q7, q8, q9⟩ := h.1.1
  obtain ⟨t5, t6, t7⟩ := h.2.1
  have k1 := h.2.2.1
  unfold okN at k1
  have ks := h.2.2.2.1
  unfold okS at ks
  have hh := h.1.2.1.1
  have hh1 := hh.1
  have hh2 := hh.2.1
  have fin : (0 ≤ w ∧ w ≤ 8) → ∀ r : Int, wR r → fX2_numberOf w (c.1 0) = some r → m.1 0 w = r → askOK (fX6_count w c) (fX7_count w m) := by
    intro g r hr e1 e2
    refine askOf hr (po_eq ?_) (po_eq ?_)
    · unfold fX6_count
      (repeat (first | (with_reducible refine po_gd ?_ ?_; · omega) | (with_reducible refine po_bnd ?_) | (with_reducible refine po_ift ?_ ?_; · omega) | (with_reducible refine po_iff ?_ ?_; · omega) | (with_reducible refine po_crs ?_) | (with_reducible refine po_cls ?_) | (with_reducible refine po_cre e1 ?_)))
      exact po_some rfl
    · unfold fX7_count
      (repeat (first | (with_reducible refine po_gd ?_ ?_; · omega) | (with_reducible refine po_bnd ?_) | (with_reducible refine po_ift ?_ ?_; · omega) | (with_reducible refine po_iff ?_ ?_; · omega) | (with_reducible refine po_crs ?_) | (with_reducible refine po_cls ?_) | (with_reducible refine po_cre (ev_inT ?_) ?_; (· omega)) | (with_reducible refine po_cre (ev_of ?_) ?_; (· omega))))
      exact po_some e2
  have fin2 : (11 ≤ w ∧ w ≤ 14) → ∀ r : Int, wR r → fX2_numberOf w (c.1 0) = some r → m.1 0 (9 + w - 11) = r → askOK (fX6_count w c) (fX7_count w m) := by
    intro g r hr e1 e2
    refine askOf hr (po_eq ?_) (po_eq ?_)
    · unfold fX6_count
      (repeat (first | (with_reducible refine po_gd ?_ ?_; · omega) | (with_reducible refine po_bnd ?_) | (with_reducible refine po_ift ?_ ?_; · omega) | (with_reducible refine po_iff ?_ ?_; · omega) | (with_reducible refine po_crs ?_) | (with_reducible refine po_cls ?_) | (with_reducible refine po_cre e1 ?_)))
      exact po_some rfl
    · unfold fX7_count
      (repeat (first | (with_reducible refine po_gd ?_ ?_; · omega) | (with_reducible refine po_bnd ?_) | (with_reducible refine po_ift ?_ ?_; · omega) | (with_reducible refine po_iff ?_ ?_; · omega) | (with_reducible refine po_crs ?_) | (with_reducible refine po_cls ?_) | (with_reducible refine po_cre (ev_inF ?_) ?_; (· omega)) | (with_reducible refine po_cre (ev_inT ?_) ?_; (· omega)) | (with_reducible refine po_cre (ev_of ?_) ?_; (· omega))))
      exact po_some e2
  have sum : ∀ f : Int, 12 ≤ f ∧ f ≤ 14 → wR (sumF (c.1 0) f ((c.1 0).1 0 5 0).toNat) ∧ fX2_sumOverOrders (f - 1) (c.1 0) = some (sumF (c.1 0) f ((c.1 0).1 0 5 0).toNat) := by
    intro f hf
    refine ⟨?_, ec_sumO (j := 0) k1.2.1 (fun o ho => ?_) ((c.1 0).1 0 5 0).toNat fuel0 (by omega) (by show _ < 1000000; omega)⟩
    · have := sumF_rng (H := c.1 0) (f := f) ((c.1 0).1 0 5 0).toNat (fun i hi => by
        have w3 := (h.2.2.2.2.2.1 i (by omega)).2.2
        unfold okC at w3
        have : f = 12 ∨ f = 13 ∨ f = 14 := by omega
        rcases this with rfl | rfl | rfl <;> omega)
      omega
    · refine po_eq ?_
      have : f = 12 ∨ f = 13 ∨ f = 14 := by omega
      unfold fX3_numberOf
      rcases this with rfl | rfl | rfl
      all_goals
        (repeat (first | (with_reducible refine po_gd ?_ ?_; · omega) | (with_reducible refine po_bnd ?_) | (with_reducible refine po_ift ?_ ?_; · omega) | (with_reducible refine po_iff ?_ ?_; · omega) | (with_reducible refine po_crs ?_) | (with_reducible refine po_cls ?_)))
        exact po_some rfl
  have hc : w = 0 ∨ w = 1 ∨ w = 2 ∨ w = 3 ∨ w = 4 ∨ w = 5 ∨ w = 6 ∨ w = 7 ∨ w = 8 ∨ w = 9 ∨ w = 10 ∨ w = 11 ∨ w = 12 ∨ w = 13 ∨ w = 14 ∨ (w < 0 ∨ 14 < w) := by omega
  rcases hc with rfl | rfl | rfl | rfl | rfl | rfl | rfl | rfl | rfl | rfl | rfl | rfl | rfl | rfl | rfl | hc
  · refine fin (by decide) _ (by omega) (po_eq ?_) q0
    unfold fX2_numberOf
    (repeat (first | (with_reducible refine po_gd ?_ ?_; · omega) | (with_reducible refine po_bnd ?_) | (with_reducible refine po_ift ?_ ?_; · omega) | (with_reducible refine po_iff ?_ ?_; · omega) | (with_reducible refine po_crs ?_) | (with_reducible refine po_cls ?_)))
    exact po_some rfl
  · refine fin (by decide) _ (by omega) (po_eq ?_) q1
    unfold fX2_numberOf
    (repeat (first | (with_reducible refine po_gd ?_ ?_; · omega) | (with_reducible refine po_bnd ?_) | (with_reducible refine po_ift ?_ ?_; · omega) | (with_reducible refine po_iff ?_ ?_; · omega) | (with_reducible refine po_crs ?_) | (with_reducible refine po_cls ?_)))
    exact po_some rfl
  · refine fin (by decide) _ (by omega) (po_eq ?_) q2
    unfold fX2_numberOf
    (repeat (first | (with_reducible refine po_gd ?_ ?_; · omega) | (with_reducible refine po_bnd ?_) | (with_reducible refine po_ift ?_ ?_; · omega) | (with_reducible refine po_iff ?_ ?_; · omega) | (with_reducible refine po_crs ?_) | (with_reducible refine po_cls ?_)))
    exact po_some rfl
  · refine fin (by decide) _ (by omega) (po_eq ?_) q3
    unfold fX2_numberOf
    (repeat (first | (with_reducible refine po_gd ?_ ?_; · omega) | (with_reducible refine po_bnd ?_) | (with_reducible refine po_ift ?_ ?_; · omega) | (with_reducible refine po_iff ?_ ?_; · omega) | (with_reducible refine po_crs ?_) | (with_reducible refine po_cls ?_)))
    exact po_some rfl
  · refine fin (by decide) _ (by omega) (po_eq ?_) q4
    unfold fX2_numberOf
    (repeat (first | (with_reducible refine po_gd ?_ ?_; · omega) | (with_reducible refine po_bnd ?_) | (with_reducible refine po_ift ?_ ?_; · omega) | (with_reducible refine po_iff ?_ ?_; · omega) | (with_reducible refine po_crs ?_) | (with_reducible refine po_cls ?_)))
    exact po_some rfl
  · obtain ⟨s1, s2⟩ := sum 12 (by decide)
    have s2 : fX2_sumOverOrders (5 + 6) (c.1 0) = some (sumF (c.1 0) 12 ((c.1 0).1 0 5 0).toNat) := s2
    refine fin (by decide) _ s1 (po_eq ?_) t5
    unfold fX2_numberOf
    (repeat (first | (with_reducible refine po_gd ?_ ?_; · omega) | (with_reducible refine po_bnd ?_) | (with_reducible refine po_ift ?_ ?_; · omega) | (with_reducible refine po_iff ?_ ?_; · omega) | (with_reducible refine po_crs ?_) | (with_reducible refine po_cls ?_) | (with_reducible refine po_cre s2 ?_)))
    exact po_some rfl
  · obtain ⟨s1, s2⟩ := sum 13 (by decide)
    have s2 : fX2_sumOverOrders (6 + 6) (c.1 0) = some (sumF (c.1 0) 13 ((c.1 0).1 0 5 0).toNat) := s2
    refine fin (by decide) _ s1 (po_eq ?_) t6
    unfold fX2_numberOf
    (repeat (first | (with_reducible refine po_gd ?_ ?_; · omega) | (with_reducible refine po_bnd ?_) | (with_reducible refine po_ift ?_ ?_; · omega) | (with_reducible refine po_iff ?_ ?_; · omega) | (with_reducible refine po_crs ?_) | (with_reducible refine po_cls ?_) | (with_reducible refine po_cre s2 ?_)))
    exact po_some rfl
  · obtain ⟨s1, s2⟩ := sum 14 (by decide)
    have s2 : fX2_sumOverOrders (7 + 6) (c.1 0) = some (sumF (c.1 0) 14 ((c.1 0).1 0 5 0).toNat) := s2
    refine fin (by decide) _ s1 (po_eq ?_) t7
    unfold fX2_numberOf
    (repeat (first | (with_reducible refine po_gd ?_ ?_; · omega) | (with_reducible refine po_bnd ?_) | (with_reducible refine po_ift ?_ ?_; · omega) | (with_reducible refine po_iff ?_ ?_; · omega) | (with_reducible refine po_crs ?_) | (with_reducible refine po_cls ?_) | (with_reducible refine po_cre s2 ?_)))
    exact po_some rfl
  · refine fin (by decide) _ (by omega) (po_eq ?_) q5
    unfold fX2_numberOf
    (repeat (first | (with_reducible refine po_gd ?_ ?_; · omega) | (with_reducible refine po_bnd ?_) | (with_reducible refine po_ift ?_ ?_; · omega) | (with_reducible refine po_iff ?_ ?_; · omega) | (with_reducible refine po_crs ?_) | (with_reducible refine po_cls ?_)))
    exact po_some rfl
  · refine askOf hp.2 (po_eq ?_) (po_eq ?_)
    · unfold fX6_count
      (repeat (first | (with_reducible refine po_gd ?_ ?_; · omega) | (with_reducible refine po_bnd ?_) | (with_reducible refine po_ift ?_ ?_; · omega) | (with_reducible refine po_iff ?_ ?_; · omega) | (with_reducible refine po_crs ?_) | (with_reducible refine po_cls ?_)))
      exact po_some hp.1
    · unfold fX7_count
      (repeat (first | (with_reducible refine po_gd ?_ ?_; · omega) | (with_reducible refine po_bnd ?_) | (with_reducible refine po_ift ?_ ?_; · omega) | (with_reducible refine po_iff ?_ ?_; · omega) | (with_reducible refine po_crs ?_) | (with_reducible refine po_cls ?_) | (with_reducible refine po_cre (ev_inF ?_) ?_; (· omega))))
      exact po_some rfl
  · refine askOf hs.2 (po_eq ?_) (po_eq ?_)
    · unfold fX6_count
      (repeat (first | (with_reducible refine po_gd ?_ ?_; · omega) | (with_reducible refine po_bnd ?_) | (with_reducible refine po_ift ?_ ?_; · omega) | (with_reducible refine po_iff ?_ ?_; · omega) | (with_reducible refine po_crs ?_) | (with_reducible refine po_cls ?_)))
      exact po_some hs.1
    · unfold fX7_count
      (repeat (first | (with_reducible refine po_gd ?_ ?_; · omega) | (with_reducible refine po_bnd ?_) | (with_reducible refine po_ift ?_ ?_; · omega) | (with_reducible refine po_iff ?_ ?_; · omega) | (with_reducible refine po_crs ?_) | (with_reducible refine po_cls ?_) | (with_reducible refine po_cre (ev_inF ?_) ?_; (· omega))))
      exact po_some rfl
  · refine fin2 (by decide) _ (by omega) (po_eq ?_) q6
    unfold fX2_numberOf fX2_settingOf
    (repeat (first | (with_reducible refine po_gd ?_ ?_; · omega) | (with_reducible refine po_bnd ?_) | (with_reducible refine po_ift ?_ ?_; · omega) | (with_reducible refine po_iff ?_ ?_; · omega) | (with_reducible refine po_crs ?_) | (with_reducible refine po_cls ?_) | (with_reducible refine po_crn ?_) | (with_reducible refine po_sk ?_)))
    exact po_some rfl
  · refine fin2 (by decide) _ (by omega) (po_eq ?_) q7
    unfold fX2_numberOf fX2_settingOf
    (repeat (first | (with_reducible refine po_gd ?_ ?_; · omega) | (with_reducible refine po_bnd ?_) | (with_reducible refine po_ift ?_ ?_; · omega) | (with_reducible refine po_iff ?_ ?_; · omega) | (with_reducible refine po_crs ?_) | (with_reducible refine po_cls ?_) | (with_reducible refine po_crn ?_) | (with_reducible refine po_sk ?_)))
    exact po_some rfl
  · refine fin2 (by decide) _ (by omega) (po_eq ?_) q8
    unfold fX2_numberOf fX2_settingOf
    (repeat (first | (with_reducible refine po_gd ?_ ?_; · omega) | (with_reducible refine po_bnd ?_) | (with_reducible refine po_ift ?_ ?_; · omega) | (with_reducible refine po_iff ?_ ?_; · omega) | (with_reducible refine po_crs ?_) | (with_reducible refine po_cls ?_) | (with_reducible refine po_crn ?_) | (with_reducible refine po_sk ?_)))
    exact po_some rfl
  · refine fin2 (by decide) _ (by omega) (po_eq ?_) q9
    unfold fX2_numberOf fX2_settingOf
    (repeat (first | (with_reducible refine po_gd ?_ ?_; · omega) | (with_reducible refine po_bnd ?_) | (with_reducible refine po_ift ?_ ?_; · omega) | (with_reducible refine po_iff ?_ ?_; · omega) | (with_reducible refine po_crs ?_) | (with_reducible refine po_cls ?_) | (with_reducible refine po_crn ?_) | (with_reducible refine po_sk ?_)))
    exact po_some rfl
  · have e1 : fX2_numberOf w (c.1 0) = some (-2) := by
      refine po_eq ?_
      unfold fX2_numberOf
      (repeat (first | (with_reducible refine po_gd ?_ ?_; · omega) | (with_reducible refine po_bnd ?_) | (with_reducible refine po_ift ?_ ?_; · omega) | (with_reducible refine po_iff ?_ ?_; · omega) | (with_reducible refine po_crs ?_) | (with_reducible refine po_cls ?_)))
      exact po_some rfl
    refine askOf (r := -2) (by decide) (po_eq ?_) (po_eq ?_)
    · unfold fX6_count
      (repeat (first | (with_reducible refine po_gd ?_ ?_; · omega) | (with_reducible refine po_bnd ?_) | (with_reducible refine po_ift ?_ ?_; · omega) | (with_reducible refine po_iff ?_ ?_; · omega) | (with_reducible refine po_crs ?_) | (with_reducible refine po_cls ?_) | (with_reducible refine po_cre e1 ?_)))
      exact po_some rfl
    · unfold fX7_count
      (repeat (first | (with_reducible refine po_gd ?_ ?_; · omega) | (with_reducible refine po_bnd ?_) | (with_reducible refine po_ift ?_ ?_; · omega) | (with_reducible refine po_iff ?_ ?_; · omega) | (with_reducible refine po_crs ?_) | (with_reducible refine po_cls ?_) | (with_reducible refine po_cre (ev_inF ?_) ?_; (· omega))))
      exact po_some rfl

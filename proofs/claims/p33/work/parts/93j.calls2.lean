/-! ===== a new account ===== -/
theorem Cor.addA {H H' : hR} {m m' : mR} {a : Int} (h : CorM H m) (hk : okN H) (ha : H.1 0 4 0 = a) (h8 : a < 8)
    (hH : ∀ t x y : Int, ¬ (t = 0 ∧ x = 4 ∧ y = 0) → ¬ (t = 2 ∧ x = a) → H'.1 t x y = H.1 t x y) (hD : ∀ j : Int, ¬ j = a → H'.2 j = H.2 j) (h4 : H'.1 0 4 0 = a + 1)
    (hN : ∀ j : Int, ¬ j = 1 → ¬ (33 + 11 * a ≤ j ∧ j < 33 + 11 * a + 11) → m'.1 0 j = m.1 0 j) (hN1 : m'.1 0 1 = a + 1) (hW : m'.1 1 = m.1 1) (hO : ∀ j : Int, ¬ j = a → m'.2 0 j = m.2 0 j)
    (he : ∀ f : Int, 0 ≤ f ∧ f ≤ 10 → m'.1 0 (33 + 11 * a + f) = H'.1 2 a f) (hoe : m'.2 0 a = H'.2 a) : CorM H' m' := by
  obtain ⟨h1, h2, h3, h4', h5⟩ := h
  have hk' := hk
  unfold okN at hk
  obtain ⟨g1, g2, g3, g4, g5, g6, g7, g8, g9, g10⟩ := h1
  refine ⟨?_, h2.fr (fun x => hH _ _ _ (by omega) (by omega)) (fun k q => hN _ (by omega) (by omega)), ?_, h4'.fr (fun o f q => hH _ _ _ (by omega) (by omega)) (fun k q => hN _ (by omega) (by omega)) (by omega), ?_⟩
  · refine ⟨?_, ?_, ?_, ?_, ?_, ?_, ?_, ?_, ?_, ?_⟩
    · rw [hN _ (by omega) (by omega), hH _ _ _ (by omega) (by omega)]; exact g1
    · rw [hN1, h4]
    all_goals (rw [hN _ (by omega) (by omega), hH _ _ _ (by omega) (by omega)]; assumption)
  · intro x hx
    rw [hN1] at hx
    by_cases hxa : x = a
    · subst hxa
      exact ⟨he, hoe⟩
    · obtain ⟨q1, q2⟩ := h3 x (by omega)
      refine ⟨fun f hf => ?_, ?_⟩
      · rw [hN _ (by omega) (by omega), hH _ _ _ (by omega) (by omega)]
        exact q1 f hf
      · rw [hO x hxa, hD x hxa]
        exact q2
  · rw [hN _ (by omega) (by omega), hW]
    exact h5.fr (fun c i q => hH _ _ _ (by omega) (by omega)) (fun i q => rfl) (Int.le_refl _)
theorem sumW_0 {H : hR} {a : Int} : ∀ n : Nat, (∀ i : Int, 0 ≤ i ∧ i < n → ¬ H.1 3 (H.1 5 0 i) 0 = a) → sumW H a n = 0
  | 0, _ => rfl
  | n + 1, h => by
    unfold sumW
    rw [sumW_0 n (fun i hi => h i (by omega)), if_neg (h n (by omega))]
    rfl
theorem owV_0 : owV FP.dconst0 0 := ⟨by decide, 0, dv_zero, by decide⟩
theorem debtB_pos : ∀ n : Nat, 0 ≤ debtB n
  | 0 => by decide
  | n + 1 => by
    have := debtB_pos n
    unfold debtB
    omega
theorem Ok.addA {T : Int} {H H' : hR} {a : Int} (hT : 0 ≤ T) (h : Ok T H) (ha : H.1 0 4 0 = a) (h8 : a < 8)
    (hH : ∀ t x y : Int, ¬ (t = 0 ∧ x = 4 ∧ y = 0) → ¬ (t = 2 ∧ x = a) → H'.1 t x y = H.1 t x y) (hD : ∀ j : Int, ¬ j = a → H'.2 j = H.2 j) (h4 : H'.1 0 4 0 = a + 1)
    (h0 : 0 ≤ H'.1 2 a 0 ∧ H'.1 2 a 0 ≤ 1000000) (h1 : 0 ≤ H'.1 2 a 1 ∧ H'.1 2 a 1 ≤ 1000000) (h2 : H'.1 2 a 2 = -6) (h3 : ∀ f : Int, 3 ≤ f ∧ f ≤ 11 → H'.1 2 a f = 0) (ho : H'.2 a = FP.dconst0) : Ok (T + 1) H' := by
  obtain ⟨k1, k2, k3, k4, k5, k6, k7, k8⟩ := h
  have e5 : H'.1 0 5 0 = H.1 0 5 0 := hH _ _ _ (by omega) (by omega)
  have e6 : H'.1 0 6 0 = H.1 0 6 0 := hH _ _ _ (by omega) (by omega)
  have e42 : H'.1 4 2 0 = H.1 4 2 0 := hH _ _ _ (by omega) (by omega)
  have k1' := k1
  unfold okN at k1'
  have ht := k2.1
  have hdb := debtB_pos (H.1 0 6 0).toNat
  refine ⟨?_, k2.fr (fun t x q => hH _ _ _ (by omega) (by omega)), ?_, ?_, k5.fr e42 e5 (fun c i _ => hH _ _ _ (by omega) (by omega)), ?_, ?_, ?_⟩
  · unfold okN
    rw [h4, e5, e42, hH 4 1 0 (by omega) (by omega)]
    exact ⟨by omega, k1'.2.1, k1'.2.2.1, k1'.2.2.2⟩
  · intro x hx
    rw [h4] at hx ⊢
    by_cases hxa : x = a
    · subst hxa
      exact ⟨h0, h1, Or.inl h2⟩
    · have := k3 x (by omega)
      rw [hH 2 x 0 (by omega) (by omega), hH 2 x 1 (by omega) (by omega), hH 2 x 2 (by omega) (by omega)]
      omega
  · intro o q
    rw [e5] at q
    obtain ⟨q1, q2, q3⟩ := k4 o q
    refine ⟨q1.fr (fun f hf => hH _ _ _ (by omega) (by omega)), ?_, ?_⟩
    · unfold okP at *
      rw [hH 3 o 0 (by omega) (by omega), hH 3 o 1 (by omega) (by omega), hH 3 o 2 (by omega) (by omega), hH 3 o 8 (by omega) (by omega), hH 3 o 9 (by omega) (by omega), hH 3 o 10 (by omega) (by omega), hH 3 o 11 (by omega) (by omega), h4]
      omega
    · unfold okC at *
      rw [hH 3 o 12 (by omega) (by omega), hH 3 o 13 (by omega) (by omega), hH 3 o 14 (by omega) (by omega), hH 3 o 15 (by omega) (by omega), hH 3 o 16 (by omega) (by omega)]
      exact q3
  · refine ⟨fun x hx => ?_, fun o q => ?_⟩
    · rw [h4] at hx
      rw [e42]
      by_cases hxa : x = a
      · subst hxa
        rw [h3 11 (by decide), sumW_0]
        intro i hi
        rw [hH 5 0 i (by omega) (by omega), hH 3 _ 0 (by omega) (by omega)]
        have q1 := (k5.1 i (by omega)).1
        have q2 := (k4 _ q1).2.1.1
        omega
      · rw [hH 2 x 11 (by omega) (by omega), sumW_fr (H := H) _ (fun c i _ => hH _ _ _ (by omega) (by omega)) (fun i _ => hH _ _ _ (by omega) (by omega))]
        exact k6.1 x (by omega)
    · rw [e5] at q
      rw [e42, hH 3 o 15 (by omega) (by omega), cntW_fr (H := H) _ (fun i _ => hH _ _ _ (by omega) (by omega))]
      exact k6.2 o q
  · intro x hx f hf
    rw [h4] at hx
    rw [e6]
    by_cases hxa : x = a
    · subst hxa
      rw [h3 f (by omega)]
      unfold monB
      omega
    · rw [hH 2 x f (by omega) (by omega)]
      have := k7 x (by omega) f hf
      unfold monB at *
      omega
  · intro x hx
    rw [h4] at hx
    rw [e6]
    by_cases hxa : x = a
    · subst hxa
      rw [h3 3 (by decide), ho]
      exact ⟨0, owV_0, by omega, by omega⟩
    · rw [hH 2 x 3 (by omega) (by omega), hD x hxa]
      exact k8 x (by omega)
theorem em_accL {a : Int} (ha : 0 ≤ a ∧ a < 8) : ∀ (n fuel : Nat) (k : Int) (m : mR), k + n = 8 → 0 ≤ k → n < fuel → po (fX7_account_b105 fuel a k m) (fun p => p.1 = a ∧ (∀ j : Int, p.2.1 0 j = if j = 1 then m.1 0 1 + 1 else if 36 + 11 * a + k ≤ j ∧ j < 44 + 11 * a then 0 else m.1 0 j) ∧ p.2.1 1 = m.1 1 ∧ (∀ j : Int, p.2.2 0 j = if j = a then FP.dconst0 else m.2 0 j) ∧ keptEq m p.2)
  | n, 0, k, m, _, _, h => by omega
  | 0, fuel + 1, k, m, h1, h2, _ => by
    unfold fX7_account_b105
    refine po_gd (by omega) (po_ift (by omega) (po_gd (by omega) (po_bnd (po_bnd (po_some ⟨rfl, fun j => ?_, ?_, fun j => ?_, (keptEq.rf m).d.s (by decide)⟩)))))
    · rw [mS_0]
      unfold up1
      rw [mD_1]
      by_cases q : j = 1
      · rw [if_pos q, if_pos q]
      · rw [if_neg q, if_neg q, if_neg (by omega)]
    · rw [mS_t _ _ _ (by decide), mD_1]
    · rw [mS_2, mD_0]
      rfl
  | n + 1, fuel + 1, k, m, h1, h2, h3 => by
    unfold fX7_account_b105
    refine po_gd (by omega) (po_iff (by omega) (po_gd (by omega) (po_bnd ((em_accL ha n fuel (k + 1) _ (by omega) (by omega) (by omega)).mono (fun p hp => ?_)))))
    obtain ⟨p1, p2, p3, p4, p5⟩ := hp
    refine ⟨p1, fun j => ?_, p3.trans (mS_t _ _ _ (by decide)), p4, ((keptEq.rf m).s (by decide)).tr p5⟩
    rw [p2 j, mS_0]
    unfold up1
    by_cases q : j = 1
    · rw [if_pos q, if_pos q, if_neg (by omega)]
    · rw [if_neg q, if_neg q]
      by_cases q2 : j = 33 + 11 * a + 3 + k
      · rw [if_neg (by omega), if_pos q2, if_pos (by omega)]
      · by_cases q3 : 36 + 11 * a + (k + 1) ≤ j ∧ j < 44 + 11 * a
        · rw [if_pos q3, if_pos (by omega)]
        · rw [if_neg q3, if_neg q2, if_neg (by omega)]
theorem ls_account {T : Int} {H : hR} {m : mR} (hT : 0 ≤ T) (h : Sim T H m) {v w : Int} (hv : wR v) (hw : wR w) : callOK T H m (fX2_addAccount v w H) (fX7_account v w m) := by
  have k1 := h.2.2.1
  have q2 := h.1.1.2.1
  have k1' := k1
  unfold okN at k1'
  by_cases g1 : 0 ≤ v ∧ v ≤ 1000000
  · by_cases g2 : 0 ≤ w ∧ w ≤ 1000000
    · by_cases g3 : H.1 0 4 0 < 8
      · have hcl : po (fX2_addAccount v w H) (fun p => p.1 = H.1 0 4 0 ∧ (∀ t x y : Int, p.2.1 t x y = if t = 0 ∧ x = 4 ∧ y = 0 then H.1 0 4 0 + 1 else if t = 2 ∧ x = H.1 0 4 0 ∧ 0 ≤ y ∧ y ≤ 11 then (if y = 0 then v else if y = 1 then w else if y = 2 then -6 else 0) else H.1 t x y) ∧ ∀ j : Int, p.2.2 j = if j = H.1 0 4 0 then FP.dconst0 else H.2 j) := by
          unfold fX2_addAccount fX0_open
          (repeat (first | (with_reducible refine po_gd ?_ ?_; · omega) | (with_reducible refine po_bnd ?_) | (with_reducible refine po_ift ?_ ?_; · omega) | (with_reducible refine po_iff ?_ ?_; · omega) | (with_reducible refine po_crs ?_) | (with_reducible refine po_cls ?_) | (with_reducible refine po_cre (ev_btT ?_) ?_; (· omega)) | (with_reducible refine po_cln ?_) | (with_reducible refine po_sk ?_)))
          refine po_some ⟨?_, fun t x y => ?_, fun j => rfl⟩
          · simp only [hS_1, hD_1]
            simp
          · by_cases q0 : t = 0 ∧ x = 4 ∧ y = 0
            · rw [if_pos q0]
              simp only [hS_1, hD_1]
              rw [if_pos q0]
              simp
            · rw [if_neg q0]
              simp only [hS_1, hD_1]
              rw [if_neg q0]
              by_cases q1 : t = 2 ∧ x = H.1 0 4 0
              · by_cases q2 : 0 ≤ y ∧ y ≤ 11
                · rw [if_pos (show t = 2 ∧ x = H.1 0 4 0 ∧ 0 ≤ y ∧ y ≤ 11 from ⟨q1.1, q1.2, q2⟩)]
                  have q3 : y = 0 ∨ y = 1 ∨ y = 2 ∨ y = 3 ∨ y = 4 ∨ y = 5 ∨ y = 6 ∨ y = 7 ∨ y = 8 ∨ y = 9 ∨ y = 10 ∨ y = 11 := by omega
                  rcases q3 with rfl | rfl | rfl | rfl | rfl | rfl | rfl | rfl | rfl | rfl | rfl | rfl <;> simp [q1.1, q1.2]
                · have q3 : ∀ k : Int, 0 ≤ k → k ≤ 11 → ¬ (t = 2 ∧ x = H.1 0 4 0 ∧ y = k) := fun k _ _ => by omega
                  rw [if_neg (show ¬ (t = 2 ∧ x = H.1 0 4 0 ∧ 0 ≤ y ∧ y ≤ 11) by omega), if_neg (q3 _ (by decide) (by decide)), if_neg (q3 _ (by decide) (by decide)), if_neg (q3 _ (by decide) (by decide)), if_neg (q3 _ (by decide) (by decide)), if_neg (q3 _ (by decide) (by decide)), if_neg (q3 _ (by decide) (by decide)), if_neg (q3 _ (by decide) (by decide)), if_neg (q3 _ (by decide) (by decide)), if_neg (q3 _ (by decide) (by decide)), if_neg (q3 _ (by decide) (by decide)), if_neg (q3 _ (by decide) (by decide)), if_neg (q3 _ (by decide) (by decide))]
              · have q3 : ∀ k : Int, ¬ (t = 2 ∧ x = H.1 0 4 0 ∧ y = k) := fun k q => q1 ⟨q.1, q.2.1⟩
                rw [if_neg (show ¬ (t = 2 ∧ x = H.1 0 4 0 ∧ 0 ≤ y ∧ y ≤ 11) from fun q => q1 ⟨q.1, q.2.1⟩)]
                simp only [q3, if_false]
        obtain ⟨⟨r, H'⟩, e1, e2, e3, e4⟩ := hcl
        have e2 : r = H.1 0 4 0 := e2
        subst e2
        have hnew : ∀ y : Int, 0 ≤ y ∧ y ≤ 11 → H'.1 2 (H.1 0 4 0) y = (if y = 0 then v else if y = 1 then w else if y = 2 then -6 else 0) := fun y hy => by
          rw [e3, if_neg (by omega), if_pos ⟨rfl, rfl, hy⟩]
        have hold : ∀ t x y : Int, ¬ (t = 0 ∧ x = 4 ∧ y = 0) → ¬ (t = 2 ∧ x = H.1 0 4 0) → H'.1 t x y = H.1 t x y := fun t x y a b => by
          rw [e3, if_neg a, if_neg (fun q => b ⟨q.1, q.2.1⟩)]
        have h4 : H'.1 0 4 0 = H.1 0 4 0 + 1 := by rw [e3, if_pos ⟨rfl, rfl, rfl⟩]
        refine ⟨_, H', e1, by omega, Or.inr ⟨by omega, fun m1 hr => ?_⟩⟩
        have hs := h.rec hr
        have q2' : m1.1 0 1 = H.1 0 4 0 := hs.1.1.2.1
        obtain ⟨p, f1, f2, f3, f4, f5, f6⟩ := em_accL (a := H.1 0 4 0) (by omega) 8 fuel0 0 (mS (mS (mS m1 0 (33 + 11 * H.1 0 4 0 + 0) v) 0 (33 + 11 * H.1 0 4 0 + 1) w) 0 (33 + 11 * H.1 0 4 0 + 2) (-6)) (by decide) (by decide) (by decide)
        have rd : ∀ j : Int, p.2.1 0 j = if j = 1 then H.1 0 4 0 + 1 else if 36 + 11 * H.1 0 4 0 ≤ j ∧ j < 44 + 11 * H.1 0 4 0 then 0 else if j = 35 + 11 * H.1 0 4 0 then -6 else if j = 34 + 11 * H.1 0 4 0 then w else if j = 33 + 11 * H.1 0 4 0 then v else m1.1 0 j := by
          intro j
          rw [f3, mS_0, mS_0, mS_0]
          unfold up1
          by_cases c1 : j = 1
          · rw [if_pos c1, if_pos c1, if_neg (by omega), if_neg (by omega), if_neg (by omega), q2']
          · rw [if_neg c1, if_neg c1]
            by_cases c2 : 36 + 11 * H.1 0 4 0 ≤ j ∧ j < 44 + 11 * H.1 0 4 0
            · rw [if_pos c2, if_pos (by omega)]
            · rw [if_neg c2, if_neg (by omega)]
              by_cases c3 : j = 35 + 11 * H.1 0 4 0
              · rw [if_pos c3, if_pos (by omega)]
              · rw [if_neg c3, if_neg (by omega)]
                by_cases c4 : j = 34 + 11 * H.1 0 4 0
                · rw [if_pos c4, if_pos (by omega)]
                · rw [if_neg c4, if_neg (by omega)]
                  by_cases c5 : j = 33 + 11 * H.1 0 4 0
                  · rw [if_pos c5, if_pos (by omega)]
                  · rw [if_neg c5, if_neg (by omega)]
        refine ⟨p.2, po_eq ?_, ⟨?_, ?_, ?_⟩, (((keptEq.rf m1).s (by decide)).s (by decide)).s (by decide) |>.tr f6⟩
        · have hr1 := hr.1
          unfold fX7_account
          (repeat (first | (with_reducible refine po_gd ?_ ?_; · omega) | (with_reducible refine po_bnd ?_) | (with_reducible refine po_ift ?_ ?_; · omega) | (with_reducible refine po_iff ?_ ?_; · omega) | (with_reducible refine po_crs ?_) | (with_reducible refine po_cls ?_) | (with_reducible refine po_cre (ev_inT ?_) ?_; (· omega)) | (with_reducible refine po_cle hr1 ?_) | (with_reducible refine po_cre (ev_of ?_) ?_; (· omega))))
          rw [q2']
          (repeat (first | (with_reducible refine po_gd ?_ ?_; · omega) | (with_reducible refine po_bnd ?_) | (with_reducible refine po_ift ?_ ?_; · omega) | (with_reducible refine po_iff ?_ ?_; · omega) | (with_reducible refine po_crs ?_) | (with_reducible refine po_cls ?_)))
          refine po_of f1 ?_
          rw [← f2]
        · refine hs.1.addA k1 rfl g3 hold (fun j hj => by rw [e4, if_neg hj]) h4 (fun j a b => ?_) ?_ ?_ (fun j hj => ?_) (fun f hf => ?_) ?_
          · rw [rd, if_neg a, if_neg (by omega), if_neg (by omega), if_neg (by omega), if_neg (by omega)]
          · rw [rd, if_pos rfl]
          · rw [f4, mS_t _ _ _ (by decide), mS_t _ _ _ (by decide), mS_t _ _ _ (by decide)]
          · rw [f5, if_neg hj]
            rfl
          · rw [hnew f (by omega), rd, if_neg (by omega)]
            by_cases c1 : f = 0
            · rw [if_neg (by omega), if_neg (by omega), if_neg (by omega), if_pos (by omega), if_pos c1]
            · by_cases c2 : f = 1
              · rw [if_neg (by omega), if_neg (by omega), if_pos (by omega), if_neg c1, if_pos c2]
              · by_cases c3 : f = 2
                · rw [if_neg (by omega), if_pos (by omega), if_neg c1, if_neg c2, if_pos c3]
                · rw [if_pos (by omega), if_neg c1, if_neg c2, if_neg c3]
          · rw [f5, if_pos rfl, e4, if_pos rfl]
        · refine hs.2.1.fr (hold _ _ _ (by omega) (by omega)) (fun o f q => hold _ _ _ (by omega) (by omega)) (fun k q => ?_)
          rw [rd, if_neg (by omega), if_neg (by omega), if_neg (by omega), if_neg (by omega), if_neg (by omega)]
        · refine hs.2.2.addA hT rfl g3 hold (fun j hj => by rw [e4, if_neg hj]) h4 ?_ ?_ ?_ (fun f hf => ?_) (by rw [e4, if_pos rfl])
          · rw [hnew 0 (by decide), if_pos rfl]; exact g1
          · rw [hnew 1 (by decide)]; exact g2
          · rw [hnew 2 (by decide)]; rfl
          · rw [hnew f (by omega), if_neg (by omega), if_neg (by omega), if_neg (by omega)]
      · refine callErr (r := -4) (by decide) (po_eq ?_) (po_eq ?_)
        · unfold fX2_addAccount
          (repeat (first | (with_reducible refine po_gd ?_ ?_; · omega) | (with_reducible refine po_bnd ?_) | (with_reducible refine po_ift ?_ ?_; · omega) | (with_reducible refine po_iff ?_ ?_; · omega) | (with_reducible refine po_crs ?_) | (with_reducible refine po_cls ?_) | (with_reducible refine po_cre (ev_btT ?_) ?_; (· omega))))
          exact po_some rfl
        · unfold fX7_account
          (repeat (first | (with_reducible refine po_gd ?_ ?_; · omega) | (with_reducible refine po_bnd ?_) | (with_reducible refine po_ift ?_ ?_; · omega) | (with_reducible refine po_iff ?_ ?_; · omega) | (with_reducible refine po_crs ?_) | (with_reducible refine po_cls ?_) | (with_reducible refine po_cre (ev_inT ?_) ?_; (· omega))))
          exact po_some rfl
    · refine callErr (r := -2) (by decide) (po_eq ?_) (po_eq ?_)
      · unfold fX2_addAccount
        (repeat (first | (with_reducible refine po_gd ?_ ?_; · omega) | (with_reducible refine po_bnd ?_) | (with_reducible refine po_ift ?_ ?_; · omega) | (with_reducible refine po_iff ?_ ?_; · omega) | (with_reducible refine po_crs ?_) | (with_reducible refine po_cls ?_) | (with_reducible refine po_cre (ev_btT ?_) ?_; (· omega)) | (with_reducible refine po_cre (ev_btF ?_) ?_; (· omega))))
        exact po_some rfl
      · unfold fX7_account
        (repeat (first | (with_reducible refine po_gd ?_ ?_; · omega) | (with_reducible refine po_bnd ?_) | (with_reducible refine po_ift ?_ ?_; · omega) | (with_reducible refine po_iff ?_ ?_; · omega) | (with_reducible refine po_crs ?_) | (with_reducible refine po_cls ?_) | (with_reducible refine po_cre (ev_inT ?_) ?_; (· omega)) | (with_reducible refine po_cre (ev_inF ?_) ?_; (· omega))))
        exact po_some rfl
  · refine callErr (r := -2) (by decide) (po_eq ?_) (po_eq ?_)
    · unfold fX2_addAccount
      (repeat (first | (with_reducible refine po_gd ?_ ?_; · omega) | (with_reducible refine po_bnd ?_) | (with_reducible refine po_ift ?_ ?_; · omega) | (with_reducible refine po_iff ?_ ?_; · omega) | (with_reducible refine po_crs ?_) | (with_reducible refine po_cls ?_) | (with_reducible refine po_cre (ev_btF ?_) ?_; (· omega))))
      exact po_some rfl
    · unfold fX7_account
      (repeat (first | (with_reducible refine po_gd ?_ ?_; · omega) | (with_reducible refine po_bnd ?_) | (with_reducible refine po_ift ?_ ?_; · omega) | (with_reducible refine po_iff ?_ ?_; · omega) | (with_reducible refine po_crs ?_) | (with_reducible refine po_cls ?_) | (with_reducible refine po_cre (ev_inF ?_) ?_; (· omega))))
      exact po_some rfl

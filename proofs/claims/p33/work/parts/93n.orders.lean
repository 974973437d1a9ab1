/-! ===== orders' calls in step ===== -/
/-- an order's own fields written: what Ok wants of it -/
theorem Ok.ord {T T' : Int} {H H' : hR} (h : Ok T H) (hT : T ≤ T') {o : Int} (ho : 0 ≤ o ∧ o < H.1 0 5 0) (hH : ∀ t x y : Int, ¬ (t = 3 ∧ x = o) → H'.1 t x y = H.1 t x y) (hD : H'.2 = H.2) (h0 : H'.1 3 o 0 = H.1 3 o 0) (h15 : H'.1 3 o 15 = H.1 3 o 15) (q1 : okOrd H' o) (q2 : okP H' o) (q3 : okC H' o) : Ok T' H' := by
  obtain ⟨k1, k2, k3, k4, k5, k6, k7, k8⟩ := h
  refine ⟨k1.fr (hH _ _ _ (by omega)) (hH _ _ _ (by omega)) (hH _ _ _ (by omega)) (hH _ _ _ (by omega)), k2.fr (fun t x q => hH _ _ _ (by omega)), k3.fr (hH _ _ _ (by omega)) (fun a f q => hH _ _ _ (by omega)), ?_, k5.fr (hH _ _ _ (by omega)) (hH _ _ _ (by omega)) (fun c i q => hH _ _ _ (by omega)), ?_, k7.fr hT (hH _ _ _ (by omega)) (hH _ _ _ (by omega)) (fun a f q => hH _ _ _ (by omega)), k8.fr (hH _ _ _ (by omega)) (hH _ _ _ (by omega)) (fun a => hH _ _ _ (by omega)) hD⟩
  · intro x hx
    rw [hH 0 5 0 (by omega)] at hx
    by_cases q : x = o
    · subst q
      exact ⟨q1, q2, q3⟩
    · obtain ⟨g1, g2, g3⟩ := k4 x hx
      have e : ∀ f : Int, H'.1 3 x f = H.1 3 x f := fun f => hH _ _ _ (by omega)
      refine ⟨g1.fr (fun f _ => e f), ?_, ?_⟩
      · unfold okP at *
        rw [e, e, e, e, e, e, e, hH 0 4 0 (by omega)]
        exact g2
      · unfold okC at *
        rw [e, e, e, e, e]
        exact g3
  · refine k6.fr k1 (hH _ _ _ (by omega)) (hH _ _ _ (by omega)) (hH _ _ _ (by omega)) (fun c i q => hH _ _ _ (by omega)) (fun a => hH _ _ _ (by omega)) (fun x => ?_)
    by_cases q : x = o
    · subst q
      exact ⟨h0, h15⟩
    · exact ⟨hH _ _ _ (by omega), hH _ _ _ (by omega)⟩
theorem Tot.ord {H H' : hR} {N N' : Int → Int} (h : Tot H N) {o : Int} (hH : ∀ t x y : Int, ¬ (t = 3 ∧ x = o) → H'.1 t x y = H.1 t x y) (hf : ∀ f : Int, 12 ≤ f ∧ f ≤ 14 → H'.1 3 o f = H.1 3 o f) (hN : ∀ k : Int, 5 ≤ k ∧ k ≤ 7 → N' k = N k) : Tot H' N' := by
  refine h.fr (hH _ _ _ (by omega)) (fun x f q => ?_) hN
  by_cases c : x = o
  · subst c
    exact hf f q
  · exact hH _ _ _ (by omega)
theorem ordN_at {H H' : hR} {o k : Int} (h : ∀ f : Int, (k = 1 ∧ f = 1) ∨ (k ≤ 8 ∧ ¬ k = 1 ∧ f = k) ∨ (k = 9 ∧ (f = 11 ∨ f = 10)) ∨ (10 ≤ k ∧ k ≤ 13 ∧ f = k + 1) ∨ (k = 14 ∧ f = 16) ∨ (15 ≤ k ∧ f = 9) → H'.1 3 o f = H.1 3 o f) : ordN H' o k = ordN H o k := by
  unfold ordN
  by_cases c1 : k = 1
  · rw [if_pos c1, if_pos c1, h 1 (by omega)]
  · rw [if_neg c1, if_neg c1]
    by_cases c2 : k ≤ 8
    · rw [if_pos c2, if_pos c2, h k (by omega)]
    · rw [if_neg c2, if_neg c2]
      by_cases c3 : k = 9
      · rw [if_pos c3, if_pos c3, h 11 (by omega), h 10 (by omega)]
      · rw [if_neg c3, if_neg c3]
        by_cases c4 : k ≤ 13
        · rw [if_pos c4, if_pos c4, h (k + 1) (by omega)]
        · rw [if_neg c4, if_neg c4]
          by_cases c5 : k = 14
          · rw [if_pos c5, if_pos c5, h 16 (by omega)]
          · rw [if_neg c5, if_neg c5, h 9 (by omega)]
theorem ls_change {T : Int} {H : hR} {m : mR} (h : Sim T H m) {o a p : Int} (ho : wR o) (ha : wR a) (hp : wR p) : callOK T H m (fX2_alterOrder o a p H) (fX7_change o a p m) := by
  have k1 := h.2.2.1
  have q2 := h.1.1.2.2.1
  have k1' := k1
  unfold okN at k1'
  by_cases g1 : 0 ≤ o ∧ o < H.1 0 5 0
  · have hA1 : fX2_hasOrder o H = some 1 := by rw [ev_hasO (by omega), bI_t (decide_eq_true g1)]
    have hA2 : fX7_isOrder o m = some 1 := by rw [ev_isO (by omega), q2, bI_t (decide_eq_true g1)]
    by_cases g2 : 1 ≤ a ∧ a ≤ 1000000
    · by_cases g3 : 0 ≤ p ∧ p ≤ 9
      · obtain ⟨w1, w2, w3⟩ := h.2.2.2.2.2.1 o g1
        have w2' := w2
        unfold okP at w2'
        have r10 : m.1 0 (121 + 16 * o + 10) = H.1 3 o 11 := h.1.atO g1 10 (by decide)
        by_cases g4 : H.1 3 o 11 = 2
        · refine callErr (r := -5) (by decide) (po_eq ?_) (po_eq ?_)
          · unfold fX2_alterOrder
            (repeat (first | (with_reducible refine po_gd ?_ ?_; · omega) | (with_reducible refine po_bnd ?_) | (with_reducible refine po_ift ?_ ?_; · omega) | (with_reducible refine po_iff ?_ ?_; · omega) | (with_reducible refine po_crs ?_) | (with_reducible refine po_cls ?_) | (with_reducible refine po_cre hA1 ?_) | (with_reducible refine po_cre (ev_btT ?_) ?_; (· omega))))
            exact po_some rfl
          · unfold fX7_change
            (repeat (first | (with_reducible refine po_gd ?_ ?_; · omega) | (with_reducible refine po_bnd ?_) | (with_reducible refine po_ift ?_ ?_; · omega) | (with_reducible refine po_iff ?_ ?_; · omega) | (with_reducible refine po_crs ?_) | (with_reducible refine po_cls ?_) | (with_reducible refine po_cre hA2 ?_) | (with_reducible refine po_cre (ev_inT ?_) ?_; (· omega)) | (with_reducible refine po_cre (ev_ofO ?_) ?_; (· omega))))
            exact po_some rfl
        · have hx : ∀ t x y : Int, ¬ (t = 3 ∧ x = o) → (hS (hS H 3 o 2 a) 3 o 8 p).1 t x y = H.1 t x y := fun t x y q => by rw [hS_n _ (by omega), hS_n _ (by omega)]
          have hf : ∀ f : Int, ¬ f = 2 → ¬ f = 8 → (hS (hS H 3 o 2 a) 3 o 8 p).1 3 o f = H.1 3 o f := fun f q r => by rw [hS_n _ (by omega), hS_n _ (by omega)]
          have f2 : (hS (hS H 3 o 2 a) 3 o 8 p).1 3 o 2 = a := by rw [hS_n _ (by omega), hS_p]
          have f8 : (hS (hS H 3 o 2 a) 3 o 8 p).1 3 o 8 = p := hS_p _ _ _ _ _
          refine ⟨H.1 3 o 2, hS (hS H 3 o 2 a) 3 o 8 p, po_eq ?_, by omega, Or.inr ⟨by omega, fun m1 hr => ?_⟩⟩
          · unfold fX2_alterOrder
            (repeat (first | (with_reducible refine po_gd ?_ ?_; · omega) | (with_reducible refine po_bnd ?_) | (with_reducible refine po_ift ?_ ?_; · omega) | (with_reducible refine po_iff ?_ ?_; · omega) | (with_reducible refine po_crs ?_) | (with_reducible refine po_cls ?_) | (with_reducible refine po_cre hA1 ?_) | (with_reducible refine po_cre (ev_btT ?_) ?_; (· omega))))
            exact po_some rfl
          · have hs := h.rec hr
            have r2 : m1.1 0 (121 + 16 * o + 2) = H.1 3 o 2 := hs.1.atO g1 2 (by decide)
            refine ⟨mS (mS m1 0 (121 + 16 * o + 2) a) 0 (121 + 16 * o + 8) p, po_eq ?_, ⟨hs.1.ord k1 (o := o) (by omega) hx rfl (fun j q => by rw [mS_n _ (by omega), mS_n _ (by omega)]) (by rw [mS_t _ _ _ (by decide), mS_t _ _ _ (by decide)]) rfl (fun f q => ?_), hs.2.1.ord hx (fun f q => hf f (by omega) (by omega)) (fun k q => by rw [mS_n _ (by omega), mS_n _ (by omega)]), h.2.2.ord (by omega) g1 hx rfl (hf 0 (by decide) (by decide)) (hf 15 (by decide) (by decide)) (w1.fr (fun f q => hf f (by omega) (by omega))) ?_ ?_⟩, ((keptEq.rf m1).s (by decide)).s (by decide)⟩
            · have hr1 := hr.1
              unfold fX7_change
              (repeat (first | (with_reducible refine po_gd ?_ ?_; · omega) | (with_reducible refine po_bnd ?_) | (with_reducible refine po_ift ?_ ?_; · omega) | (with_reducible refine po_iff ?_ ?_; · omega) | (with_reducible refine po_crs ?_) | (with_reducible refine po_cls ?_) | (with_reducible refine po_cre hA2 ?_) | (with_reducible refine po_cre (ev_inT ?_) ?_; (· omega)) | (with_reducible refine po_cre (ev_ofO ?_) ?_; (· omega)) | (with_reducible refine po_cle hr1 ?_) | (with_reducible refine po_cle (ev_becomes ?_ ?_ ?_) ?_; (· omega); (· omega); (· omega))))
              rw [r2]
              exact po_some rfl
            · have := hs.1.atO g1 f q
              by_cases c2 : f = 2
              · subst c2
                rw [mS_n _ (by omega), mS_p]
                exact f2.symm
              · by_cases c8 : f = 8
                · subst c8
                  rw [mS_p]
                  exact f8.symm
                · rw [mS_n _ (by omega), mS_n _ (by omega), this]
                  exact (ordN_at (fun f' q' => hf f' (by omega) (by omega))).symm
            · unfold okP at *
              rw [hf 0 (by decide) (by decide), hf 1 (by decide) (by decide), f2, f8, hf 9 (by decide) (by decide), hf 10 (by decide) (by decide), hf 11 (by decide) (by decide), hx 0 4 0 (by omega)]
              omega
            · unfold okC at *
              rw [hf 12 (by decide) (by decide), hf 13 (by decide) (by decide), hf 14 (by decide) (by decide), hf 15 (by decide) (by decide), hf 16 (by decide) (by decide)]
              exact w3
      · refine callErr (r := -2) (by decide) (po_eq ?_) (po_eq ?_)
        · unfold fX2_alterOrder
          (repeat (first | (with_reducible refine po_gd ?_ ?_; · omega) | (with_reducible refine po_bnd ?_) | (with_reducible refine po_ift ?_ ?_; · omega) | (with_reducible refine po_iff ?_ ?_; · omega) | (with_reducible refine po_crs ?_) | (with_reducible refine po_cls ?_) | (with_reducible refine po_cre hA1 ?_) | (with_reducible refine po_cre (ev_btT ?_) ?_; (· omega)) | (with_reducible refine po_cre (ev_btF ?_) ?_; (· omega))))
          exact po_some rfl
        · unfold fX7_change
          (repeat (first | (with_reducible refine po_gd ?_ ?_; · omega) | (with_reducible refine po_bnd ?_) | (with_reducible refine po_ift ?_ ?_; · omega) | (with_reducible refine po_iff ?_ ?_; · omega) | (with_reducible refine po_crs ?_) | (with_reducible refine po_cls ?_) | (with_reducible refine po_cre hA2 ?_) | (with_reducible refine po_cre (ev_inT ?_) ?_; (· omega)) | (with_reducible refine po_cre (ev_inF ?_) ?_; (· omega))))
          exact po_some rfl
    · refine callErr (r := -2) (by decide) (po_eq ?_) (po_eq ?_)
      · unfold fX2_alterOrder
        (repeat (first | (with_reducible refine po_gd ?_ ?_; · omega) | (with_reducible refine po_bnd ?_) | (with_reducible refine po_ift ?_ ?_; · omega) | (with_reducible refine po_iff ?_ ?_; · omega) | (with_reducible refine po_crs ?_) | (with_reducible refine po_cls ?_) | (with_reducible refine po_cre hA1 ?_) | (with_reducible refine po_cre (ev_btF ?_) ?_; (· omega))))
        exact po_some rfl
      · unfold fX7_change
        (repeat (first | (with_reducible refine po_gd ?_ ?_; · omega) | (with_reducible refine po_bnd ?_) | (with_reducible refine po_ift ?_ ?_; · omega) | (with_reducible refine po_iff ?_ ?_; · omega) | (with_reducible refine po_crs ?_) | (with_reducible refine po_cls ?_) | (with_reducible refine po_cre hA2 ?_) | (with_reducible refine po_cre (ev_inF ?_) ?_; (· omega))))
        exact po_some rfl
  · have hA1 : fX2_hasOrder o H = some 0 := by rw [ev_hasO (by omega), bI_f (decide_eq_false g1)]
    have hA2 : fX7_isOrder o m = some 0 := by rw [ev_isO (by omega), q2, bI_f (decide_eq_false g1)]
    refine callErr (r := -1) (by decide) (po_eq ?_) (po_eq ?_)
    · unfold fX2_alterOrder
      (repeat (first | (with_reducible refine po_gd ?_ ?_; · omega) | (with_reducible refine po_bnd ?_) | (with_reducible refine po_ift ?_ ?_; · omega) | (with_reducible refine po_iff ?_ ?_; · omega) | (with_reducible refine po_crs ?_) | (with_reducible refine po_cls ?_) | (with_reducible refine po_cre hA1 ?_)))
      exact po_some rfl
    · unfold fX7_change
      (repeat (first | (with_reducible refine po_gd ?_ ?_; · omega) | (with_reducible refine po_bnd ?_) | (with_reducible refine po_ift ?_ ?_; · omega) | (with_reducible refine po_iff ?_ ?_; · omega) | (with_reducible refine po_crs ?_) | (with_reducible refine po_cls ?_) | (with_reducible refine po_cre hA2 ?_)))
      exact po_some rfl

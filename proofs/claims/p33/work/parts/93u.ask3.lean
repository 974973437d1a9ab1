/-! ===== ofOrder, dateOf: the class notes what comes next ===== -/
def onlyAims (H H' : hR) : Prop := (∀ t a f : Int, ¬ (t = 3 ∧ (f = 17 ∨ f = 18 ∨ f = 19)) → H'.1 t a f = H.1 t a f) ∧ H'.2 = H.2
theorem onlyAims.rf (H : hR) : onlyAims H H := ⟨fun _ _ _ _ => rfl, rfl⟩
theorem onlyAim.s {o : Int} {H H' : hR} (h : onlyAim o H H') : onlyAims H H' := ⟨fun t a f q => h.1 t a f (by omega), h.2⟩
theorem Sim.aims {T : Int} {H H' : hR} {m : mR} (h : Sim T H m) (g : onlyAims H H') : Sim T H' m :=
  ⟨h.1.own h.2.2.1 (fun t a f _ _ q _ => g.1 t a f (by omega)) g.2, h.2.1.fr (g.1 _ _ _ (by omega)) (fun o f q => g.1 _ _ _ (by omega)) (fun _ _ => rfl), h.2.2.fr (Int.le_refl _) (fun t x y _ _ _ q => g.1 t x y (by omega)) g.2⟩
def askW (c : cR) (a : Option (Int × cR)) (b : Option Int) : Prop := ∃ r c', a = some (r, c') ∧ b = some r ∧ wR r ∧ c'.2 = c.2 ∧ (∀ k : Int, ¬ k = 0 → c'.1 k = c.1 k) ∧ onlyAims (c.1 0) (c'.1 0)
theorem askWs {c : cR} {a : Option (Int × cR)} {b : Option Int} {r : Int} (hr : wR r) (h1 : a = some (r, c)) (h2 : b = some r) : askW c a b := ⟨r, c, h1, h2, hr, rfl, fun _ _ => rfl, onlyAims.rf _⟩
theorem askWh {c : cR} {a : Option (Int × cR)} {b : Option Int} {r : Int} {H : hR} (hr : wR r) (h1 : a = some (r, cH c 0 H)) (h2 : b = some r) (g : onlyAims (c.1 0) H) : askW c a b :=
  ⟨r, cH c 0 H, h1, h2, hr, rfl, fun k hk => up1_n _ _ hk, by
    show onlyAims _ (up1 c.1 0 H 0)
    rw [up1_p]
    exact g⟩
theorem ask_ofOrder {T : Int} {c : cR} {m : mR} (h : Sim T (c.1 0) m) {o w : Int} (ho : wR o) (hw : wR w) : askW c (fX6_ofOrder o w c) (fX7_ofOrder o w m) := by
  have k1 := h.2.2.1
  have q2 := h.1.1.2.2.1
  have k1' := k1
  unfold okN at k1'
  by_cases g1 : 0 ≤ o ∧ o < (c.1 0).1 0 5 0
  · have hA1 : fX2_hasOrder o (c.1 0) = some 1 := by rw [ev_hasO (by omega), bI_t (decide_eq_true g1)]
    have hA2 : fX7_isOrder o m = some 1 := by rw [ev_isO (by omega), q2, bI_t (decide_eq_true g1)]
    obtain ⟨w1, w2, w3⟩ := h.2.2.2.2.2.1 o g1
    have w1' := w1
    unfold okOrd at w1'
    have w2' := w2
    unfold okP at w2'
    have w3' := w3
    unfold okC at w3'
    have hc := h.1.atO g1
    have r10 : m.1 0 (121 + 16 * o + 10) = (c.1 0).1 3 o 11 := hc 10 (by decide)
    have r14 : m.1 0 (121 + 16 * o + 14) = (c.1 0).1 3 o 16 := hc 14 (by decide)
    obtain ⟨b1, b2⟩ := cal_both h.1 h.2.2.2.1.2.1
    by_cases g2 : w = 15
    · subst g2
      by_cases g3 : (c.1 0).1 3 o 11 = 2
      · have e1 : fX2_nextNominalDay o (c.1 0) = some (-6, c.1 0) := by
          refine po_eq ?_
          unfold fX2_nextNominalDay
          (repeat (first | (with_reducible refine po_gd ?_ ?_; · omega) | (with_reducible refine po_bnd ?_) | (with_reducible refine po_ift ?_ ?_; · omega) | (with_reducible refine po_iff ?_ ?_; · omega) | (with_reducible refine po_crs ?_) | (with_reducible refine po_cls ?_)))
          exact po_some rfl
        refine askWh (r := -6) (H := c.1 0) (by decide) (po_eq ?_) (po_eq ?_) (onlyAims.rf _)
        · unfold fX6_ofOrder
          (repeat (first | (with_reducible refine po_gd ?_ ?_; · omega) | (with_reducible refine po_bnd ?_) | (with_reducible refine po_ift ?_ ?_; · omega) | (with_reducible refine po_iff ?_ ?_; · omega) | (with_reducible refine po_crs ?_) | (with_reducible refine po_cls ?_) | (with_reducible refine po_cre hA1 ?_) | (with_reducible refine po_cle e1 ?_)))
          exact po_some rfl
        · unfold fX7_ofOrder fX7_ofOrder_b106
          (repeat (first | (with_reducible refine po_gd ?_ ?_; · omega) | (with_reducible refine po_bnd ?_) | (with_reducible refine po_ift ?_ ?_; · omega) | (with_reducible refine po_iff ?_ ?_; · omega) | (with_reducible refine po_crs ?_) | (with_reducible refine po_cls ?_) | (with_reducible refine po_cre hA2 ?_) | (with_reducible refine po_cre (ev_inT ?_) ?_; (· omega)) | (with_reducible refine po_cre (ev_ofO ?_) ?_; (· omega))))
          exact po_some rfl
      · obtain ⟨⟨u, H1⟩, f1, f2, f3⟩ := ec_aim (o := o) b1 w1 (by omega)
        have f2 : onlyAim o (c.1 0) H1 := f2
        have e16 : H1.1 3 o 16 = (c.1 0).1 3 o 16 := f2.1 3 o 16 (by omega)
        have e18 : H1.1 3 o 18 = nomO (cB (c.1 0)) (c.1 0) o (ixF (cB (c.1 0)) (c.1 0) o ((c.1 0).1 3 o 16)) := by
          have := f3.2.1
          rw [show (((), H1) : Unit × hR).2 = H1 from rfl, e16, ixF_fr (H := c.1 0) (fun f hf => f2.1 3 o f (by omega)), nomO_fr (H := c.1 0) (fun f hf => f2.1 3 o f (by omega))] at this
          exact this
        have hx := ixF_rng (cB (c.1 0)) (c.1 0) o ((c.1 0).1 3 o 16)
        have hr := nomO_rng (b := cB (c.1 0)) (k := ixF (cB (c.1 0)) (c.1 0) o ((c.1 0).1 3 o 16)) w1 (by omega)
        have hg := ixF_ge (b := cB (c.1 0)) (fr := (c.1 0).1 3 o 16) w1 (by omega)
        have ho2 := em_occ (fr := (c.1 0).1 3 o 16) b2 w1 hc (by omega) (by omega)
        have hn := em_nominal (k := ixF (cB (c.1 0)) (c.1 0) o ((c.1 0).1 3 o 16)) b2 w1 hc (by omega) (by omega)
        have e1 : fX2_nextNominalDay o (c.1 0) = some (H1.1 3 o 18, H1) := by
          refine po_eq ?_
          unfold fX2_nextNominalDay
          (repeat (first | (with_reducible refine po_gd ?_ ?_; · omega) | (with_reducible refine po_bnd ?_) | (with_reducible refine po_ift ?_ ?_; · omega) | (with_reducible refine po_iff ?_ ?_; · omega) | (with_reducible refine po_crs ?_) | (with_reducible refine po_cls ?_) | (with_reducible refine po_cle f1 ?_)))
          exact po_some rfl
        refine askWh (r := H1.1 3 o 18) (H := H1) (by omega) (po_eq ?_) (po_eq ?_) f2.s
        · unfold fX6_ofOrder
          (repeat (first | (with_reducible refine po_gd ?_ ?_; · omega) | (with_reducible refine po_bnd ?_) | (with_reducible refine po_ift ?_ ?_; · omega) | (with_reducible refine po_iff ?_ ?_; · omega) | (with_reducible refine po_crs ?_) | (with_reducible refine po_cls ?_) | (with_reducible refine po_cre hA1 ?_) | (with_reducible refine po_cle e1 ?_)))
          exact po_some rfl
        · unfold ocF at ho2
          unfold nomR at hn
          unfold fX7_ofOrder fX7_ofOrder_b106
          (repeat (first | (with_reducible refine po_gd ?_ ?_; · omega) | (with_reducible refine po_bnd ?_) | (with_reducible refine po_ift ?_ ?_; · omega) | (with_reducible refine po_iff ?_ ?_; · omega) | (with_reducible refine po_crs ?_) | (with_reducible refine po_cls ?_) | (with_reducible refine po_cre hA2 ?_) | (with_reducible refine po_cre (ev_inT ?_) ?_; (· omega)) | (with_reducible refine po_cre (ev_ofO ?_) ?_; (· omega))))
          rw [r14]
          by_cases c1 : nomO (cB (c.1 0)) (c.1 0) o (ixF (cB (c.1 0)) (c.1 0) o ((c.1 0).1 3 o 16)) = -6
          · rw [if_pos c1] at ho2
            (repeat (first | (with_reducible refine po_gd ?_ ?_; · omega) | (with_reducible refine po_bnd ?_) | (with_reducible refine po_ift ?_ ?_; · omega) | (with_reducible refine po_iff ?_ ?_; · omega) | (with_reducible refine po_crs ?_) | (with_reducible refine po_cls ?_) | (with_reducible refine po_cre ho2 ?_)))
            refine po_some ?_
            rw [e18, c1]
          · rw [if_neg c1] at ho2
            rw [if_neg c1, if_neg (by omega)] at hn
            (repeat (first | (with_reducible refine po_gd ?_ ?_; · omega) | (with_reducible refine po_bnd ?_) | (with_reducible refine po_ift ?_ ?_; · omega) | (with_reducible refine po_iff ?_ ?_; · omega) | (with_reducible refine po_crs ?_) | (with_reducible refine po_cls ?_) | (with_reducible refine po_cre ho2 ?_) | (with_reducible refine po_cre hn ?_)))
            refine po_some ?_
            rw [e18]
    · by_cases g3 : 0 ≤ w ∧ w ≤ 15
      · have hcnt := h.2.2.2.2.2.2.2.1.2 o g1
        have hcr := cntW_rng (H := c.1 0) (o := o) ((c.1 0).1 4 2 0).toNat
        have hwo := h.waitsOf (m' := m) ho rfl rfl
        rw [← hcnt] at hwo
        have fin : ∀ r : Int, wR r → fX3_numberOf o w (c.1 0) = some r → fX7_ofOrder o w m = some r → askW c (fX6_ofOrder o w c) (fX7_ofOrder o w m) := by
          intro r hr q1 q3
          refine askWs hr (po_eq ?_) q3
          unfold fX6_ofOrder
          (repeat (first | (with_reducible refine po_gd ?_ ?_; · omega) | (with_reducible refine po_bnd ?_) | (with_reducible refine po_ift ?_ ?_; · omega) | (with_reducible refine po_iff ?_ ?_; · omega) | (with_reducible refine po_crs ?_) | (with_reducible refine po_cls ?_) | (with_reducible refine po_cre hA1 ?_) | (with_reducible refine po_cre q1 ?_)))
          exact po_some rfl
        by_cases c1 : w = 1
        · have r1 : m.1 0 (121 + 16 * o + 1) = if (c.1 0).1 3 o 1 = -6 then 8 else (c.1 0).1 3 o 1 := hc 1 (by decide)
          refine fin ((c.1 0).1 3 o 1) (by omega) (po_eq ?_) (po_eq ?_)
          · unfold fX3_numberOf
            (repeat (first | (with_reducible refine po_gd ?_ ?_; · omega) | (with_reducible refine po_bnd ?_) | (with_reducible refine po_ift ?_ ?_; · omega) | (with_reducible refine po_iff ?_ ?_; · omega) | (with_reducible refine po_crs ?_) | (with_reducible refine po_cls ?_)))
            exact po_some rfl
          · by_cases c2 : (c.1 0).1 3 o 1 = -6
            · rw [if_pos c2] at r1
              unfold fX7_ofOrder
              (repeat (first | (with_reducible refine po_gd ?_ ?_; · omega) | (with_reducible refine po_bnd ?_) | (with_reducible refine po_ift ?_ ?_; · omega) | (with_reducible refine po_iff ?_ ?_; · omega) | (with_reducible refine po_crs ?_) | (with_reducible refine po_cls ?_) | (with_reducible refine po_cre hA2 ?_) | (with_reducible refine po_cre (ev_inT ?_) ?_; (· omega)) | (with_reducible refine po_cre (ev_ofO ?_) ?_; (· omega))))
              exact po_some c2.symm
            · rw [if_neg c2] at r1
              unfold fX7_ofOrder
              (repeat (first | (with_reducible refine po_gd ?_ ?_; · omega) | (with_reducible refine po_bnd ?_) | (with_reducible refine po_ift ?_ ?_; · omega) | (with_reducible refine po_iff ?_ ?_; · omega) | (with_reducible refine po_crs ?_) | (with_reducible refine po_cls ?_) | (with_reducible refine po_cre hA2 ?_) | (with_reducible refine po_cre (ev_inT ?_) ?_; (· omega)) | (with_reducible refine po_cre (ev_ofO ?_) ?_; (· omega))))
              exact po_some r1
        · by_cases c14 : w = 14
          · refine fin ((c.1 0).1 3 o 15) (by omega) (po_eq ?_) (po_eq ?_)
            · unfold fX3_numberOf
              (repeat (first | (with_reducible refine po_gd ?_ ?_; · omega) | (with_reducible refine po_bnd ?_) | (with_reducible refine po_ift ?_ ?_; · omega) | (with_reducible refine po_iff ?_ ?_; · omega) | (with_reducible refine po_crs ?_) | (with_reducible refine po_cls ?_)))
              exact po_some rfl
            · unfold fX7_ofOrder
              (repeat (first | (with_reducible refine po_gd ?_ ?_; · omega) | (with_reducible refine po_bnd ?_) | (with_reducible refine po_ift ?_ ?_; · omega) | (with_reducible refine po_iff ?_ ?_; · omega) | (with_reducible refine po_crs ?_) | (with_reducible refine po_cls ?_) | (with_reducible refine po_cre hA2 ?_) | (with_reducible refine po_cre (ev_inT ?_) ?_; (· omega)) | (with_reducible refine po_cre hwo ?_)))
              exact po_some rfl
          · have hn : fX7_ofOrder o w m = some (ordN (c.1 0) o w) := by
              refine po_eq ?_
              have := hc w (by omega)
              unfold fX7_ofOrder
              (repeat (first | (with_reducible refine po_gd ?_ ?_; · omega) | (with_reducible refine po_bnd ?_) | (with_reducible refine po_ift ?_ ?_; · omega) | (with_reducible refine po_iff ?_ ?_; · omega) | (with_reducible refine po_crs ?_) | (with_reducible refine po_cls ?_) | (with_reducible refine po_cre hA2 ?_) | (with_reducible refine po_cre (ev_inT ?_) ?_; (· omega)) | (with_reducible refine po_cre (ev_ofO ?_) ?_; (· omega))))
              exact po_some this
            have hw2 : w = 0 ∨ w = 2 ∨ w = 3 ∨ w = 4 ∨ w = 5 ∨ w = 6 ∨ w = 7 ∨ w = 8 ∨ w = 9 ∨ w = 10 ∨ w = 11 ∨ w = 12 ∨ w = 13 := by omega
            refine fin (ordN (c.1 0) o w) ?_ (po_eq ?_) hn
            · unfold ordN
              rw [if_neg c1]
              rcases hw2 with rfl | rfl | rfl | rfl | rfl | rfl | rfl | rfl | rfl | rfl | rfl | rfl | rfl <;> simp <;> (try split) <;> omega
            · unfold fX3_numberOf
              rcases hw2 with rfl | rfl | rfl | rfl | rfl | rfl | rfl | rfl | rfl | rfl | rfl | rfl | rfl
              all_goals first
                | ((repeat (first | (with_reducible refine po_gd ?_ ?_; · omega) | (with_reducible refine po_bnd ?_) | (with_reducible refine po_ift ?_ ?_; · omega) | (with_reducible refine po_iff ?_ ?_; · omega) | (with_reducible refine po_crs ?_) | (with_reducible refine po_cls ?_))); exact po_some rfl)
                | ((repeat (first | (with_reducible refine po_gd ?_ ?_; · omega) | (with_reducible refine po_bnd ?_) | (with_reducible refine po_ift ?_ ?_; · omega) | (with_reducible refine po_iff ?_ ?_; · omega) | (with_reducible refine po_crs ?_) | (with_reducible refine po_cls ?_))); refine po_if (fun q => po_some ?_) (fun q => po_some ?_) <;> (unfold ordN; simp [q]))
      · refine askWs (r := if 0 ≤ w ∧ w ≤ 15 then 0 else -2) (by rw [if_neg g3]; decide) (po_eq ?_) (po_eq ?_)
        · rw [if_neg g3]
          have q1 : fX3_numberOf o w (c.1 0) = some (-2) := by
            refine po_eq ?_
            unfold fX3_numberOf
            (repeat (first | (with_reducible refine po_gd ?_ ?_; · omega) | (with_reducible refine po_bnd ?_) | (with_reducible refine po_ift ?_ ?_; · omega) | (with_reducible refine po_iff ?_ ?_; · omega) | (with_reducible refine po_crs ?_) | (with_reducible refine po_cls ?_)))
            exact po_some rfl
          unfold fX6_ofOrder
          (repeat (first | (with_reducible refine po_gd ?_ ?_; · omega) | (with_reducible refine po_bnd ?_) | (with_reducible refine po_ift ?_ ?_; · omega) | (with_reducible refine po_iff ?_ ?_; · omega) | (with_reducible refine po_crs ?_) | (with_reducible refine po_cls ?_) | (with_reducible refine po_cre hA1 ?_) | (with_reducible refine po_cre q1 ?_)))
          exact po_some rfl
        · rw [if_neg g3]
          unfold fX7_ofOrder
          (repeat (first | (with_reducible refine po_gd ?_ ?_; · omega) | (with_reducible refine po_bnd ?_) | (with_reducible refine po_ift ?_ ?_; · omega) | (with_reducible refine po_iff ?_ ?_; · omega) | (with_reducible refine po_crs ?_) | (with_reducible refine po_cls ?_) | (with_reducible refine po_cre hA2 ?_) | (with_reducible refine po_cre (ev_inF ?_) ?_; (· omega))))
          exact po_some rfl
  · have hA1 : fX2_hasOrder o (c.1 0) = some 0 := by rw [ev_hasO (by omega), bI_f (decide_eq_false g1)]
    have hA2 : fX7_isOrder o m = some 0 := by rw [ev_isO (by omega), q2, bI_f (decide_eq_false g1)]
    refine askWs (r := -1) (by decide) (po_eq ?_) (po_eq ?_)
    · unfold fX6_ofOrder
      (repeat (first | (with_reducible refine po_gd ?_ ?_; · omega) | (with_reducible refine po_bnd ?_) | (with_reducible refine po_ift ?_ ?_; · omega) | (with_reducible refine po_iff ?_ ?_; · omega) | (with_reducible refine po_crs ?_) | (with_reducible refine po_cls ?_) | (with_reducible refine po_cre hA1 ?_)))
      exact po_some rfl
    · unfold fX7_ofOrder
      (repeat (first | (with_reducible refine po_gd ?_ ?_; · omega) | (with_reducible refine po_bnd ?_) | (with_reducible refine po_ift ?_ ?_; · omega) | (with_reducible refine po_iff ?_ ?_; · omega) | (with_reducible refine po_crs ?_) | (with_reducible refine po_cls ?_) | (with_reducible refine po_cre hA2 ?_)))
      exact po_some rfl

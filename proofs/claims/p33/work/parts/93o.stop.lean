/-! ===== stop and goOn in step ===== -/
theorem cal_both {H : hR} {m : mR} (h : CorM H m) (hw : 0 ≤ H.1 1 2 0 ∧ H.1 1 2 0 ≤ 6) : calC H (cB H) ∧ calM m (cB H) := by
  have e12 : m.1 0 12 = H.1 1 2 0 := h.1.2.2.2.2.2.2.2.2.2
  refine ⟨ec_cal hw, fun d hd => ?_⟩
  rw [em_isBz hd (by rw [e12]; exact hw) h.2.1.1]
  unfold mB cB biz
  rw [e12, h.2.1.2 d hd]
/-- leaving out, from any order as it stands -/
theorem ls_leaveOut {b : Int → Bool} {o t : Int} {H : hR} {m : mR} (ho : 0 ≤ o ∧ o < 16) (ht : 0 ≤ t ∧ t ≤ 1094) (hbC : calC H b) (hbM : calM m b) (hh : holOK (m.1 0)) (hw : 0 ≤ m.1 0 12 ∧ m.1 0 12 ≤ 6) (h0 : m.1 0 0 = t) (hk : okOrd H o) (hc : corR H (m.1 0) o) (hf : 0 ≤ H.1 3 o 16 ∧ H.1 3 o 16 ≤ 1095) :
    ∃ r H' m', fX3_leaveOutBefore o t H = some (r, H') ∧ fX7_leavesOut o m = some (r, m') ∧ onlyNext o H H' ∧ onlyN14 o m m' ∧ corR H' (m'.1 0) o ∧ aimed b H' o ∧ H.1 3 o 16 ≤ H'.1 3 o 16 ∧ H'.1 3 o 16 ≤ 1095 ∧ t ≤ H'.1 3 o 19 ∧ 0 ≤ r ∧ r ≤ 1096 := by
  obtain ⟨⟨u, H1⟩, e1, hon, hai⟩ := ec_aim (o := o) hbC hk (by omega)
  have f16 : H1.1 3 o 16 = H.1 3 o 16 := hon.1 3 o 16 (by omega)
  have hH1 : ∀ f : Int, (0 ≤ f ∧ f ≤ 14) ∨ f = 16 → H1.1 3 o f = H.1 3 o f := fun f q => hon.1 3 o f (by omega)
  have k2 : okOrd H1 o := hk.fr (fun f q => hon.1 3 o f (by omega))
  have b2 : calC H1 b := hbC.fr (fun a => hon.1 6 a 0 (by omega)) (hon.1 1 2 0 (by omega))
  have c2 : corR H1 (m.1 0) o := fun f q => by rw [ordN_fr hH1 q]; exact hc f q
  obtain ⟨r, H', m', w1, w2, w3, w4, w5, w6, w7, w8, w9, w10, w11⟩ := ls_leave ho ht (1096 - H1.1 3 o 16).toNat fuel0 fuel0 0 0 H1 m rfl (by show _ < 1000000; omega) (by show _ < 1000000; omega) b2 hbM hh hw h0 k2 c2 hai (by omega) (by omega) (by decide) (by omega)
  refine ⟨r, H', m', po_eq ?_, po_eq ?_, ⟨fun t' a f q => (w3.1 t' a f q).trans (hon.1 t' a f (by omega)), w3.2.trans hon.2⟩, w4, w5, w6, by omega, w8, w9, w10, by omega⟩
  · unfold fX3_leaveOutBefore
    exact po_cle e1 (po_of w1 rfl)
  · have c14 : m.1 0 (121 + 16 * o + 14) = H1.1 3 o 16 := c2 14 (by decide)
    have eo := em_occ (fr := H1.1 3 o 16) hbM k2 c2 ho (by omega)
    unfold fX7_leavesOut
    refine po_cre (ev_ofO (by omega)) ?_
    rw [c14]
    exact po_cre eo (po_of w2 rfl)
theorem ls_stop {T : Int} {H : hR} {m : mR} (h : Sim T H m) {o : Int} (ho : wR o) : coreOK T H m (fX2_stopOrder o H) (fX7_checksState o 0 m) (fX7_stops o m) := by
  have k1 := h.2.2.1
  have q2 := h.1.1.2.2.1
  have k1' := k1
  unfold okN at k1'
  by_cases g1 : 0 ≤ o ∧ o < H.1 0 5 0
  · have hA1 : fX2_hasOrder o H = some 1 := by rw [ev_hasO (by omega), bI_t (decide_eq_true g1)]
    have hA2 : fX7_isOrder o m = some 1 := by rw [ev_isO (by omega), q2, bI_t (decide_eq_true g1)]
    obtain ⟨w1, w2, w3⟩ := h.2.2.2.2.2.1 o g1
    have w2' := w2
    unfold okP at w2'
    have r10 : m.1 0 (121 + 16 * o + 10) = H.1 3 o 11 := h.1.atO g1 10 (by decide)
    by_cases g2 : H.1 3 o 11 = 0
    · have hx : ∀ t x y : Int, ¬ (t = 3 ∧ x = o) → (hS H 3 o 11 1).1 t x y = H.1 t x y := fun t x y q => hS_n H (by omega)
      have hf : ∀ f : Int, ¬ f = 11 → (hS H 3 o 11 1).1 3 o f = H.1 3 o f := fun f q => hS_n H (by omega)
      have hn : ∀ j : Int, ¬ j = 121 + 16 * o + 10 → (mS m 0 (121 + 16 * o + 10) 1).1 0 j = m.1 0 j := fun j q => mS_n m (by omega)
      have hcnt := h.2.2.2.2.2.2.2.1.2 o g1
      have hrng := cntW_rng (H := H) (o := o) (H.1 4 2 0).toNat
      refine ⟨H.1 3 o 15, hS H 3 o 11 1, po_eq ?_, by omega, Or.inr ⟨by omega, po_eq ?_, mS m 0 (121 + 16 * o + 10) 1, po_eq ?_, ⟨h.1.ord k1 (o := o) (by omega) hx rfl (fun j q => hn j (by omega)) (mS_t _ _ _ (by decide)) rfl (fun f q => ?_), h.2.1.ord hx (fun f q => hf f (by omega)) (fun k q => hn k (by omega)), h.2.2.ord (by omega) g1 hx rfl (hf 0 (by decide)) (hf 15 (by decide)) (w1.fr (fun f q => hf f (by omega))) ?_ ?_⟩, (keptEq.rf m).s (by decide)⟩⟩
      · have e15 := hf 15 (by decide)
        unfold fX2_stopOrder
        (repeat (first | (with_reducible refine po_gd ?_ ?_; · omega) | (with_reducible refine po_bnd ?_) | (with_reducible refine po_ift ?_ ?_; · omega) | (with_reducible refine po_iff ?_ ?_; · omega) | (with_reducible refine po_crs ?_) | (with_reducible refine po_cls ?_) | (with_reducible refine po_cre hA1 ?_)))
        rw [e15]
        exact po_some rfl
      · unfold fX7_checksState
        (repeat (first | (with_reducible refine po_gd ?_ ?_; · omega) | (with_reducible refine po_bnd ?_) | (with_reducible refine po_ift ?_ ?_; · omega) | (with_reducible refine po_iff ?_ ?_; · omega) | (with_reducible refine po_crs ?_) | (with_reducible refine po_cls ?_) | (with_reducible refine po_cre hA2 ?_) | (with_reducible refine po_cre (ev_ofO ?_) ?_; (· omega))))
        exact po_some rfl
      · have ew := h.waitsOf (m' := mS m 0 (121 + 16 * o + 10) 1) ho (mS_t _ _ _ (by decide)) (hn 4 (by omega))
        rw [← hcnt] at ew
        unfold fX7_stops
        (repeat (first | (with_reducible refine po_gd ?_ ?_; · omega) | (with_reducible refine po_bnd ?_) | (with_reducible refine po_ift ?_ ?_; · omega) | (with_reducible refine po_iff ?_ ?_; · omega) | (with_reducible refine po_crs ?_) | (with_reducible refine po_cls ?_) | (with_reducible refine po_cle (ev_becomes ?_ ?_ ?_) ?_; (· omega); (· omega); (· omega)) | (with_reducible refine po_cre ew ?_)))
        exact po_some rfl
      · by_cases c : f = 10
        · subst c
          rw [mS_p]
          exact (hS_p H 3 o 11 1).symm
        · rw [hn _ (by omega), h.1.atO g1 f q]
          by_cases c9 : f = 9
          · subst c9
            show (if H.1 3 o 11 = 2 then 0 else H.1 3 o 10) = (if (hS H 3 o 11 1).1 3 o 11 = 2 then 0 else (hS H 3 o 11 1).1 3 o 10)
            rw [hS_p, hf 10 (by decide), if_neg (by omega), if_neg (by decide)]
          · exact (ordN_at (fun f' q' => hf f' (by omega))).symm
      · unfold okP at *
        rw [hf 0 (by decide), hf 1 (by decide), hf 2 (by decide), hf 8 (by decide), hf 9 (by decide), hf 10 (by decide), hS_p, hx 0 4 0 (by omega)]
        omega
      · unfold okC at *
        rw [hf 12 (by decide), hf 13 (by decide), hf 14 (by decide), hf 15 (by decide), hf 16 (by decide)]
        exact w3
    · refine ⟨-5, H, po_eq ?_, by decide, Or.inl ⟨by decide, by decide, rfl, po_eq ?_⟩⟩
      · unfold fX2_stopOrder
        (repeat (first | (with_reducible refine po_gd ?_ ?_; · omega) | (with_reducible refine po_bnd ?_) | (with_reducible refine po_ift ?_ ?_; · omega) | (with_reducible refine po_iff ?_ ?_; · omega) | (with_reducible refine po_crs ?_) | (with_reducible refine po_cls ?_) | (with_reducible refine po_cre hA1 ?_)))
        exact po_some rfl
      · unfold fX7_checksState
        (repeat (first | (with_reducible refine po_gd ?_ ?_; · omega) | (with_reducible refine po_bnd ?_) | (with_reducible refine po_ift ?_ ?_; · omega) | (with_reducible refine po_iff ?_ ?_; · omega) | (with_reducible refine po_crs ?_) | (with_reducible refine po_cls ?_) | (with_reducible refine po_cre hA2 ?_) | (with_reducible refine po_cre (ev_ofO ?_) ?_; (· omega))))
        exact po_some rfl
  · have hA1 : fX2_hasOrder o H = some 0 := by rw [ev_hasO (by omega), bI_f (decide_eq_false g1)]
    have hA2 : fX7_isOrder o m = some 0 := by rw [ev_isO (by omega), q2, bI_f (decide_eq_false g1)]
    refine ⟨-1, H, po_eq ?_, by decide, Or.inl ⟨by decide, by decide, rfl, po_eq ?_⟩⟩
    · unfold fX2_stopOrder
      (repeat (first | (with_reducible refine po_gd ?_ ?_; · omega) | (with_reducible refine po_bnd ?_) | (with_reducible refine po_ift ?_ ?_; · omega) | (with_reducible refine po_iff ?_ ?_; · omega) | (with_reducible refine po_crs ?_) | (with_reducible refine po_cls ?_) | (with_reducible refine po_cre hA1 ?_)))
      exact po_some rfl
    · unfold fX7_checksState
      (repeat (first | (with_reducible refine po_gd ?_ ?_; · omega) | (with_reducible refine po_bnd ?_) | (with_reducible refine po_ift ?_ ?_; · omega) | (with_reducible refine po_iff ?_ ?_; · omega) | (with_reducible refine po_crs ?_) | (with_reducible refine po_cls ?_) | (with_reducible refine po_cre hA2 ?_)))
      exact po_some rfl
theorem ls_goOn {T : Int} {H : hR} {m : mR} (h : Sim T H m) {o : Int} (ho : wR o) : coreOK T H m (fX2_resumeOrder o H) (fX7_checksState o 1 m) (fX7_goesOn o m) := by
  have k1 := h.2.2.1
  have q2 := h.1.1.2.2.1
  have k1' := k1
  unfold okN at k1'
  by_cases g1 : 0 ≤ o ∧ o < H.1 0 5 0
  · have hA1 : fX2_hasOrder o H = some 1 := by rw [ev_hasO (by omega), bI_t (decide_eq_true g1)]
    have hA2 : fX7_isOrder o m = some 1 := by rw [ev_isO (by omega), q2, bI_t (decide_eq_true g1)]
    obtain ⟨w1, w2, w3⟩ := h.2.2.2.2.2.1 o g1
    have w2' := w2
    unfold okP at w2'
    have w3' := w3
    unfold okC at w3'
    have r10 : m.1 0 (121 + 16 * o + 10) = H.1 3 o 11 := h.1.atO g1 10 (by decide)
    by_cases g2 : H.1 3 o 11 = 1
    · have ks := h.2.2.2.1
      have ks' := ks
      unfold okS at ks'
      obtain ⟨b1, b2⟩ := cal_both h.1 ks.2.1
      have e12 : m.1 0 12 = H.1 1 2 0 := h.1.1.2.2.2.2.2.2.2.2.2
      have e0 : m.1 0 0 = H.1 0 6 0 := h.1.1.1
      have hx : ∀ t x y : Int, ¬ (t = 3 ∧ x = o) → (hS H 3 o 11 0).1 t x y = H.1 t x y := fun t x y q => hS_n H (by omega)
      have hf : ∀ f : Int, ¬ f = 11 → (hS H 3 o 11 0).1 3 o f = H.1 3 o f := fun f q => hS_n H (by omega)
      have hn : ∀ j : Int, ¬ j = 121 + 16 * o + 10 → (mS m 0 (121 + 16 * o + 10) 0).1 0 j = m.1 0 j := fun j q => mS_n m (by omega)
      have hcr : corR (hS H 3 o 11 0) ((mS m 0 (121 + 16 * o + 10) 0).1 0) o := fun f q => by
        by_cases c : f = 10
        · subst c
          rw [mS_p]
          exact (hS_p H 3 o 11 0).symm
        · rw [hn _ (by omega), h.1.atO g1 f q]
          by_cases c9 : f = 9
          · subst c9
            show (if H.1 3 o 11 = 2 then 0 else H.1 3 o 10) = (if (hS H 3 o 11 0).1 3 o 11 = 2 then 0 else (hS H 3 o 11 0).1 3 o 10)
            rw [hS_p, hf 10 (by decide), if_neg (by omega), if_neg (by decide)]
          · exact (ordN_at (fun f' q' => hf f' (by omega))).symm
      have b1' : calC (hS H 3 o 11 0) (cB H) := b1.fr (fun a => hx _ _ _ (by omega)) (hx _ _ _ (by omega))
      have b2' : calM (mS m 0 (121 + 16 * o + 10) 0) (cB H) := calM.fr h.1.2.1.1 (by rw [e12]; exact ks.2.1) b2 (fun k q => hn k (by omega))
      obtain ⟨r, H', m', f1, f2, f3, f4, f5, f6, f7, f8, f9, f10, f11⟩ := ls_leaveOut (o := o) (t := H.1 0 6 0) (by omega) (by omega) b1' b2' (h.1.2.1.1.fr (fun k q => hn k (by omega))) (by rw [hn 12 (by omega), e12]; exact ks.2.1) (by rw [hn 0 (by omega), e0]) (w1.fr (fun f q => hf f (by omega))) hcr (by rw [hf 16 (by decide)]; omega)
      have gx : ∀ t x y : Int, ¬ (t = 3 ∧ x = o) → H'.1 t x y = H.1 t x y := fun t x y q => (f3.1 t x y (by omega)).trans (hx t x y q)
      have gf : ∀ f : Int, ¬ f = 11 → ¬ f = 16 → ¬ f = 17 → ¬ f = 18 → ¬ f = 19 → H'.1 3 o f = H.1 3 o f := fun f q q1 q2 q3 q4 => (f3.1 3 o f (by omega)).trans (hf f q)
      have g11 : H'.1 3 o 11 = 0 := (f3.1 3 o 11 (by omega)).trans (hS_p _ _ _ _ _)
      have gn : ∀ j : Int, ¬ (121 + 16 * o ≤ j ∧ j ≤ 136 + 16 * o) → m'.1 0 j = m.1 0 j := fun j q => (f4.1 0 j (by omega)).trans (hn j (by omega))
      have gt : ∀ t : Int, ¬ t = 0 → m'.1 t = m.1 t := fun t q => by
        funext j
        rw [f4.1 t j (by omega)]
        exact mS_n m (by omega)
      refine ⟨r, H', po_eq ?_, by omega, Or.inr ⟨by omega, po_eq ?_, m', po_eq ?_, ⟨h.1.ord k1 (o := o) (by omega) gx f3.2 gn (gt 1 (by decide)) (by rw [f4.2]; rfl) f5, h.2.1.ord gx (fun f q => gf f (by omega) (by omega) (by omega) (by omega) (by omega)) (fun k q => gn k (by omega)), h.2.2.ord (by omega) g1 gx f3.2 (gf 0 (by decide) (by decide) (by decide) (by decide) (by decide)) (gf 15 (by decide) (by decide) (by decide) (by decide) (by decide)) (w1.fr (fun f q => gf f (by omega) (by omega) (by omega) (by omega) (by omega))) ?_ ?_⟩, ⟨gt 2 (by decide), gt 3 (by decide), by rw [f4.2]; rfl, gt 4 (by decide), gt 5 (by decide), fun k q => by rw [gt 6 (by decide)]⟩⟩⟩
      · have e06 := hx 0 6 0 (by omega)
        unfold fX2_resumeOrder
        (repeat (first | (with_reducible refine po_gd ?_ ?_; · omega) | (with_reducible refine po_bnd ?_) | (with_reducible refine po_ift ?_ ?_; · omega) | (with_reducible refine po_iff ?_ ?_; · omega) | (with_reducible refine po_crs ?_) | (with_reducible refine po_cls ?_) | (with_reducible refine po_cre hA1 ?_)))
        rw [e06]
        exact po_cle f1 (po_some rfl)
      · unfold fX7_checksState
        (repeat (first | (with_reducible refine po_gd ?_ ?_; · omega) | (with_reducible refine po_bnd ?_) | (with_reducible refine po_ift ?_ ?_; · omega) | (with_reducible refine po_iff ?_ ?_; · omega) | (with_reducible refine po_crs ?_) | (with_reducible refine po_cls ?_) | (with_reducible refine po_cre hA2 ?_) | (with_reducible refine po_cre (ev_ofO ?_) ?_; (· omega))))
        exact po_some rfl
      · unfold fX7_goesOn
        (repeat (first | (with_reducible refine po_gd ?_ ?_; · omega) | (with_reducible refine po_bnd ?_) | (with_reducible refine po_ift ?_ ?_; · omega) | (with_reducible refine po_iff ?_ ?_; · omega) | (with_reducible refine po_crs ?_) | (with_reducible refine po_cls ?_) | (with_reducible refine po_cle (ev_becomes ?_ ?_ ?_) ?_; (· omega); (· omega); (· omega)) | (with_reducible refine po_cle f2 ?_)))
        exact po_some rfl
      · unfold okP at *
        rw [gf 0 (by decide) (by decide) (by decide) (by decide) (by decide), gf 1 (by decide) (by decide) (by decide) (by decide) (by decide), gf 2 (by decide) (by decide) (by decide) (by decide) (by decide), gf 8 (by decide) (by decide) (by decide) (by decide) (by decide), gf 9 (by decide) (by decide) (by decide) (by decide) (by decide), gf 10 (by decide) (by decide) (by decide) (by decide) (by decide), g11, gx 0 4 0 (by omega)]
        omega
      · rw [hf 16 (by decide)] at f7
        unfold okC at *
        rw [gf 12 (by decide) (by decide) (by decide) (by decide) (by decide), gf 13 (by decide) (by decide) (by decide) (by decide) (by decide), gf 14 (by decide) (by decide) (by decide) (by decide) (by decide), gf 15 (by decide) (by decide) (by decide) (by decide) (by decide)]
        omega
    · refine ⟨-5, H, po_eq ?_, by decide, Or.inl ⟨by decide, by decide, rfl, po_eq ?_⟩⟩
      · unfold fX2_resumeOrder
        (repeat (first | (with_reducible refine po_gd ?_ ?_; · omega) | (with_reducible refine po_bnd ?_) | (with_reducible refine po_ift ?_ ?_; · omega) | (with_reducible refine po_iff ?_ ?_; · omega) | (with_reducible refine po_crs ?_) | (with_reducible refine po_cls ?_) | (with_reducible refine po_cre hA1 ?_)))
        exact po_some rfl
      · unfold fX7_checksState
        (repeat (first | (with_reducible refine po_gd ?_ ?_; · omega) | (with_reducible refine po_bnd ?_) | (with_reducible refine po_ift ?_ ?_; · omega) | (with_reducible refine po_iff ?_ ?_; · omega) | (with_reducible refine po_crs ?_) | (with_reducible refine po_cls ?_) | (with_reducible refine po_cre hA2 ?_) | (with_reducible refine po_cre (ev_ofO ?_) ?_; (· omega))))
        exact po_some rfl
  · have hA1 : fX2_hasOrder o H = some 0 := by rw [ev_hasO (by omega), bI_f (decide_eq_false g1)]
    have hA2 : fX7_isOrder o m = some 0 := by rw [ev_isO (by omega), q2, bI_f (decide_eq_false g1)]
    refine ⟨-1, H, po_eq ?_, by decide, Or.inl ⟨by decide, by decide, rfl, po_eq ?_⟩⟩
    · unfold fX2_resumeOrder
      (repeat (first | (with_reducible refine po_gd ?_ ?_; · omega) | (with_reducible refine po_bnd ?_) | (with_reducible refine po_ift ?_ ?_; · omega) | (with_reducible refine po_iff ?_ ?_; · omega) | (with_reducible refine po_crs ?_) | (with_reducible refine po_cls ?_) | (with_reducible refine po_cre hA1 ?_)))
      exact po_some rfl
    · unfold fX7_checksState
      (repeat (first | (with_reducible refine po_gd ?_ ?_; · omega) | (with_reducible refine po_bnd ?_) | (with_reducible refine po_ift ?_ ?_; · omega) | (with_reducible refine po_iff ?_ ?_; · omega) | (with_reducible refine po_crs ?_) | (with_reducible refine po_cls ?_) | (with_reducible refine po_cre hA2 ?_)))
      exact po_some rfl

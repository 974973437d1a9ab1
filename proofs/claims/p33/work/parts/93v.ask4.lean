theorem em_dateOf_b76 {b : Int → Bool} {H : hR} {m : mR} {o x2 : Int} (hb : calM m b) (hk : okOrd H o) (hc : corR H (m.1 0) o) (ho : 0 ≤ o ∧ o < 16) (h2 : 0 ≤ x2 ∧ x2 ≤ 99) {i0 : Int} (hi : 0 ≤ i0 ∧ i0 ≤ 1200) (hg : nomO b H o i0 = -6 ∨ H.1 3 o 6 ≤ nomO b H o i0) : ∀ (n fuel : Nat) (x4 : Int), x4 + n = x2 → 0 ≤ x4 → n < fuel → fX7_dateOf_b76 m fuel o x2 (if nomO b H o (i0 + x4) = -6 then -6 else i0 + x4) x4 = some (if nomO b H o (i0 + x2) = -6 then -6 else dtF b H o (i0 + x2))
  | n, 0, x4, _, _, h => by omega
  | n, fuel + 1, x4, h1, h3, h4 => by
    have hr := nomO_rng (b := b) (k := i0 + x4) hk (by omega)
    unfold fX7_dateOf_b76 fX7_dateOf_b103
    refine po_eq ?_
    by_cases c1 : nomO b H o (i0 + x4) = -6
    · have c2 : nomO b H o (i0 + x2) = -6 := by
        by_cases q : x4 = x2
        · rw [← q]; exact c1
        · have := nomO_lt (b := b) (k := i0 + x4) (j := i0 + x2) hk (by omega) (by omega)
          omega
      rw [if_pos c1, if_pos c2]
      refine po_gd (by omega) (po_if (fun q => po_gd (by decide) (po_ift rfl (po_some rfl))) (fun q => po_gd (by decide) (po_ift rfl (po_gd (by decide) (po_ift rfl (po_some rfl))))))
    · have hge : H.1 3 o 6 ≤ nomO b H o (i0 + x4) := by
        by_cases q : x4 = 0
        · rw [q, Int.add_zero] at c1 ⊢
          omega
        · have := nomO_ge (b := b) (k := i0 + x4) hk (by omega)
          omega
      rw [if_neg c1]
      refine po_gd (by omega) (po_if (fun q => ?_) (fun q => ?_))
      · have e : x4 = x2 := by omega
        subst e
        rw [if_neg c1]
        exact po_gd (by omega) (po_iff (by omega) (po_cre (em_dateBy hb hk hc ho (by omega) ⟨c1, hge⟩) (po_some rfl)))
      · have e : ocF b H o (i0 + x4 + 1) = if nomO b H o (i0 + (x4 + 1)) = -6 then -6 else i0 + (x4 + 1) := by
          unfold ocF
          rw [ixF_id hk (by omega), show i0 + x4 + 1 = i0 + (x4 + 1) by omega]
        refine po_gd (by omega) (po_iff (by omega) (po_cre (em_occ hb hk hc ho (by omega)) ?_))
        rw [e]
        exact po_of (em_dateOf_b76 hb hk hc ho h2 hi hg (n - 1) fuel (x4 + 1) (by omega) (by omega) (by omega)) rfl
theorem ask_dateOf {T : Int} {c : cR} {m : mR} (h : Sim T (c.1 0) m) {o k : Int} (ho : wR o) (hk : wR k) : askW c (fX6_dateOf o k c) (fX7_dateOf o k m) := by
  have k1 := h.2.2.1
  have q2 := h.1.1.2.2.1
  have k1' := k1
  unfold okN at k1'
  by_cases g1 : 0 ≤ o ∧ o < (c.1 0).1 0 5 0
  · have hA1 : fX2_hasOrder o (c.1 0) = some 1 := by rw [ev_hasO (by omega), bI_t (decide_eq_true g1)]
    have hA2 : fX7_isOrder o m = some 1 := by rw [ev_isO (by omega), q2, bI_t (decide_eq_true g1)]
    obtain ⟨w1, w2, w3⟩ := h.2.2.2.2.2.1 o g1
    have w2' := w2
    unfold okP at w2'
    have w3' := w3
    unfold okC at w3'
    have hc := h.1.atO g1
    have r10 : m.1 0 (121 + 16 * o + 10) = (c.1 0).1 3 o 11 := hc 10 (by decide)
    have r14 : m.1 0 (121 + 16 * o + 14) = (c.1 0).1 3 o 16 := hc 14 (by decide)
    have r15 : m.1 0 (121 + 16 * o + 15) = (c.1 0).1 3 o 9 := hc 15 (by decide)
    have r9 : m.1 0 (121 + 16 * o + 9) = if (c.1 0).1 3 o 11 = 2 then 0 else (c.1 0).1 3 o 10 := hc 9 (by decide)
    obtain ⟨b1, b2⟩ := cal_both h.1 h.2.2.2.1.2.1
    by_cases g2 : 0 ≤ k ∧ k ≤ 99
    · have none : fX3_dateBehindNext o k (c.1 0) = some (-6, c.1 0) → fX7_dateOf o k m = some (-6) → askW c (fX6_dateOf o k c) (fX7_dateOf o k m) := by
        intro e1 e2
        refine askWh (r := -6) (H := c.1 0) (by decide) (po_eq ?_) e2 (onlyAims.rf _)
        unfold fX6_dateOf
        (repeat (first | (with_reducible refine po_gd ?_ ?_; · omega) | (with_reducible refine po_bnd ?_) | (with_reducible refine po_ift ?_ ?_; · omega) | (with_reducible refine po_iff ?_ ?_; · omega) | (with_reducible refine po_crs ?_) | (with_reducible refine po_cls ?_) | (with_reducible refine po_cre hA1 ?_) | (with_reducible refine po_cre (ev_btT ?_) ?_; (· omega)) | (with_reducible refine po_cle e1 ?_)))
        exact po_some rfl
      by_cases g3 : (c.1 0).1 3 o 11 = 2
      · refine none (po_eq ?_) (po_eq ?_)
        · unfold fX3_dateBehindNext
          (repeat (first | (with_reducible refine po_gd ?_ ?_; · omega) | (with_reducible refine po_bnd ?_) | (with_reducible refine po_ift ?_ ?_; · omega) | (with_reducible refine po_iff ?_ ?_; · omega) | (with_reducible refine po_crs ?_) | (with_reducible refine po_cls ?_)))
          exact po_some rfl
        · unfold fX7_dateOf
          (repeat (first | (with_reducible refine po_gd ?_ ?_; · omega) | (with_reducible refine po_bnd ?_) | (with_reducible refine po_ift ?_ ?_; · omega) | (with_reducible refine po_iff ?_ ?_; · omega) | (with_reducible refine po_crs ?_) | (with_reducible refine po_cls ?_) | (with_reducible refine po_cre hA2 ?_) | (with_reducible refine po_cre (ev_inT ?_) ?_; (· omega)) | (with_reducible refine po_cre (ev_ofO ?_) ?_; (· omega))))
          exact po_some rfl
      · rw [if_neg g3] at r9
        by_cases g4 : (c.1 0).1 3 o 9 = 0 ∧ (c.1 0).1 3 o 10 ≤ k
        · refine none (po_eq ?_) (po_eq ?_)
          · unfold fX3_dateBehindNext
            (repeat (first | (with_reducible refine po_gd ?_ ?_; · omega) | (with_reducible refine po_bnd ?_) | (with_reducible refine po_ift ?_ ?_; · omega) | (with_reducible refine po_iff ?_ ?_; · omega) | (with_reducible refine po_crs ?_) | (with_reducible refine po_cls ?_)))
            exact po_some rfl
          · unfold fX7_dateOf
            (repeat (first | (with_reducible refine po_gd ?_ ?_; · omega) | (with_reducible refine po_bnd ?_) | (with_reducible refine po_ift ?_ ?_; · omega) | (with_reducible refine po_iff ?_ ?_; · omega) | (with_reducible refine po_crs ?_) | (with_reducible refine po_cls ?_) | (with_reducible refine po_cre hA2 ?_) | (with_reducible refine po_cre (ev_inT ?_) ?_; (· omega)) | (with_reducible refine po_cre (ev_ofO ?_) ?_; (· omega))))
            exact po_some rfl
        · obtain ⟨⟨u, H1⟩, f1, f2, f3⟩ := ec_aim (o := o) b1 w1 (by omega)
          have f2 : onlyAim o (c.1 0) H1 := f2
          have e16 : H1.1 3 o 16 = (c.1 0).1 3 o 16 := f2.1 3 o 16 (by omega)
          have e17 : H1.1 3 o 17 = ixF (cB (c.1 0)) (c.1 0) o ((c.1 0).1 3 o 16) := by
            have := f3.1
            rw [show (((), H1) : Unit × hR).2 = H1 from rfl, e16, ixF_fr (H := c.1 0) (fun f hf => f2.1 3 o f (by omega))] at this
            exact this
          have hx := ixF_rng (cB (c.1 0)) (c.1 0) o ((c.1 0).1 3 o 16)
          have hg := ixF_ge (b := cB (c.1 0)) (fr := (c.1 0).1 3 o 16) w1 (by omega)
          have kk := w1.fr (H' := H1) (fun f hf => f2.1 3 o f (by omega))
          have b1' : calC H1 (cB (c.1 0)) := b1.fr (fun a => f2.1 6 a 0 (by omega)) (f2.1 1 2 0 (by omega))
          have hn := ec_nominal (k := H1.1 3 o 17 + k) b1' kk (by omega)
          rw [nomO_fr (H := c.1 0) (fun f hf => f2.1 3 o f (by omega)), e17] at hn
          have hr := nomO_rng (b := cB (c.1 0)) (k := ixF (cB (c.1 0)) (c.1 0) o ((c.1 0).1 3 o 16) + k) w1 (by omega)
          have hd := dtF_rng (b := cB (c.1 0)) (k := ixF (cB (c.1 0)) (c.1 0) o ((c.1 0).1 3 o 16) + k) w1 (by omega)
          have e7 : H1.1 3 o 7 = (c.1 0).1 3 o 7 := f2.1 3 o 7 (by omega)
          have hcl : fX3_dateBehindNext_b26 o k (c.1 0) = some (if nomO (cB (c.1 0)) (c.1 0) o (ixF (cB (c.1 0)) (c.1 0) o ((c.1 0).1 3 o 16) + k) = -6 then -6 else dtF (cB (c.1 0)) (c.1 0) o (ixF (cB (c.1 0)) (c.1 0) o ((c.1 0).1 3 o 16) + k), H1) := by
            refine po_eq ?_
            unfold fX3_dateBehindNext_b26
            refine po_cle f1 ?_
            rw [e17, e7]
            refine po_cre hn (po_gd (by omega) (po_if (fun q => po_some ?_) (fun q => ?_)))
            · rw [if_pos q]
            · have es := ec_shifted b1' (d := nomO (cB (c.1 0)) (c.1 0) o (ixF (cB (c.1 0)) (c.1 0) o ((c.1 0).1 3 o 16) + k)) (r := (c.1 0).1 3 o 7) (by have := w1.2.2.2.2; omega)
              refine po_cre es (po_some ?_)
              rw [if_neg q, show dtF (cB (c.1 0)) (c.1 0) o (ixF (cB (c.1 0)) (c.1 0) o ((c.1 0).1 3 o 16) + k) = shZ (cB (c.1 0)) (nomO (cB (c.1 0)) (c.1 0) o (ixF (cB (c.1 0)) (c.1 0) o ((c.1 0).1 3 o 16) + k)) ((c.1 0).1 3 o 7) from if_neg q]
          have hml := em_dateOf_b76 (x2 := k) b2 w1 hc (by omega) g2 (i0 := ixF (cB (c.1 0)) (c.1 0) o ((c.1 0).1 3 o 16)) (by omega) hg k.toNat fuel0 0 (by omega) (by decide) (by show _ < 1000000; omega)
          rw [Int.add_zero] at hml
          have ho2 := em_occ (fr := (c.1 0).1 3 o 16) b2 w1 hc (by omega) (by omega)
          unfold ocF at ho2
          have hm : fX7_dateOf_b60 m o k = some (if nomO (cB (c.1 0)) (c.1 0) o (ixF (cB (c.1 0)) (c.1 0) o ((c.1 0).1 3 o 16) + k) = -6 then -6 else dtF (cB (c.1 0)) (c.1 0) o (ixF (cB (c.1 0)) (c.1 0) o ((c.1 0).1 3 o 16) + k)) := by
            refine po_eq ?_
            unfold fX7_dateOf_b60
            refine po_cre (ev_ofO (by omega)) ?_
            rw [r14]
            exact po_cre ho2 (po_of hml rfl)
          refine askWh (H := H1) (r := if nomO (cB (c.1 0)) (c.1 0) o (ixF (cB (c.1 0)) (c.1 0) o ((c.1 0).1 3 o 16) + k) = -6 then -6 else dtF (cB (c.1 0)) (c.1 0) o (ixF (cB (c.1 0)) (c.1 0) o ((c.1 0).1 3 o 16) + k)) (by split <;> omega) (po_eq ?_) (po_eq ?_) f2.s
          · unfold fX6_dateOf fX3_dateBehindNext
            by_cases g5 : (c.1 0).1 3 o 9 = 0
            · (repeat (first | (with_reducible refine po_gd ?_ ?_; · omega) | (with_reducible refine po_bnd ?_) | (with_reducible refine po_ift ?_ ?_; · omega) | (with_reducible refine po_iff ?_ ?_; · omega) | (with_reducible refine po_crs ?_) | (with_reducible refine po_cls ?_) | (with_reducible refine po_cre hA1 ?_) | (with_reducible refine po_cre (ev_btT ?_) ?_; (· omega)) | (with_reducible refine po_cln ?_)))
              exact po_of hcl (po_some rfl)
            · (repeat (first | (with_reducible refine po_gd ?_ ?_; · omega) | (with_reducible refine po_bnd ?_) | (with_reducible refine po_ift ?_ ?_; · omega) | (with_reducible refine po_iff ?_ ?_; · omega) | (with_reducible refine po_crs ?_) | (with_reducible refine po_cls ?_) | (with_reducible refine po_cre hA1 ?_) | (with_reducible refine po_cre (ev_btT ?_) ?_; (· omega)) | (with_reducible refine po_cln ?_)))
              exact po_of hcl (po_some rfl)
          · unfold fX7_dateOf
            by_cases g5 : (c.1 0).1 3 o 9 = 0
            · (repeat (first | (with_reducible refine po_gd ?_ ?_; · omega) | (with_reducible refine po_bnd ?_) | (with_reducible refine po_ift ?_ ?_; · omega) | (with_reducible refine po_iff ?_ ?_; · omega) | (with_reducible refine po_crs ?_) | (with_reducible refine po_cls ?_) | (with_reducible refine po_cre hA2 ?_) | (with_reducible refine po_cre (ev_inT ?_) ?_; (· omega)) | (with_reducible refine po_cre (ev_ofO ?_) ?_; (· omega))))
              exact po_of hm rfl
            · (repeat (first | (with_reducible refine po_gd ?_ ?_; · omega) | (with_reducible refine po_bnd ?_) | (with_reducible refine po_ift ?_ ?_; · omega) | (with_reducible refine po_iff ?_ ?_; · omega) | (with_reducible refine po_crs ?_) | (with_reducible refine po_cls ?_) | (with_reducible refine po_cre hA2 ?_) | (with_reducible refine po_cre (ev_inT ?_) ?_; (· omega)) | (with_reducible refine po_cre (ev_ofO ?_) ?_; (· omega))))
              exact po_of hm rfl
    · refine askWs (r := -2) (by decide) (po_eq ?_) (po_eq ?_)
      · unfold fX6_dateOf
        (repeat (first | (with_reducible refine po_gd ?_ ?_; · omega) | (with_reducible refine po_bnd ?_) | (with_reducible refine po_ift ?_ ?_; · omega) | (with_reducible refine po_iff ?_ ?_; · omega) | (with_reducible refine po_crs ?_) | (with_reducible refine po_cls ?_) | (with_reducible refine po_cre hA1 ?_) | (with_reducible refine po_cre (ev_btF ?_) ?_; (· omega))))
        exact po_some rfl
      · unfold fX7_dateOf
        (repeat (first | (with_reducible refine po_gd ?_ ?_; · omega) | (with_reducible refine po_bnd ?_) | (with_reducible refine po_ift ?_ ?_; · omega) | (with_reducible refine po_iff ?_ ?_; · omega) | (with_reducible refine po_crs ?_) | (with_reducible refine po_cls ?_) | (with_reducible refine po_cre hA2 ?_) | (with_reducible refine po_cre (ev_inF ?_) ?_; (· omega))))
        exact po_some rfl
  · have hA1 : fX2_hasOrder o (c.1 0) = some 0 := by rw [ev_hasO (by omega), bI_f (decide_eq_false g1)]
    have hA2 : fX7_isOrder o m = some 0 := by rw [ev_isO (by omega), q2, bI_f (decide_eq_false g1)]
    refine askWs (r := -1) (by decide) (po_eq ?_) (po_eq ?_)
    · unfold fX6_dateOf
      (repeat (first | (with_reducible refine po_gd ?_ ?_; · omega) | (with_reducible refine po_bnd ?_) | (with_reducible refine po_ift ?_ ?_; · omega) | (with_reducible refine po_iff ?_ ?_; · omega) | (with_reducible refine po_crs ?_) | (with_reducible refine po_cls ?_) | (with_reducible refine po_cre hA1 ?_)))
      exact po_some rfl
    · unfold fX7_dateOf
      (repeat (first | (with_reducible refine po_gd ?_ ?_; · omega) | (with_reducible refine po_bnd ?_) | (with_reducible refine po_ift ?_ ?_; · omega) | (with_reducible refine po_iff ?_ ?_; · omega) | (with_reducible refine po_crs ?_) | (with_reducible refine po_cls ?_) | (with_reducible refine po_cre hA2 ?_)))
      exact po_some rfl

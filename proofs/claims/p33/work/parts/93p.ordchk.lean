/-! ===== what an order is checked for, on both sides ===== -/
theorem callOf {T : Int} {H : hR} {m : mR} {c : Option (Int × hR)} {chk : mR → Option Int} {core ref : mR → Option (Int × mR)} (h : Sim T H m) (hc : ∀ m1, Sim T H m1 → coreOK T H m1 c (chk m1) (core m1)) (he : ∀ r, ¬ r = 0 → wR r → chk m = some r → ref m = some (r, m)) (h0 : ∀ m1 r m', chk m = some 0 → fX7_records m = some ((), m1) → core m1 = some (r, m') → ref m = some (r, m')) : callOK T H m c (ref m) := by
  obtain ⟨r, H', e1, e2, e3⟩ := hc m h
  refine ⟨r, H', e1, e2, ?_⟩
  rcases e3 with ⟨f1, f2, f3, f4⟩ | ⟨f1, f2, -⟩
  · exact Or.inl ⟨f1, f2, f3, he r (by omega) e2 f4⟩
  · refine Or.inr ⟨f1, fun m1 hr => ?_⟩
    obtain ⟨r', H'', g1, g2, g3⟩ := hc m1 (h.rec hr)
    rw [e1] at g1
    cases g1
    rcases g3 with ⟨f3, f4, -⟩ | ⟨f3, f4, m', f5, f6, f7⟩
    · exact absurd ⟨f3, f4⟩ f1
    · exact ⟨m', h0 m1 r m' f2 hr.1 f5, f6, f7⟩
theorem ls_stopC {T : Int} {H : hR} {m : mR} (h : Sim T H m) {o : Int} (ho : wR o) : callOK T H m (fX2_stopOrder o H) (fX7_stop o m) := by
  refine callOf (chk := fX7_checksState o 0) (core := fX7_stops o) (ref := fX7_stop o) h (fun m1 h1 => ls_stop h1 ho) (fun r hr hw e => po_eq ?_) (fun m1 r m' e1 e2 e3 => po_eq ?_)
  · unfold fX7_stop
    (repeat (first | (with_reducible refine po_gd ?_ ?_; · omega) | (with_reducible refine po_bnd ?_) | (with_reducible refine po_ift ?_ ?_; · omega) | (with_reducible refine po_iff ?_ ?_; · omega) | (with_reducible refine po_crs ?_) | (with_reducible refine po_cls ?_) | (with_reducible refine po_cre e ?_)))
    exact po_some rfl
  · unfold fX7_stop
    (repeat (first | (with_reducible refine po_gd ?_ ?_; · omega) | (with_reducible refine po_bnd ?_) | (with_reducible refine po_ift ?_ ?_; · omega) | (with_reducible refine po_iff ?_ ?_; · omega) | (with_reducible refine po_crs ?_) | (with_reducible refine po_cls ?_) | (with_reducible refine po_cre e1 ?_) | (with_reducible refine po_cle e2 ?_) | (with_reducible refine po_cle e3 ?_)))
    exact po_some rfl
theorem ls_goOnC {T : Int} {H : hR} {m : mR} (h : Sim T H m) {o : Int} (ho : wR o) : callOK T H m (fX2_resumeOrder o H) (fX7_goOn o m) := by
  refine callOf (chk := fX7_checksState o 1) (core := fX7_goesOn o) (ref := fX7_goOn o) h (fun m1 h1 => ls_goOn h1 ho) (fun r hr hw e => po_eq ?_) (fun m1 r m' e1 e2 e3 => po_eq ?_)
  · unfold fX7_goOn
    (repeat (first | (with_reducible refine po_gd ?_ ?_; · omega) | (with_reducible refine po_bnd ?_) | (with_reducible refine po_ift ?_ ?_; · omega) | (with_reducible refine po_iff ?_ ?_; · omega) | (with_reducible refine po_crs ?_) | (with_reducible refine po_cls ?_) | (with_reducible refine po_cre e ?_)))
    exact po_some rfl
  · unfold fX7_goOn
    (repeat (first | (with_reducible refine po_gd ?_ ?_; · omega) | (with_reducible refine po_bnd ?_) | (with_reducible refine po_ift ?_ ?_; · omega) | (with_reducible refine po_iff ?_ ?_; · omega) | (with_reducible refine po_crs ?_) | (with_reducible refine po_cls ?_) | (with_reducible refine po_cre e1 ?_) | (with_reducible refine po_cle e2 ?_) | (with_reducible refine po_cle e3 ?_)))
    exact po_some rfl
def datesB (x : Int) : Bool := decide ((0 ≤ x ∧ x ≤ 39999) ∧ (1 ≤ x / 100 % 100 ∧ x / 100 % 100 ≤ 12) ∧ 1 ≤ x % 100 ∧ x % 100 ≤ 31)
theorem ec_dates {x : Int} (hx : wR x) : fX2_areDates x = some (bI (datesB x)) := by
  refine po_eq ?_
  unfold fX2_areDates datesB
  by_cases g1 : 0 ≤ x ∧ x ≤ 39999
  · have e1 : dvI x 100 = x / 100 := dvI_pos g1.1
    have e2 : rmI (x / 100) 100 = x / 100 % 100 := rmI_pos (by omega)
    have e3 : rmI x 100 = x % 100 := rmI_pos g1.1
    rw [e1, e2, e3]
    by_cases g2 : 1 ≤ x / 100 % 100 ∧ x / 100 % 100 ≤ 12
    · by_cases g3 : 1 ≤ x % 100 ∧ x % 100 ≤ 31
      · rw [bI_t (decide_eq_true ⟨g1, g2, g3⟩)]
        (repeat (first | (with_reducible refine po_gd ?_ ?_; · omega) | (with_reducible refine po_bnd ?_) | (with_reducible refine po_ift ?_ ?_; · omega) | (with_reducible refine po_iff ?_ ?_; · omega) | (with_reducible refine po_crs ?_) | (with_reducible refine po_cls ?_) | (with_reducible refine po_cre (ev_btT ?_) ?_; (· omega))))
        exact po_some rfl
      · rw [bI_f (decide_eq_false (fun q => g3 q.2.2))]
        (repeat (first | (with_reducible refine po_gd ?_ ?_; · omega) | (with_reducible refine po_bnd ?_) | (with_reducible refine po_ift ?_ ?_; · omega) | (with_reducible refine po_iff ?_ ?_; · omega) | (with_reducible refine po_crs ?_) | (with_reducible refine po_cls ?_) | (with_reducible refine po_cre (ev_btT ?_) ?_; (· omega)) | (with_reducible refine po_cre (ev_btF ?_) ?_; (· omega))))
        exact po_some rfl
    · rw [bI_f (decide_eq_false (fun q => g2 q.2.1))]
      (repeat (first | (with_reducible refine po_gd ?_ ?_; · omega) | (with_reducible refine po_bnd ?_) | (with_reducible refine po_ift ?_ ?_; · omega) | (with_reducible refine po_iff ?_ ?_; · omega) | (with_reducible refine po_crs ?_) | (with_reducible refine po_cls ?_) | (with_reducible refine po_cre (ev_btT ?_) ?_; (· omega)) | (with_reducible refine po_cre (ev_btF ?_) ?_; (· omega))))
      exact po_some rfl
  · rw [bI_f (decide_eq_false (fun q => g1 q.1))]
    (repeat (first | (with_reducible refine po_gd ?_ ?_; · omega) | (with_reducible refine po_bnd ?_) | (with_reducible refine po_ift ?_ ?_; · omega) | (with_reducible refine po_iff ?_ ?_; · omega) | (with_reducible refine po_crs ?_) | (with_reducible refine po_cls ?_) | (with_reducible refine po_cre (ev_btF ?_) ?_; (· omega))))
    exact po_some rfl
theorem em_dates {m : mR} {x2 x3 x4 x5 x6 x7 x8 : Int} (hx : wR x3) (h78 : wR x7 ∧ wR x8 ∧ ¬ x7 = x8) : fX7_checksOrder_b41 m x2 x3 x4 x5 x6 x7 x8 = fX7_checksOrder_b100 m x2 x4 x5 x6 (bI (datesB x3)) := by
  unfold fX7_checksOrder_b41
  rw [gd_pos (by omega), if_neg h78.2.2, gd_pos hx]
  unfold datesB
  by_cases g1 : 0 ≤ x3 ∧ x3 ≤ 39999
  · have e1 : dvI x3 100 = x3 / 100 := dvI_pos g1.1
    have e2 : rmI (x3 / 100) 100 = x3 / 100 % 100 := rmI_pos (by omega)
    have e3 : rmI x3 100 = x3 % 100 := rmI_pos g1.1
    rw [e1, e2, e3, ev_inT (by omega), cr_some, gd_pos (by decide), if_neg (by decide), gd_pos hx, gd_pos (by omega), gd_pos (by omega)]
    by_cases g2 : 1 ≤ x3 / 100 % 100 ∧ x3 / 100 % 100 ≤ 12
    · rw [ev_inT (by omega), cr_some, gd_pos (by decide), if_neg (by decide), gd_pos hx, gd_pos (by omega)]
      by_cases g3 : 1 ≤ x3 % 100 ∧ x3 % 100 ≤ 31
      · rw [ev_inT (by omega), cr_some, gd_pos (by decide), if_neg (by decide), bI_t (decide_eq_true ⟨g1, g2, g3⟩)]
      · rw [ev_inF (by omega), cr_some, gd_pos (by decide), if_pos rfl, bI_f (decide_eq_false (fun q => g3 q.2.2))]
    · rw [ev_inF (by omega), cr_some, gd_pos (by decide), if_pos rfl, bI_f (decide_eq_false (fun q => g2 q.2.1))]
  · rw [ev_inF (by omega), cr_some, gd_pos (by decide), if_pos rfl, bI_f (decide_eq_false (fun q => g1 q.1))]
/-- what makes an order possible -/
def ordOK (H : hR) (x1 x2 x3 x4 x5 x6 : Int) : Prop := (0 ≤ x1 ∧ x1 / 9 < H.1 0 4 0 ∧ ¬ x1 % 9 = x1 / 9 ∧ (x1 % 9 = 8 ∨ x1 % 9 < H.1 0 4 0)) ∧ (1 ≤ x2 ∧ x2 ≤ 1000000) ∧ datesB x3 = true ∧ (H.1 0 6 0 ≤ x4 ∧ x4 ≤ 1094) ∧ (0 ≤ x5 ∧ x5 ≤ 49) ∧ (0 ≤ x6 ∧ x6 ≤ 99) ∧ H.1 0 5 0 < 16
theorem ls_ordB {T : Int} {H : hR} {m : mR} (h : Sim T H m) {x1 x2 x3 x4 x5 x6 : Int} (h2 : wR x2) (h3 : wR x3) (h4 : wR x4) (h5 : wR x5) (h6 : wR x6) : (∃ r, -5 ≤ r ∧ r ≤ -1 ∧ fX2_addOrder_b50 x1 x2 x3 x4 x5 x6 H = some (r, H) ∧ fX7_checksOrder_b100 m x2 x4 x5 x6 (bI (datesB x3)) = some r) ∨
    (((1 ≤ x2 ∧ x2 ≤ 1000000) ∧ datesB x3 = true ∧ (H.1 0 6 0 ≤ x4 ∧ x4 ≤ 1094) ∧ (0 ≤ x5 ∧ x5 ≤ 49) ∧ (0 ≤ x6 ∧ x6 ≤ 99) ∧ H.1 0 5 0 < 16) ∧ fX7_checksOrder_b100 m x2 x4 x5 x6 (bI (datesB x3)) = some 0) := by
  have k1 := h.2.2.1
  unfold okN at k1
  have ks := h.2.2.2.1
  unfold okS at ks
  have q0 : fX7_today m = some (H.1 0 6 0) := by rw [ev_today, h.1.1.1]
  have q2 := h.1.1.2.2.1
  have hd := ec_dates h3
  by_cases g2 : 1 ≤ x2 ∧ x2 ≤ 1000000
  · cases gd3 : datesB x3
    · rw [gd3, bI_f rfl] at hd
      refine Or.inl ⟨-2, by decide, by decide, po_eq ?_, po_eq ?_⟩
      · unfold fX2_addOrder_b50
        (repeat (first | (with_reducible refine po_gd ?_ ?_; · omega) | (with_reducible refine po_bnd ?_) | (with_reducible refine po_ift ?_ ?_; · omega) | (with_reducible refine po_iff ?_ ?_; · omega) | (with_reducible refine po_crs ?_) | (with_reducible refine po_cls ?_) | (with_reducible refine po_cre (ev_btT ?_) ?_; (· omega)) | (with_reducible refine po_cre hd ?_)))
        exact po_some rfl
      · rw [bI_f rfl]
        unfold fX7_checksOrder_b100
        (repeat (first | (with_reducible refine po_gd ?_ ?_; · omega) | (with_reducible refine po_bnd ?_) | (with_reducible refine po_ift ?_ ?_; · omega) | (with_reducible refine po_iff ?_ ?_; · omega) | (with_reducible refine po_crs ?_) | (with_reducible refine po_cls ?_) | (with_reducible refine po_cre (ev_inT ?_) ?_; (· omega))))
        exact po_some rfl
    · rw [gd3, bI_t rfl] at hd
      rw [bI_t rfl]
      by_cases g4 : H.1 0 6 0 ≤ x4 ∧ x4 ≤ 1094
      · by_cases g5 : 0 ≤ x5 ∧ x5 ≤ 49
        · by_cases g6 : 0 ≤ x6 ∧ x6 ≤ 99
          · by_cases g7 : H.1 0 5 0 < 16
            · refine Or.inr ⟨⟨g2, rfl, g4, g5, g6, g7⟩, po_eq ?_⟩
              unfold fX7_checksOrder_b100
              (repeat (first | (with_reducible refine po_gd ?_ ?_; · omega) | (with_reducible refine po_bnd ?_) | (with_reducible refine po_ift ?_ ?_; · omega) | (with_reducible refine po_iff ?_ ?_; · omega) | (with_reducible refine po_crs ?_) | (with_reducible refine po_cls ?_) | (with_reducible refine po_cre (ev_inT ?_) ?_; (· omega)) | (with_reducible refine po_cre q0 ?_)))
              exact po_some rfl
            · refine Or.inl ⟨-4, by decide, by decide, po_eq ?_, po_eq ?_⟩
              · unfold fX2_addOrder_b50
                (repeat (first | (with_reducible refine po_gd ?_ ?_; · omega) | (with_reducible refine po_bnd ?_) | (with_reducible refine po_ift ?_ ?_; · omega) | (with_reducible refine po_iff ?_ ?_; · omega) | (with_reducible refine po_crs ?_) | (with_reducible refine po_cls ?_) | (with_reducible refine po_cre (ev_btT ?_) ?_; (· omega)) | (with_reducible refine po_cre hd ?_)))
                exact po_some rfl
              · unfold fX7_checksOrder_b100
                (repeat (first | (with_reducible refine po_gd ?_ ?_; · omega) | (with_reducible refine po_bnd ?_) | (with_reducible refine po_ift ?_ ?_; · omega) | (with_reducible refine po_iff ?_ ?_; · omega) | (with_reducible refine po_crs ?_) | (with_reducible refine po_cls ?_) | (with_reducible refine po_cre (ev_inT ?_) ?_; (· omega)) | (with_reducible refine po_cre q0 ?_)))
                exact po_some rfl
          · refine Or.inl ⟨-2, by decide, by decide, po_eq ?_, po_eq ?_⟩
            · unfold fX2_addOrder_b50
              (repeat (first | (with_reducible refine po_gd ?_ ?_; · omega) | (with_reducible refine po_bnd ?_) | (with_reducible refine po_ift ?_ ?_; · omega) | (with_reducible refine po_iff ?_ ?_; · omega) | (with_reducible refine po_crs ?_) | (with_reducible refine po_cls ?_) | (with_reducible refine po_cre (ev_btT ?_) ?_; (· omega)) | (with_reducible refine po_cre (ev_btF ?_) ?_; (· omega)) | (with_reducible refine po_cre hd ?_)))
              exact po_some rfl
            · unfold fX7_checksOrder_b100
              (repeat (first | (with_reducible refine po_gd ?_ ?_; · omega) | (with_reducible refine po_bnd ?_) | (with_reducible refine po_ift ?_ ?_; · omega) | (with_reducible refine po_iff ?_ ?_; · omega) | (with_reducible refine po_crs ?_) | (with_reducible refine po_cls ?_) | (with_reducible refine po_cre (ev_inT ?_) ?_; (· omega)) | (with_reducible refine po_cre (ev_inF ?_) ?_; (· omega)) | (with_reducible refine po_cre q0 ?_)))
              exact po_some rfl
        · refine Or.inl ⟨-2, by decide, by decide, po_eq ?_, po_eq ?_⟩
          · unfold fX2_addOrder_b50
            (repeat (first | (with_reducible refine po_gd ?_ ?_; · omega) | (with_reducible refine po_bnd ?_) | (with_reducible refine po_ift ?_ ?_; · omega) | (with_reducible refine po_iff ?_ ?_; · omega) | (with_reducible refine po_crs ?_) | (with_reducible refine po_cls ?_) | (with_reducible refine po_cre (ev_btT ?_) ?_; (· omega)) | (with_reducible refine po_cre (ev_btF ?_) ?_; (· omega)) | (with_reducible refine po_cre hd ?_)))
            exact po_some rfl
          · unfold fX7_checksOrder_b100
            (repeat (first | (with_reducible refine po_gd ?_ ?_; · omega) | (with_reducible refine po_bnd ?_) | (with_reducible refine po_ift ?_ ?_; · omega) | (with_reducible refine po_iff ?_ ?_; · omega) | (with_reducible refine po_crs ?_) | (with_reducible refine po_cls ?_) | (with_reducible refine po_cre (ev_inT ?_) ?_; (· omega)) | (with_reducible refine po_cre (ev_inF ?_) ?_; (· omega)) | (with_reducible refine po_cre q0 ?_)))
            exact po_some rfl
      · refine Or.inl ⟨-2, by decide, by decide, po_eq ?_, po_eq ?_⟩
        · unfold fX2_addOrder_b50
          (repeat (first | (with_reducible refine po_gd ?_ ?_; · omega) | (with_reducible refine po_bnd ?_) | (with_reducible refine po_ift ?_ ?_; · omega) | (with_reducible refine po_iff ?_ ?_; · omega) | (with_reducible refine po_crs ?_) | (with_reducible refine po_cls ?_) | (with_reducible refine po_cre (ev_btT ?_) ?_; (· omega)) | (with_reducible refine po_cre (ev_btF ?_) ?_; (· omega)) | (with_reducible refine po_cre hd ?_)))
          exact po_some rfl
        · unfold fX7_checksOrder_b100
          (repeat (first | (with_reducible refine po_gd ?_ ?_; · omega) | (with_reducible refine po_bnd ?_) | (with_reducible refine po_ift ?_ ?_; · omega) | (with_reducible refine po_iff ?_ ?_; · omega) | (with_reducible refine po_crs ?_) | (with_reducible refine po_cls ?_) | (with_reducible refine po_cre (ev_inT ?_) ?_; (· omega)) | (with_reducible refine po_cre (ev_inF ?_) ?_; (· omega)) | (with_reducible refine po_cre q0 ?_)))
          exact po_some rfl
  · refine Or.inl ⟨-2, by decide, by decide, po_eq ?_, po_eq ?_⟩
    · unfold fX2_addOrder_b50
      (repeat (first | (with_reducible refine po_gd ?_ ?_; · omega) | (with_reducible refine po_bnd ?_) | (with_reducible refine po_ift ?_ ?_; · omega) | (with_reducible refine po_iff ?_ ?_; · omega) | (with_reducible refine po_crs ?_) | (with_reducible refine po_cls ?_) | (with_reducible refine po_cre (ev_btF ?_) ?_; (· omega))))
      exact po_some rfl
    · unfold fX7_checksOrder_b100
      (repeat (first | (with_reducible refine po_gd ?_ ?_; · omega) | (with_reducible refine po_bnd ?_) | (with_reducible refine po_ift ?_ ?_; · omega) | (with_reducible refine po_iff ?_ ?_; · omega) | (with_reducible refine po_crs ?_) | (with_reducible refine po_cls ?_) | (with_reducible refine po_cre (ev_inF ?_) ?_; (· omega))))
      exact po_some rfl
theorem ls_ordchk {T : Int} {H : hR} {m : mR} (h : Sim T H m) {x1 x2 x3 x4 x5 x6 : Int} (h1 : wR x1) (h2 : wR x2) (h3 : wR x3) (h4 : wR x4) (h5 : wR x5) (h6 : wR x6) : (∃ r, -5 ≤ r ∧ r ≤ -1 ∧ fX2_addOrder x1 x2 x3 x4 x5 x6 H = some (r, H) ∧ fX7_checksOrder x1 x2 x3 x4 x5 x6 m = some r) ∨ (ordOK H x1 x2 x3 x4 x5 x6 ∧ fX2_addOrder x1 x2 x3 x4 x5 x6 H = fX2_addOrder_b50 x1 x2 x3 x4 x5 x6 H ∧ fX7_checksOrder x1 x2 x3 x4 x5 x6 m = some 0) := by
  have k1 := h.2.2.1
  unfold okN at k1
  have q1 := h.1.1.2.1
  by_cases g0 : 0 ≤ x1
  · have e1 : dvI x1 9 = x1 / 9 := dvI_pos g0
    have e2 : rmI x1 9 = x1 % 9 := rmI_pos g0
    by_cases g1 : x1 / 9 < H.1 0 4 0
    · have hA1 : fX2_hasAccount (x1 / 9) H = some 1 := by rw [ev_hasA (by omega), bI_t (decide_eq_true (by omega))]
      have hA2 : fX7_isAccount (x1 / 9) m = some 1 := by rw [ev_isA (by omega), q1, bI_t (decide_eq_true (by omega))]
      by_cases g2 : x1 % 9 = x1 / 9
      · have hB2 : fX7_isAccount (x1 % 9) m = some 1 := by rw [g2]; exact hA2
        refine Or.inl ⟨-1, by decide, by decide, po_eq ?_, po_eq ?_⟩
        · unfold fX2_addOrder
          rw [e1, e2]
          (repeat (first | (with_reducible refine po_gd ?_ ?_; · omega) | (with_reducible refine po_bnd ?_) | (with_reducible refine po_ift ?_ ?_; · omega) | (with_reducible refine po_iff ?_ ?_; · omega) | (with_reducible refine po_crs ?_) | (with_reducible refine po_cls ?_) | (with_reducible refine po_cre hA1 ?_)))
          exact po_some rfl
        · unfold fX7_checksOrder fX7_checksOrder_b41
          rw [e1, e2]
          (repeat (first | (with_reducible refine po_gd ?_ ?_; · omega) | (with_reducible refine po_bnd ?_) | (with_reducible refine po_ift ?_ ?_; · omega) | (with_reducible refine po_iff ?_ ?_; · omega) | (with_reducible refine po_crs ?_) | (with_reducible refine po_cls ?_) | (with_reducible refine po_cre hA2 ?_) | (with_reducible refine po_cre hB2 ?_)))
          exact po_some rfl
      · have hb := em_dates (m := m) (x2 := x2) (x3 := x3) (x4 := x4) (x5 := x5) (x6 := x6) (x7 := x1 / 9) (x8 := x1 % 9) h3 (by omega)
        have fin : (x1 % 9 = 8 ∨ x1 % 9 < H.1 0 4 0) → fX2_addOrder x1 x2 x3 x4 x5 x6 H = fX2_addOrder_b50 x1 x2 x3 x4 x5 x6 H → fX7_checksOrder x1 x2 x3 x4 x5 x6 m = fX7_checksOrder_b100 m x2 x4 x5 x6 (bI (datesB x3)) → (∃ r, -5 ≤ r ∧ r ≤ -1 ∧ fX2_addOrder x1 x2 x3 x4 x5 x6 H = some (r, H) ∧ fX7_checksOrder x1 x2 x3 x4 x5 x6 m = some r) ∨ (ordOK H x1 x2 x3 x4 x5 x6 ∧ fX2_addOrder x1 x2 x3 x4 x5 x6 H = fX2_addOrder_b50 x1 x2 x3 x4 x5 x6 H ∧ fX7_checksOrder x1 x2 x3 x4 x5 x6 m = some 0) := by
          intro c1 c2 c3
          rcases ls_ordB h h2 h3 h4 h5 h6 (x1 := x1) with ⟨r, r1, r2, r3, r4⟩ | ⟨r1, r2⟩
          · exact Or.inl ⟨r, r1, r2, c2.trans r3, c3.trans r4⟩
          · exact Or.inr ⟨⟨⟨g0, g1, g2, c1⟩, r1⟩, c2, c3.trans r2⟩
        by_cases g3 : x1 % 9 = 8
        · refine fin (Or.inl g3) ?_ ?_
          · unfold fX2_addOrder
            rw [e1, e2, gd_pos h1, if_neg (by omega), gd_pos h1, hA1, cr_some, gd_pos (by decide), if_neg (by decide), gd_pos h1, gd_pos h1, gd_pos (by omega), if_neg g2, gd_pos (by omega), if_pos g3]
          · unfold fX7_checksOrder
            rw [e1, e2, gd_pos h1, gd_pos h1, gd_pos h1, if_neg (by omega), hA2, cr_some, gd_pos (by decide), if_neg (by decide), gd_pos (by omega), if_pos g3, hb]
        · by_cases g4 : x1 % 9 < H.1 0 4 0
          · have hB1 : fX2_hasAccount (x1 % 9) H = some 1 := by rw [ev_hasA (by omega), bI_t (decide_eq_true (by omega))]
            have hB2 : fX7_isAccount (x1 % 9) m = some 1 := by rw [ev_isA (by omega), q1, bI_t (decide_eq_true (by omega))]
            refine fin (Or.inr g4) ?_ ?_
            · unfold fX2_addOrder
              rw [e1, e2, gd_pos h1, if_neg (by omega), gd_pos h1, hA1, cr_some, gd_pos (by decide), if_neg (by decide), gd_pos h1, gd_pos h1, gd_pos (by omega), if_neg g2, gd_pos (by omega), if_neg g3, hB1, cr_some, gd_pos (by decide), if_neg (by decide)]
            · unfold fX7_checksOrder
              rw [e1, e2, gd_pos h1, gd_pos h1, gd_pos h1, if_neg (by omega), hA2, cr_some, gd_pos (by decide), if_neg (by decide), gd_pos (by omega), if_neg g3, hB2, cr_some, gd_pos (by decide), if_neg (by decide), hb]
          · have hB1 : fX2_hasAccount (x1 % 9) H = some 0 := by rw [ev_hasA (by omega), bI_f (decide_eq_false (by omega))]
            have hB2 : fX7_isAccount (x1 % 9) m = some 0 := by rw [ev_isA (by omega), q1, bI_f (decide_eq_false (by omega))]
            refine Or.inl ⟨-1, by decide, by decide, po_eq ?_, po_eq ?_⟩
            · unfold fX2_addOrder
              rw [e1, e2]
              (repeat (first | (with_reducible refine po_gd ?_ ?_; · omega) | (with_reducible refine po_bnd ?_) | (with_reducible refine po_ift ?_ ?_; · omega) | (with_reducible refine po_iff ?_ ?_; · omega) | (with_reducible refine po_crs ?_) | (with_reducible refine po_cls ?_) | (with_reducible refine po_cre hA1 ?_) | (with_reducible refine po_cre hB1 ?_)))
              exact po_some rfl
            · unfold fX7_checksOrder
              rw [e1, e2]
              (repeat (first | (with_reducible refine po_gd ?_ ?_; · omega) | (with_reducible refine po_bnd ?_) | (with_reducible refine po_ift ?_ ?_; · omega) | (with_reducible refine po_iff ?_ ?_; · omega) | (with_reducible refine po_crs ?_) | (with_reducible refine po_cls ?_) | (with_reducible refine po_cre hA2 ?_) | (with_reducible refine po_cre hB2 ?_)))
              exact po_some rfl
    · have hA1 : fX2_hasAccount (x1 / 9) H = some 0 := by rw [ev_hasA (by omega), bI_f (decide_eq_false (by omega))]
      have hA2 : fX7_isAccount (x1 / 9) m = some 0 := by rw [ev_isA (by omega), q1, bI_f (decide_eq_false (by omega))]
      refine Or.inl ⟨-1, by decide, by decide, po_eq ?_, po_eq ?_⟩
      · unfold fX2_addOrder
        rw [e1, e2]
        (repeat (first | (with_reducible refine po_gd ?_ ?_; · omega) | (with_reducible refine po_bnd ?_) | (with_reducible refine po_ift ?_ ?_; · omega) | (with_reducible refine po_iff ?_ ?_; · omega) | (with_reducible refine po_crs ?_) | (with_reducible refine po_cls ?_) | (with_reducible refine po_cre hA1 ?_)))
        exact po_some rfl
      · unfold fX7_checksOrder
        rw [e1, e2]
        (repeat (first | (with_reducible refine po_gd ?_ ?_; · omega) | (with_reducible refine po_bnd ?_) | (with_reducible refine po_ift ?_ ?_; · omega) | (with_reducible refine po_iff ?_ ?_; · omega) | (with_reducible refine po_crs ?_) | (with_reducible refine po_cls ?_) | (with_reducible refine po_cre hA2 ?_)))
        exact po_some rfl
  · refine Or.inl ⟨-1, by decide, by decide, po_eq ?_, po_eq ?_⟩
    · unfold fX2_addOrder
      (repeat (first | (with_reducible refine po_gd ?_ ?_; · omega) | (with_reducible refine po_bnd ?_) | (with_reducible refine po_ift ?_ ?_; · omega) | (with_reducible refine po_iff ?_ ?_; · omega) | (with_reducible refine po_crs ?_) | (with_reducible refine po_cls ?_)))
      exact po_some rfl
    · unfold fX7_checksOrder
      (repeat (first | (with_reducible refine po_gd ?_ ?_; · omega) | (with_reducible refine po_bnd ?_) | (with_reducible refine po_ift ?_ ?_; · omega) | (with_reducible refine po_iff ?_ ?_; · omega) | (with_reducible refine po_crs ?_) | (with_reducible refine po_cls ?_)))
      exact po_some rfl

/-! ===== feed, deposit ===== -/
theorem ev_moves {m : mR} {a w c : Int} (ha : 0 ≤ a ∧ a < 8) (hw : 0 ≤ w ∧ w ≤ 7) : fX7_moves a w c m = some ((), mS m 0 (33 + 11 * a + (3 + w)) (m.1 0 (33 + 11 * a + (3 + w)) + c)) := by
  unfold fX7_moves
  rw [gd_pos (by omega), gd_pos (by omega), bnd_eq, show 33 + 11 * a + 3 + w = 33 + 11 * a + (3 + w) by omega]
theorem Cor.at {H : hR} {m : mR} (h : CorM H m) {a f : Int} (ha : 0 ≤ a ∧ a < H.1 0 4 0) (hf : 0 ≤ f ∧ f ≤ 10) : m.1 0 (33 + 11 * a + f) = H.1 2 a f := (h.2.2.1 a (by rw [h.1.2.1]; exact ha)).1 f hf
/-- only accounts' money is other -/
theorem Ok.money {T T' : Int} {H H' : hR} (h : Ok T H) (hH : ∀ t x y : Int, ¬ (t = 2 ∧ 3 ≤ y ∧ y ≤ 10) → H'.1 t x y = H.1 t x y) (hM : okM T' H') (hQ : okQ H') : Ok T' H' := by
  obtain ⟨k1, k2, k3, k4, k5, k6, k7, k8⟩ := h
  exact ⟨k1.fr (hH _ _ _ (by omega)) (hH _ _ _ (by omega)) (hH _ _ _ (by omega)) (hH _ _ _ (by omega)), k2.fr (fun t x q => hH _ _ _ (by omega)), k3.fr (hH _ _ _ (by omega)) (fun a f q => hH _ _ _ (by omega)), k4.fr (hH _ _ _ (by omega)) (hH _ _ _ (by omega)) (fun o f q => hH _ _ _ (by omega)), k5.fr (hH _ _ _ (by omega)) (hH _ _ _ (by omega)) (fun c i q => hH _ _ _ (by omega)), k6.fr k1 (hH _ _ _ (by omega)) (hH _ _ _ (by omega)) (hH _ _ _ (by omega)) (fun c i q => hH _ _ _ (by omega)) (fun a => hH _ _ _ (by omega)) (fun o => ⟨hH _ _ _ (by omega), hH _ _ _ (by omega)⟩), hM, hQ⟩
def coreOK (T : Int) (H : hR) (m : mR) (c : Option (Int × hR)) (chk : Option Int) (core : Option (Int × mR)) : Prop :=
  ∃ r H', c = some (r, H') ∧ wR r ∧ ((-5 ≤ r ∧ r ≤ -1 ∧ H' = H ∧ chk = some r) ∨ (¬ (-5 ≤ r ∧ r ≤ -1) ∧ chk = some 0 ∧ ∃ m', core = some (r, m') ∧ Sim (T + 1) H' m' ∧ keptEq m m'))
theorem ls_deposit {T : Int} {H : hR} {m : mR} (hT : T ≤ 100000) (h : Sim T H m) {a c : Int} (ha : wR a) (hc : wR c) : coreOK T H m (fX2_payIn a c H) (fX7_checksDeposit a c m) (fX7_deposits a c m) := by
  have k1 := h.2.2.1
  have q2 := h.1.1.2.1
  have k7 := h.2.2.2.2.2.2.2.2.1
  have k8 := h.2.2.2.2.2.2.2.2.2
  have k1' := k1
  unfold okN at k1'
  by_cases g1 : 0 ≤ a ∧ a < H.1 0 4 0
  · have hA1 : fX2_hasAccount a H = some 1 := by rw [ev_hasA (by omega), bI_t (decide_eq_true g1)]
    have hA2 : fX7_isAccount a m = some 1 := by rw [ev_isA (by omega), q2, bI_t (decide_eq_true g1)]
    by_cases g2 : 1 ≤ c ∧ c ≤ 100000000
    · have m3 := k7 a g1 3 (by decide)
      have m4 := k7 a g1 4 (by decide)
      have c3 := h.1.at g1 (f := 3) (by decide)
      have c4 := h.1.at g1 (f := 4) (by decide)
      have hm2 : CorM (hS (hS H 2 a 3 (H.1 2 a 3 + c)) 2 a 4 (H.1 2 a 4 + c)) (mS (mS m 0 (33 + 11 * a + 3) (H.1 2 a 3 + c)) 0 (33 + 11 * a + 4) (H.1 2 a 4 + c)) :=
        (h.1.acc k1 (by omega) (by decide)).acc (k1.fr (hS_n H (by omega)) (hS_n H (by omega)) (hS_n H (by omega)) (hS_n H (by omega))) (by omega) (by decide)
      have ht := h.2.2.2.1.1
      have hb64 : wR64 (H.1 2 a 3 + c) := by
        unfold monB at m3
        omega
      have hTm : 100000000 * T + 2251799813685248 * H.1 0 6 0 + 100000000 = 100000000 * (T + 1) + 2251799813685248 * H.1 0 6 0 := by omega
      refine ⟨if H.1 2 a 3 + c < 0 then 0 else 1, hS (hS H 2 a 3 (H.1 2 a 3 + c)) 2 a 4 (H.1 2 a 4 + c), po_eq ?_, by split <;> omega, Or.inr ⟨by split <;> omega, po_eq ?_, mS (mS m 0 (33 + 11 * a + 3) (H.1 2 a 3 + c)) 0 (33 + 11 * a + 4) (H.1 2 a 4 + c), po_eq ?_, ⟨hm2, ?_, ?_⟩, ((keptEq.rf m).s (by decide)).s (by decide)⟩⟩
      · have r1 : (hS H 2 a 3 (H.1 2 a 3 + c)).1 2 a 4 = H.1 2 a 4 := hS_n H (by omega)
        have r2 : (hS (hS H 2 a 3 (H.1 2 a 3 + c)) 2 a 4 (H.1 2 a 4 + c)).1 2 a 3 = H.1 2 a 3 + c := by rw [hS_n _ (by omega), hS_p]
        unfold monB at m3
        unfold fX2_payIn
        (repeat (first | (with_reducible refine po_gd ?_ ?_; · omega) | (with_reducible refine po_bnd ?_) | (with_reducible refine po_ift ?_ ?_; · omega) | (with_reducible refine po_iff ?_ ?_; · omega) | (with_reducible refine po_crs ?_) | (with_reducible refine po_cls ?_) | (with_reducible refine po_cre hA1 ?_) | (with_reducible refine po_cre (ev_btT ?_) ?_; (· omega))))
        rw [r1, r2]
        refine po_gd (hb64) (po_if (fun g => po_some ?_) (fun g => po_some ?_))
        · rw [if_pos g]
        · rw [if_neg g]
      · unfold fX7_checksDeposit
        (repeat (first | (with_reducible refine po_gd ?_ ?_; · omega) | (with_reducible refine po_bnd ?_) | (with_reducible refine po_ift ?_ ?_; · omega) | (with_reducible refine po_iff ?_ ?_; · omega) | (with_reducible refine po_crs ?_) | (with_reducible refine po_cls ?_) | (with_reducible refine po_cre hA2 ?_) | (with_reducible refine po_cre (ev_inT ?_) ?_; (· omega))))
        exact po_some rfl
      · have e1 : fX7_moves a 0 c m = some ((), mS m 0 (33 + 11 * a + 3) (H.1 2 a 3 + c)) := by rw [ev_moves (by omega) (by decide), show (3 : Int) + 0 = 3 from rfl, c3]
        have e2 : fX7_moves a 1 c (mS m 0 (33 + 11 * a + 3) (H.1 2 a 3 + c)) = some ((), mS (mS m 0 (33 + 11 * a + 3) (H.1 2 a 3 + c)) 0 (33 + 11 * a + 4) (H.1 2 a 4 + c)) := by rw [ev_moves (by omega) (by decide), show (3 : Int) + 1 = 4 from rfl, mS_n m (by omega), c4]
        have e3 : fX7_moneyOf a 0 (mS (mS m 0 (33 + 11 * a + 3) (H.1 2 a 3 + c)) 0 (33 + 11 * a + 4) (H.1 2 a 4 + c)) = some (H.1 2 a 3 + c) := by rw [ev_money (by omega), show 33 + 11 * a + 3 + 0 = 33 + 11 * a + 3 by omega, mS_n _ (by omega), mS_p]
        unfold fX7_deposits
        (repeat (first | (with_reducible refine po_gd ?_ ?_; · omega) | (with_reducible refine po_bnd ?_) | (with_reducible refine po_ift ?_ ?_; · omega) | (with_reducible refine po_iff ?_ ?_; · omega) | (with_reducible refine po_crs ?_) | (with_reducible refine po_cls ?_) | (with_reducible refine po_cle e1 ?_) | (with_reducible refine po_cle e2 ?_) | (with_reducible refine po_cre e3 ?_)))
        refine po_if (fun g => po_some ?_) (fun g => po_some ?_)
        · rw [if_pos g]
        · rw [if_neg g]
      · exact h.2.1.fr (by rw [hS_n _ (by omega), hS_n _ (by omega)]) (fun o f q => by rw [hS_n _ (by omega), hS_n _ (by omega)]) (fun k q => by rw [mS_n _ (by omega), mS_n _ (by omega)])
      · refine h.2.2.money (fun t x y q => by rw [hS_n _ (by omega), hS_n _ (by omega)]) ?_ ?_
        · intro x hx f hf
          rw [hS_n _ (by omega), hS_n _ (by omega)] at hx
          rw [hS_n _ (by omega), hS_n _ (by omega), hS_1, hS_1]
          have := k7 x hx f hf
          unfold monB at *
          split
          · omega
          · split <;> omega
        · intro x hx
          rw [hS_n _ (by omega), hS_n _ (by omega)] at hx
          obtain ⟨n, w1, w2, w3⟩ := k8 x hx
          rw [hS_n _ (by omega), hS_n _ (by omega), hS_n _ (by omega), hS_1]
          refine ⟨n, w1, w2, ?_⟩
          split
          · rename_i q
            obtain ⟨-, rfl, -⟩ := q
            omega
          · exact w3
    · refine ⟨-2, H, po_eq ?_, by decide, Or.inl ⟨by decide, by decide, rfl, po_eq ?_⟩⟩
      · unfold fX2_payIn
        (repeat (first | (with_reducible refine po_gd ?_ ?_; · omega) | (with_reducible refine po_bnd ?_) | (with_reducible refine po_ift ?_ ?_; · omega) | (with_reducible refine po_iff ?_ ?_; · omega) | (with_reducible refine po_crs ?_) | (with_reducible refine po_cls ?_) | (with_reducible refine po_cre hA1 ?_) | (with_reducible refine po_cre (ev_btF ?_) ?_; (· omega))))
        exact po_some rfl
      · unfold fX7_checksDeposit
        (repeat (first | (with_reducible refine po_gd ?_ ?_; · omega) | (with_reducible refine po_bnd ?_) | (with_reducible refine po_ift ?_ ?_; · omega) | (with_reducible refine po_iff ?_ ?_; · omega) | (with_reducible refine po_crs ?_) | (with_reducible refine po_cls ?_) | (with_reducible refine po_cre hA2 ?_) | (with_reducible refine po_cre (ev_inF ?_) ?_; (· omega))))
        exact po_some rfl
  · have hA1 : fX2_hasAccount a H = some 0 := by rw [ev_hasA (by omega), bI_f (decide_eq_false g1)]
    have hA2 : fX7_isAccount a m = some 0 := by rw [ev_isA (by omega), q2, bI_f (decide_eq_false g1)]
    refine ⟨-1, H, po_eq ?_, by decide, Or.inl ⟨by decide, by decide, rfl, po_eq ?_⟩⟩
    · unfold fX2_payIn
      (repeat (first | (with_reducible refine po_gd ?_ ?_; · omega) | (with_reducible refine po_bnd ?_) | (with_reducible refine po_ift ?_ ?_; · omega) | (with_reducible refine po_iff ?_ ?_; · omega) | (with_reducible refine po_crs ?_) | (with_reducible refine po_cls ?_) | (with_reducible refine po_cre hA1 ?_)))
      exact po_some rfl
    · unfold fX7_checksDeposit
      (repeat (first | (with_reducible refine po_gd ?_ ?_; · omega) | (with_reducible refine po_bnd ?_) | (with_reducible refine po_ift ?_ ?_; · omega) | (with_reducible refine po_iff ?_ ?_; · omega) | (with_reducible refine po_crs ?_) | (with_reducible refine po_cls ?_) | (with_reducible refine po_cre hA2 ?_)))
      exact po_some rfl
theorem ls_depositC {T : Int} {H : hR} {m : mR} (hT : T ≤ 100000) (h : Sim T H m) {a c : Int} (ha : wR a) (hc : wR c) : callOK T H m (fX2_payIn a c H) (fX7_deposit a c m) := by
  obtain ⟨r, H', e1, e2, e3⟩ := ls_deposit hT h ha hc
  refine ⟨r, H', e1, e2, ?_⟩
  rcases e3 with ⟨f1, f2, f3, f4⟩ | ⟨f1, f2, -⟩
  · refine Or.inl ⟨f1, f2, f3, po_eq ?_⟩
    unfold fX7_deposit
    (repeat (first | (with_reducible refine po_gd ?_ ?_; · omega) | (with_reducible refine po_bnd ?_) | (with_reducible refine po_ift ?_ ?_; · omega) | (with_reducible refine po_iff ?_ ?_; · omega) | (with_reducible refine po_crs ?_) | (with_reducible refine po_cls ?_) | (with_reducible refine po_cre f4 ?_)))
    exact po_some rfl
  · refine Or.inr ⟨f1, fun m1 hr => ?_⟩
    obtain ⟨r', H'', g1, g2, g3⟩ := ls_deposit hT (h.rec hr) ha hc
    rw [e1] at g1
    cases g1
    rcases g3 with ⟨f3, f4, -⟩ | ⟨f3, f4, m', f5, f6, f7⟩
    · exact absurd ⟨f3, f4⟩ f1
    · refine ⟨m', po_eq ?_, f6, f7⟩
      have hr1 := hr.1
      unfold fX7_deposit
      (repeat (first | (with_reducible refine po_gd ?_ ?_; · omega) | (with_reducible refine po_bnd ?_) | (with_reducible refine po_ift ?_ ?_; · omega) | (with_reducible refine po_iff ?_ ?_; · omega) | (with_reducible refine po_crs ?_) | (with_reducible refine po_cls ?_) | (with_reducible refine po_cre f2 ?_) | (with_reducible refine po_cle hr1 ?_) | (with_reducible refine po_cle f5 ?_)))
      exact po_some rfl
theorem ls_feed {T : Int} {H : hR} {m : mR} (h : Sim T H m) {a b : Int} (ha : wR a) (hb : wR b) : callOK T H m (fX2_nameFeeder a b H) (fX7_feed a b m) := by
  have k1 := h.2.2.1
  have q2 := h.1.1.2.1
  have k1' := k1
  unfold okN at k1'
  by_cases g1 : 0 ≤ a ∧ a < H.1 0 4 0
  · have hA1 : fX2_hasAccount a H = some 1 := by rw [ev_hasA (by omega), bI_t (decide_eq_true g1)]
    have hA2 : fX7_isAccount a m = some 1 := by rw [ev_isA (by omega), q2, bI_t (decide_eq_true g1)]
    have k3 := h.2.2.2.2.1 a g1
    have fin : (b = -6 ∨ (0 ≤ b ∧ b < H.1 0 4 0 ∧ ¬ b = a)) → ∀ m1, recOf m m1 → fX7_feed_b29 a b m = some (H.1 2 a 2, mS m1 0 (33 + 11 * a + 2) b) ∧ Sim (T + 1) (hS H 2 a 2 b) (mS m1 0 (33 + 11 * a + 2) b) ∧ keptEq m1 (mS m1 0 (33 + 11 * a + 2) b) := by
      intro hbb m1 hr
      have hs := h.rec hr
      refine ⟨po_eq ?_, ⟨hs.1.acc k1 (by omega) (by decide), ?_, ?_⟩, (keptEq.rf m1).s (by decide)⟩
      · have hr1 := hr.1
        have c2 := hs.1.at g1 (f := 2) (by decide)
        unfold fX7_feed_b29
        (repeat (first | (with_reducible refine po_gd ?_ ?_; · omega) | (with_reducible refine po_bnd ?_) | (with_reducible refine po_ift ?_ ?_; · omega) | (with_reducible refine po_iff ?_ ?_; · omega) | (with_reducible refine po_crs ?_) | (with_reducible refine po_cls ?_) | (with_reducible refine po_cle hr1 ?_) | (with_reducible refine po_cre (ev_ofA ?_) ?_; (· omega))))
        rw [c2]
        exact po_some rfl
      · exact hs.2.1.fr (hS_n H (by omega)) (fun o f q => hS_n H (by omega)) (fun k q => mS_n _ (by omega))
      · obtain ⟨k1, k2, k3, k4, k5, k6, k7, k8⟩ := h.2.2
        refine ⟨k1.fr (hS_n H (by omega)) (hS_n H (by omega)) (hS_n H (by omega)) (hS_n H (by omega)), k2.fr (fun t x q => hS_n H (by omega)), ?_, k4.fr (hS_n H (by omega)) (hS_n H (by omega)) (fun o f q => hS_n H (by omega)), k5.fr (hS_n H (by omega)) (hS_n H (by omega)) (fun c i q => hS_n H (by omega)), k6.fr k1 (hS_n H (by omega)) (hS_n H (by omega)) (hS_n H (by omega)) (fun c i q => hS_n H (by omega)) (fun a => hS_n H (by omega)) (fun o => ⟨hS_n H (by omega), hS_n H (by omega)⟩), k7.fr (by omega) (hS_n H (by omega)) (hS_n H (by omega)) (fun a f q => hS_n H (by omega)), k8.fr (hS_n H (by omega)) (hS_n H (by omega)) (fun a => hS_n H (by omega)) rfl⟩
        intro x hx
        rw [hS_n H (by omega)] at hx
        rw [hS_n H (by omega), hS_n H (by omega), hS_n H (show ¬ ((0 : Int) = 2 ∧ (4 : Int) = a ∧ (0 : Int) = 2) by omega), hS_1]
        have := k3 x hx
        by_cases q : (2 : Int) = 2 ∧ x = a ∧ (2 : Int) = 2
        · rw [if_pos q]
          obtain ⟨-, rfl, -⟩ := q
          exact ⟨this.1, this.2.1, hbb⟩
        · rw [if_neg q]
          exact this
    by_cases g2 : b = -6
    · refine ⟨H.1 2 a 2, hS H 2 a 2 b, po_eq ?_, by omega, Or.inr ⟨by omega, fun m1 hr => ?_⟩⟩
      · unfold fX2_nameFeeder fX2_nameFeeder_b31
        (repeat (first | (with_reducible refine po_gd ?_ ?_; · omega) | (with_reducible refine po_bnd ?_) | (with_reducible refine po_ift ?_ ?_; · omega) | (with_reducible refine po_iff ?_ ?_; · omega) | (with_reducible refine po_crs ?_) | (with_reducible refine po_cls ?_) | (with_reducible refine po_cre hA1 ?_)))
        exact po_some rfl
      · obtain ⟨f1, f2, f3⟩ := fin (Or.inl g2) m1 hr
        refine ⟨_, po_eq ?_, f2, f3⟩
        unfold fX7_feed
        (repeat (first | (with_reducible refine po_gd ?_ ?_; · omega) | (with_reducible refine po_bnd ?_) | (with_reducible refine po_ift ?_ ?_; · omega) | (with_reducible refine po_iff ?_ ?_; · omega) | (with_reducible refine po_crs ?_) | (with_reducible refine po_cls ?_) | (with_reducible refine po_cre hA2 ?_)))
        exact po_of f1 rfl
    · by_cases g3 : 0 ≤ b ∧ b < H.1 0 4 0
      · have hB1 : fX2_hasAccount b H = some 1 := by rw [ev_hasA (by omega), bI_t (decide_eq_true g3)]
        have hB2 : fX7_isAccount b m = some 1 := by rw [ev_isA (by omega), q2, bI_t (decide_eq_true g3)]
        by_cases g4 : b = a
        · refine callErr (r := -1) (by decide) (po_eq ?_) (po_eq ?_)
          · unfold fX2_nameFeeder
            (repeat (first | (with_reducible refine po_gd ?_ ?_; · omega) | (with_reducible refine po_bnd ?_) | (with_reducible refine po_ift ?_ ?_; · omega) | (with_reducible refine po_iff ?_ ?_; · omega) | (with_reducible refine po_crs ?_) | (with_reducible refine po_cls ?_) | (with_reducible refine po_cre hA1 ?_)))
            exact po_some rfl
          · unfold fX7_feed
            (repeat (first | (with_reducible refine po_gd ?_ ?_; · omega) | (with_reducible refine po_bnd ?_) | (with_reducible refine po_ift ?_ ?_; · omega) | (with_reducible refine po_iff ?_ ?_; · omega) | (with_reducible refine po_crs ?_) | (with_reducible refine po_cls ?_) | (with_reducible refine po_cre hA2 ?_) | (with_reducible refine po_cre hB2 ?_)))
            exact po_some rfl
        · refine ⟨H.1 2 a 2, hS H 2 a 2 b, po_eq ?_, by omega, Or.inr ⟨by omega, fun m1 hr => ?_⟩⟩
          · unfold fX2_nameFeeder fX2_nameFeeder_b31
            (repeat (first | (with_reducible refine po_gd ?_ ?_; · omega) | (with_reducible refine po_bnd ?_) | (with_reducible refine po_ift ?_ ?_; · omega) | (with_reducible refine po_iff ?_ ?_; · omega) | (with_reducible refine po_crs ?_) | (with_reducible refine po_cls ?_) | (with_reducible refine po_cre hA1 ?_) | (with_reducible refine po_cre hB1 ?_)))
            exact po_some rfl
          · obtain ⟨f1, f2, f3⟩ := fin (Or.inr ⟨g3.1, g3.2, g4⟩) m1 hr
            refine ⟨_, po_eq ?_, f2, f3⟩
            unfold fX7_feed
            (repeat (first | (with_reducible refine po_gd ?_ ?_; · omega) | (with_reducible refine po_bnd ?_) | (with_reducible refine po_ift ?_ ?_; · omega) | (with_reducible refine po_iff ?_ ?_; · omega) | (with_reducible refine po_crs ?_) | (with_reducible refine po_cls ?_) | (with_reducible refine po_cre hA2 ?_) | (with_reducible refine po_cre hB2 ?_)))
            exact po_of f1 rfl
      · have hB1 : fX2_hasAccount b H = some 0 := by rw [ev_hasA (by omega), bI_f (decide_eq_false g3)]
        have hB2 : fX7_isAccount b m = some 0 := by rw [ev_isA (by omega), q2, bI_f (decide_eq_false g3)]
        refine callErr (r := -1) (by decide) (po_eq ?_) (po_eq ?_)
        · unfold fX2_nameFeeder
          (repeat (first | (with_reducible refine po_gd ?_ ?_; · omega) | (with_reducible refine po_bnd ?_) | (with_reducible refine po_ift ?_ ?_; · omega) | (with_reducible refine po_iff ?_ ?_; · omega) | (with_reducible refine po_crs ?_) | (with_reducible refine po_cls ?_) | (with_reducible refine po_cre hA1 ?_) | (with_reducible refine po_cre hB1 ?_)))
          exact po_some rfl
        · unfold fX7_feed
          (repeat (first | (with_reducible refine po_gd ?_ ?_; · omega) | (with_reducible refine po_bnd ?_) | (with_reducible refine po_ift ?_ ?_; · omega) | (with_reducible refine po_iff ?_ ?_; · omega) | (with_reducible refine po_crs ?_) | (with_reducible refine po_cls ?_) | (with_reducible refine po_cre hA2 ?_) | (with_reducible refine po_cre hB2 ?_)))
          exact po_some rfl
  · have hA1 : fX2_hasAccount a H = some 0 := by rw [ev_hasA (by omega), bI_f (decide_eq_false g1)]
    have hA2 : fX7_isAccount a m = some 0 := by rw [ev_isA (by omega), q2, bI_f (decide_eq_false g1)]
    refine callErr (r := -1) (by decide) (po_eq ?_) (po_eq ?_)
    · unfold fX2_nameFeeder
      (repeat (first | (with_reducible refine po_gd ?_ ?_; · omega) | (with_reducible refine po_bnd ?_) | (with_reducible refine po_ift ?_ ?_; · omega) | (with_reducible refine po_iff ?_ ?_; · omega) | (with_reducible refine po_crs ?_) | (with_reducible refine po_cls ?_) | (with_reducible refine po_cre hA1 ?_)))
      exact po_some rfl
    · unfold fX7_feed
      (repeat (first | (with_reducible refine po_gd ?_ ?_; · omega) | (with_reducible refine po_bnd ?_) | (with_reducible refine po_ift ?_ ?_; · omega) | (with_reducible refine po_iff ?_ ?_; · omega) | (with_reducible refine po_crs ?_) | (with_reducible refine po_cls ?_) | (with_reducible refine po_cre hA2 ?_)))
      exact po_some rfl

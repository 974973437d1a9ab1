/-! ===== calls that change a house, in step: settings, accounts ===== -/
def keptEq (m m' : mR) : Prop := m'.1 2 = m.1 2 ∧ m'.1 3 = m.1 3 ∧ m'.2 1 = m.2 1 ∧ m'.1 4 = m.1 4 ∧ m'.1 5 = m.1 5 ∧ ∀ k : Int, ¬ k = 8 → m'.1 6 k = m.1 6 k
theorem keptEq.rf (m : mR) : keptEq m m := ⟨rfl, rfl, rfl, rfl, rfl, fun _ _ => rfl⟩
theorem keptEq.tr {m m1 m2 : mR} (h : keptEq m m1) (g : keptEq m1 m2) : keptEq m m2 := by
  obtain ⟨h1, h2, h3, h4, h5, h6⟩ := h
  obtain ⟨g1, g2, g3, g4, g5, g6⟩ := g
  exact ⟨g1.trans h1, g2.trans h2, g3.trans h3, g4.trans h4, g5.trans h5, fun k hk => (g6 k hk).trans (h6 k hk)⟩
theorem keptEq.s {m m1 : mR} {t k v : Int} (h : keptEq m m1) (ht : t = 0 ∨ t = 1) : keptEq m (mS m1 t k v) := by
  refine h.tr ⟨mS_t _ _ _ (by omega), mS_t _ _ _ (by omega), rfl, mS_t _ _ _ (by omega), mS_t _ _ _ (by omega), fun j _ => ?_⟩
  rw [mS_t _ _ _ (by omega)]
theorem keptEq.d {m m1 : mR} {k : Int} {v : UInt64} (h : keptEq m m1) : keptEq m (mD m1 0 k v) := h.tr ⟨rfl, rfl, mD_t _ _ _ (by decide), rfl, rfl, fun _ _ => rfl⟩
def recOf (m m1 : mR) : Prop := fX7_records m = some ((), m1) ∧ m1.1 0 = m.1 0 ∧ m1.1 1 = m.1 1 ∧ m1.2 0 = m.2 0
theorem Sim.rec {T : Int} {H : hR} {m m1 : mR} (h : Sim T H m) (r : recOf m m1) : Sim T H m1 := by
  obtain ⟨h1, h2, h3⟩ := h
  refine ⟨h1.oth r.2.1 r.2.2.1 r.2.2.2, ?_, h3⟩
  rw [r.2.1]
  exact h2
/-- a changing call: an error, and nothing changes; or in step -/
def callOK (T : Int) (H : hR) (m : mR) (c : Option (Int × hR)) (ref : Option (Int × mR)) : Prop :=
  ∃ r H', c = some (r, H') ∧ wR r ∧ ((-5 ≤ r ∧ r ≤ -1 ∧ H' = H ∧ ref = some (r, m)) ∨ (¬ (-5 ≤ r ∧ r ≤ -1) ∧ ∀ m1, recOf m m1 → ∃ m', ref = some (r, m') ∧ Sim (T + 1) H' m' ∧ keptEq m1 m'))
theorem callErr {T : Int} {H : hR} {m : mR} {c : Option (Int × hR)} {ref : Option (Int × mR)} {r : Int} (hr : -5 ≤ r ∧ r ≤ -1) (h1 : c = some (r, H)) (h2 : ref = some (r, m)) : callOK T H m c ref := ⟨r, H, h1, by omega, Or.inl ⟨hr.1, hr.2, rfl, h2⟩⟩
theorem Cor.sc {H : hR} {m : mR} (h : CorM H m) (hk : okN H) {t a k v : Int} (hq : (t = 0 ∧ a = 6 ∧ k = 0) ∨ (t = 0 ∧ a = 10 ∧ k = 8) ∨ (t = 0 ∧ a = 7 ∧ k = 9) ∨ (t = 0 ∧ a = 8 ∧ k = 10) ∨ (t = 0 ∧ a = 9 ∧ k = 11) ∨ (t = 1 ∧ a = 2 ∧ k = 12)) : CorM (hS H t a 0 v) (mS m 0 k v) := by
  obtain ⟨h1, h2, h3, h4, h5⟩ := h
  have e1 := h1.2.1
  have e2 := h1.2.2.1
  have e4 := h1.2.2.2.2.1
  unfold okN at hk
  unfold CorM
  rw [mS_0, mS_t m _ _ (by decide), mS_2]
  refine ⟨?_, h2.fr (fun a' => hS_n H (by omega)) (fun k q => up1_n _ _ (by omega)), h3.fr (fun a f q => hS_n H (by omega)) (fun a => rfl) (fun k q => up1_n _ _ (by omega)) (fun a => rfl) (by omega), h4.fr (fun o f' q => hS_n H (by omega)) (fun k q => up1_n _ _ (by omega)) (by omega), ?_⟩
  · obtain ⟨g1, g2, g3, g4, g5, g6, g7, g8, g9, g10⟩ := h1
    rcases hq with ⟨rfl, rfl, rfl⟩ | ⟨rfl, rfl, rfl⟩ | ⟨rfl, rfl, rfl⟩ | ⟨rfl, rfl, rfl⟩ | ⟨rfl, rfl, rfl⟩ | ⟨rfl, rfl, rfl⟩ <;>
      (refine ⟨?_, ?_, ?_, ?_, ?_, ?_, ?_, ?_, ?_, ?_⟩ <;> first | (rw [up1_p, hS_p]) | (rw [up1_n _ _ (by decide), hS_n H (by decide)]; assumption))
  · rw [up1_n _ _ (by omega)]
    exact h5.fr (fun c i q => hS_n H (by omega)) (fun i q => rfl) (Int.le_refl _)
theorem Sim.sc {T : Int} {H : hR} {m : mR} (h : Sim T H m) {t a k v : Int} (hq : (t = 0 ∧ a = 7 ∧ k = 9) ∨ (t = 0 ∧ a = 8 ∧ k = 10) ∨ (t = 0 ∧ a = 9 ∧ k = 11) ∨ (t = 1 ∧ a = 2 ∧ k = 12)) (hs : okS (hS H t a 0 v)) : Sim (T + 1) (hS H t a 0 v) (mS m 0 k v) := by
  obtain ⟨hc, ht, k1, k2, k3, k4, k5, k6, k7, k8⟩ := h
  exact ⟨hc.sc k1 (by omega), ht.fr (hS_n H (by omega)) (fun o f q => hS_n H (by omega)) (fun k q => mS_n m (by omega)), k1.fr (hS_n H (by omega)) (hS_n H (by omega)) (hS_n H (by omega)) (hS_n H (by omega)), hs, k3.fr (hS_n H (by omega)) (fun a f q => hS_n H (by omega)), k4.fr (hS_n H (by omega)) (hS_n H (by omega)) (fun a f q => hS_n H (by omega)), k5.fr (hS_n H (by omega)) (hS_n H (by omega)) (fun a f q => hS_n H (by omega)), k6.fr k1 (hS_n H (by omega)) (hS_n H (by omega)) (hS_n H (by omega)) (fun a f q => hS_n H (by omega)) (fun a => hS_n H (by omega)) (fun o => ⟨hS_n H (by omega), hS_n H (by omega)⟩), k7.fr (by omega) (hS_n H (by omega)) (hS_n H (by omega)) (fun a f q => hS_n H (by omega)), k8.fr (hS_n H (by omega)) (hS_n H (by omega)) (fun a => hS_n H (by omega)) rfl⟩
theorem po_crn {α β : Type} {o : Option β} {k : β → Option α} {Q : α → Prop} (h : po o (fun y => po (k y) Q)) : po (cr o k) Q := by
  obtain ⟨y, rfl, hy⟩ := h
  exact hy
theorem po_cln {α β S : Type} {o : Option (β × S)} {k : β → S → Option α} {Q : α → Prop} (h : po o (fun p => po (k p.1 p.2) Q)) : po (cl o k) Q := by
  obtain ⟨⟨y, s⟩, rfl, hy⟩ := h
  exact hy
theorem po_sk {α β : Type} {k : β → Option α} {v : β} {Q : α → Prop} (h : po (k v) Q) : po (some v) (fun y => po (k y) Q) := ⟨v, rfl, h⟩
theorem ev_inB {v a b : Int} (h : wR64 v ∧ wR64 a ∧ wR64 b) (Q : Int → Prop) (h1 : a ≤ v ∧ v ≤ b → Q 1) (h0 : ¬ (a ≤ v ∧ v ≤ b) → Q 0) : po (fX7_isIn v a b) Q := by
  by_cases g : a ≤ v ∧ v ≤ b
  · exact po_of (ev_inT (by omega)) (h1 g)
  · exact po_of (ev_inF (by omega)) (h0 g)
theorem ev_btB {v a b : Int} (h : wR v ∧ wR a ∧ wR b) (Q : Int → Prop) (h1 : a ≤ v ∧ v ≤ b → Q 1) (h0 : ¬ (a ≤ v ∧ v ≤ b) → Q 0) : po (fX6_isBetween v a b) Q := by
  by_cases g : a ≤ v ∧ v ≤ b
  · exact po_of (ev_btT (by omega)) (h1 g)
  · exact po_of (ev_btF (by omega)) (h0 g)
theorem ls_set {T : Int} {H : hR} {m : mR} (h : Sim T H m) {s v : Int} (hs : wR s) (hv : wR v) : callOK T H m (fX2_replaceSetting s v H) (fX7_set s v m) := by
  obtain ⟨s1, s2, s3, s4, s5, s6⟩ := h.2.2.2.1
  obtain ⟨q1, q2, q3, q4, q5, q6, q7, q8, q9, q10⟩ := h.1.1
  by_cases g : 0 ≤ s ∧ s ≤ 3
  · have hs1 : s = 0 ∨ s = 1 ∨ s = 2 ∨ s = 3 := by omega
    rcases hs1 with rfl | rfl | rfl | rfl
    · have r1 : sRow 0 0 = 1 := rfl
      have r2 : sRow 1 0 = 9 := rfl
      by_cases g2 : 1 ≤ v ∧ v ≤ 9
      · refine ⟨H.1 0 7 0, hS H 0 7 0 v, po_eq ?_, by omega, Or.inr ⟨by omega, fun m1 hr => ⟨mS m1 0 9 v, po_eq ?_, (h.rec hr).sc (by omega) ?_, (keptEq.rf m1).s (by decide)⟩⟩⟩
        · unfold fX2_replaceSetting fX2_settingOf
          rw [r1, r2]
          (repeat (first | (with_reducible refine po_gd ?_ ?_; · omega) | (with_reducible refine po_bnd ?_) | (with_reducible refine po_ift ?_ ?_; · omega) | (with_reducible refine po_iff ?_ ?_; · omega) | (with_reducible refine po_crs ?_) | (with_reducible refine po_cls ?_) | (with_reducible refine po_cre (ev_btT ?_) ?_; (· omega)) | (with_reducible refine po_crn ?_) | (with_reducible refine po_sk ?_)))
          exact po_some rfl
        · have hr1 := hr.1
          unfold fX7_set fX7_isSetting
          refine po_cre (v := 1) (po_eq ?_) ?_
          · (repeat (first | (with_reducible refine po_gd ?_ ?_; · omega) | (with_reducible refine po_bnd ?_) | (with_reducible refine po_ift ?_ ?_; · omega) | (with_reducible refine po_iff ?_ ?_; · omega) | (with_reducible refine po_crs ?_) | (with_reducible refine po_cls ?_) | (with_reducible refine po_cre (ev_inT ?_) ?_; (· omega))))
            exact po_some rfl
          · (repeat (first | (with_reducible refine po_gd ?_ ?_; · omega) | (with_reducible refine po_bnd ?_) | (with_reducible refine po_ift ?_ ?_; · omega) | (with_reducible refine po_iff ?_ ?_; · omega) | (with_reducible refine po_crs ?_) | (with_reducible refine po_cls ?_) | (with_reducible refine po_cle hr1 ?_) | (with_reducible refine po_cre (ev_of ?_) ?_; (· omega))))
            refine po_some ?_
            rw [hr.2.1, show (9 : Int) + 0 = 9 from rfl, q7]
        · unfold okS
          rw [hS_p, hS_n H (by decide), hS_n H (by decide), hS_n H (by decide), hS_n H (by decide), hS_n H (by decide)]
          omega
      · refine callErr (r := -2) (by decide) (po_eq ?_) (po_eq ?_)
        · unfold fX2_replaceSetting
          rw [r1, r2]
          (repeat (first | (with_reducible refine po_gd ?_ ?_; · omega) | (with_reducible refine po_bnd ?_) | (with_reducible refine po_ift ?_ ?_; · omega) | (with_reducible refine po_iff ?_ ?_; · omega) | (with_reducible refine po_crs ?_) | (with_reducible refine po_cls ?_) | (with_reducible refine po_cre (ev_btT ?_) ?_; (· omega)) | (with_reducible refine po_cre (ev_btF ?_) ?_; (· omega))))
          exact po_some rfl
        · unfold fX7_set fX7_isSetting
          refine po_cre (v := 0) (po_eq ?_) ?_
          · (repeat (first | (with_reducible refine po_gd ?_ ?_; · omega) | (with_reducible refine po_bnd ?_) | (with_reducible refine po_ift ?_ ?_; · omega) | (with_reducible refine po_iff ?_ ?_; · omega) | (with_reducible refine po_crs ?_) | (with_reducible refine po_cls ?_) | (with_reducible refine po_cre (ev_inF ?_) ?_; (· omega))))
            exact po_some rfl
          · (repeat (first | (with_reducible refine po_gd ?_ ?_; · omega) | (with_reducible refine po_bnd ?_) | (with_reducible refine po_ift ?_ ?_; · omega) | (with_reducible refine po_iff ?_ ?_; · omega) | (with_reducible refine po_crs ?_) | (with_reducible refine po_cls ?_)))
            exact po_some rfl
    · have r1 : sRow 0 1 = 0 := rfl
      have r2 : sRow 1 1 = 10000 := rfl
      by_cases g2 : 0 ≤ v ∧ v ≤ 10000
      · refine ⟨H.1 0 8 0, hS H 0 8 0 v, po_eq ?_, by omega, Or.inr ⟨by omega, fun m1 hr => ⟨mS m1 0 10 v, po_eq ?_, (h.rec hr).sc (by omega) ?_, (keptEq.rf m1).s (by decide)⟩⟩⟩
        · unfold fX2_replaceSetting fX2_settingOf
          rw [r1, r2]
          (repeat (first | (with_reducible refine po_gd ?_ ?_; · omega) | (with_reducible refine po_bnd ?_) | (with_reducible refine po_ift ?_ ?_; · omega) | (with_reducible refine po_iff ?_ ?_; · omega) | (with_reducible refine po_crs ?_) | (with_reducible refine po_cls ?_) | (with_reducible refine po_cre (ev_btT ?_) ?_; (· omega)) | (with_reducible refine po_crn ?_) | (with_reducible refine po_sk ?_)))
          exact po_some rfl
        · have hr1 := hr.1
          unfold fX7_set fX7_isSetting
          refine po_cre (v := 1) (po_eq ?_) ?_
          · (repeat (first | (with_reducible refine po_gd ?_ ?_; · omega) | (with_reducible refine po_bnd ?_) | (with_reducible refine po_ift ?_ ?_; · omega) | (with_reducible refine po_iff ?_ ?_; · omega) | (with_reducible refine po_crs ?_) | (with_reducible refine po_cls ?_) | (with_reducible refine po_cre (ev_inT ?_) ?_; (· omega))))
            exact po_some rfl
          · (repeat (first | (with_reducible refine po_gd ?_ ?_; · omega) | (with_reducible refine po_bnd ?_) | (with_reducible refine po_ift ?_ ?_; · omega) | (with_reducible refine po_iff ?_ ?_; · omega) | (with_reducible refine po_crs ?_) | (with_reducible refine po_cls ?_) | (with_reducible refine po_cle hr1 ?_) | (with_reducible refine po_cre (ev_of ?_) ?_; (· omega))))
            refine po_some ?_
            rw [hr.2.1, show (9 : Int) + 1 = 10 from rfl, q8]
        · unfold okS
          rw [hS_p, hS_n H (by decide), hS_n H (by decide), hS_n H (by decide), hS_n H (by decide), hS_n H (by decide)]
          omega
      · refine callErr (r := -2) (by decide) (po_eq ?_) (po_eq ?_)
        · unfold fX2_replaceSetting
          rw [r1, r2]
          (repeat (first | (with_reducible refine po_gd ?_ ?_; · omega) | (with_reducible refine po_bnd ?_) | (with_reducible refine po_ift ?_ ?_; · omega) | (with_reducible refine po_iff ?_ ?_; · omega) | (with_reducible refine po_crs ?_) | (with_reducible refine po_cls ?_) | (with_reducible refine po_cre (ev_btT ?_) ?_; (· omega)) | (with_reducible refine po_cre (ev_btF ?_) ?_; (· omega))))
          exact po_some rfl
        · unfold fX7_set fX7_isSetting
          refine po_cre (v := 0) (po_eq ?_) ?_
          · (repeat (first | (with_reducible refine po_gd ?_ ?_; · omega) | (with_reducible refine po_bnd ?_) | (with_reducible refine po_ift ?_ ?_; · omega) | (with_reducible refine po_iff ?_ ?_; · omega) | (with_reducible refine po_crs ?_) | (with_reducible refine po_cls ?_) | (with_reducible refine po_cre (ev_inF ?_) ?_; (· omega))))
            exact po_some rfl
          · (repeat (first | (with_reducible refine po_gd ?_ ?_; · omega) | (with_reducible refine po_bnd ?_) | (with_reducible refine po_ift ?_ ?_; · omega) | (with_reducible refine po_iff ?_ ?_; · omega) | (with_reducible refine po_crs ?_) | (with_reducible refine po_cls ?_)))
            exact po_some rfl
    · have r1 : sRow 0 2 = 0 := rfl
      have r2 : sRow 1 2 = 1000 := rfl
      by_cases g2 : 0 ≤ v ∧ v ≤ 1000
      · refine ⟨H.1 0 9 0, hS H 0 9 0 v, po_eq ?_, by omega, Or.inr ⟨by omega, fun m1 hr => ⟨mS m1 0 11 v, po_eq ?_, (h.rec hr).sc (by omega) ?_, (keptEq.rf m1).s (by decide)⟩⟩⟩
        · unfold fX2_replaceSetting fX2_settingOf
          rw [r1, r2]
          (repeat (first | (with_reducible refine po_gd ?_ ?_; · omega) | (with_reducible refine po_bnd ?_) | (with_reducible refine po_ift ?_ ?_; · omega) | (with_reducible refine po_iff ?_ ?_; · omega) | (with_reducible refine po_crs ?_) | (with_reducible refine po_cls ?_) | (with_reducible refine po_cre (ev_btT ?_) ?_; (· omega)) | (with_reducible refine po_crn ?_) | (with_reducible refine po_sk ?_)))
          exact po_some rfl
        · have hr1 := hr.1
          unfold fX7_set fX7_isSetting
          refine po_cre (v := 1) (po_eq ?_) ?_
          · (repeat (first | (with_reducible refine po_gd ?_ ?_; · omega) | (with_reducible refine po_bnd ?_) | (with_reducible refine po_ift ?_ ?_; · omega) | (with_reducible refine po_iff ?_ ?_; · omega) | (with_reducible refine po_crs ?_) | (with_reducible refine po_cls ?_) | (with_reducible refine po_cre (ev_inT ?_) ?_; (· omega))))
            exact po_some rfl
          · (repeat (first | (with_reducible refine po_gd ?_ ?_; · omega) | (with_reducible refine po_bnd ?_) | (with_reducible refine po_ift ?_ ?_; · omega) | (with_reducible refine po_iff ?_ ?_; · omega) | (with_reducible refine po_crs ?_) | (with_reducible refine po_cls ?_) | (with_reducible refine po_cle hr1 ?_) | (with_reducible refine po_cre (ev_of ?_) ?_; (· omega))))
            refine po_some ?_
            rw [hr.2.1, show (9 : Int) + 2 = 11 from rfl, q9]
        · unfold okS
          rw [hS_p, hS_n H (by decide), hS_n H (by decide), hS_n H (by decide), hS_n H (by decide), hS_n H (by decide)]
          omega
      · refine callErr (r := -2) (by decide) (po_eq ?_) (po_eq ?_)
        · unfold fX2_replaceSetting
          rw [r1, r2]
          (repeat (first | (with_reducible refine po_gd ?_ ?_; · omega) | (with_reducible refine po_bnd ?_) | (with_reducible refine po_ift ?_ ?_; · omega) | (with_reducible refine po_iff ?_ ?_; · omega) | (with_reducible refine po_crs ?_) | (with_reducible refine po_cls ?_) | (with_reducible refine po_cre (ev_btT ?_) ?_; (· omega)) | (with_reducible refine po_cre (ev_btF ?_) ?_; (· omega))))
          exact po_some rfl
        · unfold fX7_set fX7_isSetting
          refine po_cre (v := 0) (po_eq ?_) ?_
          · (repeat (first | (with_reducible refine po_gd ?_ ?_; · omega) | (with_reducible refine po_bnd ?_) | (with_reducible refine po_ift ?_ ?_; · omega) | (with_reducible refine po_iff ?_ ?_; · omega) | (with_reducible refine po_crs ?_) | (with_reducible refine po_cls ?_) | (with_reducible refine po_cre (ev_inF ?_) ?_; (· omega))))
            exact po_some rfl
          · (repeat (first | (with_reducible refine po_gd ?_ ?_; · omega) | (with_reducible refine po_bnd ?_) | (with_reducible refine po_ift ?_ ?_; · omega) | (with_reducible refine po_iff ?_ ?_; · omega) | (with_reducible refine po_crs ?_) | (with_reducible refine po_cls ?_)))
            exact po_some rfl
    · have r1 : sRow 0 3 = 0 := rfl
      have r2 : sRow 1 3 = 6 := rfl
      by_cases g2 : 0 ≤ v ∧ v ≤ 6
      · refine ⟨H.1 1 2 0, hS H 1 2 0 v, po_eq ?_, by omega, Or.inr ⟨by omega, fun m1 hr => ⟨mS m1 0 12 v, po_eq ?_, (h.rec hr).sc (by omega) ?_, (keptEq.rf m1).s (by decide)⟩⟩⟩
        · unfold fX2_replaceSetting fX2_settingOf
          rw [r1, r2]
          (repeat (first | (with_reducible refine po_gd ?_ ?_; · omega) | (with_reducible refine po_bnd ?_) | (with_reducible refine po_ift ?_ ?_; · omega) | (with_reducible refine po_iff ?_ ?_; · omega) | (with_reducible refine po_crs ?_) | (with_reducible refine po_cls ?_) | (with_reducible refine po_cre (ev_btT ?_) ?_; (· omega)) | (with_reducible refine po_crn ?_) | (with_reducible refine po_sk ?_)))
          exact po_some rfl
        · have hr1 := hr.1
          unfold fX7_set fX7_isSetting
          refine po_cre (v := 1) (po_eq ?_) ?_
          · (repeat (first | (with_reducible refine po_gd ?_ ?_; · omega) | (with_reducible refine po_bnd ?_) | (with_reducible refine po_ift ?_ ?_; · omega) | (with_reducible refine po_iff ?_ ?_; · omega) | (with_reducible refine po_crs ?_) | (with_reducible refine po_cls ?_) | (with_reducible refine po_cre (ev_inT ?_) ?_; (· omega))))
            exact po_some rfl
          · (repeat (first | (with_reducible refine po_gd ?_ ?_; · omega) | (with_reducible refine po_bnd ?_) | (with_reducible refine po_ift ?_ ?_; · omega) | (with_reducible refine po_iff ?_ ?_; · omega) | (with_reducible refine po_crs ?_) | (with_reducible refine po_cls ?_) | (with_reducible refine po_cle hr1 ?_) | (with_reducible refine po_cre (ev_of ?_) ?_; (· omega))))
            refine po_some ?_
            rw [hr.2.1, show (9 : Int) + 3 = 12 from rfl, q10]
        · unfold okS
          rw [hS_p, hS_n H (by decide), hS_n H (by decide), hS_n H (by decide), hS_n H (by decide), hS_n H (by decide)]
          omega
      · refine callErr (r := -2) (by decide) (po_eq ?_) (po_eq ?_)
        · unfold fX2_replaceSetting
          rw [r1, r2]
          (repeat (first | (with_reducible refine po_gd ?_ ?_; · omega) | (with_reducible refine po_bnd ?_) | (with_reducible refine po_ift ?_ ?_; · omega) | (with_reducible refine po_iff ?_ ?_; · omega) | (with_reducible refine po_crs ?_) | (with_reducible refine po_cls ?_) | (with_reducible refine po_cre (ev_btT ?_) ?_; (· omega)) | (with_reducible refine po_cre (ev_btF ?_) ?_; (· omega))))
          exact po_some rfl
        · unfold fX7_set fX7_isSetting
          refine po_cre (v := 0) (po_eq ?_) ?_
          · (repeat (first | (with_reducible refine po_gd ?_ ?_; · omega) | (with_reducible refine po_bnd ?_) | (with_reducible refine po_ift ?_ ?_; · omega) | (with_reducible refine po_iff ?_ ?_; · omega) | (with_reducible refine po_crs ?_) | (with_reducible refine po_cls ?_) | (with_reducible refine po_cre (ev_inF ?_) ?_; (· omega))))
            exact po_some rfl
          · (repeat (first | (with_reducible refine po_gd ?_ ?_; · omega) | (with_reducible refine po_bnd ?_) | (with_reducible refine po_ift ?_ ?_; · omega) | (with_reducible refine po_iff ?_ ?_; · omega) | (with_reducible refine po_crs ?_) | (with_reducible refine po_cls ?_)))
            exact po_some rfl
  · refine callErr (r := -2) (by decide) (po_eq ?_) (po_eq ?_)
    · unfold fX2_replaceSetting
      (repeat (first | (with_reducible refine po_gd ?_ ?_; · omega) | (with_reducible refine po_bnd ?_) | (with_reducible refine po_ift ?_ ?_; · omega) | (with_reducible refine po_iff ?_ ?_; · omega) | (with_reducible refine po_crs ?_) | (with_reducible refine po_cls ?_) | (with_reducible refine po_cre (ev_btF ?_) ?_; (· omega))))
      exact po_some rfl
    · unfold fX7_set fX7_isSetting
      refine po_cre (v := 0) (po_eq ?_) ?_
      · (repeat (first | (with_reducible refine po_gd ?_ ?_; · omega) | (with_reducible refine po_bnd ?_) | (with_reducible refine po_ift ?_ ?_; · omega) | (with_reducible refine po_iff ?_ ?_; · omega) | (with_reducible refine po_crs ?_) | (with_reducible refine po_cls ?_)))
        exact po_some rfl
      · (repeat (first | (with_reducible refine po_gd ?_ ?_; · omega) | (with_reducible refine po_bnd ?_) | (with_reducible refine po_ift ?_ ?_; · omega) | (with_reducible refine po_iff ?_ ?_; · omega) | (with_reducible refine po_crs ?_) | (with_reducible refine po_cls ?_)))
        exact po_some rfl

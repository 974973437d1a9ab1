/-! ===== holidays in step ===== -/
/-- what no part of Ok reads -/
theorem Ok.fr {T T' : Int} {H H' : hR} (h : Ok T H) (hT : T ≤ T') (hH : ∀ t x y : Int, ¬ t = 6 → ¬ (t = 1 ∧ x = 1) → ¬ (t = 0 ∧ x = 11) → ¬ (t = 3 ∧ (y = 17 ∨ y = 18 ∨ y = 19)) → H'.1 t x y = H.1 t x y) (hD : H'.2 = H.2) : Ok T' H' := by
  have g : ∀ t x y : Int, (t = 0 ∧ ¬ x = 11) ∨ (t = 1 ∧ x = 2) ∨ t = 2 ∨ (t = 3 ∧ y ≤ 16) ∨ t = 4 ∨ t = 5 → H'.1 t x y = H.1 t x y := fun t x y q => hH t x y (by omega) (by omega) (by omega) (by omega)
  obtain ⟨k1, k2, k3, k4, k5, k6, k7, k8⟩ := h
  exact ⟨k1.fr (g _ _ _ (by omega)) (g _ _ _ (by omega)) (g _ _ _ (by omega)) (g _ _ _ (by omega)), k2.fr (fun t x q => g _ _ _ (by omega)), k3.fr (g _ _ _ (by omega)) (fun a f q => g _ _ _ (by omega)), k4.fr (g _ _ _ (by omega)) (g _ _ _ (by omega)) (fun o f q => g _ _ _ (by omega)), k5.fr (g _ _ _ (by omega)) (g _ _ _ (by omega)) (fun c i q => g _ _ _ (by omega)), k6.fr k1 (g _ _ _ (by omega)) (g _ _ _ (by omega)) (g _ _ _ (by omega)) (fun c i q => g _ _ _ (by omega)) (fun a => g _ _ _ (by omega)) (fun o => ⟨g _ _ _ (by omega), g _ _ _ (by omega)⟩), k7.fr hT (g _ _ _ (by omega)) (g _ _ _ (by omega)) (fun a f q => g _ _ _ (by omega)), k8.fr (g _ _ _ (by omega)) (g _ _ _ (by omega)) (fun a => g _ _ _ (by omega)) hD⟩
def flipH (H : hR) (d : Int) : hR := hS H 6 (shrI d 6) 0 (lxorI (H.1 6 (shrI d 6) 0) (lshlI 1 (andI d 63)))
theorem holB_flip {H : hR} {d e : Int} (hd : 0 ≤ d ∧ d ≤ 1094) (he : 0 ≤ e ∧ e ≤ 1094) : holB (flipH H d) e = if e = d then !holB H e else holB H e := by
  unfold holB flipH
  rw [shrI6 (by omega), andI63 (by omega), hS_1]
  obtain ⟨k, h1, h2⟩ := toN (n := 64) (d := d % 64) (by omega)
  obtain ⟨j, h3, h4⟩ := toN (n := 64) (d := e % 64) (by omega)
  by_cases g : e / 64 = d / 64
  · rw [if_pos ⟨rfl, g, rfl⟩, h2, h4, bitL_xor _ _ _ (by omega) (by omega), g]
    by_cases q : e = d
    · rw [if_pos q, if_pos (by omega)]
    · rw [if_neg q, if_neg (by omega)]
  · rw [if_neg (fun q => g q.2.1), if_neg (fun q => g (by rw [q]))]
theorem em_unmark {d : Int} (hd : 0 ≤ d ∧ d ≤ 1094) : ∀ (n fuel : Nat) (k : Int) (m : mR), k + n = m.1 0 3 → 0 ≤ k → 0 ≤ m.1 0 3 ∧ m.1 0 3 ≤ 19 → (∀ j : Int, 13 ≤ j ∧ j ≤ 13 + m.1 0 3 → wR (m.1 0 j)) → n < fuel → po (fX7_holiday_b113 fuel d k m) (fun p => p.1 = m.1 0 3 ∧ (∀ j : Int, p.2.1 0 j = if (13 + k ≤ j ∧ j < 13 + m.1 0 3) ∧ m.1 0 j = d then m.1 0 (13 + m.1 0 3) else m.1 0 j) ∧ p.2.1 1 = m.1 1 ∧ p.2.2 = m.2 ∧ keptEq m p.2)
  | n, 0, k, m, _, _, _, _, h => by omega
  | 0, fuel + 1, k, m, h1, h2, h3, h4, _ => by
    unfold fX7_holiday_b113 fX7_holiday_b184
    refine po_gd (by omega) (po_gd (by omega) (po_ift (by omega) (po_cre (ev_of (by decide)) (po_some ⟨rfl, fun j => ?_, rfl, rfl, keptEq.rf m⟩))))
    rw [if_neg (by omega)]
  | n + 1, fuel + 1, k, m, h1, h2, h3, h4, h5 => by
    have hw := h4 (13 + k) (by omega)
    have key : ∀ v : Int, wR v → (m.1 0 (13 + k) = d → v = m.1 0 (13 + m.1 0 3)) → (¬ m.1 0 (13 + k) = d → v = m.1 0 (13 + k)) → po (fX7_holiday_b113 fuel d (k + 1) (mS m 0 (13 + k) v)) (fun p => p.1 = m.1 0 3 ∧ (∀ j : Int, p.2.1 0 j = if (13 + k ≤ j ∧ j < 13 + m.1 0 3) ∧ m.1 0 j = d then m.1 0 (13 + m.1 0 3) else m.1 0 j) ∧ p.2.1 1 = m.1 1 ∧ p.2.2 = m.2 ∧ keptEq m p.2) := by
      intro v hv v1 v2
      have e3 : (mS m 0 (13 + k) v).1 0 3 = m.1 0 3 := mS_n m (by omega)
      have el : (mS m 0 (13 + k) v).1 0 (13 + m.1 0 3) = m.1 0 (13 + m.1 0 3) := mS_n m (by omega)
      refine (em_unmark hd n fuel (k + 1) (mS m 0 (13 + k) v) (by rw [e3]; omega) (by omega) (by rw [e3]; exact h3) (fun j hj => ?_) (by omega)).mono (fun p hp => ?_)
      · rw [e3] at hj
        rw [mS_0]
        unfold up1
        split
        · exact hv
        · exact h4 j hj
      · obtain ⟨p1, p2, p3, p4, p5⟩ := hp
        rw [e3] at p1 p2
        rw [el] at p2
        refine ⟨p1, fun j => ?_, p3.trans (mS_t m _ _ (by decide)), p4, ((keptEq.rf m).s (by decide)).tr p5⟩
        rw [p2 j, mS_0]
        unfold up1
        by_cases q : j = 13 + k
        · subst q
          rw [if_pos rfl, if_neg (by omega)]
          by_cases q2 : m.1 0 (13 + k) = d
          · rw [if_pos ⟨by omega, q2⟩, v1 q2]
          · rw [if_neg (fun x => q2 x.2), v2 q2]
        · rw [if_neg q]
          by_cases q2 : (13 + (k + 1) ≤ j ∧ j < 13 + m.1 0 3) ∧ m.1 0 j = d
          · rw [if_pos q2, if_pos (by omega)]
          · rw [if_neg q2, if_neg (by omega)]
    unfold fX7_holiday_b113
    refine po_gd (by omega) (po_gd (by omega) (po_iff (by omega) (po_gd (by omega) (po_gd (by omega) (po_gd (by omega) (po_if (fun g => ?_) (fun g => ?_)))))))
    · exact po_cre (ev_of (by decide)) (po_gd (by omega) (po_gd (by omega) (po_bnd (key _ (h4 _ (by omega)) (fun _ => rfl) (fun q => absurd g q)))))
    · exact po_gd (by omega) (po_gd (by omega) (po_bnd (key _ hw (fun q => absurd q g) (fun _ => rfl))))
/-- the calendar's numbers on both sides, the rest the same -/
theorem Cor.cal {H H' : hR} {m m' : mR} (h : CorM H m) (hk : okN H) (hH : ∀ t x y : Int, ¬ t = 6 → ¬ (t = 1 ∧ x = 1) → H'.1 t x y = H.1 t x y) (hD : H'.2 = H.2) (hN : ∀ j : Int, ¬ j = 3 → ¬ (13 ≤ j ∧ j ≤ 32) → m'.1 0 j = m.1 0 j) (hW : m'.1 1 = m.1 1) (hO : m'.2 = m.2) (h3 : m'.1 0 3 = H'.1 1 1 0) (hh : corH H' (m'.1 0)) : CorM H' m' := by
  obtain ⟨h1, h2, h3', h4, h5⟩ := h
  have e1 := h1.2.1
  have e2 := h1.2.2.1
  unfold okN at hk
  obtain ⟨g1, g2, g3, g4, g5, g6, g7, g8, g9, g10⟩ := h1
  refine ⟨⟨?_, ?_, ?_, h3, ?_, ?_, ?_, ?_, ?_, ?_⟩, hh, h3'.fr (fun a f q => hH _ _ _ (by omega) (by omega)) (fun a => by rw [hD]) (fun k q => hN _ (by omega) (by omega)) (fun a => by rw [hO]) (by omega), h4.fr (fun o f q => hH _ _ _ (by omega) (by omega)) (fun k q => hN _ (by omega) (by omega)) (by omega), ?_⟩
  all_goals first
    | (rw [hN _ (by decide) (by decide), hH _ _ _ (by decide) (by decide)]; assumption)
    | (rw [hN _ (by decide) (by decide), hW]; exact h5.fr (fun c i q => hH _ _ _ (by omega) (by omega)) (fun i q => rfl) (Int.le_refl _))
theorem ls_holiday {T : Int} {H : hR} {m : mR} (h : Sim T H m) {d s : Int} (hd : wR d) (hs : wR s) : callOK T H m (fX1_mark d s H) (fX7_holiday d s m) := by
  have k1 := h.2.2.1
  obtain ⟨hh1, hh2, hh3, hh4⟩ := h.1.2.1.1
  have q4 := h.1.1.2.2.2.1
  by_cases g1 : 0 ≤ d ∧ d ≤ 1094
  · have hD1 : fX7_isDay d = some 1 := by
      unfold fX7_isDay
      rw [gd_pos hd, ev_inT (by omega), cr_some, gd_pos (by decide)]
    by_cases g2 : 0 ≤ s ∧ s ≤ 1
    · have hol1 := ec_isHol (H := H) g1
      have hol2 : ∀ m1, m1.1 0 = m.1 0 → fX7_isHoliday d m1 = some (bI (holB H d)) := fun m1 e => by
        rw [em_isHol hd (by rw [e]; exact h.1.2.1.1), e, h.1.2.1.2 d g1]
      have hr := bI_rng (holB H d)
      have hbit : 0 ≤ shrI d 6 ∧ shrI d 6 < 18 := by rw [shrI6 (by omega)]; omega
      have same : (s = 1 ∧ holB H d = true) ∨ (s = 0 ∧ holB H d = false) → callOK T H m (fX1_mark d s H) (fX7_holiday d s m) := by
        intro hc
        refine ⟨H.1 1 1 0, H, po_eq ?_, by omega, Or.inr ⟨by omega, fun m1 hr' => ⟨m1, po_eq ?_, ⟨(h.rec hr').1, (h.rec hr').2.1, (h.rec hr').2.2.mono (by omega)⟩, keptEq.rf m1⟩⟩⟩
        · unfold fX1_mark fX1_mark_b38
          rcases hc with ⟨rfl, hb⟩ | ⟨rfl, hb⟩
          · rw [hb, bI_t rfl] at hol1
            (repeat (first | (with_reducible refine po_gd ?_ ?_; · omega) | (with_reducible refine po_bnd ?_) | (with_reducible refine po_ift ?_ ?_; · omega) | (with_reducible refine po_iff ?_ ?_; · omega) | (with_reducible refine po_crs ?_) | (with_reducible refine po_cls ?_) | (with_reducible refine po_cre (ev_btT ?_) ?_; (· omega)) | (with_reducible refine po_cre hol1 ?_)))
            exact po_some rfl
          · rw [hb, bI_f rfl] at hol1
            (repeat (first | (with_reducible refine po_gd ?_ ?_; · omega) | (with_reducible refine po_bnd ?_) | (with_reducible refine po_ift ?_ ?_; · omega) | (with_reducible refine po_iff ?_ ?_; · omega) | (with_reducible refine po_crs ?_) | (with_reducible refine po_cls ?_) | (with_reducible refine po_cre (ev_btT ?_) ?_; (· omega)) | (with_reducible refine po_cre hol1 ?_)))
            exact po_some rfl
        · have hr1 := hr'.1
          have hol := hol2 m rfl
          have e3 : m1.1 0 3 = H.1 1 1 0 := by rw [hr'.2.1, q4]
          unfold fX7_holiday fX7_holiday_b51 fX7_holiday_b92 fX7_holiday_b184
          rcases hc with ⟨rfl, hb⟩ | ⟨rfl, hb⟩
          · rw [hb, bI_t rfl] at hol
            (repeat (first | (with_reducible refine po_gd ?_ ?_; · omega) | (with_reducible refine po_bnd ?_) | (with_reducible refine po_ift ?_ ?_; · omega) | (with_reducible refine po_iff ?_ ?_; · omega) | (with_reducible refine po_crs ?_) | (with_reducible refine po_cls ?_) | (with_reducible refine po_cre hD1 ?_) | (with_reducible refine po_cre (ev_inT ?_) ?_; (· omega)) | (with_reducible refine po_cre hol ?_) | (with_reducible refine po_cle hr1 ?_) | (with_reducible refine po_cre (ev_of ?_) ?_; (· omega))))
            rw [e3]
            exact po_some rfl
          · rw [hb, bI_f rfl] at hol
            (repeat (first | (with_reducible refine po_gd ?_ ?_; · omega) | (with_reducible refine po_bnd ?_) | (with_reducible refine po_ift ?_ ?_; · omega) | (with_reducible refine po_iff ?_ ?_; · omega) | (with_reducible refine po_crs ?_) | (with_reducible refine po_cls ?_) | (with_reducible refine po_cre hD1 ?_) | (with_reducible refine po_cre (ev_inT ?_) ?_; (· omega)) | (with_reducible refine po_cre hol ?_) | (with_reducible refine po_cle hr1 ?_) | (with_reducible refine po_cre (ev_of ?_) ?_; (· omega))))
            rw [e3]
            exact po_some rfl
      have flip : ∀ v : Int, wR v → 0 ≤ v → (∀ m1, recOf m m1 → ∃ m', fX7_holiday d s m = some (v, m') ∧ (∀ j : Int, ¬ j = 3 → ¬ (13 ≤ j ∧ j ≤ 32) → m'.1 0 j = m1.1 0 j) ∧ m'.1 1 = m1.1 1 ∧ m'.2 = m1.2 ∧ keptEq m1 m' ∧ m'.1 0 3 = v ∧ holOK (m'.1 0) ∧ ∀ e : Int, 0 ≤ e ∧ e ≤ 1094 → holN (m'.1 0) v.toNat e = if e = d then !holB H e else holB H e) → fX1_mark d s H = some (v, hS (flipH H d) 1 1 0 v) → callOK T H m (fX1_mark d s H) (fX7_holiday d s m) := by
        intro v hv hv0 hm hc
        refine ⟨v, _, hc, hv, Or.inr ⟨by omega, fun m1 hr' => ?_⟩⟩
        obtain ⟨m', f1, f2, f3, f4, f5, f6, f7, f8⟩ := hm m1 hr'
        have hs' := h.rec hr'
        have hx : ∀ t x y : Int, ¬ t = 6 → ¬ (t = 1 ∧ x = 1) → (hS (flipH H d) 1 1 0 v).1 t x y = H.1 t x y := fun t x y a b => by
          unfold flipH
          rw [hS_n _ (by omega), hS_n _ (by omega)]
        refine ⟨m', f1, ⟨hs'.1.cal k1 hx rfl f2 f3 f4 (by rw [hS_p]; exact f6) ⟨f7, fun e he => ?_⟩, hs'.2.1.fr (hx _ _ _ (by decide) (by decide)) (fun o f q => hx _ _ _ (by omega) (by omega)) (fun k q => f2 _ (by omega) (by omega)), h.2.2.fr (by omega) (fun t x y a b _ _ => hx t x y a b) rfl⟩, f5⟩
        rw [f6, f8 e he, ← holB_flip g1 he]
        unfold holB
        rw [hS_n _ (by omega)]
      by_cases gs : s = 1
      · subst gs
        cases hb : holB H d
        · rw [hb, bI_f rfl] at hol1
          by_cases g3 : H.1 1 1 0 < 20
          · refine flip (H.1 1 1 0 + 1) (by omega) (by omega) (fun m1 hr' => ?_) (po_eq ?_)
            · have e3 : m1.1 0 3 = H.1 1 1 0 := by rw [hr'.2.1, q4]
              have ek : ∀ k : Int, (mS (mS m1 0 (13 + H.1 1 1 0) d) 0 3 (H.1 1 1 0 + 1)).1 0 k = if k = 3 then H.1 1 1 0 + 1 else if k = 13 + H.1 1 1 0 then d else m.1 0 k := fun k => by
                rw [mS_0, mS_0, hr'.2.1]
                rfl
              have hnot : ∀ k : Int, 0 ≤ k → k < H.1 1 1 0 → ¬ m.1 0 (13 + k) = d := fun k a b e => by
                have := h.1.2.1.2 d g1
                rw [hb, q4] at this
                have h2 : holN (m.1 0) (H.1 1 1 0).toNat d = true := (holN_iff _).mpr ⟨k.toNat, by omega, by rw [show ((k.toNat : Nat) : Int) = k by omega]; exact e⟩
                rw [this] at h2
                cases h2
              refine ⟨mS (mS m1 0 (13 + H.1 1 1 0) d) 0 3 (H.1 1 1 0 + 1), po_eq ?_, fun j a b => ?_, ?_, rfl, ((keptEq.rf m1).s (by decide)).s (by decide), ?_, ?_, fun e he => ?_⟩
              · have hr1 := hr'.1
                have hol := hol2 m rfl
                rw [hb, bI_f rfl] at hol
                have e4 : (mS m1 0 (13 + H.1 1 1 0) d).1 0 3 = H.1 1 1 0 := by rw [mS_n _ (by omega), e3]
                unfold fX7_holiday fX7_holiday_b51 fX7_holiday_b184
                (repeat (first | (with_reducible refine po_gd ?_ ?_; · omega) | (with_reducible refine po_bnd ?_) | (with_reducible refine po_ift ?_ ?_; · omega) | (with_reducible refine po_iff ?_ ?_; · omega) | (with_reducible refine po_crs ?_) | (with_reducible refine po_cls ?_) | (with_reducible refine po_cre hD1 ?_) | (with_reducible refine po_cre (ev_inT ?_) ?_; (· omega)) | (with_reducible refine po_cre hol ?_) | (with_reducible refine po_cle hr1 ?_) | (with_reducible refine po_cre (ev_of ?_) ?_; (· omega))))
                rw [e3]
                (repeat (first | (with_reducible refine po_gd ?_ ?_; · omega) | (with_reducible refine po_bnd ?_) | (with_reducible refine po_ift ?_ ?_; · omega) | (with_reducible refine po_iff ?_ ?_; · omega) | (with_reducible refine po_crs ?_) | (with_reducible refine po_cls ?_)))
                rw [e4]
                (repeat (first | (with_reducible refine po_gd ?_ ?_; · omega) | (with_reducible refine po_bnd ?_) | (with_reducible refine po_ift ?_ ?_; · omega) | (with_reducible refine po_iff ?_ ?_; · omega) | (with_reducible refine po_crs ?_) | (with_reducible refine po_cls ?_) | (with_reducible refine po_cre (ev_of ?_) ?_; (· omega))))
                rw [mS_p]
                exact po_some rfl
              · rw [mS_n _ (by omega), mS_n _ (by omega)]
              · rw [mS_t _ _ _ (by decide), mS_t _ _ _ (by decide)]
              · rw [mS_p]
              · refine ⟨by rw [ek, if_pos rfl]; omega, by rw [ek, if_pos rfl]; omega, fun k a b => ?_, fun i j a b c e q => ?_⟩
                · rw [ek, if_pos rfl] at b
                  rw [ek, if_neg (by omega)]
                  by_cases q : k = H.1 1 1 0
                  · rw [if_pos (by omega)]; exact g1
                  · rw [if_neg (by omega)]; exact hh3 k a (by omega)
                · rw [ek, if_pos rfl] at b e
                  rw [ek, ek, if_neg (by omega), if_neg (show ¬ 13 + j = 3 by omega)] at q
                  by_cases qi : i = H.1 1 1 0
                  · by_cases qj : j = H.1 1 1 0
                    · omega
                    · rw [if_pos (by omega), if_neg (by omega)] at q
                      exact absurd q.symm (hnot j c (by omega))
                  · by_cases qj : j = H.1 1 1 0
                    · rw [if_neg (by omega), if_pos (by omega)] at q
                      exact absurd q (hnot i a (by omega))
                    · rw [if_neg (by omega), if_neg (by omega)] at q
                      exact hh4 i j a (by omega) c (by omega) q
              · rw [show (H.1 1 1 0 + 1).toNat = (H.1 1 1 0).toNat + 1 by omega]
                show (holN _ (H.1 1 1 0).toNat e || decide _) = _
                rw [ek, if_neg (by omega), if_pos (by omega)]
                have : holN ((mS (mS m1 0 (13 + H.1 1 1 0) d) 0 3 (H.1 1 1 0 + 1)).1 0) (H.1 1 1 0).toNat e = holB H e := by
                  rw [← h.1.2.1.2 e he, q4]
                  have hc : ∀ n : Nat, (n : Int) ≤ H.1 1 1 0 → holN ((mS (mS m1 0 (13 + H.1 1 1 0) d) 0 3 (H.1 1 1 0 + 1)).1 0) n e = holN (m.1 0) n e := by
                    intro n
                    induction n with
                    | zero => intro _; rfl
                    | succ n ih =>
                      intro hn
                      unfold holN
                      rw [ih (by omega), ek, if_neg (by omega), if_neg (by omega)]
                  exact hc _ (by omega)
                rw [this]
                by_cases q : e = d
                · rw [if_pos q, decide_eq_true q.symm, q, hb]
                  rfl
                · rw [if_neg q, decide_eq_false (fun x => q x.symm), Bool.or_false]
            · unfold fX1_mark fX1_mark_b38 fX1_mark_b63 fX1_mark_b96
              (repeat (first | (with_reducible refine po_gd ?_ ?_; · omega) | (with_reducible refine po_bnd ?_) | (with_reducible refine po_ift ?_ ?_; · omega) | (with_reducible refine po_iff ?_ ?_; · omega) | (with_reducible refine po_crs ?_) | (with_reducible refine po_cls ?_) | (with_reducible refine po_cre (ev_btT ?_) ?_; (· omega)) | (with_reducible refine po_cre hol1 ?_)))
              rw [show (hS H 6 (shrI d 6) 0 (lxorI (H.1 6 (shrI d 6) 0) (lshlI 1 (andI d 63)))) = flipH H d from rfl]
              refine po_some ?_
              rw [hS_p, show (flipH H d).1 1 1 0 = H.1 1 1 0 from hS_n H (by omega)]
          · refine callErr (r := -4) (by decide) (po_eq ?_) (po_eq ?_)
            · unfold fX1_mark fX1_mark_b38
              (repeat (first | (with_reducible refine po_gd ?_ ?_; · omega) | (with_reducible refine po_bnd ?_) | (with_reducible refine po_ift ?_ ?_; · omega) | (with_reducible refine po_iff ?_ ?_; · omega) | (with_reducible refine po_crs ?_) | (with_reducible refine po_cls ?_) | (with_reducible refine po_cre (ev_btT ?_) ?_; (· omega)) | (with_reducible refine po_cre hol1 ?_)))
              exact po_some rfl
            · have hol := hol2 m rfl
              rw [hb, bI_f rfl] at hol
              unfold fX7_holiday
              (repeat (first | (with_reducible refine po_gd ?_ ?_; · omega) | (with_reducible refine po_bnd ?_) | (with_reducible refine po_ift ?_ ?_; · omega) | (with_reducible refine po_iff ?_ ?_; · omega) | (with_reducible refine po_crs ?_) | (with_reducible refine po_cls ?_) | (with_reducible refine po_cre hD1 ?_) | (with_reducible refine po_cre (ev_inT ?_) ?_; (· omega)) | (with_reducible refine po_cre hol ?_)))
              exact po_some rfl
        · exact same (Or.inl ⟨rfl, hb⟩)
      · have gs : s = 0 := by omega
        subst gs
        cases hb : holB H d
        · exact same (Or.inr ⟨rfl, hb⟩)
        · rw [hb, bI_t rfl] at hol1
          have hex := h.1.2.1.2 d g1
          rw [hb, q4] at hex
          obtain ⟨k0, hk0, hk1⟩ := (holN_iff _).mp hex
          refine flip (H.1 1 1 0 - 1) (by omega) (by omega) (fun m1 hr' => ?_) (po_eq ?_)
          · have e3 : m1.1 0 3 = H.1 1 1 0 := by rw [hr'.2.1, q4]
            have ek : ∀ k : Int, (mS m1 0 3 (H.1 1 1 0 - 1)).1 0 k = if k = 3 then H.1 1 1 0 - 1 else m.1 0 k := fun k => by
              rw [mS_0, hr'.2.1]
              rfl
            have e33 : (mS m1 0 3 (H.1 1 1 0 - 1)).1 0 3 = H.1 1 1 0 - 1 := mS_p _ _ _ _
            obtain ⟨p, f1, f2, f3, f4, f5, f6⟩ := em_unmark g1 (H.1 1 1 0 - 1).toNat fuel0 0 (mS m1 0 3 (H.1 1 1 0 - 1)) (by rw [e33]; omega) (by decide) (by rw [e33]; omega) (fun j hj => by
              rw [e33] at hj
              rw [ek, if_neg (by omega)]
              have := hh3 (j - 13) (by omega) (by omega)
              rw [show 13 + (j - 13) = j by omega] at this
              omega) (by show _ < 1000000; omega)
            rw [e33] at f2 f3
            have rd : ∀ j : Int, p.2.1 0 j = if j = 3 then H.1 1 1 0 - 1 else if (13 ≤ j ∧ j < 13 + (H.1 1 1 0 - 1)) ∧ m.1 0 j = d then m.1 0 (13 + (H.1 1 1 0 - 1)) else m.1 0 j := by
              intro j
              rw [f3, ek, ek]
              by_cases c1 : j = 3
              · rw [if_pos c1, if_pos c1, if_neg (by omega)]
              · rw [if_neg c1, if_neg c1, if_neg (show ¬ 13 + (H.1 1 1 0 - 1) = 3 by omega)]
                by_cases c2 : (13 ≤ j ∧ j < 13 + (H.1 1 1 0 - 1)) ∧ m.1 0 j = d
                · rw [if_pos c2, if_pos (by omega)]
                · rw [if_neg c2, if_neg (by omega)]
            have rk : ∀ k : Int, 0 ≤ k → k < H.1 1 1 0 - 1 → p.2.1 0 (13 + k) = if m.1 0 (13 + k) = d then m.1 0 (13 + (H.1 1 1 0 - 1)) else m.1 0 (13 + k) := fun k a b => by
              rw [rd, if_neg (by omega)]
              by_cases c : m.1 0 (13 + k) = d
              · rw [if_pos c, if_pos (by omega)]
              · rw [if_neg c, if_neg (by omega)]
            have hl : ¬ m.1 0 (13 + (H.1 1 1 0 - 1)) = d ∨ H.1 1 1 0 - 1 = k0 := by
              by_cases c : m.1 0 (13 + (H.1 1 1 0 - 1)) = d
              · exact Or.inr (hh4 _ _ (by omega) (by omega) (by omega) (by omega) (c.trans hk1.symm))
              · exact Or.inl c
            refine ⟨p.2, po_eq ?_, fun j a b => ?_, ?_, ?_, ((keptEq.rf m1).s (by decide)).tr f6, ?_, ?_, fun e he => ?_⟩
            · have hr1 := hr'.1
              have hol := hol2 m rfl
              rw [hb, bI_t rfl] at hol
              unfold fX7_holiday fX7_holiday_b51 fX7_holiday_b92
              (repeat (first | (with_reducible refine po_gd ?_ ?_; · omega) | (with_reducible refine po_bnd ?_) | (with_reducible refine po_ift ?_ ?_; · omega) | (with_reducible refine po_iff ?_ ?_; · omega) | (with_reducible refine po_crs ?_) | (with_reducible refine po_cls ?_) | (with_reducible refine po_cre hD1 ?_) | (with_reducible refine po_cre (ev_inT ?_) ?_; (· omega)) | (with_reducible refine po_cre hol ?_) | (with_reducible refine po_cle hr1 ?_)))
              rw [e3]
              refine po_of f1 ?_
              rw [← f2]
            · rw [rd, if_neg a, if_neg (by omega), hr'.2.1]
            · rw [f4, mS_t _ _ _ (by decide)]
            · rw [f5, mS_2]
            · rw [rd, if_pos rfl]
            · refine ⟨by rw [rd, if_pos rfl]; omega, by rw [rd, if_pos rfl]; omega, fun k a b => ?_, fun i j a b c e q => ?_⟩
              · rw [rd, if_pos rfl] at b
                rw [rk k a b]
                split
                · exact hh3 _ (by omega) (by omega)
                · exact hh3 k a (by omega)
              · rw [rd, if_pos rfl] at b e
                rw [rk i a b, rk j c e] at q
                by_cases ci : m.1 0 (13 + i) = d
                · by_cases cj : m.1 0 (13 + j) = d
                  · exact hh4 i j a (by omega) c (by omega) (ci.trans cj.symm)
                  · rw [if_pos ci, if_neg cj] at q
                    have := hh4 _ j (by omega) (by omega) c (by omega) q
                    omega
                · by_cases cj : m.1 0 (13 + j) = d
                  · rw [if_neg ci, if_pos cj] at q
                    have := hh4 i _ a (by omega) (by omega) (by omega) q
                    omega
                  · rw [if_neg ci, if_neg cj] at q
                    exact hh4 i j a (by omega) c (by omega) q
            · have hB := h.1.2.1.2 e he
              rw [q4] at hB
              have hiff : holN (p.2.1 0) (H.1 1 1 0 - 1).toNat e = true ↔ (¬ e = d ∧ holB H e = true) := by
                rw [← hB, holN_iff, holN_iff]
                constructor
                · rintro ⟨k, a, b⟩
                  rw [rk k (by omega) (by omega)] at b
                  by_cases c : m.1 0 (13 + (k : Int)) = d
                  · rw [if_pos c] at b
                    have c2 := hh4 k k0 (by omega) (by omega) (by omega) (by omega) (c.trans hk1.symm)
                    refine ⟨fun x => ?_, (H.1 1 1 0 - 1).toNat, by omega, by rw [show (((H.1 1 1 0 - 1).toNat : Nat) : Int) = H.1 1 1 0 - 1 by omega]; exact b⟩
                    rcases hl with hl | hl
                    · exact hl (b.trans x)
                    · omega
                  · rw [if_neg c] at b
                    exact ⟨fun x => c (b.trans x), k, by omega, b⟩
                · rintro ⟨a, k, b, c⟩
                  by_cases ck : (k : Int) < H.1 1 1 0 - 1
                  · refine ⟨k, by omega, ?_⟩
                    rw [rk k (by omega) ck, if_neg (fun x => a (c.symm.trans x))]
                    exact c
                  · have ck2 : (k : Int) = H.1 1 1 0 - 1 := by omega
                    have : ¬ (k0 : Int) = k := fun x => by
                      rw [x] at hk1
                      exact a (c.symm.trans hk1)
                    refine ⟨k0, by omega, ?_⟩
                    rw [rk k0 (by omega) (by omega), if_pos hk1, ← ck2]
                    exact c
              by_cases ce : e = d
              · rw [if_pos ce]
                cases hc : holN (p.2.1 0) (H.1 1 1 0 - 1).toNat e
                · rw [ce, hb]; rfl
                · exact absurd ce (hiff.mp hc).1
              · rw [if_neg ce]
                cases hc : holN (p.2.1 0) (H.1 1 1 0 - 1).toNat e
                · cases hd2 : holB H e
                  · rfl
                  · rw [hiff.mpr ⟨ce, hd2⟩] at hc; cases hc
                · exact ((hiff.mp hc).2).symm
          · unfold fX1_mark fX1_mark_b38 fX1_mark_b63 fX1_mark_b96
            (repeat (first | (with_reducible refine po_gd ?_ ?_; · omega) | (with_reducible refine po_bnd ?_) | (with_reducible refine po_ift ?_ ?_; · omega) | (with_reducible refine po_iff ?_ ?_; · omega) | (with_reducible refine po_crs ?_) | (with_reducible refine po_cls ?_) | (with_reducible refine po_cre (ev_btT ?_) ?_; (· omega)) | (with_reducible refine po_cre hol1 ?_)))
            rw [show (hS H 6 (shrI d 6) 0 (lxorI (H.1 6 (shrI d 6) 0) (lshlI 1 (andI d 63)))) = flipH H d from rfl]
            refine po_some ?_
            rw [hS_p, show (flipH H d).1 1 1 0 = H.1 1 1 0 from hS_n H (by omega)]
            rfl
    · refine callErr (r := -2) (by decide) (po_eq ?_) (po_eq ?_)
      · unfold fX1_mark
        (repeat (first | (with_reducible refine po_gd ?_ ?_; · omega) | (with_reducible refine po_bnd ?_) | (with_reducible refine po_ift ?_ ?_; · omega) | (with_reducible refine po_iff ?_ ?_; · omega) | (with_reducible refine po_crs ?_) | (with_reducible refine po_cls ?_) | (with_reducible refine po_cre (ev_btT ?_) ?_; (· omega)) | (with_reducible refine po_cre (ev_btF ?_) ?_; (· omega))))
        exact po_some rfl
      · unfold fX7_holiday
        (repeat (first | (with_reducible refine po_gd ?_ ?_; · omega) | (with_reducible refine po_bnd ?_) | (with_reducible refine po_ift ?_ ?_; · omega) | (with_reducible refine po_iff ?_ ?_; · omega) | (with_reducible refine po_crs ?_) | (with_reducible refine po_cls ?_) | (with_reducible refine po_cre hD1 ?_) | (with_reducible refine po_cre (ev_inF ?_) ?_; (· omega))))
        exact po_some rfl
  · refine callErr (r := -2) (by decide) (po_eq ?_) (po_eq ?_)
    · unfold fX1_mark
      (repeat (first | (with_reducible refine po_gd ?_ ?_; · omega) | (with_reducible refine po_bnd ?_) | (with_reducible refine po_ift ?_ ?_; · omega) | (with_reducible refine po_iff ?_ ?_; · omega) | (with_reducible refine po_crs ?_) | (with_reducible refine po_cls ?_) | (with_reducible refine po_cre (ev_btF ?_) ?_; (· omega))))
      exact po_some rfl
    · have hD1 : fX7_isDay d = some 0 := by
        unfold fX7_isDay
        rw [gd_pos hd, ev_inF (by omega), cr_some, gd_pos (by decide)]
      unfold fX7_holiday
      (repeat (first | (with_reducible refine po_gd ?_ ?_; · omega) | (with_reducible refine po_bnd ?_) | (with_reducible refine po_ift ?_ ?_; · omega) | (with_reducible refine po_iff ?_ ?_; · omega) | (with_reducible refine po_crs ?_) | (with_reducible refine po_cls ?_) | (with_reducible refine po_cre hD1 ?_)))
      exact po_some rfl

/-! ===== giveUp in step ===== -/
/-- an entry's parts, within a day -/
theorem MC.part {F : Int} {x : Int → Int} {H : hR} {m : mR} (h : Mid F x H m) (hx : ∀ i : Int, 0 ≤ x i ∧ x i ≤ 1) {i : Nat} (hi : (i : Int) < H.1 4 2 0) (hA : ¬ H.1 5 1 i = 0) : fX7_partOf (rk (H.1 5 1) i) 0 m = some (H.1 5 0 i) ∧ fX7_partOf (rk (H.1 5 1) i) 1 m = some (H.1 5 1 i) ∧ fX7_partOf (rk (H.1 5 1) i) 2 m = some (H.1 5 2 i) ∧ fX7_partOf (rk (H.1 5 1) i) 3 m = some (H.1 5 3 i) ∧ fX7_partOf (rk (H.1 5 1) i) 4 m = some (H.1 5 4 i) ∧ fX7_partOf (rk (H.1 5 1) i) 5 m = some (x i) := by
  obtain ⟨⟨c1, c2, c3, c4, c5⟩, t, k1, k2, k3, k4, k5, k6⟩ := h
  unfold okN at k1
  obtain ⟨w1, w2, w3, w4, w5⟩ := k5.1 i (by omega)
  have hr := rk_rng (A := H.1 5 1) i
  exact em_part (i := rk (H.1 5 1) i) (by omega) (c5.2 i hi hA) (by omega) (by omega) (by omega) (by omega) (by omega) (hx i)
theorem ls_giveUp {T : Int} {H : hR} {m : mR} (h : Sim T H m) {p : Int} (hp : wR p) : callOK T H m (fX2_dropPayment p H) (fX7_giveUp p m) := by
  have k1 := h.2.2.1
  unfold okN at k1
  have hroom := roomOK_rng k1.2.2.2.2
  have e4 := h.1.1.2.2.2.2.1
  by_cases g1 : 0 ≤ p ∧ p ≤ H.1 4 2 0 - 1
  · obtain ⟨i, hi⟩ := Int.eq_ofNat_of_zero_le g1.1
    have hi : p = (i : Int) := hi
    subst hi
    have hw := h.2.2.2.2.2.2.1.1 i (by omega)
    have hall : ∀ k : Nat, (k : Int) ≤ H.1 4 2 0 → rk (H.1 5 1) k = k := fun k hk => rk_all k (fun j hj => by
      have := (h.2.2.2.2.2.2.1.1 j (by omega)).2.1
      omega)
    obtain ⟨m9, es, er, hmid, -, -⟩ := Mid.settle (f := 13) (p := i) (Or.inr rfl) h.mid (by omega) (by omega) rfl
    obtain ⟨H', ed, hd⟩ := ec_drop (H := stl (hS H 3 (H.1 5 0 i) 13 (H.1 3 (H.1 5 0 i) 13 + 1)) i) hmid.2.2.1 (fun j hj => by
      have := (hmid.2.2.2.2.2.2.1.1 j hj).2.1
      omega)
    have xx : ∀ t a b : Int, ¬ (t = 2 ∧ b = 11) → ¬ t = 3 → ¬ t = 5 → (stl (hS H 3 (H.1 5 0 i) 13 (H.1 3 (H.1 5 0 i) 13 + 1)) i).1 t a b = H.1 t a b := fun t a b h1 h2 h3 => by
      unfold stl
      rw [hS_n _ (by omega), hS_n _ (by omega), hS_n _ (by omega), hS_n _ (by omega)]
    have yy : ∀ t a b : Int, ¬ (t = 2 ∧ b = 11) → ¬ t = 3 → ¬ t = 5 → ¬ (t = 4 ∧ a = 2 ∧ b = 0) → H'.1 t a b = H.1 t a b := fun t a b h1 h2 h3 h4 => (hd.1 t a b h3 h4).trans (xx t a b h1 h2 h3)
    have ht := h.2.2.2.1.1
    have hs : ∀ m1 : mR, Mid (8400 * (stl (hS H 3 (H.1 5 0 i) 13 (H.1 3 (H.1 5 0 i) 13 + 1)) i).1 0 6 0) (fun _ => 0) (stl (hS H 3 (H.1 5 0 i) 13 (H.1 3 (H.1 5 0 i) 13 + 1)) i) m1 → Sim (T + 1) H' m1 := fun m1 h1 => h1.sim hd (Int.le_refl _)
      (h.2.2.2.2.2.2.2.2.1.fr (by omega) (yy _ _ _ (by omega) (by omega) (by omega) (by omega)) (yy _ _ _ (by omega) (by omega) (by omega) (by omega)) (fun a f q => yy _ _ _ (by omega) (by omega) (by omega) (by omega)))
      (h.2.2.2.2.2.2.2.2.2.fr (yy _ _ _ (by omega) (by omega) (by omega) (by omega)) (yy _ _ _ (by omega) (by omega) (by omega) (by omega)) (fun a => yy _ _ _ (by omega) (by omega) (by omega) (by omega)) (by rw [hd.2.1]; rfl))
    have hsz : H'.1 4 2 0 = H.1 4 2 0 - 1 := by
      have e1 := hmid.1.2.2.2.2.1
      have e2 := hd.2.2.1
      obtain ⟨m', r1, r2, r3, r4, r5⟩ := em_removes (m := mS (mS m 0 (121 + 16 * H.1 5 0 i + (13 - 1)) (H.1 3 (H.1 5 0 i) 13 + 1)) 0 (13 - 7) (m.1 0 (13 - 7) + 1)) (p := rk (H.1 5 1) i) (by rw [mS_n _ (by omega), mS_n _ (by omega), hall i (by omega)]; omega) (by rw [mS_n _ (by omega), mS_n _ (by omega)]; omega)
      rw [r1] at er
      cases er
      rw [e2, ← e1, r3, up1_p, mS_n _ (by omega), mS_n _ (by omega), e4]
    refine ⟨H'.1 4 2 0, H', po_eq ?_, by omega, Or.inr ⟨by omega, fun m1 hr => ?_⟩⟩
    · have e41 : H.1 4 1 0 ≤ 2147483647 := by omega
      unfold fX2_dropPayment
      (repeat (first | (with_reducible refine po_gd ?_ ?_; · omega) | (with_reducible refine po_bnd ?_) | (with_reducible refine po_ift ?_ ?_; · omega) | (with_reducible refine po_iff ?_ ?_; · omega) | (with_reducible refine po_crs ?_) | (with_reducible refine po_cls ?_) | (with_reducible refine po_cre (ev_btT ?_) ?_; (· omega)) | (with_reducible refine po_cle es ?_) | (with_reducible refine po_cle ed ?_)))
      exact po_some rfl
    · have hs1 := h.rec hr
      obtain ⟨m8, -, er, hmid, q1, q2⟩ := Mid.settle (f := 13) (p := i) (Or.inr rfl) hs1.mid (by omega) (by omega) rfl
      have hp0 := (hs1.part (i := i) (by omega)).1
      have hc : m1.1 0 (121 + 16 * H.1 5 0 i + 12) = H.1 3 (H.1 5 0 i) 13 := hs1.1.atO hw.1 12 (by omega)
      rw [hall i (by omega)] at er
      have e48 : m8.1 0 4 = H'.1 4 2 0 := hmid.1.2.2.2.2.1.trans hd.2.2.1.symm
      have hx0 : (stl (hS H 3 (H.1 5 0 i) 13 (H.1 3 (H.1 5 0 i) 13 + 1)) i).1 0 6 0 = H.1 0 6 0 := xx _ _ _ (by omega) (by omega) (by omega)
      refine ⟨m8, po_eq ?_, hs m8 (by rw [hx0]; exact hmid), ?_⟩
      · have hr1 := hr.1
        have em : fX7_misses i m1 = some ((), m8) := by
          refine po_eq ?_
          unfold fX7_misses
          rw [show (13 : Int) - 1 = 12 from rfl, show (13 : Int) - 7 = 6 from rfl, ← hc] at er
          refine po_cre hp0 (po_gd (by omega) (po_gd (by omega) (po_bnd (po_bnd ?_))))
          rw [hc] at er ⊢
          rw [mS_n m1 (show ¬ ((0 : Int) = 0 ∧ (6 : Int) = 121 + 16 * H.1 5 0 i + 12) by omega), show 121 + 16 * H.1 5 0 i + 12 = 121 + 16 * H.1 5 0 i + 12 from rfl]
          exact po_cle er (po_some rfl)
        unfold fX7_giveUp
        rw [e4]
        (repeat (first | (with_reducible refine po_gd ?_ ?_; · omega) | (with_reducible refine po_bnd ?_) | (with_reducible refine po_ift ?_ ?_; · omega) | (with_reducible refine po_iff ?_ ?_; · omega) | (with_reducible refine po_crs ?_) | (with_reducible refine po_cls ?_) | (with_reducible refine po_cre (ev_inT ?_) ?_; (· omega)) | (with_reducible refine po_cle hr1 ?_) | (with_reducible refine po_cle em ?_) | (with_reducible refine po_cre (ev_of ?_) ?_; (· omega))))
        exact po_some (by rw [e48])
      · exact ⟨q1 2 (by omega) (by omega), q1 3 (by omega) (by omega), by rw [q2], q1 4 (by omega) (by omega), q1 5 (by omega) (by omega), fun k hk => by rw [q1 6 (by omega) (by omega)]⟩
  · refine callErr (r := -1) (by omega) (po_eq ?_) (po_eq ?_)
    · unfold fX2_dropPayment
      (repeat (first | (with_reducible refine po_gd ?_ ?_; · omega) | (with_reducible refine po_bnd ?_) | (with_reducible refine po_ift ?_ ?_; · omega) | (with_reducible refine po_iff ?_ ?_; · omega) | (with_reducible refine po_crs ?_) | (with_reducible refine po_cls ?_) | (with_reducible refine po_cre (ev_btF ?_) ?_; (· omega))))
      exact po_some rfl
    · unfold fX7_giveUp
      rw [e4]
      (repeat (first | (with_reducible refine po_gd ?_ ?_; · omega) | (with_reducible refine po_bnd ?_) | (with_reducible refine po_ift ?_ ?_; · omega) | (with_reducible refine po_iff ?_ ?_; · omega) | (with_reducible refine po_crs ?_) | (with_reducible refine po_cls ?_) | (with_reducible refine po_cre (ev_inF ?_) ?_; (· omega))))
      exact po_some rfl

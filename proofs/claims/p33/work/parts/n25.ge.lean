/-! ===== no call tells less than NONE ===== -/
def ge6 (F : hR → Option (Int × hR)) : Prop := ∀ (T T' : Int) (H H' : hR) (m m' : mR) (r : Int), Sim T H m → Sim T' H' m' → F H = some (r, H') → -6 ≤ r
theorem ge6.of {F : hR → Option (Int × hR)} (h : ∀ (T : Int) (H : hR) (m : mR), Sim T H m → Pst (fun p => -6 ≤ p.1) (F H)) : ge6 F := fun T T' H H' m m' r s s' e => h T H m s _ e
theorem hasA_inv {x y : Int} {H : hR} (h : fX2_hasAccount x H = some y) (n : ¬ y = 0) : 0 ≤ x ∧ x < H.1 0 4 0 := by
  unfold fX2_hasAccount at h
  obtain ⟨-, h⟩ := gd_inv h
  by_cases g : x < 0
  · rw [if_pos g] at h
    cases h
    exact absurd rfl n
  · rw [if_neg g] at h
    obtain ⟨-, h⟩ := gd_inv h
    by_cases g2 : H.1 0 4 0 ≤ x
    · rw [if_pos g2] at h
      cases h
      exact absurd rfl n
    · omega
theorem ge_set {s v : Int} : ge6 (fX2_replaceSetting s v) := ge6.of (fun T H m h => by
  have ks := h.2.2.2.1
  unfold okS at ks
  have hs : Pst (fun y => -6 ≤ y) (fX2_settingOf s H) := by
    unfold fX2_settingOf
    (repeat' (first | (with_reducible refine pst_gd (fun _ => ?_)) | (with_reducible refine pst_cr (fun _ _ => ?_)) | (with_reducible refine pst_if (fun _ => ?_) (fun _ => ?_)) | (with_reducible refine pst_clb ?_) | (with_reducible refine pst_cls ?_) | (with_reducible refine pst_bnd ?_) | (with_reducible refine pst_some ?_)))
    all_goals omega
  unfold fX2_replaceSetting
  refine pst_cr (fun _ _ => pst_gd (fun _ => pst_if (fun _ => pst_some (show (-6 : Int) ≤ -2 by decide)) (fun _ => pst_gd (fun _ => pst_gd (fun _ => pst_cr (fun _ _ => pst_gd (fun _ => pst_if (fun _ => pst_some (show (-6 : Int) ≤ -2 by decide)) (fun _ => pst_cr (fun y ey => ?_)))))))))
  have hy : -6 ≤ y := hs _ ey
  (repeat' (first | (with_reducible refine pst_gd (fun _ => ?_)) | (with_reducible refine pst_cr (fun _ _ => ?_)) | (with_reducible refine pst_if (fun _ => ?_) (fun _ => ?_)) | (with_reducible refine pst_clb ?_) | (with_reducible refine pst_cls ?_) | (with_reducible refine pst_bnd ?_) | (with_reducible refine pst_some ?_)))
  all_goals exact hy)
theorem ge_mark {d s : Int} : ge6 (fX1_mark d s) := ge6.of (fun T H m h => by
  have k3 := h.1.1.2.2.2.1
  have kh := h.1.2.1.1.1
  unfold fX1_mark fX1_mark_b38 fX1_mark_b63 fX1_mark_b96
  (repeat' (first | (with_reducible refine pst_gd (fun _ => ?_)) | (with_reducible refine pst_cr (fun _ _ => ?_)) | (with_reducible refine pst_if (fun _ => ?_) (fun _ => ?_)) | (with_reducible refine pst_clb ?_) | (with_reducible refine pst_cls ?_) | (with_reducible refine pst_bnd ?_) | (with_reducible refine pst_some ?_)))
  all_goals first
    | (show (-6 : Int) ≤ -2; decide)
    | (show (-6 : Int) ≤ -4; decide)
    | (show -6 ≤ H.1 1 1 0; omega)
    | (dsimp only
       rw [hS_p, hS_n H (by omega)]
       omega))
theorem ge_account {v w : Int} : ge6 (fX2_addAccount v w) := ge6.of (fun T H m h => by
  have k1 := h.2.2.1
  unfold okN at k1
  unfold fX2_addAccount fX0_open
  (repeat' (first | (with_reducible refine pst_gd (fun _ => ?_)) | (with_reducible refine pst_cr (fun _ _ => ?_)) | (with_reducible refine pst_if (fun _ => ?_) (fun _ => ?_)) | (with_reducible refine pst_clb ?_) | (with_reducible refine pst_cls ?_) | (with_reducible refine pst_bnd ?_) | (with_reducible refine pst_some ?_)))
  all_goals first
    | (show (-6 : Int) ≤ -2; decide)
    | (show (-6 : Int) ≤ -4; decide)
    | (show -6 ≤ (hS _ 0 4 0 _).1 0 4 0 - 1
       rw [hS_p, hD_1]
       repeat rw [hS_n _ (by omega)]
       omega))
theorem ge_feed {a b : Int} : ge6 (fX2_nameFeeder a b) := ge6.of (fun T H m h => by
  have ka := h.2.2.2.2.1
  unfold fX2_nameFeeder fX2_nameFeeder_b31
  refine pst_cr (fun y ey => pst_gd (fun _ => pst_if (fun _ => pst_some (show (-6 : Int) ≤ -1 by decide)) (fun n => ?_)))
  have := (ka a (hasA_inv ey n)).2.2
  (repeat' (first | (with_reducible refine pst_gd (fun _ => ?_)) | (with_reducible refine pst_cr (fun _ _ => ?_)) | (with_reducible refine pst_if (fun _ => ?_) (fun _ => ?_)) | (with_reducible refine pst_clb ?_) | (with_reducible refine pst_cls ?_) | (with_reducible refine pst_bnd ?_) | (with_reducible refine pst_some ?_)))
  all_goals first
    | (show (-6 : Int) ≤ -1; decide)
    | (show -6 ≤ H.1 2 a 2; omega))
theorem ge_payIn {a b : Int} : ge6 (fX2_payIn a b) := ge6.of (fun T H m h => by
  unfold fX2_payIn
  (repeat' (first | (with_reducible refine pst_gd (fun _ => ?_)) | (with_reducible refine pst_cr (fun _ _ => ?_)) | (with_reducible refine pst_if (fun _ => ?_) (fun _ => ?_)) | (with_reducible refine pst_clb ?_) | (with_reducible refine pst_cls ?_) | (with_reducible refine pst_bnd ?_) | (with_reducible refine pst_some ?_)))
  all_goals first
    | (show (-6 : Int) ≤ -1; decide)
    | (show (-6 : Int) ≤ -2; decide)
    | (show (-6 : Int) ≤ 0; decide)
    | (show (-6 : Int) ≤ 1; decide))
theorem ge_change {o a p : Int} : ge6 (fX2_alterOrder o a p) := ge6.of (fun T H m h => by
  have ko := h.2.2.2.2.2.1
  unfold fX2_alterOrder
  refine pst_cr (fun y ey => pst_gd (fun _ => pst_if (fun _ => pst_some (show (-6 : Int) ≤ -1 by decide)) (fun n => ?_)))
  have w := (ko o (hasO_inv ey n)).2.1
  unfold okP at w
  (repeat' (first | (with_reducible refine pst_gd (fun _ => ?_)) | (with_reducible refine pst_cr (fun _ _ => ?_)) | (with_reducible refine pst_if (fun _ => ?_) (fun _ => ?_)) | (with_reducible refine pst_clb ?_) | (with_reducible refine pst_cls ?_) | (with_reducible refine pst_bnd ?_) | (with_reducible refine pst_some ?_)))
  all_goals first
    | (show (-6 : Int) ≤ -2; decide)
    | (show (-6 : Int) ≤ -5; decide)
    | (show -6 ≤ H.1 3 o 2; omega))
theorem ge_stop {o : Int} : ge6 (fX2_stopOrder o) := ge6.of (fun T H m h p e => by
  have := (n_stop h.2.2 p e).1
  show -6 ≤ p.1
  omega)
theorem ge_goOn {o : Int} : ge6 (fX2_resumeOrder o) := ge6.of (fun T H m h p e => by
  have := (n_goOn p e).1
  show -6 ≤ p.1
  omega)
theorem ge_giveUp {x : Int} : ge6 (fX2_dropPayment x) := fun T T' H H' m m' r s s' e => by
  have k1 := s'.2.2.1
  unfold okN at k1
  have : Pst (fun p => p.1 = -1 ∨ p.1 = p.2.1 4 2 0) (fX2_dropPayment x H) := by
    unfold fX2_dropPayment
    exact pst_cr (fun _ _ => pst_gd (fun _ => pst_if (fun _ => pst_some (Or.inl rfl)) (fun _ => pst_gd (fun _ => pst_gd (fun _ => pst_bnd (pst_cl (fun y s e => pst_cl (fun y2 s2 e2 => pst_some (Or.inr rfl)))))))))
  have w : r = -1 ∨ r = H'.1 4 2 0 := this _ e
  omega
theorem ge_order {x1 x2 x3 x4 x5 x6 : Int} : ge6 (fX2_addOrder x1 x2 x3 x4 x5 x6) := fun T T' H H' m m' r s s' e => by
  have k1 := s'.2.2.1
  unfold okN at k1
  have w50 : Pst (fun p => p.1 = -2 ∨ p.1 = -4 ∨ p.1 = p.2.1 0 5 0 - 1) (fX2_addOrder_b50 x1 x2 x3 x4 x5 x6 H) := by
    unfold fX2_addOrder_b50
    exact pst_cr (fun _ _ => pst_gd (fun _ => pst_if (fun _ => pst_some (Or.inl rfl)) (fun _ => pst_cr (fun _ _ => pst_gd (fun _ => pst_if (fun _ => pst_some (Or.inl rfl)) (fun _ => pst_cr (fun _ _ => pst_gd (fun _ => pst_if (fun _ => pst_some (Or.inl rfl)) (fun _ => pst_cr (fun _ _ => pst_gd (fun _ => pst_if (fun _ => pst_some (Or.inl rfl)) (fun _ => pst_cr (fun _ _ => pst_gd (fun _ => pst_if (fun _ => pst_some (Or.inl rfl)) (fun _ => pst_gd (fun _ => pst_if (fun _ => pst_gd (fun _ => pst_cl (fun y s e => pst_gd (fun _ => pst_cl (fun y2 s2 e2 => pst_bnd (pst_some (Or.inr (Or.inr rfl)))))))) (fun _ => pst_some (Or.inr (Or.inl rfl)))))))))))))))))))
  have w : Pst (fun p => p.1 = -1 ∨ p.1 = -2 ∨ p.1 = -4 ∨ p.1 = p.2.1 0 5 0 - 1) (fX2_addOrder x1 x2 x3 x4 x5 x6 H) := by
    unfold fX2_addOrder
    (repeat' (first | (with_reducible refine pst_gd (fun _ => ?_)) | (with_reducible refine pst_cr (fun _ _ => ?_)) | (with_reducible refine pst_if (fun _ => ?_) (fun _ => ?_)) | (with_reducible refine pst_clb ?_) | (with_reducible refine pst_cls ?_) | (with_reducible refine pst_bnd ?_) | (with_reducible refine pst_some ?_)))
    all_goals first
      | exact Or.inl rfl
      | exact fun p e => Or.inr (w50 p e)
  have w : r = -1 ∨ r = -2 ∨ r = -4 ∨ r = H'.1 0 5 0 - 1 := w _ e
  omega
theorem ge_days {n : Int} : ge6 (daysF n) := fun T T' H H' m m' r s s' e => by
  have ks := s'.2.2.2.1
  unfold okS at ks
  have he : Pst (fun p => -5 ≤ p) (fX2_errorOfDays n H) := by
    unfold fX2_errorOfDays
    (repeat' (first | (with_reducible refine pst_gd (fun _ => ?_)) | (with_reducible refine pst_cr (fun _ _ => ?_)) | (with_reducible refine pst_if (fun _ => ?_) (fun _ => ?_)) | (with_reducible refine pst_clb ?_) | (with_reducible refine pst_cls ?_) | (with_reducible refine pst_bnd ?_) | (with_reducible refine pst_some ?_)))
    all_goals decide
  have w : Pst (fun p => -5 ≤ p.1 ∨ p.1 = p.2.1 0 6 0) (daysF n H) := by
    unfold daysF
    exact pst_cr (fun y ey => pst_if (fun _ => pst_cl (fun y s e => pst_some (Or.inr rfl))) (fun _ => pst_some (Or.inl (he _ ey))))
  have w : -5 ≤ r ∨ r = H'.1 0 6 0 := w _ e
  omega

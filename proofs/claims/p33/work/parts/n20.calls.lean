/-! ===== each call keeps what the accounts have ===== -/
theorem kp_set {H0 H : hR} {s v : Int} (h : kpD H0 H) : Pst (fun p => kpD H0 p.2) (fX2_replaceSetting s v H) := by
  unfold fX2_replaceSetting
  (repeat' (first | (with_reducible refine pst_gd (fun _ => ?_)) | (with_reducible refine pst_cr (fun _ _ => ?_)) | (with_reducible refine pst_if (fun _ => ?_) (fun _ => ?_)) | (with_reducible refine pst_clb ?_) | (with_reducible refine pst_cls ?_) | (with_reducible refine pst_bnd ?_) | (with_reducible refine pst_some ?_)))
  all_goals (repeat' (first | assumption | (with_reducible exact kpD.rf _) | (refine kpD.s ?_ (by omega)) | (refine kpD.d ?_)))
theorem kp_feed {H0 H : hR} {s v : Int} (h : kpD H0 H) : Pst (fun p => kpD H0 p.2) (fX2_nameFeeder s v H) := by
  unfold fX2_nameFeeder fX2_nameFeeder_b31
  (repeat' (first | (with_reducible refine pst_gd (fun _ => ?_)) | (with_reducible refine pst_cr (fun _ _ => ?_)) | (with_reducible refine pst_if (fun _ => ?_) (fun _ => ?_)) | (with_reducible refine pst_clb ?_) | (with_reducible refine pst_cls ?_) | (with_reducible refine pst_bnd ?_) | (with_reducible refine pst_some ?_)))
  all_goals (repeat' (first | assumption | (with_reducible exact kpD.rf _) | (refine kpD.s ?_ (by omega)) | (refine kpD.d ?_)))
theorem kp_payIn {H0 H : hR} {a v : Int} (h : kpD H0 H) : Pst (fun p => kpD H0 p.2) (fX2_payIn a v H) := by
  unfold fX2_payIn
  (repeat' (first | (with_reducible refine pst_gd (fun _ => ?_)) | (with_reducible refine pst_cr (fun _ _ => ?_)) | (with_reducible refine pst_if (fun _ => ?_) (fun _ => ?_)) | (with_reducible refine pst_clb ?_) | (with_reducible refine pst_cls ?_) | (with_reducible refine pst_bnd ?_) | (with_reducible refine pst_some ?_)))
  all_goals first
    | exact h
    | exact kpD.into (v := v) h rfl (Or.inl rfl) rfl (by rw [hS_n H (by omega)])
theorem kp_change {H0 H : hR} {o a p : Int} (h : kpD H0 H) : Pst (fun p => kpD H0 p.2) (fX2_alterOrder o a p H) := by
  unfold fX2_alterOrder
  (repeat' (first | (with_reducible refine pst_gd (fun _ => ?_)) | (with_reducible refine pst_cr (fun _ _ => ?_)) | (with_reducible refine pst_if (fun _ => ?_) (fun _ => ?_)) | (with_reducible refine pst_clb ?_) | (with_reducible refine pst_cls ?_) | (with_reducible refine pst_bnd ?_) | (with_reducible refine pst_some ?_)))
  all_goals (repeat' (first | assumption | (with_reducible exact kpD.rf _) | (refine kpD.s ?_ (by omega)) | (refine kpD.d ?_)))
theorem kp_mark {H0 H : hR} {d s : Int} (h : kpD H0 H) : Pst (fun p => kpD H0 p.2) (fX1_mark d s H) := by
  unfold fX1_mark fX1_mark_b38 fX1_mark_b63 fX1_mark_b96
  (repeat' (first | (with_reducible refine pst_gd (fun _ => ?_)) | (with_reducible refine pst_cr (fun _ _ => ?_)) | (with_reducible refine pst_if (fun _ => ?_) (fun _ => ?_)) | (with_reducible refine pst_clb ?_) | (with_reducible refine pst_cls ?_) | (with_reducible refine pst_bnd ?_) | (with_reducible refine pst_some ?_)))
  all_goals (repeat' (first | assumption | (with_reducible exact kpD.rf _) | (refine kpD.s ?_ (by omega)) | (refine kpD.d ?_)))
theorem kp_stop {H0 H : hR} {o : Int} (h : kpD H0 H) : Pst (fun p => kpD H0 p.2) (fX2_stopOrder o H) := by
  unfold fX2_stopOrder
  (repeat' (first | (with_reducible refine pst_gd (fun _ => ?_)) | (with_reducible refine pst_cr (fun _ _ => ?_)) | (with_reducible refine pst_if (fun _ => ?_) (fun _ => ?_)) | (with_reducible refine pst_clb ?_) | (with_reducible refine pst_cls ?_) | (with_reducible refine pst_bnd ?_) | (with_reducible refine pst_some ?_)))
  all_goals (repeat' (first | assumption | (with_reducible exact kpD.rf _) | (refine kpD.s ?_ (by omega)) | (refine kpD.d ?_)))
theorem kp_leave10 {H0 : hR} {o t : Int} : ∀ (fuel : Nat) (a b : Int) (H : hR), kpD H0 H → Pst (fun p => kpD H0 p.2) (fX3_leaveOutBefore_b10 fuel o t a b H)
  | 0, _, _, _, _ => fun p e => by cases e
  | fuel + 1, a, b, H, h => by
    unfold fX3_leaveOutBefore_b10
    exact pst_gd (fun _ => pst_if (fun _ => pst_some h) (fun _ => pst_gd (fun _ => pst_if (fun _ => pst_some h) (fun _ => pst_bnd (pst_cl (fun y s e => kp_leave10 fuel _ _ _ (kp_aim (h.s (by omega)) _ e)))))))
theorem kp_leave {H0 H : hR} {o t : Int} (h : kpD H0 H) : Pst (fun p => kpD H0 p.2) (fX3_leaveOutBefore o t H) := by
  unfold fX3_leaveOutBefore
  exact pst_cl (fun y s e => kp_leave10 fuel0 _ _ _ (kp_aim h _ e))
theorem kp_goOn {H0 H : hR} {o : Int} (h : kpD H0 H) : Pst (fun p => kpD H0 p.2) (fX2_resumeOrder o H) := by
  unfold fX2_resumeOrder
  exact pst_cr (fun _ _ => pst_gd (fun _ => pst_if (fun _ => pst_some h) (fun _ => pst_gd (fun _ => pst_gd (fun _ => pst_if (fun _ => pst_gd (fun _ => pst_bnd (pst_gd (fun _ => pst_cl (fun y s e => pst_some (kp_leave (h.s (by omega)) _ e)))))) (fun _ => pst_some h))))))
theorem kp_begin {H0 H : hR} {i x1 x2 x3 x4 x5 x6 : Int} (h : kpD H0 H) : Pst (fun p => kpD H0 p.2) (fX3_begin i x1 x2 x3 x4 x5 x6 H) := by
  unfold fX3_begin fX3_begin_b27 fX3_begin_b98
  (repeat' (first | (with_reducible refine pst_gd (fun _ => ?_)) | (with_reducible refine pst_cr (fun _ _ => ?_)) | (with_reducible refine pst_if (fun _ => ?_) (fun _ => ?_)) | (with_reducible refine pst_clb ?_) | (with_reducible refine pst_cls ?_) | (with_reducible refine pst_bnd ?_) | (with_reducible refine pst_some ?_)))
  all_goals (repeat' (first | assumption | (with_reducible exact kpD.rf _) | (refine kpD.s ?_ (by omega)) | (refine kpD.d ?_)))
theorem kp_order50 {H0 H : hR} {x1 x2 x3 x4 x5 x6 : Int} (h : kpD H0 H) : Pst (fun p => kpD H0 p.2) (fX2_addOrder_b50 x1 x2 x3 x4 x5 x6 H) := by
  unfold fX2_addOrder_b50
  refine pst_cr (fun _ _ => pst_gd (fun _ => pst_if (fun _ => pst_some h) (fun _ => pst_cr (fun _ _ => pst_gd (fun _ => pst_if (fun _ => pst_some h) (fun _ => pst_cr (fun _ _ => pst_gd (fun _ => pst_if (fun _ => pst_some h) (fun _ => pst_cr (fun _ _ => pst_gd (fun _ => pst_if (fun _ => pst_some h) (fun _ => pst_cr (fun _ _ => pst_gd (fun _ => pst_if (fun _ => pst_some h) (fun _ => pst_gd (fun _ => pst_if (fun _ => pst_gd (fun _ => pst_cl (fun y s e => pst_gd (fun _ => pst_cl (fun y2 s2 e2 => pst_bnd (pst_some ?_)))))) (fun _ => pst_some h)))))))))))))))))
  have h1 : kpD H0 s := kp_begin h _ e
  have h2 : kpD H0 s2 := kp_leave h1 _ e2
  exact h2.s (by omega)
theorem kp_order {H0 H : hR} {x1 x2 x3 x4 x5 x6 : Int} (h : kpD H0 H) : Pst (fun p => kpD H0 p.2) (fX2_addOrder x1 x2 x3 x4 x5 x6 H) := by
  unfold fX2_addOrder
  (repeat' (first | (with_reducible refine pst_gd (fun _ => ?_)) | (with_reducible refine pst_cr (fun _ _ => ?_)) | (with_reducible refine pst_if (fun _ => ?_) (fun _ => ?_)) | (with_reducible refine pst_clb ?_) | (with_reducible refine pst_cls ?_) | (with_reducible refine pst_bnd ?_) | (with_reducible refine pst_some ?_)))
  all_goals first
    | exact h
    | exact kp_order50 h
theorem kp_giveUp {H0 H : hR} {x : Int} (h : kpD H0 H) : Pst (fun p => kpD H0 p.2) (fX2_dropPayment x H) := by
  unfold fX2_dropPayment
  exact pst_cr (fun _ _ => pst_gd (fun _ => pst_if (fun _ => pst_some h) (fun _ => pst_gd (fun _ => pst_gd (fun _ => pst_bnd (pst_cl (fun y s e => pst_cl (fun y2 s2 e2 => pst_some (kp_drop (kp_settle (h.s (by omega)) _ e) _ e2)))))))))
theorem bal_account {H : hR} {v w : Int} (h : Bal H) : Pst (fun p => Bal p.2) (fX2_addAccount v w H) := by
  unfold fX2_addAccount fX0_open
  (repeat' (first | (with_reducible refine pst_gd (fun _ => ?_)) | (with_reducible refine pst_cr (fun _ _ => ?_)) | (with_reducible refine pst_if (fun _ => ?_) (fun _ => ?_)) | (with_reducible refine pst_clb ?_) | (with_reducible refine pst_cls ?_) | (with_reducible refine pst_bnd ?_) | (with_reducible refine pst_some ?_)))
  all_goals first
    | exact h
    | (intro a ha
       simp [hS, hD, up3] at ha
       unfold dfc
       by_cases q : a = H.1 0 4 0
       · simp [hS, hD, up3, q]
       · have := h a (by omega)
         unfold dfc at this
         simp [hS, hD, up3, q]
         exact this)
/-- a call's function keeps it -/
theorem Pst.bal {F : hR → Option (Int × hR)} (h : ∀ H0 H, kpD H0 H → Pst (fun p => kpD H0 p.2) (F H)) {H : hR} (hb : Bal H) : Pst (fun p => Bal p.2) (F H) := fun p e => hb.kp (h H H (kpD.rf H) p e)
/-- a day's passing as a function of the house alone -/
noncomputable def daysF (n : Int) (H : hR) : Option (Int × hR) := cr (fX2_errorOfDays n H) fun e => if e = 0 then cl (fX2_passDays n 0 H) fun _ H' => some (H'.1 0 6 0, H') else some (e, H)
theorem bal_days {H : hR} {n : Int} (h : Bal H) : Pst (fun p => Bal p.2) (daysF n H) := by
  unfold daysF
  exact pst_cr (fun _ _ => pst_if (fun _ => pst_cl (fun y s e => pst_some (h.kp (kp_days (kpD.rf H) (y, s) e)))) (fun _ => pst_some h))

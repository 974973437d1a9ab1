/-! ===== what an account has: paid in, got, swept in, less what it paid, gave, its fees and interest ===== -/
def dfc (H : hR) (a : Int) : Int := H.1 2 a 4 + H.1 2 a 6 + H.1 2 a 7 - H.1 2 a 5 - H.1 2 a 8 - H.1 2 a 9 - H.1 2 a 10 - H.1 2 a 3
def Bal (H : hR) : Prop := ∀ a : Int, 0 ≤ a ∧ a < H.1 0 4 0 → dfc H a = 0
/-- the accounts' number and what each lacks stay -/
def kpD (H H' : hR) : Prop := H'.1 0 4 0 = H.1 0 4 0 ∧ ∀ a : Int, dfc H' a = dfc H a
theorem kpD.rf (H : hR) : kpD H H := ⟨rfl, fun _ => rfl⟩
theorem kpD.tr {H H1 H2 : hR} (h1 : kpD H H1) (h2 : kpD H1 H2) : kpD H H2 := ⟨h2.1.trans h1.1, fun a => (h2.2 a).trans (h1.2 a)⟩
theorem Bal.kp {H H' : hR} (h : Bal H) (k : kpD H H') : Bal H' := fun a ha => by
  rw [k.1] at ha
  rw [k.2 a]
  exact h a ha
theorem kpD.fr {H0 H H' : hR} (h : kpD H0 H) (h4 : H'.1 0 4 0 = H.1 0 4 0) (h2 : ∀ a f : Int, 3 ≤ f ∧ f ≤ 10 → H'.1 2 a f = H.1 2 a f) : kpD H0 H' := h.tr ⟨h4, fun a => by
  unfold dfc
  rw [h2 a 3 (by omega), h2 a 4 (by omega), h2 a 5 (by omega), h2 a 6 (by omega), h2 a 7 (by omega), h2 a 8 (by omega), h2 a 9 (by omega), h2 a 10 (by omega)]⟩
theorem kpD.s {H0 H : hR} {t x y v : Int} (h : kpD H0 H) (g : ¬ (t = 2 ∧ 3 ≤ y ∧ y ≤ 10) ∧ ¬ (t = 0 ∧ x = 4)) : kpD H0 (hS H t x y v) := h.fr (hS_n H (by omega)) (fun a f hf => hS_n H (by omega))
theorem kpD.d {H0 H : hR} {i : Int} {v : UInt64} (h : kpD H0 H) : kpD H0 (hD H i v) := h
theorem kpD.grow {H0 H : hR} {w : Int} (h : kpD H0 H) : kpD H0 (hGrow H w) := h.fr (by simp [hGrow]) (fun a f hf => by simp [hGrow])
theorem up3_if {f : Int → Int → Int → Int} {t a b v t' a' b' : Int} : up3 f t a b v t' a' b' = if t' = t ∧ a' = a ∧ b' = b then v else f t' a' b' := rfl
/-- money goes out: the balance falls by what one of the other sums grows -/
theorem kpD.out {H0 H : hR} {i j g u v w : Int} (h : kpD H0 H) (hj : j = i) (hg : g = 5 ∨ g = 8 ∨ g = 9 ∨ g = 10) (hu : u = H.1 2 i 3 - v) (hw : w = H.1 2 i g + v) : kpD H0 (hS (hS H 2 i 3 u) 2 j g w) := h.tr ⟨by rw [hS_n _ (by omega), hS_n _ (by omega)], fun a => by
  subst hj hu hw
  by_cases q : a = j
  · subst q
    rcases hg with rfl | rfl | rfl | rfl <;> simp [dfc, hS, up3] <;> omega
  · unfold dfc
    simp [hS, up3, q]⟩
theorem kpD.into {H0 H : hR} {i j g u v w : Int} (h : kpD H0 H) (hj : j = i) (hg : g = 4 ∨ g = 6 ∨ g = 7) (hu : u = H.1 2 i 3 + v) (hw : w = H.1 2 i g + v) : kpD H0 (hS (hS H 2 i 3 u) 2 j g w) := h.tr ⟨by rw [hS_n _ (by omega), hS_n _ (by omega)], fun a => by
  subst hj hu hw
  by_cases q : a = j
  · subst q
    rcases hg with rfl | rfl | rfl <;> simp [dfc, hS, up3] <;> omega
  · unfold dfc
    simp [hS, up3, q]⟩
theorem kp_settle {H0 H : hR} {x : Int} (h : kpD H0 H) : Pst (fun p => kpD H0 p.2) (fX2_settle x H) := by
  unfold fX2_settle
  (repeat' (first | (with_reducible refine pst_gd (fun _ => ?_)) | (with_reducible refine pst_cr (fun _ _ => ?_)) | (with_reducible refine pst_if (fun _ => ?_) (fun _ => ?_)) | (with_reducible refine pst_clb ?_) | (with_reducible refine pst_cls ?_) | (with_reducible refine pst_bnd ?_) | (with_reducible refine pst_some ?_)))
  (repeat' (first | assumption | (with_reducible exact kpD.rf _) | (refine kpD.s ?_ (by omega)) | (refine kpD.d ?_)))
theorem kp_aim {H0 H : hR} {o : Int} (h : kpD H0 H) : Pst (fun p => kpD H0 p.2) (fX3_aim o H) := by
  unfold fX3_aim fX3_aim_b64 fX3_aim_b92
  (repeat' (first | (with_reducible refine pst_gd (fun _ => ?_)) | (with_reducible refine pst_cr (fun _ _ => ?_)) | (with_reducible refine pst_if (fun _ => ?_) (fun _ => ?_)) | (with_reducible refine pst_clb ?_) | (with_reducible refine pst_cls ?_) | (with_reducible refine pst_bnd ?_) | (with_reducible refine pst_some ?_)))
  all_goals (repeat' (first | assumption | (with_reducible exact kpD.rf _) | (refine kpD.s ?_ (by omega)) | (refine kpD.d ?_)))
theorem kp_drop28 {H0 : hR} {rec4 : Int → Int → hR → Option (Unit × hR)} (hr : ∀ a b H, kpD H0 H → Pst (fun p => kpD H0 p.2) (rec4 a b H)) : ∀ (fuel : Nat) (a b c : Int) (H : hR), kpD H0 H → Pst (fun p => kpD H0 p.2) (fX5_dropSettled_b28 rec4 fuel a b c H)
  | 0, _, _, _, _, _ => fun p e => by cases e
  | fuel + 1, a, b, c, H, h => by
    unfold fX5_dropSettled_b28
    exact pst_gd (fun _ => pst_if (fun _ => hr _ _ _ h) (fun _ => pst_gd (fun _ => pst_gd (fun _ => pst_gd (fun _ => pst_gd (fun _ => pst_bnd (kp_drop28 hr fuel _ _ _ _ (h.s (by omega)))))))))
theorem kp_drop4 {H0 : hR} : ∀ (fuel : Nat) (a b : Int) (H : hR), kpD H0 H → Pst (fun p => kpD H0 p.2) (fX5_dropSettled_b4 fuel a b H)
  | 0, _, _, _, _ => fun p e => by cases e
  | fuel + 1, a, b, H, h => by
    unfold fX5_dropSettled_b4
    exact pst_gd (fun _ => pst_if (fun _ => pst_bnd (pst_some (h.s (by omega)))) (fun _ => pst_gd (fun _ => pst_gd (fun _ => pst_if (fun _ => kp_drop4 fuel _ _ _ h) (fun _ => kp_drop28 (fun a b H => kp_drop4 fuel a b H) fuel0 _ _ _ _ h)))))
theorem kp_drop {H0 H : hR} (h : kpD H0 H) : Pst (fun p => kpD H0 p.2) (fX5_dropSettled H) := by
  unfold fX5_dropSettled
  exact kp_drop4 fuel0 0 0 H h
theorem kp_room {H0 H : hR} {w : Int} (h : kpD H0 H) : Pst (fun p => kpD H0 p.2) (fX5_makeRoom w H) := by
  unfold fX5_makeRoom
  exact pst_gd (fun _ => pst_if (fun _ => pst_some h) (fun _ => pst_gd (fun _ => pst_some h.grow)))
theorem kp_add39 {H0 H : hR} {a b c d : Int} (h : kpD H0 H) : Pst (fun p => kpD H0 p.2) (fX5_add_b39 a b c d H) := by
  unfold fX5_add_b39
  (repeat' (first | (with_reducible refine pst_gd (fun _ => ?_)) | (with_reducible refine pst_cr (fun _ _ => ?_)) | (with_reducible refine pst_if (fun _ => ?_) (fun _ => ?_)) | (with_reducible refine pst_clb ?_) | (with_reducible refine pst_cls ?_) | (with_reducible refine pst_bnd ?_) | (with_reducible refine pst_some ?_)))
  (repeat' (first | assumption | (with_reducible exact kpD.rf _) | (refine kpD.s ?_ (by omega)) | (refine kpD.d ?_)))
theorem kp_add {H0 H : hR} {a b c d : Int} (h : kpD H0 H) : Pst (fun p => kpD H0 p.2) (fX5_add a b c d H) := by
  unfold fX5_add
  exact pst_gd (fun _ => pst_if (fun _ => pst_gd (fun _ => pst_if (fun _ => kp_add39 h) (fun _ => pst_gd (fun _ => pst_cl (fun y s e => kp_add39 (kp_room h _ e)))))) (fun _ => pst_some h))
theorem kp_take57 {H0 H : hR} {a b : Int} (h : kpD H0 H) : Pst (fun p => kpD H0 p.2) (fX2_takeNextOccurrence_b57 a b H) := by
  unfold fX2_takeNextOccurrence_b57
  refine pst_cl (fun y s e => ?_)
  have h1 : kpD H0 s := kp_add h _ e
  (repeat' (first | (with_reducible refine pst_gd (fun _ => ?_)) | (with_reducible refine pst_cr (fun _ _ => ?_)) | (with_reducible refine pst_if (fun _ => ?_) (fun _ => ?_)) | (with_reducible refine pst_clb ?_) | (with_reducible refine pst_cls ?_) | (with_reducible refine pst_bnd ?_) | (with_reducible refine pst_some ?_)))
  all_goals (repeat' (first | assumption | (with_reducible exact kpD.rf _) | (refine kpD.s ?_ (by omega)) | (refine kpD.d ?_)))
theorem kp_take24 {H0 H : hR} {a b : Int} (h : kpD H0 H) : Pst (fun p => kpD H0 p.2) (fX2_takeNextOccurrence_b24 a b H) := by
  unfold fX2_takeNextOccurrence_b24
  exact pst_gd (fun _ => pst_if (fun _ => pst_cr (fun _ _ => pst_gd (fun _ => pst_if (fun _ => pst_bnd (pst_some (h.s (by omega)))) (fun _ => kp_take57 h)))) (fun _ => kp_take57 h))
theorem kp_take {H0 H : hR} {a : Int} (h : kpD H0 H) : Pst (fun p => kpD H0 p.2) (fX2_takeNextOccurrence a H) := by
  unfold fX2_takeNextOccurrence
  exact pst_gd (fun _ => pst_gd (fun _ => pst_if (fun _ => pst_bnd (kp_take24 (h.s (by omega)))) (fun _ => kp_take24 h)))
theorem kp_due100 {H0 H : hR} {rec2 : Int → hR → Option (Unit × hR)} (hr : ∀ a H, kpD H0 H → Pst (fun p => kpD H0 p.2) (rec2 a H)) {a b : Int} (h : kpD H0 H) : Pst (fun p => kpD H0 p.2) (fX2_makePaymentsDue_b100 rec2 a b H) := by
  unfold fX2_makePaymentsDue_b100
  exact pst_bnd (hr _ _ (h.s (by omega)))
theorem kp_due83 {H0 H : hR} {rec2 : Int → hR → Option (Unit × hR)} (hr : ∀ a H, kpD H0 H → Pst (fun p => kpD H0 p.2) (rec2 a H)) {a b : Int} (h : kpD H0 H) : Pst (fun p => kpD H0 p.2) (fX2_makePaymentsDue_b83 rec2 a b H) := by
  unfold fX2_makePaymentsDue_b83
  exact pst_cr (fun _ _ => pst_gd (fun _ => pst_if (fun _ => kp_due100 hr h) (fun _ => pst_gd (fun _ => pst_if (fun _ => kp_due100 hr h) (fun _ => hr _ _ h)))))
theorem kp_due29 {H0 : hR} {rec2 : Int → hR → Option (Unit × hR)} (hr : ∀ a H, kpD H0 H → Pst (fun p => kpD H0 p.2) (rec2 a H)) : ∀ (fuel : Nat) (a b c : Int) (H : hR), kpD H0 H → Pst (fun p => kpD H0 p.2) (fX2_makePaymentsDue_b29 rec2 fuel a b c H)
  | 0, _, _, _, _, _ => fun p e => by cases e
  | fuel + 1, a, b, c, H, h => by
    unfold fX2_makePaymentsDue_b29
    refine pst_gd (fun _ => pst_if (fun _ => kp_due83 hr h) (fun _ => pst_cr (fun _ _ => pst_gd (fun _ => pst_if (fun _ => kp_due83 hr h) (fun _ => pst_gd (fun _ => pst_if (fun _ => kp_due83 hr h) (fun _ => pst_cl (fun y s e => pst_bnd (pst_cl (fun y2 s2 e2 => ?_))))))))))
    have h1 : kpD H0 s := kp_take h _ e
    have h2 : kpD H0 s2 := kp_aim (h1.s (by omega)) _ e2
    exact kp_due29 hr fuel _ _ _ _ h2
theorem kp_due2 {H0 : hR} : ∀ (fuel : Nat) (a : Int) (H : hR), kpD H0 H → Pst (fun p => kpD H0 p.2) (fX2_makePaymentsDue_b2 fuel a H)
  | 0, _, _, _ => fun p e => by cases e
  | fuel + 1, a, H, h => by
    unfold fX2_makePaymentsDue_b2
    exact pst_gd (fun _ => pst_if (fun _ => pst_some h) (fun _ => pst_gd (fun _ => pst_gd (fun _ => pst_if (fun _ => kp_due29 (fun a H => kp_due2 fuel a H) fuel0 _ _ _ _ h) (fun _ => kp_due2 fuel _ _ h)))))
theorem kp_due {H0 H : hR} (h : kpD H0 H) : Pst (fun p => kpD H0 p.2) (fX2_makePaymentsDue H) := by
  unfold fX2_makePaymentsDue
  exact kp_due2 fuel0 0 H h
theorem kp_sweep2 {H0 : hR} : ∀ (fuel : Nat) (a : Int) (H : hR), kpD H0 H → Pst (fun p => kpD H0 p.2) (fX2_sweep_b2 fuel a H)
  | 0, _, _, _ => fun p e => by cases e
  | fuel + 1, a, H, h => by
    unfold fX2_sweep_b2
    refine pst_gd (fun _ => pst_if (fun _ => pst_some h) (fun _ => pst_gd (fun _ => pst_cr (fun _ _ => pst_gd (fun _ => pst_if (fun _ => kp_sweep2 fuel _ _ h) (fun _ => pst_gd (fun _ => pst_gd (fun _ => pst_gd (fun _ => pst_gd (fun _ => pst_gd (fun _ => pst_if (fun _ => pst_bnd (pst_bnd (pst_bnd (pst_bnd (kp_sweep2 fuel _ _ ?_))))) (fun _ => kp_sweep2 fuel _ _ h))))))))))))
    generalize (min (((H.1 2 a 11) - (H.1 2 a 3)) - (H.1 2 a 0)) ((H.1 2 (H.1 2 a 2) 3) - (H.1 2 (H.1 2 a 2) 1))) = v
    refine kpD.into (v := v) (kpD.out (v := v) h rfl (Or.inr (Or.inl rfl)) rfl ?_) rfl (Or.inr (Or.inr rfl)) rfl ?_
    · rw [hS_n _ (by omega)]
    · rw [hS_n _ (by omega)]
theorem kp_sweep {H0 H : hR} (h : kpD H0 H) : Pst (fun p => kpD H0 p.2) (fX2_sweep H) := by
  unfold fX2_sweep
  exact kp_sweep2 fuel0 0 H h
theorem kp_fail {H0 H : hR} {x : Int} (h : kpD H0 H) : Pst (fun p => kpD H0 p.2) (fX2_failTry x H) := by
  unfold fX2_failTry
  refine pst_gd (fun _ => pst_gd (fun _ => pst_gd (fun _ => pst_gd (fun _ => pst_bnd (pst_gd (fun _ => pst_gd (fun _ => pst_bnd (pst_bnd (pst_bnd (pst_gd (fun _ => pst_gd (fun _ => pst_bnd (pst_gd (fun _ => pst_gd (fun _ => ?_)))))))))))))))
  have h1 : kpD H0 (hS (hS H 2 (H.1 3 (H.1 5 0 x) 0) 3 (H.1 2 (H.1 3 (H.1 5 0 x) 0) 3 - H.1 0 8 0)) 2 ((hS H 2 (H.1 3 (H.1 5 0 x) 0) 3 (H.1 2 (H.1 3 (H.1 5 0 x) 0) 3 - H.1 0 8 0)).1 3 (H.1 5 0 x) 0) 9 ((hS H 2 (H.1 3 (H.1 5 0 x) 0) 3 (H.1 2 (H.1 3 (H.1 5 0 x) 0) 3 - H.1 0 8 0)).1 2 ((hS H 2 (H.1 3 (H.1 5 0 x) 0) 3 (H.1 2 (H.1 3 (H.1 5 0 x) 0) 3 - H.1 0 8 0)).1 3 (H.1 5 0 x) 0) 9 + (hS H 2 (H.1 3 (H.1 5 0 x) 0) 3 (H.1 2 (H.1 3 (H.1 5 0 x) 0) 3 - H.1 0 8 0)).1 0 8 0)) := by
    refine kpD.out (v := H.1 0 8 0) h (hS_n _ (by omega)) (Or.inr (Or.inr (Or.inl rfl))) rfl ?_
    rw [hS_n H (t' := 3) (by omega), hS_n H (t' := 0) (by omega), hS_n H (by omega)]
  refine pst_if (fun _ => pst_bnd (pst_cl (fun y s e => pst_some ?_))) (fun _ => pst_some ?_)
  · refine kp_settle ?_ _ e
    (repeat' (first | assumption | (with_reducible exact kpD.rf _) | (refine kpD.s ?_ (by omega)) | (refine kpD.d ?_)))
  · (repeat' (first | assumption | (with_reducible exact kpD.rf _) | (refine kpD.s ?_ (by omega)) | (refine kpD.d ?_)))
theorem kp_try138 {H0 H : hR} {a b : Int} (h : kpD H0 H) : Pst (fun p => kpD H0 p.2) (fX2_tryPayment_b138 a b H) := by
  unfold fX2_tryPayment_b138
  exact pst_bnd (pst_cl (fun y s e => pst_some (kp_settle (h.s (by omega)) _ e)))
theorem kp_try {H0 H : hR} {x : Int} (h : kpD H0 H) : Pst (fun p => kpD H0 p.2) (fX2_tryPayment x H) := by
  unfold fX2_tryPayment
  refine pst_gd (fun _ => pst_gd (fun _ => pst_gd (fun _ => pst_gd (fun _ => pst_gd (fun _ => pst_gd (fun _ => pst_gd (fun _ => ?_)))))))
  refine pst_if (fun _ => pst_gd (fun _ => pst_bnd (pst_gd (fun _ => pst_bnd (pst_cr (fun _ _ => pst_gd (fun _ => ?_))))))) (fun _ => pst_cl (fun y s e => pst_some (kp_fail h _ e)))
  have h1 : kpD H0 (hS (hS H 2 (H.1 3 (H.1 5 0 x) 0) 3 ((H.1 2 (H.1 3 (H.1 5 0 x) 0) 3) - (H.1 5 1 x))) 2 (H.1 3 (H.1 5 0 x) 0) 5 (((hS H 2 (H.1 3 (H.1 5 0 x) 0) 3 ((H.1 2 (H.1 3 (H.1 5 0 x) 0) 3) - (H.1 5 1 x))).1 2 (H.1 3 (H.1 5 0 x) 0) 5) + (H.1 5 1 x))) := by
    refine kpD.out (v := H.1 5 1 x) h rfl (Or.inl rfl) rfl ?_
    rw [hS_n H (by omega)]
  revert h1
  generalize (hS (hS H 2 (H.1 3 (H.1 5 0 x) 0) 3 ((H.1 2 (H.1 3 (H.1 5 0 x) 0) 3) - (H.1 5 1 x))) 2 (H.1 3 (H.1 5 0 x) 0) 5 (((hS H 2 (H.1 3 (H.1 5 0 x) 0) 3 ((H.1 2 (H.1 3 (H.1 5 0 x) 0) 3) - (H.1 5 1 x))).1 2 (H.1 3 (H.1 5 0 x) 0) 5) + (H.1 5 1 x))) = H84
  intro h1
  refine pst_if (fun _ => kp_try138 h1) (fun _ => pst_gd (fun _ => pst_gd (fun _ => pst_bnd (pst_gd (fun _ => pst_gd (fun _ => pst_bnd (kp_try138 ?_)))))))
  refine kpD.into (v := H.1 5 1 x) h1 (hS_n _ (by omega)) (Or.inr (Or.inl rfl)) rfl ?_
  rw [hS_n H84 (t' := 3) (by omega), hS_n H84 (by omega)]
theorem kp_payOf2 {H0 : hR} : ∀ (fuel : Nat) (a b : Int) (H : hR), kpD H0 H → Pst (fun p => kpD H0 p.2) (fX2_payWaitingOf_b2 fuel a b H)
  | 0, _, _, _, _ => fun p e => by cases e
  | fuel + 1, a, b, H, h => by
    unfold fX2_payWaitingOf_b2
    exact pst_gd (fun _ => pst_if (fun _ => pst_some h) (fun _ => pst_gd (fun _ => pst_gd (fun _ => pst_gd (fun _ => pst_if (fun _ => pst_cl (fun y s e => kp_payOf2 fuel _ _ _ (kp_try h _ e))) (fun _ => kp_payOf2 fuel _ _ _ h))))))
theorem kp_pay48 {H0 : hR} : ∀ (fuel : Nat) (a b : Int) (H : hR), kpD H0 H → Pst (fun p => kpD H0 p.2) (fX2_payWaiting_b48 fuel a b H)
  | 0, _, _, _, _ => fun p e => by cases e
  | fuel + 1, a, b, H, h => by
    unfold fX2_payWaiting_b48 fX2_payWaitingOf
    exact pst_gd (fun _ => pst_if (fun _ => pst_cl (fun y s e => pst_some (kp_drop h _ e))) (fun _ => pst_gd (fun _ => pst_if (fun _ => kp_pay48 fuel _ _ _ h) (fun _ => pst_cl (fun y s e => kp_pay48 fuel _ _ _ (kp_payOf2 fuel0 _ _ _ h _ e))))))
theorem kp_pay4 {H0 : hR} : ∀ (fuel : Nat) (a b : Int) (H : hR), kpD H0 H → Pst (fun p => kpD H0 p.2) (fX2_payWaiting_b4 fuel a b H)
  | 0, _, _, _, _ => fun p e => by cases e
  | fuel + 1, a, b, H, h => by
    unfold fX2_payWaiting_b4
    exact pst_gd (fun _ => pst_if (fun _ => kp_pay48 fuel0 _ _ _ h) (fun _ => pst_gd (fun _ => pst_gd (fun _ => kp_pay4 fuel _ _ _ h))))
theorem kp_interest1 {H0 H : hR} {i : Int} (h : kpD H0 H) : Pst (fun p => kpD H0 p.2) (fX0_takeInterest i H) := by
  unfold fX0_takeInterest
  refine pst_bnd (pst_bnd (pst_gd (fun _ => pst_bnd (pst_some ?_))))
  refine kpD.d ?_
  refine kpD.out (v := d2lI (H.2 i)) h rfl (Or.inr (Or.inr (Or.inr rfl))) rfl ?_
  rw [hS_n H (by omega)]
theorem kp_int85 {H0 H : hR} {rec35 : UInt32 → Int → Int → hR → Option (Unit × hR)} (hr : ∀ y a b H, kpD H0 H → Pst (fun p => kpD H0 p.2) (rec35 y a b H)) {y : UInt32} {a b c : Int} (h : kpD H0 H) : Pst (fun p => kpD H0 p.2) (fX2_chargeInterest_b85 rec35 y a b c H) := by
  unfold fX2_chargeInterest_b85
  exact pst_gd (fun _ => pst_if (fun _ => hr _ _ _ _ h) (fun _ => pst_cl (fun y s e => hr _ _ _ _ (kp_interest1 h _ e))))
theorem kp_int35 {H0 : hR} : ∀ (fuel : Nat) (y : UInt32) (a b : Int) (H : hR), kpD H0 H → Pst (fun p => kpD H0 p.2) (fX2_chargeInterest_b35 fuel y a b H)
  | 0, _, _, _, _, _ => fun p e => by cases e
  | fuel + 1, y, a, b, H, h => by
    unfold fX2_chargeInterest_b35
    exact pst_gd (fun _ => pst_if (fun _ => pst_some h) (fun _ => pst_gd (fun _ => pst_gd (fun _ => pst_if (fun _ => kp_int85 (fun y a b H => kp_int35 fuel y a b H) h) (fun _ => pst_gd (fun _ => pst_gd (fun _ => pst_gd (fun _ => pst_gd (fun _ => pst_bnd (kp_int85 (fun y a b H => kp_int35 fuel y a b H) h.d))))))))))
theorem kp_interest {H0 H : hR} (h : kpD H0 H) : Pst (fun p => kpD H0 p.2) (fX2_chargeInterest H) := by
  unfold fX2_chargeInterest
  (repeat' (first | (with_reducible refine pst_gd (fun _ => ?_)) | (with_reducible refine pst_cr (fun _ _ => ?_)) | (with_reducible refine pst_if (fun _ => ?_) (fun _ => ?_)) | (with_reducible refine pst_clb ?_) | (with_reducible refine pst_cls ?_) | (with_reducible refine pst_bnd ?_) | (with_reducible refine pst_some ?_)))
  all_goals (first | exact kp_int35 fuel0 _ _ _ _ h)
theorem kp_days77 {H0 H : hR} {rec31 : Int → Int → Int → hR → Option (Int × hR)} (hr : ∀ a b c H, kpD H0 H → Pst (fun p => kpD H0 p.2) (rec31 a b c H)) {a b c : Int} (h : kpD H0 H) : Pst (fun p => kpD H0 p.2) (fX2_passDays_b77 rec31 a b c H) := by
  unfold fX2_passDays_b77
  refine pst_cl (fun y s e => pst_bnd (pst_gd (fun _ => ?_)))
  have h1 : kpD H0 (hS s 0 6 0 (s.1 0 6 0 + 1)) := (kp_interest h _ e : kpD H0 s).s (by omega)
  exact pst_if (fun _ => hr _ _ _ _ h1) (fun _ => pst_some h1)
theorem kp_days31 {H0 : hR} : ∀ (fuel : Nat) (a b c : Int) (H : hR), kpD H0 H → Pst (fun p => kpD H0 p.2) (fX2_passDays_b31 fuel a b c H)
  | 0, _, _, _, _, _ => fun p e => by cases e
  | fuel + 1, a, b, c, H, h => by
    unfold fX2_passDays_b31
    refine pst_gd (fun _ => pst_if (fun _ => pst_some h) (fun _ => pst_gd (fun _ => pst_if (fun _ => pst_some h) (fun _ => pst_bnd (pst_cl (fun y s e => pst_cl (fun y2 s2 e2 => pst_cr (fun _ _ => pst_gd (fun _ => ?_)))))))))
    have h1 : kpD H0 s := kp_due (h.s (by omega)) _ e
    have h2 : kpD H0 s2 := kp_sweep h1 _ e2
    refine pst_if (fun _ => kp_days77 (fun a b c H => kp_days31 fuel a b c H) h2) (fun _ => pst_cl (fun y3 s3 e3 => kp_days77 (fun a b c H => kp_days31 fuel a b c H) ?_))
    unfold fX2_payWaiting at e3
    exact kp_pay4 fuel0 _ _ _ h2 _ e3
theorem kp_days2 {H0 : hR} : ∀ (fuel : Nat) (a b c : Int) (H : hR), kpD H0 H → Pst (fun p => kpD H0 p.2) (fX2_passDays_b2 fuel a b c H)
  | 0, _, _, _, _, _ => fun p e => by cases e
  | fuel + 1, a, b, c, H, h => by
    unfold fX2_passDays_b2
    exact pst_gd (fun _ => pst_if (fun _ => kp_days31 fuel0 _ _ _ _ h) (fun _ => pst_gd (fun _ => pst_cl (fun y s e => kp_days2 fuel _ _ _ _ (kp_aim h _ e)))))
theorem kp_days {H0 H : hR} {a b : Int} (h : kpD H0 H) : Pst (fun p => kpD H0 p.2) (fX2_passDays a b H) := by
  unfold fX2_passDays
  exact kp_days2 fuel0 _ _ _ _ h

/-! ===== what stop and goOn leave ===== -/
theorem x_aimN {o : Int} {H : hR} : Pst (fun p => p.2.1 0 5 0 = H.1 0 5 0) (fX3_aim o H) := by
  unfold fX3_aim fX3_aim_b64 fX3_aim_b92
  repeat' (first | (with_reducible refine pst_gd (fun _ => ?_)) | (with_reducible refine pst_cr (fun _ _ => ?_)) | (with_reducible refine pst_if (fun _ => ?_) (fun _ => ?_)) | (with_reducible refine pst_bnd ?_) | (with_reducible refine pst_some ?_))
  all_goals
    repeat rw [hS_n _ (by omega)]
theorem x_leaveN {o t : Int} : ∀ (fuel : Nat) (cnt i : Int) (H : hR), Pst (fun p => cnt ≤ p.1 ∧ p.2.1 0 5 0 = H.1 0 5 0) (fX3_leaveOutBefore_b10 fuel o t cnt i H)
  | 0, _, _, _ => fun x e => by cases e
  | fuel + 1, cnt, i, H => by
    unfold fX3_leaveOutBefore_b10
    refine pst_gd (fun _ => pst_if (fun _ => pst_some ⟨Int.le_refl _, rfl⟩) (fun _ => pst_gd (fun _ => pst_if (fun _ => pst_some ⟨Int.le_refl _, rfl⟩) (fun _ => pst_bnd (pst_cl (fun y H1 q p e => ?_))))))
    obtain ⟨w1, w2⟩ := x_leaveN fuel (cnt + 1) (i + 1) H1 p e
    have w3 : H1.1 0 5 0 = (hS H 3 o 16 (H.1 3 o 17 + 1)).1 0 5 0 := x_aimN _ q
    rw [hS_n H (by omega)] at w3
    exact ⟨by omega, w2.trans w3⟩
theorem n_stop {T o : Int} {H : hR} (hk : Ok T H) : Pst (fun p => -5 ≤ p.1 ∧ p.2.1 0 5 0 = H.1 0 5 0) (fX2_stopOrder o H) := by
  unfold fX2_stopOrder
  refine pst_cr (fun y1 q1 => pst_gd (fun _ => pst_if (fun _ => pst_some ⟨by show (-5 : Int) ≤ -1; decide, rfl⟩) (fun n1 => pst_gd (fun _ => pst_gd (fun _ => pst_if (fun _ => pst_gd (fun _ => pst_bnd (pst_gd (fun _ => pst_some ?_)))) (fun _ => pst_some ⟨Int.le_refl _, rfl⟩))))))
  have ho := hasO_inv q1 n1
  have w := (hk.2.2.2.1 o ho).2.2
  unfold okC at w
  show -5 ≤ (hS H 3 o 11 1).1 3 o 15 ∧ (hS H 3 o 11 1).1 0 5 0 = H.1 0 5 0
  rw [hS_n H (by omega), hS_n H (by omega)]
  omega
theorem n_goOn {o : Int} {H : hR} : Pst (fun p => -5 ≤ p.1 ∧ p.2.1 0 5 0 = H.1 0 5 0) (fX2_resumeOrder o H) := by
  unfold fX2_resumeOrder fX3_leaveOutBefore
  refine pst_cr (fun y1 q1 => pst_gd (fun _ => pst_if (fun _ => pst_some ⟨by show (-5 : Int) ≤ -1; decide, rfl⟩) (fun _ => pst_gd (fun _ => pst_gd (fun _ => pst_if (fun _ => pst_gd (fun _ => pst_bnd (pst_gd (fun _ => pst_cl (fun r H' q => pst_some ?_))))) (fun _ => pst_some ⟨Int.le_refl _, rfl⟩))))))
  obtain ⟨y, H1, q2, q3⟩ := cl_inv q
  obtain ⟨w1, w2⟩ := x_leaveN fuel0 0 0 H1 _ q3
  have w1 : 0 ≤ r := w1
  have w2 : H'.1 0 5 0 = H1.1 0 5 0 := w2
  have w3 : H1.1 0 5 0 = (hS H 3 o 11 0).1 0 5 0 := x_aimN _ q2
  rw [hS_n H (by omega)] at w3
  show -5 ≤ r ∧ H'.1 0 5 0 = H.1 0 5 0
  omega

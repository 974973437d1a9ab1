/-! ===== the methods meet their functions (by program: wip/p33/gen.py) ===== -/
set_option maxRecDepth 100000 in
set_option maxHeartbeats 4000000 in
theorem pX0_open {E : wE} {n : Nat} (hE : wGE E) {G : gR} {k : Int} (hk : 0 ≤ k ∧ k < 11) (i : Int) (x1 : Int) (x2 : Int) (hbi : 0 ≤ i ∧ i < 8) (H : hR) (ca : caT) : WF E n yX0_open cX0_open 3 (none) vV (setH G k) ca 0 (wArgs [.ref (aAcc E k i), .int (iI x1), .int (iI x2)]) [] H (fX0_open i x1 x2 H) := by
  unfold fX0_open
  refine wf_aload_n dX0_open_0 rfl ?_
  refine wf_iload_n dX0_open_1 rfl ?_
  refine wf_p_acci (f := 0) dX0_open_2 p_RX0_9 hk (by omega) (fun H2 => ?_)
  refine wf_aload_n dX0_open_5 rfl ?_
  refine wf_iload_n dX0_open_6 rfl ?_
  refine wf_p_acci (f := 1) dX0_open_7 p_RX0_15 hk (by omega) (fun H7 => ?_)
  refine wf_aload_n dX0_open_10 rfl ?_
  refine wf_bipush dX0_open_11 ?_
  refine wf_p_acci (f := 2) dX0_open_13 p_RX0_18 hk (by omega) (fun H13 => ?_)
  refine wf_aload_n dX0_open_16 rfl ?_
  refine wf_lconst0 dX0_open_17 ?_
  refine wf_p_accl (f := 3) dX0_open_18 p_RX0_21 hk (by omega) (fun H18 => ?_)
  refine wf_aload_n dX0_open_21 rfl ?_
  refine wf_lconst0 dX0_open_22 ?_
  refine wf_p_accl (f := 4) dX0_open_23 p_RX0_25 hk (by omega) (fun H23 => ?_)
  refine wf_aload_n dX0_open_26 rfl ?_
  refine wf_lconst0 dX0_open_27 ?_
  refine wf_p_accl (f := 5) dX0_open_28 p_RX0_28 hk (by omega) (fun H28 => ?_)
  refine wf_aload_n dX0_open_31 rfl ?_
  refine wf_lconst0 dX0_open_32 ?_
  refine wf_p_accl (f := 6) dX0_open_33 p_RX0_31 hk (by omega) (fun H33 => ?_)
  refine wf_aload_n dX0_open_36 rfl ?_
  refine wf_lconst0 dX0_open_37 ?_
  refine wf_p_accl (f := 7) dX0_open_38 p_RX0_34 hk (by omega) (fun H38 => ?_)
  refine wf_aload_n dX0_open_41 rfl ?_
  refine wf_lconst0 dX0_open_42 ?_
  refine wf_p_accl (f := 8) dX0_open_43 p_RX0_37 hk (by omega) (fun H43 => ?_)
  refine wf_aload_n dX0_open_46 rfl ?_
  refine wf_lconst0 dX0_open_47 ?_
  refine wf_p_accl (f := 9) dX0_open_48 p_RX0_40 hk (by omega) (fun H48 => ?_)
  refine wf_aload_n dX0_open_51 rfl ?_
  refine wf_lconst0 dX0_open_52 ?_
  refine wf_p_accl (f := 10) dX0_open_53 p_RX0_43 hk (by omega) (fun H53 => ?_)
  refine wf_aload_n dX0_open_56 rfl ?_
  refine wf_lconst0 dX0_open_57 ?_
  refine wf_p_accl (f := 11) dX0_open_58 p_RX0_46 hk (by omega) (fun H58 => ?_)
  refine wf_aload_n dX0_open_61 rfl ?_
  refine wf_dconst0 dX0_open_62 ?_
  refine wf_p_accd dX0_open_63 p_RX0_49 hk (by omega) (fun H63 => ?_)
  exact wf_return dX0_open_66 rfl
set_option maxRecDepth 100000 in
set_option maxHeartbeats 4000000 in
theorem pX6_isBetween {E : wE} {n : Nat} (hE : wGE E) {h : hW} (x0 : Int) (x1 : Int) (x2 : Int)  : WR E n yX6_isBetween cX6_isBetween 3 (some .boolean) vI h 0 (wArgs [.int (iI x0), .int (iI x1), .int (iI x2)]) [] (fX6_isBetween x0 x1 x2) := by
  unfold fX6_isBetween
  refine wr_iload_n dX6_isBetween_0 rfl ?_
  refine wr_iload_n dX6_isBetween_1 rfl ?_
  refine wr_gd (fun g2 => ?_)
  refine wr_icmp_lt 14 dX6_isBetween_2 g2.1 g2.2 (fun h2 => ?_) (fun h2 => ?_)
  · refine wr_iconst dX6_isBetween_14 ?_
    exact wr_ireturn dX6_isBetween_15 ⟨_, rfl, rfl⟩
  · refine wr_iload_n dX6_isBetween_5 rfl ?_
    refine wr_iload_n dX6_isBetween_6 rfl ?_
    refine wr_gd (fun g7 => ?_)
    refine wr_icmp_gt 14 dX6_isBetween_7 g7.1 g7.2 (fun h7 => ?_) (fun h7 => ?_)
    · refine wr_iconst dX6_isBetween_14 ?_
      exact wr_ireturn dX6_isBetween_15 ⟨_, rfl, rfl⟩
    · refine wr_iconst dX6_isBetween_10 ?_
      refine wr_goto 15 dX6_isBetween_11 ?_
      exact wr_ireturn dX6_isBetween_15 ⟨_, rfl, rfl⟩
set_option maxRecDepth 100000 in
set_option maxHeartbeats 4000000 in
theorem pX2_addAccount {E : wE} {n : Nat} (hE : wGE E) {G : gR} {k : Int} (hk : 0 ≤ k ∧ k < 11) (x1 : Int) (x2 : Int)  (H : hR) (ca : caT) : WF E (n + 1) yX2_addAccount cX2_addAccount 3 (some .int) vI (setH G k) ca 0 (wArgs [.ref (aH E k), .int (iI x1), .int (iI x2)]) [] H (fX2_addAccount x1 x2 H) := by
  unfold fX2_addAccount
  refine wf_iload_n dX2_addAccount_0 rfl ?_
  refine wf_iconst dX2_addAccount_1 ?_
  refine wf_ldc dX2_addAccount_2 c_RX2_92 ?_
  refine wf_rSN dX2_addAccount_4 k_RX2_77 b_yX6_isBetween x_yX6_isBetween (fun h hr => pX6_isBetween (n := n) hE x1 0 1000000) (fun r4 => ?_)
  refine wf_gd (fun g7 => ?_)
  refine wf_if_eq 20 dX2_addAccount_7 g7 (fun h7 => ?_) (fun h7 => ?_)
  · refine wf_bipush dX2_addAccount_20 ?_
    exact wf_ireturn dX2_addAccount_22 ⟨_, rfl, rfl⟩
  · refine wf_iload_n dX2_addAccount_10 rfl ?_
    refine wf_iconst dX2_addAccount_11 ?_
    refine wf_ldc dX2_addAccount_12 c_RX2_92 ?_
    refine wf_rSN dX2_addAccount_14 k_RX2_77 b_yX6_isBetween x_yX6_isBetween (fun h hr => pX6_isBetween (n := n) hE x2 0 1000000) (fun r14 => ?_)
    refine wf_gd (fun g17 => ?_)
    refine wf_if_ne 23 dX2_addAccount_17 g17 (fun h17 => ?_) (fun h17 => ?_)
    · refine wf_aload_n dX2_addAccount_23 rfl ?_
      refine wf_get dX2_addAccount_24 f_RX2_53 (fun h hr => rd_h hr setH_at hk) ?_
      refine wf_bipush dX2_addAccount_27 ?_
      refine wf_gd (fun g29 => ?_)
      refine wf_icmp_lt 35 dX2_addAccount_29 g29 (by decide) (fun h29 => ?_) (fun h29 => ?_)
      · refine wf_aload_n dX2_addAccount_35 rfl ?_
        refine wf_get dX2_addAccount_36 f_RX2_20 (fun h hr => rd_h hr setH_at hk) ?_
        refine wf_aload_n dX2_addAccount_39 rfl ?_
        refine wf_get dX2_addAccount_40 f_RX2_53 (fun h hr => rd_h hr setH_at hk) ?_
        refine wf_gd (fun g43 => ?_)
        refine wf_aald_acc dX2_addAccount_43 g43 (fun h hr => rd_accs hr setH_at hk) ?_
        refine wf_iload_n dX2_addAccount_44 rfl ?_
        refine wf_iload_n dX2_addAccount_45 rfl ?_
        refine wf_cV (put := fun q => q) dX2_addAccount_46 k_RX2_93 b_yX0_open x_yX0_open (pX0_open (n := n) hE (G := G) (k := k) hk (H.1 0 4 0) x1 x2 (by omega) _ _) rfl (fun _ => rfl) (fun h hr => rd_acc hr setH_at hk (by omega)) rfl (fun r46 H46 ca => ?_)
        refine wf_aload_n dX2_addAccount_49 rfl ?_
        refine wf_dup dX2_addAccount_50 ?_
        refine wf_get dX2_addAccount_51 f_RX2_53 (fun h hr => rd_h hr setH_at hk) ?_
        refine wf_iconst dX2_addAccount_54 ?_
        refine wf_iadd dX2_addAccount_55 ?_
        refine wf_p_h (f := 4) dX2_addAccount_56 p_RX2_53 hk (fun H56 => ?_)
        refine wf_aload_n dX2_addAccount_59 rfl ?_
        refine wf_get dX2_addAccount_60 f_RX2_53 (fun h hr => rd_h hr setH_at hk) ?_
        refine wf_iconst dX2_addAccount_63 ?_
        refine wf_isub dX2_addAccount_64 ?_
        exact wf_ireturn dX2_addAccount_65 ⟨_, rfl, rfl⟩
      · refine wf_bipush dX2_addAccount_32 ?_
        exact wf_ireturn dX2_addAccount_34 ⟨_, rfl, rfl⟩
    · refine wf_bipush dX2_addAccount_20 ?_
      exact wf_ireturn dX2_addAccount_22 ⟨_, rfl, rfl⟩
set_option maxRecDepth 100000 in
set_option maxHeartbeats 4000000 in
theorem pX6_isError {E : wE} {n : Nat} (hE : wGE E) {h : hW} (x0 : Int)  : WR E (n + 1) yX6_isError cX6_isError 1 (some .boolean) vI h 0 (wArgs [.int (iI x0)]) [] (fX6_isError x0) := by
  unfold fX6_isError
  refine wr_iload_n dX6_isError_0 rfl ?_
  refine wr_bipush dX6_isError_1 ?_
  refine wr_iconst dX6_isError_3 ?_
  refine wr_cS dX6_isError_4 k_RX6_93 b_yX6_isBetween x_yX6_isBetween (pX6_isBetween (n := n) hE x0 (-5) (-1)) (fun r4 => ?_)
  refine wr_gd (fun g7 => ?_)
  exact wr_ireturn dX6_isError_7 ⟨_, rfl, nar_z g7⟩
set_option maxRecDepth 100000 in
set_option maxHeartbeats 4000000 in
theorem pX6_recorded {E : wE} {n : Nat} (hE : wGE E) {M : mR} (x1 : Int)  (c : cR) (ca : caT) : WF E (n + 2) yX6_recorded cX6_recorded 2 (some .int) vI (fun c : cR => (c, M)) ca 0 (wArgs [.ref (aTop E), .int (iI x1)]) [] c (fX6_recorded x1 c) := by
  unfold fX6_recorded
  refine wf_iload_n dX6_recorded_0 rfl ?_
  refine wf_rS dX6_recorded_1 k_RX6_209 b_yX6_isError x_yX6_isError (fun h hr => pX6_isError (n := n) hE x1) (fun r1 => ?_)
  refine wf_gd (fun g4 => ?_)
  refine wf_if_eq 9 dX6_recorded_4 g4 (fun h4 => ?_) (fun h4 => ?_)
  · refine wf_aload_n dX6_recorded_9 rfl ?_
    refine wf_get dX6_recorded_10 f_RX6_154 (fun h hr => rd_top hr) ?_
    refine wf_bipush dX6_recorded_13 ?_
    refine wf_gd (fun g15 => ?_)
    refine wf_icmp_ge 31 dX6_recorded_15 g15 (by decide) (fun h15 => ?_) (fun h15 => ?_)
    · refine wf_aload_n dX6_recorded_31 rfl ?_
      refine wf_aload_n dX6_recorded_32 rfl ?_
      refine wf_get dX6_recorded_33 f_RX6_216 (fun h hr => rd_top hr) ?_
      refine wf_iconst dX6_recorded_36 ?_
      refine wf_iadd dX6_recorded_37 ?_
      refine wf_bipush dX6_recorded_38 ?_
      refine wf_gd (fun g40 => ?_)
      refine wf_irem dX6_recorded_40 g40 (by decide) ?_
      refine wf_p_topf (f := 3) dX6_recorded_41 p_RX6_216 (fun c41 => ?_)
      refine wf_iload_n dX6_recorded_44 rfl ?_
      exact wf_ireturn dX6_recorded_45 ⟨_, rfl, rfl⟩
    · refine wf_aload_n dX6_recorded_18 rfl ?_
      refine wf_dup dX6_recorded_19 ?_
      refine wf_get dX6_recorded_20 f_RX6_154 (fun h hr => rd_top hr) ?_
      refine wf_iconst dX6_recorded_23 ?_
      refine wf_iadd dX6_recorded_24 ?_
      refine wf_p_topf (f := 4) dX6_recorded_25 p_RX6_154 (fun c25 => ?_)
      refine wf_goto 44 dX6_recorded_28 ?_
      refine wf_iload_n dX6_recorded_44 rfl ?_
      exact wf_ireturn dX6_recorded_45 ⟨_, rfl, rfl⟩
  · refine wf_iload_n dX6_recorded_7 rfl ?_
    exact wf_ireturn dX6_recorded_8 ⟨_, rfl, rfl⟩
set_option maxRecDepth 100000 in
set_option maxHeartbeats 4000000 in
theorem pX0_copyFrom {E : wE} {n : Nat} (hE : wGE E) {G : gR} {k : Int} (hk : 0 ≤ k ∧ k < 11) {k2 : Int} {H2 : hR} (hk2 : 0 ≤ k2 ∧ k2 < 11) (hne : ¬ k2 = k) (hH2 : G.1.1 k2 = H2) (i : Int) (x1 : Int) (hbi : 0 ≤ i ∧ i < 8) (hbx1 : 0 ≤ x1 ∧ x1 < 8) (H : hR) (ca : caT) : WF E n yX0_copyFrom cX0_copyFrom 2 (none) vV (setH G k) ca 0 (wArgs [.ref (aAcc E k i), .ref (aAcc E k2 x1)]) [] H (fX0_copyFrom H2 i x1 H) := by
  unfold fX0_copyFrom
  refine wf_aload_n dX0_copyFrom_0 rfl ?_
  refine wf_aload_n dX0_copyFrom_1 rfl ?_
  refine wf_get dX0_copyFrom_2 f_RX0_9 (fun h hr => rd_acc hr ((setH_ne hne).trans hH2) hk2 (by omega)) ?_
  refine wf_p_acci (f := 0) dX0_copyFrom_5 p_RX0_9 hk (by omega) (fun H5 => ?_)
  refine wf_aload_n dX0_copyFrom_8 rfl ?_
  refine wf_aload_n dX0_copyFrom_9 rfl ?_
  refine wf_get dX0_copyFrom_10 f_RX0_15 (fun h hr => rd_acc hr ((setH_ne hne).trans hH2) hk2 (by omega)) ?_
  refine wf_p_acci (f := 1) dX0_copyFrom_13 p_RX0_15 hk (by omega) (fun H13 => ?_)
  refine wf_aload_n dX0_copyFrom_16 rfl ?_
  refine wf_aload_n dX0_copyFrom_17 rfl ?_
  refine wf_get dX0_copyFrom_18 f_RX0_18 (fun h hr => rd_acc hr ((setH_ne hne).trans hH2) hk2 (by omega)) ?_
  refine wf_p_acci (f := 2) dX0_copyFrom_21 p_RX0_18 hk (by omega) (fun H21 => ?_)
  refine wf_aload_n dX0_copyFrom_24 rfl ?_
  refine wf_aload_n dX0_copyFrom_25 rfl ?_
  refine wf_get dX0_copyFrom_26 f_RX0_21 (fun h hr => rd_acc hr ((setH_ne hne).trans hH2) hk2 (by omega)) ?_
  refine wf_p_accl (f := 3) dX0_copyFrom_29 p_RX0_21 hk (by omega) (fun H29 => ?_)
  refine wf_aload_n dX0_copyFrom_32 rfl ?_
  refine wf_aload_n dX0_copyFrom_33 rfl ?_
  refine wf_get dX0_copyFrom_34 f_RX0_25 (fun h hr => rd_acc hr ((setH_ne hne).trans hH2) hk2 (by omega)) ?_
  refine wf_p_accl (f := 4) dX0_copyFrom_37 p_RX0_25 hk (by omega) (fun H37 => ?_)
  refine wf_aload_n dX0_copyFrom_40 rfl ?_
  refine wf_aload_n dX0_copyFrom_41 rfl ?_
  refine wf_get dX0_copyFrom_42 f_RX0_28 (fun h hr => rd_acc hr ((setH_ne hne).trans hH2) hk2 (by omega)) ?_
  refine wf_p_accl (f := 5) dX0_copyFrom_45 p_RX0_28 hk (by omega) (fun H45 => ?_)
  refine wf_aload_n dX0_copyFrom_48 rfl ?_
  refine wf_aload_n dX0_copyFrom_49 rfl ?_
  refine wf_get dX0_copyFrom_50 f_RX0_31 (fun h hr => rd_acc hr ((setH_ne hne).trans hH2) hk2 (by omega)) ?_
  refine wf_p_accl (f := 6) dX0_copyFrom_53 p_RX0_31 hk (by omega) (fun H53 => ?_)
  refine wf_aload_n dX0_copyFrom_56 rfl ?_
  refine wf_aload_n dX0_copyFrom_57 rfl ?_
  refine wf_get dX0_copyFrom_58 f_RX0_34 (fun h hr => rd_acc hr ((setH_ne hne).trans hH2) hk2 (by omega)) ?_
  refine wf_p_accl (f := 7) dX0_copyFrom_61 p_RX0_34 hk (by omega) (fun H61 => ?_)
  refine wf_aload_n dX0_copyFrom_64 rfl ?_
  refine wf_aload_n dX0_copyFrom_65 rfl ?_
  refine wf_get dX0_copyFrom_66 f_RX0_37 (fun h hr => rd_acc hr ((setH_ne hne).trans hH2) hk2 (by omega)) ?_
  refine wf_p_accl (f := 8) dX0_copyFrom_69 p_RX0_37 hk (by omega) (fun H69 => ?_)
  refine wf_aload_n dX0_copyFrom_72 rfl ?_
  refine wf_aload_n dX0_copyFrom_73 rfl ?_
  refine wf_get dX0_copyFrom_74 f_RX0_40 (fun h hr => rd_acc hr ((setH_ne hne).trans hH2) hk2 (by omega)) ?_
  refine wf_p_accl (f := 9) dX0_copyFrom_77 p_RX0_40 hk (by omega) (fun H77 => ?_)
  refine wf_aload_n dX0_copyFrom_80 rfl ?_
  refine wf_aload_n dX0_copyFrom_81 rfl ?_
  refine wf_get dX0_copyFrom_82 f_RX0_43 (fun h hr => rd_acc hr ((setH_ne hne).trans hH2) hk2 (by omega)) ?_
  refine wf_p_accl (f := 10) dX0_copyFrom_85 p_RX0_43 hk (by omega) (fun H85 => ?_)
  refine wf_aload_n dX0_copyFrom_88 rfl ?_
  refine wf_aload_n dX0_copyFrom_89 rfl ?_
  refine wf_get dX0_copyFrom_90 f_RX0_46 (fun h hr => rd_acc hr ((setH_ne hne).trans hH2) hk2 (by omega)) ?_
  refine wf_p_accl (f := 11) dX0_copyFrom_93 p_RX0_46 hk (by omega) (fun H93 => ?_)
  refine wf_aload_n dX0_copyFrom_96 rfl ?_
  refine wf_aload_n dX0_copyFrom_97 rfl ?_
  refine wf_get dX0_copyFrom_98 f_RX0_49 (fun h hr => rd_acc hr ((setH_ne hne).trans hH2) hk2 (by omega)) ?_
  refine wf_p_accd dX0_copyFrom_101 p_RX0_49 hk (by omega) (fun H101 => ?_)
  exact wf_return dX0_copyFrom_104 rfl
set_option maxRecDepth 100000 in
set_option maxHeartbeats 4000000 in
theorem pX1_copyFrom {E : wE} {n : Nat} (hE : wGE E) {G : gR} {k : Int} (hk : 0 ≤ k ∧ k < 11) {k2 : Int} {H2 : hR} (hk2 : 0 ≤ k2 ∧ k2 < 11) (hne : ¬ k2 = k) (hH2 : G.1.1 k2 = H2)   (H : hR) (ca : caT) : WF E (n + 1) yX1_copyFrom cX1_copyFrom 2 (none) vV (setH G k) ca 0 (wArgs [.ref (aCal E k), .ref (aCal E k2)]) [] H (fX1_copyFrom H2  H) := by
  unfold fX1_copyFrom
  refine wf_aload_n dX1_copyFrom_0 rfl ?_
  refine wf_get dX1_copyFrom_1 f_RX1_9 (fun h hr => rd_cal hr ((setH_ne hne).trans hH2) hk2) ?_
  refine wf_iconst dX1_copyFrom_4 ?_
  refine wf_aload_n dX1_copyFrom_5 rfl ?_
  refine wf_get dX1_copyFrom_6 f_RX1_9 (fun h hr => rd_cal hr setH_at hk) ?_
  refine wf_iconst dX1_copyFrom_9 ?_
  refine wf_aload_n dX1_copyFrom_10 rfl ?_
  refine wf_get dX1_copyFrom_11 f_RX1_9 (fun h hr => rd_cal hr setH_at hk) ?_
  refine wf_alen (N := 18) dX1_copyFrom_14 ?_ (fun h hr => ⟨_, rd_bits hr setH_at hk⟩)
  refine wf_cpyB dX1_copyFrom_15 k_RX1_15 hk hk2 hne hH2 (Nat.le_of_ble_eq_true rfl) (fun H15 => ?_)
  refine wf_aload_n dX1_copyFrom_18 rfl ?_
  refine wf_aload_n dX1_copyFrom_19 rfl ?_
  refine wf_get dX1_copyFrom_20 f_RX1_21 (fun h hr => rd_cal hr ((setH_ne hne).trans hH2) hk2) ?_
  refine wf_p_cal (f := 1) dX1_copyFrom_23 p_RX1_21 hk (fun H23 => ?_)
  refine wf_aload_n dX1_copyFrom_26 rfl ?_
  refine wf_aload_n dX1_copyFrom_27 rfl ?_
  refine wf_get dX1_copyFrom_28 f_RX1_25 (fun h hr => rd_cal hr ((setH_ne hne).trans hH2) hk2) ?_
  refine wf_p_cal (f := 2) dX1_copyFrom_31 p_RX1_25 hk (fun H31 => ?_)
  exact wf_return dX1_copyFrom_34 rfl
set_option maxRecDepth 100000 in
set_option maxHeartbeats 4000000 in
theorem pX3_copyFrom {E : wE} {n : Nat} (hE : wGE E) {G : gR} {k : Int} (hk : 0 ≤ k ∧ k < 11) {k2 : Int} {H2 : hR} (hk2 : 0 ≤ k2 ∧ k2 < 11) (hne : ¬ k2 = k) (hH2 : G.1.1 k2 = H2) (i : Int) (x1 : Int) (hbi : 0 ≤ i ∧ i < 16) (hbx1 : 0 ≤ x1 ∧ x1 < 16) (H : hR) (ca : caT) : WF E n yX3_copyFrom cX3_copyFrom 2 (none) vV (setH G k) ca 0 (wArgs [.ref (aOrd E k i), .ref (aOrd E k2 x1)]) [] H (fX3_copyFrom H2 i x1 H) := by
  unfold fX3_copyFrom
  refine wf_aload_n dX3_copyFrom_0 rfl ?_
  refine wf_aload_n dX3_copyFrom_1 rfl ?_
  refine wf_get dX3_copyFrom_2 f_RX3_9 (fun h hr => rd_ord hr ((setH_ne hne).trans hH2) hk2 (by omega)) ?_
  refine wf_p_ord (f := 0) dX3_copyFrom_5 p_RX3_9 hk (by omega) (fun H5 => ?_)
  refine wf_aload_n dX3_copyFrom_8 rfl ?_
  refine wf_aload_n dX3_copyFrom_9 rfl ?_
  refine wf_get dX3_copyFrom_10 f_RX3_15 (fun h hr => rd_ord hr ((setH_ne hne).trans hH2) hk2 (by omega)) ?_
  refine wf_p_ord (f := 1) dX3_copyFrom_13 p_RX3_15 hk (by omega) (fun H13 => ?_)
  refine wf_aload_n dX3_copyFrom_16 rfl ?_
  refine wf_aload_n dX3_copyFrom_17 rfl ?_
  refine wf_get dX3_copyFrom_18 f_RX3_18 (fun h hr => rd_ord hr ((setH_ne hne).trans hH2) hk2 (by omega)) ?_
  refine wf_p_ord (f := 2) dX3_copyFrom_21 p_RX3_18 hk (by omega) (fun H21 => ?_)
  refine wf_aload_n dX3_copyFrom_24 rfl ?_
  refine wf_aload_n dX3_copyFrom_25 rfl ?_
  refine wf_get dX3_copyFrom_26 f_RX3_21 (fun h hr => rd_ord hr ((setH_ne hne).trans hH2) hk2 (by omega)) ?_
  refine wf_p_ord (f := 3) dX3_copyFrom_29 p_RX3_21 hk (by omega) (fun H29 => ?_)
  refine wf_aload_n dX3_copyFrom_32 rfl ?_
  refine wf_aload_n dX3_copyFrom_33 rfl ?_
  refine wf_get dX3_copyFrom_34 f_RX3_24 (fun h hr => rd_ord hr ((setH_ne hne).trans hH2) hk2 (by omega)) ?_
  refine wf_p_ord (f := 4) dX3_copyFrom_37 p_RX3_24 hk (by omega) (fun H37 => ?_)
  refine wf_aload_n dX3_copyFrom_40 rfl ?_
  refine wf_aload_n dX3_copyFrom_41 rfl ?_
  refine wf_get dX3_copyFrom_42 f_RX3_27 (fun h hr => rd_ord hr ((setH_ne hne).trans hH2) hk2 (by omega)) ?_
  refine wf_p_ord (f := 5) dX3_copyFrom_45 p_RX3_27 hk (by omega) (fun H45 => ?_)
  refine wf_aload_n dX3_copyFrom_48 rfl ?_
  refine wf_aload_n dX3_copyFrom_49 rfl ?_
  refine wf_get dX3_copyFrom_50 f_RX3_30 (fun h hr => rd_ord hr ((setH_ne hne).trans hH2) hk2 (by omega)) ?_
  refine wf_p_ord (f := 6) dX3_copyFrom_53 p_RX3_30 hk (by omega) (fun H53 => ?_)
  refine wf_aload_n dX3_copyFrom_56 rfl ?_
  refine wf_aload_n dX3_copyFrom_57 rfl ?_
  refine wf_get dX3_copyFrom_58 f_RX3_33 (fun h hr => rd_ord hr ((setH_ne hne).trans hH2) hk2 (by omega)) ?_
  refine wf_p_ord (f := 7) dX3_copyFrom_61 p_RX3_33 hk (by omega) (fun H61 => ?_)
  refine wf_aload_n dX3_copyFrom_64 rfl ?_
  refine wf_aload_n dX3_copyFrom_65 rfl ?_
  refine wf_get dX3_copyFrom_66 f_RX3_36 (fun h hr => rd_ord hr ((setH_ne hne).trans hH2) hk2 (by omega)) ?_
  refine wf_p_ord (f := 8) dX3_copyFrom_69 p_RX3_36 hk (by omega) (fun H69 => ?_)
  refine wf_aload_n dX3_copyFrom_72 rfl ?_
  refine wf_aload_n dX3_copyFrom_73 rfl ?_
  refine wf_get dX3_copyFrom_74 f_RX3_39 (fun h hr => rd_ord hr ((setH_ne hne).trans hH2) hk2 (by omega)) ?_
  refine wf_gd (fun g77 => ?_)
  refine wf_p_ord (f := 9) dX3_copyFrom_77 p_RX3_39 hk (by omega) (fun H77 => ?_) (nar_z g77) (fit_z g77)
  refine wf_aload_n dX3_copyFrom_80 rfl ?_
  refine wf_aload_n dX3_copyFrom_81 rfl ?_
  refine wf_get dX3_copyFrom_82 f_RX3_43 (fun h hr => rd_ord hr ((setH_ne hne).trans hH2) hk2 (by omega)) ?_
  refine wf_p_ord (f := 10) dX3_copyFrom_85 p_RX3_43 hk (by omega) (fun H85 => ?_)
  refine wf_aload_n dX3_copyFrom_88 rfl ?_
  refine wf_aload_n dX3_copyFrom_89 rfl ?_
  refine wf_get dX3_copyFrom_90 f_RX3_46 (fun h hr => rd_ord hr ((setH_ne hne).trans hH2) hk2 (by omega)) ?_
  refine wf_p_ord (f := 11) dX3_copyFrom_93 p_RX3_46 hk (by omega) (fun H93 => ?_)
  refine wf_aload_n dX3_copyFrom_96 rfl ?_
  refine wf_aload_n dX3_copyFrom_97 rfl ?_
  refine wf_get dX3_copyFrom_98 f_RX3_49 (fun h hr => rd_ord hr ((setH_ne hne).trans hH2) hk2 (by omega)) ?_
  refine wf_p_ord (f := 12) dX3_copyFrom_101 p_RX3_49 hk (by omega) (fun H101 => ?_)
  refine wf_aload_n dX3_copyFrom_104 rfl ?_
  refine wf_aload_n dX3_copyFrom_105 rfl ?_
  refine wf_get dX3_copyFrom_106 f_RX3_52 (fun h hr => rd_ord hr ((setH_ne hne).trans hH2) hk2 (by omega)) ?_
  refine wf_p_ord (f := 13) dX3_copyFrom_109 p_RX3_52 hk (by omega) (fun H109 => ?_)
  refine wf_aload_n dX3_copyFrom_112 rfl ?_
  refine wf_aload_n dX3_copyFrom_113 rfl ?_
  refine wf_get dX3_copyFrom_114 f_RX3_55 (fun h hr => rd_ord hr ((setH_ne hne).trans hH2) hk2 (by omega)) ?_
  refine wf_p_ord (f := 14) dX3_copyFrom_117 p_RX3_55 hk (by omega) (fun H117 => ?_)
  refine wf_aload_n dX3_copyFrom_120 rfl ?_
  refine wf_aload_n dX3_copyFrom_121 rfl ?_
  refine wf_get dX3_copyFrom_122 f_RX3_58 (fun h hr => rd_ord hr ((setH_ne hne).trans hH2) hk2 (by omega)) ?_
  refine wf_p_ord (f := 15) dX3_copyFrom_125 p_RX3_58 hk (by omega) (fun H125 => ?_)
  refine wf_aload_n dX3_copyFrom_128 rfl ?_
  refine wf_aload_n dX3_copyFrom_129 rfl ?_
  refine wf_get dX3_copyFrom_130 f_RX3_61 (fun h hr => rd_ord hr ((setH_ne hne).trans hH2) hk2 (by omega)) ?_
  refine wf_p_ord (f := 16) dX3_copyFrom_133 p_RX3_61 hk (by omega) (fun H133 => ?_)
  exact wf_return dX3_copyFrom_136 rfl
set_option maxRecDepth 100000 in
set_option maxHeartbeats 4000000 in
theorem pX5_copyFrom_b21 {E : wE} {n : Nat} (hE : wGE E) {G : gR} {k : Int} (hk : 0 ≤ k ∧ k < 11) {k2 : Int} {H2 : hR} (hk2 : 0 ≤ k2 ∧ k2 < 11) (hne : ¬ k2 = k) (hH2 : G.1.1 k2 = H2) : ∀ (fuel : Nat) (x2 : Int)  (H : hR) (ca : caT), WF E (n + 4) yX5_copyFrom cX5_copyFrom 3 (none) vV (setH G k) ca 21 (wLs [some (.ref (aWait E k)), some (.ref (aWait E k2)), some (.int (iI x2))]) [] H (fX5_copyFrom_b21 H2 fuel x2 H) := by
  intro fuel
  induction fuel with
  | zero =>
    intro x2 H ca
    exact wf_none
  | succ fuel ih =>
    intro x2 H ca
    unfold fX5_copyFrom_b21
    refine wf_iload_n dX5_copyFrom_21 rfl ?_
    refine wf_iconst dX5_copyFrom_22 ?_
    refine wf_gd (fun g23 => ?_)
    refine wf_icmp_ge 53 dX5_copyFrom_23 g23 (by decide) (fun h23 => ?_) (fun h23 => ?_)
    · refine wf_aload_n dX5_copyFrom_53 rfl ?_
      refine wf_aload_n dX5_copyFrom_54 rfl ?_
      refine wf_get dX5_copyFrom_55 f_RX5_20 (fun h hr => rd_wait hr ((setH_ne hne).trans hH2) hk2) ?_
      refine wf_p_wait (f := 2) dX5_copyFrom_58 p_RX5_20 hk (fun H58 => ?_)
      exact wf_return dX5_copyFrom_61 rfl
    · refine wf_aload_n dX5_copyFrom_26 rfl ?_
      refine wf_get dX5_copyFrom_27 f_RX5_13 (fun h hr => rd_wait hr ((setH_ne hne).trans hH2) hk2) ?_
      refine wf_iload_n dX5_copyFrom_30 rfl ?_
      refine wf_gd (fun g31 => ?_)
      refine wf_aald_cols dX5_copyFrom_31 g31 (fun h hr => rd_cols hr ((setH_ne hne).trans hH2) hk2) ?_
      refine wf_iconst dX5_copyFrom_32 ?_
      refine wf_aload_n dX5_copyFrom_33 rfl ?_
      refine wf_get dX5_copyFrom_34 f_RX5_13 (fun h hr => rd_wait hr setH_at hk) ?_
      refine wf_iload_n dX5_copyFrom_37 rfl ?_
      refine wf_gd (fun g38 => ?_)
      refine wf_aald_cols dX5_copyFrom_38 g38 (fun h hr => rd_cols hr setH_at hk) ?_
      refine wf_iconst dX5_copyFrom_39 ?_
      refine wf_aload_n dX5_copyFrom_40 rfl ?_
      refine wf_get dX5_copyFrom_41 f_RX5_20 (fun h hr => rd_wait hr ((setH_ne hne).trans hH2) hk2) ?_
      refine wf_gd (fun g44 => ?_)
      refine wf_cpyC dX5_copyFrom_44 k_RX5_27 hk hk2 hne hH2 g31 g38 g44 (Nat.le_of_ble_eq_true rfl) (fun H44 => ?_)
      refine wf_iinc dX5_copyFrom_47 rfl ?_
      refine wf_goto 21 dX5_copyFrom_50 ?_
      exact wf_at (ih (x2 + 1) _ _) ⟨rfl, rfl, rfl, trivial⟩
set_option maxRecDepth 100000 in
set_option maxHeartbeats 4000000 in
theorem pX5_copyFrom {E : wE} {n : Nat} (hE : wGE E) {G : gR} {k : Int} (hk : 0 ≤ k ∧ k < 11) {k2 : Int} {H2 : hR} (hk2 : 0 ≤ k2 ∧ k2 < 11) (hne : ¬ k2 = k) (hH2 : G.1.1 k2 = H2)   (H : hR) (ca : caT) : WF E (n + 4) yX5_copyFrom cX5_copyFrom 3 (none) vV (setH G k) ca 0 (wArgs [.ref (aWait E k), .ref (aWait E k2)]) [] H (fX5_copyFrom H2  H) := by
  unfold fX5_copyFrom
  refine wf_aload_n dX5_copyFrom_0 rfl ?_
  refine wf_get dX5_copyFrom_1 f_RX5_16 (fun h hr => rd_wait hr setH_at hk) ?_
  refine wf_aload_n dX5_copyFrom_4 rfl ?_
  refine wf_get dX5_copyFrom_5 f_RX5_20 (fun h hr => rd_wait hr ((setH_ne hne).trans hH2) hk2) ?_
  refine wf_gd (fun g8 => ?_)
  refine wf_icmp_ge 19 dX5_copyFrom_8 g8.1 g8.2 (fun h8 => ?_) (fun h8 => ?_)
  · refine wf_iconst dX5_copyFrom_19 ?_
    refine wf_istore_n dX5_copyFrom_20 ?_
    exact wf_at (pX5_copyFrom_b21 (n := n) hE hk hk2 hne hH2  fuel0 0 _ _) ⟨rfl, rfl, rfl, trivial⟩
  · refine wf_aload_n dX5_copyFrom_11 rfl ?_
    refine wf_aload_n dX5_copyFrom_12 rfl ?_
    refine wf_get dX5_copyFrom_13 f_RX5_16 (fun h hr => rd_wait hr ((setH_ne hne).trans hH2) hk2) ?_
    refine wf_cV (put := fun q => q) dX5_copyFrom_16 k_RX5_23 b_yX5_makeRoom x_yX5_makeRoom (pX5_makeRoom (n := n) hE (G := G) (k := k) hk (H2.1 4 1 0) _ _) rfl (fun _ => rfl) (fun h hr => rd_wait hr setH_at hk) rfl (fun r16 H16 ca => ?_)
    refine wf_iconst dX5_copyFrom_19 ?_
    refine wf_istore_n dX5_copyFrom_20 ?_
    exact wf_at (pX5_copyFrom_b21 (n := n) hE hk hk2 hne hH2  fuel0 0 _ _) ⟨rfl, rfl, rfl, trivial⟩
set_option maxRecDepth 100000 in
set_option maxHeartbeats 4000000 in
theorem pX2_copyFrom_b44 {E : wE} {n : Nat} (hE : wGE E) {G : gR} {k : Int} (hk : 0 ≤ k ∧ k < 11) {k2 : Int} {H2 : hR} (hk2 : 0 ≤ k2 ∧ k2 < 11) (hne : ¬ k2 = k) (hH2 : G.1.1 k2 = H2) : ∀ (fuel : Nat) (x2 : Int)  (H : hR) (ca : caT), WF E (n + 5) yX2_copyFrom cX2_copyFrom 3 (none) vV (setH G k) ca 44 (wLs [some (.ref (aH E k)), some (.ref (aH E k2)), some (.int (iI x2))]) [] H (fX2_copyFrom_b44 H2 fuel x2 H) := by
  intro fuel
  induction fuel with
  | zero =>
    intro x2 H ca
    exact wf_none
  | succ fuel ih =>
    intro x2 H ca
    unfold fX2_copyFrom_b44
    refine wf_iload_n dX2_copyFrom_44 rfl ?_
    refine wf_aload_n dX2_copyFrom_45 rfl ?_
    refine wf_get dX2_copyFrom_46 f_RX2_59 (fun h hr => rd_h hr ((setH_ne hne).trans hH2) hk2) ?_
    refine wf_gd (fun g49 => ?_)
    refine wf_icmp_ge 73 dX2_copyFrom_49 g49.1 g49.2 (fun h49 => ?_) (fun h49 => ?_)
    · refine wf_aload_n dX2_copyFrom_73 rfl ?_
      refine wf_get dX2_copyFrom_74 f_RX2_33 (fun h hr => rd_h hr setH_at hk) ?_
      refine wf_aload_n dX2_copyFrom_77 rfl ?_
      refine wf_get dX2_copyFrom_78 f_RX2_33 (fun h hr => rd_h hr ((setH_ne hne).trans hH2) hk2) ?_
      refine wf_cV (put := fun q => q) dX2_copyFrom_81 k_RX2_65 b_yX5_copyFrom x_yX5_copyFrom (pX5_copyFrom (n := n) hE (G := G) (k := k) hk hk2 hne hH2 _ _) rfl (fun _ => rfl) (fun h hr => rd_wait hr setH_at hk) rfl (fun r81 H81 ca => ?_)
      refine wf_aload_n dX2_copyFrom_84 rfl ?_
      refine wf_aload_n dX2_copyFrom_85 rfl ?_
      refine wf_get dX2_copyFrom_86 f_RX2_53 (fun h hr => rd_h hr ((setH_ne hne).trans hH2) hk2) ?_
      refine wf_p_h (f := 4) dX2_copyFrom_89 p_RX2_53 hk (fun H89 => ?_)
      refine wf_aload_n dX2_copyFrom_92 rfl ?_
      refine wf_aload_n dX2_copyFrom_93 rfl ?_
      refine wf_get dX2_copyFrom_94 f_RX2_59 (fun h hr => rd_h hr ((setH_ne hne).trans hH2) hk2) ?_
      refine wf_p_h (f := 5) dX2_copyFrom_97 p_RX2_59 hk (fun H97 => ?_)
      refine wf_aload_n dX2_copyFrom_100 rfl ?_
      refine wf_aload_n dX2_copyFrom_101 rfl ?_
      refine wf_get dX2_copyFrom_102 f_RX2_68 (fun h hr => rd_h hr ((setH_ne hne).trans hH2) hk2) ?_
      refine wf_p_h (f := 6) dX2_copyFrom_105 p_RX2_68 hk (fun H105 => ?_)
      refine wf_aload_n dX2_copyFrom_108 rfl ?_
      refine wf_aload_n dX2_copyFrom_109 rfl ?_
      refine wf_get dX2_copyFrom_110 f_RX2_37 (fun h hr => rd_h hr ((setH_ne hne).trans hH2) hk2) ?_
      refine wf_p_h (f := 7) dX2_copyFrom_113 p_RX2_37 hk (fun H113 => ?_)
      refine wf_aload_n dX2_copyFrom_116 rfl ?_
      refine wf_aload_n dX2_copyFrom_117 rfl ?_
      refine wf_get dX2_copyFrom_118 f_RX2_41 (fun h hr => rd_h hr ((setH_ne hne).trans hH2) hk2) ?_
      refine wf_p_h (f := 8) dX2_copyFrom_121 p_RX2_41 hk (fun H121 => ?_)
      refine wf_aload_n dX2_copyFrom_124 rfl ?_
      refine wf_aload_n dX2_copyFrom_125 rfl ?_
      refine wf_get dX2_copyFrom_126 f_RX2_44 (fun h hr => rd_h hr ((setH_ne hne).trans hH2) hk2) ?_
      refine wf_p_h (f := 9) dX2_copyFrom_129 p_RX2_44 hk (fun H129 => ?_)
      refine wf_aload_n dX2_copyFrom_132 rfl ?_
      refine wf_aload_n dX2_copyFrom_133 rfl ?_
      refine wf_get dX2_copyFrom_134 f_RX2_71 (fun h hr => rd_h hr ((setH_ne hne).trans hH2) hk2) ?_
      refine wf_p_h (f := 10) dX2_copyFrom_137 p_RX2_71 hk (fun H137 => ?_)
      exact wf_return dX2_copyFrom_140 rfl
    · refine wf_aload_n dX2_copyFrom_52 rfl ?_
      refine wf_get dX2_copyFrom_53 f_RX2_26 (fun h hr => rd_h hr setH_at hk) ?_
      refine wf_iload_n dX2_copyFrom_56 rfl ?_
      refine wf_gd (fun g57 => ?_)
      refine wf_aald_ord dX2_copyFrom_57 g57 (fun h hr => rd_ords hr setH_at hk) ?_
      refine wf_aload_n dX2_copyFrom_58 rfl ?_
      refine wf_get dX2_copyFrom_59 f_RX2_26 (fun h hr => rd_h hr ((setH_ne hne).trans hH2) hk2) ?_
      refine wf_iload_n dX2_copyFrom_62 rfl ?_
      refine wf_gd (fun g63 => ?_)
      refine wf_aald_ord dX2_copyFrom_63 g63 (fun h hr => rd_ords hr ((setH_ne hne).trans hH2) hk2) ?_
      refine wf_cV (put := fun q => q) dX2_copyFrom_64 k_RX2_62 b_yX3_copyFrom x_yX3_copyFrom (pX3_copyFrom (n := n + 4) hE (G := G) (k := k) hk hk2 hne hH2 x2 x2 (by omega) (by omega) _ _) rfl (fun _ => rfl) (fun h hr => rd_ord hr setH_at hk (by omega)) rfl (fun r64 H64 ca => ?_)
      refine wf_iinc dX2_copyFrom_67 rfl ?_
      refine wf_goto 44 dX2_copyFrom_70 ?_
      exact wf_at (ih (x2 + 1) _ _) ⟨rfl, rfl, rfl, trivial⟩
set_option maxRecDepth 100000 in
set_option maxHeartbeats 4000000 in
theorem pX2_copyFrom_b13 {E : wE} {n : Nat} (hE : wGE E) {G : gR} {k : Int} (hk : 0 ≤ k ∧ k < 11) {k2 : Int} {H2 : hR} (hk2 : 0 ≤ k2 ∧ k2 < 11) (hne : ¬ k2 = k) (hH2 : G.1.1 k2 = H2) : ∀ (fuel : Nat) (x2 : Int)  (H : hR) (ca : caT), WF E (n + 5) yX2_copyFrom cX2_copyFrom 3 (none) vV (setH G k) ca 13 (wLs [some (.ref (aH E k)), some (.ref (aH E k2)), some (.int (iI x2))]) [] H (fX2_copyFrom_b13 H2 fuel x2 H) := by
  intro fuel
  induction fuel with
  | zero =>
    intro x2 H ca
    exact wf_none
  | succ fuel ih =>
    intro x2 H ca
    unfold fX2_copyFrom_b13
    refine wf_iload_n dX2_copyFrom_13 rfl ?_
    refine wf_aload_n dX2_copyFrom_14 rfl ?_
    refine wf_get dX2_copyFrom_15 f_RX2_53 (fun h hr => rd_h hr ((setH_ne hne).trans hH2) hk2) ?_
    refine wf_gd (fun g18 => ?_)
    refine wf_icmp_ge 42 dX2_copyFrom_18 g18.1 g18.2 (fun h18 => ?_) (fun h18 => ?_)
    · refine wf_iconst dX2_copyFrom_42 ?_
      refine wf_istore_n dX2_copyFrom_43 ?_
      exact wf_at (pX2_copyFrom_b44 (n := n) hE hk hk2 hne hH2  fuel0 0 _ _) ⟨rfl, rfl, rfl, trivial⟩
    · refine wf_aload_n dX2_copyFrom_21 rfl ?_
      refine wf_get dX2_copyFrom_22 f_RX2_20 (fun h hr => rd_h hr setH_at hk) ?_
      refine wf_iload_n dX2_copyFrom_25 rfl ?_
      refine wf_gd (fun g26 => ?_)
      refine wf_aald_acc dX2_copyFrom_26 g26 (fun h hr => rd_accs hr setH_at hk) ?_
      refine wf_aload_n dX2_copyFrom_27 rfl ?_
      refine wf_get dX2_copyFrom_28 f_RX2_20 (fun h hr => rd_h hr ((setH_ne hne).trans hH2) hk2) ?_
      refine wf_iload_n dX2_copyFrom_31 rfl ?_
      refine wf_gd (fun g32 => ?_)
      refine wf_aald_acc dX2_copyFrom_32 g32 (fun h hr => rd_accs hr ((setH_ne hne).trans hH2) hk2) ?_
      refine wf_cV (put := fun q => q) dX2_copyFrom_33 k_RX2_56 b_yX0_copyFrom x_yX0_copyFrom (pX0_copyFrom (n := n + 4) hE (G := G) (k := k) hk hk2 hne hH2 x2 x2 (by omega) (by omega) _ _) rfl (fun _ => rfl) (fun h hr => rd_acc hr setH_at hk (by omega)) rfl (fun r33 H33 ca => ?_)
      refine wf_iinc dX2_copyFrom_36 rfl ?_
      refine wf_goto 13 dX2_copyFrom_39 ?_
      exact wf_at (ih (x2 + 1) _ _) ⟨rfl, rfl, rfl, trivial⟩
set_option maxRecDepth 100000 in
set_option maxHeartbeats 4000000 in
theorem pX2_copyFrom {E : wE} {n : Nat} (hE : wGE E) {G : gR} {k : Int} (hk : 0 ≤ k ∧ k < 11) {k2 : Int} {H2 : hR} (hk2 : 0 ≤ k2 ∧ k2 < 11) (hne : ¬ k2 = k) (hH2 : G.1.1 k2 = H2)   (H : hR) (ca : caT) : WF E (n + 5) yX2_copyFrom cX2_copyFrom 3 (none) vV (setH G k) ca 0 (wArgs [.ref (aH E k), .ref (aH E k2)]) [] H (fX2_copyFrom H2  H) := by
  unfold fX2_copyFrom
  refine wf_aload_n dX2_copyFrom_0 rfl ?_
  refine wf_get dX2_copyFrom_1 f_RX2_12 (fun h hr => rd_h hr setH_at hk) ?_
  refine wf_aload_n dX2_copyFrom_4 rfl ?_
  refine wf_get dX2_copyFrom_5 f_RX2_12 (fun h hr => rd_h hr ((setH_ne hne).trans hH2) hk2) ?_
  refine wf_cV (put := fun q => q) dX2_copyFrom_8 k_RX2_49 b_yX1_copyFrom x_yX1_copyFrom (pX1_copyFrom (n := n + 3) hE (G := G) (k := k) hk hk2 hne hH2 _ _) rfl (fun _ => rfl) (fun h hr => rd_cal hr setH_at hk) rfl (fun r8 H8 ca => ?_)
  refine wf_iconst dX2_copyFrom_11 ?_
  refine wf_istore_n dX2_copyFrom_12 ?_
  exact wf_at (pX2_copyFrom_b13 (n := n) hE hk hk2 hne hH2  fuel0 0 _ _) ⟨rfl, rfl, rfl, trivial⟩
set_option maxRecDepth 100000 in
set_option maxHeartbeats 4000000 in
theorem pX6_rowBehindLatest {E : wE} {n : Nat} (hE : wGE E) {M : mR} {c : cR} {ca : caT} {h : hW} (hr : rep E (c, M) ca h)   : WR E n yX6_rowBehindLatest cX6_rowBehindLatest 1 (some .int) vI h 0 (wArgs [.ref (aTop E)]) [] (fX6_rowBehindLatest  c) := by
  unfold fX6_rowBehindLatest
  refine wr_aload_n dX6_rowBehindLatest_0 rfl ?_
  refine wr_get dX6_rowBehindLatest_1 f_RX6_216 (rd_top hr) ?_
  refine wr_aload_n dX6_rowBehindLatest_4 rfl ?_
  refine wr_get dX6_rowBehindLatest_5 f_RX6_154 (rd_top hr) ?_
  refine wr_iadd dX6_rowBehindLatest_8 ?_
  refine wr_bipush dX6_rowBehindLatest_9 ?_
  refine wr_gd (fun g11 => ?_)
  refine wr_irem dX6_rowBehindLatest_11 g11 (by decide) ?_
  exact wr_ireturn dX6_rowBehindLatest_12 ⟨_, rfl, rfl⟩
set_option maxRecDepth 100000 in
set_option maxHeartbeats 4000000 in
theorem pX6_remember {E : wE} {n : Nat} (hE : wGE E) {M : mR}   (c : cR) (ca : caT) : WF E (n + 6) yX6_remember cX6_remember 1 (none) vV (fun c : cR => (c, M)) ca 0 (wArgs [.ref (aTop E)]) [] c (fX6_remember  c) := by
  unfold fX6_remember
  refine wf_aload_n dX6_remember_0 rfl ?_
  refine wf_get dX6_remember_1 f_RX6_19 (fun h hr => rd_top hr) ?_
  refine wf_aload_n dX6_remember_4 rfl ?_
  refine wf_rV dX6_remember_5 k_RX6_212 b_yX6_rowBehindLatest x_yX6_rowBehindLatest (fun h hr => pX6_rowBehindLatest (n := n + 5) hE hr) (fun h hr => rd_top hr) rfl (fun r5 => ?_)
  refine wf_gd (fun g8 => ?_)
  refine wf_aald_hist dX6_remember_8 g8 (fun h hr => rd_hist hr) ?_
  refine wf_aload_n dX6_remember_9 rfl ?_
  refine wf_get dX6_remember_10 f_RX6_12 (fun h hr => rd_top hr) ?_
  refine wf_cV (put := cH c (2 + r5)) dX6_remember_13 k_RX6_167 b_yX2_copyFrom x_yX2_copyFrom (pX2_copyFrom (n := n) hE (G := (c, M)) (k := (2 + r5)) (by omega) (k2 := 0) (by omega) (by omega) rfl _ _) setH_self (fun _ => rfl) (fun h hr => rd_h hr rfl (by omega)) rfl (fun r13 t13 ca => ?_)
  refine wf_bnd (fun c13 => ?_)
  exact wf_return dX6_remember_16 rfl
set_option maxRecDepth 100000 in
set_option maxHeartbeats 4000000 in
theorem pX6_account {E : wE} {n : Nat} (hE : wGE E) {M : mR} (x1 : Int) (x2 : Int)  (c : cR) (ca : caT) : WF E (n + 7) yX6_account cX6_account 3 (some .int) vI (fun c : cR => (c, M)) ca 0 (wArgs [.ref (aTop E), .int (iI x1), .int (iI x2)]) [] c (fX6_account x1 x2 c) := by
  unfold fX6_account
  refine wf_aload_n dX6_account_0 rfl ?_
  refine wf_cV (put := fun q => q) dX6_account_1 k_RX6_37 b_yX6_remember x_yX6_remember (pX6_remember (n := n) hE _ _) rfl (fun _ => rfl) (fun h hr => rd_top hr) rfl (fun r1 c1 ca => ?_)
  refine wf_aload_n dX6_account_4 rfl ?_
  refine wf_aload_n dX6_account_5 rfl ?_
  refine wf_get dX6_account_6 f_RX6_12 (fun h hr => rd_top hr) ?_
  refine wf_iload_n dX6_account_9 rfl ?_
  refine wf_iload_n dX6_account_10 rfl ?_
  refine wf_cV (put := cH c1 0) dX6_account_11 k_RX6_57 b_yX2_addAccount x_yX2_addAccount (pX2_addAccount (n := n + 5) hE (G := (c1, M)) (k := 0) (by omega) x1 x2 _ _) setH_self (fun _ => rfl) (fun h hr => rd_h hr rfl (by omega)) rfl (fun r11 t11 ca => ?_)
  refine wf_bnd (fun c11 => ?_)
  refine wf_cV (put := fun q => q) dX6_account_14 k_RX6_44 b_yX6_recorded x_yX6_recorded (pX6_recorded (n := n + 4) hE r11 _ _) rfl (fun _ => rfl) (fun h hr => rd_top hr) rfl (fun r14 c14 ca => ?_)
  exact wf_ireturn dX6_account_17 ⟨_, rfl, rfl⟩
set_option maxRecDepth 100000 in
set_option maxHeartbeats 4000000 in
theorem pX2_hasOrder {E : wE} {n : Nat} (hE : wGE E) {G : gR} {H : hR} {ca : caT} {h : hW} {k : Int} (hr : rep E G ca h) (hH : G.1.1 k = H) (hk : 0 ≤ k ∧ k < 11) (x1 : Int)  : WR E n yX2_hasOrder cX2_hasOrder 2 (some .boolean) vI h 0 (wArgs [.ref (aH E k), .int (iI x1)]) [] (fX2_hasOrder x1 H) := by
  unfold fX2_hasOrder
  refine wr_iload_n dX2_hasOrder_0 rfl ?_
  refine wr_gd (fun g1 => ?_)
  refine wr_if_lt 16 dX2_hasOrder_1 g1 (fun h1 => ?_) (fun h1 => ?_)
  · refine wr_iconst dX2_hasOrder_16 ?_
    exact wr_ireturn dX2_hasOrder_17 ⟨_, rfl, rfl⟩
  · refine wr_iload_n dX2_hasOrder_4 rfl ?_
    refine wr_aload_n dX2_hasOrder_5 rfl ?_
    refine wr_get dX2_hasOrder_6 f_RX2_59 (rd_h hr hH hk) ?_
    refine wr_gd (fun g9 => ?_)
    refine wr_icmp_ge 16 dX2_hasOrder_9 g9.1 g9.2 (fun h9 => ?_) (fun h9 => ?_)
    · refine wr_iconst dX2_hasOrder_16 ?_
      exact wr_ireturn dX2_hasOrder_17 ⟨_, rfl, rfl⟩
    · refine wr_iconst dX2_hasOrder_12 ?_
      refine wr_goto 17 dX2_hasOrder_13 ?_
      exact wr_ireturn dX2_hasOrder_17 ⟨_, rfl, rfl⟩
set_option maxRecDepth 100000 in
set_option maxHeartbeats 4000000 in
theorem pX2_alterOrder {E : wE} {n : Nat} (hE : wGE E) {G : gR} {k : Int} (hk : 0 ≤ k ∧ k < 11) (x1 : Int) (x2 : Int) (x3 : Int)  (H : hR) (ca : caT) : WF E (n + 1) yX2_alterOrder cX2_alterOrder 5 (some .int) vI (setH G k) ca 0 (wArgs [.ref (aH E k), .int (iI x1), .int (iI x2), .int (iI x3)]) [] H (fX2_alterOrder x1 x2 x3 H) := by
  unfold fX2_alterOrder
  refine wf_aload_n dX2_alterOrder_0 rfl ?_
  refine wf_iload_n dX2_alterOrder_1 rfl ?_
  refine wf_rV dX2_alterOrder_2 k_RX2_124 b_yX2_hasOrder x_yX2_hasOrder (fun h hr => pX2_hasOrder (n := n) hE hr setH_at hk x1) (fun h hr => rd_h hr setH_at hk) rfl (fun r2 => ?_)
  refine wf_gd (fun g5 => ?_)
  refine wf_if_ne 10 dX2_alterOrder_5 g5 (fun h5 => ?_) (fun h5 => ?_)
  · refine wf_iload_n dX2_alterOrder_10 rfl ?_
    refine wf_iconst dX2_alterOrder_11 ?_
    refine wf_ldc dX2_alterOrder_12 c_RX2_92 ?_
    refine wf_rSN dX2_alterOrder_14 k_RX2_77 b_yX6_isBetween x_yX6_isBetween (fun h hr => pX6_isBetween (n := n) hE x2 1 1000000) (fun r14 => ?_)
    refine wf_gd (fun g17 => ?_)
    refine wf_if_eq 30 dX2_alterOrder_17 g17 (fun h17 => ?_) (fun h17 => ?_)
    · refine wf_bipush dX2_alterOrder_30 ?_
      exact wf_ireturn dX2_alterOrder_32 ⟨_, rfl, rfl⟩
    · refine wf_iload_n dX2_alterOrder_20 rfl ?_
      refine wf_iconst dX2_alterOrder_21 ?_
      refine wf_bipush dX2_alterOrder_22 ?_
      refine wf_rSN dX2_alterOrder_24 k_RX2_77 b_yX6_isBetween x_yX6_isBetween (fun h hr => pX6_isBetween (n := n) hE x3 0 9) (fun r24 => ?_)
      refine wf_gd (fun g27 => ?_)
      refine wf_if_ne 33 dX2_alterOrder_27 g27 (fun h27 => ?_) (fun h27 => ?_)
      · refine wf_aload_n dX2_alterOrder_33 rfl ?_
        refine wf_get dX2_alterOrder_34 f_RX2_26 (fun h hr => rd_h hr setH_at hk) ?_
        refine wf_iload_n dX2_alterOrder_37 rfl ?_
        refine wf_gd (fun g38 => ?_)
        refine wf_aald_ord dX2_alterOrder_38 g38 (fun h hr => rd_ords hr setH_at hk) ?_
        refine wf_get dX2_alterOrder_39 f_RX2_127 (fun h hr => rd_ord hr setH_at hk (by omega)) ?_
        refine wf_iconst dX2_alterOrder_42 ?_
        refine wf_gd (fun g43 => ?_)
        refine wf_icmp_ne 49 dX2_alterOrder_43 g43 (by decide) (fun h43 => ?_) (fun h43 => ?_)
        · refine wf_aload_n dX2_alterOrder_49 rfl ?_
          refine wf_get dX2_alterOrder_50 f_RX2_26 (fun h hr => rd_h hr setH_at hk) ?_
          refine wf_iload_n dX2_alterOrder_53 rfl ?_
          refine wf_gd (fun g54 => ?_)
          refine wf_aald_ord dX2_alterOrder_54 g54 (fun h hr => rd_ords hr setH_at hk) ?_
          refine wf_get dX2_alterOrder_55 f_RX2_130 (fun h hr => rd_ord hr setH_at hk (by omega)) ?_
          refine wf_istore dX2_alterOrder_58 ?_
          refine wf_aload_n dX2_alterOrder_60 rfl ?_
          refine wf_get dX2_alterOrder_61 f_RX2_26 (fun h hr => rd_h hr setH_at hk) ?_
          refine wf_iload_n dX2_alterOrder_64 rfl ?_
          refine wf_gd (fun g65 => ?_)
          refine wf_aald_ord dX2_alterOrder_65 g65 (fun h hr => rd_ords hr setH_at hk) ?_
          refine wf_iload_n dX2_alterOrder_66 rfl ?_
          refine wf_p_ord (f := 2) dX2_alterOrder_67 p_RX2_130 hk (by omega) (fun H67 => ?_)
          refine wf_aload_n dX2_alterOrder_70 rfl ?_
          refine wf_get dX2_alterOrder_71 f_RX2_26 (fun h hr => rd_h hr setH_at hk) ?_
          refine wf_iload_n dX2_alterOrder_74 rfl ?_
          refine wf_gd (fun g75 => ?_)
          refine wf_aald_ord dX2_alterOrder_75 g75 (fun h hr => rd_ords hr setH_at hk) ?_
          refine wf_iload_n dX2_alterOrder_76 rfl ?_
          refine wf_p_ord (f := 8) dX2_alterOrder_77 p_RX2_133 hk (by omega) (fun H77 => ?_)
          refine wf_iload dX2_alterOrder_80 rfl ?_
          exact wf_ireturn dX2_alterOrder_82 ⟨_, rfl, rfl⟩
        · refine wf_bipush dX2_alterOrder_46 ?_
          exact wf_ireturn dX2_alterOrder_48 ⟨_, rfl, rfl⟩
      · refine wf_bipush dX2_alterOrder_30 ?_
        exact wf_ireturn dX2_alterOrder_32 ⟨_, rfl, rfl⟩
  · refine wf_iconst dX2_alterOrder_8 ?_
    exact wf_ireturn dX2_alterOrder_9 ⟨_, rfl, rfl⟩
set_option maxRecDepth 100000 in
set_option maxHeartbeats 4000000 in
theorem pX6_change {E : wE} {n : Nat} (hE : wGE E) {M : mR} (x1 : Int) (x2 : Int) (x3 : Int)  (c : cR) (ca : caT) : WF E (n + 7) yX6_change cX6_change 4 (some .int) vI (fun c : cR => (c, M)) ca 0 (wArgs [.ref (aTop E), .int (iI x1), .int (iI x2), .int (iI x3)]) [] c (fX6_change x1 x2 x3 c) := by
  unfold fX6_change
  refine wf_aload_n dX6_change_0 rfl ?_
  refine wf_cV (put := fun q => q) dX6_change_1 k_RX6_37 b_yX6_remember x_yX6_remember (pX6_remember (n := n) hE _ _) rfl (fun _ => rfl) (fun h hr => rd_top hr) rfl (fun r1 c1 ca => ?_)
  refine wf_aload_n dX6_change_4 rfl ?_
  refine wf_aload_n dX6_change_5 rfl ?_
  refine wf_get dX6_change_6 f_RX6_12 (fun h hr => rd_top hr) ?_
  refine wf_iload_n dX6_change_9 rfl ?_
  refine wf_iload_n dX6_change_10 rfl ?_
  refine wf_iload_n dX6_change_11 rfl ?_
  refine wf_cV (put := cH c1 0) dX6_change_12 k_RX6_70 b_yX2_alterOrder x_yX2_alterOrder (pX2_alterOrder (n := n + 5) hE (G := (c1, M)) (k := 0) (by omega) x1 x2 x3 _ _) setH_self (fun _ => rfl) (fun h hr => rd_h hr rfl (by omega)) rfl (fun r12 t12 ca => ?_)
  refine wf_bnd (fun c12 => ?_)
  refine wf_cV (put := fun q => q) dX6_change_15 k_RX6_44 b_yX6_recorded x_yX6_recorded (pX6_recorded (n := n + 4) hE r12 _ _) rfl (fun _ => rfl) (fun h hr => rd_top hr) rfl (fun r15 c15 ca => ?_)
  exact wf_ireturn dX6_change_18 ⟨_, rfl, rfl⟩
set_option maxRecDepth 100000 in
set_option maxHeartbeats 4000000 in
theorem pX2_hasAccount {E : wE} {n : Nat} (hE : wGE E) {G : gR} {H : hR} {ca : caT} {h : hW} {k : Int} (hr : rep E G ca h) (hH : G.1.1 k = H) (hk : 0 ≤ k ∧ k < 11) (x1 : Int)  : WR E n yX2_hasAccount cX2_hasAccount 2 (some .boolean) vI h 0 (wArgs [.ref (aH E k), .int (iI x1)]) [] (fX2_hasAccount x1 H) := by
  unfold fX2_hasAccount
  refine wr_iload_n dX2_hasAccount_0 rfl ?_
  refine wr_gd (fun g1 => ?_)
  refine wr_if_lt 16 dX2_hasAccount_1 g1 (fun h1 => ?_) (fun h1 => ?_)
  · refine wr_iconst dX2_hasAccount_16 ?_
    exact wr_ireturn dX2_hasAccount_17 ⟨_, rfl, rfl⟩
  · refine wr_iload_n dX2_hasAccount_4 rfl ?_
    refine wr_aload_n dX2_hasAccount_5 rfl ?_
    refine wr_get dX2_hasAccount_6 f_RX2_53 (rd_h hr hH hk) ?_
    refine wr_gd (fun g9 => ?_)
    refine wr_icmp_ge 16 dX2_hasAccount_9 g9.1 g9.2 (fun h9 => ?_) (fun h9 => ?_)
    · refine wr_iconst dX2_hasAccount_16 ?_
      exact wr_ireturn dX2_hasAccount_17 ⟨_, rfl, rfl⟩
    · refine wr_iconst dX2_hasAccount_12 ?_
      refine wr_goto 17 dX2_hasAccount_13 ?_
      exact wr_ireturn dX2_hasAccount_17 ⟨_, rfl, rfl⟩
set_option maxRecDepth 100000 in
set_option maxHeartbeats 4000000 in
theorem pX2_payIn {E : wE} {n : Nat} (hE : wGE E) {G : gR} {k : Int} (hk : 0 ≤ k ∧ k < 11) (x1 : Int) (x2 : Int)  (H : hR) (ca : caT) : WF E (n + 1) yX2_payIn cX2_payIn 3 (some .int) vI (setH G k) ca 0 (wArgs [.ref (aH E k), .int (iI x1), .int (iI x2)]) [] H (fX2_payIn x1 x2 H) := by
  unfold fX2_payIn
  refine wf_aload_n dX2_payIn_0 rfl ?_
  refine wf_iload_n dX2_payIn_1 rfl ?_
  refine wf_rV dX2_payIn_2 k_RX2_97 b_yX2_hasAccount x_yX2_hasAccount (fun h hr => pX2_hasAccount (n := n) hE hr setH_at hk x1) (fun h hr => rd_h hr setH_at hk) rfl (fun r2 => ?_)
  refine wf_gd (fun g5 => ?_)
  refine wf_if_ne 10 dX2_payIn_5 g5 (fun h5 => ?_) (fun h5 => ?_)
  · refine wf_iload_n dX2_payIn_10 rfl ?_
    refine wf_iconst dX2_payIn_11 ?_
    refine wf_ldc dX2_payIn_12 c_RX2_104 ?_
    refine wf_rSN dX2_payIn_14 k_RX2_77 b_yX6_isBetween x_yX6_isBetween (fun h hr => pX6_isBetween (n := n) hE x2 1 100000000) (fun r14 => ?_)
    refine wf_gd (fun g17 => ?_)
    refine wf_if_ne 23 dX2_payIn_17 g17 (fun h17 => ?_) (fun h17 => ?_)
    · refine wf_aload_n dX2_payIn_23 rfl ?_
      refine wf_get dX2_payIn_24 f_RX2_20 (fun h hr => rd_h hr setH_at hk) ?_
      refine wf_iload_n dX2_payIn_27 rfl ?_
      refine wf_gd (fun g28 => ?_)
      refine wf_aald_acc dX2_payIn_28 g28 (fun h hr => rd_accs hr setH_at hk) ?_
      refine wf_dup dX2_payIn_29 ?_
      refine wf_get dX2_payIn_30 f_RX2_105 (fun h hr => rd_acc hr setH_at hk (by omega)) ?_
      refine wf_iload_n dX2_payIn_33 rfl ?_
      refine wf_gd (fun g34 => ?_)
      refine wf_i2l dX2_payIn_34 g34 ?_
      refine wf_ladd dX2_payIn_35 ?_
      refine wf_p_accl (f := 3) dX2_payIn_36 p_RX2_105 hk (by omega) (fun H36 => ?_)
      refine wf_aload_n dX2_payIn_39 rfl ?_
      refine wf_get dX2_payIn_40 f_RX2_20 (fun h hr => rd_h hr setH_at hk) ?_
      refine wf_iload_n dX2_payIn_43 rfl ?_
      refine wf_gd (fun g44 => ?_)
      refine wf_aald_acc dX2_payIn_44 g44 (fun h hr => rd_accs hr setH_at hk) ?_
      refine wf_dup dX2_payIn_45 ?_
      refine wf_get dX2_payIn_46 f_RX2_109 (fun h hr => rd_acc hr setH_at hk (by omega)) ?_
      refine wf_iload_n dX2_payIn_49 rfl ?_
      refine wf_gd (fun g50 => ?_)
      refine wf_i2l dX2_payIn_50 g50 ?_
      refine wf_ladd dX2_payIn_51 ?_
      refine wf_p_accl (f := 4) dX2_payIn_52 p_RX2_109 hk (by omega) (fun H52 => ?_)
      refine wf_aload_n dX2_payIn_55 rfl ?_
      refine wf_get dX2_payIn_56 f_RX2_20 (fun h hr => rd_h hr setH_at hk) ?_
      refine wf_iload_n dX2_payIn_59 rfl ?_
      refine wf_gd (fun g60 => ?_)
      refine wf_aald_acc dX2_payIn_60 g60 (fun h hr => rd_accs hr setH_at hk) ?_
      refine wf_get dX2_payIn_61 f_RX2_105 (fun h hr => rd_acc hr setH_at hk (by omega)) ?_
      refine wf_lconst0 dX2_payIn_64 ?_
      refine wf_gd (fun g65 => ?_)
      refine wf_jcmp_lt 73 dX2_payIn_65 dX2_payIn_66 g65 (by decide) (fun h65 => ?_) (fun h65 => ?_)
      · refine wf_iconst dX2_payIn_73 ?_
        exact wf_ireturn dX2_payIn_74 ⟨_, rfl, rfl⟩
      · refine wf_iconst dX2_payIn_69 ?_
        refine wf_goto 74 dX2_payIn_70 ?_
        exact wf_ireturn dX2_payIn_74 ⟨_, rfl, rfl⟩
    · refine wf_bipush dX2_payIn_20 ?_
      exact wf_ireturn dX2_payIn_22 ⟨_, rfl, rfl⟩
  · refine wf_iconst dX2_payIn_8 ?_
    exact wf_ireturn dX2_payIn_9 ⟨_, rfl, rfl⟩
set_option maxRecDepth 100000 in
set_option maxHeartbeats 4000000 in
theorem pX6_deposit {E : wE} {n : Nat} (hE : wGE E) {M : mR} (x1 : Int) (x2 : Int)  (c : cR) (ca : caT) : WF E (n + 7) yX6_deposit cX6_deposit 3 (some .int) vI (fun c : cR => (c, M)) ca 0 (wArgs [.ref (aTop E), .int (iI x1), .int (iI x2)]) [] c (fX6_deposit x1 x2 c) := by
  unfold fX6_deposit
  refine wf_aload_n dX6_deposit_0 rfl ?_
  refine wf_cV (put := fun q => q) dX6_deposit_1 k_RX6_37 b_yX6_remember x_yX6_remember (pX6_remember (n := n) hE _ _) rfl (fun _ => rfl) (fun h hr => rd_top hr) rfl (fun r1 c1 ca => ?_)
  refine wf_aload_n dX6_deposit_4 rfl ?_
  refine wf_aload_n dX6_deposit_5 rfl ?_
  refine wf_get dX6_deposit_6 f_RX6_12 (fun h hr => rd_top hr) ?_
  refine wf_iload_n dX6_deposit_9 rfl ?_
  refine wf_iload_n dX6_deposit_10 rfl ?_
  refine wf_cV (put := cH c1 0) dX6_deposit_11 k_RX6_63 b_yX2_payIn x_yX2_payIn (pX2_payIn (n := n + 5) hE (G := (c1, M)) (k := 0) (by omega) x1 x2 _ _) setH_self (fun _ => rfl) (fun h hr => rd_h hr rfl (by omega)) rfl (fun r11 t11 ca => ?_)
  refine wf_bnd (fun c11 => ?_)
  refine wf_cV (put := fun q => q) dX6_deposit_14 k_RX6_44 b_yX6_recorded x_yX6_recorded (pX6_recorded (n := n + 4) hE r11 _ _) rfl (fun _ => rfl) (fun h hr => rd_top hr) rfl (fun r14 c14 ca => ?_)
  exact wf_ireturn dX6_deposit_17 ⟨_, rfl, rfl⟩
set_option maxRecDepth 100000 in
set_option maxHeartbeats 4000000 in
theorem pX2_settle {E : wE} {n : Nat} (hE : wGE E) {G : gR} {k : Int} (hk : 0 ≤ k ∧ k < 11) (x1 : Int)  (H : hR) (ca : caT) : WF E n yX2_settle cX2_settle 3 (none) vV (setH G k) ca 0 (wArgs [.ref (aH E k), .int (iI x1)]) [] H (fX2_settle x1 H) := by
  unfold fX2_settle
  refine wf_aload_n dX2_settle_0 rfl ?_
  refine wf_get dX2_settle_1 f_RX2_26 (fun h hr => rd_h hr setH_at hk) ?_
  refine wf_aload_n dX2_settle_4 rfl ?_
  refine wf_get dX2_settle_5 f_RX2_33 (fun h hr => rd_h hr setH_at hk) ?_
  refine wf_get dX2_settle_8 f_RX2_141 (fun h hr => rd_wait hr setH_at hk) ?_
  refine wf_iconst dX2_settle_11 ?_
  refine wf_aald_cols dX2_settle_12 (by decide) (fun h hr => rd_cols hr setH_at hk) ?_
  refine wf_iload_n dX2_settle_13 rfl ?_
  refine wf_gd (fun g14 => ?_)
  refine wf_collds dX2_settle_14 setH_at hk (by decide) g14 ?_
  refine wf_gd (fun g15 => ?_)
  refine wf_aald_ord dX2_settle_15 g15 (fun h hr => rd_ords hr setH_at hk) ?_
  refine wf_astore_n dX2_settle_16 ?_
  refine wf_aload_n dX2_settle_17 rfl ?_
  refine wf_dup dX2_settle_18 ?_
  refine wf_get dX2_settle_19 f_RX2_136 (fun h hr => rd_ord hr setH_at hk (by omega)) ?_
  refine wf_iconst dX2_settle_22 ?_
  refine wf_isub dX2_settle_23 ?_
  refine wf_p_ord (f := 15) dX2_settle_24 p_RX2_136 hk (by omega) (fun H24 => ?_)
  refine wf_aload_n dX2_settle_27 rfl ?_
  refine wf_get dX2_settle_28 f_RX2_20 (fun h hr => rd_h hr setH_at hk) ?_
  refine wf_aload_n dX2_settle_31 rfl ?_
  refine wf_get dX2_settle_32 f_RX2_221 (fun h hr => rd_ord hr setH_at hk (by omega)) ?_
  refine wf_gd (fun g35 => ?_)
  refine wf_aald_acc dX2_settle_35 g35 (fun h hr => rd_accs hr setH_at hk) ?_
  refine wf_dup dX2_settle_36 ?_
  refine wf_get dX2_settle_37 f_RX2_224 (fun h hr => rd_acc hr setH_at hk (by omega)) ?_
  refine wf_aload_n dX2_settle_40 rfl ?_
  refine wf_get dX2_settle_41 f_RX2_33 (fun h hr => rd_h hr setH_at hk) ?_
  refine wf_get dX2_settle_44 f_RX2_141 (fun h hr => rd_wait hr setH_at hk) ?_
  refine wf_iconst dX2_settle_47 ?_
  refine wf_aald_cols dX2_settle_48 (by decide) (fun h hr => rd_cols hr setH_at hk) ?_
  refine wf_iload_n dX2_settle_49 rfl ?_
  refine wf_gd (fun g50 => ?_)
  refine wf_collds dX2_settle_50 setH_at hk (by decide) g50 ?_
  refine wf_gd (fun g51 => ?_)
  refine wf_i2l dX2_settle_51 g51 ?_
  refine wf_lsub dX2_settle_52 ?_
  refine wf_p_accl (f := 11) dX2_settle_53 p_RX2_224 hk (by omega) (fun H53 => ?_)
  refine wf_aload_n dX2_settle_56 rfl ?_
  refine wf_get dX2_settle_57 f_RX2_33 (fun h hr => rd_h hr setH_at hk) ?_
  refine wf_get dX2_settle_60 f_RX2_141 (fun h hr => rd_wait hr setH_at hk) ?_
  refine wf_iconst dX2_settle_63 ?_
  refine wf_aald_cols dX2_settle_64 (by decide) (fun h hr => rd_cols hr setH_at hk) ?_
  refine wf_iload_n dX2_settle_65 rfl ?_
  refine wf_iconst dX2_settle_66 ?_
  refine wf_gd (fun g67 => ?_)
  refine wf_s_col dX2_settle_67 hk (by decide) g67 (fun H67 => ?_)
  exact wf_return dX2_settle_68 rfl
set_option maxRecDepth 100000 in
set_option maxHeartbeats 4000000 in
theorem pX5_dropSettled_b28 {E : wE} {n : Nat} (hE : wGE E) {G : gR} {k : Int} (hk : 0 ≤ k ∧ k < 11) {rec4 : Int → Int → hR → Option (Unit × hR)} (hrec4 : ∀ (x1 : Int) (x2 : Int)  (H : hR) (ca : caT), WF E n yX5_dropSettled cX5_dropSettled 4 (none) vV (setH G k) ca 4 (wLs [some (.ref (aWait E k)), some (.int (iI x1)), some (.int (iI x2))]) [] H (rec4 x1 x2 H)) : ∀ (fuel : Nat) (x1 : Int) (x2 : Int) (x3 : Int)  (H : hR) (ca : caT), WF E n yX5_dropSettled cX5_dropSettled 4 (none) vV (setH G k) ca 28 (wLs [some (.ref (aWait E k)), some (.int (iI x1)), some (.int (iI x2)), some (.int (iI x3))]) [] H (fX5_dropSettled_b28 rec4 fuel x1 x2 x3 H) := by
  intro fuel
  induction fuel with
  | zero =>
    intro x1 x2 x3 H ca
    exact wf_none
  | succ fuel ih =>
    intro x1 x2 x3 H ca
    unfold fX5_dropSettled_b28
    refine wf_iload_n dX5_dropSettled_28 rfl ?_
    refine wf_iconst dX5_dropSettled_29 ?_
    refine wf_gd (fun g30 => ?_)
    refine wf_icmp_ge 55 dX5_dropSettled_30 g30 (by decide) (fun h30 => ?_) (fun h30 => ?_)
    · refine wf_iinc dX5_dropSettled_55 rfl ?_
      refine wf_iinc dX5_dropSettled_58 rfl ?_
      refine wf_goto 4 dX5_dropSettled_61 ?_
      exact wf_at (hrec4 (x1 + 1) (x2 + 1) _ _) ⟨rfl, rfl, rfl, trivial⟩
    · refine wf_aload_n dX5_dropSettled_33 rfl ?_
      refine wf_get dX5_dropSettled_34 f_RX5_13 (fun h hr => rd_wait hr setH_at hk) ?_
      refine wf_iload_n dX5_dropSettled_37 rfl ?_
      refine wf_gd (fun g38 => ?_)
      refine wf_aald_cols dX5_dropSettled_38 g38 (fun h hr => rd_cols hr setH_at hk) ?_
      refine wf_iload_n dX5_dropSettled_39 rfl ?_
      refine wf_aload_n dX5_dropSettled_40 rfl ?_
      refine wf_get dX5_dropSettled_41 f_RX5_13 (fun h hr => rd_wait hr setH_at hk) ?_
      refine wf_iload_n dX5_dropSettled_44 rfl ?_
      refine wf_gd (fun g45 => ?_)
      refine wf_aald_cols dX5_dropSettled_45 g45 (fun h hr => rd_cols hr setH_at hk) ?_
      refine wf_iload_n dX5_dropSettled_46 rfl ?_
      refine wf_gd (fun g47 => ?_)
      refine wf_collds dX5_dropSettled_47 setH_at hk g45 g47 ?_
      refine wf_gd (fun g48 => ?_)
      refine wf_s_col dX5_dropSettled_48 hk g38 g48 (fun H48 => ?_)
      refine wf_iinc dX5_dropSettled_49 rfl ?_
      refine wf_goto 28 dX5_dropSettled_52 ?_
      exact wf_at (ih x1 x2 (x3 + 1) _ _) ⟨rfl, rfl, rfl, rfl, trivial⟩
set_option maxRecDepth 100000 in
set_option maxHeartbeats 4000000 in
theorem pX5_dropSettled_b4 {E : wE} {n : Nat} (hE : wGE E) {G : gR} {k : Int} (hk : 0 ≤ k ∧ k < 11) : ∀ (fuel : Nat) (x1 : Int) (x2 : Int)  (H : hR) (ca : caT), WF E n yX5_dropSettled cX5_dropSettled 4 (none) vV (setH G k) ca 4 (wLs [some (.ref (aWait E k)), some (.int (iI x1)), some (.int (iI x2))]) [] H (fX5_dropSettled_b4 fuel x1 x2 H) := by
  intro fuel
  induction fuel with
  | zero =>
    intro x1 x2 H ca
    exact wf_none
  | succ fuel ih =>
    intro x1 x2 H ca
    unfold fX5_dropSettled_b4
    refine wf_iload_n dX5_dropSettled_4 rfl ?_
    refine wf_aload_n dX5_dropSettled_5 rfl ?_
    refine wf_get dX5_dropSettled_6 f_RX5_20 (fun h hr => rd_wait hr setH_at hk) ?_
    refine wf_gd (fun g9 => ?_)
    refine wf_icmp_ge 64 dX5_dropSettled_9 g9.1 g9.2 (fun h9 => ?_) (fun h9 => ?_)
    · refine wf_aload_n dX5_dropSettled_64 rfl ?_
      refine wf_iload_n dX5_dropSettled_65 rfl ?_
      refine wf_p_wait (f := 2) dX5_dropSettled_66 p_RX5_20 hk (fun H66 => ?_)
      exact wf_return dX5_dropSettled_69 rfl
    · refine wf_aload_n dX5_dropSettled_12 rfl ?_
      refine wf_get dX5_dropSettled_13 f_RX5_13 (fun h hr => rd_wait hr setH_at hk) ?_
      refine wf_iconst dX5_dropSettled_16 ?_
      refine wf_aald_cols dX5_dropSettled_17 (by decide) (fun h hr => rd_cols hr setH_at hk) ?_
      refine wf_iload_n dX5_dropSettled_18 rfl ?_
      refine wf_gd (fun g19 => ?_)
      refine wf_collds dX5_dropSettled_19 setH_at hk (by decide) g19 ?_
      refine wf_gd (fun g20 => ?_)
      refine wf_if_ne 26 dX5_dropSettled_20 g20 (fun h20 => ?_) (fun h20 => ?_)
      · refine wf_iconst dX5_dropSettled_26 ?_
        refine wf_istore_n dX5_dropSettled_27 ?_
        exact wf_at (pX5_dropSettled_b28 (n := n) hE hk ih fuel0 x1 x2 0 _ _) ⟨rfl, rfl, rfl, rfl, trivial⟩
      · refine wf_goto 58 dX5_dropSettled_23 ?_
        refine wf_iinc dX5_dropSettled_58 rfl ?_
        refine wf_goto 4 dX5_dropSettled_61 ?_
        exact wf_at (ih x1 (x2 + 1) _ _) ⟨rfl, rfl, rfl, trivial⟩
set_option maxRecDepth 100000 in
set_option maxHeartbeats 4000000 in
theorem pX5_dropSettled {E : wE} {n : Nat} (hE : wGE E) {G : gR} {k : Int} (hk : 0 ≤ k ∧ k < 11)   (H : hR) (ca : caT) : WF E n yX5_dropSettled cX5_dropSettled 4 (none) vV (setH G k) ca 0 (wArgs [.ref (aWait E k)]) [] H (fX5_dropSettled  H) := by
  unfold fX5_dropSettled
  refine wf_iconst dX5_dropSettled_0 ?_
  refine wf_istore_n dX5_dropSettled_1 ?_
  refine wf_iconst dX5_dropSettled_2 ?_
  refine wf_istore_n dX5_dropSettled_3 ?_
  exact wf_at (pX5_dropSettled_b4 (n := n) hE hk  fuel0 0 0 _ _) ⟨rfl, rfl, rfl, trivial⟩
set_option maxRecDepth 100000 in
set_option maxHeartbeats 4000000 in
theorem pX2_dropPayment {E : wE} {n : Nat} (hE : wGE E) {G : gR} {k : Int} (hk : 0 ≤ k ∧ k < 11) (x1 : Int)  (H : hR) (ca : caT) : WF E (n + 1) yX2_dropPayment cX2_dropPayment 2 (some .int) vI (setH G k) ca 0 (wArgs [.ref (aH E k), .int (iI x1)]) [] H (fX2_dropPayment x1 H) := by
  unfold fX2_dropPayment
  refine wf_iload_n dX2_dropPayment_0 rfl ?_
  refine wf_iconst dX2_dropPayment_1 ?_
  refine wf_aload_n dX2_dropPayment_2 rfl ?_
  refine wf_get dX2_dropPayment_3 f_RX2_33 (fun h hr => rd_h hr setH_at hk) ?_
  refine wf_get dX2_dropPayment_6 f_RX2_138 (fun h hr => rd_wait hr setH_at hk) ?_
  refine wf_iconst dX2_dropPayment_9 ?_
  refine wf_isub dX2_dropPayment_10 ?_
  refine wf_rSN dX2_dropPayment_11 k_RX2_77 b_yX6_isBetween x_yX6_isBetween (fun h hr => pX6_isBetween (n := n) hE x1 0 ((H.1 4 2 0) - 1)) (fun r11 => ?_)
  refine wf_gd (fun g14 => ?_)
  refine wf_if_ne 19 dX2_dropPayment_14 g14 (fun h14 => ?_) (fun h14 => ?_)
  · refine wf_aload_n dX2_dropPayment_19 rfl ?_
    refine wf_get dX2_dropPayment_20 f_RX2_26 (fun h hr => rd_h hr setH_at hk) ?_
    refine wf_aload_n dX2_dropPayment_23 rfl ?_
    refine wf_get dX2_dropPayment_24 f_RX2_33 (fun h hr => rd_h hr setH_at hk) ?_
    refine wf_get dX2_dropPayment_27 f_RX2_141 (fun h hr => rd_wait hr setH_at hk) ?_
    refine wf_iconst dX2_dropPayment_30 ?_
    refine wf_aald_cols dX2_dropPayment_31 (by decide) (fun h hr => rd_cols hr setH_at hk) ?_
    refine wf_iload_n dX2_dropPayment_32 rfl ?_
    refine wf_gd (fun g33 => ?_)
    refine wf_collds dX2_dropPayment_33 setH_at hk (by decide) g33 ?_
    refine wf_gd (fun g34 => ?_)
    refine wf_aald_ord dX2_dropPayment_34 g34 (fun h hr => rd_ords hr setH_at hk) ?_
    refine wf_dup dX2_dropPayment_35 ?_
    refine wf_get dX2_dropPayment_36 f_RX2_145 (fun h hr => rd_ord hr setH_at hk (by omega)) ?_
    refine wf_iconst dX2_dropPayment_39 ?_
    refine wf_iadd dX2_dropPayment_40 ?_
    refine wf_p_ord (f := 13) dX2_dropPayment_41 p_RX2_145 hk (by omega) (fun H41 => ?_)
    refine wf_aload_n dX2_dropPayment_44 rfl ?_
    refine wf_iload_n dX2_dropPayment_45 rfl ?_
    refine wf_cV (put := fun q => q) dX2_dropPayment_46 k_RX2_148 b_yX2_settle x_yX2_settle (pX2_settle (n := n) hE (G := G) (k := k) hk x1 _ _) rfl (fun _ => rfl) (fun h hr => rd_h hr setH_at hk) rfl (fun r46 H46 ca => ?_)
    refine wf_aload_n dX2_dropPayment_49 rfl ?_
    refine wf_get dX2_dropPayment_50 f_RX2_33 (fun h hr => rd_h hr setH_at hk) ?_
    refine wf_cV (put := fun q => q) dX2_dropPayment_53 k_RX2_152 b_yX5_dropSettled x_yX5_dropSettled (pX5_dropSettled (n := n) hE (G := G) (k := k) hk _ _) rfl (fun _ => rfl) (fun h hr => rd_wait hr setH_at hk) rfl (fun r53 H53 ca => ?_)
    refine wf_aload_n dX2_dropPayment_56 rfl ?_
    refine wf_get dX2_dropPayment_57 f_RX2_33 (fun h hr => rd_h hr setH_at hk) ?_
    refine wf_get dX2_dropPayment_60 f_RX2_138 (fun h hr => rd_wait hr setH_at hk) ?_
    exact wf_ireturn dX2_dropPayment_63 ⟨_, rfl, rfl⟩
  · refine wf_iconst dX2_dropPayment_17 ?_
    exact wf_ireturn dX2_dropPayment_18 ⟨_, rfl, rfl⟩
set_option maxRecDepth 100000 in
set_option maxHeartbeats 4000000 in
theorem pX6_giveUp {E : wE} {n : Nat} (hE : wGE E) {M : mR} (x1 : Int)  (c : cR) (ca : caT) : WF E (n + 7) yX6_giveUp cX6_giveUp 2 (some .int) vI (fun c : cR => (c, M)) ca 0 (wArgs [.ref (aTop E), .int (iI x1)]) [] c (fX6_giveUp x1 c) := by
  unfold fX6_giveUp
  refine wf_aload_n dX6_giveUp_0 rfl ?_
  refine wf_cV (put := fun q => q) dX6_giveUp_1 k_RX6_37 b_yX6_remember x_yX6_remember (pX6_remember (n := n) hE _ _) rfl (fun _ => rfl) (fun h hr => rd_top hr) rfl (fun r1 c1 ca => ?_)
  refine wf_aload_n dX6_giveUp_4 rfl ?_
  refine wf_aload_n dX6_giveUp_5 rfl ?_
  refine wf_get dX6_giveUp_6 f_RX6_12 (fun h hr => rd_top hr) ?_
  refine wf_iload_n dX6_giveUp_9 rfl ?_
  refine wf_cV (put := cH c1 0) dX6_giveUp_10 k_RX6_80 b_yX2_dropPayment x_yX2_dropPayment (pX2_dropPayment (n := n + 5) hE (G := (c1, M)) (k := 0) (by omega) x1 _ _) setH_self (fun _ => rfl) (fun h hr => rd_h hr rfl (by omega)) rfl (fun r10 t10 ca => ?_)
  refine wf_bnd (fun c10 => ?_)
  refine wf_cV (put := fun q => q) dX6_giveUp_13 k_RX6_44 b_yX6_recorded x_yX6_recorded (pX6_recorded (n := n + 4) hE r10 _ _) rfl (fun _ => rfl) (fun h hr => rd_top hr) rfl (fun r13 c13 ca => ?_)
  exact wf_ireturn dX6_giveUp_16 ⟨_, rfl, rfl⟩

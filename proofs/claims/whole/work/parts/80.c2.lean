/-! ===== the methods meet their functions (by program: wip/whole/gen.py) ===== -/
set_option maxRecDepth 100000 in
set_option maxHeartbeats 4000000 in
theorem pX5_add_b39 {E : wE} {n : Nat} (hE : wGE E) {G : gR} {k : Int} (hk : 0 ≤ k ∧ k < 11) (x1 : Int) (x2 : Int) (x3 : Int) (x4 : Int)  (H : hR) (ca : caT) : WF E (n + 4) yX5_add cX5_add 5 (some .boolean) vI (setH G k) ca 39 (wLs [some (.ref (aWait E k)), some (.int (iI x1)), some (.int (iI x2)), some (.int (iI x3)), some (.int (iI x4))]) [] H (fX5_add_b39 x1 x2 x3 x4 H) := by
  unfold fX5_add_b39
  refine wf_aload_n dX5_add_39 rfl ?_
  refine wf_get dX5_add_40 f_RX5_13 (fun h hr => rd_wait hr setH_at hk) ?_
  refine wf_iconst dX5_add_43 ?_
  refine wf_aald_cols dX5_add_44 (by decide) (fun h hr => rd_cols hr setH_at hk) ?_
  refine wf_aload_n dX5_add_45 rfl ?_
  refine wf_get dX5_add_46 f_RX5_20 (fun h hr => rd_wait hr setH_at hk) ?_
  refine wf_iload_n dX5_add_49 rfl ?_
  refine wf_gd (fun g50 => ?_)
  refine wf_s_col dX5_add_50 hk (by decide) g50 (fun H50 => ?_)
  refine wf_aload_n dX5_add_51 rfl ?_
  refine wf_get dX5_add_52 f_RX5_13 (fun h hr => rd_wait hr setH_at hk) ?_
  refine wf_iconst dX5_add_55 ?_
  refine wf_aald_cols dX5_add_56 (by decide) (fun h hr => rd_cols hr setH_at hk) ?_
  refine wf_aload_n dX5_add_57 rfl ?_
  refine wf_get dX5_add_58 f_RX5_20 (fun h hr => rd_wait hr setH_at hk) ?_
  refine wf_iload_n dX5_add_61 rfl ?_
  refine wf_gd (fun g62 => ?_)
  refine wf_s_col dX5_add_62 hk (by decide) g62 (fun H62 => ?_)
  refine wf_aload_n dX5_add_63 rfl ?_
  refine wf_get dX5_add_64 f_RX5_13 (fun h hr => rd_wait hr setH_at hk) ?_
  refine wf_iconst dX5_add_67 ?_
  refine wf_aald_cols dX5_add_68 (by decide) (fun h hr => rd_cols hr setH_at hk) ?_
  refine wf_aload_n dX5_add_69 rfl ?_
  refine wf_get dX5_add_70 f_RX5_20 (fun h hr => rd_wait hr setH_at hk) ?_
  refine wf_iload_n dX5_add_73 rfl ?_
  refine wf_gd (fun g74 => ?_)
  refine wf_s_col dX5_add_74 hk (by decide) g74 (fun H74 => ?_)
  refine wf_aload_n dX5_add_75 rfl ?_
  refine wf_get dX5_add_76 f_RX5_13 (fun h hr => rd_wait hr setH_at hk) ?_
  refine wf_iconst dX5_add_79 ?_
  refine wf_aald_cols dX5_add_80 (by decide) (fun h hr => rd_cols hr setH_at hk) ?_
  refine wf_aload_n dX5_add_81 rfl ?_
  refine wf_get dX5_add_82 f_RX5_20 (fun h hr => rd_wait hr setH_at hk) ?_
  refine wf_iload dX5_add_85 rfl ?_
  refine wf_gd (fun g87 => ?_)
  refine wf_s_col dX5_add_87 hk (by decide) g87 (fun H87 => ?_)
  refine wf_aload_n dX5_add_88 rfl ?_
  refine wf_get dX5_add_89 f_RX5_13 (fun h hr => rd_wait hr setH_at hk) ?_
  refine wf_iconst dX5_add_92 ?_
  refine wf_aald_cols dX5_add_93 (by decide) (fun h hr => rd_cols hr setH_at hk) ?_
  refine wf_aload_n dX5_add_94 rfl ?_
  refine wf_get dX5_add_95 f_RX5_20 (fun h hr => rd_wait hr setH_at hk) ?_
  refine wf_iconst dX5_add_98 ?_
  refine wf_gd (fun g99 => ?_)
  refine wf_s_col dX5_add_99 hk (by decide) g99 (fun H99 => ?_)
  refine wf_aload_n dX5_add_100 rfl ?_
  refine wf_dup dX5_add_101 ?_
  refine wf_get dX5_add_102 f_RX5_20 (fun h hr => rd_wait hr setH_at hk) ?_
  refine wf_iconst dX5_add_105 ?_
  refine wf_iadd dX5_add_106 ?_
  refine wf_p_wait (f := 2) dX5_add_107 p_RX5_20 hk (fun H107 => ?_)
  refine wf_iconst dX5_add_110 ?_
  exact wf_ireturn dX5_add_111 ⟨_, rfl, rfl⟩
set_option maxRecDepth 100000 in
set_option maxHeartbeats 4000000 in
theorem pX5_add {E : wE} {n : Nat} (hE : wGE E) {G : gR} {k : Int} (hk : 0 ≤ k ∧ k < 11) (x1 : Int) (x2 : Int) (x3 : Int) (x4 : Int)  (H : hR) (ca : caT) : WF E (n + 4) yX5_add cX5_add 5 (some .boolean) vI (setH G k) ca 0 (wArgs [.ref (aWait E k), .int (iI x1), .int (iI x2), .int (iI x3), .int (iI x4)]) [] H (fX5_add x1 x2 x3 x4 H) := by
  unfold fX5_add
  refine wf_aload_n dX5_add_0 rfl ?_
  refine wf_get dX5_add_1 f_RX5_20 (fun h hr => rd_wait hr setH_at hk) ?_
  refine wf_sipush dX5_add_4 ?_
  refine wf_gd (fun g7 => ?_)
  refine wf_icmp_lt 12 dX5_add_7 g7 (by decide) (fun h7 => ?_) (fun h7 => ?_)
  · refine wf_aload_n dX5_add_12 rfl ?_
    refine wf_get dX5_add_13 f_RX5_20 (fun h hr => rd_wait hr setH_at hk) ?_
    refine wf_aload_n dX5_add_16 rfl ?_
    refine wf_get dX5_add_17 f_RX5_16 (fun h hr => rd_wait hr setH_at hk) ?_
    refine wf_gd (fun g20 => ?_)
    refine wf_icmp_lt 39 dX5_add_20 g20.1 g20.2 (fun h20 => ?_) (fun h20 => ?_)
    · exact wf_at (pX5_add_b39 (n := n) hE hk  x1 x2 x3 x4 _ _) ⟨rfl, rfl, rfl, rfl, rfl, trivial⟩
    · refine wf_aload_n dX5_add_23 rfl ?_
      refine wf_iconst dX5_add_24 ?_
      refine wf_aload_n dX5_add_25 rfl ?_
      refine wf_get dX5_add_26 f_RX5_16 (fun h hr => rd_wait hr setH_at hk) ?_
      refine wf_imul dX5_add_29 ?_
      refine wf_sipush dX5_add_30 ?_
      refine wf_gd (fun g33 => ?_)
      refine wf_mmin dX5_add_33 k_RX5_39 g33.1 g33.2 ?_
      refine wf_cV (put := fun q => q) dX5_add_36 k_RX5_23 b_yX5_makeRoom x_yX5_makeRoom (pX5_makeRoom (n := n) hE (G := G) (k := k) hk (min (2 * (H.1 4 1 0)) 17520) _ _) rfl (fun _ => rfl) (fun h hr => rd_wait hr setH_at hk) rfl (fun r36 H36 ca => ?_)
      exact wf_at (pX5_add_b39 (n := n) hE hk  x1 x2 x3 x4 _ _) ⟨rfl, rfl, rfl, rfl, rfl, trivial⟩
  · refine wf_iconst dX5_add_10 ?_
    exact wf_ireturn dX5_add_11 ⟨_, rfl, rfl⟩
set_option maxRecDepth 100000 in
set_option maxHeartbeats 4000000 in
theorem pX2_takeNextOccurrence_b57 {E : wE} {n : Nat} (hE : wGE E) {G : gR} {k : Int} (hk : 0 ≤ k ∧ k < 11) (x1 : Int) (x2 : Int) (hbx2 : 0 ≤ x2 ∧ x2 < 16) (H : hR) (ca : caT) : WF E (n + 5) yX2_takeNextOccurrence cX2_takeNextOccurrence 3 (none) vV (setH G k) ca 57 (wLs [some (.ref (aH E k)), some (.int (iI x1)), some (.ref (aOrd E k x2))]) [] H (fX2_takeNextOccurrence_b57 x1 x2 H) := by
  unfold fX2_takeNextOccurrence_b57
  refine wf_aload_n dX2_takeNextOccurrence_57 rfl ?_
  refine wf_get dX2_takeNextOccurrence_58 f_RX2_33 (fun h hr => rd_h hr setH_at hk) ?_
  refine wf_iload_n dX2_takeNextOccurrence_61 rfl ?_
  refine wf_aload_n dX2_takeNextOccurrence_62 rfl ?_
  refine wf_get dX2_takeNextOccurrence_63 f_RX2_130 (fun h hr => rd_ord hr setH_at hk (by omega)) ?_
  refine wf_aload_n dX2_takeNextOccurrence_66 rfl ?_
  refine wf_get dX2_takeNextOccurrence_67 f_RX2_158 (fun h hr => rd_ord hr setH_at hk (by omega)) ?_
  refine wf_aload_n dX2_takeNextOccurrence_70 rfl ?_
  refine wf_get dX2_takeNextOccurrence_71 f_RX2_68 (fun h hr => rd_h hr setH_at hk) ?_
  refine wf_cV (put := fun q => q) dX2_takeNextOccurrence_74 k_RX2_217 b_yX5_add x_yX5_add (pX5_add (n := n) hE (G := G) (k := k) hk x1 (H.1 3 x2 2) (H.1 3 x2 18) (H.1 0 6 0) _ _) rfl (fun _ => rfl) (fun h hr => rd_wait hr setH_at hk) rfl (fun r74 H74 ca => ?_)
  refine wf_gd (fun g77 => ?_)
  refine wf_if_ne 81 dX2_takeNextOccurrence_77 g77 (fun h77 => ?_) (fun h77 => ?_)
  · refine wf_aload_n dX2_takeNextOccurrence_81 rfl ?_
    refine wf_dup dX2_takeNextOccurrence_82 ?_
    refine wf_get dX2_takeNextOccurrence_83 f_RX2_136 (fun h hr => rd_ord hr setH_at hk (by omega)) ?_
    refine wf_iconst dX2_takeNextOccurrence_86 ?_
    refine wf_iadd dX2_takeNextOccurrence_87 ?_
    refine wf_p_ord (f := 15) dX2_takeNextOccurrence_88 p_RX2_136 hk (by omega) (fun H88 => ?_)
    refine wf_aload_n dX2_takeNextOccurrence_91 rfl ?_
    refine wf_get dX2_takeNextOccurrence_92 f_RX2_20 (fun h hr => rd_h hr setH_at hk) ?_
    refine wf_aload_n dX2_takeNextOccurrence_95 rfl ?_
    refine wf_get dX2_takeNextOccurrence_96 f_RX2_221 (fun h hr => rd_ord hr setH_at hk (by omega)) ?_
    refine wf_gd (fun g99 => ?_)
    refine wf_aald_acc dX2_takeNextOccurrence_99 g99 (fun h hr => rd_accs hr setH_at hk) ?_
    refine wf_dup dX2_takeNextOccurrence_100 ?_
    refine wf_get dX2_takeNextOccurrence_101 f_RX2_224 (fun h hr => rd_acc hr setH_at hk (by omega)) ?_
    refine wf_aload_n dX2_takeNextOccurrence_104 rfl ?_
    refine wf_get dX2_takeNextOccurrence_105 f_RX2_130 (fun h hr => rd_ord hr setH_at hk (by omega)) ?_
    refine wf_gd (fun g108 => ?_)
    refine wf_i2l dX2_takeNextOccurrence_108 g108 ?_
    refine wf_ladd dX2_takeNextOccurrence_109 ?_
    refine wf_p_accl (f := 11) dX2_takeNextOccurrence_110 p_RX2_224 hk (by omega) (fun H110 => ?_)
    exact wf_return dX2_takeNextOccurrence_113 rfl
  · exact wf_return dX2_takeNextOccurrence_80 rfl
set_option maxRecDepth 100000 in
set_option maxHeartbeats 4000000 in
theorem pX2_takeNextOccurrence_b24 {E : wE} {n : Nat} (hE : wGE E) {G : gR} {k : Int} (hk : 0 ≤ k ∧ k < 11) (x1 : Int) (x2 : Int) (hbx2 : 0 ≤ x2 ∧ x2 < 16) (H : hR) (ca : caT) : WF E (n + 5) yX2_takeNextOccurrence cX2_takeNextOccurrence 3 (none) vV (setH G k) ca 24 (wLs [some (.ref (aH E k)), some (.int (iI x1)), some (.ref (aOrd E k x2))]) [] H (fX2_takeNextOccurrence_b24 x1 x2 H) := by
  unfold fX2_takeNextOccurrence_b24
  refine wf_aload_n dX2_takeNextOccurrence_24 rfl ?_
  refine wf_get dX2_takeNextOccurrence_25 f_RX2_211 (fun h hr => rd_ord hr setH_at hk (by omega)) ?_
  refine wf_iconst dX2_takeNextOccurrence_28 ?_
  refine wf_gd (fun g29 => ?_)
  refine wf_icmp_ne 57 dX2_takeNextOccurrence_29 g29 (by decide) (fun h29 => ?_) (fun h29 => ?_)
  · exact wf_at (pX2_takeNextOccurrence_b57 (n := n) hE hk  x1 x2 (by omega) _ _) ⟨rfl, rfl, rfl, trivial⟩
  · refine wf_aload_n dX2_takeNextOccurrence_32 rfl ?_
    refine wf_get dX2_takeNextOccurrence_33 f_RX2_12 (fun h hr => rd_h hr setH_at hk) ?_
    refine wf_aload_n dX2_takeNextOccurrence_36 rfl ?_
    refine wf_get dX2_takeNextOccurrence_37 f_RX2_158 (fun h hr => rd_ord hr setH_at hk (by omega)) ?_
    refine wf_rV dX2_takeNextOccurrence_40 k_RX2_179 b_yX1_isBusiness x_yX1_isBusiness (fun h hr => pX1_isBusiness (n := n + 4) hE hr setH_at hk (H.1 3 x2 18)) (fun h hr => rd_cal hr setH_at hk) rfl (fun r40 => ?_)
    refine wf_gd (fun g43 => ?_)
    refine wf_if_ne 57 dX2_takeNextOccurrence_43 g43 (fun h43 => ?_) (fun h43 => ?_)
    · exact wf_at (pX2_takeNextOccurrence_b57 (n := n) hE hk  x1 x2 (by omega) _ _) ⟨rfl, rfl, rfl, trivial⟩
    · refine wf_aload_n dX2_takeNextOccurrence_46 rfl ?_
      refine wf_dup dX2_takeNextOccurrence_47 ?_
      refine wf_get dX2_takeNextOccurrence_48 f_RX2_214 (fun h hr => rd_ord hr setH_at hk (by omega)) ?_
      refine wf_iconst dX2_takeNextOccurrence_51 ?_
      refine wf_iadd dX2_takeNextOccurrence_52 ?_
      refine wf_p_ord (f := 14) dX2_takeNextOccurrence_53 p_RX2_214 hk (by omega) (fun H53 => ?_)
      exact wf_return dX2_takeNextOccurrence_56 rfl
set_option maxRecDepth 100000 in
set_option maxHeartbeats 4000000 in
theorem pX2_takeNextOccurrence {E : wE} {n : Nat} (hE : wGE E) {G : gR} {k : Int} (hk : 0 ≤ k ∧ k < 11) (x1 : Int)  (H : hR) (ca : caT) : WF E (n + 5) yX2_takeNextOccurrence cX2_takeNextOccurrence 3 (none) vV (setH G k) ca 0 (wArgs [.ref (aH E k), .int (iI x1)]) [] H (fX2_takeNextOccurrence x1 H) := by
  unfold fX2_takeNextOccurrence
  refine wf_aload_n dX2_takeNextOccurrence_0 rfl ?_
  refine wf_get dX2_takeNextOccurrence_1 f_RX2_26 (fun h hr => rd_h hr setH_at hk) ?_
  refine wf_iload_n dX2_takeNextOccurrence_4 rfl ?_
  refine wf_gd (fun g5 => ?_)
  refine wf_aald_ord dX2_takeNextOccurrence_5 g5 (fun h hr => rd_ords hr setH_at hk) ?_
  refine wf_astore_n dX2_takeNextOccurrence_6 ?_
  refine wf_aload_n dX2_takeNextOccurrence_7 rfl ?_
  refine wf_get dX2_takeNextOccurrence_8 f_RX2_204 (fun h hr => rd_ord hr setH_at hk (by omega)) ?_
  refine wf_gd (fun g11 => ?_)
  refine wf_if_ne 24 dX2_takeNextOccurrence_11 g11 (fun h11 => ?_) (fun h11 => ?_)
  · exact wf_at (pX2_takeNextOccurrence_b24 (n := n) hE hk  x1 x1 (by omega) _ _) ⟨rfl, rfl, rfl, trivial⟩
  · refine wf_aload_n dX2_takeNextOccurrence_14 rfl ?_
    refine wf_dup dX2_takeNextOccurrence_15 ?_
    refine wf_get dX2_takeNextOccurrence_16 f_RX2_208 (fun h hr => rd_ord hr setH_at hk (by omega)) ?_
    refine wf_iconst dX2_takeNextOccurrence_19 ?_
    refine wf_isub dX2_takeNextOccurrence_20 ?_
    refine wf_p_ord (f := 10) dX2_takeNextOccurrence_21 p_RX2_208 hk (by omega) (fun H21 => ?_)
    exact wf_at (pX2_takeNextOccurrence_b24 (n := n) hE hk  x1 x1 (by omega) _ _) ⟨rfl, rfl, rfl, trivial⟩
set_option maxRecDepth 100000 in
set_option maxHeartbeats 4000000 in
theorem pX3_hasPaymentsLeft {E : wE} {n : Nat} (hE : wGE E) {G : gR} {H : hR} {ca : caT} {h : hW} {k : Int} (hr : rep E G ca h) (hH : G.1.1 k = H) (hk : 0 ≤ k ∧ k < 11) (i : Int) (hbi : 0 ≤ i ∧ i < 16) : WR E n yX3_hasPaymentsLeft cX3_hasPaymentsLeft 1 (some .boolean) vI h 0 (wArgs [.ref (aOrd E k i)]) [] (fX3_hasPaymentsLeft i H) := by
  unfold fX3_hasPaymentsLeft
  refine wr_aload_n dX3_hasPaymentsLeft_0 rfl ?_
  refine wr_get dX3_hasPaymentsLeft_1 f_RX3_39 (rd_ord hr hH hk (by omega)) ?_
  refine wr_gd (fun g4 => ?_)
  refine wr_if_ne 14 dX3_hasPaymentsLeft_4 g4 (fun h4 => ?_) (fun h4 => ?_)
  · refine wr_iconst dX3_hasPaymentsLeft_14 ?_
    refine wr_goto 19 dX3_hasPaymentsLeft_15 ?_
    exact wr_ireturn dX3_hasPaymentsLeft_19 ⟨_, rfl, rfl⟩
  · refine wr_aload_n dX3_hasPaymentsLeft_7 rfl ?_
    refine wr_get dX3_hasPaymentsLeft_8 f_RX3_43 (rd_ord hr hH hk (by omega)) ?_
    refine wr_gd (fun g11 => ?_)
    refine wr_if_le 18 dX3_hasPaymentsLeft_11 g11 (fun h11 => ?_) (fun h11 => ?_)
    · refine wr_iconst dX3_hasPaymentsLeft_18 ?_
      exact wr_ireturn dX3_hasPaymentsLeft_19 ⟨_, rfl, rfl⟩
    · refine wr_iconst dX3_hasPaymentsLeft_14 ?_
      refine wr_goto 19 dX3_hasPaymentsLeft_15 ?_
      exact wr_ireturn dX3_hasPaymentsLeft_19 ⟨_, rfl, rfl⟩
set_option maxRecDepth 100000 in
set_option maxHeartbeats 4000000 in
theorem pX2_makePaymentsDue_b100 {E : wE} {n : Nat} (hE : wGE E) {G : gR} {k : Int} (hk : 0 ≤ k ∧ k < 11) {rec2 : Int → hR → Option (Unit × hR)} (hrec2 : ∀ (x1 : Int)  (H : hR) (ca : caT), WF E (n + 6) yX2_makePaymentsDue cX2_makePaymentsDue 4 (none) vV (setH G k) ca 2 (wLs [some (.ref (aH E k)), some (.int (iI x1))]) [] H (rec2 x1 H)) (x1 : Int) (x2 : Int) (hbx2 : 0 ≤ x2 ∧ x2 < 16) (H : hR) (ca : caT) : WF E (n + 6) yX2_makePaymentsDue cX2_makePaymentsDue 4 (none) vV (setH G k) ca 100 (wLs [some (.ref (aH E k)), some (.int (iI x1)), some (.ref (aOrd E k x2))]) [] H (fX2_makePaymentsDue_b100 rec2 x1 x2 H) := by
  unfold fX2_makePaymentsDue_b100
  refine wf_aload_n dX2_makePaymentsDue_100 rfl ?_
  refine wf_iconst dX2_makePaymentsDue_101 ?_
  refine wf_p_ord (f := 11) dX2_makePaymentsDue_102 p_RX2_127 hk (by omega) (fun H102 => ?_)
  refine wf_iinc dX2_makePaymentsDue_105 rfl ?_
  refine wf_goto 2 dX2_makePaymentsDue_108 ?_
  exact wf_at (hrec2 (x1 + 1) _ _) ⟨rfl, rfl, trivial⟩
set_option maxRecDepth 100000 in
set_option maxHeartbeats 4000000 in
theorem pX2_makePaymentsDue_b83 {E : wE} {n : Nat} (hE : wGE E) {G : gR} {k : Int} (hk : 0 ≤ k ∧ k < 11) {rec2 : Int → hR → Option (Unit × hR)} (hrec2 : ∀ (x1 : Int)  (H : hR) (ca : caT), WF E (n + 6) yX2_makePaymentsDue cX2_makePaymentsDue 4 (none) vV (setH G k) ca 2 (wLs [some (.ref (aH E k)), some (.int (iI x1))]) [] H (rec2 x1 H)) (x1 : Int) (x2 : Int) (hbx2 : 0 ≤ x2 ∧ x2 < 16) (H : hR) (ca : caT) : WF E (n + 6) yX2_makePaymentsDue cX2_makePaymentsDue 4 (none) vV (setH G k) ca 83 (wLs [some (.ref (aH E k)), some (.int (iI x1)), some (.ref (aOrd E k x2))]) [] H (fX2_makePaymentsDue_b83 rec2 x1 x2 H) := by
  unfold fX2_makePaymentsDue_b83
  refine wf_aload_n dX2_makePaymentsDue_83 rfl ?_
  refine wf_rV dX2_makePaymentsDue_84 k_RX2_188 b_yX3_hasPaymentsLeft x_yX3_hasPaymentsLeft (fun h hr => pX3_hasPaymentsLeft (n := n + 5) hE hr setH_at hk x2 (by omega)) (fun h hr => rd_ord hr setH_at hk (by omega)) rfl (fun r84 => ?_)
  refine wf_gd (fun g87 => ?_)
  refine wf_if_eq 100 dX2_makePaymentsDue_87 g87 (fun h87 => ?_) (fun h87 => ?_)
  · exact wf_at (pX2_makePaymentsDue_b100 (n := n) hE hk hrec2 x1 x2 (by omega) _ _) ⟨rfl, rfl, rfl, trivial⟩
  · refine wf_aload_n dX2_makePaymentsDue_90 rfl ?_
    refine wf_get dX2_makePaymentsDue_91 f_RX2_192 (fun h hr => rd_ord hr setH_at hk (by omega)) ?_
    refine wf_sipush dX2_makePaymentsDue_94 ?_
    refine wf_gd (fun g97 => ?_)
    refine wf_icmp_ne 105 dX2_makePaymentsDue_97 g97 (by decide) (fun h97 => ?_) (fun h97 => ?_)
    · refine wf_iinc dX2_makePaymentsDue_105 rfl ?_
      refine wf_goto 2 dX2_makePaymentsDue_108 ?_
      exact wf_at (hrec2 (x1 + 1) _ _) ⟨rfl, rfl, trivial⟩
    · exact wf_at (pX2_makePaymentsDue_b100 (n := n) hE hk hrec2 x1 x2 (by omega) _ _) ⟨rfl, rfl, rfl, trivial⟩
set_option maxRecDepth 100000 in
set_option maxHeartbeats 4000000 in
theorem pX2_makePaymentsDue_b29 {E : wE} {n : Nat} (hE : wGE E) {G : gR} {k : Int} (hk : 0 ≤ k ∧ k < 11) {rec2 : Int → hR → Option (Unit × hR)} (hrec2 : ∀ (x1 : Int)  (H : hR) (ca : caT), WF E (n + 6) yX2_makePaymentsDue cX2_makePaymentsDue 4 (none) vV (setH G k) ca 2 (wLs [some (.ref (aH E k)), some (.int (iI x1))]) [] H (rec2 x1 H)) : ∀ (fuel : Nat) (x1 : Int) (x2 : Int) (x3 : Int) (hbx2 : 0 ≤ x2 ∧ x2 < 16) (H : hR) (ca : caT), WF E (n + 6) yX2_makePaymentsDue cX2_makePaymentsDue 4 (none) vV (setH G k) ca 29 (wLs [some (.ref (aH E k)), some (.int (iI x1)), some (.ref (aOrd E k x2)), some (.int (iI x3))]) [] H (fX2_makePaymentsDue_b29 rec2 fuel x1 x2 x3 H) := by
  intro fuel
  induction fuel with
  | zero =>
    intro x1 x2 x3 hbx2 H ca
    exact wf_none
  | succ fuel ih =>
    intro x1 x2 x3 hbx2 H ca
    unfold fX2_makePaymentsDue_b29
    refine wf_iload_n dX2_makePaymentsDue_29 rfl ?_
    refine wf_sipush dX2_makePaymentsDue_30 ?_
    refine wf_gd (fun g33 => ?_)
    refine wf_icmp_gt 83 dX2_makePaymentsDue_33 g33 (by decide) (fun h33 => ?_) (fun h33 => ?_)
    · exact wf_at (pX2_makePaymentsDue_b83 (n := n) hE hk hrec2 x1 x2 (by omega) _ _) ⟨rfl, rfl, rfl, trivial⟩
    · refine wf_aload_n dX2_makePaymentsDue_36 rfl ?_
      refine wf_rV dX2_makePaymentsDue_37 k_RX2_188 b_yX3_hasPaymentsLeft x_yX3_hasPaymentsLeft (fun h hr => pX3_hasPaymentsLeft (n := n + 5) hE hr setH_at hk x2 (by omega)) (fun h hr => rd_ord hr setH_at hk (by omega)) rfl (fun r37 => ?_)
      refine wf_gd (fun g40 => ?_)
      refine wf_if_eq 83 dX2_makePaymentsDue_40 g40 (fun h40 => ?_) (fun h40 => ?_)
      · exact wf_at (pX2_makePaymentsDue_b83 (n := n) hE hk hrec2 x1 x2 (by omega) _ _) ⟨rfl, rfl, rfl, trivial⟩
      · refine wf_aload_n dX2_makePaymentsDue_43 rfl ?_
        refine wf_get dX2_makePaymentsDue_44 f_RX2_192 (fun h hr => rd_ord hr setH_at hk (by omega)) ?_
        refine wf_aload_n dX2_makePaymentsDue_47 rfl ?_
        refine wf_get dX2_makePaymentsDue_48 f_RX2_68 (fun h hr => rd_h hr setH_at hk) ?_
        refine wf_gd (fun g51 => ?_)
        refine wf_icmp_gt 83 dX2_makePaymentsDue_51 g51.1 g51.2 (fun h51 => ?_) (fun h51 => ?_)
        · exact wf_at (pX2_makePaymentsDue_b83 (n := n) hE hk hrec2 x1 x2 (by omega) _ _) ⟨rfl, rfl, rfl, trivial⟩
        · refine wf_aload_n dX2_makePaymentsDue_54 rfl ?_
          refine wf_iload_n dX2_makePaymentsDue_55 rfl ?_
          refine wf_cV (put := fun q => q) dX2_makePaymentsDue_56 k_RX2_195 b_yX2_takeNextOccurrence x_yX2_takeNextOccurrence (pX2_takeNextOccurrence (n := n) hE (G := G) (k := k) hk x1 _ _) rfl (fun _ => rfl) (fun h hr => rd_h hr setH_at hk) rfl (fun r56 H56 ca => ?_)
          refine wf_aload_n dX2_makePaymentsDue_59 rfl ?_
          refine wf_aload_n dX2_makePaymentsDue_60 rfl ?_
          refine wf_get dX2_makePaymentsDue_61 f_RX2_198 (fun h hr => rd_ord hr setH_at hk (by omega)) ?_
          refine wf_iconst dX2_makePaymentsDue_64 ?_
          refine wf_iadd dX2_makePaymentsDue_65 ?_
          refine wf_p_ord (f := 16) dX2_makePaymentsDue_66 p_RX2_201 hk (by omega) (fun H66 => ?_)
          refine wf_aload_n dX2_makePaymentsDue_69 rfl ?_
          refine wf_aload_n dX2_makePaymentsDue_70 rfl ?_
          refine wf_get dX2_makePaymentsDue_71 f_RX2_12 (fun h hr => rd_h hr setH_at hk) ?_
          refine wf_cV (put := fun q => q) dX2_makePaymentsDue_74 k_RX2_155 b_yX3_aim x_yX3_aim (pX3_aim (n := n + 2) hE (G := G) (k := k) hk x2 (by omega) _ _) rfl (fun _ => rfl) (fun h hr => rd_ord hr setH_at hk (by omega)) rfl (fun r74 H74 ca => ?_)
          refine wf_iinc dX2_makePaymentsDue_77 rfl ?_
          refine wf_goto 29 dX2_makePaymentsDue_80 ?_
          exact wf_at (ih x1 x2 (x3 + 1) (by omega) _ _) ⟨rfl, rfl, rfl, rfl, trivial⟩
set_option maxRecDepth 100000 in
set_option maxHeartbeats 4000000 in
theorem pX2_makePaymentsDue_b2 {E : wE} {n : Nat} (hE : wGE E) {G : gR} {k : Int} (hk : 0 ≤ k ∧ k < 11) : ∀ (fuel : Nat) (x1 : Int)  (H : hR) (ca : caT), WF E (n + 6) yX2_makePaymentsDue cX2_makePaymentsDue 4 (none) vV (setH G k) ca 2 (wLs [some (.ref (aH E k)), some (.int (iI x1))]) [] H (fX2_makePaymentsDue_b2 fuel x1 H) := by
  intro fuel
  induction fuel with
  | zero =>
    intro x1 H ca
    exact wf_none
  | succ fuel ih =>
    intro x1 H ca
    unfold fX2_makePaymentsDue_b2
    refine wf_iload_n dX2_makePaymentsDue_2 rfl ?_
    refine wf_aload_n dX2_makePaymentsDue_3 rfl ?_
    refine wf_get dX2_makePaymentsDue_4 f_RX2_59 (fun h hr => rd_h hr setH_at hk) ?_
    refine wf_gd (fun g7 => ?_)
    refine wf_icmp_ge 111 dX2_makePaymentsDue_7 g7.1 g7.2 (fun h7 => ?_) (fun h7 => ?_)
    · exact wf_return dX2_makePaymentsDue_111 rfl
    · refine wf_aload_n dX2_makePaymentsDue_10 rfl ?_
      refine wf_get dX2_makePaymentsDue_11 f_RX2_26 (fun h hr => rd_h hr setH_at hk) ?_
      refine wf_iload_n dX2_makePaymentsDue_14 rfl ?_
      refine wf_gd (fun g15 => ?_)
      refine wf_aald_ord dX2_makePaymentsDue_15 g15 (fun h hr => rd_ords hr setH_at hk) ?_
      refine wf_astore_n dX2_makePaymentsDue_16 ?_
      refine wf_aload_n dX2_makePaymentsDue_17 rfl ?_
      refine wf_get dX2_makePaymentsDue_18 f_RX2_127 (fun h hr => rd_ord hr setH_at hk (by omega)) ?_
      refine wf_gd (fun g21 => ?_)
      refine wf_if_eq 27 dX2_makePaymentsDue_21 g21 (fun h21 => ?_) (fun h21 => ?_)
      · refine wf_iconst dX2_makePaymentsDue_27 ?_
        refine wf_istore_n dX2_makePaymentsDue_28 ?_
        exact wf_at (pX2_makePaymentsDue_b29 (n := n) hE hk ih fuel0 x1 x1 0 (by omega) _ _) ⟨rfl, rfl, rfl, rfl, trivial⟩
      · refine wf_goto 105 dX2_makePaymentsDue_24 ?_
        refine wf_iinc dX2_makePaymentsDue_105 rfl ?_
        refine wf_goto 2 dX2_makePaymentsDue_108 ?_
        exact wf_at (ih (x1 + 1) _ _) ⟨rfl, rfl, trivial⟩
set_option maxRecDepth 100000 in
set_option maxHeartbeats 4000000 in
theorem pX2_makePaymentsDue {E : wE} {n : Nat} (hE : wGE E) {G : gR} {k : Int} (hk : 0 ≤ k ∧ k < 11)   (H : hR) (ca : caT) : WF E (n + 6) yX2_makePaymentsDue cX2_makePaymentsDue 4 (none) vV (setH G k) ca 0 (wArgs [.ref (aH E k)]) [] H (fX2_makePaymentsDue  H) := by
  unfold fX2_makePaymentsDue
  refine wf_iconst dX2_makePaymentsDue_0 ?_
  refine wf_istore_n dX2_makePaymentsDue_1 ?_
  exact wf_at (pX2_makePaymentsDue_b2 (n := n) hE hk  fuel0 0 _ _) ⟨rfl, rfl, trivial⟩
set_option maxRecDepth 100000 in
set_option maxHeartbeats 4000000 in
theorem pX2_nameFeeder_b31 {E : wE} {n : Nat} (hE : wGE E) {G : gR} {k : Int} (hk : 0 ≤ k ∧ k < 11) (x1 : Int) (x2 : Int)  (H : hR) (ca : caT) : WF E (n + 1) yX2_nameFeeder cX2_nameFeeder 4 (some .int) vI (setH G k) ca 31 (wLs [some (.ref (aH E k)), some (.int (iI x1)), some (.int (iI x2))]) [] H (fX2_nameFeeder_b31 x1 x2 H) := by
  unfold fX2_nameFeeder_b31
  refine wf_aload_n dX2_nameFeeder_31 rfl ?_
  refine wf_get dX2_nameFeeder_32 f_RX2_20 (fun h hr => rd_h hr setH_at hk) ?_
  refine wf_iload_n dX2_nameFeeder_35 rfl ?_
  refine wf_gd (fun g36 => ?_)
  refine wf_aald_acc dX2_nameFeeder_36 g36 (fun h hr => rd_accs hr setH_at hk) ?_
  refine wf_get dX2_nameFeeder_37 f_RX2_101 (fun h hr => rd_acc hr setH_at hk (by omega)) ?_
  refine wf_istore_n dX2_nameFeeder_40 ?_
  refine wf_aload_n dX2_nameFeeder_41 rfl ?_
  refine wf_get dX2_nameFeeder_42 f_RX2_20 (fun h hr => rd_h hr setH_at hk) ?_
  refine wf_iload_n dX2_nameFeeder_45 rfl ?_
  refine wf_gd (fun g46 => ?_)
  refine wf_aald_acc dX2_nameFeeder_46 g46 (fun h hr => rd_accs hr setH_at hk) ?_
  refine wf_iload_n dX2_nameFeeder_47 rfl ?_
  refine wf_p_acci (f := 2) dX2_nameFeeder_48 p_RX2_101 hk (by omega) (fun H48 => ?_)
  refine wf_iload_n dX2_nameFeeder_51 rfl ?_
  exact wf_ireturn dX2_nameFeeder_52 ⟨_, rfl, rfl⟩
set_option maxRecDepth 100000 in
set_option maxHeartbeats 4000000 in
theorem pX2_nameFeeder {E : wE} {n : Nat} (hE : wGE E) {G : gR} {k : Int} (hk : 0 ≤ k ∧ k < 11) (x1 : Int) (x2 : Int)  (H : hR) (ca : caT) : WF E (n + 1) yX2_nameFeeder cX2_nameFeeder 4 (some .int) vI (setH G k) ca 0 (wArgs [.ref (aH E k), .int (iI x1), .int (iI x2)]) [] H (fX2_nameFeeder x1 x2 H) := by
  unfold fX2_nameFeeder
  refine wf_aload_n dX2_nameFeeder_0 rfl ?_
  refine wf_iload_n dX2_nameFeeder_1 rfl ?_
  refine wf_rV dX2_nameFeeder_2 k_RX2_97 b_yX2_hasAccount x_yX2_hasAccount (fun h hr => pX2_hasAccount (n := n) hE hr setH_at hk x1) (fun h hr => rd_h hr setH_at hk) rfl (fun r2 => ?_)
  refine wf_gd (fun g5 => ?_)
  refine wf_if_ne 10 dX2_nameFeeder_5 g5 (fun h5 => ?_) (fun h5 => ?_)
  · refine wf_iload_n dX2_nameFeeder_10 rfl ?_
    refine wf_bipush dX2_nameFeeder_11 ?_
    refine wf_gd (fun g13 => ?_)
    refine wf_icmp_eq 31 dX2_nameFeeder_13 g13 (by decide) (fun h13 => ?_) (fun h13 => ?_)
    · exact wf_at (pX2_nameFeeder_b31 (n := n) hE hk  x1 x2 _ _) ⟨rfl, rfl, rfl, trivial⟩
    · refine wf_iload_n dX2_nameFeeder_16 rfl ?_
      refine wf_iload_n dX2_nameFeeder_17 rfl ?_
      refine wf_gd (fun g18 => ?_)
      refine wf_icmp_eq 29 dX2_nameFeeder_18 g18.1 g18.2 (fun h18 => ?_) (fun h18 => ?_)
      · refine wf_iconst dX2_nameFeeder_29 ?_
        exact wf_ireturn dX2_nameFeeder_30 ⟨_, rfl, rfl⟩
      · refine wf_aload_n dX2_nameFeeder_21 rfl ?_
        refine wf_iload_n dX2_nameFeeder_22 rfl ?_
        refine wf_rV dX2_nameFeeder_23 k_RX2_97 b_yX2_hasAccount x_yX2_hasAccount (fun h hr => pX2_hasAccount (n := n) hE hr setH_at hk x2) (fun h hr => rd_h hr setH_at hk) rfl (fun r23 => ?_)
        refine wf_gd (fun g26 => ?_)
        refine wf_if_ne 31 dX2_nameFeeder_26 g26 (fun h26 => ?_) (fun h26 => ?_)
        · exact wf_at (pX2_nameFeeder_b31 (n := n) hE hk  x1 x2 _ _) ⟨rfl, rfl, rfl, trivial⟩
        · refine wf_iconst dX2_nameFeeder_29 ?_
          exact wf_ireturn dX2_nameFeeder_30 ⟨_, rfl, rfl⟩
  · refine wf_iconst dX2_nameFeeder_8 ?_
    exact wf_ireturn dX2_nameFeeder_9 ⟨_, rfl, rfl⟩
set_option maxRecDepth 100000 in
set_option maxHeartbeats 4000000 in
theorem pX2_nextNominalDay {E : wE} {n : Nat} (hE : wGE E) {G : gR} {k : Int} (hk : 0 ≤ k ∧ k < 11) (x1 : Int)  (H : hR) (ca : caT) : WF E (n + 4) yX2_nextNominalDay cX2_nextNominalDay 2 (some .int) vI (setH G k) ca 0 (wArgs [.ref (aH E k), .int (iI x1)]) [] H (fX2_nextNominalDay x1 H) := by
  unfold fX2_nextNominalDay
  refine wf_aload_n dX2_nextNominalDay_0 rfl ?_
  refine wf_get dX2_nextNominalDay_1 f_RX2_26 (fun h hr => rd_h hr setH_at hk) ?_
  refine wf_iload_n dX2_nextNominalDay_4 rfl ?_
  refine wf_gd (fun g5 => ?_)
  refine wf_aald_ord dX2_nextNominalDay_5 g5 (fun h hr => rd_ords hr setH_at hk) ?_
  refine wf_get dX2_nextNominalDay_6 f_RX2_127 (fun h hr => rd_ord hr setH_at hk (by omega)) ?_
  refine wf_iconst dX2_nextNominalDay_9 ?_
  refine wf_gd (fun g10 => ?_)
  refine wf_icmp_ne 16 dX2_nextNominalDay_10 g10 (by decide) (fun h10 => ?_) (fun h10 => ?_)
  · refine wf_aload_n dX2_nextNominalDay_16 rfl ?_
    refine wf_get dX2_nextNominalDay_17 f_RX2_26 (fun h hr => rd_h hr setH_at hk) ?_
    refine wf_iload_n dX2_nextNominalDay_20 rfl ?_
    refine wf_gd (fun g21 => ?_)
    refine wf_aald_ord dX2_nextNominalDay_21 g21 (fun h hr => rd_ords hr setH_at hk) ?_
    refine wf_aload_n dX2_nextNominalDay_22 rfl ?_
    refine wf_get dX2_nextNominalDay_23 f_RX2_12 (fun h hr => rd_h hr setH_at hk) ?_
    refine wf_cV (put := fun q => q) dX2_nextNominalDay_26 k_RX2_155 b_yX3_aim x_yX3_aim (pX3_aim (n := n) hE (G := G) (k := k) hk x1 (by omega) _ _) rfl (fun _ => rfl) (fun h hr => rd_ord hr setH_at hk (by omega)) rfl (fun r26 H26 ca => ?_)
    refine wf_aload_n dX2_nextNominalDay_29 rfl ?_
    refine wf_get dX2_nextNominalDay_30 f_RX2_26 (fun h hr => rd_h hr setH_at hk) ?_
    refine wf_iload_n dX2_nextNominalDay_33 rfl ?_
    refine wf_gd (fun g34 => ?_)
    refine wf_aald_ord dX2_nextNominalDay_34 g34 (fun h hr => rd_ords hr setH_at hk) ?_
    refine wf_get dX2_nextNominalDay_35 f_RX2_158 (fun h hr => rd_ord hr setH_at hk (by omega)) ?_
    exact wf_ireturn dX2_nextNominalDay_38 ⟨_, rfl, rfl⟩
  · refine wf_bipush dX2_nextNominalDay_13 ?_
    exact wf_ireturn dX2_nextNominalDay_15 ⟨_, rfl, rfl⟩
set_option maxRecDepth 100000 in
set_option maxHeartbeats 4000000 in
theorem pX2_settingOf {E : wE} {n : Nat} (hE : wGE E) {G : gR} {H : hR} {ca : caT} {h : hW} {k : Int} (hr : rep E G ca h) (hH : G.1.1 k = H) (hk : 0 ≤ k ∧ k < 11) (x1 : Int)  : WR E n yX2_settingOf cX2_settingOf 2 (some .int) vI h 0 (wArgs [.ref (aH E k), .int (iI x1)]) [] (fX2_settingOf x1 H) := by
  unfold fX2_settingOf
  refine wr_iload_n dX2_settingOf_0 rfl ?_
  refine wr_gd (fun g1 => ?_)
  refine wr_ite (fun e1_0 => ?_) (fun e1_0 => ?_)
  · refine wr_tsK 0 28 dX2_settingOf_1 e1_0 ?_
    refine wr_aload_n dX2_settingOf_28 rfl ?_
    refine wr_get dX2_settingOf_29 f_RX2_37 (rd_h hr hH hk) ?_
    exact wr_ireturn dX2_settingOf_32 ⟨_, rfl, rfl⟩
  refine wr_ite (fun e1_1 => ?_) (fun e1_1 => ?_)
  · refine wr_tsK 1 33 dX2_settingOf_1 e1_1 ?_
    refine wr_aload_n dX2_settingOf_33 rfl ?_
    refine wr_get dX2_settingOf_34 f_RX2_41 (rd_h hr hH hk) ?_
    exact wr_ireturn dX2_settingOf_37 ⟨_, rfl, rfl⟩
  refine wr_ite (fun e1_2 => ?_) (fun e1_2 => ?_)
  · refine wr_tsK 2 38 dX2_settingOf_1 e1_2 ?_
    refine wr_aload_n dX2_settingOf_38 rfl ?_
    refine wr_get dX2_settingOf_39 f_RX2_44 (rd_h hr hH hk) ?_
    exact wr_ireturn dX2_settingOf_42 ⟨_, rfl, rfl⟩
  refine wr_tsOut (z := x1) 43 dX2_settingOf_1 g1 (by omega) ?_
  refine wr_aload_n dX2_settingOf_43 rfl ?_
  refine wr_get dX2_settingOf_44 f_RX2_12 (rd_h hr hH hk) ?_
  refine wr_get dX2_settingOf_47 f_RX2_74 (rd_cal hr hH hk) ?_
  exact wr_ireturn dX2_settingOf_50 ⟨_, rfl, rfl⟩
set_option maxRecDepth 100000 in
set_option maxHeartbeats 4000000 in
theorem pX3_numberOf {E : wE} {n : Nat} (hE : wGE E) {G : gR} {H : hR} {ca : caT} {h : hW} {k : Int} (hr : rep E G ca h) (hH : G.1.1 k = H) (hk : 0 ≤ k ∧ k < 11) (i : Int) (x1 : Int) (hbi : 0 ≤ i ∧ i < 16) : WR E n yX3_numberOf cX3_numberOf 2 (some .int) vI h 0 (wArgs [.ref (aOrd E k i), .int (iI x1)]) [] (fX3_numberOf i x1 H) := by
  unfold fX3_numberOf
  refine wr_iload_n dX3_numberOf_0 rfl ?_
  refine wr_gd (fun g1 => ?_)
  refine wr_ite (fun e1_0 => ?_) (fun e1_0 => ?_)
  · refine wr_tsK 0 76 dX3_numberOf_1 e1_0 ?_
    refine wr_aload_n dX3_numberOf_76 rfl ?_
    refine wr_get dX3_numberOf_77 f_RX3_9 (rd_ord hr hH hk (by omega)) ?_
    exact wr_ireturn dX3_numberOf_80 ⟨_, rfl, rfl⟩
  refine wr_ite (fun e1_1 => ?_) (fun e1_1 => ?_)
  · refine wr_tsK 1 81 dX3_numberOf_1 e1_1 ?_
    refine wr_aload_n dX3_numberOf_81 rfl ?_
    refine wr_get dX3_numberOf_82 f_RX3_15 (rd_ord hr hH hk (by omega)) ?_
    exact wr_ireturn dX3_numberOf_85 ⟨_, rfl, rfl⟩
  refine wr_ite (fun e1_2 => ?_) (fun e1_2 => ?_)
  · refine wr_tsK 2 86 dX3_numberOf_1 e1_2 ?_
    refine wr_aload_n dX3_numberOf_86 rfl ?_
    refine wr_get dX3_numberOf_87 f_RX3_18 (rd_ord hr hH hk (by omega)) ?_
    exact wr_ireturn dX3_numberOf_90 ⟨_, rfl, rfl⟩
  refine wr_ite (fun e1_3 => ?_) (fun e1_3 => ?_)
  · refine wr_tsK 3 91 dX3_numberOf_1 e1_3 ?_
    refine wr_aload_n dX3_numberOf_91 rfl ?_
    refine wr_get dX3_numberOf_92 f_RX3_21 (rd_ord hr hH hk (by omega)) ?_
    exact wr_ireturn dX3_numberOf_95 ⟨_, rfl, rfl⟩
  refine wr_ite (fun e1_4 => ?_) (fun e1_4 => ?_)
  · refine wr_tsK 4 96 dX3_numberOf_1 e1_4 ?_
    refine wr_aload_n dX3_numberOf_96 rfl ?_
    refine wr_get dX3_numberOf_97 f_RX3_24 (rd_ord hr hH hk (by omega)) ?_
    exact wr_ireturn dX3_numberOf_100 ⟨_, rfl, rfl⟩
  refine wr_ite (fun e1_5 => ?_) (fun e1_5 => ?_)
  · refine wr_tsK 5 101 dX3_numberOf_1 e1_5 ?_
    refine wr_aload_n dX3_numberOf_101 rfl ?_
    refine wr_get dX3_numberOf_102 f_RX3_27 (rd_ord hr hH hk (by omega)) ?_
    exact wr_ireturn dX3_numberOf_105 ⟨_, rfl, rfl⟩
  refine wr_ite (fun e1_6 => ?_) (fun e1_6 => ?_)
  · refine wr_tsK 6 106 dX3_numberOf_1 e1_6 ?_
    refine wr_aload_n dX3_numberOf_106 rfl ?_
    refine wr_get dX3_numberOf_107 f_RX3_30 (rd_ord hr hH hk (by omega)) ?_
    exact wr_ireturn dX3_numberOf_110 ⟨_, rfl, rfl⟩
  refine wr_ite (fun e1_7 => ?_) (fun e1_7 => ?_)
  · refine wr_tsK 7 111 dX3_numberOf_1 e1_7 ?_
    refine wr_aload_n dX3_numberOf_111 rfl ?_
    refine wr_get dX3_numberOf_112 f_RX3_33 (rd_ord hr hH hk (by omega)) ?_
    exact wr_ireturn dX3_numberOf_115 ⟨_, rfl, rfl⟩
  refine wr_ite (fun e1_8 => ?_) (fun e1_8 => ?_)
  · refine wr_tsK 8 116 dX3_numberOf_1 e1_8 ?_
    refine wr_aload_n dX3_numberOf_116 rfl ?_
    refine wr_get dX3_numberOf_117 f_RX3_36 (rd_ord hr hH hk (by omega)) ?_
    exact wr_ireturn dX3_numberOf_120 ⟨_, rfl, rfl⟩
  refine wr_ite (fun e1_9 => ?_) (fun e1_9 => ?_)
  · refine wr_tsK 9 121 dX3_numberOf_1 e1_9 ?_
    refine wr_aload_n dX3_numberOf_121 rfl ?_
    refine wr_get dX3_numberOf_122 f_RX3_46 (rd_ord hr hH hk (by omega)) ?_
    refine wr_iconst dX3_numberOf_125 ?_
    refine wr_gd (fun g126 => ?_)
    refine wr_icmp_ne 133 dX3_numberOf_126 g126 (by decide) (fun h126 => ?_) (fun h126 => ?_)
    · refine wr_aload_n dX3_numberOf_133 rfl ?_
      refine wr_get dX3_numberOf_134 f_RX3_43 (rd_ord hr hH hk (by omega)) ?_
      exact wr_ireturn dX3_numberOf_137 ⟨_, rfl, rfl⟩
    · refine wr_iconst dX3_numberOf_129 ?_
      refine wr_goto 137 dX3_numberOf_130 ?_
      exact wr_ireturn dX3_numberOf_137 ⟨_, rfl, rfl⟩
  refine wr_ite (fun e1_10 => ?_) (fun e1_10 => ?_)
  · refine wr_tsK 10 138 dX3_numberOf_1 e1_10 ?_
    refine wr_aload_n dX3_numberOf_138 rfl ?_
    refine wr_get dX3_numberOf_139 f_RX3_46 (rd_ord hr hH hk (by omega)) ?_
    exact wr_ireturn dX3_numberOf_142 ⟨_, rfl, rfl⟩
  refine wr_ite (fun e1_11 => ?_) (fun e1_11 => ?_)
  · refine wr_tsK 11 143 dX3_numberOf_1 e1_11 ?_
    refine wr_aload_n dX3_numberOf_143 rfl ?_
    refine wr_get dX3_numberOf_144 f_RX3_49 (rd_ord hr hH hk (by omega)) ?_
    exact wr_ireturn dX3_numberOf_147 ⟨_, rfl, rfl⟩
  refine wr_ite (fun e1_12 => ?_) (fun e1_12 => ?_)
  · refine wr_tsK 12 148 dX3_numberOf_1 e1_12 ?_
    refine wr_aload_n dX3_numberOf_148 rfl ?_
    refine wr_get dX3_numberOf_149 f_RX3_52 (rd_ord hr hH hk (by omega)) ?_
    exact wr_ireturn dX3_numberOf_152 ⟨_, rfl, rfl⟩
  refine wr_ite (fun e1_13 => ?_) (fun e1_13 => ?_)
  · refine wr_tsK 13 153 dX3_numberOf_1 e1_13 ?_
    refine wr_aload_n dX3_numberOf_153 rfl ?_
    refine wr_get dX3_numberOf_154 f_RX3_55 (rd_ord hr hH hk (by omega)) ?_
    exact wr_ireturn dX3_numberOf_157 ⟨_, rfl, rfl⟩
  refine wr_ite (fun e1_14 => ?_) (fun e1_14 => ?_)
  · refine wr_tsK 14 158 dX3_numberOf_1 e1_14 ?_
    refine wr_aload_n dX3_numberOf_158 rfl ?_
    refine wr_get dX3_numberOf_159 f_RX3_58 (rd_ord hr hH hk (by omega)) ?_
    exact wr_ireturn dX3_numberOf_162 ⟨_, rfl, rfl⟩
  refine wr_tsOut (z := x1) 163 dX3_numberOf_1 g1 (by omega) ?_
  refine wr_bipush dX3_numberOf_163 ?_
  exact wr_ireturn dX3_numberOf_165 ⟨_, rfl, rfl⟩
set_option maxRecDepth 100000 in
set_option maxHeartbeats 4000000 in
theorem pX2_sumOverOrders_b4 {E : wE} {n : Nat} (hE : wGE E) {G : gR} {H : hR} {ca : caT} {h : hW} {k : Int} (hr : rep E G ca h) (hH : G.1.1 k = H) (hk : 0 ≤ k ∧ k < 11) : ∀ (fuel : Nat) (x1 : Int) (x2 : Int) (x3 : Int) , WR E (n + 1) yX2_sumOverOrders cX2_sumOverOrders 4 (some .int) vI h 4 (wLs [some (.ref (aH E k)), some (.int (iI x1)), some (.int (iI x2)), some (.int (iI x3))]) [] (fX2_sumOverOrders_b4 H fuel x1 x2 x3) := by
  intro fuel
  induction fuel with
  | zero =>
    intro x1 x2 x3
    exact wr_none
  | succ fuel ih =>
    intro x1 x2 x3
    unfold fX2_sumOverOrders_b4
    refine wr_iload_n dX2_sumOverOrders_4 rfl ?_
    refine wr_aload_n dX2_sumOverOrders_5 rfl ?_
    refine wr_get dX2_sumOverOrders_6 f_RX2_59 (rd_h hr hH hk) ?_
    refine wr_gd (fun g9 => ?_)
    refine wr_icmp_ge 31 dX2_sumOverOrders_9 g9.1 g9.2 (fun h9 => ?_) (fun h9 => ?_)
    · refine wr_iload_n dX2_sumOverOrders_31 rfl ?_
      exact wr_ireturn dX2_sumOverOrders_32 ⟨_, rfl, rfl⟩
    · refine wr_iload_n dX2_sumOverOrders_12 rfl ?_
      refine wr_aload_n dX2_sumOverOrders_13 rfl ?_
      refine wr_get dX2_sumOverOrders_14 f_RX2_26 (rd_h hr hH hk) ?_
      refine wr_iload_n dX2_sumOverOrders_17 rfl ?_
      refine wr_gd (fun g18 => ?_)
      refine wr_aald_ord dX2_sumOverOrders_18 g18 (rd_ords hr hH hk) ?_
      refine wr_iload_n dX2_sumOverOrders_19 rfl ?_
      refine wr_cV dX2_sumOverOrders_20 k_RX2_167 b_yX3_numberOf x_yX3_numberOf (pX3_numberOf (n := n) hE hr hH hk x3 x1 (by omega)) (rd_ord hr hH hk (by omega)) rfl (fun r20 => ?_)
      refine wr_iadd dX2_sumOverOrders_23 ?_
      refine wr_istore_n dX2_sumOverOrders_24 ?_
      refine wr_iinc dX2_sumOverOrders_25 rfl ?_
      refine wr_goto 4 dX2_sumOverOrders_28 ?_
      exact wr_at (ih x1 (x2 + r20) (x3 + 1)) ⟨rfl, rfl, rfl, rfl, trivial⟩
set_option maxRecDepth 100000 in
set_option maxHeartbeats 4000000 in
theorem pX2_sumOverOrders {E : wE} {n : Nat} (hE : wGE E) {G : gR} {H : hR} {ca : caT} {h : hW} {k : Int} (hr : rep E G ca h) (hH : G.1.1 k = H) (hk : 0 ≤ k ∧ k < 11) (x1 : Int)  : WR E (n + 1) yX2_sumOverOrders cX2_sumOverOrders 4 (some .int) vI h 0 (wArgs [.ref (aH E k), .int (iI x1)]) [] (fX2_sumOverOrders x1 H) := by
  unfold fX2_sumOverOrders
  refine wr_iconst dX2_sumOverOrders_0 ?_
  refine wr_istore_n dX2_sumOverOrders_1 ?_
  refine wr_iconst dX2_sumOverOrders_2 ?_
  refine wr_istore_n dX2_sumOverOrders_3 ?_
  exact wr_at (pX2_sumOverOrders_b4 (n := n) hE hr hH hk  fuel0 x1 0 0) ⟨rfl, rfl, rfl, rfl, trivial⟩
set_option maxRecDepth 100000 in
set_option maxHeartbeats 4000000 in
theorem pX2_numberOf {E : wE} {n : Nat} (hE : wGE E) {G : gR} {H : hR} {ca : caT} {h : hW} {k : Int} (hr : rep E G ca h) (hH : G.1.1 k = H) (hk : 0 ≤ k ∧ k < 11) (x1 : Int)  : WR E (n + 2) yX2_numberOf cX2_numberOf 2 (some .int) vI h 0 (wArgs [.ref (aH E k), .int (iI x1)]) [] (fX2_numberOf x1 H) := by
  unfold fX2_numberOf
  refine wr_iload_n dX2_numberOf_0 rfl ?_
  refine wr_gd (fun g1 => ?_)
  refine wr_ite (fun e1_0 => ?_) (fun e1_0 => ?_)
  · refine wr_tsK 0 76 dX2_numberOf_1 e1_0 ?_
    refine wr_aload_n dX2_numberOf_76 rfl ?_
    refine wr_get dX2_numberOf_77 f_RX2_68 (rd_h hr hH hk) ?_
    exact wr_ireturn dX2_numberOf_80 ⟨_, rfl, rfl⟩
  refine wr_ite (fun e1_1 => ?_) (fun e1_1 => ?_)
  · refine wr_tsK 1 81 dX2_numberOf_1 e1_1 ?_
    refine wr_aload_n dX2_numberOf_81 rfl ?_
    refine wr_get dX2_numberOf_82 f_RX2_53 (rd_h hr hH hk) ?_
    exact wr_ireturn dX2_numberOf_85 ⟨_, rfl, rfl⟩
  refine wr_ite (fun e1_2 => ?_) (fun e1_2 => ?_)
  · refine wr_tsK 2 86 dX2_numberOf_1 e1_2 ?_
    refine wr_aload_n dX2_numberOf_86 rfl ?_
    refine wr_get dX2_numberOf_87 f_RX2_59 (rd_h hr hH hk) ?_
    exact wr_ireturn dX2_numberOf_90 ⟨_, rfl, rfl⟩
  refine wr_ite (fun e1_3 => ?_) (fun e1_3 => ?_)
  · refine wr_tsK 3 91 dX2_numberOf_1 e1_3 ?_
    refine wr_aload_n dX2_numberOf_91 rfl ?_
    refine wr_get dX2_numberOf_92 f_RX2_12 (rd_h hr hH hk) ?_
    refine wr_get dX2_numberOf_95 f_RX2_161 (rd_cal hr hH hk) ?_
    exact wr_ireturn dX2_numberOf_98 ⟨_, rfl, rfl⟩
  refine wr_ite (fun e1_4 => ?_) (fun e1_4 => ?_)
  · refine wr_tsK 4 99 dX2_numberOf_1 e1_4 ?_
    refine wr_aload_n dX2_numberOf_99 rfl ?_
    refine wr_get dX2_numberOf_100 f_RX2_33 (rd_h hr hH hk) ?_
    refine wr_get dX2_numberOf_103 f_RX2_138 (rd_wait hr hH hk) ?_
    exact wr_ireturn dX2_numberOf_106 ⟨_, rfl, rfl⟩
  refine wr_ite (fun e1_5 => ?_) (fun e1_5 => ?_)
  · refine wr_tsK 5 107 dX2_numberOf_1 e1_5 ?_
    refine wr_aload_n dX2_numberOf_107 rfl ?_
    refine wr_iload_n dX2_numberOf_108 rfl ?_
    refine wr_bipush dX2_numberOf_109 ?_
    refine wr_iadd dX2_numberOf_111 ?_
    refine wr_cV dX2_numberOf_112 k_RX2_164 b_yX2_sumOverOrders x_yX2_sumOverOrders (pX2_sumOverOrders (n := n) hE hr hH hk (x1 + 6)) (rd_h hr hH hk) rfl (fun r112 => ?_)
    exact wr_ireturn dX2_numberOf_115 ⟨_, rfl, rfl⟩
  refine wr_ite (fun e1_6 => ?_) (fun e1_6 => ?_)
  · refine wr_tsK 6 107 dX2_numberOf_1 e1_6 ?_
    refine wr_aload_n dX2_numberOf_107 rfl ?_
    refine wr_iload_n dX2_numberOf_108 rfl ?_
    refine wr_bipush dX2_numberOf_109 ?_
    refine wr_iadd dX2_numberOf_111 ?_
    refine wr_cV dX2_numberOf_112 k_RX2_164 b_yX2_sumOverOrders x_yX2_sumOverOrders (pX2_sumOverOrders (n := n) hE hr hH hk (x1 + 6)) (rd_h hr hH hk) rfl (fun r112 => ?_)
    exact wr_ireturn dX2_numberOf_115 ⟨_, rfl, rfl⟩
  refine wr_ite (fun e1_7 => ?_) (fun e1_7 => ?_)
  · refine wr_tsK 7 107 dX2_numberOf_1 e1_7 ?_
    refine wr_aload_n dX2_numberOf_107 rfl ?_
    refine wr_iload_n dX2_numberOf_108 rfl ?_
    refine wr_bipush dX2_numberOf_109 ?_
    refine wr_iadd dX2_numberOf_111 ?_
    refine wr_cV dX2_numberOf_112 k_RX2_164 b_yX2_sumOverOrders x_yX2_sumOverOrders (pX2_sumOverOrders (n := n) hE hr hH hk (x1 + 6)) (rd_h hr hH hk) rfl (fun r112 => ?_)
    exact wr_ireturn dX2_numberOf_115 ⟨_, rfl, rfl⟩
  refine wr_ite (fun e1_8 => ?_) (fun e1_8 => ?_)
  · refine wr_tsK 8 116 dX2_numberOf_1 e1_8 ?_
    refine wr_aload_n dX2_numberOf_116 rfl ?_
    refine wr_get dX2_numberOf_117 f_RX2_71 (rd_h hr hH hk) ?_
    exact wr_ireturn dX2_numberOf_120 ⟨_, rfl, rfl⟩
  refine wr_ite (fun e1_9 => ?_) (fun e1_9 => ?_)
  · refine wr_tsK 9 130 dX2_numberOf_1 e1_9 ?_
    refine wr_bipush dX2_numberOf_130 ?_
    exact wr_ireturn dX2_numberOf_132 ⟨_, rfl, rfl⟩
  refine wr_ite (fun e1_10 => ?_) (fun e1_10 => ?_)
  · refine wr_tsK 10 130 dX2_numberOf_1 e1_10 ?_
    refine wr_bipush dX2_numberOf_130 ?_
    exact wr_ireturn dX2_numberOf_132 ⟨_, rfl, rfl⟩
  refine wr_ite (fun e1_11 => ?_) (fun e1_11 => ?_)
  · refine wr_tsK 11 121 dX2_numberOf_1 e1_11 ?_
    refine wr_aload_n dX2_numberOf_121 rfl ?_
    refine wr_iload_n dX2_numberOf_122 rfl ?_
    refine wr_bipush dX2_numberOf_123 ?_
    refine wr_isub dX2_numberOf_125 ?_
    refine wr_cV dX2_numberOf_126 k_RX2_88 b_yX2_settingOf x_yX2_settingOf (pX2_settingOf (n := n + 1) hE hr hH hk (x1 - 11)) (rd_h hr hH hk) rfl (fun r126 => ?_)
    exact wr_ireturn dX2_numberOf_129 ⟨_, rfl, rfl⟩
  refine wr_ite (fun e1_12 => ?_) (fun e1_12 => ?_)
  · refine wr_tsK 12 121 dX2_numberOf_1 e1_12 ?_
    refine wr_aload_n dX2_numberOf_121 rfl ?_
    refine wr_iload_n dX2_numberOf_122 rfl ?_
    refine wr_bipush dX2_numberOf_123 ?_
    refine wr_isub dX2_numberOf_125 ?_
    refine wr_cV dX2_numberOf_126 k_RX2_88 b_yX2_settingOf x_yX2_settingOf (pX2_settingOf (n := n + 1) hE hr hH hk (x1 - 11)) (rd_h hr hH hk) rfl (fun r126 => ?_)
    exact wr_ireturn dX2_numberOf_129 ⟨_, rfl, rfl⟩
  refine wr_ite (fun e1_13 => ?_) (fun e1_13 => ?_)
  · refine wr_tsK 13 121 dX2_numberOf_1 e1_13 ?_
    refine wr_aload_n dX2_numberOf_121 rfl ?_
    refine wr_iload_n dX2_numberOf_122 rfl ?_
    refine wr_bipush dX2_numberOf_123 ?_
    refine wr_isub dX2_numberOf_125 ?_
    refine wr_cV dX2_numberOf_126 k_RX2_88 b_yX2_settingOf x_yX2_settingOf (pX2_settingOf (n := n + 1) hE hr hH hk (x1 - 11)) (rd_h hr hH hk) rfl (fun r126 => ?_)
    exact wr_ireturn dX2_numberOf_129 ⟨_, rfl, rfl⟩
  refine wr_ite (fun e1_14 => ?_) (fun e1_14 => ?_)
  · refine wr_tsK 14 121 dX2_numberOf_1 e1_14 ?_
    refine wr_aload_n dX2_numberOf_121 rfl ?_
    refine wr_iload_n dX2_numberOf_122 rfl ?_
    refine wr_bipush dX2_numberOf_123 ?_
    refine wr_isub dX2_numberOf_125 ?_
    refine wr_cV dX2_numberOf_126 k_RX2_88 b_yX2_settingOf x_yX2_settingOf (pX2_settingOf (n := n + 1) hE hr hH hk (x1 - 11)) (rd_h hr hH hk) rfl (fun r126 => ?_)
    exact wr_ireturn dX2_numberOf_129 ⟨_, rfl, rfl⟩
  refine wr_tsOut (z := x1) 130 dX2_numberOf_1 g1 (by omega) ?_
  refine wr_bipush dX2_numberOf_130 ?_
  exact wr_ireturn dX2_numberOf_132 ⟨_, rfl, rfl⟩
set_option maxRecDepth 100000 in
set_option maxHeartbeats 4000000 in
theorem pX2_tryPayment_b138 {E : wE} {n : Nat} (hE : wGE E) {G : gR} {k : Int} (hk : 0 ≤ k ∧ k < 11) (x1 : Int) (x2 : Int) (hbx2 : 0 ≤ x2 ∧ x2 < 16) (H : hR) (ca : caT) : WF E (n + 2) yX2_tryPayment cX2_tryPayment 5 (none) vV (setH G k) ca 138 (wLs [some (.ref (aH E k)), some (.int (iI x1)), some (.ref (aOrd E k x2))]) [] H (fX2_tryPayment_b138 x1 x2 H) := by
  unfold fX2_tryPayment_b138
  refine wf_aload_n dX2_tryPayment_138 rfl ?_
  refine wf_dup dX2_tryPayment_139 ?_
  refine wf_get dX2_tryPayment_140 f_RX2_263 (fun h hr => rd_ord hr setH_at hk (by omega)) ?_
  refine wf_iconst dX2_tryPayment_143 ?_
  refine wf_iadd dX2_tryPayment_144 ?_
  refine wf_p_ord (f := 12) dX2_tryPayment_145 p_RX2_263 hk (by omega) (fun H145 => ?_)
  refine wf_aload_n dX2_tryPayment_148 rfl ?_
  refine wf_iload_n dX2_tryPayment_149 rfl ?_
  refine wf_cV (put := fun q => q) dX2_tryPayment_150 k_RX2_148 b_yX2_settle x_yX2_settle (pX2_settle (n := n + 1) hE (G := G) (k := k) hk x1 _ _) rfl (fun _ => rfl) (fun h hr => rd_h hr setH_at hk) rfl (fun r150 H150 ca => ?_)
  exact wf_return dX2_tryPayment_153 rfl
set_option maxRecDepth 100000 in
set_option maxHeartbeats 4000000 in
theorem pX2_tryPayment {E : wE} {n : Nat} (hE : wGE E) {G : gR} {k : Int} (hk : 0 ≤ k ∧ k < 11) (x1 : Int)  (H : hR) (ca : caT) : WF E (n + 2) yX2_tryPayment cX2_tryPayment 5 (none) vV (setH G k) ca 0 (wArgs [.ref (aH E k), .int (iI x1)]) [] H (fX2_tryPayment x1 H) := by
  unfold fX2_tryPayment
  refine wf_aload_n dX2_tryPayment_0 rfl ?_
  refine wf_get dX2_tryPayment_1 f_RX2_26 (fun h hr => rd_h hr setH_at hk) ?_
  refine wf_aload_n dX2_tryPayment_4 rfl ?_
  refine wf_get dX2_tryPayment_5 f_RX2_33 (fun h hr => rd_h hr setH_at hk) ?_
  refine wf_get dX2_tryPayment_8 f_RX2_141 (fun h hr => rd_wait hr setH_at hk) ?_
  refine wf_iconst dX2_tryPayment_11 ?_
  refine wf_aald_cols dX2_tryPayment_12 (by decide) (fun h hr => rd_cols hr setH_at hk) ?_
  refine wf_iload_n dX2_tryPayment_13 rfl ?_
  refine wf_gd (fun g14 => ?_)
  refine wf_collds dX2_tryPayment_14 setH_at hk (by decide) g14 ?_
  refine wf_gd (fun g15 => ?_)
  refine wf_aald_ord dX2_tryPayment_15 g15 (fun h hr => rd_ords hr setH_at hk) ?_
  refine wf_astore_n dX2_tryPayment_16 ?_
  refine wf_aload_n dX2_tryPayment_17 rfl ?_
  refine wf_get dX2_tryPayment_18 f_RX2_20 (fun h hr => rd_h hr setH_at hk) ?_
  refine wf_aload_n dX2_tryPayment_21 rfl ?_
  refine wf_get dX2_tryPayment_22 f_RX2_221 (fun h hr => rd_ord hr setH_at hk (by omega)) ?_
  refine wf_gd (fun g25 => ?_)
  refine wf_aald_acc dX2_tryPayment_25 g25 (fun h hr => rd_accs hr setH_at hk) ?_
  refine wf_astore_n dX2_tryPayment_26 ?_
  refine wf_aload_n dX2_tryPayment_27 rfl ?_
  refine wf_get dX2_tryPayment_28 f_RX2_33 (fun h hr => rd_h hr setH_at hk) ?_
  refine wf_get dX2_tryPayment_31 f_RX2_141 (fun h hr => rd_wait hr setH_at hk) ?_
  refine wf_iconst dX2_tryPayment_34 ?_
  refine wf_aald_cols dX2_tryPayment_35 (by decide) (fun h hr => rd_cols hr setH_at hk) ?_
  refine wf_iload_n dX2_tryPayment_36 rfl ?_
  refine wf_gd (fun g37 => ?_)
  refine wf_collds dX2_tryPayment_37 setH_at hk (by decide) g37 ?_
  refine wf_istore dX2_tryPayment_38 ?_
  refine wf_aload_n dX2_tryPayment_40 rfl ?_
  refine wf_get dX2_tryPayment_41 f_RX2_105 (fun h hr => rd_acc hr setH_at hk (by omega)) ?_
  refine wf_aload_n dX2_tryPayment_44 rfl ?_
  refine wf_get dX2_tryPayment_45 f_RX2_227 (fun h hr => rd_acc hr setH_at hk (by omega)) ?_
  refine wf_gd (fun g48 => ?_)
  refine wf_i2l dX2_tryPayment_48 g48 ?_
  refine wf_ladd dX2_tryPayment_49 ?_
  refine wf_iload dX2_tryPayment_50 rfl ?_
  refine wf_gd (fun g52 => ?_)
  refine wf_i2l dX2_tryPayment_52 g52 ?_
  refine wf_gd (fun g53 => ?_)
  refine wf_jcmp_ge 63 dX2_tryPayment_53 dX2_tryPayment_54 g53.1 g53.2 (fun h53 => ?_) (fun h53 => ?_)
  · refine wf_aload_n dX2_tryPayment_63 rfl ?_
    refine wf_dup dX2_tryPayment_64 ?_
    refine wf_get dX2_tryPayment_65 f_RX2_105 (fun h hr => rd_acc hr setH_at hk (by omega)) ?_
    refine wf_iload dX2_tryPayment_68 rfl ?_
    refine wf_gd (fun g70 => ?_)
    refine wf_i2l dX2_tryPayment_70 g70 ?_
    refine wf_lsub dX2_tryPayment_71 ?_
    refine wf_p_accl (f := 3) dX2_tryPayment_72 p_RX2_105 hk (by omega) (fun H72 => ?_)
    refine wf_aload_n dX2_tryPayment_75 rfl ?_
    refine wf_dup dX2_tryPayment_76 ?_
    refine wf_get dX2_tryPayment_77 f_RX2_254 (fun h hr => rd_acc hr setH_at hk (by omega)) ?_
    refine wf_iload dX2_tryPayment_80 rfl ?_
    refine wf_gd (fun g82 => ?_)
    refine wf_i2l dX2_tryPayment_82 g82 ?_
    refine wf_ladd dX2_tryPayment_83 ?_
    refine wf_p_accl (f := 5) dX2_tryPayment_84 p_RX2_254 hk (by omega) (fun H84 => ?_)
    refine wf_aload_n dX2_tryPayment_87 rfl ?_
    refine wf_aload_n dX2_tryPayment_88 rfl ?_
    refine wf_get dX2_tryPayment_89 f_RX2_257 (fun h hr => rd_ord hr setH_at hk (by omega)) ?_
    refine wf_rV dX2_tryPayment_92 k_RX2_97 b_yX2_hasAccount x_yX2_hasAccount (fun h hr => pX2_hasAccount (n := n + 1) hE hr setH_at hk (H84.1 3 (H.1 5 0 x1) 1)) (fun h hr => rd_h hr setH_at hk) rfl (fun r92 => ?_)
    refine wf_gd (fun g95 => ?_)
    refine wf_if_eq 138 dX2_tryPayment_95 g95 (fun h95 => ?_) (fun h95 => ?_)
    · exact wf_at (pX2_tryPayment_b138 (n := n) hE hk  x1 (H.1 5 0 x1) (by omega) _ _) ⟨rfl, rfl, rfl, trivial⟩
    · refine wf_aload_n dX2_tryPayment_98 rfl ?_
      refine wf_get dX2_tryPayment_99 f_RX2_20 (fun h hr => rd_h hr setH_at hk) ?_
      refine wf_aload_n dX2_tryPayment_102 rfl ?_
      refine wf_get dX2_tryPayment_103 f_RX2_257 (fun h hr => rd_ord hr setH_at hk (by omega)) ?_
      refine wf_gd (fun g106 => ?_)
      refine wf_aald_acc dX2_tryPayment_106 g106 (fun h hr => rd_accs hr setH_at hk) ?_
      refine wf_dup dX2_tryPayment_107 ?_
      refine wf_get dX2_tryPayment_108 f_RX2_105 (fun h hr => rd_acc hr setH_at hk (by omega)) ?_
      refine wf_iload dX2_tryPayment_111 rfl ?_
      refine wf_gd (fun g113 => ?_)
      refine wf_i2l dX2_tryPayment_113 g113 ?_
      refine wf_ladd dX2_tryPayment_114 ?_
      refine wf_p_accl (f := 3) dX2_tryPayment_115 p_RX2_105 hk (by omega) (fun H115 => ?_)
      refine wf_aload_n dX2_tryPayment_118 rfl ?_
      refine wf_get dX2_tryPayment_119 f_RX2_20 (fun h hr => rd_h hr setH_at hk) ?_
      refine wf_aload_n dX2_tryPayment_122 rfl ?_
      refine wf_get dX2_tryPayment_123 f_RX2_257 (fun h hr => rd_ord hr setH_at hk (by omega)) ?_
      refine wf_gd (fun g126 => ?_)
      refine wf_aald_acc dX2_tryPayment_126 g126 (fun h hr => rd_accs hr setH_at hk) ?_
      refine wf_dup dX2_tryPayment_127 ?_
      refine wf_get dX2_tryPayment_128 f_RX2_260 (fun h hr => rd_acc hr setH_at hk (by omega)) ?_
      refine wf_iload dX2_tryPayment_131 rfl ?_
      refine wf_gd (fun g133 => ?_)
      refine wf_i2l dX2_tryPayment_133 g133 ?_
      refine wf_ladd dX2_tryPayment_134 ?_
      refine wf_p_accl (f := 6) dX2_tryPayment_135 p_RX2_260 hk (by omega) (fun H135 => ?_)
      exact wf_at (pX2_tryPayment_b138 (n := n) hE hk  x1 (H.1 5 0 x1) (by omega) _ _) ⟨rfl, rfl, rfl, trivial⟩
  · refine wf_aload_n dX2_tryPayment_57 rfl ?_
    refine wf_iload_n dX2_tryPayment_58 rfl ?_
    refine wf_cV (put := fun q => q) dX2_tryPayment_59 k_RX2_251 b_yX2_failTry x_yX2_failTry (pX2_failTry (n := n) hE (G := G) (k := k) hk x1 _ _) rfl (fun _ => rfl) (fun h hr => rd_h hr setH_at hk) rfl (fun r59 H59 ca => ?_)
    exact wf_return dX2_tryPayment_62 rfl
set_option maxRecDepth 100000 in
set_option maxHeartbeats 4000000 in
theorem pX2_payWaitingOf_b2 {E : wE} {n : Nat} (hE : wGE E) {G : gR} {k : Int} (hk : 0 ≤ k ∧ k < 11) : ∀ (fuel : Nat) (x1 : Int) (x2 : Int)  (H : hR) (ca : caT), WF E (n + 3) yX2_payWaitingOf cX2_payWaitingOf 3 (none) vV (setH G k) ca 2 (wLs [some (.ref (aH E k)), some (.int (iI x1)), some (.int (iI x2))]) [] H (fX2_payWaitingOf_b2 fuel x1 x2 H) := by
  intro fuel
  induction fuel with
  | zero =>
    intro x1 x2 H ca
    exact wf_none
  | succ fuel ih =>
    intro x1 x2 H ca
    unfold fX2_payWaitingOf_b2
    refine wf_iload_n dX2_payWaitingOf_2 rfl ?_
    refine wf_aload_n dX2_payWaitingOf_3 rfl ?_
    refine wf_get dX2_payWaitingOf_4 f_RX2_33 (fun h hr => rd_h hr setH_at hk) ?_
    refine wf_get dX2_payWaitingOf_7 f_RX2_138 (fun h hr => rd_wait hr setH_at hk) ?_
    refine wf_gd (fun g10 => ?_)
    refine wf_icmp_ge 47 dX2_payWaitingOf_10 g10.1 g10.2 (fun h10 => ?_) (fun h10 => ?_)
    · exact wf_return dX2_payWaitingOf_47 rfl
    · refine wf_aload_n dX2_payWaitingOf_13 rfl ?_
      refine wf_get dX2_payWaitingOf_14 f_RX2_26 (fun h hr => rd_h hr setH_at hk) ?_
      refine wf_aload_n dX2_payWaitingOf_17 rfl ?_
      refine wf_get dX2_payWaitingOf_18 f_RX2_33 (fun h hr => rd_h hr setH_at hk) ?_
      refine wf_get dX2_payWaitingOf_21 f_RX2_141 (fun h hr => rd_wait hr setH_at hk) ?_
      refine wf_iconst dX2_payWaitingOf_24 ?_
      refine wf_aald_cols dX2_payWaitingOf_25 (by decide) (fun h hr => rd_cols hr setH_at hk) ?_
      refine wf_iload_n dX2_payWaitingOf_26 rfl ?_
      refine wf_gd (fun g27 => ?_)
      refine wf_collds dX2_payWaitingOf_27 setH_at hk (by decide) g27 ?_
      refine wf_gd (fun g28 => ?_)
      refine wf_aald_ord dX2_payWaitingOf_28 g28 (fun h hr => rd_ords hr setH_at hk) ?_
      refine wf_get dX2_payWaitingOf_29 f_RX2_133 (fun h hr => rd_ord hr setH_at hk (by omega)) ?_
      refine wf_iload_n dX2_payWaitingOf_32 rfl ?_
      refine wf_gd (fun g33 => ?_)
      refine wf_icmp_ne 41 dX2_payWaitingOf_33 g33.1 g33.2 (fun h33 => ?_) (fun h33 => ?_)
      · refine wf_iinc dX2_payWaitingOf_41 rfl ?_
        refine wf_goto 2 dX2_payWaitingOf_44 ?_
        exact wf_at (ih x1 (x2 + 1) _ _) ⟨rfl, rfl, rfl, trivial⟩
      · refine wf_aload_n dX2_payWaitingOf_36 rfl ?_
        refine wf_iload_n dX2_payWaitingOf_37 rfl ?_
        refine wf_cV (put := fun q => q) dX2_payWaitingOf_38 k_RX2_248 b_yX2_tryPayment x_yX2_tryPayment (pX2_tryPayment (n := n) hE (G := G) (k := k) hk x2 _ _) rfl (fun _ => rfl) (fun h hr => rd_h hr setH_at hk) rfl (fun r38 H38 ca => ?_)
        refine wf_iinc dX2_payWaitingOf_41 rfl ?_
        refine wf_goto 2 dX2_payWaitingOf_44 ?_
        exact wf_at (ih x1 (x2 + 1) _ _) ⟨rfl, rfl, rfl, trivial⟩
set_option maxRecDepth 100000 in
set_option maxHeartbeats 4000000 in
theorem pX2_payWaitingOf {E : wE} {n : Nat} (hE : wGE E) {G : gR} {k : Int} (hk : 0 ≤ k ∧ k < 11) (x1 : Int)  (H : hR) (ca : caT) : WF E (n + 3) yX2_payWaitingOf cX2_payWaitingOf 3 (none) vV (setH G k) ca 0 (wArgs [.ref (aH E k), .int (iI x1)]) [] H (fX2_payWaitingOf x1 H) := by
  unfold fX2_payWaitingOf
  refine wf_iconst dX2_payWaitingOf_0 ?_
  refine wf_istore_n dX2_payWaitingOf_1 ?_
  exact wf_at (pX2_payWaitingOf_b2 (n := n) hE hk  fuel0 x1 0 _ _) ⟨rfl, rfl, rfl, trivial⟩
set_option maxRecDepth 100000 in
set_option maxHeartbeats 4000000 in
theorem pX2_payWaiting_b48 {E : wE} {n : Nat} (hE : wGE E) {G : gR} {k : Int} (hk : 0 ≤ k ∧ k < 11) : ∀ (fuel : Nat) (x1 : Int) (x2 : Int)  (H : hR) (ca : caT), WF E (n + 4) yX2_payWaiting cX2_payWaiting 3 (none) vV (setH G k) ca 48 (wLs [some (.ref (aH E k)), some (.int (iI x1)), some (.int (iI x2))]) [] H (fX2_payWaiting_b48 fuel x1 x2 H) := by
  intro fuel
  induction fuel with
  | zero =>
    intro x1 x2 H ca
    exact wf_none
  | succ fuel ih =>
    intro x1 x2 H ca
    unfold fX2_payWaiting_b48
    refine wf_iload_n dX2_payWaiting_48 rfl ?_
    refine wf_gd (fun g49 => ?_)
    refine wf_if_lt 71 dX2_payWaiting_49 g49 (fun h49 => ?_) (fun h49 => ?_)
    · refine wf_aload_n dX2_payWaiting_71 rfl ?_
      refine wf_get dX2_payWaiting_72 f_RX2_33 (fun h hr => rd_h hr setH_at hk) ?_
      refine wf_cV (put := fun q => q) dX2_payWaiting_75 k_RX2_152 b_yX5_dropSettled x_yX5_dropSettled (pX5_dropSettled (n := n + 3) hE (G := G) (k := k) hk _ _) rfl (fun _ => rfl) (fun h hr => rd_wait hr setH_at hk) rfl (fun r75 H75 ca => ?_)
      exact wf_return dX2_payWaiting_78 rfl
    · refine wf_iload_n dX2_payWaiting_52 rfl ?_
      refine wf_iload_n dX2_payWaiting_53 rfl ?_
      refine wf_ishr dX2_payWaiting_54 ?_
      refine wf_iconst dX2_payWaiting_55 ?_
      refine wf_iand dX2_payWaiting_56 ?_
      refine wf_gd (fun g57 => ?_)
      refine wf_if_eq 65 dX2_payWaiting_57 g57 (fun h57 => ?_) (fun h57 => ?_)
      · refine wf_iinc dX2_payWaiting_65 rfl ?_
        refine wf_goto 48 dX2_payWaiting_68 ?_
        exact wf_at (ih x1 (x2 + (-1)) _ _) ⟨rfl, rfl, rfl, trivial⟩
      · refine wf_aload_n dX2_payWaiting_60 rfl ?_
        refine wf_iload_n dX2_payWaiting_61 rfl ?_
        refine wf_cV (put := fun q => q) dX2_payWaiting_62 k_RX2_245 b_yX2_payWaitingOf x_yX2_payWaitingOf (pX2_payWaitingOf (n := n) hE (G := G) (k := k) hk x2 _ _) rfl (fun _ => rfl) (fun h hr => rd_h hr setH_at hk) rfl (fun r62 H62 ca => ?_)
        refine wf_iinc dX2_payWaiting_65 rfl ?_
        refine wf_goto 48 dX2_payWaiting_68 ?_
        exact wf_at (ih x1 (x2 + (-1)) _ _) ⟨rfl, rfl, rfl, trivial⟩
set_option maxRecDepth 100000 in
set_option maxHeartbeats 4000000 in
theorem pX2_payWaiting_b4 {E : wE} {n : Nat} (hE : wGE E) {G : gR} {k : Int} (hk : 0 ≤ k ∧ k < 11) : ∀ (fuel : Nat) (x1 : Int) (x2 : Int)  (H : hR) (ca : caT), WF E (n + 4) yX2_payWaiting cX2_payWaiting 3 (none) vV (setH G k) ca 4 (wLs [some (.ref (aH E k)), some (.int (iI x1)), some (.int (iI x2))]) [] H (fX2_payWaiting_b4 fuel x1 x2 H) := by
  intro fuel
  induction fuel with
  | zero =>
    intro x1 x2 H ca
    exact wf_none
  | succ fuel ih =>
    intro x1 x2 H ca
    unfold fX2_payWaiting_b4
    refine wf_iload_n dX2_payWaiting_4 rfl ?_
    refine wf_aload_n dX2_payWaiting_5 rfl ?_
    refine wf_get dX2_payWaiting_6 f_RX2_33 (fun h hr => rd_h hr setH_at hk) ?_
    refine wf_get dX2_payWaiting_9 f_RX2_138 (fun h hr => rd_wait hr setH_at hk) ?_
    refine wf_gd (fun g12 => ?_)
    refine wf_icmp_ge 45 dX2_payWaiting_12 g12.1 g12.2 (fun h12 => ?_) (fun h12 => ?_)
    · refine wf_bipush dX2_payWaiting_45 ?_
      refine wf_istore_n dX2_payWaiting_47 ?_
      exact wf_at (pX2_payWaiting_b48 (n := n) hE hk  fuel0 x1 9 _ _) ⟨rfl, rfl, rfl, trivial⟩
    · refine wf_iload_n dX2_payWaiting_15 rfl ?_
      refine wf_iconst dX2_payWaiting_16 ?_
      refine wf_aload_n dX2_payWaiting_17 rfl ?_
      refine wf_get dX2_payWaiting_18 f_RX2_26 (fun h hr => rd_h hr setH_at hk) ?_
      refine wf_aload_n dX2_payWaiting_21 rfl ?_
      refine wf_get dX2_payWaiting_22 f_RX2_33 (fun h hr => rd_h hr setH_at hk) ?_
      refine wf_get dX2_payWaiting_25 f_RX2_141 (fun h hr => rd_wait hr setH_at hk) ?_
      refine wf_iconst dX2_payWaiting_28 ?_
      refine wf_aald_cols dX2_payWaiting_29 (by decide) (fun h hr => rd_cols hr setH_at hk) ?_
      refine wf_iload_n dX2_payWaiting_30 rfl ?_
      refine wf_gd (fun g31 => ?_)
      refine wf_collds dX2_payWaiting_31 setH_at hk (by decide) g31 ?_
      refine wf_gd (fun g32 => ?_)
      refine wf_aald_ord dX2_payWaiting_32 g32 (fun h hr => rd_ords hr setH_at hk) ?_
      refine wf_get dX2_payWaiting_33 f_RX2_133 (fun h hr => rd_ord hr setH_at hk (by omega)) ?_
      refine wf_ishl dX2_payWaiting_36 ?_
      refine wf_ior dX2_payWaiting_37 ?_
      refine wf_istore_n dX2_payWaiting_38 ?_
      refine wf_iinc dX2_payWaiting_39 rfl ?_
      refine wf_goto 4 dX2_payWaiting_42 ?_
      exact wf_at (ih (orI x1 (shlI 1 (H.1 3 (H.1 5 0 x2) 8))) (x2 + 1) _ _) ⟨rfl, rfl, rfl, trivial⟩
set_option maxRecDepth 100000 in
set_option maxHeartbeats 4000000 in
theorem pX2_payWaiting {E : wE} {n : Nat} (hE : wGE E) {G : gR} {k : Int} (hk : 0 ≤ k ∧ k < 11)   (H : hR) (ca : caT) : WF E (n + 4) yX2_payWaiting cX2_payWaiting 3 (none) vV (setH G k) ca 0 (wArgs [.ref (aH E k)]) [] H (fX2_payWaiting  H) := by
  unfold fX2_payWaiting
  refine wf_iconst dX2_payWaiting_0 ?_
  refine wf_istore_n dX2_payWaiting_1 ?_
  refine wf_iconst dX2_payWaiting_2 ?_
  refine wf_istore_n dX2_payWaiting_3 ?_
  exact wf_at (pX2_payWaiting_b4 (n := n) hE hk  fuel0 0 0 _ _) ⟨rfl, rfl, rfl, trivial⟩
set_option maxRecDepth 100000 in
set_option maxHeartbeats 4000000 in
theorem pX2_sweep_b2 {E : wE} {n : Nat} (hE : wGE E) {G : gR} {k : Int} (hk : 0 ≤ k ∧ k < 11) : ∀ (fuel : Nat) (x1 : Int)  (H : hR) (ca : caT), WF E (n + 1) yX2_sweep cX2_sweep 8 (none) vV (setH G k) ca 2 (wLs [some (.ref (aH E k)), some (.int (iI x1))]) [] H (fX2_sweep_b2 fuel x1 H) := by
  intro fuel
  induction fuel with
  | zero =>
    intro x1 H ca
    exact wf_none
  | succ fuel ih =>
    intro x1 H ca
    unfold fX2_sweep_b2
    refine wf_iload_n dX2_sweep_2 rfl ?_
    refine wf_aload_n dX2_sweep_3 rfl ?_
    refine wf_get dX2_sweep_4 f_RX2_53 (fun h hr => rd_h hr setH_at hk) ?_
    refine wf_gd (fun g7 => ?_)
    refine wf_icmp_ge 135 dX2_sweep_7 g7.1 g7.2 (fun h7 => ?_) (fun h7 => ?_)
    · exact wf_return dX2_sweep_135 rfl
    · refine wf_aload_n dX2_sweep_10 rfl ?_
      refine wf_get dX2_sweep_11 f_RX2_20 (fun h hr => rd_h hr setH_at hk) ?_
      refine wf_iload_n dX2_sweep_14 rfl ?_
      refine wf_gd (fun g15 => ?_)
      refine wf_aald_acc dX2_sweep_15 g15 (fun h hr => rd_accs hr setH_at hk) ?_
      refine wf_astore_n dX2_sweep_16 ?_
      refine wf_aload_n dX2_sweep_17 rfl ?_
      refine wf_aload_n dX2_sweep_18 rfl ?_
      refine wf_get dX2_sweep_19 f_RX2_101 (fun h hr => rd_acc hr setH_at hk (by omega)) ?_
      refine wf_rV dX2_sweep_22 k_RX2_97 b_yX2_hasAccount x_yX2_hasAccount (fun h hr => pX2_hasAccount (n := n) hE hr setH_at hk (H.1 2 x1 2)) (fun h hr => rd_h hr setH_at hk) rfl (fun r22 => ?_)
      refine wf_gd (fun g25 => ?_)
      refine wf_if_ne 31 dX2_sweep_25 g25 (fun h25 => ?_) (fun h25 => ?_)
      · refine wf_aload_n dX2_sweep_31 rfl ?_
        refine wf_get dX2_sweep_32 f_RX2_20 (fun h hr => rd_h hr setH_at hk) ?_
        refine wf_aload_n dX2_sweep_35 rfl ?_
        refine wf_get dX2_sweep_36 f_RX2_101 (fun h hr => rd_acc hr setH_at hk (by omega)) ?_
        refine wf_gd (fun g39 => ?_)
        refine wf_aald_acc dX2_sweep_39 g39 (fun h hr => rd_accs hr setH_at hk) ?_
        refine wf_astore_n dX2_sweep_40 ?_
        refine wf_aload_n dX2_sweep_41 rfl ?_
        refine wf_get dX2_sweep_42 f_RX2_224 (fun h hr => rd_acc hr setH_at hk (by omega)) ?_
        refine wf_aload_n dX2_sweep_45 rfl ?_
        refine wf_get dX2_sweep_46 f_RX2_105 (fun h hr => rd_acc hr setH_at hk (by omega)) ?_
        refine wf_lsub dX2_sweep_49 ?_
        refine wf_aload_n dX2_sweep_50 rfl ?_
        refine wf_get dX2_sweep_51 f_RX2_227 (fun h hr => rd_acc hr setH_at hk (by omega)) ?_
        refine wf_gd (fun g54 => ?_)
        refine wf_i2l dX2_sweep_54 g54 ?_
        refine wf_lsub dX2_sweep_55 ?_
        refine wf_lstore dX2_sweep_56 ?_
        refine wf_lload dX2_sweep_58 rfl ?_
        refine wf_aload_n dX2_sweep_60 rfl ?_
        refine wf_get dX2_sweep_61 f_RX2_105 (fun h hr => rd_acc hr setH_at hk (by omega)) ?_
        refine wf_aload_n dX2_sweep_64 rfl ?_
        refine wf_get dX2_sweep_65 f_RX2_230 (fun h hr => rd_acc hr setH_at hk (by omega)) ?_
        refine wf_gd (fun g68 => ?_)
        refine wf_i2l dX2_sweep_68 g68 ?_
        refine wf_lsub dX2_sweep_69 ?_
        refine wf_gd (fun g70 => ?_)
        refine wf_mminL dX2_sweep_70 k_RX2_233 g70.1 g70.2 ?_
        refine wf_lstore dX2_sweep_73 ?_
        refine wf_lload dX2_sweep_75 rfl ?_
        refine wf_lconst0 dX2_sweep_77 ?_
        refine wf_gd (fun g78 => ?_)
        refine wf_jcmp_gt 85 dX2_sweep_78 dX2_sweep_79 g78 (by decide) (fun h78 => ?_) (fun h78 => ?_)
        · refine wf_aload_n dX2_sweep_85 rfl ?_
          refine wf_dup dX2_sweep_86 ?_
          refine wf_get dX2_sweep_87 f_RX2_105 (fun h hr => rd_acc hr setH_at hk (by omega)) ?_
          refine wf_lload dX2_sweep_90 rfl ?_
          refine wf_lsub dX2_sweep_92 ?_
          refine wf_p_accl (f := 3) dX2_sweep_93 p_RX2_105 hk (by omega) (fun H93 => ?_)
          refine wf_aload_n dX2_sweep_96 rfl ?_
          refine wf_dup dX2_sweep_97 ?_
          refine wf_get dX2_sweep_98 f_RX2_239 (fun h hr => rd_acc hr setH_at hk (by omega)) ?_
          refine wf_lload dX2_sweep_101 rfl ?_
          refine wf_ladd dX2_sweep_103 ?_
          refine wf_p_accl (f := 8) dX2_sweep_104 p_RX2_239 hk (by omega) (fun H104 => ?_)
          refine wf_aload_n dX2_sweep_107 rfl ?_
          refine wf_dup dX2_sweep_108 ?_
          refine wf_get dX2_sweep_109 f_RX2_105 (fun h hr => rd_acc hr setH_at hk (by omega)) ?_
          refine wf_lload dX2_sweep_112 rfl ?_
          refine wf_ladd dX2_sweep_114 ?_
          refine wf_p_accl (f := 3) dX2_sweep_115 p_RX2_105 hk (by omega) (fun H115 => ?_)
          refine wf_aload_n dX2_sweep_118 rfl ?_
          refine wf_dup dX2_sweep_119 ?_
          refine wf_get dX2_sweep_120 f_RX2_242 (fun h hr => rd_acc hr setH_at hk (by omega)) ?_
          refine wf_lload dX2_sweep_123 rfl ?_
          refine wf_ladd dX2_sweep_125 ?_
          refine wf_p_accl (f := 7) dX2_sweep_126 p_RX2_242 hk (by omega) (fun H126 => ?_)
          refine wf_iinc dX2_sweep_129 rfl ?_
          refine wf_goto 2 dX2_sweep_132 ?_
          exact wf_at (ih (x1 + 1) _ _) ⟨rfl, rfl, trivial⟩
        · refine wf_goto 129 dX2_sweep_82 ?_
          refine wf_iinc dX2_sweep_129 rfl ?_
          refine wf_goto 2 dX2_sweep_132 ?_
          exact wf_at (ih (x1 + 1) _ _) ⟨rfl, rfl, trivial⟩
      · refine wf_goto 129 dX2_sweep_28 ?_
        refine wf_iinc dX2_sweep_129 rfl ?_
        refine wf_goto 2 dX2_sweep_132 ?_
        exact wf_at (ih (x1 + 1) _ _) ⟨rfl, rfl, trivial⟩
set_option maxRecDepth 100000 in
set_option maxHeartbeats 4000000 in
theorem pX2_sweep {E : wE} {n : Nat} (hE : wGE E) {G : gR} {k : Int} (hk : 0 ≤ k ∧ k < 11)   (H : hR) (ca : caT) : WF E (n + 1) yX2_sweep cX2_sweep 8 (none) vV (setH G k) ca 0 (wArgs [.ref (aH E k)]) [] H (fX2_sweep  H) := by
  unfold fX2_sweep
  refine wf_iconst dX2_sweep_0 ?_
  refine wf_istore_n dX2_sweep_1 ?_
  exact wf_at (pX2_sweep_b2 (n := n) hE hk  fuel0 0 _ _) ⟨rfl, rfl, trivial⟩

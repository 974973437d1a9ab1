/-! ===== the methods meet their functions (by program: wip/p33/gen.py) ===== -/
set_option maxRecDepth 100000 in
set_option maxHeartbeats 4000000 in
theorem pX2_takeNextOccurrence_b57 {E : wE} {n : Nat} (hE : wGE E) {G : gR} {k : Int} (hk : 0 ≤ k ∧ k < 11) (x1 : Int) (x2 : Int) (hbx2 : 0 ≤ x2 ∧ x2 < 16) (H : hR) (ca : caT) : WF E (n + 5) yX2_takeNextOccurrence cX2_takeNextOccurrence 3 (none) vV (setH G k) ca 57 (wLs [some (.ref (aH E k)), some (.int (iI x1)), some (.ref (aOrd E k x2))]) [] H (fX2_takeNextOccurrence_b57 x1 x2 H) := by
  unfold fX2_takeNextOccurrence_b57
  refine wf_aload_n dX2_takeNextOccurrence_57 rfl ?_
  refine wf_get dX2_takeNextOccurrence_58 f_RX2_33 (fun h hr => rd_h hr setH_at hk) ?_
  refine wf_iload_n dX2_takeNextOccurrence_61 rfl ?_
  refine wf_aload_n dX2_takeNextOccurrence_62 rfl ?_
  refine wf_get dX2_takeNextOccurrence_63 f_RX2_130 (fun h hr => rd_ord hr setH_at hk (by omega)) ?_
  refine wf_aload_n dX2_takeNextOccurrence_66 rfl ?_
  refine wf_get dX2_takeNextOccurrence_67 f_RX2_158 (fun h hr => rd_ord hr setH_at hk (by omega)) ?_
  refine wf_aload_n dX2_takeNextOccurrence_70 rfl ?_
  refine wf_get dX2_takeNextOccurrence_71 f_RX2_68 (fun h hr => rd_h hr setH_at hk) ?_
  refine wf_cV (put := fun q => q) dX2_takeNextOccurrence_74 k_RX2_217 b_yX5_add x_yX5_add (pX5_add (n := n) hE (G := G) (k := k) hk x1 (H.1 3 x2 2) (H.1 3 x2 18) (H.1 0 6 0) _ _) rfl (fun _ => rfl) (fun h hr => rd_wait hr setH_at hk) rfl (fun r74 H74 ca => ?_)
  refine wf_gd (fun g77 => ?_)
  refine wf_if_ne 81 dX2_takeNextOccurrence_77 g77 (fun h77 => ?_) (fun h77 => ?_)
  · refine wf_aload_n dX2_takeNextOccurrence_81 rfl ?_
    refine wf_dup dX2_takeNextOccurrence_82 ?_
    refine wf_get dX2_takeNextOccurrence_83 f_RX2_136 (fun h hr => rd_ord hr setH_at hk (by omega)) ?_
    refine wf_iconst dX2_takeNextOccurrence_86 ?_
    refine wf_iadd dX2_takeNextOccurrence_87 ?_
    refine wf_p_ord (f := 15) dX2_takeNextOccurrence_88 p_RX2_136 hk (by omega) (fun H88 => ?_)
    refine wf_aload_n dX2_takeNextOccurrence_91 rfl ?_
    refine wf_get dX2_takeNextOccurrence_92 f_RX2_20 (fun h hr => rd_h hr setH_at hk) ?_
    refine wf_aload_n dX2_takeNextOccurrence_95 rfl ?_
    refine wf_get dX2_takeNextOccurrence_96 f_RX2_221 (fun h hr => rd_ord hr setH_at hk (by omega)) ?_
    refine wf_gd (fun g99 => ?_)
    refine wf_aald_acc dX2_takeNextOccurrence_99 g99 (fun h hr => rd_accs hr setH_at hk) ?_
    refine wf_dup dX2_takeNextOccurrence_100 ?_
    refine wf_get dX2_takeNextOccurrence_101 f_RX2_224 (fun h hr => rd_acc hr setH_at hk (by omega)) ?_
    refine wf_aload_n dX2_takeNextOccurrence_104 rfl ?_
    refine wf_get dX2_takeNextOccurrence_105 f_RX2_130 (fun h hr => rd_ord hr setH_at hk (by omega)) ?_
    refine wf_gd (fun g108 => ?_)
    refine wf_i2l dX2_takeNextOccurrence_108 g108 ?_
    refine wf_ladd dX2_takeNextOccurrence_109 ?_
    refine wf_p_accl (f := 11) dX2_takeNextOccurrence_110 p_RX2_224 hk (by omega) (fun H110 => ?_)
    exact wf_return dX2_takeNextOccurrence_113 rfl
  · exact wf_return dX2_takeNextOccurrence_80 rfl
set_option maxRecDepth 100000 in
set_option maxHeartbeats 4000000 in
theorem pX2_takeNextOccurrence_b24 {E : wE} {n : Nat} (hE : wGE E) {G : gR} {k : Int} (hk : 0 ≤ k ∧ k < 11) (x1 : Int) (x2 : Int) (hbx2 : 0 ≤ x2 ∧ x2 < 16) (H : hR) (ca : caT) : WF E (n + 5) yX2_takeNextOccurrence cX2_takeNextOccurrence 3 (none) vV (setH G k) ca 24 (wLs [some (.ref (aH E k)), some (.int (iI x1)), some (.ref (aOrd E k x2))]) [] H (fX2_takeNextOccurrence_b24 x1 x2 H) := by
  unfold fX2_takeNextOccurrence_b24
  refine wf_aload_n dX2_takeNextOccurrence_24 rfl ?_
  refine wf_get dX2_takeNextOccurrence_25 f_RX2_211 (fun h hr => rd_ord hr setH_at hk (by omega)) ?_
  refine wf_iconst dX2_takeNextOccurrence_28 ?_
  refine wf_gd (fun g29 => ?_)
  refine wf_icmp_ne 57 dX2_takeNextOccurrence_29 g29 (by decide) (fun h29 => ?_) (fun h29 => ?_)
  · exact wf_at (pX2_takeNextOccurrence_b57 (n := n) hE hk  x1 x2 (by omega) _ _) ⟨rfl, rfl, rfl, trivial⟩
  · refine wf_aload_n dX2_takeNextOccurrence_32 rfl ?_
    refine wf_get dX2_takeNextOccurrence_33 f_RX2_12 (fun h hr => rd_h hr setH_at hk) ?_
    refine wf_aload_n dX2_takeNextOccurrence_36 rfl ?_
    refine wf_get dX2_takeNextOccurrence_37 f_RX2_158 (fun h hr => rd_ord hr setH_at hk (by omega)) ?_
    refine wf_rV dX2_takeNextOccurrence_40 k_RX2_179 b_yX1_isBusiness x_yX1_isBusiness (fun h hr => pX1_isBusiness (n := n + 4) hE hr setH_at hk (H.1 3 x2 18)) (fun h hr => rd_cal hr setH_at hk) rfl (fun r40 => ?_)
    refine wf_gd (fun g43 => ?_)
    refine wf_if_ne 57 dX2_takeNextOccurrence_43 g43 (fun h43 => ?_) (fun h43 => ?_)
    · exact wf_at (pX2_takeNextOccurrence_b57 (n := n) hE hk  x1 x2 (by omega) _ _) ⟨rfl, rfl, rfl, trivial⟩
    · refine wf_aload_n dX2_takeNextOccurrence_46 rfl ?_
      refine wf_dup dX2_takeNextOccurrence_47 ?_
      refine wf_get dX2_takeNextOccurrence_48 f_RX2_214 (fun h hr => rd_ord hr setH_at hk (by omega)) ?_
      refine wf_iconst dX2_takeNextOccurrence_51 ?_
      refine wf_iadd dX2_takeNextOccurrence_52 ?_
      refine wf_p_ord (f := 14) dX2_takeNextOccurrence_53 p_RX2_214 hk (by omega) (fun H53 => ?_)
      exact wf_return dX2_takeNextOccurrence_56 rfl
set_option maxRecDepth 100000 in
set_option maxHeartbeats 4000000 in
theorem pX2_takeNextOccurrence {E : wE} {n : Nat} (hE : wGE E) {G : gR} {k : Int} (hk : 0 ≤ k ∧ k < 11) (x1 : Int)  (H : hR) (ca : caT) : WF E (n + 5) yX2_takeNextOccurrence cX2_takeNextOccurrence 3 (none) vV (setH G k) ca 0 (wArgs [.ref (aH E k), .int (iI x1)]) [] H (fX2_takeNextOccurrence x1 H) := by
  unfold fX2_takeNextOccurrence
  refine wf_aload_n dX2_takeNextOccurrence_0 rfl ?_
  refine wf_get dX2_takeNextOccurrence_1 f_RX2_26 (fun h hr => rd_h hr setH_at hk) ?_
  refine wf_iload_n dX2_takeNextOccurrence_4 rfl ?_
  refine wf_gd (fun g5 => ?_)
  refine wf_aald_ord dX2_takeNextOccurrence_5 g5 (fun h hr => rd_ords hr setH_at hk) ?_
  refine wf_astore_n dX2_takeNextOccurrence_6 ?_
  refine wf_aload_n dX2_takeNextOccurrence_7 rfl ?_
  refine wf_get dX2_takeNextOccurrence_8 f_RX2_204 (fun h hr => rd_ord hr setH_at hk (by omega)) ?_
  refine wf_gd (fun g11 => ?_)
  refine wf_if_ne 24 dX2_takeNextOccurrence_11 g11 (fun h11 => ?_) (fun h11 => ?_)
  · exact wf_at (pX2_takeNextOccurrence_b24 (n := n) hE hk  x1 x1 (by omega) _ _) ⟨rfl, rfl, rfl, trivial⟩
  · refine wf_aload_n dX2_takeNextOccurrence_14 rfl ?_
    refine wf_dup dX2_takeNextOccurrence_15 ?_
    refine wf_get dX2_takeNextOccurrence_16 f_RX2_208 (fun h hr => rd_ord hr setH_at hk (by omega)) ?_
    refine wf_iconst dX2_takeNextOccurrence_19 ?_
    refine wf_isub dX2_takeNextOccurrence_20 ?_
    refine wf_p_ord (f := 10) dX2_takeNextOccurrence_21 p_RX2_208 hk (by omega) (fun H21 => ?_)
    exact wf_at (pX2_takeNextOccurrence_b24 (n := n) hE hk  x1 x1 (by omega) _ _) ⟨rfl, rfl, rfl, trivial⟩
set_option maxRecDepth 100000 in
set_option maxHeartbeats 4000000 in
theorem pX3_hasPaymentsLeft {E : wE} {n : Nat} (hE : wGE E) {G : gR} {H : hR} {ca : caT} {h : hW} {k : Int} (hr : rep E G ca h) (hH : G.1.1 k = H) (hk : 0 ≤ k ∧ k < 11) (i : Int) (hbi : 0 ≤ i ∧ i < 16) : WR E n yX3_hasPaymentsLeft cX3_hasPaymentsLeft 1 (some .boolean) vI h 0 (wArgs [.ref (aOrd E k i)]) [] (fX3_hasPaymentsLeft i H) := by
  unfold fX3_hasPaymentsLeft
  refine wr_aload_n dX3_hasPaymentsLeft_0 rfl ?_
  refine wr_get dX3_hasPaymentsLeft_1 f_RX3_39 (rd_ord hr hH hk (by omega)) ?_
  refine wr_gd (fun g4 => ?_)
  refine wr_if_ne 14 dX3_hasPaymentsLeft_4 g4 (fun h4 => ?_) (fun h4 => ?_)
  · refine wr_iconst dX3_hasPaymentsLeft_14 ?_
    refine wr_goto 19 dX3_hasPaymentsLeft_15 ?_
    exact wr_ireturn dX3_hasPaymentsLeft_19 ⟨_, rfl, rfl⟩
  · refine wr_aload_n dX3_hasPaymentsLeft_7 rfl ?_
    refine wr_get dX3_hasPaymentsLeft_8 f_RX3_43 (rd_ord hr hH hk (by omega)) ?_
    refine wr_gd (fun g11 => ?_)
    refine wr_if_le 18 dX3_hasPaymentsLeft_11 g11 (fun h11 => ?_) (fun h11 => ?_)
    · refine wr_iconst dX3_hasPaymentsLeft_18 ?_
      exact wr_ireturn dX3_hasPaymentsLeft_19 ⟨_, rfl, rfl⟩
    · refine wr_iconst dX3_hasPaymentsLeft_14 ?_
      refine wr_goto 19 dX3_hasPaymentsLeft_15 ?_
      exact wr_ireturn dX3_hasPaymentsLeft_19 ⟨_, rfl, rfl⟩
set_option maxRecDepth 100000 in
set_option maxHeartbeats 4000000 in
theorem pX2_makePaymentsDue_b100 {E : wE} {n : Nat} (hE : wGE E) {G : gR} {k : Int} (hk : 0 ≤ k ∧ k < 11) {rec2 : Int → hR → Option (Unit × hR)} (hrec2 : ∀ (x1 : Int)  (H : hR) (ca : caT), WF E (n + 6) yX2_makePaymentsDue cX2_makePaymentsDue 4 (none) vV (setH G k) ca 2 (wLs [some (.ref (aH E k)), some (.int (iI x1))]) [] H (rec2 x1 H)) (x1 : Int) (x2 : Int) (hbx2 : 0 ≤ x2 ∧ x2 < 16) (H : hR) (ca : caT) : WF E (n + 6) yX2_makePaymentsDue cX2_makePaymentsDue 4 (none) vV (setH G k) ca 100 (wLs [some (.ref (aH E k)), some (.int (iI x1)), some (.ref (aOrd E k x2))]) [] H (fX2_makePaymentsDue_b100 rec2 x1 x2 H) := by
  unfold fX2_makePaymentsDue_b100
  refine wf_aload_n dX2_makePaymentsDue_100 rfl ?_
  refine wf_iconst dX2_makePaymentsDue_101 ?_
  refine wf_p_ord (f := 11) dX2_makePaymentsDue_102 p_RX2_127 hk (by omega) (fun H102 => ?_)
  refine wf_iinc dX2_makePaymentsDue_105 rfl ?_
  refine wf_goto 2 dX2_makePaymentsDue_108 ?_
  exact wf_at (hrec2 (x1 + 1) _ _) ⟨rfl, rfl, trivial⟩
set_option maxRecDepth 100000 in
set_option maxHeartbeats 4000000 in
theorem pX2_makePaymentsDue_b83 {E : wE} {n : Nat} (hE : wGE E) {G : gR} {k : Int} (hk : 0 ≤ k ∧ k < 11) {rec2 : Int → hR → Option (Unit × hR)} (hrec2 : ∀ (x1 : Int)  (H : hR) (ca : caT), WF E (n + 6) yX2_makePaymentsDue cX2_makePaymentsDue 4 (none) vV (setH G k) ca 2 (wLs [some (.ref (aH E k)), some (.int (iI x1))]) [] H (rec2 x1 H)) (x1 : Int) (x2 : Int) (hbx2 : 0 ≤ x2 ∧ x2 < 16) (H : hR) (ca : caT) : WF E (n + 6) yX2_makePaymentsDue cX2_makePaymentsDue 4 (none) vV (setH G k) ca 83 (wLs [some (.ref (aH E k)), some (.int (iI x1)), some (.ref (aOrd E k x2))]) [] H (fX2_makePaymentsDue_b83 rec2 x1 x2 H) := by
  unfold fX2_makePaymentsDue_b83
  refine wf_aload_n dX2_makePaymentsDue_83 rfl ?_
  refine wf_rV dX2_makePaymentsDue_84 k_RX2_188 b_yX3_hasPaymentsLeft x_yX3_hasPaymentsLeft (fun h hr => pX3_hasPaymentsLeft (n := n + 5) hE hr setH_at hk x2 (by omega)) (fun h hr => rd_ord hr setH_at hk (by omega)) rfl (fun r84 => ?_)
  refine wf_gd (fun g87 => ?_)
  refine wf_if_eq 100 dX2_makePaymentsDue_87 g87 (fun h87 => ?_) (fun h87 => ?_)
  · exact wf_at (pX2_makePaymentsDue_b100 (n := n) hE hk hrec2 x1 x2 (by omega) _ _) ⟨rfl, rfl, rfl, trivial⟩
  · refine wf_aload_n dX2_makePaymentsDue_90 rfl ?_
    refine wf_get dX2_makePaymentsDue_91 f_RX2_192 (fun h hr => rd_ord hr setH_at hk (by omega)) ?_
    refine wf_sipush dX2_makePaymentsDue_94 ?_
    refine wf_gd (fun g97 => ?_)
    refine wf_icmp_ne 105 dX2_makePaymentsDue_97 g97 (by decide) (fun h97 => ?_) (fun h97 => ?_)
    · refine wf_iinc dX2_makePaymentsDue_105 rfl ?_
      refine wf_goto 2 dX2_makePaymentsDue_108 ?_
      exact wf_at (hrec2 (x1 + 1) _ _) ⟨rfl, rfl, trivial⟩
    · exact wf_at (pX2_makePaymentsDue_b100 (n := n) hE hk hrec2 x1 x2 (by omega) _ _) ⟨rfl, rfl, rfl, trivial⟩
set_option maxRecDepth 100000 in
set_option maxHeartbeats 4000000 in
theorem pX2_makePaymentsDue_b29 {E : wE} {n : Nat} (hE : wGE E) {G : gR} {k : Int} (hk : 0 ≤ k ∧ k < 11) {rec2 : Int → hR → Option (Unit × hR)} (hrec2 : ∀ (x1 : Int)  (H : hR) (ca : caT), WF E (n + 6) yX2_makePaymentsDue cX2_makePaymentsDue 4 (none) vV (setH G k) ca 2 (wLs [some (.ref (aH E k)), some (.int (iI x1))]) [] H (rec2 x1 H)) : ∀ (fuel : Nat) (x1 : Int) (x2 : Int) (x3 : Int) (hbx2 : 0 ≤ x2 ∧ x2 < 16) (H : hR) (ca : caT), WF E (n + 6) yX2_makePaymentsDue cX2_makePaymentsDue 4 (none) vV (setH G k) ca 29 (wLs [some (.ref (aH E k)), some (.int (iI x1)), some (.ref (aOrd E k x2)), some (.int (iI x3))]) [] H (fX2_makePaymentsDue_b29 rec2 fuel x1 x2 x3 H) := by
  intro fuel
  induction fuel with
  | zero =>
    intro x1 x2 x3 hbx2 H ca
    exact wf_none
  | succ fuel ih =>
    intro x1 x2 x3 hbx2 H ca
    unfold fX2_makePaymentsDue_b29
    refine wf_iload_n dX2_makePaymentsDue_29 rfl ?_
    refine wf_sipush dX2_makePaymentsDue_30 ?_
    refine wf_gd (fun g33 => ?_)
    refine wf_icmp_gt 83 dX2_makePaymentsDue_33 g33 (by decide) (fun h33 => ?_) (fun h33 => ?_)
    · exact wf_at (pX2_makePaymentsDue_b83 (n := n) hE hk hrec2 x1 x2 (by omega) _ _) ⟨rfl, rfl, rfl, trivial⟩
    · refine wf_aload_n dX2_makePaymentsDue_36 rfl ?_
      refine wf_rV dX2_makePaymentsDue_37 k_RX2_188 b_yX3_hasPaymentsLeft x_yX3_hasPaymentsLeft (fun h hr => pX3_hasPaymentsLeft (n := n + 5) hE hr setH_at hk x2 (by omega)) (fun h hr => rd_ord hr setH_at hk (by omega)) rfl (fun r37 => ?_)
      refine wf_gd (fun g40 => ?_)
      refine wf_if_eq 83 dX2_makePaymentsDue_40 g40 (fun h40 => ?_) (fun h40 => ?_)
      · exact wf_at (pX2_makePaymentsDue_b83 (n := n) hE hk hrec2 x1 x2 (by omega) _ _) ⟨rfl, rfl, rfl, trivial⟩
      · refine wf_aload_n dX2_makePaymentsDue_43 rfl ?_
        refine wf_get dX2_makePaymentsDue_44 f_RX2_192 (fun h hr => rd_ord hr setH_at hk (by omega)) ?_
        refine wf_aload_n dX2_makePaymentsDue_47 rfl ?_
        refine wf_get dX2_makePaymentsDue_48 f_RX2_68 (fun h hr => rd_h hr setH_at hk) ?_
        refine wf_gd (fun g51 => ?_)
        refine wf_icmp_gt 83 dX2_makePaymentsDue_51 g51.1 g51.2 (fun h51 => ?_) (fun h51 => ?_)
        · exact wf_at (pX2_makePaymentsDue_b83 (n := n) hE hk hrec2 x1 x2 (by omega) _ _) ⟨rfl, rfl, rfl, trivial⟩
        · refine wf_aload_n dX2_makePaymentsDue_54 rfl ?_
          refine wf_iload_n dX2_makePaymentsDue_55 rfl ?_
          refine wf_cV (put := fun q => q) dX2_makePaymentsDue_56 k_RX2_195 b_yX2_takeNextOccurrence x_yX2_takeNextOccurrence (pX2_takeNextOccurrence (n := n) hE (G := G) (k := k) hk x1 _ _) rfl (fun _ => rfl) (fun h hr => rd_h hr setH_at hk) rfl (fun r56 H56 ca => ?_)
          refine wf_aload_n dX2_makePaymentsDue_59 rfl ?_
          refine wf_aload_n dX2_makePaymentsDue_60 rfl ?_
          refine wf_get dX2_makePaymentsDue_61 f_RX2_198 (fun h hr => rd_ord hr setH_at hk (by omega)) ?_
          refine wf_iconst dX2_makePaymentsDue_64 ?_
          refine wf_iadd dX2_makePaymentsDue_65 ?_
          refine wf_p_ord (f := 16) dX2_makePaymentsDue_66 p_RX2_201 hk (by omega) (fun H66 => ?_)
          refine wf_aload_n dX2_makePaymentsDue_69 rfl ?_
          refine wf_aload_n dX2_makePaymentsDue_70 rfl ?_
          refine wf_get dX2_makePaymentsDue_71 f_RX2_12 (fun h hr => rd_h hr setH_at hk) ?_
          refine wf_cV (put := fun q => q) dX2_makePaymentsDue_74 k_RX2_155 b_yX3_aim x_yX3_aim (pX3_aim (n := n + 2) hE (G := G) (k := k) hk x2 (by omega) _ _) rfl (fun _ => rfl) (fun h hr => rd_ord hr setH_at hk (by omega)) rfl (fun r74 H74 ca => ?_)
          refine wf_iinc dX2_makePaymentsDue_77 rfl ?_
          refine wf_goto 29 dX2_makePaymentsDue_80 ?_
          exact wf_at (ih x1 x2 (x3 + 1) (by omega) _ _) ⟨rfl, rfl, rfl, rfl, trivial⟩
set_option maxRecDepth 100000 in
set_option maxHeartbeats 4000000 in
theorem pX2_makePaymentsDue_b2 {E : wE} {n : Nat} (hE : wGE E) {G : gR} {k : Int} (hk : 0 ≤ k ∧ k < 11) : ∀ (fuel : Nat) (x1 : Int)  (H : hR) (ca : caT), WF E (n + 6) yX2_makePaymentsDue cX2_makePaymentsDue 4 (none) vV (setH G k) ca 2 (wLs [some (.ref (aH E k)), some (.int (iI x1))]) [] H (fX2_makePaymentsDue_b2 fuel x1 H) := by
  intro fuel
  induction fuel with
  | zero =>
    intro x1 H ca
    exact wf_none
  | succ fuel ih =>
    intro x1 H ca
    unfold fX2_makePaymentsDue_b2
    refine wf_iload_n dX2_makePaymentsDue_2 rfl ?_
    refine wf_aload_n dX2_makePaymentsDue_3 rfl ?_
    refine wf_get dX2_makePaymentsDue_4 f_RX2_59 (fun h hr => rd_h hr setH_at hk) ?_
    refine wf_gd (fun g7 => ?_)
    refine wf_icmp_ge 111 dX2_makePaymentsDue_7 g7.1 g7.2 (fun h7 => ?_) (fun h7 => ?_)
    · exact wf_return dX2_makePaymentsDue_111 rfl
    · refine wf_aload_n dX2_makePaymentsDue_10 rfl ?_
      refine wf_get dX2_makePaymentsDue_11 f_RX2_26 (fun h hr => rd_h hr setH_at hk) ?_
      refine wf_iload_n dX2_makePaymentsDue_14 rfl ?_
      refine wf_gd (fun g15 => ?_)
      refine wf_aald_ord dX2_makePaymentsDue_15 g15 (fun h hr => rd_ords hr setH_at hk) ?_
      refine wf_astore_n dX2_makePaymentsDue_16 ?_
      refine wf_aload_n dX2_makePaymentsDue_17 rfl ?_
      refine wf_get dX2_makePaymentsDue_18 f_RX2_127 (fun h hr => rd_ord hr setH_at hk (by omega)) ?_
      refine wf_gd (fun g21 => ?_)
      refine wf_if_eq 27 dX2_makePaymentsDue_21 g21 (fun h21 => ?_) (fun h21 => ?_)
      · refine wf_iconst dX2_makePaymentsDue_27 ?_
        refine wf_istore_n dX2_makePaymentsDue_28 ?_
        exact wf_at (pX2_makePaymentsDue_b29 (n := n) hE hk ih fuel0 x1 x1 0 (by omega) _ _) ⟨rfl, rfl, rfl, rfl, trivial⟩
      · refine wf_goto 105 dX2_makePaymentsDue_24 ?_
        refine wf_iinc dX2_makePaymentsDue_105 rfl ?_
        refine wf_goto 2 dX2_makePaymentsDue_108 ?_
        exact wf_at (ih (x1 + 1) _ _) ⟨rfl, rfl, trivial⟩
set_option maxRecDepth 100000 in
set_option maxHeartbeats 4000000 in
theorem pX2_makePaymentsDue {E : wE} {n : Nat} (hE : wGE E) {G : gR} {k : Int} (hk : 0 ≤ k ∧ k < 11)   (H : hR) (ca : caT) : WF E (n + 6) yX2_makePaymentsDue cX2_makePaymentsDue 4 (none) vV (setH G k) ca 0 (wArgs [.ref (aH E k)]) [] H (fX2_makePaymentsDue  H) := by
  unfold fX2_makePaymentsDue
  refine wf_iconst dX2_makePaymentsDue_0 ?_
  refine wf_istore_n dX2_makePaymentsDue_1 ?_
  exact wf_at (pX2_makePaymentsDue_b2 (n := n) hE hk  fuel0 0 _ _) ⟨rfl, rfl, trivial⟩
set_option maxRecDepth 100000 in
set_option maxHeartbeats 4000000 in
theorem pX2_failTry {E : wE} {n : Nat} (hE : wGE E) {G : gR} {k : Int} (hk : 0 ≤ k ∧ k < 11) (x1 : Int)  (H : hR) (ca : caT) : WF E (n + 1) yX2_failTry cX2_failTry 3 (none) vV (setH G k) ca 0 (wArgs [.ref (aH E k), .int (iI x1)]) [] H (fX2_failTry x1 H) := by
  unfold fX2_failTry
  refine wf_aload_n dX2_failTry_0 rfl ?_
  refine wf_get dX2_failTry_1 f_RX2_26 (fun h hr => rd_h hr setH_at hk) ?_
  refine wf_aload_n dX2_failTry_4 rfl ?_
  refine wf_get dX2_failTry_5 f_RX2_33 (fun h hr => rd_h hr setH_at hk) ?_
  refine wf_get dX2_failTry_8 f_RX2_141 (fun h hr => rd_wait hr setH_at hk) ?_
  refine wf_iconst dX2_failTry_11 ?_
  refine wf_aald_cols dX2_failTry_12 (by decide) (fun h hr => rd_cols hr setH_at hk) ?_
  refine wf_iload_n dX2_failTry_13 rfl ?_
  refine wf_gd (fun g14 => ?_)
  refine wf_collds dX2_failTry_14 setH_at hk (by decide) g14 ?_
  refine wf_gd (fun g15 => ?_)
  refine wf_aald_ord dX2_failTry_15 g15 (fun h hr => rd_ords hr setH_at hk) ?_
  refine wf_astore_n dX2_failTry_16 ?_
  refine wf_aload_n dX2_failTry_17 rfl ?_
  refine wf_get dX2_failTry_18 f_RX2_20 (fun h hr => rd_h hr setH_at hk) ?_
  refine wf_aload_n dX2_failTry_21 rfl ?_
  refine wf_get dX2_failTry_22 f_RX2_221 (fun h hr => rd_ord hr setH_at hk (by omega)) ?_
  refine wf_gd (fun g25 => ?_)
  refine wf_aald_acc dX2_failTry_25 g25 (fun h hr => rd_accs hr setH_at hk) ?_
  refine wf_dup dX2_failTry_26 ?_
  refine wf_get dX2_failTry_27 f_RX2_105 (fun h hr => rd_acc hr setH_at hk (by omega)) ?_
  refine wf_aload_n dX2_failTry_30 rfl ?_
  refine wf_get dX2_failTry_31 f_RX2_41 (fun h hr => rd_h hr setH_at hk) ?_
  refine wf_gd (fun g34 => ?_)
  refine wf_i2l dX2_failTry_34 g34 ?_
  refine wf_lsub dX2_failTry_35 ?_
  refine wf_p_accl (f := 3) dX2_failTry_36 p_RX2_105 hk (by omega) (fun H36 => ?_)
  refine wf_aload_n dX2_failTry_39 rfl ?_
  refine wf_get dX2_failTry_40 f_RX2_20 (fun h hr => rd_h hr setH_at hk) ?_
  refine wf_aload_n dX2_failTry_43 rfl ?_
  refine wf_get dX2_failTry_44 f_RX2_221 (fun h hr => rd_ord hr setH_at hk (by omega)) ?_
  refine wf_gd (fun g47 => ?_)
  refine wf_aald_acc dX2_failTry_47 g47 (fun h hr => rd_accs hr setH_at hk) ?_
  refine wf_dup dX2_failTry_48 ?_
  refine wf_get dX2_failTry_49 f_RX2_266 (fun h hr => rd_acc hr setH_at hk (by omega)) ?_
  refine wf_aload_n dX2_failTry_52 rfl ?_
  refine wf_get dX2_failTry_53 f_RX2_41 (fun h hr => rd_h hr setH_at hk) ?_
  refine wf_gd (fun g56 => ?_)
  refine wf_i2l dX2_failTry_56 g56 ?_
  refine wf_ladd dX2_failTry_57 ?_
  refine wf_p_accl (f := 9) dX2_failTry_58 p_RX2_266 hk (by omega) (fun H58 => ?_)
  refine wf_aload_n dX2_failTry_61 rfl ?_
  refine wf_dup dX2_failTry_62 ?_
  refine wf_get dX2_failTry_63 f_RX2_71 (fun h hr => rd_h hr setH_at hk) ?_
  refine wf_iconst dX2_failTry_66 ?_
  refine wf_iadd dX2_failTry_67 ?_
  refine wf_p_h (f := 10) dX2_failTry_68 p_RX2_71 hk (fun H68 => ?_)
  refine wf_aload_n dX2_failTry_71 rfl ?_
  refine wf_dup dX2_failTry_72 ?_
  refine wf_get dX2_failTry_73 f_RX2_170 (fun h hr => rd_h hr setH_at hk) ?_
  refine wf_iconst dX2_failTry_76 ?_
  refine wf_aload_n dX2_failTry_77 rfl ?_
  refine wf_get dX2_failTry_78 f_RX2_221 (fun h hr => rd_ord hr setH_at hk (by omega)) ?_
  refine wf_ishl dX2_failTry_81 ?_
  refine wf_ior dX2_failTry_82 ?_
  refine wf_p_h (f := 11) dX2_failTry_83 p_RX2_170 hk (fun H83 => ?_)
  refine wf_aload_n dX2_failTry_86 rfl ?_
  refine wf_get dX2_failTry_87 f_RX2_33 (fun h hr => rd_h hr setH_at hk) ?_
  refine wf_get dX2_failTry_90 f_RX2_141 (fun h hr => rd_wait hr setH_at hk) ?_
  refine wf_iconst dX2_failTry_93 ?_
  refine wf_aald_cols dX2_failTry_94 (by decide) (fun h hr => rd_cols hr setH_at hk) ?_
  refine wf_iload_n dX2_failTry_95 rfl ?_
  refine wf_dup2 dX2_failTry_96 ?_
  refine wf_gd (fun g97 => ?_)
  refine wf_collds dX2_failTry_97 setH_at hk (by decide) g97 ?_
  refine wf_iconst dX2_failTry_98 ?_
  refine wf_iadd dX2_failTry_99 ?_
  refine wf_gd (fun g100 => ?_)
  refine wf_s_col dX2_failTry_100 hk (by decide) g100 (fun H100 => ?_)
  refine wf_aload_n dX2_failTry_101 rfl ?_
  refine wf_get dX2_failTry_102 f_RX2_33 (fun h hr => rd_h hr setH_at hk) ?_
  refine wf_get dX2_failTry_105 f_RX2_141 (fun h hr => rd_wait hr setH_at hk) ?_
  refine wf_iconst dX2_failTry_108 ?_
  refine wf_aald_cols dX2_failTry_109 (by decide) (fun h hr => rd_cols hr setH_at hk) ?_
  refine wf_iload_n dX2_failTry_110 rfl ?_
  refine wf_gd (fun g111 => ?_)
  refine wf_collds dX2_failTry_111 setH_at hk (by decide) g111 ?_
  refine wf_aload_n dX2_failTry_112 rfl ?_
  refine wf_get dX2_failTry_113 f_RX2_37 (fun h hr => rd_h hr setH_at hk) ?_
  refine wf_gd (fun g116 => ?_)
  refine wf_icmp_ge 120 dX2_failTry_116 g116.1 g116.2 (fun h116 => ?_) (fun h116 => ?_)
  · refine wf_aload_n dX2_failTry_120 rfl ?_
    refine wf_dup dX2_failTry_121 ?_
    refine wf_get dX2_failTry_122 f_RX2_145 (fun h hr => rd_ord hr setH_at hk (by omega)) ?_
    refine wf_iconst dX2_failTry_125 ?_
    refine wf_iadd dX2_failTry_126 ?_
    refine wf_p_ord (f := 13) dX2_failTry_127 p_RX2_145 hk (by omega) (fun H127 => ?_)
    refine wf_aload_n dX2_failTry_130 rfl ?_
    refine wf_iload_n dX2_failTry_131 rfl ?_
    refine wf_cV (put := fun q => q) dX2_failTry_132 k_RX2_148 b_yX2_settle x_yX2_settle (pX2_settle (n := n) hE (G := G) (k := k) hk x1 _ _) rfl (fun _ => rfl) (fun h hr => rd_h hr setH_at hk) rfl (fun r132 H132 ca => ?_)
    exact wf_return dX2_failTry_135 rfl
  · exact wf_return dX2_failTry_119 rfl
set_option maxRecDepth 100000 in
set_option maxHeartbeats 4000000 in
theorem pX2_tryPayment_b138 {E : wE} {n : Nat} (hE : wGE E) {G : gR} {k : Int} (hk : 0 ≤ k ∧ k < 11) (x1 : Int) (x2 : Int) (hbx2 : 0 ≤ x2 ∧ x2 < 16) (H : hR) (ca : caT) : WF E (n + 2) yX2_tryPayment cX2_tryPayment 5 (none) vV (setH G k) ca 138 (wLs [some (.ref (aH E k)), some (.int (iI x1)), some (.ref (aOrd E k x2))]) [] H (fX2_tryPayment_b138 x1 x2 H) := by
  unfold fX2_tryPayment_b138
  refine wf_aload_n dX2_tryPayment_138 rfl ?_
  refine wf_dup dX2_tryPayment_139 ?_
  refine wf_get dX2_tryPayment_140 f_RX2_263 (fun h hr => rd_ord hr setH_at hk (by omega)) ?_
  refine wf_iconst dX2_tryPayment_143 ?_
  refine wf_iadd dX2_tryPayment_144 ?_
  refine wf_p_ord (f := 12) dX2_tryPayment_145 p_RX2_263 hk (by omega) (fun H145 => ?_)
  refine wf_aload_n dX2_tryPayment_148 rfl ?_
  refine wf_iload_n dX2_tryPayment_149 rfl ?_
  refine wf_cV (put := fun q => q) dX2_tryPayment_150 k_RX2_148 b_yX2_settle x_yX2_settle (pX2_settle (n := n + 1) hE (G := G) (k := k) hk x1 _ _) rfl (fun _ => rfl) (fun h hr => rd_h hr setH_at hk) rfl (fun r150 H150 ca => ?_)
  exact wf_return dX2_tryPayment_153 rfl
set_option maxRecDepth 100000 in
set_option maxHeartbeats 4000000 in
theorem pX2_tryPayment {E : wE} {n : Nat} (hE : wGE E) {G : gR} {k : Int} (hk : 0 ≤ k ∧ k < 11) (x1 : Int)  (H : hR) (ca : caT) : WF E (n + 2) yX2_tryPayment cX2_tryPayment 5 (none) vV (setH G k) ca 0 (wArgs [.ref (aH E k), .int (iI x1)]) [] H (fX2_tryPayment x1 H) := by
  unfold fX2_tryPayment
  refine wf_aload_n dX2_tryPayment_0 rfl ?_
  refine wf_get dX2_tryPayment_1 f_RX2_26 (fun h hr => rd_h hr setH_at hk) ?_
  refine wf_aload_n dX2_tryPayment_4 rfl ?_
  refine wf_get dX2_tryPayment_5 f_RX2_33 (fun h hr => rd_h hr setH_at hk) ?_
  refine wf_get dX2_tryPayment_8 f_RX2_141 (fun h hr => rd_wait hr setH_at hk) ?_
  refine wf_iconst dX2_tryPayment_11 ?_
  refine wf_aald_cols dX2_tryPayment_12 (by decide) (fun h hr => rd_cols hr setH_at hk) ?_
  refine wf_iload_n dX2_tryPayment_13 rfl ?_
  refine wf_gd (fun g14 => ?_)
  refine wf_collds dX2_tryPayment_14 setH_at hk (by decide) g14 ?_
  refine wf_gd (fun g15 => ?_)
  refine wf_aald_ord dX2_tryPayment_15 g15 (fun h hr => rd_ords hr setH_at hk) ?_
  refine wf_astore_n dX2_tryPayment_16 ?_
  refine wf_aload_n dX2_tryPayment_17 rfl ?_
  refine wf_get dX2_tryPayment_18 f_RX2_20 (fun h hr => rd_h hr setH_at hk) ?_
  refine wf_aload_n dX2_tryPayment_21 rfl ?_
  refine wf_get dX2_tryPayment_22 f_RX2_221 (fun h hr => rd_ord hr setH_at hk (by omega)) ?_
  refine wf_gd (fun g25 => ?_)
  refine wf_aald_acc dX2_tryPayment_25 g25 (fun h hr => rd_accs hr setH_at hk) ?_
  refine wf_astore_n dX2_tryPayment_26 ?_
  refine wf_aload_n dX2_tryPayment_27 rfl ?_
  refine wf_get dX2_tryPayment_28 f_RX2_33 (fun h hr => rd_h hr setH_at hk) ?_
  refine wf_get dX2_tryPayment_31 f_RX2_141 (fun h hr => rd_wait hr setH_at hk) ?_
  refine wf_iconst dX2_tryPayment_34 ?_
  refine wf_aald_cols dX2_tryPayment_35 (by decide) (fun h hr => rd_cols hr setH_at hk) ?_
  refine wf_iload_n dX2_tryPayment_36 rfl ?_
  refine wf_gd (fun g37 => ?_)
  refine wf_collds dX2_tryPayment_37 setH_at hk (by decide) g37 ?_
  refine wf_istore dX2_tryPayment_38 ?_
  refine wf_aload_n dX2_tryPayment_40 rfl ?_
  refine wf_get dX2_tryPayment_41 f_RX2_105 (fun h hr => rd_acc hr setH_at hk (by omega)) ?_
  refine wf_aload_n dX2_tryPayment_44 rfl ?_
  refine wf_get dX2_tryPayment_45 f_RX2_227 (fun h hr => rd_acc hr setH_at hk (by omega)) ?_
  refine wf_gd (fun g48 => ?_)
  refine wf_i2l dX2_tryPayment_48 g48 ?_
  refine wf_ladd dX2_tryPayment_49 ?_
  refine wf_iload dX2_tryPayment_50 rfl ?_
  refine wf_gd (fun g52 => ?_)
  refine wf_i2l dX2_tryPayment_52 g52 ?_
  refine wf_gd (fun g53 => ?_)
  refine wf_jcmp_ge 63 dX2_tryPayment_53 dX2_tryPayment_54 g53.1 g53.2 (fun h53 => ?_) (fun h53 => ?_)
  · refine wf_aload_n dX2_tryPayment_63 rfl ?_
    refine wf_dup dX2_tryPayment_64 ?_
    refine wf_get dX2_tryPayment_65 f_RX2_105 (fun h hr => rd_acc hr setH_at hk (by omega)) ?_
    refine wf_iload dX2_tryPayment_68 rfl ?_
    refine wf_gd (fun g70 => ?_)
    refine wf_i2l dX2_tryPayment_70 g70 ?_
    refine wf_lsub dX2_tryPayment_71 ?_
    refine wf_p_accl (f := 3) dX2_tryPayment_72 p_RX2_105 hk (by omega) (fun H72 => ?_)
    refine wf_aload_n dX2_tryPayment_75 rfl ?_
    refine wf_dup dX2_tryPayment_76 ?_
    refine wf_get dX2_tryPayment_77 f_RX2_254 (fun h hr => rd_acc hr setH_at hk (by omega)) ?_
    refine wf_iload dX2_tryPayment_80 rfl ?_
    refine wf_gd (fun g82 => ?_)
    refine wf_i2l dX2_tryPayment_82 g82 ?_
    refine wf_ladd dX2_tryPayment_83 ?_
    refine wf_p_accl (f := 5) dX2_tryPayment_84 p_RX2_254 hk (by omega) (fun H84 => ?_)
    refine wf_aload_n dX2_tryPayment_87 rfl ?_
    refine wf_aload_n dX2_tryPayment_88 rfl ?_
    refine wf_get dX2_tryPayment_89 f_RX2_257 (fun h hr => rd_ord hr setH_at hk (by omega)) ?_
    refine wf_rV dX2_tryPayment_92 k_RX2_97 b_yX2_hasAccount x_yX2_hasAccount (fun h hr => pX2_hasAccount (n := n + 1) hE hr setH_at hk (H84.1 3 (H.1 5 0 x1) 1)) (fun h hr => rd_h hr setH_at hk) rfl (fun r92 => ?_)
    refine wf_gd (fun g95 => ?_)
    refine wf_if_eq 138 dX2_tryPayment_95 g95 (fun h95 => ?_) (fun h95 => ?_)
    · exact wf_at (pX2_tryPayment_b138 (n := n) hE hk  x1 (H.1 5 0 x1) (by omega) _ _) ⟨rfl, rfl, rfl, trivial⟩
    · refine wf_aload_n dX2_tryPayment_98 rfl ?_
      refine wf_get dX2_tryPayment_99 f_RX2_20 (fun h hr => rd_h hr setH_at hk) ?_
      refine wf_aload_n dX2_tryPayment_102 rfl ?_
      refine wf_get dX2_tryPayment_103 f_RX2_257 (fun h hr => rd_ord hr setH_at hk (by omega)) ?_
      refine wf_gd (fun g106 => ?_)
      refine wf_aald_acc dX2_tryPayment_106 g106 (fun h hr => rd_accs hr setH_at hk) ?_
      refine wf_dup dX2_tryPayment_107 ?_
      refine wf_get dX2_tryPayment_108 f_RX2_105 (fun h hr => rd_acc hr setH_at hk (by omega)) ?_
      refine wf_iload dX2_tryPayment_111 rfl ?_
      refine wf_gd (fun g113 => ?_)
      refine wf_i2l dX2_tryPayment_113 g113 ?_
      refine wf_ladd dX2_tryPayment_114 ?_
      refine wf_p_accl (f := 3) dX2_tryPayment_115 p_RX2_105 hk (by omega) (fun H115 => ?_)
      refine wf_aload_n dX2_tryPayment_118 rfl ?_
      refine wf_get dX2_tryPayment_119 f_RX2_20 (fun h hr => rd_h hr setH_at hk) ?_
      refine wf_aload_n dX2_tryPayment_122 rfl ?_
      refine wf_get dX2_tryPayment_123 f_RX2_257 (fun h hr => rd_ord hr setH_at hk (by omega)) ?_
      refine wf_gd (fun g126 => ?_)
      refine wf_aald_acc dX2_tryPayment_126 g126 (fun h hr => rd_accs hr setH_at hk) ?_
      refine wf_dup dX2_tryPayment_127 ?_
      refine wf_get dX2_tryPayment_128 f_RX2_260 (fun h hr => rd_acc hr setH_at hk (by omega)) ?_
      refine wf_iload dX2_tryPayment_131 rfl ?_
      refine wf_gd (fun g133 => ?_)
      refine wf_i2l dX2_tryPayment_133 g133 ?_
      refine wf_ladd dX2_tryPayment_134 ?_
      refine wf_p_accl (f := 6) dX2_tryPayment_135 p_RX2_260 hk (by omega) (fun H135 => ?_)
      exact wf_at (pX2_tryPayment_b138 (n := n) hE hk  x1 (H.1 5 0 x1) (by omega) _ _) ⟨rfl, rfl, rfl, trivial⟩
  · refine wf_aload_n dX2_tryPayment_57 rfl ?_
    refine wf_iload_n dX2_tryPayment_58 rfl ?_
    refine wf_cV (put := fun q => q) dX2_tryPayment_59 k_RX2_251 b_yX2_failTry x_yX2_failTry (pX2_failTry (n := n) hE (G := G) (k := k) hk x1 _ _) rfl (fun _ => rfl) (fun h hr => rd_h hr setH_at hk) rfl (fun r59 H59 ca => ?_)
    exact wf_return dX2_tryPayment_62 rfl
set_option maxRecDepth 100000 in
set_option maxHeartbeats 4000000 in
theorem pX2_payWaitingOf_b2 {E : wE} {n : Nat} (hE : wGE E) {G : gR} {k : Int} (hk : 0 ≤ k ∧ k < 11) : ∀ (fuel : Nat) (x1 : Int) (x2 : Int)  (H : hR) (ca : caT), WF E (n + 3) yX2_payWaitingOf cX2_payWaitingOf 3 (none) vV (setH G k) ca 2 (wLs [some (.ref (aH E k)), some (.int (iI x1)), some (.int (iI x2))]) [] H (fX2_payWaitingOf_b2 fuel x1 x2 H) := by
  intro fuel
  induction fuel with
  | zero =>
    intro x1 x2 H ca
    exact wf_none
  | succ fuel ih =>
    intro x1 x2 H ca
    unfold fX2_payWaitingOf_b2
    refine wf_iload_n dX2_payWaitingOf_2 rfl ?_
    refine wf_aload_n dX2_payWaitingOf_3 rfl ?_
    refine wf_get dX2_payWaitingOf_4 f_RX2_33 (fun h hr => rd_h hr setH_at hk) ?_
    refine wf_get dX2_payWaitingOf_7 f_RX2_138 (fun h hr => rd_wait hr setH_at hk) ?_
    refine wf_gd (fun g10 => ?_)
    refine wf_icmp_ge 47 dX2_payWaitingOf_10 g10.1 g10.2 (fun h10 => ?_) (fun h10 => ?_)
    · exact wf_return dX2_payWaitingOf_47 rfl
    · refine wf_aload_n dX2_payWaitingOf_13 rfl ?_
      refine wf_get dX2_payWaitingOf_14 f_RX2_26 (fun h hr => rd_h hr setH_at hk) ?_
      refine wf_aload_n dX2_payWaitingOf_17 rfl ?_
      refine wf_get dX2_payWaitingOf_18 f_RX2_33 (fun h hr => rd_h hr setH_at hk) ?_
      refine wf_get dX2_payWaitingOf_21 f_RX2_141 (fun h hr => rd_wait hr setH_at hk) ?_
      refine wf_iconst dX2_payWaitingOf_24 ?_
      refine wf_aald_cols dX2_payWaitingOf_25 (by decide) (fun h hr => rd_cols hr setH_at hk) ?_
      refine wf_iload_n dX2_payWaitingOf_26 rfl ?_
      refine wf_gd (fun g27 => ?_)
      refine wf_collds dX2_payWaitingOf_27 setH_at hk (by decide) g27 ?_
      refine wf_gd (fun g28 => ?_)
      refine wf_aald_ord dX2_payWaitingOf_28 g28 (fun h hr => rd_ords hr setH_at hk) ?_
      refine wf_get dX2_payWaitingOf_29 f_RX2_133 (fun h hr => rd_ord hr setH_at hk (by omega)) ?_
      refine wf_iload_n dX2_payWaitingOf_32 rfl ?_
      refine wf_gd (fun g33 => ?_)
      refine wf_icmp_ne 41 dX2_payWaitingOf_33 g33.1 g33.2 (fun h33 => ?_) (fun h33 => ?_)
      · refine wf_iinc dX2_payWaitingOf_41 rfl ?_
        refine wf_goto 2 dX2_payWaitingOf_44 ?_
        exact wf_at (ih x1 (x2 + 1) _ _) ⟨rfl, rfl, rfl, trivial⟩
      · refine wf_aload_n dX2_payWaitingOf_36 rfl ?_
        refine wf_iload_n dX2_payWaitingOf_37 rfl ?_
        refine wf_cV (put := fun q => q) dX2_payWaitingOf_38 k_RX2_248 b_yX2_tryPayment x_yX2_tryPayment (pX2_tryPayment (n := n) hE (G := G) (k := k) hk x2 _ _) rfl (fun _ => rfl) (fun h hr => rd_h hr setH_at hk) rfl (fun r38 H38 ca => ?_)
        refine wf_iinc dX2_payWaitingOf_41 rfl ?_
        refine wf_goto 2 dX2_payWaitingOf_44 ?_
        exact wf_at (ih x1 (x2 + 1) _ _) ⟨rfl, rfl, rfl, trivial⟩
set_option maxRecDepth 100000 in
set_option maxHeartbeats 4000000 in
theorem pX2_payWaitingOf {E : wE} {n : Nat} (hE : wGE E) {G : gR} {k : Int} (hk : 0 ≤ k ∧ k < 11) (x1 : Int)  (H : hR) (ca : caT) : WF E (n + 3) yX2_payWaitingOf cX2_payWaitingOf 3 (none) vV (setH G k) ca 0 (wArgs [.ref (aH E k), .int (iI x1)]) [] H (fX2_payWaitingOf x1 H) := by
  unfold fX2_payWaitingOf
  refine wf_iconst dX2_payWaitingOf_0 ?_
  refine wf_istore_n dX2_payWaitingOf_1 ?_
  exact wf_at (pX2_payWaitingOf_b2 (n := n) hE hk  fuel0 x1 0 _ _) ⟨rfl, rfl, rfl, trivial⟩
set_option maxRecDepth 100000 in
set_option maxHeartbeats 4000000 in
theorem pX2_payWaiting_b48 {E : wE} {n : Nat} (hE : wGE E) {G : gR} {k : Int} (hk : 0 ≤ k ∧ k < 11) : ∀ (fuel : Nat) (x1 : Int) (x2 : Int)  (H : hR) (ca : caT), WF E (n + 4) yX2_payWaiting cX2_payWaiting 3 (none) vV (setH G k) ca 48 (wLs [some (.ref (aH E k)), some (.int (iI x1)), some (.int (iI x2))]) [] H (fX2_payWaiting_b48 fuel x1 x2 H) := by
  intro fuel
  induction fuel with
  | zero =>
    intro x1 x2 H ca
    exact wf_none
  | succ fuel ih =>
    intro x1 x2 H ca
    unfold fX2_payWaiting_b48
    refine wf_iload_n dX2_payWaiting_48 rfl ?_
    refine wf_gd (fun g49 => ?_)
    refine wf_if_lt 71 dX2_payWaiting_49 g49 (fun h49 => ?_) (fun h49 => ?_)
    · refine wf_aload_n dX2_payWaiting_71 rfl ?_
      refine wf_get dX2_payWaiting_72 f_RX2_33 (fun h hr => rd_h hr setH_at hk) ?_
      refine wf_cV (put := fun q => q) dX2_payWaiting_75 k_RX2_152 b_yX5_dropSettled x_yX5_dropSettled (pX5_dropSettled (n := n + 3) hE (G := G) (k := k) hk _ _) rfl (fun _ => rfl) (fun h hr => rd_wait hr setH_at hk) rfl (fun r75 H75 ca => ?_)
      exact wf_return dX2_payWaiting_78 rfl
    · refine wf_iload_n dX2_payWaiting_52 rfl ?_
      refine wf_iload_n dX2_payWaiting_53 rfl ?_
      refine wf_ishr dX2_payWaiting_54 ?_
      refine wf_iconst dX2_payWaiting_55 ?_
      refine wf_iand dX2_payWaiting_56 ?_
      refine wf_gd (fun g57 => ?_)
      refine wf_if_eq 65 dX2_payWaiting_57 g57 (fun h57 => ?_) (fun h57 => ?_)
      · refine wf_iinc dX2_payWaiting_65 rfl ?_
        refine wf_goto 48 dX2_payWaiting_68 ?_
        exact wf_at (ih x1 (x2 + (-1)) _ _) ⟨rfl, rfl, rfl, trivial⟩
      · refine wf_aload_n dX2_payWaiting_60 rfl ?_
        refine wf_iload_n dX2_payWaiting_61 rfl ?_
        refine wf_cV (put := fun q => q) dX2_payWaiting_62 k_RX2_245 b_yX2_payWaitingOf x_yX2_payWaitingOf (pX2_payWaitingOf (n := n) hE (G := G) (k := k) hk x2 _ _) rfl (fun _ => rfl) (fun h hr => rd_h hr setH_at hk) rfl (fun r62 H62 ca => ?_)
        refine wf_iinc dX2_payWaiting_65 rfl ?_
        refine wf_goto 48 dX2_payWaiting_68 ?_
        exact wf_at (ih x1 (x2 + (-1)) _ _) ⟨rfl, rfl, rfl, trivial⟩
set_option maxRecDepth 100000 in
set_option maxHeartbeats 4000000 in
theorem pX2_payWaiting_b4 {E : wE} {n : Nat} (hE : wGE E) {G : gR} {k : Int} (hk : 0 ≤ k ∧ k < 11) : ∀ (fuel : Nat) (x1 : Int) (x2 : Int)  (H : hR) (ca : caT), WF E (n + 4) yX2_payWaiting cX2_payWaiting 3 (none) vV (setH G k) ca 4 (wLs [some (.ref (aH E k)), some (.int (iI x1)), some (.int (iI x2))]) [] H (fX2_payWaiting_b4 fuel x1 x2 H) := by
  intro fuel
  induction fuel with
  | zero =>
    intro x1 x2 H ca
    exact wf_none
  | succ fuel ih =>
    intro x1 x2 H ca
    unfold fX2_payWaiting_b4
    refine wf_iload_n dX2_payWaiting_4 rfl ?_
    refine wf_aload_n dX2_payWaiting_5 rfl ?_
    refine wf_get dX2_payWaiting_6 f_RX2_33 (fun h hr => rd_h hr setH_at hk) ?_
    refine wf_get dX2_payWaiting_9 f_RX2_138 (fun h hr => rd_wait hr setH_at hk) ?_
    refine wf_gd (fun g12 => ?_)
    refine wf_icmp_ge 45 dX2_payWaiting_12 g12.1 g12.2 (fun h12 => ?_) (fun h12 => ?_)
    · refine wf_bipush dX2_payWaiting_45 ?_
      refine wf_istore_n dX2_payWaiting_47 ?_
      exact wf_at (pX2_payWaiting_b48 (n := n) hE hk  fuel0 x1 9 _ _) ⟨rfl, rfl, rfl, trivial⟩
    · refine wf_iload_n dX2_payWaiting_15 rfl ?_
      refine wf_iconst dX2_payWaiting_16 ?_
      refine wf_aload_n dX2_payWaiting_17 rfl ?_
      refine wf_get dX2_payWaiting_18 f_RX2_26 (fun h hr => rd_h hr setH_at hk) ?_
      refine wf_aload_n dX2_payWaiting_21 rfl ?_
      refine wf_get dX2_payWaiting_22 f_RX2_33 (fun h hr => rd_h hr setH_at hk) ?_
      refine wf_get dX2_payWaiting_25 f_RX2_141 (fun h hr => rd_wait hr setH_at hk) ?_
      refine wf_iconst dX2_payWaiting_28 ?_
      refine wf_aald_cols dX2_payWaiting_29 (by decide) (fun h hr => rd_cols hr setH_at hk) ?_
      refine wf_iload_n dX2_payWaiting_30 rfl ?_
      refine wf_gd (fun g31 => ?_)
      refine wf_collds dX2_payWaiting_31 setH_at hk (by decide) g31 ?_
      refine wf_gd (fun g32 => ?_)
      refine wf_aald_ord dX2_payWaiting_32 g32 (fun h hr => rd_ords hr setH_at hk) ?_
      refine wf_get dX2_payWaiting_33 f_RX2_133 (fun h hr => rd_ord hr setH_at hk (by omega)) ?_
      refine wf_ishl dX2_payWaiting_36 ?_
      refine wf_ior dX2_payWaiting_37 ?_
      refine wf_istore_n dX2_payWaiting_38 ?_
      refine wf_iinc dX2_payWaiting_39 rfl ?_
      refine wf_goto 4 dX2_payWaiting_42 ?_
      exact wf_at (ih (orI x1 (shlI 1 (H.1 3 (H.1 5 0 x2) 8))) (x2 + 1) _ _) ⟨rfl, rfl, rfl, trivial⟩
set_option maxRecDepth 100000 in
set_option maxHeartbeats 4000000 in
theorem pX2_payWaiting {E : wE} {n : Nat} (hE : wGE E) {G : gR} {k : Int} (hk : 0 ≤ k ∧ k < 11)   (H : hR) (ca : caT) : WF E (n + 4) yX2_payWaiting cX2_payWaiting 3 (none) vV (setH G k) ca 0 (wArgs [.ref (aH E k)]) [] H (fX2_payWaiting  H) := by
  unfold fX2_payWaiting
  refine wf_iconst dX2_payWaiting_0 ?_
  refine wf_istore_n dX2_payWaiting_1 ?_
  refine wf_iconst dX2_payWaiting_2 ?_
  refine wf_istore_n dX2_payWaiting_3 ?_
  exact wf_at (pX2_payWaiting_b4 (n := n) hE hk  fuel0 0 0 _ _) ⟨rfl, rfl, rfl, trivial⟩
set_option maxRecDepth 100000 in
set_option maxHeartbeats 4000000 in
theorem pX2_sweep_b2 {E : wE} {n : Nat} (hE : wGE E) {G : gR} {k : Int} (hk : 0 ≤ k ∧ k < 11) : ∀ (fuel : Nat) (x1 : Int)  (H : hR) (ca : caT), WF E (n + 1) yX2_sweep cX2_sweep 8 (none) vV (setH G k) ca 2 (wLs [some (.ref (aH E k)), some (.int (iI x1))]) [] H (fX2_sweep_b2 fuel x1 H) := by
  intro fuel
  induction fuel with
  | zero =>
    intro x1 H ca
    exact wf_none
  | succ fuel ih =>
    intro x1 H ca
    unfold fX2_sweep_b2
    refine wf_iload_n dX2_sweep_2 rfl ?_
    refine wf_aload_n dX2_sweep_3 rfl ?_
    refine wf_get dX2_sweep_4 f_RX2_53 (fun h hr => rd_h hr setH_at hk) ?_
    refine wf_gd (fun g7 => ?_)
    refine wf_icmp_ge 135 dX2_sweep_7 g7.1 g7.2 (fun h7 => ?_) (fun h7 => ?_)
    · exact wf_return dX2_sweep_135 rfl
    · refine wf_aload_n dX2_sweep_10 rfl ?_
      refine wf_get dX2_sweep_11 f_RX2_20 (fun h hr => rd_h hr setH_at hk) ?_
      refine wf_iload_n dX2_sweep_14 rfl ?_
      refine wf_gd (fun g15 => ?_)
      refine wf_aald_acc dX2_sweep_15 g15 (fun h hr => rd_accs hr setH_at hk) ?_
      refine wf_astore_n dX2_sweep_16 ?_
      refine wf_aload_n dX2_sweep_17 rfl ?_
      refine wf_aload_n dX2_sweep_18 rfl ?_
      refine wf_get dX2_sweep_19 f_RX2_101 (fun h hr => rd_acc hr setH_at hk (by omega)) ?_
      refine wf_rV dX2_sweep_22 k_RX2_97 b_yX2_hasAccount x_yX2_hasAccount (fun h hr => pX2_hasAccount (n := n) hE hr setH_at hk (H.1 2 x1 2)) (fun h hr => rd_h hr setH_at hk) rfl (fun r22 => ?_)
      refine wf_gd (fun g25 => ?_)
      refine wf_if_ne 31 dX2_sweep_25 g25 (fun h25 => ?_) (fun h25 => ?_)
      · refine wf_aload_n dX2_sweep_31 rfl ?_
        refine wf_get dX2_sweep_32 f_RX2_20 (fun h hr => rd_h hr setH_at hk) ?_
        refine wf_aload_n dX2_sweep_35 rfl ?_
        refine wf_get dX2_sweep_36 f_RX2_101 (fun h hr => rd_acc hr setH_at hk (by omega)) ?_
        refine wf_gd (fun g39 => ?_)
        refine wf_aald_acc dX2_sweep_39 g39 (fun h hr => rd_accs hr setH_at hk) ?_
        refine wf_astore_n dX2_sweep_40 ?_
        refine wf_aload_n dX2_sweep_41 rfl ?_
        refine wf_get dX2_sweep_42 f_RX2_224 (fun h hr => rd_acc hr setH_at hk (by omega)) ?_
        refine wf_aload_n dX2_sweep_45 rfl ?_
        refine wf_get dX2_sweep_46 f_RX2_105 (fun h hr => rd_acc hr setH_at hk (by omega)) ?_
        refine wf_lsub dX2_sweep_49 ?_
        refine wf_aload_n dX2_sweep_50 rfl ?_
        refine wf_get dX2_sweep_51 f_RX2_227 (fun h hr => rd_acc hr setH_at hk (by omega)) ?_
        refine wf_gd (fun g54 => ?_)
        refine wf_i2l dX2_sweep_54 g54 ?_
        refine wf_lsub dX2_sweep_55 ?_
        refine wf_lstore dX2_sweep_56 ?_
        refine wf_lload dX2_sweep_58 rfl ?_
        refine wf_aload_n dX2_sweep_60 rfl ?_
        refine wf_get dX2_sweep_61 f_RX2_105 (fun h hr => rd_acc hr setH_at hk (by omega)) ?_
        refine wf_aload_n dX2_sweep_64 rfl ?_
        refine wf_get dX2_sweep_65 f_RX2_230 (fun h hr => rd_acc hr setH_at hk (by omega)) ?_
        refine wf_gd (fun g68 => ?_)
        refine wf_i2l dX2_sweep_68 g68 ?_
        refine wf_lsub dX2_sweep_69 ?_
        refine wf_gd (fun g70 => ?_)
        refine wf_mminL dX2_sweep_70 k_RX2_233 g70.1 g70.2 ?_
        refine wf_lstore dX2_sweep_73 ?_
        refine wf_lload dX2_sweep_75 rfl ?_
        refine wf_lconst0 dX2_sweep_77 ?_
        refine wf_gd (fun g78 => ?_)
        refine wf_jcmp_gt 85 dX2_sweep_78 dX2_sweep_79 g78 (by decide) (fun h78 => ?_) (fun h78 => ?_)
        · refine wf_aload_n dX2_sweep_85 rfl ?_
          refine wf_dup dX2_sweep_86 ?_
          refine wf_get dX2_sweep_87 f_RX2_105 (fun h hr => rd_acc hr setH_at hk (by omega)) ?_
          refine wf_lload dX2_sweep_90 rfl ?_
          refine wf_lsub dX2_sweep_92 ?_
          refine wf_p_accl (f := 3) dX2_sweep_93 p_RX2_105 hk (by omega) (fun H93 => ?_)
          refine wf_aload_n dX2_sweep_96 rfl ?_
          refine wf_dup dX2_sweep_97 ?_
          refine wf_get dX2_sweep_98 f_RX2_239 (fun h hr => rd_acc hr setH_at hk (by omega)) ?_
          refine wf_lload dX2_sweep_101 rfl ?_
          refine wf_ladd dX2_sweep_103 ?_
          refine wf_p_accl (f := 8) dX2_sweep_104 p_RX2_239 hk (by omega) (fun H104 => ?_)
          refine wf_aload_n dX2_sweep_107 rfl ?_
          refine wf_dup dX2_sweep_108 ?_
          refine wf_get dX2_sweep_109 f_RX2_105 (fun h hr => rd_acc hr setH_at hk (by omega)) ?_
          refine wf_lload dX2_sweep_112 rfl ?_
          refine wf_ladd dX2_sweep_114 ?_
          refine wf_p_accl (f := 3) dX2_sweep_115 p_RX2_105 hk (by omega) (fun H115 => ?_)
          refine wf_aload_n dX2_sweep_118 rfl ?_
          refine wf_dup dX2_sweep_119 ?_
          refine wf_get dX2_sweep_120 f_RX2_242 (fun h hr => rd_acc hr setH_at hk (by omega)) ?_
          refine wf_lload dX2_sweep_123 rfl ?_
          refine wf_ladd dX2_sweep_125 ?_
          refine wf_p_accl (f := 7) dX2_sweep_126 p_RX2_242 hk (by omega) (fun H126 => ?_)
          refine wf_iinc dX2_sweep_129 rfl ?_
          refine wf_goto 2 dX2_sweep_132 ?_
          exact wf_at (ih (x1 + 1) _ _) ⟨rfl, rfl, trivial⟩
        · refine wf_goto 129 dX2_sweep_82 ?_
          refine wf_iinc dX2_sweep_129 rfl ?_
          refine wf_goto 2 dX2_sweep_132 ?_
          exact wf_at (ih (x1 + 1) _ _) ⟨rfl, rfl, trivial⟩
      · refine wf_goto 129 dX2_sweep_28 ?_
        refine wf_iinc dX2_sweep_129 rfl ?_
        refine wf_goto 2 dX2_sweep_132 ?_
        exact wf_at (ih (x1 + 1) _ _) ⟨rfl, rfl, trivial⟩
set_option maxRecDepth 100000 in
set_option maxHeartbeats 4000000 in
theorem pX2_sweep {E : wE} {n : Nat} (hE : wGE E) {G : gR} {k : Int} (hk : 0 ≤ k ∧ k < 11)   (H : hR) (ca : caT) : WF E (n + 1) yX2_sweep cX2_sweep 8 (none) vV (setH G k) ca 0 (wArgs [.ref (aH E k)]) [] H (fX2_sweep  H) := by
  unfold fX2_sweep
  refine wf_iconst dX2_sweep_0 ?_
  refine wf_istore_n dX2_sweep_1 ?_
  exact wf_at (pX2_sweep_b2 (n := n) hE hk  fuel0 0 _ _) ⟨rfl, rfl, trivial⟩
set_option maxRecDepth 100000 in
set_option maxHeartbeats 4000000 in
theorem pX2_passDays_b77 {E : wE} {n : Nat} (hE : wGE E) {G : gR} {k : Int} (hk : 0 ≤ k ∧ k < 11) {rec31 : Int → Int → Int → hR → Option (Int × hR)} (hrec31 : ∀ (x1 : Int) (x2 : Int) (x3 : Int)  (H : hR) (ca : caT), WF E (n + 7) yX2_passDays cX2_passDays 4 (some .int) vI (setH G k) ca 31 (wLs [some (.ref (aH E k)), some (.int (iI x1)), some (.int (iI x2)), some (.int (iI x3))]) [] H (rec31 x1 x2 x3 H)) (x1 : Int) (x2 : Int) (x3 : Int)  (H : hR) (ca : caT) : WF E (n + 7) yX2_passDays cX2_passDays 4 (some .int) vI (setH G k) ca 77 (wLs [some (.ref (aH E k)), some (.int (iI x1)), some (.int (iI x2)), some (.int (iI x3))]) [] H (fX2_passDays_b77 rec31 x1 x2 x3 H) := by
  unfold fX2_passDays_b77
  refine wf_aload_n dX2_passDays_77 rfl ?_
  refine wf_cV (put := fun q => q) dX2_passDays_78 k_RX2_185 b_yX2_chargeInterest x_yX2_chargeInterest (pX2_chargeInterest (n := n + 5) hE (G := G) (k := k) hk _ _) rfl (fun _ => rfl) (fun h hr => rd_h hr setH_at hk) rfl (fun r78 H78 ca => ?_)
  refine wf_aload_n dX2_passDays_81 rfl ?_
  refine wf_dup dX2_passDays_82 ?_
  refine wf_get dX2_passDays_83 f_RX2_68 (fun h hr => rd_h hr setH_at hk) ?_
  refine wf_iconst dX2_passDays_86 ?_
  refine wf_iadd dX2_passDays_87 ?_
  refine wf_p_h (f := 6) dX2_passDays_88 p_RX2_68 hk (fun H88 => ?_)
  refine wf_aload_n dX2_passDays_91 rfl ?_
  refine wf_get dX2_passDays_92 f_RX2_170 (fun h hr => rd_h hr setH_at hk) ?_
  refine wf_iload_n dX2_passDays_95 rfl ?_
  refine wf_iand dX2_passDays_96 ?_
  refine wf_gd (fun g97 => ?_)
  refine wf_if_eq 107 dX2_passDays_97 g97 (fun h97 => ?_) (fun h97 => ?_)
  · refine wf_iinc dX2_passDays_107 rfl ?_
    refine wf_goto 31 dX2_passDays_110 ?_
    exact wf_at (hrec31 x1 x2 (x3 + 1) _ _) ⟨rfl, rfl, rfl, rfl, trivial⟩
  · refine wf_aload_n dX2_passDays_100 rfl ?_
    refine wf_get dX2_passDays_101 f_RX2_68 (fun h hr => rd_h hr setH_at hk) ?_
    refine wf_iconst dX2_passDays_104 ?_
    refine wf_isub dX2_passDays_105 ?_
    exact wf_ireturn dX2_passDays_106 ⟨_, rfl, rfl⟩
set_option maxRecDepth 100000 in
set_option maxHeartbeats 4000000 in
theorem pX2_passDays_b31 {E : wE} {n : Nat} (hE : wGE E) {G : gR} {k : Int} (hk : 0 ≤ k ∧ k < 11) : ∀ (fuel : Nat) (x1 : Int) (x2 : Int) (x3 : Int)  (H : hR) (ca : caT), WF E (n + 7) yX2_passDays cX2_passDays 4 (some .int) vI (setH G k) ca 31 (wLs [some (.ref (aH E k)), some (.int (iI x1)), some (.int (iI x2)), some (.int (iI x3))]) [] H (fX2_passDays_b31 fuel x1 x2 x3 H) := by
  intro fuel
  induction fuel with
  | zero =>
    intro x1 x2 x3 H ca
    exact wf_none
  | succ fuel ih =>
    intro x1 x2 x3 H ca
    unfold fX2_passDays_b31
    refine wf_iload_n dX2_passDays_31 rfl ?_
    refine wf_iload_n dX2_passDays_32 rfl ?_
    refine wf_gd (fun g33 => ?_)
    refine wf_icmp_ge 113 dX2_passDays_33 g33.1 g33.2 (fun h33 => ?_) (fun h33 => ?_)
    · refine wf_bipush dX2_passDays_113 ?_
      exact wf_ireturn dX2_passDays_115 ⟨_, rfl, rfl⟩
    · refine wf_aload_n dX2_passDays_36 rfl ?_
      refine wf_get dX2_passDays_37 f_RX2_68 (fun h hr => rd_h hr setH_at hk) ?_
      refine wf_sipush dX2_passDays_40 ?_
      refine wf_gd (fun g43 => ?_)
      refine wf_icmp_ge 113 dX2_passDays_43 g43 (by decide) (fun h43 => ?_) (fun h43 => ?_)
      · refine wf_bipush dX2_passDays_113 ?_
        exact wf_ireturn dX2_passDays_115 ⟨_, rfl, rfl⟩
      · refine wf_aload_n dX2_passDays_46 rfl ?_
        refine wf_iconst dX2_passDays_47 ?_
        refine wf_p_h (f := 11) dX2_passDays_48 p_RX2_170 hk (fun H48 => ?_)
        refine wf_aload_n dX2_passDays_51 rfl ?_
        refine wf_cV (put := fun q => q) dX2_passDays_52 k_RX2_173 b_yX2_makePaymentsDue x_yX2_makePaymentsDue (pX2_makePaymentsDue (n := n) hE (G := G) (k := k) hk _ _) rfl (fun _ => rfl) (fun h hr => rd_h hr setH_at hk) rfl (fun r52 H52 ca => ?_)
        refine wf_aload_n dX2_passDays_55 rfl ?_
        refine wf_cV (put := fun q => q) dX2_passDays_56 k_RX2_176 b_yX2_sweep x_yX2_sweep (pX2_sweep (n := n + 5) hE (G := G) (k := k) hk _ _) rfl (fun _ => rfl) (fun h hr => rd_h hr setH_at hk) rfl (fun r56 H56 ca => ?_)
        refine wf_aload_n dX2_passDays_59 rfl ?_
        refine wf_get dX2_passDays_60 f_RX2_12 (fun h hr => rd_h hr setH_at hk) ?_
        refine wf_aload_n dX2_passDays_63 rfl ?_
        refine wf_get dX2_passDays_64 f_RX2_68 (fun h hr => rd_h hr setH_at hk) ?_
        refine wf_rV dX2_passDays_67 k_RX2_179 b_yX1_isBusiness x_yX1_isBusiness (fun h hr => pX1_isBusiness (n := n + 6) hE hr setH_at hk (H56.1 0 6 0)) (fun h hr => rd_cal hr setH_at hk) rfl (fun r67 => ?_)
        refine wf_gd (fun g70 => ?_)
        refine wf_if_eq 77 dX2_passDays_70 g70 (fun h70 => ?_) (fun h70 => ?_)
        · exact wf_at (pX2_passDays_b77 (n := n) hE hk ih x1 x2 x3 _ _) ⟨rfl, rfl, rfl, rfl, trivial⟩
        · refine wf_aload_n dX2_passDays_73 rfl ?_
          refine wf_cV (put := fun q => q) dX2_passDays_74 k_RX2_182 b_yX2_payWaiting x_yX2_payWaiting (pX2_payWaiting (n := n + 2) hE (G := G) (k := k) hk _ _) rfl (fun _ => rfl) (fun h hr => rd_h hr setH_at hk) rfl (fun r74 H74 ca => ?_)
          exact wf_at (pX2_passDays_b77 (n := n) hE hk ih x1 x2 x3 _ _) ⟨rfl, rfl, rfl, rfl, trivial⟩
set_option maxRecDepth 100000 in
set_option maxHeartbeats 4000000 in
theorem pX2_passDays_b2 {E : wE} {n : Nat} (hE : wGE E) {G : gR} {k : Int} (hk : 0 ≤ k ∧ k < 11) : ∀ (fuel : Nat) (x1 : Int) (x2 : Int) (x3 : Int)  (H : hR) (ca : caT), WF E (n + 7) yX2_passDays cX2_passDays 4 (some .int) vI (setH G k) ca 2 (wLs [some (.ref (aH E k)), some (.int (iI x1)), some (.int (iI x2)), some (.int (iI x3))]) [] H (fX2_passDays_b2 fuel x1 x2 x3 H) := by
  intro fuel
  induction fuel with
  | zero =>
    intro x1 x2 x3 H ca
    exact wf_none
  | succ fuel ih =>
    intro x1 x2 x3 H ca
    unfold fX2_passDays_b2
    refine wf_iload_n dX2_passDays_2 rfl ?_
    refine wf_aload_n dX2_passDays_3 rfl ?_
    refine wf_get dX2_passDays_4 f_RX2_59 (fun h hr => rd_h hr setH_at hk) ?_
    refine wf_gd (fun g7 => ?_)
    refine wf_icmp_ge 29 dX2_passDays_7 g7.1 g7.2 (fun h7 => ?_) (fun h7 => ?_)
    · refine wf_iconst dX2_passDays_29 ?_
      refine wf_istore_n dX2_passDays_30 ?_
      exact wf_at (pX2_passDays_b31 (n := n) hE hk  fuel0 x1 x2 0 _ _) ⟨rfl, rfl, rfl, rfl, trivial⟩
    · refine wf_aload_n dX2_passDays_10 rfl ?_
      refine wf_get dX2_passDays_11 f_RX2_26 (fun h hr => rd_h hr setH_at hk) ?_
      refine wf_iload_n dX2_passDays_14 rfl ?_
      refine wf_gd (fun g15 => ?_)
      refine wf_aald_ord dX2_passDays_15 g15 (fun h hr => rd_ords hr setH_at hk) ?_
      refine wf_aload_n dX2_passDays_16 rfl ?_
      refine wf_get dX2_passDays_17 f_RX2_12 (fun h hr => rd_h hr setH_at hk) ?_
      refine wf_cV (put := fun q => q) dX2_passDays_20 k_RX2_155 b_yX3_aim x_yX3_aim (pX3_aim (n := n + 3) hE (G := G) (k := k) hk x3 (by omega) _ _) rfl (fun _ => rfl) (fun h hr => rd_ord hr setH_at hk (by omega)) rfl (fun r20 H20 ca => ?_)
      refine wf_iinc dX2_passDays_23 rfl ?_
      refine wf_goto 2 dX2_passDays_26 ?_
      exact wf_at (ih x1 x2 (x3 + 1) _ _) ⟨rfl, rfl, rfl, rfl, trivial⟩
set_option maxRecDepth 100000 in
set_option maxHeartbeats 4000000 in
theorem pX2_passDays {E : wE} {n : Nat} (hE : wGE E) {G : gR} {k : Int} (hk : 0 ≤ k ∧ k < 11) (x1 : Int) (x2 : Int)  (H : hR) (ca : caT) : WF E (n + 7) yX2_passDays cX2_passDays 4 (some .int) vI (setH G k) ca 0 (wArgs [.ref (aH E k), .int (iI x1), .int (iI x2)]) [] H (fX2_passDays x1 x2 H) := by
  unfold fX2_passDays
  refine wf_iconst dX2_passDays_0 ?_
  refine wf_istore_n dX2_passDays_1 ?_
  exact wf_at (pX2_passDays_b2 (n := n) hE hk  fuel0 x1 x2 0 _ _) ⟨rfl, rfl, rfl, rfl, trivial⟩
set_option maxRecDepth 100000 in
set_option maxHeartbeats 4000000 in
theorem pX6_ahead {E : wE} {n : Nat} (hE : wGE E) {M : mR} (x1 : Int) (x2 : Int) (x3 : Int)  (c : cR) (ca : caT) : WF E (n + 8) yX6_ahead cX6_ahead 6 (some .int) vI (fun c : cR => (c, M)) ca 0 (wArgs [.ref (aTop E), .int (iI x1), .int (iI x2), .int (iI x3)]) [] c (fX6_ahead x1 x2 x3 c) := by
  unfold fX6_ahead
  refine wf_aload_n dX6_ahead_0 rfl ?_
  refine wf_get dX6_ahead_1 f_RX6_12 (fun h hr => rd_top hr) ?_
  refine wf_iload_n dX6_ahead_4 rfl ?_
  refine wf_rV dX6_ahead_5 k_RX6_124 b_yX2_hasOrder x_yX2_hasOrder (fun h hr => pX2_hasOrder (n := n + 7) hE hr rfl (by omega) x1) (fun h hr => rd_h hr rfl (by omega)) rfl (fun r5 => ?_)
  refine wf_gd (fun g8 => ?_)
  refine wf_if_ne 13 dX6_ahead_8 g8 (fun h8 => ?_) (fun h8 => ?_)
  · refine wf_iload_n dX6_ahead_13 rfl ?_
    refine wf_iconst dX6_ahead_14 ?_
    refine wf_sipush dX6_ahead_15 ?_
    refine wf_rS dX6_ahead_18 k_RX6_93 b_yX6_isBetween x_yX6_isBetween (fun h hr => pX6_isBetween (n := n + 7) hE x2 1 400) (fun r18 => ?_)
    refine wf_gd (fun g21 => ?_)
    refine wf_if_eq 33 dX6_ahead_21 g21 (fun h21 => ?_) (fun h21 => ?_)
    · refine wf_bipush dX6_ahead_33 ?_
      exact wf_ireturn dX6_ahead_35 ⟨_, rfl, rfl⟩
    · refine wf_iload_n dX6_ahead_24 rfl ?_
      refine wf_iconst dX6_ahead_25 ?_
      refine wf_iconst dX6_ahead_26 ?_
      refine wf_rS dX6_ahead_27 k_RX6_93 b_yX6_isBetween x_yX6_isBetween (fun h hr => pX6_isBetween (n := n + 7) hE x3 0 3) (fun r27 => ?_)
      refine wf_gd (fun g30 => ?_)
      refine wf_if_ne 36 dX6_ahead_30 g30 (fun h30 => ?_) (fun h30 => ?_)
      · refine wf_aload_n dX6_ahead_36 rfl ?_
        refine wf_get dX6_ahead_37 f_RX6_16 (fun h hr => rd_top hr) ?_
        refine wf_aload_n dX6_ahead_40 rfl ?_
        refine wf_get dX6_ahead_41 f_RX6_12 (fun h hr => rd_top hr) ?_
        refine wf_cV (put := cH c 1) dX6_ahead_44 k_RX6_167 b_yX2_copyFrom x_yX2_copyFrom (pX2_copyFrom (n := n + 2) hE (G := (c, M)) (k := 1) (by omega) (k2 := 0) (by omega) (by omega) rfl _ _) setH_self (fun _ => rfl) (fun h hr => rd_h hr rfl (by omega)) rfl (fun r44 t44 ca => ?_)
        refine wf_bnd (fun c44 => ?_)
        refine wf_aload_n dX6_ahead_47 rfl ?_
        refine wf_get dX6_ahead_48 f_RX6_16 (fun h hr => rd_top hr) ?_
        refine wf_iload_n dX6_ahead_51 rfl ?_
        refine wf_iconst dX6_ahead_52 ?_
        refine wf_cV (put := cH c44 1) dX6_ahead_53 k_RX6_86 b_yX2_passDays x_yX2_passDays (pX2_passDays (n := n) hE (G := (c44, M)) (k := 1) (by omega) x2 0 _ _) setH_self (fun _ => rfl) (fun h hr => rd_h hr rfl (by omega)) rfl (fun r53 t53 ca => ?_)
        refine wf_bnd (fun c53 => ?_)
        refine wf_pop dX6_ahead_56 ?_
        refine wf_aload_n dX6_ahead_57 rfl ?_
        refine wf_get dX6_ahead_58 f_RX6_12 (fun h hr => rd_top hr) ?_
        refine wf_get dX6_ahead_61 f_RX6_130 (fun h hr => rd_h hr rfl (by omega)) ?_
        refine wf_iload_n dX6_ahead_64 rfl ?_
        refine wf_gd (fun g65 => ?_)
        refine wf_aald_ord dX6_ahead_65 g65 (fun h hr => rd_ords hr rfl (by omega)) ?_
        refine wf_astore dX6_ahead_66 ?_
        refine wf_aload_n dX6_ahead_68 rfl ?_
        refine wf_get dX6_ahead_69 f_RX6_16 (fun h hr => rd_top hr) ?_
        refine wf_get dX6_ahead_72 f_RX6_130 (fun h hr => rd_h hr rfl (by omega)) ?_
        refine wf_iload_n dX6_ahead_75 rfl ?_
        refine wf_gd (fun g76 => ?_)
        refine wf_aald_ord dX6_ahead_76 g76 (fun h hr => rd_ords hr rfl (by omega)) ?_
        refine wf_astore dX6_ahead_77 ?_
        refine wf_iload_n dX6_ahead_79 rfl ?_
        refine wf_gd (fun g80 => ?_)
        refine wf_ite (fun e80_0 => ?_) (fun e80_0 => ?_)
        · refine wf_tsK 0 108 dX6_ahead_80 e80_0 ?_
          refine wf_aload dX6_ahead_108 rfl ?_
          refine wf_get dX6_ahead_110 f_RX6_176 (fun h hr => rd_ord hr rfl (by omega) (by omega)) ?_
          refine wf_aload dX6_ahead_113 rfl ?_
          refine wf_get dX6_ahead_115 f_RX6_176 (fun h hr => rd_ord hr rfl (by omega) (by omega)) ?_
          refine wf_isub dX6_ahead_118 ?_
          exact wf_ireturn dX6_ahead_119 ⟨_, rfl, rfl⟩
        refine wf_ite (fun e80_1 => ?_) (fun e80_1 => ?_)
        · refine wf_tsK 1 120 dX6_ahead_80 e80_1 ?_
          refine wf_aload dX6_ahead_120 rfl ?_
          refine wf_get dX6_ahead_122 f_RX6_179 (fun h hr => rd_ord hr rfl (by omega) (by omega)) ?_
          refine wf_aload dX6_ahead_125 rfl ?_
          refine wf_get dX6_ahead_127 f_RX6_179 (fun h hr => rd_ord hr rfl (by omega) (by omega)) ?_
          refine wf_isub dX6_ahead_130 ?_
          exact wf_ireturn dX6_ahead_131 ⟨_, rfl, rfl⟩
        refine wf_ite (fun e80_2 => ?_) (fun e80_2 => ?_)
        · refine wf_tsK 2 132 dX6_ahead_80 e80_2 ?_
          refine wf_aload dX6_ahead_132 rfl ?_
          refine wf_get dX6_ahead_134 f_RX6_182 (fun h hr => rd_ord hr rfl (by omega) (by omega)) ?_
          refine wf_aload dX6_ahead_137 rfl ?_
          refine wf_get dX6_ahead_139 f_RX6_182 (fun h hr => rd_ord hr rfl (by omega) (by omega)) ?_
          refine wf_isub dX6_ahead_142 ?_
          exact wf_ireturn dX6_ahead_143 ⟨_, rfl, rfl⟩
        refine wf_tsOut (z := x3) 144 dX6_ahead_80 g80 (by omega) ?_
        refine wf_aload dX6_ahead_144 rfl ?_
        refine wf_get dX6_ahead_146 f_RX6_185 (fun h hr => rd_ord hr rfl (by omega) (by omega)) ?_
        exact wf_ireturn dX6_ahead_149 ⟨_, rfl, rfl⟩
      · refine wf_bipush dX6_ahead_33 ?_
        exact wf_ireturn dX6_ahead_35 ⟨_, rfl, rfl⟩
  · refine wf_iconst dX6_ahead_11 ?_
    exact wf_ireturn dX6_ahead_12 ⟨_, rfl, rfl⟩
set_option maxRecDepth 100000 in
set_option maxHeartbeats 4000000 in
theorem pX6_balanceIn {E : wE} {n : Nat} (hE : wGE E) {M : mR} (x1 : Int) (x2 : Int)  (c : cR) (ca : caT) : WF E (n + 8) yX6_balanceIn cX6_balanceIn 3 (some .long) vJ (fun c : cR => (c, M)) ca 0 (wArgs [.ref (aTop E), .int (iI x1), .int (iI x2)]) [] c (fX6_balanceIn x1 x2 c) := by
  unfold fX6_balanceIn
  refine wf_aload_n dX6_balanceIn_0 rfl ?_
  refine wf_get dX6_balanceIn_1 f_RX6_12 (fun h hr => rd_top hr) ?_
  refine wf_iload_n dX6_balanceIn_4 rfl ?_
  refine wf_rV dX6_balanceIn_5 k_RX6_100 b_yX2_hasAccount x_yX2_hasAccount (fun h hr => pX2_hasAccount (n := n + 7) hE hr rfl (by omega) x1) (fun h hr => rd_h hr rfl (by omega)) rfl (fun r5 => ?_)
  refine wf_gd (fun g8 => ?_)
  refine wf_if_ne 15 dX6_balanceIn_8 g8 (fun h8 => ?_) (fun h8 => ?_)
  · refine wf_iload_n dX6_balanceIn_15 rfl ?_
    refine wf_iconst dX6_balanceIn_16 ?_
    refine wf_sipush dX6_balanceIn_17 ?_
    refine wf_rS dX6_balanceIn_20 k_RX6_93 b_yX6_isBetween x_yX6_isBetween (fun h hr => pX6_isBetween (n := n + 7) hE x2 1 400) (fun r20 => ?_)
    refine wf_gd (fun g23 => ?_)
    refine wf_if_ne 30 dX6_balanceIn_23 g23 (fun h23 => ?_) (fun h23 => ?_)
    · refine wf_aload_n dX6_balanceIn_30 rfl ?_
      refine wf_get dX6_balanceIn_31 f_RX6_16 (fun h hr => rd_top hr) ?_
      refine wf_aload_n dX6_balanceIn_34 rfl ?_
      refine wf_get dX6_balanceIn_35 f_RX6_12 (fun h hr => rd_top hr) ?_
      refine wf_cV (put := cH c 1) dX6_balanceIn_38 k_RX6_167 b_yX2_copyFrom x_yX2_copyFrom (pX2_copyFrom (n := n + 2) hE (G := (c, M)) (k := 1) (by omega) (k2 := 0) (by omega) (by omega) rfl _ _) setH_self (fun _ => rfl) (fun h hr => rd_h hr rfl (by omega)) rfl (fun r38 t38 ca => ?_)
      refine wf_bnd (fun c38 => ?_)
      refine wf_aload_n dX6_balanceIn_41 rfl ?_
      refine wf_get dX6_balanceIn_42 f_RX6_16 (fun h hr => rd_top hr) ?_
      refine wf_iload_n dX6_balanceIn_45 rfl ?_
      refine wf_iconst dX6_balanceIn_46 ?_
      refine wf_cV (put := cH c38 1) dX6_balanceIn_47 k_RX6_86 b_yX2_passDays x_yX2_passDays (pX2_passDays (n := n) hE (G := (c38, M)) (k := 1) (by omega) x2 0 _ _) setH_self (fun _ => rfl) (fun h hr => rd_h hr rfl (by omega)) rfl (fun r47 t47 ca => ?_)
      refine wf_bnd (fun c47 => ?_)
      refine wf_pop dX6_balanceIn_50 ?_
      refine wf_aload_n dX6_balanceIn_51 rfl ?_
      refine wf_get dX6_balanceIn_52 f_RX6_16 (fun h hr => rd_top hr) ?_
      refine wf_get dX6_balanceIn_55 f_RX6_106 (fun h hr => rd_h hr rfl (by omega)) ?_
      refine wf_iload_n dX6_balanceIn_58 rfl ?_
      refine wf_gd (fun g59 => ?_)
      refine wf_aald_acc dX6_balanceIn_59 g59 (fun h hr => rd_accs hr rfl (by omega)) ?_
      refine wf_get dX6_balanceIn_60 f_RX6_171 (fun h hr => rd_acc hr rfl (by omega) (by omega)) ?_
      exact wf_lreturn dX6_balanceIn_63 rfl
    · refine wf_ldc2 dX6_balanceIn_26 c_RX6_165 ?_
      exact wf_lreturn dX6_balanceIn_29 rfl
  · refine wf_ldc2 dX6_balanceIn_11 c_RX6_104 ?_
    exact wf_lreturn dX6_balanceIn_14 rfl

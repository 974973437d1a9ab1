/-! ===== the methods meet their functions (by program: wip/p33/gen.py) ===== -/
set_option maxRecDepth 100000 in
set_option maxHeartbeats 4000000 in
theorem pX6_leastDeposit_b28 {E : wE} {n : Nat} (hE : wGE E) {M : mR} : ∀ (fuel : Nat) (x1 : Int) (x2 : Int) (x3 : Int)  (c : cR) (ca : caT), WF E (n + 8) yX6_leastDeposit cX6_leastDeposit 4 (some .int) vI (fun c : cR => (c, M)) ca 28 (wLs [some (.ref (aTop E)), some (.int (iI x1)), some (.int (iI x2)), some (.int (iI x3))]) [] c (fX6_leastDeposit_b28 fuel x1 x2 x3 c) := by
  intro fuel
  induction fuel with
  | zero =>
    intro x1 x2 x3 c ca
    exact wf_none
  | succ fuel ih =>
    intro x1 x2 x3 c ca
    unfold fX6_leastDeposit_b28
    refine wf_iload_n dX6_leastDeposit_28 rfl ?_
    refine wf_ldc dX6_leastDeposit_29 c_RX6_175 ?_
    refine wf_gd (fun g31 => ?_)
    refine wf_icmp_gt 91 dX6_leastDeposit_31 g31 (by decide) (fun h31 => ?_) (fun h31 => ?_)
    · refine wf_bipush dX6_leastDeposit_91 ?_
      exact wf_ireturn dX6_leastDeposit_93 ⟨_, rfl, rfl⟩
    · refine wf_aload_n dX6_leastDeposit_34 rfl ?_
      refine wf_get dX6_leastDeposit_35 f_RX6_16 (fun h hr => rd_top hr) ?_
      refine wf_aload_n dX6_leastDeposit_38 rfl ?_
      refine wf_get dX6_leastDeposit_39 f_RX6_12 (fun h hr => rd_top hr) ?_
      refine wf_cV (put := cH c 1) dX6_leastDeposit_42 k_RX6_167 b_yX2_copyFrom x_yX2_copyFrom (pX2_copyFrom (n := n + 2) hE (G := (c, M)) (k := 1) (by omega) (k2 := 0) (by omega) (by omega) rfl _ _) setH_self (fun _ => rfl) (fun h hr => rd_h hr rfl (by omega)) rfl (fun r42 t42 ca => ?_)
      refine wf_bnd (fun c42 => ?_)
      refine wf_aload_n dX6_leastDeposit_45 rfl ?_
      refine wf_get dX6_leastDeposit_46 f_RX6_16 (fun h hr => rd_top hr) ?_
      refine wf_get dX6_leastDeposit_49 f_RX6_106 (fun h hr => rd_h hr rfl (by omega)) ?_
      refine wf_iload_n dX6_leastDeposit_52 rfl ?_
      refine wf_gd (fun g53 => ?_)
      refine wf_aald_acc dX6_leastDeposit_53 g53 (fun h hr => rd_accs hr rfl (by omega)) ?_
      refine wf_dup dX6_leastDeposit_54 ?_
      refine wf_get dX6_leastDeposit_55 f_RX6_171 (fun h hr => rd_acc hr rfl (by omega) (by omega)) ?_
      refine wf_iload_n dX6_leastDeposit_58 rfl ?_
      refine wf_gd (fun g59 => ?_)
      refine wf_i2l dX6_leastDeposit_59 g59 ?_
      refine wf_ladd dX6_leastDeposit_60 ?_
      refine wf_pc_accl (f := 3) dX6_leastDeposit_61 p_RX6_171 (by omega) (by omega) (fun c61 => ?_)
      refine wf_aload_n dX6_leastDeposit_64 rfl ?_
      refine wf_get dX6_leastDeposit_65 f_RX6_16 (fun h hr => rd_top hr) ?_
      refine wf_iload_n dX6_leastDeposit_68 rfl ?_
      refine wf_iconst dX6_leastDeposit_69 ?_
      refine wf_iload_n dX6_leastDeposit_70 rfl ?_
      refine wf_ishl dX6_leastDeposit_71 ?_
      refine wf_cV (put := cH c61 1) dX6_leastDeposit_72 k_RX6_86 b_yX2_passDays x_yX2_passDays (pX2_passDays (n := n) hE (G := (c61, M)) (k := 1) (by omega) x2 (shlI 1 x1) _ _) setH_self (fun _ => rfl) (fun h hr => rd_h hr rfl (by omega)) rfl (fun r72 t72 ca => ?_)
      refine wf_bnd (fun c72 => ?_)
      refine wf_bipush dX6_leastDeposit_75 ?_
      refine wf_gd (fun g77 => ?_)
      refine wf_icmp_ne 82 dX6_leastDeposit_77 g77 (by decide) (fun h77 => ?_) (fun h77 => ?_)
      · refine wf_iincW dX6_leastDeposit_82 rfl ?_
        refine wf_goto 28 dX6_leastDeposit_88 ?_
        exact wf_at (ih x1 x2 (x3 + 5000) _ _) ⟨rfl, rfl, rfl, rfl, trivial⟩
      · refine wf_iload_n dX6_leastDeposit_80 rfl ?_
        exact wf_ireturn dX6_leastDeposit_81 ⟨_, rfl, rfl⟩
set_option maxRecDepth 100000 in
set_option maxHeartbeats 4000000 in
theorem pX6_leastDeposit {E : wE} {n : Nat} (hE : wGE E) {M : mR} (x1 : Int) (x2 : Int)  (c : cR) (ca : caT) : WF E (n + 8) yX6_leastDeposit cX6_leastDeposit 4 (some .int) vI (fun c : cR => (c, M)) ca 0 (wArgs [.ref (aTop E), .int (iI x1), .int (iI x2)]) [] c (fX6_leastDeposit x1 x2 c) := by
  unfold fX6_leastDeposit
  refine wf_aload_n dX6_leastDeposit_0 rfl ?_
  refine wf_get dX6_leastDeposit_1 f_RX6_12 (fun h hr => rd_top hr) ?_
  refine wf_iload_n dX6_leastDeposit_4 rfl ?_
  refine wf_rV dX6_leastDeposit_5 k_RX6_100 b_yX2_hasAccount x_yX2_hasAccount (fun h hr => pX2_hasAccount (n := n + 7) hE hr rfl (by omega) x1) (fun h hr => rd_h hr rfl (by omega)) rfl (fun r5 => ?_)
  refine wf_gd (fun g8 => ?_)
  refine wf_if_ne 13 dX6_leastDeposit_8 g8 (fun h8 => ?_) (fun h8 => ?_)
  · refine wf_iload_n dX6_leastDeposit_13 rfl ?_
    refine wf_iconst dX6_leastDeposit_14 ?_
    refine wf_bipush dX6_leastDeposit_15 ?_
    refine wf_rS dX6_leastDeposit_17 k_RX6_93 b_yX6_isBetween x_yX6_isBetween (fun h hr => pX6_isBetween (n := n + 7) hE x2 1 100) (fun r17 => ?_)
    refine wf_gd (fun g20 => ?_)
    refine wf_if_ne 26 dX6_leastDeposit_20 g20 (fun h20 => ?_) (fun h20 => ?_)
    · refine wf_iconst dX6_leastDeposit_26 ?_
      refine wf_istore_n dX6_leastDeposit_27 ?_
      exact wf_at (pX6_leastDeposit_b28 (n := n) hE  fuel0 x1 x2 0 _ _) ⟨rfl, rfl, rfl, rfl, trivial⟩
    · refine wf_bipush dX6_leastDeposit_23 ?_
      exact wf_ireturn dX6_leastDeposit_25 ⟨_, rfl, rfl⟩
  · refine wf_iconst dX6_leastDeposit_11 ?_
    exact wf_ireturn dX6_leastDeposit_12 ⟨_, rfl, rfl⟩
set_option maxRecDepth 100000 in
set_option maxHeartbeats 4000000 in
theorem pX2_errorOfDays {E : wE} {n : Nat} (hE : wGE E) {G : gR} {H : hR} {ca : caT} {h : hW} {k : Int} (hr : rep E G ca h) (hH : G.1.1 k = H) (hk : 0 ≤ k ∧ k < 11) (x1 : Int)  : WR E (n + 1) yX2_errorOfDays cX2_errorOfDays 2 (some .int) vI h 0 (wArgs [.ref (aH E k), .int (iI x1)]) [] (fX2_errorOfDays x1 H) := by
  unfold fX2_errorOfDays
  refine wr_iload_n dX2_errorOfDays_0 rfl ?_
  refine wr_iconst dX2_errorOfDays_1 ?_
  refine wr_sipush dX2_errorOfDays_2 ?_
  refine wr_cSN dX2_errorOfDays_5 k_RX2_77 b_yX6_isBetween x_yX6_isBetween (pX6_isBetween (n := n) hE x1 1 400) (fun r5 => ?_)
  refine wr_gd (fun g8 => ?_)
  refine wr_if_ne 14 dX2_errorOfDays_8 g8 (fun h8 => ?_) (fun h8 => ?_)
  · refine wr_aload_n dX2_errorOfDays_14 rfl ?_
    refine wr_get dX2_errorOfDays_15 f_RX2_68 (rd_h hr hH hk) ?_
    refine wr_iload_n dX2_errorOfDays_18 rfl ?_
    refine wr_iadd dX2_errorOfDays_19 ?_
    refine wr_sipush dX2_errorOfDays_20 ?_
    refine wr_gd (fun g23 => ?_)
    refine wr_icmp_le 31 dX2_errorOfDays_23 g23 (by decide) (fun h23 => ?_) (fun h23 => ?_)
    · refine wr_iconst dX2_errorOfDays_31 ?_
      exact wr_ireturn dX2_errorOfDays_32 ⟨_, rfl, rfl⟩
    · refine wr_bipush dX2_errorOfDays_26 ?_
      refine wr_goto 32 dX2_errorOfDays_28 ?_
      exact wr_ireturn dX2_errorOfDays_32 ⟨_, rfl, rfl⟩
  · refine wr_bipush dX2_errorOfDays_11 ?_
    exact wr_ireturn dX2_errorOfDays_13 ⟨_, rfl, rfl⟩
set_option maxRecDepth 100000 in
set_option maxHeartbeats 4000000 in
theorem pX6_days {E : wE} {n : Nat} (hE : wGE E) {M : mR} (x1 : Int)  (c : cR) (ca : caT) : WF E (n + 8) yX6_days cX6_days 3 (some .int) vI (fun c : cR => (c, M)) ca 0 (wArgs [.ref (aTop E), .int (iI x1)]) [] c (fX6_days x1 c) := by
  unfold fX6_days
  refine wf_aload_n dX6_days_0 rfl ?_
  refine wf_get dX6_days_1 f_RX6_12 (fun h hr => rd_top hr) ?_
  refine wf_iload_n dX6_days_4 rfl ?_
  refine wf_rV dX6_days_5 k_RX6_83 b_yX2_errorOfDays x_yX2_errorOfDays (fun h hr => pX2_errorOfDays (n := n + 6) hE hr rfl (by omega) x1) (fun h hr => rd_h hr rfl (by omega)) rfl (fun r5 => ?_)
  refine wf_istore_n dX6_days_8 ?_
  refine wf_iload_n dX6_days_9 rfl ?_
  refine wf_gd (fun g10 => ?_)
  refine wf_if_eq 15 dX6_days_10 g10 (fun h10 => ?_) (fun h10 => ?_)
  · refine wf_aload_n dX6_days_15 rfl ?_
    refine wf_cV (put := fun q => q) dX6_days_16 k_RX6_37 b_yX6_remember x_yX6_remember (pX6_remember (n := n + 1) hE _ _) rfl (fun _ => rfl) (fun h hr => rd_top hr) rfl (fun r16 c16 ca => ?_)
    refine wf_aload_n dX6_days_19 rfl ?_
    refine wf_get dX6_days_20 f_RX6_12 (fun h hr => rd_top hr) ?_
    refine wf_iload_n dX6_days_23 rfl ?_
    refine wf_iconst dX6_days_24 ?_
    refine wf_cV (put := cH c16 0) dX6_days_25 k_RX6_86 b_yX2_passDays x_yX2_passDays (pX2_passDays (n := n) hE (G := (c16, M)) (k := 0) (by omega) x1 0 _ _) setH_self (fun _ => rfl) (fun h hr => rd_h hr rfl (by omega)) rfl (fun r25 t25 ca => ?_)
    refine wf_bnd (fun c25 => ?_)
    refine wf_pop dX6_days_28 ?_
    refine wf_aload_n dX6_days_29 rfl ?_
    refine wf_aload_n dX6_days_30 rfl ?_
    refine wf_get dX6_days_31 f_RX6_12 (fun h hr => rd_top hr) ?_
    refine wf_get dX6_days_34 f_RX6_89 (fun h hr => rd_h hr rfl (by omega)) ?_
    refine wf_cV (put := fun q => q) dX6_days_37 k_RX6_44 b_yX6_recorded x_yX6_recorded (pX6_recorded (n := n + 5) hE ((c25.1 0).1 0 6 0) _ _) rfl (fun _ => rfl) (fun h hr => rd_top hr) rfl (fun r37 c37 ca => ?_)
    exact wf_ireturn dX6_days_40 ⟨_, rfl, rfl⟩
  · refine wf_iload_n dX6_days_13 rfl ?_
    exact wf_ireturn dX6_days_14 ⟨_, rfl, rfl⟩
set_option maxRecDepth 100000 in
set_option maxHeartbeats 4000000 in
theorem pX2_nameFeeder_b31 {E : wE} {n : Nat} (hE : wGE E) {G : gR} {k : Int} (hk : 0 ≤ k ∧ k < 11) (x1 : Int) (x2 : Int)  (H : hR) (ca : caT) : WF E (n + 1) yX2_nameFeeder cX2_nameFeeder 4 (some .int) vI (setH G k) ca 31 (wLs [some (.ref (aH E k)), some (.int (iI x1)), some (.int (iI x2))]) [] H (fX2_nameFeeder_b31 x1 x2 H) := by
  unfold fX2_nameFeeder_b31
  refine wf_aload_n dX2_nameFeeder_31 rfl ?_
  refine wf_get dX2_nameFeeder_32 f_RX2_20 (fun h hr => rd_h hr setH_at hk) ?_
  refine wf_iload_n dX2_nameFeeder_35 rfl ?_
  refine wf_gd (fun g36 => ?_)
  refine wf_aald_acc dX2_nameFeeder_36 g36 (fun h hr => rd_accs hr setH_at hk) ?_
  refine wf_get dX2_nameFeeder_37 f_RX2_101 (fun h hr => rd_acc hr setH_at hk (by omega)) ?_
  refine wf_istore_n dX2_nameFeeder_40 ?_
  refine wf_aload_n dX2_nameFeeder_41 rfl ?_
  refine wf_get dX2_nameFeeder_42 f_RX2_20 (fun h hr => rd_h hr setH_at hk) ?_
  refine wf_iload_n dX2_nameFeeder_45 rfl ?_
  refine wf_gd (fun g46 => ?_)
  refine wf_aald_acc dX2_nameFeeder_46 g46 (fun h hr => rd_accs hr setH_at hk) ?_
  refine wf_iload_n dX2_nameFeeder_47 rfl ?_
  refine wf_p_acci (f := 2) dX2_nameFeeder_48 p_RX2_101 hk (by omega) (fun H48 => ?_)
  refine wf_iload_n dX2_nameFeeder_51 rfl ?_
  exact wf_ireturn dX2_nameFeeder_52 ⟨_, rfl, rfl⟩
set_option maxRecDepth 100000 in
set_option maxHeartbeats 4000000 in
theorem pX2_nameFeeder {E : wE} {n : Nat} (hE : wGE E) {G : gR} {k : Int} (hk : 0 ≤ k ∧ k < 11) (x1 : Int) (x2 : Int)  (H : hR) (ca : caT) : WF E (n + 1) yX2_nameFeeder cX2_nameFeeder 4 (some .int) vI (setH G k) ca 0 (wArgs [.ref (aH E k), .int (iI x1), .int (iI x2)]) [] H (fX2_nameFeeder x1 x2 H) := by
  unfold fX2_nameFeeder
  refine wf_aload_n dX2_nameFeeder_0 rfl ?_
  refine wf_iload_n dX2_nameFeeder_1 rfl ?_
  refine wf_rV dX2_nameFeeder_2 k_RX2_97 b_yX2_hasAccount x_yX2_hasAccount (fun h hr => pX2_hasAccount (n := n) hE hr setH_at hk x1) (fun h hr => rd_h hr setH_at hk) rfl (fun r2 => ?_)
  refine wf_gd (fun g5 => ?_)
  refine wf_if_ne 10 dX2_nameFeeder_5 g5 (fun h5 => ?_) (fun h5 => ?_)
  · refine wf_iload_n dX2_nameFeeder_10 rfl ?_
    refine wf_bipush dX2_nameFeeder_11 ?_
    refine wf_gd (fun g13 => ?_)
    refine wf_icmp_eq 31 dX2_nameFeeder_13 g13 (by decide) (fun h13 => ?_) (fun h13 => ?_)
    · exact wf_at (pX2_nameFeeder_b31 (n := n) hE hk  x1 x2 _ _) ⟨rfl, rfl, rfl, trivial⟩
    · refine wf_iload_n dX2_nameFeeder_16 rfl ?_
      refine wf_iload_n dX2_nameFeeder_17 rfl ?_
      refine wf_gd (fun g18 => ?_)
      refine wf_icmp_eq 29 dX2_nameFeeder_18 g18.1 g18.2 (fun h18 => ?_) (fun h18 => ?_)
      · refine wf_iconst dX2_nameFeeder_29 ?_
        exact wf_ireturn dX2_nameFeeder_30 ⟨_, rfl, rfl⟩
      · refine wf_aload_n dX2_nameFeeder_21 rfl ?_
        refine wf_iload_n dX2_nameFeeder_22 rfl ?_
        refine wf_rV dX2_nameFeeder_23 k_RX2_97 b_yX2_hasAccount x_yX2_hasAccount (fun h hr => pX2_hasAccount (n := n) hE hr setH_at hk x2) (fun h hr => rd_h hr setH_at hk) rfl (fun r23 => ?_)
        refine wf_gd (fun g26 => ?_)
        refine wf_if_ne 31 dX2_nameFeeder_26 g26 (fun h26 => ?_) (fun h26 => ?_)
        · exact wf_at (pX2_nameFeeder_b31 (n := n) hE hk  x1 x2 _ _) ⟨rfl, rfl, rfl, trivial⟩
        · refine wf_iconst dX2_nameFeeder_29 ?_
          exact wf_ireturn dX2_nameFeeder_30 ⟨_, rfl, rfl⟩
  · refine wf_iconst dX2_nameFeeder_8 ?_
    exact wf_ireturn dX2_nameFeeder_9 ⟨_, rfl, rfl⟩
set_option maxRecDepth 100000 in
set_option maxHeartbeats 4000000 in
theorem pX6_feed {E : wE} {n : Nat} (hE : wGE E) {M : mR} (x1 : Int) (x2 : Int)  (c : cR) (ca : caT) : WF E (n + 7) yX6_feed cX6_feed 3 (some .int) vI (fun c : cR => (c, M)) ca 0 (wArgs [.ref (aTop E), .int (iI x1), .int (iI x2)]) [] c (fX6_feed x1 x2 c) := by
  unfold fX6_feed
  refine wf_aload_n dX6_feed_0 rfl ?_
  refine wf_cV (put := fun q => q) dX6_feed_1 k_RX6_37 b_yX6_remember x_yX6_remember (pX6_remember (n := n) hE _ _) rfl (fun _ => rfl) (fun h hr => rd_top hr) rfl (fun r1 c1 ca => ?_)
  refine wf_aload_n dX6_feed_4 rfl ?_
  refine wf_aload_n dX6_feed_5 rfl ?_
  refine wf_get dX6_feed_6 f_RX6_12 (fun h hr => rd_top hr) ?_
  refine wf_iload_n dX6_feed_9 rfl ?_
  refine wf_iload_n dX6_feed_10 rfl ?_
  refine wf_cV (put := cH c1 0) dX6_feed_11 k_RX6_60 b_yX2_nameFeeder x_yX2_nameFeeder (pX2_nameFeeder (n := n + 5) hE (G := (c1, M)) (k := 0) (by omega) x1 x2 _ _) setH_self (fun _ => rfl) (fun h hr => rd_h hr rfl (by omega)) rfl (fun r11 t11 ca => ?_)
  refine wf_bnd (fun c11 => ?_)
  refine wf_cV (put := fun q => q) dX6_feed_14 k_RX6_44 b_yX6_recorded x_yX6_recorded (pX6_recorded (n := n + 4) hE r11 _ _) rfl (fun _ => rfl) (fun h hr => rd_top hr) rfl (fun r14 c14 ca => ?_)
  exact wf_ireturn dX6_feed_17 ⟨_, rfl, rfl⟩
set_option maxRecDepth 100000 in
set_option maxHeartbeats 4000000 in
theorem pX2_resumeOrder {E : wE} {n : Nat} (hE : wGE E) {G : gR} {k : Int} (hk : 0 ≤ k ∧ k < 11) (x1 : Int)  (H : hR) (ca : caT) : WF E (n + 5) yX2_resumeOrder cX2_resumeOrder 2 (some .int) vI (setH G k) ca 0 (wArgs [.ref (aH E k), .int (iI x1)]) [] H (fX2_resumeOrder x1 H) := by
  unfold fX2_resumeOrder
  refine wf_aload_n dX2_resumeOrder_0 rfl ?_
  refine wf_iload_n dX2_resumeOrder_1 rfl ?_
  refine wf_rV dX2_resumeOrder_2 k_RX2_124 b_yX2_hasOrder x_yX2_hasOrder (fun h hr => pX2_hasOrder (n := n + 4) hE hr setH_at hk x1) (fun h hr => rd_h hr setH_at hk) rfl (fun r2 => ?_)
  refine wf_gd (fun g5 => ?_)
  refine wf_if_ne 10 dX2_resumeOrder_5 g5 (fun h5 => ?_) (fun h5 => ?_)
  · refine wf_aload_n dX2_resumeOrder_10 rfl ?_
    refine wf_get dX2_resumeOrder_11 f_RX2_26 (fun h hr => rd_h hr setH_at hk) ?_
    refine wf_iload_n dX2_resumeOrder_14 rfl ?_
    refine wf_gd (fun g15 => ?_)
    refine wf_aald_ord dX2_resumeOrder_15 g15 (fun h hr => rd_ords hr setH_at hk) ?_
    refine wf_get dX2_resumeOrder_16 f_RX2_127 (fun h hr => rd_ord hr setH_at hk (by omega)) ?_
    refine wf_iconst dX2_resumeOrder_19 ?_
    refine wf_gd (fun g20 => ?_)
    refine wf_icmp_eq 26 dX2_resumeOrder_20 g20 (by decide) (fun h20 => ?_) (fun h20 => ?_)
    · refine wf_aload_n dX2_resumeOrder_26 rfl ?_
      refine wf_get dX2_resumeOrder_27 f_RX2_26 (fun h hr => rd_h hr setH_at hk) ?_
      refine wf_iload_n dX2_resumeOrder_30 rfl ?_
      refine wf_gd (fun g31 => ?_)
      refine wf_aald_ord dX2_resumeOrder_31 g31 (fun h hr => rd_ords hr setH_at hk) ?_
      refine wf_iconst dX2_resumeOrder_32 ?_
      refine wf_p_ord (f := 11) dX2_resumeOrder_33 p_RX2_127 hk (by omega) (fun H33 => ?_)
      refine wf_aload_n dX2_resumeOrder_36 rfl ?_
      refine wf_get dX2_resumeOrder_37 f_RX2_26 (fun h hr => rd_h hr setH_at hk) ?_
      refine wf_iload_n dX2_resumeOrder_40 rfl ?_
      refine wf_gd (fun g41 => ?_)
      refine wf_aald_ord dX2_resumeOrder_41 g41 (fun h hr => rd_ords hr setH_at hk) ?_
      refine wf_aload_n dX2_resumeOrder_42 rfl ?_
      refine wf_get dX2_resumeOrder_43 f_RX2_68 (fun h hr => rd_h hr setH_at hk) ?_
      refine wf_aload_n dX2_resumeOrder_46 rfl ?_
      refine wf_get dX2_resumeOrder_47 f_RX2_12 (fun h hr => rd_h hr setH_at hk) ?_
      refine wf_cV (put := fun q => q) dX2_resumeOrder_50 k_RX2_119 b_yX3_leaveOutBefore x_yX3_leaveOutBefore (pX3_leaveOutBefore (n := n) hE (G := G) (k := k) hk x1 (H33.1 0 6 0) (by omega) _ _) rfl (fun _ => rfl) (fun h hr => rd_ord hr setH_at hk (by omega)) rfl (fun r50 H50 ca => ?_)
      exact wf_ireturn dX2_resumeOrder_53 ⟨_, rfl, rfl⟩
    · refine wf_bipush dX2_resumeOrder_23 ?_
      exact wf_ireturn dX2_resumeOrder_25 ⟨_, rfl, rfl⟩
  · refine wf_iconst dX2_resumeOrder_8 ?_
    exact wf_ireturn dX2_resumeOrder_9 ⟨_, rfl, rfl⟩
set_option maxRecDepth 100000 in
set_option maxHeartbeats 4000000 in
theorem pX6_goOn {E : wE} {n : Nat} (hE : wGE E) {M : mR} (x1 : Int)  (c : cR) (ca : caT) : WF E (n + 7) yX6_goOn cX6_goOn 2 (some .int) vI (fun c : cR => (c, M)) ca 0 (wArgs [.ref (aTop E), .int (iI x1)]) [] c (fX6_goOn x1 c) := by
  unfold fX6_goOn
  refine wf_aload_n dX6_goOn_0 rfl ?_
  refine wf_cV (put := fun q => q) dX6_goOn_1 k_RX6_37 b_yX6_remember x_yX6_remember (pX6_remember (n := n) hE _ _) rfl (fun _ => rfl) (fun h hr => rd_top hr) rfl (fun r1 c1 ca => ?_)
  refine wf_aload_n dX6_goOn_4 rfl ?_
  refine wf_aload_n dX6_goOn_5 rfl ?_
  refine wf_get dX6_goOn_6 f_RX6_12 (fun h hr => rd_top hr) ?_
  refine wf_iload_n dX6_goOn_9 rfl ?_
  refine wf_cV (put := cH c1 0) dX6_goOn_10 k_RX6_77 b_yX2_resumeOrder x_yX2_resumeOrder (pX2_resumeOrder (n := n + 1) hE (G := (c1, M)) (k := 0) (by omega) x1 _ _) setH_self (fun _ => rfl) (fun h hr => rd_h hr rfl (by omega)) rfl (fun r10 t10 ca => ?_)
  refine wf_bnd (fun c10 => ?_)
  refine wf_cV (put := fun q => q) dX6_goOn_13 k_RX6_44 b_yX6_recorded x_yX6_recorded (pX6_recorded (n := n + 4) hE r10 _ _) rfl (fun _ => rfl) (fun h hr => rd_top hr) rfl (fun r13 c13 ca => ?_)
  exact wf_ireturn dX6_goOn_16 ⟨_, rfl, rfl⟩
set_option maxRecDepth 100000 in
set_option maxHeartbeats 4000000 in
theorem pX6_restore {E : wE} {n : Nat} (hE : wGE E) {M : mR} (x1 : Int)  (c : cR) (ca : caT) : WF E (n + 7) yX6_restore cX6_restore 2 (some .int) vI (fun c : cR => (c, M)) ca 0 (wArgs [.ref (aTop E), .int (iI x1)]) [] c (fX6_restore x1 c) := by
  unfold fX6_restore
  refine wf_iload_n dX6_restore_0 rfl ?_
  refine wf_iconst dX6_restore_1 ?_
  refine wf_iconst dX6_restore_2 ?_
  refine wf_rS dX6_restore_3 k_RX6_93 b_yX6_isBetween x_yX6_isBetween (fun h hr => pX6_isBetween (n := n + 6) hE x1 0 1) (fun r3 => ?_)
  refine wf_gd (fun g6 => ?_)
  refine wf_if_ne 12 dX6_restore_6 g6 (fun h6 => ?_) (fun h6 => ?_)
  · refine wf_aload_n dX6_restore_12 rfl ?_
    refine wf_get dX6_restore_13 f_RX6_26 (fun h hr => rd_top hr) ?_
    refine wf_iload_n dX6_restore_16 rfl ?_
    refine wf_gd (fun g17 => ?_)
    refine wf_zald dX6_restore_17 (g := fun j => c.2.1 1 j) g17 (fun h hr => rd_saved hr) ?_
    refine wf_gd (fun g18 => ?_)
    refine wf_if_ne 24 dX6_restore_18 g18 (fun h18 => ?_) (fun h18 => ?_)
    · refine wf_aload_n dX6_restore_24 rfl ?_
      refine wf_cV (put := fun q => q) dX6_restore_25 k_RX6_37 b_yX6_remember x_yX6_remember (pX6_remember (n := n) hE _ _) rfl (fun _ => rfl) (fun h hr => rd_top hr) rfl (fun r25 c25 ca => ?_)
      refine wf_aload_n dX6_restore_28 rfl ?_
      refine wf_get dX6_restore_29 f_RX6_12 (fun h hr => rd_top hr) ?_
      refine wf_aload_n dX6_restore_32 rfl ?_
      refine wf_get dX6_restore_33 f_RX6_23 (fun h hr => rd_top hr) ?_
      refine wf_iload_n dX6_restore_36 rfl ?_
      refine wf_gd (fun g37 => ?_)
      refine wf_aald_slots dX6_restore_37 g37 (fun h hr => rd_slots hr) ?_
      refine wf_cV (put := cH c25 0) dX6_restore_38 k_RX6_167 b_yX2_copyFrom x_yX2_copyFrom (pX2_copyFrom (n := n + 1) hE (G := (c25, M)) (k := 0) (by omega) (k2 := (9 + x1)) (by omega) (by omega) rfl _ _) setH_self (fun _ => rfl) (fun h hr => rd_h hr rfl (by omega)) rfl (fun r38 t38 ca => ?_)
      refine wf_bnd (fun c38 => ?_)
      refine wf_aload_n dX6_restore_41 rfl ?_
      refine wf_aload_n dX6_restore_42 rfl ?_
      refine wf_get dX6_restore_43 f_RX6_12 (fun h hr => rd_top hr) ?_
      refine wf_get dX6_restore_46 f_RX6_89 (fun h hr => rd_h hr rfl (by omega)) ?_
      refine wf_cV (put := fun q => q) dX6_restore_49 k_RX6_44 b_yX6_recorded x_yX6_recorded (pX6_recorded (n := n + 4) hE ((c38.1 0).1 0 6 0) _ _) rfl (fun _ => rfl) (fun h hr => rd_top hr) rfl (fun r49 c49 ca => ?_)
      exact wf_ireturn dX6_restore_52 ⟨_, rfl, rfl⟩
    · refine wf_bipush dX6_restore_21 ?_
      exact wf_ireturn dX6_restore_23 ⟨_, rfl, rfl⟩
  · refine wf_bipush dX6_restore_9 ?_
    exact wf_ireturn dX6_restore_11 ⟨_, rfl, rfl⟩
set_option maxRecDepth 100000 in
set_option maxHeartbeats 4000000 in
theorem pX6_save {E : wE} {n : Nat} (hE : wGE E) {M : mR} (x1 : Int)  (c : cR) (ca : caT) : WF E (n + 6) yX6_save cX6_save 2 (some .int) vI (fun c : cR => (c, M)) ca 0 (wArgs [.ref (aTop E), .int (iI x1)]) [] c (fX6_save x1 c) := by
  unfold fX6_save
  refine wf_iload_n dX6_save_0 rfl ?_
  refine wf_iconst dX6_save_1 ?_
  refine wf_iconst dX6_save_2 ?_
  refine wf_rS dX6_save_3 k_RX6_93 b_yX6_isBetween x_yX6_isBetween (fun h hr => pX6_isBetween (n := n + 5) hE x1 0 1) (fun r3 => ?_)
  refine wf_gd (fun g6 => ?_)
  refine wf_if_ne 12 dX6_save_6 g6 (fun h6 => ?_) (fun h6 => ?_)
  · refine wf_aload_n dX6_save_12 rfl ?_
    refine wf_get dX6_save_13 f_RX6_23 (fun h hr => rd_top hr) ?_
    refine wf_iload_n dX6_save_16 rfl ?_
    refine wf_gd (fun g17 => ?_)
    refine wf_aald_slots dX6_save_17 g17 (fun h hr => rd_slots hr) ?_
    refine wf_aload_n dX6_save_18 rfl ?_
    refine wf_get dX6_save_19 f_RX6_12 (fun h hr => rd_top hr) ?_
    refine wf_cV (put := cH c (9 + x1)) dX6_save_22 k_RX6_167 b_yX2_copyFrom x_yX2_copyFrom (pX2_copyFrom (n := n) hE (G := (c, M)) (k := (9 + x1)) (by omega) (k2 := 0) (by omega) (by omega) rfl _ _) setH_self (fun _ => rfl) (fun h hr => rd_h hr rfl (by omega)) rfl (fun r22 t22 ca => ?_)
    refine wf_bnd (fun c22 => ?_)
    refine wf_aload_n dX6_save_25 rfl ?_
    refine wf_get dX6_save_26 f_RX6_26 (fun h hr => rd_top hr) ?_
    refine wf_iload_n dX6_save_29 rfl ?_
    refine wf_iconst dX6_save_30 ?_
    refine wf_gd (fun g31 => ?_)
    refine wf_s_saved dX6_save_31 g31 rfl (fun c31 => ?_)
    refine wf_aload_n dX6_save_32 rfl ?_
    refine wf_get dX6_save_33 f_RX6_12 (fun h hr => rd_top hr) ?_
    refine wf_get dX6_save_36 f_RX6_89 (fun h hr => rd_h hr rfl (by omega)) ?_
    exact wf_ireturn dX6_save_39 ⟨_, rfl, rfl⟩
  · refine wf_bipush dX6_save_9 ?_
    exact wf_ireturn dX6_save_11 ⟨_, rfl, rfl⟩
set_option maxRecDepth 100000 in
set_option maxHeartbeats 4000000 in
theorem pX6_undo {E : wE} {n : Nat} (hE : wGE E) {M : mR}   (c : cR) (ca : caT) : WF E (n + 6) yX6_undo cX6_undo 1 (some .int) vI (fun c : cR => (c, M)) ca 0 (wArgs [.ref (aTop E)]) [] c (fX6_undo  c) := by
  unfold fX6_undo
  refine wf_aload_n dX6_undo_0 rfl ?_
  refine wf_get dX6_undo_1 f_RX6_154 (fun h hr => rd_top hr) ?_
  refine wf_gd (fun g4 => ?_)
  refine wf_if_ne 10 dX6_undo_4 g4 (fun h4 => ?_) (fun h4 => ?_)
  · refine wf_aload_n dX6_undo_10 rfl ?_
    refine wf_dup dX6_undo_11 ?_
    refine wf_get dX6_undo_12 f_RX6_154 (fun h hr => rd_top hr) ?_
    refine wf_iconst dX6_undo_15 ?_
    refine wf_isub dX6_undo_16 ?_
    refine wf_p_topf (f := 4) dX6_undo_17 p_RX6_154 (fun c17 => ?_)
    refine wf_aload_n dX6_undo_20 rfl ?_
    refine wf_get dX6_undo_21 f_RX6_12 (fun h hr => rd_top hr) ?_
    refine wf_aload_n dX6_undo_24 rfl ?_
    refine wf_get dX6_undo_25 f_RX6_19 (fun h hr => rd_top hr) ?_
    refine wf_aload_n dX6_undo_28 rfl ?_
    refine wf_rV dX6_undo_29 k_RX6_212 b_yX6_rowBehindLatest x_yX6_rowBehindLatest (fun h hr => pX6_rowBehindLatest (n := n + 5) hE hr) (fun h hr => rd_top hr) rfl (fun r29 => ?_)
    refine wf_gd (fun g32 => ?_)
    refine wf_aald_hist dX6_undo_32 g32 (fun h hr => rd_hist hr) ?_
    refine wf_cV (put := cH c17 0) dX6_undo_33 k_RX6_167 b_yX2_copyFrom x_yX2_copyFrom (pX2_copyFrom (n := n) hE (G := (c17, M)) (k := 0) (by omega) (k2 := (2 + r29)) (by omega) (by omega) rfl _ _) setH_self (fun _ => rfl) (fun h hr => rd_h hr rfl (by omega)) rfl (fun r33 t33 ca => ?_)
    refine wf_bnd (fun c33 => ?_)
    refine wf_aload_n dX6_undo_36 rfl ?_
    refine wf_get dX6_undo_37 f_RX6_154 (fun h hr => rd_top hr) ?_
    exact wf_ireturn dX6_undo_40 ⟨_, rfl, rfl⟩
  · refine wf_bipush dX6_undo_7 ?_
    exact wf_ireturn dX6_undo_9 ⟨_, rfl, rfl⟩

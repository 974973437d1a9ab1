/-! ===== the methods meet their functions (by program: wip/whole/gen.py) ===== -/
set_option maxRecDepth 100000 in
set_option maxHeartbeats 4000000 in
theorem pX2_passDays_b77 {E : wE} {n : Nat} (hE : wGE E) {G : gR} {k : Int} (hk : 0 ≤ k ∧ k < 11) {rec31 : Int → Int → Int → hR → Option (Int × hR)} (hrec31 : ∀ (x1 : Int) (x2 : Int) (x3 : Int)  (H : hR) (ca : caT), WF E (n + 7) yX2_passDays cX2_passDays 4 (some .int) vI (setH G k) ca 31 (wLs [some (.ref (aH E k)), some (.int (iI x1)), some (.int (iI x2)), some (.int (iI x3))]) [] H (rec31 x1 x2 x3 H)) (x1 : Int) (x2 : Int) (x3 : Int)  (H : hR) (ca : caT) : WF E (n + 7) yX2_passDays cX2_passDays 4 (some .int) vI (setH G k) ca 77 (wLs [some (.ref (aH E k)), some (.int (iI x1)), some (.int (iI x2)), some (.int (iI x3))]) [] H (fX2_passDays_b77 rec31 x1 x2 x3 H) := by
  unfold fX2_passDays_b77
  refine wf_aload_n dX2_passDays_77 rfl ?_
  refine wf_cV (put := fun q => q) dX2_passDays_78 k_RX2_185 b_yX2_chargeInterest x_yX2_chargeInterest (pX2_chargeInterest (n := n + 5) hE (G := G) (k := k) hk _ _) rfl (fun _ => rfl) (fun h hr => rd_h hr setH_at hk) rfl (fun r78 H78 ca => ?_)
  refine wf_aload_n dX2_passDays_81 rfl ?_
  refine wf_dup dX2_passDays_82 ?_
  refine wf_get dX2_passDays_83 f_RX2_68 (fun h hr => rd_h hr setH_at hk) ?_
  refine wf_iconst dX2_passDays_86 ?_
  refine wf_iadd dX2_passDays_87 ?_
  refine wf_p_h (f := 6) dX2_passDays_88 p_RX2_68 hk (fun H88 => ?_)
  refine wf_aload_n dX2_passDays_91 rfl ?_
  refine wf_get dX2_passDays_92 f_RX2_170 (fun h hr => rd_h hr setH_at hk) ?_
  refine wf_iload_n dX2_passDays_95 rfl ?_
  refine wf_iand dX2_passDays_96 ?_
  refine wf_gd (fun g97 => ?_)
  refine wf_if_eq 107 dX2_passDays_97 g97 (fun h97 => ?_) (fun h97 => ?_)
  · refine wf_iinc dX2_passDays_107 rfl ?_
    refine wf_goto 31 dX2_passDays_110 ?_
    exact wf_at (hrec31 x1 x2 (x3 + 1) _ _) ⟨rfl, rfl, rfl, rfl, trivial⟩
  · refine wf_aload_n dX2_passDays_100 rfl ?_
    refine wf_get dX2_passDays_101 f_RX2_68 (fun h hr => rd_h hr setH_at hk) ?_
    refine wf_iconst dX2_passDays_104 ?_
    refine wf_isub dX2_passDays_105 ?_
    exact wf_ireturn dX2_passDays_106 ⟨_, rfl, rfl⟩
set_option maxRecDepth 100000 in
set_option maxHeartbeats 4000000 in
theorem pX2_passDays_b31 {E : wE} {n : Nat} (hE : wGE E) {G : gR} {k : Int} (hk : 0 ≤ k ∧ k < 11) : ∀ (fuel : Nat) (x1 : Int) (x2 : Int) (x3 : Int)  (H : hR) (ca : caT), WF E (n + 7) yX2_passDays cX2_passDays 4 (some .int) vI (setH G k) ca 31 (wLs [some (.ref (aH E k)), some (.int (iI x1)), some (.int (iI x2)), some (.int (iI x3))]) [] H (fX2_passDays_b31 fuel x1 x2 x3 H) := by
  intro fuel
  induction fuel with
  | zero =>
    intro x1 x2 x3 H ca
    exact wf_none
  | succ fuel ih =>
    intro x1 x2 x3 H ca
    unfold fX2_passDays_b31
    refine wf_iload_n dX2_passDays_31 rfl ?_
    refine wf_iload_n dX2_passDays_32 rfl ?_
    refine wf_gd (fun g33 => ?_)
    refine wf_icmp_ge 113 dX2_passDays_33 g33.1 g33.2 (fun h33 => ?_) (fun h33 => ?_)
    · refine wf_bipush dX2_passDays_113 ?_
      exact wf_ireturn dX2_passDays_115 ⟨_, rfl, rfl⟩
    · refine wf_aload_n dX2_passDays_36 rfl ?_
      refine wf_get dX2_passDays_37 f_RX2_68 (fun h hr => rd_h hr setH_at hk) ?_
      refine wf_sipush dX2_passDays_40 ?_
      refine wf_gd (fun g43 => ?_)
      refine wf_icmp_ge 113 dX2_passDays_43 g43 (by decide) (fun h43 => ?_) (fun h43 => ?_)
      · refine wf_bipush dX2_passDays_113 ?_
        exact wf_ireturn dX2_passDays_115 ⟨_, rfl, rfl⟩
      · refine wf_aload_n dX2_passDays_46 rfl ?_
        refine wf_iconst dX2_passDays_47 ?_
        refine wf_p_h (f := 11) dX2_passDays_48 p_RX2_170 hk (fun H48 => ?_)
        refine wf_aload_n dX2_passDays_51 rfl ?_
        refine wf_cV (put := fun q => q) dX2_passDays_52 k_RX2_173 b_yX2_makePaymentsDue x_yX2_makePaymentsDue (pX2_makePaymentsDue (n := n) hE (G := G) (k := k) hk _ _) rfl (fun _ => rfl) (fun h hr => rd_h hr setH_at hk) rfl (fun r52 H52 ca => ?_)
        refine wf_aload_n dX2_passDays_55 rfl ?_
        refine wf_cV (put := fun q => q) dX2_passDays_56 k_RX2_176 b_yX2_sweep x_yX2_sweep (pX2_sweep (n := n + 5) hE (G := G) (k := k) hk _ _) rfl (fun _ => rfl) (fun h hr => rd_h hr setH_at hk) rfl (fun r56 H56 ca => ?_)
        refine wf_aload_n dX2_passDays_59 rfl ?_
        refine wf_get dX2_passDays_60 f_RX2_12 (fun h hr => rd_h hr setH_at hk) ?_
        refine wf_aload_n dX2_passDays_63 rfl ?_
        refine wf_get dX2_passDays_64 f_RX2_68 (fun h hr => rd_h hr setH_at hk) ?_
        refine wf_rV dX2_passDays_67 k_RX2_179 b_yX1_isBusiness x_yX1_isBusiness (fun h hr => pX1_isBusiness (n := n + 6) hE hr setH_at hk (H56.1 0 6 0)) (fun h hr => rd_cal hr setH_at hk) rfl (fun r67 => ?_)
        refine wf_gd (fun g70 => ?_)
        refine wf_if_eq 77 dX2_passDays_70 g70 (fun h70 => ?_) (fun h70 => ?_)
        · exact wf_at (pX2_passDays_b77 (n := n) hE hk ih x1 x2 x3 _ _) ⟨rfl, rfl, rfl, rfl, trivial⟩
        · refine wf_aload_n dX2_passDays_73 rfl ?_
          refine wf_cV (put := fun q => q) dX2_passDays_74 k_RX2_182 b_yX2_payWaiting x_yX2_payWaiting (pX2_payWaiting (n := n + 2) hE (G := G) (k := k) hk _ _) rfl (fun _ => rfl) (fun h hr => rd_h hr setH_at hk) rfl (fun r74 H74 ca => ?_)
          exact wf_at (pX2_passDays_b77 (n := n) hE hk ih x1 x2 x3 _ _) ⟨rfl, rfl, rfl, rfl, trivial⟩
set_option maxRecDepth 100000 in
set_option maxHeartbeats 4000000 in
theorem pX2_passDays_b2 {E : wE} {n : Nat} (hE : wGE E) {G : gR} {k : Int} (hk : 0 ≤ k ∧ k < 11) : ∀ (fuel : Nat) (x1 : Int) (x2 : Int) (x3 : Int)  (H : hR) (ca : caT), WF E (n + 7) yX2_passDays cX2_passDays 4 (some .int) vI (setH G k) ca 2 (wLs [some (.ref (aH E k)), some (.int (iI x1)), some (.int (iI x2)), some (.int (iI x3))]) [] H (fX2_passDays_b2 fuel x1 x2 x3 H) := by
  intro fuel
  induction fuel with
  | zero =>
    intro x1 x2 x3 H ca
    exact wf_none
  | succ fuel ih =>
    intro x1 x2 x3 H ca
    unfold fX2_passDays_b2
    refine wf_iload_n dX2_passDays_2 rfl ?_
    refine wf_aload_n dX2_passDays_3 rfl ?_
    refine wf_get dX2_passDays_4 f_RX2_59 (fun h hr => rd_h hr setH_at hk) ?_
    refine wf_gd (fun g7 => ?_)
    refine wf_icmp_ge 29 dX2_passDays_7 g7.1 g7.2 (fun h7 => ?_) (fun h7 => ?_)
    · refine wf_iconst dX2_passDays_29 ?_
      refine wf_istore_n dX2_passDays_30 ?_
      exact wf_at (pX2_passDays_b31 (n := n) hE hk  fuel0 x1 x2 0 _ _) ⟨rfl, rfl, rfl, rfl, trivial⟩
    · refine wf_aload_n dX2_passDays_10 rfl ?_
      refine wf_get dX2_passDays_11 f_RX2_26 (fun h hr => rd_h hr setH_at hk) ?_
      refine wf_iload_n dX2_passDays_14 rfl ?_
      refine wf_gd (fun g15 => ?_)
      refine wf_aald_ord dX2_passDays_15 g15 (fun h hr => rd_ords hr setH_at hk) ?_
      refine wf_aload_n dX2_passDays_16 rfl ?_
      refine wf_get dX2_passDays_17 f_RX2_12 (fun h hr => rd_h hr setH_at hk) ?_
      refine wf_cV (put := fun q => q) dX2_passDays_20 k_RX2_155 b_yX3_aim x_yX3_aim (pX3_aim (n := n + 3) hE (G := G) (k := k) hk x3 (by omega) _ _) rfl (fun _ => rfl) (fun h hr => rd_ord hr setH_at hk (by omega)) rfl (fun r20 H20 ca => ?_)
      refine wf_iinc dX2_passDays_23 rfl ?_
      refine wf_goto 2 dX2_passDays_26 ?_
      exact wf_at (ih x1 x2 (x3 + 1) _ _) ⟨rfl, rfl, rfl, rfl, trivial⟩
set_option maxRecDepth 100000 in
set_option maxHeartbeats 4000000 in
theorem pX2_passDays {E : wE} {n : Nat} (hE : wGE E) {G : gR} {k : Int} (hk : 0 ≤ k ∧ k < 11) (x1 : Int) (x2 : Int)  (H : hR) (ca : caT) : WF E (n + 7) yX2_passDays cX2_passDays 4 (some .int) vI (setH G k) ca 0 (wArgs [.ref (aH E k), .int (iI x1), .int (iI x2)]) [] H (fX2_passDays x1 x2 H) := by
  unfold fX2_passDays
  refine wf_iconst dX2_passDays_0 ?_
  refine wf_istore_n dX2_passDays_1 ?_
  exact wf_at (pX2_passDays_b2 (n := n) hE hk  fuel0 x1 x2 0 _ _) ⟨rfl, rfl, rfl, rfl, trivial⟩
set_option maxRecDepth 100000 in
set_option maxHeartbeats 4000000 in
theorem pX2_payIn {E : wE} {n : Nat} (hE : wGE E) {G : gR} {k : Int} (hk : 0 ≤ k ∧ k < 11) (x1 : Int) (x2 : Int)  (H : hR) (ca : caT) : WF E (n + 1) yX2_payIn cX2_payIn 3 (some .int) vI (setH G k) ca 0 (wArgs [.ref (aH E k), .int (iI x1), .int (iI x2)]) [] H (fX2_payIn x1 x2 H) := by
  unfold fX2_payIn
  refine wf_aload_n dX2_payIn_0 rfl ?_
  refine wf_iload_n dX2_payIn_1 rfl ?_
  refine wf_rV dX2_payIn_2 k_RX2_97 b_yX2_hasAccount x_yX2_hasAccount (fun h hr => pX2_hasAccount (n := n) hE hr setH_at hk x1) (fun h hr => rd_h hr setH_at hk) rfl (fun r2 => ?_)
  refine wf_gd (fun g5 => ?_)
  refine wf_if_ne 10 dX2_payIn_5 g5 (fun h5 => ?_) (fun h5 => ?_)
  · refine wf_iload_n dX2_payIn_10 rfl ?_
    refine wf_iconst dX2_payIn_11 ?_
    refine wf_ldc dX2_payIn_12 c_RX2_104 ?_
    refine wf_rSN dX2_payIn_14 k_RX2_77 b_yX6_isBetween x_yX6_isBetween (fun h hr => pX6_isBetween (n := n) hE x2 1 100000000) (fun r14 => ?_)
    refine wf_gd (fun g17 => ?_)
    refine wf_if_ne 23 dX2_payIn_17 g17 (fun h17 => ?_) (fun h17 => ?_)
    · refine wf_aload_n dX2_payIn_23 rfl ?_
      refine wf_get dX2_payIn_24 f_RX2_20 (fun h hr => rd_h hr setH_at hk) ?_
      refine wf_iload_n dX2_payIn_27 rfl ?_
      refine wf_gd (fun g28 => ?_)
      refine wf_aald_acc dX2_payIn_28 g28 (fun h hr => rd_accs hr setH_at hk) ?_
      refine wf_dup dX2_payIn_29 ?_
      refine wf_get dX2_payIn_30 f_RX2_105 (fun h hr => rd_acc hr setH_at hk (by omega)) ?_
      refine wf_iload_n dX2_payIn_33 rfl ?_
      refine wf_gd (fun g34 => ?_)
      refine wf_i2l dX2_payIn_34 g34 ?_
      refine wf_ladd dX2_payIn_35 ?_
      refine wf_p_accl (f := 3) dX2_payIn_36 p_RX2_105 hk (by omega) (fun H36 => ?_)
      refine wf_aload_n dX2_payIn_39 rfl ?_
      refine wf_get dX2_payIn_40 f_RX2_20 (fun h hr => rd_h hr setH_at hk) ?_
      refine wf_iload_n dX2_payIn_43 rfl ?_
      refine wf_gd (fun g44 => ?_)
      refine wf_aald_acc dX2_payIn_44 g44 (fun h hr => rd_accs hr setH_at hk) ?_
      refine wf_dup dX2_payIn_45 ?_
      refine wf_get dX2_payIn_46 f_RX2_109 (fun h hr => rd_acc hr setH_at hk (by omega)) ?_
      refine wf_iload_n dX2_payIn_49 rfl ?_
      refine wf_gd (fun g50 => ?_)
      refine wf_i2l dX2_payIn_50 g50 ?_
      refine wf_ladd dX2_payIn_51 ?_
      refine wf_p_accl (f := 4) dX2_payIn_52 p_RX2_109 hk (by omega) (fun H52 => ?_)
      refine wf_aload_n dX2_payIn_55 rfl ?_
      refine wf_get dX2_payIn_56 f_RX2_20 (fun h hr => rd_h hr setH_at hk) ?_
      refine wf_iload_n dX2_payIn_59 rfl ?_
      refine wf_gd (fun g60 => ?_)
      refine wf_aald_acc dX2_payIn_60 g60 (fun h hr => rd_accs hr setH_at hk) ?_
      refine wf_get dX2_payIn_61 f_RX2_105 (fun h hr => rd_acc hr setH_at hk (by omega)) ?_
      refine wf_lconst0 dX2_payIn_64 ?_
      refine wf_gd (fun g65 => ?_)
      refine wf_jcmp_lt 73 dX2_payIn_65 dX2_payIn_66 g65 (by decide) (fun h65 => ?_) (fun h65 => ?_)
      · refine wf_iconst dX2_payIn_73 ?_
        exact wf_ireturn dX2_payIn_74 ⟨_, rfl, rfl⟩
      · refine wf_iconst dX2_payIn_69 ?_
        refine wf_goto 74 dX2_payIn_70 ?_
        exact wf_ireturn dX2_payIn_74 ⟨_, rfl, rfl⟩
    · refine wf_bipush dX2_payIn_20 ?_
      exact wf_ireturn dX2_payIn_22 ⟨_, rfl, rfl⟩
  · refine wf_iconst dX2_payIn_8 ?_
    exact wf_ireturn dX2_payIn_9 ⟨_, rfl, rfl⟩
set_option maxRecDepth 100000 in
set_option maxHeartbeats 4000000 in
theorem pX2_replaceSetting {E : wE} {n : Nat} (hE : wGE E) {G : gR} {k : Int} (hk : 0 ≤ k ∧ k < 11) (x1 : Int) (x2 : Int)  (H : hR) (ca : caT) : WF E (n + 1) yX2_replaceSetting cX2_replaceSetting 4 (some .int) vI (setH G k) ca 0 (wArgs [.ref (aH E k), .int (iI x1), .int (iI x2)]) [] H (fX2_replaceSetting x1 x2 H) := by
  unfold fX2_replaceSetting
  refine wf_iload_n dX2_replaceSetting_0 rfl ?_
  refine wf_iconst dX2_replaceSetting_1 ?_
  refine wf_iconst dX2_replaceSetting_2 ?_
  refine wf_rSN dX2_replaceSetting_3 k_RX2_77 b_yX6_isBetween x_yX6_isBetween (fun h hr => pX6_isBetween (n := n) hE x1 0 3) (fun r3 => ?_)
  refine wf_gd (fun g6 => ?_)
  refine wf_if_ne 12 dX2_replaceSetting_6 g6 (fun h6 => ?_) (fun h6 => ?_)
  · refine wf_iload_n dX2_replaceSetting_12 rfl ?_
    refine wf_getsN (k := 0) (host := "StandingPayments") dX2_replaceSetting_13 rfl (by simp [wNF]; exact rfl) (hE.1.1) ?_
    refine wf_iload_n dX2_replaceSetting_16 rfl ?_
    refine wf_gd (fun g17 => ?_)
    refine wf_ro dX2_replaceSetting_17 (hE.1.2) g17 ?_
    refine wf_getsN (k := 1) (host := "StandingPayments") dX2_replaceSetting_18 rfl (by simp [wNF]; exact rfl) (hE.2.1.1) ?_
    refine wf_iload_n dX2_replaceSetting_21 rfl ?_
    refine wf_gd (fun g22 => ?_)
    refine wf_ro dX2_replaceSetting_22 (hE.2.1.2) g22 ?_
    refine wf_rSN dX2_replaceSetting_23 k_RX2_77 b_yX6_isBetween x_yX6_isBetween (fun h hr => pX6_isBetween (n := n) hE x2 (sRow 0 x1) (sRow 1 x1)) (fun r23 => ?_)
    refine wf_gd (fun g26 => ?_)
    refine wf_if_ne 32 dX2_replaceSetting_26 g26 (fun h26 => ?_) (fun h26 => ?_)
    · refine wf_aload_n dX2_replaceSetting_32 rfl ?_
      refine wf_iload_n dX2_replaceSetting_33 rfl ?_
      refine wf_rV dX2_replaceSetting_34 k_RX2_88 b_yX2_settingOf x_yX2_settingOf (fun h hr => pX2_settingOf (n := n) hE hr setH_at hk x1) (fun h hr => rd_h hr setH_at hk) rfl (fun r34 => ?_)
      refine wf_istore_n dX2_replaceSetting_37 ?_
      refine wf_iload_n dX2_replaceSetting_38 rfl ?_
      refine wf_gd (fun g39 => ?_)
      refine wf_ite (fun e39_0 => ?_) (fun e39_0 => ?_)
      · refine wf_tsK 0 64 dX2_replaceSetting_39 e39_0 ?_
        refine wf_aload_n dX2_replaceSetting_64 rfl ?_
        refine wf_iload_n dX2_replaceSetting_65 rfl ?_
        refine wf_p_h (f := 7) dX2_replaceSetting_66 p_RX2_37 hk (fun H66 => ?_)
        refine wf_goto 96 dX2_replaceSetting_69 ?_
        refine wf_iload_n dX2_replaceSetting_96 rfl ?_
        exact wf_ireturn dX2_replaceSetting_97 ⟨_, rfl, rfl⟩
      refine wf_ite (fun e39_1 => ?_) (fun e39_1 => ?_)
      · refine wf_tsK 1 72 dX2_replaceSetting_39 e39_1 ?_
        refine wf_aload_n dX2_replaceSetting_72 rfl ?_
        refine wf_iload_n dX2_replaceSetting_73 rfl ?_
        refine wf_p_h (f := 8) dX2_replaceSetting_74 p_RX2_41 hk (fun H74 => ?_)
        refine wf_goto 96 dX2_replaceSetting_77 ?_
        refine wf_iload_n dX2_replaceSetting_96 rfl ?_
        exact wf_ireturn dX2_replaceSetting_97 ⟨_, rfl, rfl⟩
      refine wf_ite (fun e39_2 => ?_) (fun e39_2 => ?_)
      · refine wf_tsK 2 80 dX2_replaceSetting_39 e39_2 ?_
        refine wf_aload_n dX2_replaceSetting_80 rfl ?_
        refine wf_iload_n dX2_replaceSetting_81 rfl ?_
        refine wf_p_h (f := 9) dX2_replaceSetting_82 p_RX2_44 hk (fun H82 => ?_)
        refine wf_goto 96 dX2_replaceSetting_85 ?_
        refine wf_iload_n dX2_replaceSetting_96 rfl ?_
        exact wf_ireturn dX2_replaceSetting_97 ⟨_, rfl, rfl⟩
      refine wf_tsOut (z := x1) 88 dX2_replaceSetting_39 g39 (by omega) ?_
      refine wf_aload_n dX2_replaceSetting_88 rfl ?_
      refine wf_get dX2_replaceSetting_89 f_RX2_12 (fun h hr => rd_h hr setH_at hk) ?_
      refine wf_iload_n dX2_replaceSetting_92 rfl ?_
      refine wf_p_cal (f := 2) dX2_replaceSetting_93 p_RX2_74 hk (fun H93 => ?_)
      refine wf_iload_n dX2_replaceSetting_96 rfl ?_
      exact wf_ireturn dX2_replaceSetting_97 ⟨_, rfl, rfl⟩
    · refine wf_bipush dX2_replaceSetting_29 ?_
      exact wf_ireturn dX2_replaceSetting_31 ⟨_, rfl, rfl⟩
  · refine wf_bipush dX2_replaceSetting_9 ?_
    exact wf_ireturn dX2_replaceSetting_11 ⟨_, rfl, rfl⟩
set_option maxRecDepth 100000 in
set_option maxHeartbeats 4000000 in
theorem pX2_resumeOrder {E : wE} {n : Nat} (hE : wGE E) {G : gR} {k : Int} (hk : 0 ≤ k ∧ k < 11) (x1 : Int)  (H : hR) (ca : caT) : WF E (n + 5) yX2_resumeOrder cX2_resumeOrder 2 (some .int) vI (setH G k) ca 0 (wArgs [.ref (aH E k), .int (iI x1)]) [] H (fX2_resumeOrder x1 H) := by
  unfold fX2_resumeOrder
  refine wf_aload_n dX2_resumeOrder_0 rfl ?_
  refine wf_iload_n dX2_resumeOrder_1 rfl ?_
  refine wf_rV dX2_resumeOrder_2 k_RX2_124 b_yX2_hasOrder x_yX2_hasOrder (fun h hr => pX2_hasOrder (n := n + 4) hE hr setH_at hk x1) (fun h hr => rd_h hr setH_at hk) rfl (fun r2 => ?_)
  refine wf_gd (fun g5 => ?_)
  refine wf_if_ne 10 dX2_resumeOrder_5 g5 (fun h5 => ?_) (fun h5 => ?_)
  · refine wf_aload_n dX2_resumeOrder_10 rfl ?_
    refine wf_get dX2_resumeOrder_11 f_RX2_26 (fun h hr => rd_h hr setH_at hk) ?_
    refine wf_iload_n dX2_resumeOrder_14 rfl ?_
    refine wf_gd (fun g15 => ?_)
    refine wf_aald_ord dX2_resumeOrder_15 g15 (fun h hr => rd_ords hr setH_at hk) ?_
    refine wf_get dX2_resumeOrder_16 f_RX2_127 (fun h hr => rd_ord hr setH_at hk (by omega)) ?_
    refine wf_iconst dX2_resumeOrder_19 ?_
    refine wf_gd (fun g20 => ?_)
    refine wf_icmp_eq 26 dX2_resumeOrder_20 g20 (by decide) (fun h20 => ?_) (fun h20 => ?_)
    · refine wf_aload_n dX2_resumeOrder_26 rfl ?_
      refine wf_get dX2_resumeOrder_27 f_RX2_26 (fun h hr => rd_h hr setH_at hk) ?_
      refine wf_iload_n dX2_resumeOrder_30 rfl ?_
      refine wf_gd (fun g31 => ?_)
      refine wf_aald_ord dX2_resumeOrder_31 g31 (fun h hr => rd_ords hr setH_at hk) ?_
      refine wf_iconst dX2_resumeOrder_32 ?_
      refine wf_p_ord (f := 11) dX2_resumeOrder_33 p_RX2_127 hk (by omega) (fun H33 => ?_)
      refine wf_aload_n dX2_resumeOrder_36 rfl ?_
      refine wf_get dX2_resumeOrder_37 f_RX2_26 (fun h hr => rd_h hr setH_at hk) ?_
      refine wf_iload_n dX2_resumeOrder_40 rfl ?_
      refine wf_gd (fun g41 => ?_)
      refine wf_aald_ord dX2_resumeOrder_41 g41 (fun h hr => rd_ords hr setH_at hk) ?_
      refine wf_aload_n dX2_resumeOrder_42 rfl ?_
      refine wf_get dX2_resumeOrder_43 f_RX2_68 (fun h hr => rd_h hr setH_at hk) ?_
      refine wf_aload_n dX2_resumeOrder_46 rfl ?_
      refine wf_get dX2_resumeOrder_47 f_RX2_12 (fun h hr => rd_h hr setH_at hk) ?_
      refine wf_cV (put := fun q => q) dX2_resumeOrder_50 k_RX2_119 b_yX3_leaveOutBefore x_yX3_leaveOutBefore (pX3_leaveOutBefore (n := n) hE (G := G) (k := k) hk x1 (H33.1 0 6 0) (by omega) _ _) rfl (fun _ => rfl) (fun h hr => rd_ord hr setH_at hk (by omega)) rfl (fun r50 H50 ca => ?_)
      exact wf_ireturn dX2_resumeOrder_53 ⟨_, rfl, rfl⟩
    · refine wf_bipush dX2_resumeOrder_23 ?_
      exact wf_ireturn dX2_resumeOrder_25 ⟨_, rfl, rfl⟩
  · refine wf_iconst dX2_resumeOrder_8 ?_
    exact wf_ireturn dX2_resumeOrder_9 ⟨_, rfl, rfl⟩
set_option maxRecDepth 100000 in
set_option maxHeartbeats 4000000 in
theorem pX2_stopOrder {E : wE} {n : Nat} (hE : wGE E) {G : gR} {k : Int} (hk : 0 ≤ k ∧ k < 11) (x1 : Int)  (H : hR) (ca : caT) : WF E (n + 1) yX2_stopOrder cX2_stopOrder 2 (some .int) vI (setH G k) ca 0 (wArgs [.ref (aH E k), .int (iI x1)]) [] H (fX2_stopOrder x1 H) := by
  unfold fX2_stopOrder
  refine wf_aload_n dX2_stopOrder_0 rfl ?_
  refine wf_iload_n dX2_stopOrder_1 rfl ?_
  refine wf_rV dX2_stopOrder_2 k_RX2_124 b_yX2_hasOrder x_yX2_hasOrder (fun h hr => pX2_hasOrder (n := n) hE hr setH_at hk x1) (fun h hr => rd_h hr setH_at hk) rfl (fun r2 => ?_)
  refine wf_gd (fun g5 => ?_)
  refine wf_if_ne 10 dX2_stopOrder_5 g5 (fun h5 => ?_) (fun h5 => ?_)
  · refine wf_aload_n dX2_stopOrder_10 rfl ?_
    refine wf_get dX2_stopOrder_11 f_RX2_26 (fun h hr => rd_h hr setH_at hk) ?_
    refine wf_iload_n dX2_stopOrder_14 rfl ?_
    refine wf_gd (fun g15 => ?_)
    refine wf_aald_ord dX2_stopOrder_15 g15 (fun h hr => rd_ords hr setH_at hk) ?_
    refine wf_get dX2_stopOrder_16 f_RX2_127 (fun h hr => rd_ord hr setH_at hk (by omega)) ?_
    refine wf_gd (fun g19 => ?_)
    refine wf_if_eq 25 dX2_stopOrder_19 g19 (fun h19 => ?_) (fun h19 => ?_)
    · refine wf_aload_n dX2_stopOrder_25 rfl ?_
      refine wf_get dX2_stopOrder_26 f_RX2_26 (fun h hr => rd_h hr setH_at hk) ?_
      refine wf_iload_n dX2_stopOrder_29 rfl ?_
      refine wf_gd (fun g30 => ?_)
      refine wf_aald_ord dX2_stopOrder_30 g30 (fun h hr => rd_ords hr setH_at hk) ?_
      refine wf_iconst dX2_stopOrder_31 ?_
      refine wf_p_ord (f := 11) dX2_stopOrder_32 p_RX2_127 hk (by omega) (fun H32 => ?_)
      refine wf_aload_n dX2_stopOrder_35 rfl ?_
      refine wf_get dX2_stopOrder_36 f_RX2_26 (fun h hr => rd_h hr setH_at hk) ?_
      refine wf_iload_n dX2_stopOrder_39 rfl ?_
      refine wf_gd (fun g40 => ?_)
      refine wf_aald_ord dX2_stopOrder_40 g40 (fun h hr => rd_ords hr setH_at hk) ?_
      refine wf_get dX2_stopOrder_41 f_RX2_136 (fun h hr => rd_ord hr setH_at hk (by omega)) ?_
      exact wf_ireturn dX2_stopOrder_44 ⟨_, rfl, rfl⟩
    · refine wf_bipush dX2_stopOrder_22 ?_
      exact wf_ireturn dX2_stopOrder_24 ⟨_, rfl, rfl⟩
  · refine wf_iconst dX2_stopOrder_8 ?_
    exact wf_ireturn dX2_stopOrder_9 ⟨_, rfl, rfl⟩
set_option maxRecDepth 100000 in
set_option maxHeartbeats 4000000 in
theorem pX3_dateBehindNext_b26 {E : wE} {n : Nat} (hE : wGE E) {G : gR} {k : Int} (hk : 0 ≤ k ∧ k < 11) (x0 : Int) (x1 : Int) (hbx0 : 0 ≤ x0 ∧ x0 < 16) (H : hR) (ca : caT) : WF E (n + 4) yX3_dateBehindNext cX3_dateBehindNext 4 (some .int) vI (setH G k) ca 26 (wLs [some (.ref (aOrd E k x0)), some (.int (iI x1)), some (.ref (aCal E k))]) [] H (fX3_dateBehindNext_b26 x0 x1 H) := by
  unfold fX3_dateBehindNext_b26
  refine wf_aload_n dX3_dateBehindNext_26 rfl ?_
  refine wf_aload_n dX3_dateBehindNext_27 rfl ?_
  refine wf_cV (put := fun q => q) dX3_dateBehindNext_28 k_RX3_101 b_yX3_aim x_yX3_aim (pX3_aim (n := n) hE (G := G) (k := k) hk x0 (by omega) _ _) rfl (fun _ => rfl) (fun h hr => rd_ord hr setH_at hk (by omega)) rfl (fun r28 H28 ca => ?_)
  refine wf_aload_n dX3_dateBehindNext_31 rfl ?_
  refine wf_aload_n dX3_dateBehindNext_32 rfl ?_
  refine wf_get dX3_dateBehindNext_33 f_RX3_85 (fun h hr => rd_ord hr setH_at hk (by omega)) ?_
  refine wf_iload_n dX3_dateBehindNext_36 rfl ?_
  refine wf_iadd dX3_dateBehindNext_37 ?_
  refine wf_aload_n dX3_dateBehindNext_38 rfl ?_
  refine wf_rV dX3_dateBehindNext_39 k_RX3_88 b_yX3_nominalDay x_yX3_nominalDay (fun h hr => pX3_nominalDay (n := n + 1) hE hr setH_at hk x0 ((H28.1 3 x0 17) + x1) (by omega)) (fun h hr => rd_ord hr setH_at hk (by omega)) rfl (fun r39 => ?_)
  refine wf_istore_n dX3_dateBehindNext_42 ?_
  refine wf_iload_n dX3_dateBehindNext_43 rfl ?_
  refine wf_bipush dX3_dateBehindNext_44 ?_
  refine wf_gd (fun g46 => ?_)
  refine wf_icmp_ne 54 dX3_dateBehindNext_46 g46 (by decide) (fun h46 => ?_) (fun h46 => ?_)
  · refine wf_aload_n dX3_dateBehindNext_54 rfl ?_
    refine wf_iload_n dX3_dateBehindNext_55 rfl ?_
    refine wf_aload_n dX3_dateBehindNext_56 rfl ?_
    refine wf_get dX3_dateBehindNext_57 f_RX3_33 (fun h hr => rd_ord hr setH_at hk (by omega)) ?_
    refine wf_rV dX3_dateBehindNext_60 k_RX3_95 b_yX1_shifted x_yX1_shifted (fun h hr => pX1_shifted (n := n + 1) hE hr setH_at hk r39 (H28.1 3 x0 7)) (fun h hr => rd_cal hr setH_at hk) rfl (fun r60 => ?_)
    exact wf_ireturn dX3_dateBehindNext_63 ⟨_, rfl, rfl⟩
  · refine wf_bipush dX3_dateBehindNext_49 ?_
    refine wf_goto 63 dX3_dateBehindNext_51 ?_
    exact wf_ireturn dX3_dateBehindNext_63 ⟨_, rfl, rfl⟩
set_option maxRecDepth 100000 in
set_option maxHeartbeats 4000000 in
theorem pX3_dateBehindNext {E : wE} {n : Nat} (hE : wGE E) {G : gR} {k : Int} (hk : 0 ≤ k ∧ k < 11) (i : Int) (x1 : Int) (hbi : 0 ≤ i ∧ i < 16) (H : hR) (ca : caT) : WF E (n + 4) yX3_dateBehindNext cX3_dateBehindNext 4 (some .int) vI (setH G k) ca 0 (wArgs [.ref (aOrd E k i), .int (iI x1), .ref (aCal E k)]) [] H (fX3_dateBehindNext i x1 H) := by
  unfold fX3_dateBehindNext
  refine wf_aload_n dX3_dateBehindNext_0 rfl ?_
  refine wf_get dX3_dateBehindNext_1 f_RX3_46 (fun h hr => rd_ord hr setH_at hk (by omega)) ?_
  refine wf_iconst dX3_dateBehindNext_4 ?_
  refine wf_gd (fun g5 => ?_)
  refine wf_icmp_eq 23 dX3_dateBehindNext_5 g5 (by decide) (fun h5 => ?_) (fun h5 => ?_)
  · refine wf_bipush dX3_dateBehindNext_23 ?_
    exact wf_ireturn dX3_dateBehindNext_25 ⟨_, rfl, rfl⟩
  · refine wf_aload_n dX3_dateBehindNext_8 rfl ?_
    refine wf_get dX3_dateBehindNext_9 f_RX3_39 (fun h hr => rd_ord hr setH_at hk (by omega)) ?_
    refine wf_gd (fun g12 => ?_)
    refine wf_if_ne 26 dX3_dateBehindNext_12 g12 (fun h12 => ?_) (fun h12 => ?_)
    · exact wf_at (pX3_dateBehindNext_b26 (n := n) hE hk  i x1 (by omega) _ _) ⟨rfl, rfl, rfl, trivial⟩
    · refine wf_iload_n dX3_dateBehindNext_15 rfl ?_
      refine wf_aload_n dX3_dateBehindNext_16 rfl ?_
      refine wf_get dX3_dateBehindNext_17 f_RX3_43 (fun h hr => rd_ord hr setH_at hk (by omega)) ?_
      refine wf_gd (fun g20 => ?_)
      refine wf_icmp_lt 26 dX3_dateBehindNext_20 g20.1 g20.2 (fun h20 => ?_) (fun h20 => ?_)
      · exact wf_at (pX3_dateBehindNext_b26 (n := n) hE hk  i x1 (by omega) _ _) ⟨rfl, rfl, rfl, trivial⟩
      · refine wf_bipush dX3_dateBehindNext_23 ?_
        exact wf_ireturn dX3_dateBehindNext_25 ⟨_, rfl, rfl⟩
set_option maxRecDepth 100000 in
set_option maxHeartbeats 4000000 in
theorem pX4_append_b79 {E : wE} {n : Nat} (hE : wGE E) {C : cR} {M : mR} : ∀ (fuel : Nat) (x1 : Int) (x3 : Int) (x4 : Int)  (p : (Int → Int → Int)) (ca : caT), WF E (n + 1) yX4_append cX4_append 7 (some .int) vI (fun p : Int → Int → Int => ((C.1, C.2.1, p), M)) ca 79 (wLs [some (.ref (aPad E)), some (.long (jL x1)), none, some (.int (iI x3)), some (.int (iI x4))]) [] p (fX4_append_b79 fuel x1 x3 x4 p) := by
  intro fuel
  induction fuel with
  | zero =>
    intro x1 x3 x4 p ca
    exact wf_none
  | succ fuel ih =>
    intro x1 x3 x4 p ca
    unfold fX4_append_b79
    refine wf_iload dX4_append_79 rfl ?_
    refine wf_iload_n dX4_append_81 rfl ?_
    refine wf_gd (fun g82 => ?_)
    refine wf_icmp_ge 120 dX4_append_82 g82.1 g82.2 (fun h82 => ?_) (fun h82 => ?_)
    · refine wf_aload_n dX4_append_120 rfl ?_
      refine wf_dup dX4_append_121 ?_
      refine wf_get dX4_append_122 f_RX4_21 (fun h hr => rd_pad hr) ?_
      refine wf_iload_n dX4_append_125 rfl ?_
      refine wf_iadd dX4_append_126 ?_
      refine wf_p_padf (f := 1) dX4_append_127 p_RX4_21 (fun p127 => ?_)
      refine wf_aload_n dX4_append_130 rfl ?_
      refine wf_get dX4_append_131 f_RX4_21 (fun h hr => rd_pad hr) ?_
      exact wf_ireturn dX4_append_134 ⟨_, rfl, rfl⟩
    · refine wf_aload_n dX4_append_85 rfl ?_
      refine wf_get dX4_append_86 f_RX4_11 (fun h hr => rd_pad hr) ?_
      refine wf_aload_n dX4_append_89 rfl ?_
      refine wf_get dX4_append_90 f_RX4_21 (fun h hr => rd_pad hr) ?_
      refine wf_iload dX4_append_93 rfl ?_
      refine wf_iadd dX4_append_95 ?_
      refine wf_lload_n dX4_append_96 rfl ?_
      refine wf_bipush dX4_append_97 ?_
      refine wf_iload_n dX4_append_99 rfl ?_
      refine wf_iconst dX4_append_100 ?_
      refine wf_isub dX4_append_101 ?_
      refine wf_iload dX4_append_102 rfl ?_
      refine wf_isub dX4_append_104 ?_
      refine wf_imul dX4_append_105 ?_
      refine wf_lushr dX4_append_106 ?_
      refine wf_ldc2 dX4_append_107 c_RX4_15 ?_
      refine wf_land dX4_append_110 ?_
      refine wf_l2i dX4_append_111 ?_
      refine wf_i2c dX4_append_112 ?_
      refine wf_gd (fun g113 => ?_)
      refine wf_s_signs dX4_append_113 g113.1 (nar_c g113.2) (fun p113 => ?_)
      refine wf_iinc dX4_append_114 rfl ?_
      refine wf_goto 79 dX4_append_117 ?_
      exact wf_at (ih x1 x3 (x4 + 1) _ _) ⟨rfl, rfl, rfl, rfl, trivial⟩
set_option maxRecDepth 100000 in
set_option maxHeartbeats 4000000 in
theorem pX4_append_b55 {E : wE} {n : Nat} (hE : wGE E) {C : cR} {M : mR} (x1 : Int) (x3 : Int)  (p : (Int → Int → Int)) (ca : caT) : WF E (n + 1) yX4_append cX4_append 7 (some .int) vI (fun p : Int → Int → Int => ((C.1, C.2.1, p), M)) ca 55 (wLs [some (.ref (aPad E)), some (.long (jL x1)), none, some (.int (iI x3))]) [] p (fX4_append_b55 x1 x3 p) := by
  unfold fX4_append_b55
  refine wf_iload_n dX4_append_55 rfl ?_
  refine wf_gd (fun g56 => ?_)
  refine wf_if_ne 62 dX4_append_56 g56 (fun h56 => ?_) (fun h56 => ?_)
  · refine wf_aload_n dX4_append_62 rfl ?_
    refine wf_get dX4_append_63 f_RX4_21 (fun h hr => rd_pad hr) ?_
    refine wf_iload_n dX4_append_66 rfl ?_
    refine wf_iadd dX4_append_67 ?_
    refine wf_bipush dX4_append_68 ?_
    refine wf_gd (fun g70 => ?_)
    refine wf_icmp_le 76 dX4_append_70 g70 (by decide) (fun h70 => ?_) (fun h70 => ?_)
    · refine wf_iconst dX4_append_76 ?_
      refine wf_istore dX4_append_77 ?_
      exact wf_at (pX4_append_b79 (n := n) hE  fuel0 x1 x3 0 _ _) ⟨rfl, rfl, rfl, rfl, trivial⟩
    · refine wf_bipush dX4_append_73 ?_
      exact wf_ireturn dX4_append_75 ⟨_, rfl, rfl⟩
  · refine wf_bipush dX4_append_59 ?_
    exact wf_ireturn dX4_append_61 ⟨_, rfl, rfl⟩
set_option maxRecDepth 100000 in
set_option maxHeartbeats 4000000 in
theorem pX4_append_b5 {E : wE} {n : Nat} (hE : wGE E) {C : cR} {M : mR} : ∀ (fuel : Nat) (x1 : Int) (x3 : Int) (x4 : Int)  (p : (Int → Int → Int)) (ca : caT), WF E (n + 1) yX4_append cX4_append 7 (some .int) vI (fun p : Int → Int → Int => ((C.1, C.2.1, p), M)) ca 5 (wLs [some (.ref (aPad E)), some (.long (jL x1)), none, some (.int (iI x3)), some (.long (jL x4))]) [] p (fX4_append_b5 fuel x1 x3 x4 p) := by
  intro fuel
  induction fuel with
  | zero =>
    intro x1 x3 x4 p ca
    exact wf_none
  | succ fuel ih =>
    intro x1 x3 x4 p ca
    unfold fX4_append_b5
    refine wf_iload_n dX4_append_5 rfl ?_
    refine wf_bipush dX4_append_6 ?_
    refine wf_gd (fun g8 => ?_)
    refine wf_icmp_ge 55 dX4_append_8 g8 (by decide) (fun h8 => ?_) (fun h8 => ?_)
    · exact wf_at (pX4_append_b55 (n := n) hE  x1 x3 _ _) ⟨rfl, rfl, rfl, trivial⟩
    · refine wf_lload dX4_append_11 rfl ?_
      refine wf_lconst0 dX4_append_13 ?_
      refine wf_gd (fun g14 => ?_)
      refine wf_jcmp_eq 55 dX4_append_14 dX4_append_15 g14 (by decide) (fun h14 => ?_) (fun h14 => ?_)
      · exact wf_at (pX4_append_b55 (n := n) hE  x1 x3 _ _) ⟨rfl, rfl, rfl, trivial⟩
      · refine wf_lload dX4_append_18 rfl ?_
        refine wf_ldc2 dX4_append_20 c_RX4_15 ?_
        refine wf_land dX4_append_23 ?_
        refine wf_l2i dX4_append_24 ?_
        refine wf_istore dX4_append_25 ?_
        refine wf_iload dX4_append_27 rfl ?_
        refine wf_bipush dX4_append_29 ?_
        refine wf_bipush dX4_append_31 ?_
        refine wf_rSN dX4_append_33 k_RX4_17 b_yX6_isBetween x_yX6_isBetween (fun h hr => pX6_isBetween (n := n) hE (landI x4 255) 33 126) (fun r33 => ?_)
        refine wf_gd (fun g36 => ?_)
        refine wf_if_ne 42 dX4_append_36 g36 (fun h36 => ?_) (fun h36 => ?_)
        · refine wf_lload dX4_append_42 rfl ?_
          refine wf_bipush dX4_append_44 ?_
          refine wf_lushr dX4_append_46 ?_
          refine wf_lstore dX4_append_47 ?_
          refine wf_iinc dX4_append_49 rfl ?_
          refine wf_goto 5 dX4_append_52 ?_
          exact wf_at (ih x1 (x3 + 1) (lushrI x4 8) _ _) ⟨rfl, rfl, rfl, rfl, trivial⟩
        · refine wf_bipush dX4_append_39 ?_
          exact wf_ireturn dX4_append_41 ⟨_, rfl, rfl⟩
set_option maxRecDepth 100000 in
set_option maxHeartbeats 4000000 in
theorem pX4_append {E : wE} {n : Nat} (hE : wGE E) {C : cR} {M : mR} (x1 : Int)  (p : (Int → Int → Int)) (ca : caT) : WF E (n + 1) yX4_append cX4_append 7 (some .int) vI (fun p : Int → Int → Int => ((C.1, C.2.1, p), M)) ca 0 (wArgs [.ref (aPad E), .long (jL x1)]) [] p (fX4_append x1 p) := by
  unfold fX4_append
  refine wf_iconst dX4_append_0 ?_
  refine wf_istore_n dX4_append_1 ?_
  refine wf_lload_n dX4_append_2 rfl ?_
  refine wf_lstore dX4_append_3 ?_
  exact wf_at (pX4_append_b5 (n := n) hE  fuel0 x1 0 x1 _ _) ⟨rfl, rfl, rfl, rfl, trivial⟩
set_option maxRecDepth 100000 in
set_option maxHeartbeats 4000000 in
theorem pX4_sign {E : wE} {n : Nat} (hE : wGE E) {C : cR} {M : mR} {p : Int → Int → Int} {ca : caT} {h : hW} (hr : rep E ((C.1, C.2.1, p), M) ca h)   : WR E n yX4_sign cX4_sign 1 (some .char) vI h 0 (wArgs [.ref (aPad E)]) [] (fX4_sign  p) := by
  unfold fX4_sign
  refine wr_aload_n dX4_sign_0 rfl ?_
  refine wr_get dX4_sign_1 f_RX4_25 (rd_pad hr) ?_
  refine wr_gd (fun g4 => ?_)
  refine wr_if_lt 39 dX4_sign_4 g4 (fun h4 => ?_) (fun h4 => ?_)
  · refine wr_iconst dX4_sign_39 ?_
    exact wr_ireturn dX4_sign_40 ⟨_, rfl, rfl⟩
  · refine wr_aload_n dX4_sign_7 rfl ?_
    refine wr_get dX4_sign_8 f_RX4_25 (rd_pad hr) ?_
    refine wr_aload_n dX4_sign_11 rfl ?_
    refine wr_get dX4_sign_12 f_RX4_21 (rd_pad hr) ?_
    refine wr_gd (fun g15 => ?_)
    refine wr_icmp_ge 39 dX4_sign_15 g15.1 g15.2 (fun h15 => ?_) (fun h15 => ?_)
    · refine wr_iconst dX4_sign_39 ?_
      exact wr_ireturn dX4_sign_40 ⟨_, rfl, rfl⟩
    · refine wr_aload_n dX4_sign_18 rfl ?_
      refine wr_get dX4_sign_19 f_RX4_25 (rd_pad hr) ?_
      refine wr_bipush dX4_sign_22 ?_
      refine wr_gd (fun g24 => ?_)
      refine wr_icmp_ge 39 dX4_sign_24 g24 (by decide) (fun h24 => ?_) (fun h24 => ?_)
      · refine wr_iconst dX4_sign_39 ?_
        exact wr_ireturn dX4_sign_40 ⟨_, rfl, rfl⟩
      · refine wr_aload_n dX4_sign_27 rfl ?_
        refine wr_get dX4_sign_28 f_RX4_11 (rd_pad hr) ?_
        refine wr_aload_n dX4_sign_31 rfl ?_
        refine wr_get dX4_sign_32 f_RX4_25 (rd_pad hr) ?_
        refine wr_gd (fun g35 => ?_)
        refine wr_cald dX4_sign_35 (g := fun j => p 1 j) g35 (rd_signs hr) ?_
        refine wr_goto 40 dX4_sign_36 ?_
        refine wr_gd (fun g40 => ?_)
        exact wr_ireturn dX4_sign_40 ⟨_, rfl, nar_c g40⟩
set_option maxRecDepth 100000 in
set_option maxHeartbeats 4000000 in
theorem pX4_takes {E : wE} {n : Nat} (hE : wGE E) {C : cR} {M : mR} (x1 : Int)  (p : (Int → Int → Int)) (ca : caT) : WF E (n + 1) yX4_takes cX4_takes 2 (some .boolean) vI (fun p : Int → Int → Int => ((C.1, C.2.1, p), M)) ca 0 (wArgs [.ref (aPad E), .int (iI x1)]) [] p (fX4_takes x1 p) := by
  unfold fX4_takes
  refine wf_aload_n dX4_takes_0 rfl ?_
  refine wf_rV dX4_takes_1 k_RX4_36 b_yX4_sign x_yX4_sign (fun h hr => pX4_sign (n := n) hE hr) (fun h hr => rd_pad hr) rfl (fun r1 => ?_)
  refine wf_iload_n dX4_takes_4 rfl ?_
  refine wf_gd (fun g5 => ?_)
  refine wf_icmp_eq 10 dX4_takes_5 g5.1 g5.2 (fun h5 => ?_) (fun h5 => ?_)
  · refine wf_aload_n dX4_takes_10 rfl ?_
    refine wf_dup dX4_takes_11 ?_
    refine wf_get dX4_takes_12 f_RX4_25 (fun h hr => rd_pad hr) ?_
    refine wf_iconst dX4_takes_15 ?_
    refine wf_iadd dX4_takes_16 ?_
    refine wf_p_padf (f := 2) dX4_takes_17 p_RX4_25 (fun p17 => ?_)
    refine wf_iconst dX4_takes_20 ?_
    exact wf_ireturn dX4_takes_21 ⟨_, rfl, rfl⟩
  · refine wf_iconst dX4_takes_8 ?_
    exact wf_ireturn dX4_takes_9 ⟨_, rfl, rfl⟩
set_option maxRecDepth 100000 in
set_option maxHeartbeats 4000000 in
theorem pX4_readNumber_b67 {E : wE} {n : Nat} (hE : wGE E) {C : cR} {M : mR} (x1 : Int) (x2 : Int)  (p : (Int → Int → Int)) (ca : caT) : WF E (n + 2) yX4_readNumber cX4_readNumber 3 (some .int) vI (fun p : Int → Int → Int => ((C.1, C.2.1, p), M)) ca 67 (wLs [none, some (.int (iI x1)), some (.int (iI x2))]) [] p (fX4_readNumber_b67 x1 x2 p) := by
  unfold fX4_readNumber_b67
  refine wf_iload_n dX4_readNumber_67 rfl ?_
  refine wf_gd (fun g68 => ?_)
  refine wf_if_ne 75 dX4_readNumber_68 g68 (fun h68 => ?_) (fun h68 => ?_)
  · refine wf_iload_n dX4_readNumber_75 rfl ?_
    exact wf_ireturn dX4_readNumber_76 ⟨_, rfl, rfl⟩
  · refine wf_iconst dX4_readNumber_71 ?_
    refine wf_goto 76 dX4_readNumber_72 ?_
    exact wf_ireturn dX4_readNumber_76 ⟨_, rfl, rfl⟩
set_option maxRecDepth 100000 in
set_option maxHeartbeats 4000000 in
theorem pX4_readNumber_b15 {E : wE} {n : Nat} (hE : wGE E) {C : cR} {M : mR} : ∀ (fuel : Nat) (x1 : Int) (x2 : Int)  (p : (Int → Int → Int)) (ca : caT), WF E (n + 2) yX4_readNumber cX4_readNumber 3 (some .int) vI (fun p : Int → Int → Int => ((C.1, C.2.1, p), M)) ca 15 (wLs [some (.ref (aPad E)), some (.int (iI x1)), some (.int (iI x2))]) [] p (fX4_readNumber_b15 fuel x1 x2 p) := by
  intro fuel
  induction fuel with
  | zero =>
    intro x1 x2 p ca
    exact wf_none
  | succ fuel ih =>
    intro x1 x2 p ca
    unfold fX4_readNumber_b15
    refine wf_iload_n dX4_readNumber_15 rfl ?_
    refine wf_iconst dX4_readNumber_16 ?_
    refine wf_gd (fun g17 => ?_)
    refine wf_icmp_ge 67 dX4_readNumber_17 g17 (by decide) (fun h17 => ?_) (fun h17 => ?_)
    · exact wf_at (pX4_readNumber_b67 (n := n) hE  x1 x2 _ _) ⟨rfl, rfl, trivial⟩
    · refine wf_aload_n dX4_readNumber_20 rfl ?_
      refine wf_rV dX4_readNumber_21 k_RX4_36 b_yX4_sign x_yX4_sign (fun h hr => pX4_sign (n := n + 1) hE hr) (fun h hr => rd_pad hr) rfl (fun r21 => ?_)
      refine wf_bipush dX4_readNumber_24 ?_
      refine wf_gd (fun g26 => ?_)
      refine wf_icmp_lt 67 dX4_readNumber_26 g26 (by decide) (fun h26 => ?_) (fun h26 => ?_)
      · exact wf_at (pX4_readNumber_b67 (n := n) hE  x1 x2 _ _) ⟨rfl, rfl, trivial⟩
      · refine wf_aload_n dX4_readNumber_29 rfl ?_
        refine wf_rV dX4_readNumber_30 k_RX4_36 b_yX4_sign x_yX4_sign (fun h hr => pX4_sign (n := n + 1) hE hr) (fun h hr => rd_pad hr) rfl (fun r30 => ?_)
        refine wf_bipush dX4_readNumber_33 ?_
        refine wf_gd (fun g35 => ?_)
        refine wf_icmp_gt 67 dX4_readNumber_35 g35 (by decide) (fun h35 => ?_) (fun h35 => ?_)
        · exact wf_at (pX4_readNumber_b67 (n := n) hE  x1 x2 _ _) ⟨rfl, rfl, trivial⟩
        · refine wf_bipush dX4_readNumber_38 ?_
          refine wf_iload_n dX4_readNumber_40 rfl ?_
          refine wf_imul dX4_readNumber_41 ?_
          refine wf_aload_n dX4_readNumber_42 rfl ?_
          refine wf_rV dX4_readNumber_43 k_RX4_36 b_yX4_sign x_yX4_sign (fun h hr => pX4_sign (n := n + 1) hE hr) (fun h hr => rd_pad hr) rfl (fun r43 => ?_)
          refine wf_bipush dX4_readNumber_46 ?_
          refine wf_isub dX4_readNumber_48 ?_
          refine wf_iadd dX4_readNumber_49 ?_
          refine wf_istore_n dX4_readNumber_50 ?_
          refine wf_aload_n dX4_readNumber_51 rfl ?_
          refine wf_dup dX4_readNumber_52 ?_
          refine wf_get dX4_readNumber_53 f_RX4_25 (fun h hr => rd_pad hr) ?_
          refine wf_iconst dX4_readNumber_56 ?_
          refine wf_iadd dX4_readNumber_57 ?_
          refine wf_p_padf (f := 2) dX4_readNumber_58 p_RX4_25 (fun p58 => ?_)
          refine wf_iinc dX4_readNumber_61 rfl ?_
          refine wf_goto 15 dX4_readNumber_64 ?_
          exact wf_at (ih ((10 * x1) + (r43 - 48)) (x2 + 1) _ _) ⟨rfl, rfl, rfl, trivial⟩
set_option maxRecDepth 100000 in
set_option maxHeartbeats 4000000 in
theorem pX4_readNumber {E : wE} {n : Nat} (hE : wGE E) {C : cR} {M : mR}   (p : (Int → Int → Int)) (ca : caT) : WF E (n + 2) yX4_readNumber cX4_readNumber 3 (some .int) vI (fun p : Int → Int → Int => ((C.1, C.2.1, p), M)) ca 0 (wArgs [.ref (aPad E)]) [] p (fX4_readNumber  p) := by
  unfold fX4_readNumber
  refine wf_aload_n dX4_readNumber_0 rfl ?_
  refine wf_bipush dX4_readNumber_1 ?_
  refine wf_cV (put := fun q => q) dX4_readNumber_3 k_RX4_32 b_yX4_takes x_yX4_takes (pX4_takes (n := n) hE 48 _ _) rfl (fun _ => rfl) (fun h hr => rd_pad hr) rfl (fun r3 p3 ca => ?_)
  refine wf_gd (fun g6 => ?_)
  refine wf_if_eq 11 dX4_readNumber_6 g6 (fun h6 => ?_) (fun h6 => ?_)
  · refine wf_iconst dX4_readNumber_11 ?_
    refine wf_istore_n dX4_readNumber_12 ?_
    refine wf_iconst dX4_readNumber_13 ?_
    refine wf_istore_n dX4_readNumber_14 ?_
    exact wf_at (pX4_readNumber_b15 (n := n) hE  fuel0 0 0 _ _) ⟨rfl, rfl, rfl, trivial⟩
  · refine wf_iconst dX4_readNumber_9 ?_
    exact wf_ireturn dX4_readNumber_10 ⟨_, rfl, rfl⟩
set_option maxRecDepth 100000 in
set_option maxHeartbeats 4000000 in
theorem pX4_readOneOf {E : wE} {n : Nat} (hE : wGE E) {C : cR} {M : mR} (x1 : Int) (hbx1 : 0 ≤ x1 ∧ x1 < 3) (p : Int → Int → Int) (ca : caT) : WF E (n + 5) yX4_readOneOf cX4_readOneOf 3 (some .int) vI (fun p : Int → Int → Int => ((C.1, C.2.1, p), M)) ca 0 (wArgs [.ref (aPad E), .ref (waK E x1.toNat)]) [] p (fX4_readOneOf x1 p) := by
  unfold fX4_readOneOf
  have hx : ((x1.toNat : Nat) : Int) = x1 := by omega
  refine wf_aload_n dX4_readOneOf_0 rfl ?_
  refine wf_aload_n dX4_readOneOf_1 rfl ?_
  refine wf_rV dX4_readOneOf_2 k_RX4_36 b_yX4_sign x_yX4_sign (fun h hr => pX4_sign (n := n + 4) hE hr) (fun h hr => rd_pad hr) rfl (fun r2 => ?_)
  refine wf_gd (fun g => ?_)
  rw [show (if 0 ≤ idxS x1 r2 then some (idxS x1 r2, pS p 0 2 (p 0 2 + 1)) else some (idxS x1 r2, p)) = cr (some (idxS x1 r2)) (fun r => if r < 0 then some (r, p) else bnd (pS p 0 2 (p 0 2 + 1)) fun p20 => some (r, p20)) by
    rw [cr_some, bnd_eq]
    by_cases q : 0 ≤ idxS x1 r2
    · rw [if_pos q, if_neg (by omega)]
    · rw [if_neg q, if_pos (by omega)]]
  refine wf_rVS (n := n + 4) (i := x1.toNat) (As := [.int (iI r2)]) dX4_readOneOf_5 k_RX4_86 b_yJ0_indexOf_0f7a4 x_yJ0_indexOf_0f7a4 (fun h hr => by
    have h9 := pJ0_indexOf1 (n := n) hE (h := h) (i := x1.toNat) (by omega) r2 g
    rw [hx] at h9
    exact h9) (by omega) rfl (fun r hr => ?_)
  have hw : wR r := by
    cases hr
    unfold idxS
    repeat' split
    all_goals omega
  refine wf_istore_n dX4_readOneOf_8 ?_
  refine wf_iload_n dX4_readOneOf_9 rfl ?_
  refine wf_if_lt 23 dX4_readOneOf_10 hw (fun h => ?_) (fun h => ?_)
  · refine wf_iload_n dX4_readOneOf_23 rfl ?_
    exact wf_ireturn dX4_readOneOf_24 ⟨_, rfl, rfl⟩
  · refine wf_aload_n dX4_readOneOf_13 rfl ?_
    refine wf_dup dX4_readOneOf_14 ?_
    refine wf_get dX4_readOneOf_15 f_RX4_25 (fun h hr => rd_pad hr) ?_
    refine wf_iconst dX4_readOneOf_18 ?_
    refine wf_iadd dX4_readOneOf_19 ?_
    refine wf_p_padf (f := 2) dX4_readOneOf_20 p_RX4_25 (fun p20 => ?_)
    refine wf_iload_n dX4_readOneOf_23 rfl ?_
    exact wf_ireturn dX4_readOneOf_24 ⟨_, rfl, rfl⟩
set_option maxRecDepth 100000 in
set_option maxHeartbeats 4000000 in
theorem pX4_readAmountAndDates_b71 {E : wE} {n : Nat} (hE : wGE E) {C : cR} {M : mR} (t1 : Int)  (p : (Int → Int → Int)) (ca : caT) : WF E (n + 6) yX4_readAmountAndDates cX4_readAmountAndDates 1 (some .boolean) vI (fun p : Int → Int → Int => ((C.1, C.2.1, p), M)) ca 71 (wLs [some (.ref (aPad E))]) [.int (iI t1), .ref (aPad E)] p (fX4_readAmountAndDates_b71 t1 p) := by
  unfold fX4_readAmountAndDates_b71
  refine wf_p_padf (f := 9) dX4_readAmountAndDates_71 p_RX4_78 (fun p71 => ?_)
  refine wf_aload_n dX4_readAmountAndDates_74 rfl ?_
  refine wf_get dX4_readAmountAndDates_75 f_RX4_78 (fun h hr => rd_pad hr) ?_
  refine wf_gd (fun g78 => ?_)
  refine wf_if_ge 83 dX4_readAmountAndDates_78 g78 (fun h78 => ?_) (fun h78 => ?_)
  · refine wf_aload_n dX4_readAmountAndDates_83 rfl ?_
    refine wf_aload_n dX4_readAmountAndDates_84 rfl ?_
    refine wf_ldcS 2 dX4_readAmountAndDates_85 rfl ?_
    refine wf_cV (put := fun q => q) dX4_readAmountAndDates_87 k_RX4_68 b_yX4_readOneOf x_yX4_readOneOf (pX4_readOneOf (n := n) hE 2 (by decide) _ _) rfl (fun _ => rfl) (fun h hr => rd_pad hr) rfl (fun r87 p87 ca => ?_)
    refine wf_p_padf (f := 10) dX4_readAmountAndDates_90 p_RX4_83 (fun p90 => ?_)
    refine wf_aload_n dX4_readAmountAndDates_93 rfl ?_
    refine wf_get dX4_readAmountAndDates_94 f_RX4_83 (fun h hr => rd_pad hr) ?_
    refine wf_gd (fun g97 => ?_)
    refine wf_if_lt 104 dX4_readAmountAndDates_97 g97 (fun h97 => ?_) (fun h97 => ?_)
    · refine wf_iconst dX4_readAmountAndDates_104 ?_
      exact wf_ireturn dX4_readAmountAndDates_105 ⟨_, rfl, rfl⟩
    · refine wf_iconst dX4_readAmountAndDates_100 ?_
      refine wf_goto 105 dX4_readAmountAndDates_101 ?_
      exact wf_ireturn dX4_readAmountAndDates_105 ⟨_, rfl, rfl⟩
  · refine wf_iconst dX4_readAmountAndDates_81 ?_
    exact wf_ireturn dX4_readAmountAndDates_82 ⟨_, rfl, rfl⟩
set_option maxRecDepth 100000 in
set_option maxHeartbeats 4000000 in
theorem pX4_readAmountAndDates {E : wE} {n : Nat} (hE : wGE E) {C : cR} {M : mR}   (p : (Int → Int → Int)) (ca : caT) : WF E (n + 6) yX4_readAmountAndDates cX4_readAmountAndDates 1 (some .boolean) vI (fun p : Int → Int → Int => ((C.1, C.2.1, p), M)) ca 0 (wArgs [.ref (aPad E)]) [] p (fX4_readAmountAndDates  p) := by
  unfold fX4_readAmountAndDates
  refine wf_aload_n dX4_readAmountAndDates_0 rfl ?_
  refine wf_aload_n dX4_readAmountAndDates_1 rfl ?_
  refine wf_cV (put := fun q => q) dX4_readAmountAndDates_2 k_RX4_50 b_yX4_readNumber x_yX4_readNumber (pX4_readNumber (n := n + 3) hE _ _) rfl (fun _ => rfl) (fun h hr => rd_pad hr) rfl (fun r2 p2 ca => ?_)
  refine wf_p_padf (f := 6) dX4_readAmountAndDates_5 p_RX4_54 (fun p5 => ?_)
  refine wf_aload_n dX4_readAmountAndDates_8 rfl ?_
  refine wf_get dX4_readAmountAndDates_9 f_RX4_54 (fun h hr => rd_pad hr) ?_
  refine wf_gd (fun g12 => ?_)
  refine wf_if_ge 17 dX4_readAmountAndDates_12 g12 (fun h12 => ?_) (fun h12 => ?_)
  · refine wf_aload_n dX4_readAmountAndDates_17 rfl ?_
    refine wf_aload_n dX4_readAmountAndDates_18 rfl ?_
    refine wf_ldcS 1 dX4_readAmountAndDates_19 rfl ?_
    refine wf_cV (put := fun q => q) dX4_readAmountAndDates_21 k_RX4_68 b_yX4_readOneOf x_yX4_readOneOf (pX4_readOneOf (n := n) hE 1 (by decide) _ _) rfl (fun _ => rfl) (fun h hr => rd_pad hr) rfl (fun r21 p21 ca => ?_)
    refine wf_p_padf (f := 7) dX4_readAmountAndDates_24 p_RX4_72 (fun p24 => ?_)
    refine wf_aload_n dX4_readAmountAndDates_27 rfl ?_
    refine wf_get dX4_readAmountAndDates_28 f_RX4_72 (fun h hr => rd_pad hr) ?_
    refine wf_gd (fun g31 => ?_)
    refine wf_if_ge 36 dX4_readAmountAndDates_31 g31 (fun h31 => ?_) (fun h31 => ?_)
    · refine wf_aload_n dX4_readAmountAndDates_36 rfl ?_
      refine wf_aload_n dX4_readAmountAndDates_37 rfl ?_
      refine wf_cV (put := fun q => q) dX4_readAmountAndDates_38 k_RX4_50 b_yX4_readNumber x_yX4_readNumber (pX4_readNumber (n := n + 3) hE _ _) rfl (fun _ => rfl) (fun h hr => rd_pad hr) rfl (fun r38 p38 ca => ?_)
      refine wf_p_padf (f := 8) dX4_readAmountAndDates_41 p_RX4_75 (fun p41 => ?_)
      refine wf_aload_n dX4_readAmountAndDates_44 rfl ?_
      refine wf_get dX4_readAmountAndDates_45 f_RX4_75 (fun h hr => rd_pad hr) ?_
      refine wf_gd (fun g48 => ?_)
      refine wf_if_ge 53 dX4_readAmountAndDates_48 g48 (fun h48 => ?_) (fun h48 => ?_)
      · refine wf_aload_n dX4_readAmountAndDates_53 rfl ?_
        refine wf_aload_n dX4_readAmountAndDates_54 rfl ?_
        refine wf_bipush dX4_readAmountAndDates_55 ?_
        refine wf_cV (put := fun q => q) dX4_readAmountAndDates_57 k_RX4_32 b_yX4_takes x_yX4_takes (pX4_takes (n := n + 4) hE 47 _ _) rfl (fun _ => rfl) (fun h hr => rd_pad hr) rfl (fun r57 p57 ca => ?_)
        refine wf_gd (fun g60 => ?_)
        refine wf_if_eq 70 dX4_readAmountAndDates_60 g60 (fun h60 => ?_) (fun h60 => ?_)
        · refine wf_iconst dX4_readAmountAndDates_70 ?_
          exact wf_at (pX4_readAmountAndDates_b71 (n := n) hE  1 _ _) ⟨rfl, trivial⟩
        · refine wf_aload_n dX4_readAmountAndDates_63 rfl ?_
          refine wf_cV (put := fun q => q) dX4_readAmountAndDates_64 k_RX4_50 b_yX4_readNumber x_yX4_readNumber (pX4_readNumber (n := n + 3) hE _ _) rfl (fun _ => rfl) (fun h hr => rd_pad hr) rfl (fun r64 p64 ca => ?_)
          refine wf_goto 71 dX4_readAmountAndDates_67 ?_
          exact wf_at (pX4_readAmountAndDates_b71 (n := n) hE  r64 _ _) ⟨rfl, trivial⟩
      · refine wf_iconst dX4_readAmountAndDates_51 ?_
        exact wf_ireturn dX4_readAmountAndDates_52 ⟨_, rfl, rfl⟩
    · refine wf_iconst dX4_readAmountAndDates_34 ?_
      exact wf_ireturn dX4_readAmountAndDates_35 ⟨_, rfl, rfl⟩
  · refine wf_iconst dX4_readAmountAndDates_15 ?_
    exact wf_ireturn dX4_readAmountAndDates_16 ⟨_, rfl, rfl⟩
set_option maxRecDepth 100000 in
set_option maxHeartbeats 4000000 in
theorem pX4_readDigit {E : wE} {n : Nat} (hE : wGE E) {C : cR} {M : mR}   (p : (Int → Int → Int)) (ca : caT) : WF E (n + 6) yX4_readDigit cX4_readDigit 1 (some .int) vI (fun p : Int → Int → Int => ((C.1, C.2.1, p), M)) ca 0 (wArgs [.ref (aPad E)]) [] p (fX4_readDigit  p) := by
  unfold fX4_readDigit
  refine wf_aload_n dX4_readDigit_0 rfl ?_
  refine wf_ldcS 0 dX4_readDigit_1 rfl ?_
  refine wf_cV (put := fun q => q) dX4_readDigit_3 k_RX4_68 b_yX4_readOneOf x_yX4_readOneOf (pX4_readOneOf (n := n) hE 0 (by decide) _ _) rfl (fun _ => rfl) (fun h hr => rd_pad hr) rfl (fun r3 p3 ca => ?_)
  exact wf_ireturn dX4_readDigit_6 ⟨_, rfl, rfl⟩
set_option maxRecDepth 100000 in
set_option maxHeartbeats 4000000 in
theorem pX4_readParties_b45 {E : wE} {n : Nat} (hE : wGE E) {C : cR} {M : mR} (t1 : Int)  (p : (Int → Int → Int)) (ca : caT) : WF E (n + 7) yX4_readParties cX4_readParties 1 (some .boolean) vI (fun p : Int → Int → Int => ((C.1, C.2.1, p), M)) ca 45 (wLs [some (.ref (aPad E))]) [.int (iI t1), .ref (aPad E)] p (fX4_readParties_b45 t1 p) := by
  unfold fX4_readParties_b45
  refine wf_p_padf (f := 5) dX4_readParties_45 p_RX4_63 (fun p45 => ?_)
  refine wf_aload_n dX4_readParties_48 rfl ?_
  refine wf_get dX4_readParties_49 f_RX4_63 (fun h hr => rd_pad hr) ?_
  refine wf_gd (fun g52 => ?_)
  refine wf_if_lt 68 dX4_readParties_52 g52 (fun h52 => ?_) (fun h52 => ?_)
  · refine wf_iconst dX4_readParties_68 ?_
    exact wf_ireturn dX4_readParties_69 ⟨_, rfl, rfl⟩
  · refine wf_aload_n dX4_readParties_55 rfl ?_
    refine wf_bipush dX4_readParties_56 ?_
    refine wf_cV (put := fun q => q) dX4_readParties_58 k_RX4_32 b_yX4_takes x_yX4_takes (pX4_takes (n := n + 5) hE 42 _ _) rfl (fun _ => rfl) (fun h hr => rd_pad hr) rfl (fun r58 p58 ca => ?_)
    refine wf_gd (fun g61 => ?_)
    refine wf_if_eq 68 dX4_readParties_61 g61 (fun h61 => ?_) (fun h61 => ?_)
    · refine wf_iconst dX4_readParties_68 ?_
      exact wf_ireturn dX4_readParties_69 ⟨_, rfl, rfl⟩
    · refine wf_iconst dX4_readParties_64 ?_
      refine wf_goto 69 dX4_readParties_65 ?_
      exact wf_ireturn dX4_readParties_69 ⟨_, rfl, rfl⟩
set_option maxRecDepth 100000 in
set_option maxHeartbeats 4000000 in
theorem pX4_readParties {E : wE} {n : Nat} (hE : wGE E) {C : cR} {M : mR}   (p : (Int → Int → Int)) (ca : caT) : WF E (n + 7) yX4_readParties cX4_readParties 1 (some .boolean) vI (fun p : Int → Int → Int => ((C.1, C.2.1, p), M)) ca 0 (wArgs [.ref (aPad E)]) [] p (fX4_readParties  p) := by
  unfold fX4_readParties
  refine wf_aload_n dX4_readParties_0 rfl ?_
  refine wf_aload_n dX4_readParties_1 rfl ?_
  refine wf_cV (put := fun q => q) dX4_readParties_2 k_RX4_57 b_yX4_readDigit x_yX4_readDigit (pX4_readDigit (n := n) hE _ _) rfl (fun _ => rfl) (fun h hr => rd_pad hr) rfl (fun r2 p2 ca => ?_)
  refine wf_p_padf (f := 4) dX4_readParties_5 p_RX4_60 (fun p5 => ?_)
  refine wf_aload_n dX4_readParties_8 rfl ?_
  refine wf_get dX4_readParties_9 f_RX4_60 (fun h hr => rd_pad hr) ?_
  refine wf_gd (fun g12 => ?_)
  refine wf_if_lt 24 dX4_readParties_12 g12 (fun h12 => ?_) (fun h12 => ?_)
  · refine wf_iconst dX4_readParties_24 ?_
    exact wf_ireturn dX4_readParties_25 ⟨_, rfl, rfl⟩
  · refine wf_aload_n dX4_readParties_15 rfl ?_
    refine wf_bipush dX4_readParties_16 ?_
    refine wf_cV (put := fun q => q) dX4_readParties_18 k_RX4_32 b_yX4_takes x_yX4_takes (pX4_takes (n := n + 5) hE 62 _ _) rfl (fun _ => rfl) (fun h hr => rd_pad hr) rfl (fun r18 p18 ca => ?_)
    refine wf_gd (fun g21 => ?_)
    refine wf_if_ne 26 dX4_readParties_21 g21 (fun h21 => ?_) (fun h21 => ?_)
    · refine wf_aload_n dX4_readParties_26 rfl ?_
      refine wf_aload_n dX4_readParties_27 rfl ?_
      refine wf_bipush dX4_readParties_28 ?_
      refine wf_cV (put := fun q => q) dX4_readParties_30 k_RX4_32 b_yX4_takes x_yX4_takes (pX4_takes (n := n + 5) hE 45 _ _) rfl (fun _ => rfl) (fun h hr => rd_pad hr) rfl (fun r30 p30 ca => ?_)
      refine wf_gd (fun g33 => ?_)
      refine wf_if_eq 41 dX4_readParties_33 g33 (fun h33 => ?_) (fun h33 => ?_)
      · refine wf_aload_n dX4_readParties_41 rfl ?_
        refine wf_cV (put := fun q => q) dX4_readParties_42 k_RX4_57 b_yX4_readDigit x_yX4_readDigit (pX4_readDigit (n := n) hE _ _) rfl (fun _ => rfl) (fun h hr => rd_pad hr) rfl (fun r42 p42 ca => ?_)
        exact wf_at (pX4_readParties_b45 (n := n) hE  r42 _ _) ⟨rfl, trivial⟩
      · refine wf_bipush dX4_readParties_36 ?_
        refine wf_goto 45 dX4_readParties_38 ?_
        exact wf_at (pX4_readParties_b45 (n := n) hE  8 _ _) ⟨rfl, trivial⟩
    · refine wf_iconst dX4_readParties_24 ?_
      exact wf_ireturn dX4_readParties_25 ⟨_, rfl, rfl⟩
set_option maxRecDepth 100000 in
set_option maxHeartbeats 4000000 in
theorem pX4_readAct {E : wE} {n : Nat} (hE : wGE E) {C : cR} {M : mR}   (p : (Int → Int → Int)) (ca : caT) : WF E (n + 8) yX4_readAct cX4_readAct 1 (some .boolean) vI (fun p : Int → Int → Int => ((C.1, C.2.1, p), M)) ca 0 (wArgs [.ref (aPad E)]) [] p (fX4_readAct  p) := by
  unfold fX4_readAct
  refine wf_aload_n dX4_readAct_0 rfl ?_
  refine wf_aload_n dX4_readAct_1 rfl ?_
  refine wf_rV dX4_readAct_2 k_RX4_36 b_yX4_sign x_yX4_sign (fun h hr => pX4_sign (n := n + 7) hE hr) (fun h hr => rd_pad hr) rfl (fun r2 => ?_)
  refine wf_gd (fun g5 => ?_)
  refine wf_p_padf (f := 3) dX4_readAct_5 p_RX4_40 (fun p5 => ?_) (nar_c g5) (fit_c g5)
  refine wf_aload_n dX4_readAct_8 rfl ?_
  refine wf_get dX4_readAct_9 f_RX4_40 (fun h hr => rd_pad hr) ?_
  refine wf_gd (fun g12 => ?_)
  refine wf_ite (fun e12_0 => ?_) (fun e12_0 => ?_)
  · refine wf_lk (off := 113) 125 dX4_readAct_12 g12 ((congrArg (Op.lookupswitch.offset _ _) e12_0).trans rfl) ?_
    refine wf_aload_n dX4_readAct_125 rfl ?_
    refine wf_dup dX4_readAct_126 ?_
    refine wf_get dX4_readAct_127 f_RX4_25 (fun h hr => rd_pad hr) ?_
    refine wf_iconst dX4_readAct_130 ?_
    refine wf_iadd dX4_readAct_131 ?_
    refine wf_p_padf (f := 2) dX4_readAct_132 p_RX4_25 (fun p132 => ?_)
    refine wf_aload_n dX4_readAct_135 rfl ?_
    refine wf_aload_n dX4_readAct_136 rfl ?_
    refine wf_cV (put := fun q => q) dX4_readAct_137 k_RX4_57 b_yX4_readDigit x_yX4_readDigit (pX4_readDigit (n := n + 1) hE _ _) rfl (fun _ => rfl) (fun h hr => rd_pad hr) rfl (fun r137 p137 ca => ?_)
    refine wf_p_padf (f := 4) dX4_readAct_140 p_RX4_60 (fun p140 => ?_)
    refine wf_aload_n dX4_readAct_143 rfl ?_
    refine wf_get dX4_readAct_144 f_RX4_60 (fun h hr => rd_pad hr) ?_
    refine wf_gd (fun g147 => ?_)
    refine wf_if_lt 159 dX4_readAct_147 g147 (fun h147 => ?_) (fun h147 => ?_)
    · refine wf_iconst dX4_readAct_159 ?_
      exact wf_ireturn dX4_readAct_160 ⟨_, rfl, rfl⟩
    · refine wf_aload_n dX4_readAct_150 rfl ?_
      refine wf_bipush dX4_readAct_151 ?_
      refine wf_cV (put := fun q => q) dX4_readAct_153 k_RX4_32 b_yX4_takes x_yX4_takes (pX4_takes (n := n + 6) hE 43 _ _) rfl (fun _ => rfl) (fun h hr => rd_pad hr) rfl (fun r153 p153 ca => ?_)
      refine wf_gd (fun g156 => ?_)
      refine wf_if_ne 161 dX4_readAct_156 g156 (fun h156 => ?_) (fun h156 => ?_)
      · refine wf_aload_n dX4_readAct_161 rfl ?_
        refine wf_aload_n dX4_readAct_162 rfl ?_
        refine wf_cV (put := fun q => q) dX4_readAct_163 k_RX4_50 b_yX4_readNumber x_yX4_readNumber (pX4_readNumber (n := n + 5) hE _ _) rfl (fun _ => rfl) (fun h hr => rd_pad hr) rfl (fun r163 p163 ca => ?_)
        refine wf_p_padf (f := 6) dX4_readAct_166 p_RX4_54 (fun p166 => ?_)
        refine wf_aload_n dX4_readAct_169 rfl ?_
        refine wf_get dX4_readAct_170 f_RX4_54 (fun h hr => rd_pad hr) ?_
        refine wf_gd (fun g173 => ?_)
        refine wf_if_lt 180 dX4_readAct_173 g173 (fun h173 => ?_) (fun h173 => ?_)
        · refine wf_iconst dX4_readAct_180 ?_
          exact wf_ireturn dX4_readAct_181 ⟨_, rfl, rfl⟩
        · refine wf_iconst dX4_readAct_176 ?_
          refine wf_goto 181 dX4_readAct_177 ?_
          exact wf_ireturn dX4_readAct_181 ⟨_, rfl, rfl⟩
      · refine wf_iconst dX4_readAct_159 ?_
        exact wf_ireturn dX4_readAct_160 ⟨_, rfl, rfl⟩
  refine wf_ite (fun e12_1 => ?_) (fun e12_1 => ?_)
  · refine wf_lk (off := 82) 94 dX4_readAct_12 g12 ((congrArg (Op.lookupswitch.offset _ _) e12_1).trans rfl) ?_
    refine wf_aload_n dX4_readAct_94 rfl ?_
    refine wf_dup dX4_readAct_95 ?_
    refine wf_get dX4_readAct_96 f_RX4_25 (fun h hr => rd_pad hr) ?_
    refine wf_iconst dX4_readAct_99 ?_
    refine wf_iadd dX4_readAct_100 ?_
    refine wf_p_padf (f := 2) dX4_readAct_101 p_RX4_25 (fun p101 => ?_)
    refine wf_aload_n dX4_readAct_104 rfl ?_
    refine wf_aload_n dX4_readAct_105 rfl ?_
    refine wf_cV (put := fun q => q) dX4_readAct_106 k_RX4_50 b_yX4_readNumber x_yX4_readNumber (pX4_readNumber (n := n + 5) hE _ _) rfl (fun _ => rfl) (fun h hr => rd_pad hr) rfl (fun r106 p106 ca => ?_)
    refine wf_p_padf (f := 6) dX4_readAct_109 p_RX4_54 (fun p109 => ?_)
    refine wf_aload_n dX4_readAct_112 rfl ?_
    refine wf_get dX4_readAct_113 f_RX4_54 (fun h hr => rd_pad hr) ?_
    refine wf_gd (fun g116 => ?_)
    refine wf_if_lt 123 dX4_readAct_116 g116 (fun h116 => ?_) (fun h116 => ?_)
    · refine wf_iconst dX4_readAct_123 ?_
      exact wf_ireturn dX4_readAct_124 ⟨_, rfl, rfl⟩
    · refine wf_iconst dX4_readAct_119 ?_
      refine wf_goto 124 dX4_readAct_120 ?_
      exact wf_ireturn dX4_readAct_124 ⟨_, rfl, rfl⟩
  refine wf_ite (fun e12_2 => ?_) (fun e12_2 => ?_)
  · refine wf_lk (off := 82) 94 dX4_readAct_12 g12 ((congrArg (Op.lookupswitch.offset _ _) e12_2).trans rfl) ?_
    refine wf_aload_n dX4_readAct_94 rfl ?_
    refine wf_dup dX4_readAct_95 ?_
    refine wf_get dX4_readAct_96 f_RX4_25 (fun h hr => rd_pad hr) ?_
    refine wf_iconst dX4_readAct_99 ?_
    refine wf_iadd dX4_readAct_100 ?_
    refine wf_p_padf (f := 2) dX4_readAct_101 p_RX4_25 (fun p101 => ?_)
    refine wf_aload_n dX4_readAct_104 rfl ?_
    refine wf_aload_n dX4_readAct_105 rfl ?_
    refine wf_cV (put := fun q => q) dX4_readAct_106 k_RX4_50 b_yX4_readNumber x_yX4_readNumber (pX4_readNumber (n := n + 5) hE _ _) rfl (fun _ => rfl) (fun h hr => rd_pad hr) rfl (fun r106 p106 ca => ?_)
    refine wf_p_padf (f := 6) dX4_readAct_109 p_RX4_54 (fun p109 => ?_)
    refine wf_aload_n dX4_readAct_112 rfl ?_
    refine wf_get dX4_readAct_113 f_RX4_54 (fun h hr => rd_pad hr) ?_
    refine wf_gd (fun g116 => ?_)
    refine wf_if_lt 123 dX4_readAct_116 g116 (fun h116 => ?_) (fun h116 => ?_)
    · refine wf_iconst dX4_readAct_123 ?_
      exact wf_ireturn dX4_readAct_124 ⟨_, rfl, rfl⟩
    · refine wf_iconst dX4_readAct_119 ?_
      refine wf_goto 124 dX4_readAct_120 ?_
      exact wf_ireturn dX4_readAct_124 ⟨_, rfl, rfl⟩
  refine wf_ite (fun e12_3 => ?_) (fun e12_3 => ?_)
  · refine wf_lk (off := 52) 64 dX4_readAct_12 g12 ((congrArg (Op.lookupswitch.offset _ _) e12_3).trans rfl) ?_
    refine wf_aload_n dX4_readAct_64 rfl ?_
    refine wf_dup dX4_readAct_65 ?_
    refine wf_get dX4_readAct_66 f_RX4_25 (fun h hr => rd_pad hr) ?_
    refine wf_iconst dX4_readAct_69 ?_
    refine wf_iadd dX4_readAct_70 ?_
    refine wf_p_padf (f := 2) dX4_readAct_71 p_RX4_25 (fun p71 => ?_)
    refine wf_aload_n dX4_readAct_74 rfl ?_
    refine wf_cV (put := fun q => q) dX4_readAct_75 k_RX4_44 b_yX4_readParties x_yX4_readParties (pX4_readParties (n := n) hE _ _) rfl (fun _ => rfl) (fun h hr => rd_pad hr) rfl (fun r75 p75 ca => ?_)
    refine wf_gd (fun g78 => ?_)
    refine wf_if_eq 92 dX4_readAct_78 g78 (fun h78 => ?_) (fun h78 => ?_)
    · refine wf_iconst dX4_readAct_92 ?_
      exact wf_ireturn dX4_readAct_93 ⟨_, rfl, rfl⟩
    · refine wf_aload_n dX4_readAct_81 rfl ?_
      refine wf_cV (put := fun q => q) dX4_readAct_82 k_RX4_47 b_yX4_readAmountAndDates x_yX4_readAmountAndDates (pX4_readAmountAndDates (n := n + 1) hE _ _) rfl (fun _ => rfl) (fun h hr => rd_pad hr) rfl (fun r82 p82 ca => ?_)
      refine wf_gd (fun g85 => ?_)
      refine wf_if_eq 92 dX4_readAct_85 g85 (fun h85 => ?_) (fun h85 => ?_)
      · refine wf_iconst dX4_readAct_92 ?_
        exact wf_ireturn dX4_readAct_93 ⟨_, rfl, rfl⟩
      · refine wf_iconst dX4_readAct_88 ?_
        refine wf_goto 93 dX4_readAct_89 ?_
        exact wf_ireturn dX4_readAct_93 ⟨_, rfl, rfl⟩
  refine wf_ite (fun e12_4 => ?_) (fun e12_4 => ?_)
  · refine wf_lk (off := 82) 94 dX4_readAct_12 g12 ((congrArg (Op.lookupswitch.offset _ _) e12_4).trans rfl) ?_
    refine wf_aload_n dX4_readAct_94 rfl ?_
    refine wf_dup dX4_readAct_95 ?_
    refine wf_get dX4_readAct_96 f_RX4_25 (fun h hr => rd_pad hr) ?_
    refine wf_iconst dX4_readAct_99 ?_
    refine wf_iadd dX4_readAct_100 ?_
    refine wf_p_padf (f := 2) dX4_readAct_101 p_RX4_25 (fun p101 => ?_)
    refine wf_aload_n dX4_readAct_104 rfl ?_
    refine wf_aload_n dX4_readAct_105 rfl ?_
    refine wf_cV (put := fun q => q) dX4_readAct_106 k_RX4_50 b_yX4_readNumber x_yX4_readNumber (pX4_readNumber (n := n + 5) hE _ _) rfl (fun _ => rfl) (fun h hr => rd_pad hr) rfl (fun r106 p106 ca => ?_)
    refine wf_p_padf (f := 6) dX4_readAct_109 p_RX4_54 (fun p109 => ?_)
    refine wf_aload_n dX4_readAct_112 rfl ?_
    refine wf_get dX4_readAct_113 f_RX4_54 (fun h hr => rd_pad hr) ?_
    refine wf_gd (fun g116 => ?_)
    refine wf_if_lt 123 dX4_readAct_116 g116 (fun h116 => ?_) (fun h116 => ?_)
    · refine wf_iconst dX4_readAct_123 ?_
      exact wf_ireturn dX4_readAct_124 ⟨_, rfl, rfl⟩
    · refine wf_iconst dX4_readAct_119 ?_
      refine wf_goto 124 dX4_readAct_120 ?_
      exact wf_ireturn dX4_readAct_124 ⟨_, rfl, rfl⟩
  refine wf_lk (off := 170) 182 dX4_readAct_12 g12 (lk_none (by simp; omega)) ?_
  refine wf_iconst dX4_readAct_182 ?_
  exact wf_ireturn dX4_readAct_183 ⟨_, rfl, rfl⟩

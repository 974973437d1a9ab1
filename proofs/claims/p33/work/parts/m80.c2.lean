/-! ===== the methods meet their functions (by program: wip/p33/gen.py) ===== -/
set_option maxRecDepth 100000 in
set_option maxHeartbeats 4000000 in
theorem pX2_replaceSetting {E : wE} {n : Nat} (hE : wGE E) {G : gR} {k : Int} (hk : 0 ≤ k ∧ k < 11) (x1 : Int) (x2 : Int)  (H : hR) (ca : caT) : WF E (n + 1) yX2_replaceSetting cX2_replaceSetting 4 (some .int) vI (setH G k) ca 0 (wArgs [.ref (aH E k), .int (iI x1), .int (iI x2)]) [] H (fX2_replaceSetting x1 x2 H) := by
  unfold fX2_replaceSetting
  refine wf_iload_n dX2_replaceSetting_0 rfl ?_
  refine wf_iconst dX2_replaceSetting_1 ?_
  refine wf_iconst dX2_replaceSetting_2 ?_
  refine wf_rSN dX2_replaceSetting_3 k_RX2_77 b_yX6_isBetween x_yX6_isBetween (fun h hr => pX6_isBetween (n := n) hE x1 0 3) (fun r3 => ?_)
  refine wf_gd (fun g6 => ?_)
  refine wf_if_ne 12 dX2_replaceSetting_6 g6 (fun h6 => ?_) (fun h6 => ?_)
  · refine wf_iload_n dX2_replaceSetting_12 rfl ?_
    refine wf_getsN (k := 0) (host := "StandingPayments") dX2_replaceSetting_13 rfl (by simp [wNF]; exact rfl) (hE.1.1) ?_
    refine wf_iload_n dX2_replaceSetting_16 rfl ?_
    refine wf_gd (fun g17 => ?_)
    refine wf_ro dX2_replaceSetting_17 (hE.1.2) g17 ?_
    refine wf_getsN (k := 1) (host := "StandingPayments") dX2_replaceSetting_18 rfl (by simp [wNF]; exact rfl) (hE.2.1.1) ?_
    refine wf_iload_n dX2_replaceSetting_21 rfl ?_
    refine wf_gd (fun g22 => ?_)
    refine wf_ro dX2_replaceSetting_22 (hE.2.1.2) g22 ?_
    refine wf_rSN dX2_replaceSetting_23 k_RX2_77 b_yX6_isBetween x_yX6_isBetween (fun h hr => pX6_isBetween (n := n) hE x2 (sRow 0 x1) (sRow 1 x1)) (fun r23 => ?_)
    refine wf_gd (fun g26 => ?_)
    refine wf_if_ne 32 dX2_replaceSetting_26 g26 (fun h26 => ?_) (fun h26 => ?_)
    · refine wf_aload_n dX2_replaceSetting_32 rfl ?_
      refine wf_iload_n dX2_replaceSetting_33 rfl ?_
      refine wf_rV dX2_replaceSetting_34 k_RX2_88 b_yX2_settingOf x_yX2_settingOf (fun h hr => pX2_settingOf (n := n) hE hr setH_at hk x1) (fun h hr => rd_h hr setH_at hk) rfl (fun r34 => ?_)
      refine wf_istore_n dX2_replaceSetting_37 ?_
      refine wf_iload_n dX2_replaceSetting_38 rfl ?_
      refine wf_gd (fun g39 => ?_)
      refine wf_ite (fun e39_0 => ?_) (fun e39_0 => ?_)
      · refine wf_tsK 0 64 dX2_replaceSetting_39 e39_0 ?_
        refine wf_aload_n dX2_replaceSetting_64 rfl ?_
        refine wf_iload_n dX2_replaceSetting_65 rfl ?_
        refine wf_p_h (f := 7) dX2_replaceSetting_66 p_RX2_37 hk (fun H66 => ?_)
        refine wf_goto 96 dX2_replaceSetting_69 ?_
        refine wf_iload_n dX2_replaceSetting_96 rfl ?_
        exact wf_ireturn dX2_replaceSetting_97 ⟨_, rfl, rfl⟩
      refine wf_ite (fun e39_1 => ?_) (fun e39_1 => ?_)
      · refine wf_tsK 1 72 dX2_replaceSetting_39 e39_1 ?_
        refine wf_aload_n dX2_replaceSetting_72 rfl ?_
        refine wf_iload_n dX2_replaceSetting_73 rfl ?_
        refine wf_p_h (f := 8) dX2_replaceSetting_74 p_RX2_41 hk (fun H74 => ?_)
        refine wf_goto 96 dX2_replaceSetting_77 ?_
        refine wf_iload_n dX2_replaceSetting_96 rfl ?_
        exact wf_ireturn dX2_replaceSetting_97 ⟨_, rfl, rfl⟩
      refine wf_ite (fun e39_2 => ?_) (fun e39_2 => ?_)
      · refine wf_tsK 2 80 dX2_replaceSetting_39 e39_2 ?_
        refine wf_aload_n dX2_replaceSetting_80 rfl ?_
        refine wf_iload_n dX2_replaceSetting_81 rfl ?_
        refine wf_p_h (f := 9) dX2_replaceSetting_82 p_RX2_44 hk (fun H82 => ?_)
        refine wf_goto 96 dX2_replaceSetting_85 ?_
        refine wf_iload_n dX2_replaceSetting_96 rfl ?_
        exact wf_ireturn dX2_replaceSetting_97 ⟨_, rfl, rfl⟩
      refine wf_tsOut (z := x1) 88 dX2_replaceSetting_39 g39 (by omega) ?_
      refine wf_aload_n dX2_replaceSetting_88 rfl ?_
      refine wf_get dX2_replaceSetting_89 f_RX2_12 (fun h hr => rd_h hr setH_at hk) ?_
      refine wf_iload_n dX2_replaceSetting_92 rfl ?_
      refine wf_p_cal (f := 2) dX2_replaceSetting_93 p_RX2_74 hk (fun H93 => ?_)
      refine wf_iload_n dX2_replaceSetting_96 rfl ?_
      exact wf_ireturn dX2_replaceSetting_97 ⟨_, rfl, rfl⟩
    · refine wf_bipush dX2_replaceSetting_29 ?_
      exact wf_ireturn dX2_replaceSetting_31 ⟨_, rfl, rfl⟩
  · refine wf_bipush dX2_replaceSetting_9 ?_
    exact wf_ireturn dX2_replaceSetting_11 ⟨_, rfl, rfl⟩
set_option maxRecDepth 100000 in
set_option maxHeartbeats 4000000 in
theorem pX6_set {E : wE} {n : Nat} (hE : wGE E) {M : mR} (x1 : Int) (x2 : Int)  (c : cR) (ca : caT) : WF E (n + 7) yX6_set cX6_set 3 (some .int) vI (fun c : cR => (c, M)) ca 0 (wArgs [.ref (aTop E), .int (iI x1), .int (iI x2)]) [] c (fX6_set x1 x2 c) := by
  unfold fX6_set
  refine wf_aload_n dX6_set_0 rfl ?_
  refine wf_cV (put := fun q => q) dX6_set_1 k_RX6_37 b_yX6_remember x_yX6_remember (pX6_remember (n := n) hE _ _) rfl (fun _ => rfl) (fun h hr => rd_top hr) rfl (fun r1 c1 ca => ?_)
  refine wf_aload_n dX6_set_4 rfl ?_
  refine wf_aload_n dX6_set_5 rfl ?_
  refine wf_get dX6_set_6 f_RX6_12 (fun h hr => rd_top hr) ?_
  refine wf_iload_n dX6_set_9 rfl ?_
  refine wf_iload_n dX6_set_10 rfl ?_
  refine wf_cV (put := cH c1 0) dX6_set_11 k_RX6_40 b_yX2_replaceSetting x_yX2_replaceSetting (pX2_replaceSetting (n := n + 5) hE (G := (c1, M)) (k := 0) (by omega) x1 x2 _ _) setH_self (fun _ => rfl) (fun h hr => rd_h hr rfl (by omega)) rfl (fun r11 t11 ca => ?_)
  refine wf_bnd (fun c11 => ?_)
  refine wf_cV (put := fun q => q) dX6_set_14 k_RX6_44 b_yX6_recorded x_yX6_recorded (pX6_recorded (n := n + 4) hE r11 _ _) rfl (fun _ => rfl) (fun h hr => rd_top hr) rfl (fun r14 c14 ca => ?_)
  exact wf_ireturn dX6_set_17 ⟨_, rfl, rfl⟩
set_option maxRecDepth 100000 in
set_option maxHeartbeats 4000000 in
theorem pX2_stopOrder {E : wE} {n : Nat} (hE : wGE E) {G : gR} {k : Int} (hk : 0 ≤ k ∧ k < 11) (x1 : Int)  (H : hR) (ca : caT) : WF E (n + 1) yX2_stopOrder cX2_stopOrder 2 (some .int) vI (setH G k) ca 0 (wArgs [.ref (aH E k), .int (iI x1)]) [] H (fX2_stopOrder x1 H) := by
  unfold fX2_stopOrder
  refine wf_aload_n dX2_stopOrder_0 rfl ?_
  refine wf_iload_n dX2_stopOrder_1 rfl ?_
  refine wf_rV dX2_stopOrder_2 k_RX2_124 b_yX2_hasOrder x_yX2_hasOrder (fun h hr => pX2_hasOrder (n := n) hE hr setH_at hk x1) (fun h hr => rd_h hr setH_at hk) rfl (fun r2 => ?_)
  refine wf_gd (fun g5 => ?_)
  refine wf_if_ne 10 dX2_stopOrder_5 g5 (fun h5 => ?_) (fun h5 => ?_)
  · refine wf_aload_n dX2_stopOrder_10 rfl ?_
    refine wf_get dX2_stopOrder_11 f_RX2_26 (fun h hr => rd_h hr setH_at hk) ?_
    refine wf_iload_n dX2_stopOrder_14 rfl ?_
    refine wf_gd (fun g15 => ?_)
    refine wf_aald_ord dX2_stopOrder_15 g15 (fun h hr => rd_ords hr setH_at hk) ?_
    refine wf_get dX2_stopOrder_16 f_RX2_127 (fun h hr => rd_ord hr setH_at hk (by omega)) ?_
    refine wf_gd (fun g19 => ?_)
    refine wf_if_eq 25 dX2_stopOrder_19 g19 (fun h19 => ?_) (fun h19 => ?_)
    · refine wf_aload_n dX2_stopOrder_25 rfl ?_
      refine wf_get dX2_stopOrder_26 f_RX2_26 (fun h hr => rd_h hr setH_at hk) ?_
      refine wf_iload_n dX2_stopOrder_29 rfl ?_
      refine wf_gd (fun g30 => ?_)
      refine wf_aald_ord dX2_stopOrder_30 g30 (fun h hr => rd_ords hr setH_at hk) ?_
      refine wf_iconst dX2_stopOrder_31 ?_
      refine wf_p_ord (f := 11) dX2_stopOrder_32 p_RX2_127 hk (by omega) (fun H32 => ?_)
      refine wf_aload_n dX2_stopOrder_35 rfl ?_
      refine wf_get dX2_stopOrder_36 f_RX2_26 (fun h hr => rd_h hr setH_at hk) ?_
      refine wf_iload_n dX2_stopOrder_39 rfl ?_
      refine wf_gd (fun g40 => ?_)
      refine wf_aald_ord dX2_stopOrder_40 g40 (fun h hr => rd_ords hr setH_at hk) ?_
      refine wf_get dX2_stopOrder_41 f_RX2_136 (fun h hr => rd_ord hr setH_at hk (by omega)) ?_
      exact wf_ireturn dX2_stopOrder_44 ⟨_, rfl, rfl⟩
    · refine wf_bipush dX2_stopOrder_22 ?_
      exact wf_ireturn dX2_stopOrder_24 ⟨_, rfl, rfl⟩
  · refine wf_iconst dX2_stopOrder_8 ?_
    exact wf_ireturn dX2_stopOrder_9 ⟨_, rfl, rfl⟩
set_option maxRecDepth 100000 in
set_option maxHeartbeats 4000000 in
theorem pX6_stop {E : wE} {n : Nat} (hE : wGE E) {M : mR} (x1 : Int)  (c : cR) (ca : caT) : WF E (n + 7) yX6_stop cX6_stop 2 (some .int) vI (fun c : cR => (c, M)) ca 0 (wArgs [.ref (aTop E), .int (iI x1)]) [] c (fX6_stop x1 c) := by
  unfold fX6_stop
  refine wf_aload_n dX6_stop_0 rfl ?_
  refine wf_cV (put := fun q => q) dX6_stop_1 k_RX6_37 b_yX6_remember x_yX6_remember (pX6_remember (n := n) hE _ _) rfl (fun _ => rfl) (fun h hr => rd_top hr) rfl (fun r1 c1 ca => ?_)
  refine wf_aload_n dX6_stop_4 rfl ?_
  refine wf_aload_n dX6_stop_5 rfl ?_
  refine wf_get dX6_stop_6 f_RX6_12 (fun h hr => rd_top hr) ?_
  refine wf_iload_n dX6_stop_9 rfl ?_
  refine wf_cV (put := cH c1 0) dX6_stop_10 k_RX6_74 b_yX2_stopOrder x_yX2_stopOrder (pX2_stopOrder (n := n + 5) hE (G := (c1, M)) (k := 0) (by omega) x1 _ _) setH_self (fun _ => rfl) (fun h hr => rd_h hr rfl (by omega)) rfl (fun r10 t10 ca => ?_)
  refine wf_bnd (fun c10 => ?_)
  refine wf_cV (put := fun q => q) dX6_stop_13 k_RX6_44 b_yX6_recorded x_yX6_recorded (pX6_recorded (n := n + 4) hE r10 _ _) rfl (fun _ => rfl) (fun h hr => rd_top hr) rfl (fun r13 c13 ca => ?_)
  exact wf_ireturn dX6_stop_16 ⟨_, rfl, rfl⟩
set_option maxRecDepth 100000 in
set_option maxHeartbeats 4000000 in
theorem pX3_numberOf {E : wE} {n : Nat} (hE : wGE E) {G : gR} {H : hR} {ca : caT} {h : hW} {k : Int} (hr : rep E G ca h) (hH : G.1.1 k = H) (hk : 0 ≤ k ∧ k < 11) (i : Int) (x1 : Int) (hbi : 0 ≤ i ∧ i < 16) : WR E n yX3_numberOf cX3_numberOf 2 (some .int) vI h 0 (wArgs [.ref (aOrd E k i), .int (iI x1)]) [] (fX3_numberOf i x1 H) := by
  unfold fX3_numberOf
  refine wr_iload_n dX3_numberOf_0 rfl ?_
  refine wr_gd (fun g1 => ?_)
  refine wr_ite (fun e1_0 => ?_) (fun e1_0 => ?_)
  · refine wr_tsK 0 76 dX3_numberOf_1 e1_0 ?_
    refine wr_aload_n dX3_numberOf_76 rfl ?_
    refine wr_get dX3_numberOf_77 f_RX3_9 (rd_ord hr hH hk (by omega)) ?_
    exact wr_ireturn dX3_numberOf_80 ⟨_, rfl, rfl⟩
  refine wr_ite (fun e1_1 => ?_) (fun e1_1 => ?_)
  · refine wr_tsK 1 81 dX3_numberOf_1 e1_1 ?_
    refine wr_aload_n dX3_numberOf_81 rfl ?_
    refine wr_get dX3_numberOf_82 f_RX3_15 (rd_ord hr hH hk (by omega)) ?_
    exact wr_ireturn dX3_numberOf_85 ⟨_, rfl, rfl⟩
  refine wr_ite (fun e1_2 => ?_) (fun e1_2 => ?_)
  · refine wr_tsK 2 86 dX3_numberOf_1 e1_2 ?_
    refine wr_aload_n dX3_numberOf_86 rfl ?_
    refine wr_get dX3_numberOf_87 f_RX3_18 (rd_ord hr hH hk (by omega)) ?_
    exact wr_ireturn dX3_numberOf_90 ⟨_, rfl, rfl⟩
  refine wr_ite (fun e1_3 => ?_) (fun e1_3 => ?_)
  · refine wr_tsK 3 91 dX3_numberOf_1 e1_3 ?_
    refine wr_aload_n dX3_numberOf_91 rfl ?_
    refine wr_get dX3_numberOf_92 f_RX3_21 (rd_ord hr hH hk (by omega)) ?_
    exact wr_ireturn dX3_numberOf_95 ⟨_, rfl, rfl⟩
  refine wr_ite (fun e1_4 => ?_) (fun e1_4 => ?_)
  · refine wr_tsK 4 96 dX3_numberOf_1 e1_4 ?_
    refine wr_aload_n dX3_numberOf_96 rfl ?_
    refine wr_get dX3_numberOf_97 f_RX3_24 (rd_ord hr hH hk (by omega)) ?_
    exact wr_ireturn dX3_numberOf_100 ⟨_, rfl, rfl⟩
  refine wr_ite (fun e1_5 => ?_) (fun e1_5 => ?_)
  · refine wr_tsK 5 101 dX3_numberOf_1 e1_5 ?_
    refine wr_aload_n dX3_numberOf_101 rfl ?_
    refine wr_get dX3_numberOf_102 f_RX3_27 (rd_ord hr hH hk (by omega)) ?_
    exact wr_ireturn dX3_numberOf_105 ⟨_, rfl, rfl⟩
  refine wr_ite (fun e1_6 => ?_) (fun e1_6 => ?_)
  · refine wr_tsK 6 106 dX3_numberOf_1 e1_6 ?_
    refine wr_aload_n dX3_numberOf_106 rfl ?_
    refine wr_get dX3_numberOf_107 f_RX3_30 (rd_ord hr hH hk (by omega)) ?_
    exact wr_ireturn dX3_numberOf_110 ⟨_, rfl, rfl⟩
  refine wr_ite (fun e1_7 => ?_) (fun e1_7 => ?_)
  · refine wr_tsK 7 111 dX3_numberOf_1 e1_7 ?_
    refine wr_aload_n dX3_numberOf_111 rfl ?_
    refine wr_get dX3_numberOf_112 f_RX3_33 (rd_ord hr hH hk (by omega)) ?_
    exact wr_ireturn dX3_numberOf_115 ⟨_, rfl, rfl⟩
  refine wr_ite (fun e1_8 => ?_) (fun e1_8 => ?_)
  · refine wr_tsK 8 116 dX3_numberOf_1 e1_8 ?_
    refine wr_aload_n dX3_numberOf_116 rfl ?_
    refine wr_get dX3_numberOf_117 f_RX3_36 (rd_ord hr hH hk (by omega)) ?_
    exact wr_ireturn dX3_numberOf_120 ⟨_, rfl, rfl⟩
  refine wr_ite (fun e1_9 => ?_) (fun e1_9 => ?_)
  · refine wr_tsK 9 121 dX3_numberOf_1 e1_9 ?_
    refine wr_aload_n dX3_numberOf_121 rfl ?_
    refine wr_get dX3_numberOf_122 f_RX3_46 (rd_ord hr hH hk (by omega)) ?_
    refine wr_iconst dX3_numberOf_125 ?_
    refine wr_gd (fun g126 => ?_)
    refine wr_icmp_ne 133 dX3_numberOf_126 g126 (by decide) (fun h126 => ?_) (fun h126 => ?_)
    · refine wr_aload_n dX3_numberOf_133 rfl ?_
      refine wr_get dX3_numberOf_134 f_RX3_43 (rd_ord hr hH hk (by omega)) ?_
      exact wr_ireturn dX3_numberOf_137 ⟨_, rfl, rfl⟩
    · refine wr_iconst dX3_numberOf_129 ?_
      refine wr_goto 137 dX3_numberOf_130 ?_
      exact wr_ireturn dX3_numberOf_137 ⟨_, rfl, rfl⟩
  refine wr_ite (fun e1_10 => ?_) (fun e1_10 => ?_)
  · refine wr_tsK 10 138 dX3_numberOf_1 e1_10 ?_
    refine wr_aload_n dX3_numberOf_138 rfl ?_
    refine wr_get dX3_numberOf_139 f_RX3_46 (rd_ord hr hH hk (by omega)) ?_
    exact wr_ireturn dX3_numberOf_142 ⟨_, rfl, rfl⟩
  refine wr_ite (fun e1_11 => ?_) (fun e1_11 => ?_)
  · refine wr_tsK 11 143 dX3_numberOf_1 e1_11 ?_
    refine wr_aload_n dX3_numberOf_143 rfl ?_
    refine wr_get dX3_numberOf_144 f_RX3_49 (rd_ord hr hH hk (by omega)) ?_
    exact wr_ireturn dX3_numberOf_147 ⟨_, rfl, rfl⟩
  refine wr_ite (fun e1_12 => ?_) (fun e1_12 => ?_)
  · refine wr_tsK 12 148 dX3_numberOf_1 e1_12 ?_
    refine wr_aload_n dX3_numberOf_148 rfl ?_
    refine wr_get dX3_numberOf_149 f_RX3_52 (rd_ord hr hH hk (by omega)) ?_
    exact wr_ireturn dX3_numberOf_152 ⟨_, rfl, rfl⟩
  refine wr_ite (fun e1_13 => ?_) (fun e1_13 => ?_)
  · refine wr_tsK 13 153 dX3_numberOf_1 e1_13 ?_
    refine wr_aload_n dX3_numberOf_153 rfl ?_
    refine wr_get dX3_numberOf_154 f_RX3_55 (rd_ord hr hH hk (by omega)) ?_
    exact wr_ireturn dX3_numberOf_157 ⟨_, rfl, rfl⟩
  refine wr_ite (fun e1_14 => ?_) (fun e1_14 => ?_)
  · refine wr_tsK 14 158 dX3_numberOf_1 e1_14 ?_
    refine wr_aload_n dX3_numberOf_158 rfl ?_
    refine wr_get dX3_numberOf_159 f_RX3_58 (rd_ord hr hH hk (by omega)) ?_
    exact wr_ireturn dX3_numberOf_162 ⟨_, rfl, rfl⟩
  refine wr_tsOut (z := x1) 163 dX3_numberOf_1 g1 (by omega) ?_
  refine wr_bipush dX3_numberOf_163 ?_
  exact wr_ireturn dX3_numberOf_165 ⟨_, rfl, rfl⟩
set_option maxRecDepth 100000 in
set_option maxHeartbeats 4000000 in
theorem pX2_sumOverOrders_b4 {E : wE} {n : Nat} (hE : wGE E) {G : gR} {H : hR} {ca : caT} {h : hW} {k : Int} (hr : rep E G ca h) (hH : G.1.1 k = H) (hk : 0 ≤ k ∧ k < 11) : ∀ (fuel : Nat) (x1 : Int) (x2 : Int) (x3 : Int) , WR E (n + 1) yX2_sumOverOrders cX2_sumOverOrders 4 (some .int) vI h 4 (wLs [some (.ref (aH E k)), some (.int (iI x1)), some (.int (iI x2)), some (.int (iI x3))]) [] (fX2_sumOverOrders_b4 H fuel x1 x2 x3) := by
  intro fuel
  induction fuel with
  | zero =>
    intro x1 x2 x3
    exact wr_none
  | succ fuel ih =>
    intro x1 x2 x3
    unfold fX2_sumOverOrders_b4
    refine wr_iload_n dX2_sumOverOrders_4 rfl ?_
    refine wr_aload_n dX2_sumOverOrders_5 rfl ?_
    refine wr_get dX2_sumOverOrders_6 f_RX2_59 (rd_h hr hH hk) ?_
    refine wr_gd (fun g9 => ?_)
    refine wr_icmp_ge 31 dX2_sumOverOrders_9 g9.1 g9.2 (fun h9 => ?_) (fun h9 => ?_)
    · refine wr_iload_n dX2_sumOverOrders_31 rfl ?_
      exact wr_ireturn dX2_sumOverOrders_32 ⟨_, rfl, rfl⟩
    · refine wr_iload_n dX2_sumOverOrders_12 rfl ?_
      refine wr_aload_n dX2_sumOverOrders_13 rfl ?_
      refine wr_get dX2_sumOverOrders_14 f_RX2_26 (rd_h hr hH hk) ?_
      refine wr_iload_n dX2_sumOverOrders_17 rfl ?_
      refine wr_gd (fun g18 => ?_)
      refine wr_aald_ord dX2_sumOverOrders_18 g18 (rd_ords hr hH hk) ?_
      refine wr_iload_n dX2_sumOverOrders_19 rfl ?_
      refine wr_cV dX2_sumOverOrders_20 k_RX2_167 b_yX3_numberOf x_yX3_numberOf (pX3_numberOf (n := n) hE hr hH hk x3 x1 (by omega)) (rd_ord hr hH hk (by omega)) rfl (fun r20 => ?_)
      refine wr_iadd dX2_sumOverOrders_23 ?_
      refine wr_istore_n dX2_sumOverOrders_24 ?_
      refine wr_iinc dX2_sumOverOrders_25 rfl ?_
      refine wr_goto 4 dX2_sumOverOrders_28 ?_
      exact wr_at (ih x1 (x2 + r20) (x3 + 1)) ⟨rfl, rfl, rfl, rfl, trivial⟩
set_option maxRecDepth 100000 in
set_option maxHeartbeats 4000000 in
theorem pX2_sumOverOrders {E : wE} {n : Nat} (hE : wGE E) {G : gR} {H : hR} {ca : caT} {h : hW} {k : Int} (hr : rep E G ca h) (hH : G.1.1 k = H) (hk : 0 ≤ k ∧ k < 11) (x1 : Int)  : WR E (n + 1) yX2_sumOverOrders cX2_sumOverOrders 4 (some .int) vI h 0 (wArgs [.ref (aH E k), .int (iI x1)]) [] (fX2_sumOverOrders x1 H) := by
  unfold fX2_sumOverOrders
  refine wr_iconst dX2_sumOverOrders_0 ?_
  refine wr_istore_n dX2_sumOverOrders_1 ?_
  refine wr_iconst dX2_sumOverOrders_2 ?_
  refine wr_istore_n dX2_sumOverOrders_3 ?_
  exact wr_at (pX2_sumOverOrders_b4 (n := n) hE hr hH hk  fuel0 x1 0 0) ⟨rfl, rfl, rfl, rfl, trivial⟩
set_option maxRecDepth 100000 in
set_option maxHeartbeats 4000000 in
theorem pX2_numberOf {E : wE} {n : Nat} (hE : wGE E) {G : gR} {H : hR} {ca : caT} {h : hW} {k : Int} (hr : rep E G ca h) (hH : G.1.1 k = H) (hk : 0 ≤ k ∧ k < 11) (x1 : Int)  : WR E (n + 2) yX2_numberOf cX2_numberOf 2 (some .int) vI h 0 (wArgs [.ref (aH E k), .int (iI x1)]) [] (fX2_numberOf x1 H) := by
  unfold fX2_numberOf
  refine wr_iload_n dX2_numberOf_0 rfl ?_
  refine wr_gd (fun g1 => ?_)
  refine wr_ite (fun e1_0 => ?_) (fun e1_0 => ?_)
  · refine wr_tsK 0 76 dX2_numberOf_1 e1_0 ?_
    refine wr_aload_n dX2_numberOf_76 rfl ?_
    refine wr_get dX2_numberOf_77 f_RX2_68 (rd_h hr hH hk) ?_
    exact wr_ireturn dX2_numberOf_80 ⟨_, rfl, rfl⟩
  refine wr_ite (fun e1_1 => ?_) (fun e1_1 => ?_)
  · refine wr_tsK 1 81 dX2_numberOf_1 e1_1 ?_
    refine wr_aload_n dX2_numberOf_81 rfl ?_
    refine wr_get dX2_numberOf_82 f_RX2_53 (rd_h hr hH hk) ?_
    exact wr_ireturn dX2_numberOf_85 ⟨_, rfl, rfl⟩
  refine wr_ite (fun e1_2 => ?_) (fun e1_2 => ?_)
  · refine wr_tsK 2 86 dX2_numberOf_1 e1_2 ?_
    refine wr_aload_n dX2_numberOf_86 rfl ?_
    refine wr_get dX2_numberOf_87 f_RX2_59 (rd_h hr hH hk) ?_
    exact wr_ireturn dX2_numberOf_90 ⟨_, rfl, rfl⟩
  refine wr_ite (fun e1_3 => ?_) (fun e1_3 => ?_)
  · refine wr_tsK 3 91 dX2_numberOf_1 e1_3 ?_
    refine wr_aload_n dX2_numberOf_91 rfl ?_
    refine wr_get dX2_numberOf_92 f_RX2_12 (rd_h hr hH hk) ?_
    refine wr_get dX2_numberOf_95 f_RX2_161 (rd_cal hr hH hk) ?_
    exact wr_ireturn dX2_numberOf_98 ⟨_, rfl, rfl⟩
  refine wr_ite (fun e1_4 => ?_) (fun e1_4 => ?_)
  · refine wr_tsK 4 99 dX2_numberOf_1 e1_4 ?_
    refine wr_aload_n dX2_numberOf_99 rfl ?_
    refine wr_get dX2_numberOf_100 f_RX2_33 (rd_h hr hH hk) ?_
    refine wr_get dX2_numberOf_103 f_RX2_138 (rd_wait hr hH hk) ?_
    exact wr_ireturn dX2_numberOf_106 ⟨_, rfl, rfl⟩
  refine wr_ite (fun e1_5 => ?_) (fun e1_5 => ?_)
  · refine wr_tsK 5 107 dX2_numberOf_1 e1_5 ?_
    refine wr_aload_n dX2_numberOf_107 rfl ?_
    refine wr_iload_n dX2_numberOf_108 rfl ?_
    refine wr_bipush dX2_numberOf_109 ?_
    refine wr_iadd dX2_numberOf_111 ?_
    refine wr_cV dX2_numberOf_112 k_RX2_164 b_yX2_sumOverOrders x_yX2_sumOverOrders (pX2_sumOverOrders (n := n) hE hr hH hk (x1 + 6)) (rd_h hr hH hk) rfl (fun r112 => ?_)
    exact wr_ireturn dX2_numberOf_115 ⟨_, rfl, rfl⟩
  refine wr_ite (fun e1_6 => ?_) (fun e1_6 => ?_)
  · refine wr_tsK 6 107 dX2_numberOf_1 e1_6 ?_
    refine wr_aload_n dX2_numberOf_107 rfl ?_
    refine wr_iload_n dX2_numberOf_108 rfl ?_
    refine wr_bipush dX2_numberOf_109 ?_
    refine wr_iadd dX2_numberOf_111 ?_
    refine wr_cV dX2_numberOf_112 k_RX2_164 b_yX2_sumOverOrders x_yX2_sumOverOrders (pX2_sumOverOrders (n := n) hE hr hH hk (x1 + 6)) (rd_h hr hH hk) rfl (fun r112 => ?_)
    exact wr_ireturn dX2_numberOf_115 ⟨_, rfl, rfl⟩
  refine wr_ite (fun e1_7 => ?_) (fun e1_7 => ?_)
  · refine wr_tsK 7 107 dX2_numberOf_1 e1_7 ?_
    refine wr_aload_n dX2_numberOf_107 rfl ?_
    refine wr_iload_n dX2_numberOf_108 rfl ?_
    refine wr_bipush dX2_numberOf_109 ?_
    refine wr_iadd dX2_numberOf_111 ?_
    refine wr_cV dX2_numberOf_112 k_RX2_164 b_yX2_sumOverOrders x_yX2_sumOverOrders (pX2_sumOverOrders (n := n) hE hr hH hk (x1 + 6)) (rd_h hr hH hk) rfl (fun r112 => ?_)
    exact wr_ireturn dX2_numberOf_115 ⟨_, rfl, rfl⟩
  refine wr_ite (fun e1_8 => ?_) (fun e1_8 => ?_)
  · refine wr_tsK 8 116 dX2_numberOf_1 e1_8 ?_
    refine wr_aload_n dX2_numberOf_116 rfl ?_
    refine wr_get dX2_numberOf_117 f_RX2_71 (rd_h hr hH hk) ?_
    exact wr_ireturn dX2_numberOf_120 ⟨_, rfl, rfl⟩
  refine wr_ite (fun e1_9 => ?_) (fun e1_9 => ?_)
  · refine wr_tsK 9 130 dX2_numberOf_1 e1_9 ?_
    refine wr_bipush dX2_numberOf_130 ?_
    exact wr_ireturn dX2_numberOf_132 ⟨_, rfl, rfl⟩
  refine wr_ite (fun e1_10 => ?_) (fun e1_10 => ?_)
  · refine wr_tsK 10 130 dX2_numberOf_1 e1_10 ?_
    refine wr_bipush dX2_numberOf_130 ?_
    exact wr_ireturn dX2_numberOf_132 ⟨_, rfl, rfl⟩
  refine wr_ite (fun e1_11 => ?_) (fun e1_11 => ?_)
  · refine wr_tsK 11 121 dX2_numberOf_1 e1_11 ?_
    refine wr_aload_n dX2_numberOf_121 rfl ?_
    refine wr_iload_n dX2_numberOf_122 rfl ?_
    refine wr_bipush dX2_numberOf_123 ?_
    refine wr_isub dX2_numberOf_125 ?_
    refine wr_cV dX2_numberOf_126 k_RX2_88 b_yX2_settingOf x_yX2_settingOf (pX2_settingOf (n := n + 1) hE hr hH hk (x1 - 11)) (rd_h hr hH hk) rfl (fun r126 => ?_)
    exact wr_ireturn dX2_numberOf_129 ⟨_, rfl, rfl⟩
  refine wr_ite (fun e1_12 => ?_) (fun e1_12 => ?_)
  · refine wr_tsK 12 121 dX2_numberOf_1 e1_12 ?_
    refine wr_aload_n dX2_numberOf_121 rfl ?_
    refine wr_iload_n dX2_numberOf_122 rfl ?_
    refine wr_bipush dX2_numberOf_123 ?_
    refine wr_isub dX2_numberOf_125 ?_
    refine wr_cV dX2_numberOf_126 k_RX2_88 b_yX2_settingOf x_yX2_settingOf (pX2_settingOf (n := n + 1) hE hr hH hk (x1 - 11)) (rd_h hr hH hk) rfl (fun r126 => ?_)
    exact wr_ireturn dX2_numberOf_129 ⟨_, rfl, rfl⟩
  refine wr_ite (fun e1_13 => ?_) (fun e1_13 => ?_)
  · refine wr_tsK 13 121 dX2_numberOf_1 e1_13 ?_
    refine wr_aload_n dX2_numberOf_121 rfl ?_
    refine wr_iload_n dX2_numberOf_122 rfl ?_
    refine wr_bipush dX2_numberOf_123 ?_
    refine wr_isub dX2_numberOf_125 ?_
    refine wr_cV dX2_numberOf_126 k_RX2_88 b_yX2_settingOf x_yX2_settingOf (pX2_settingOf (n := n + 1) hE hr hH hk (x1 - 11)) (rd_h hr hH hk) rfl (fun r126 => ?_)
    exact wr_ireturn dX2_numberOf_129 ⟨_, rfl, rfl⟩
  refine wr_ite (fun e1_14 => ?_) (fun e1_14 => ?_)
  · refine wr_tsK 14 121 dX2_numberOf_1 e1_14 ?_
    refine wr_aload_n dX2_numberOf_121 rfl ?_
    refine wr_iload_n dX2_numberOf_122 rfl ?_
    refine wr_bipush dX2_numberOf_123 ?_
    refine wr_isub dX2_numberOf_125 ?_
    refine wr_cV dX2_numberOf_126 k_RX2_88 b_yX2_settingOf x_yX2_settingOf (pX2_settingOf (n := n + 1) hE hr hH hk (x1 - 11)) (rd_h hr hH hk) rfl (fun r126 => ?_)
    exact wr_ireturn dX2_numberOf_129 ⟨_, rfl, rfl⟩
  refine wr_tsOut (z := x1) 130 dX2_numberOf_1 g1 (by omega) ?_
  refine wr_bipush dX2_numberOf_130 ?_
  exact wr_ireturn dX2_numberOf_132 ⟨_, rfl, rfl⟩
set_option maxRecDepth 100000 in
set_option maxHeartbeats 4000000 in
theorem pX6_count {E : wE} {n : Nat} (hE : wGE E) {M : mR} {c : cR} {ca : caT} {h : hW} (hr : rep E (c, M) ca h) (x1 : Int)  : WR E (n + 3) yX6_count cX6_count 2 (some .int) vI h 0 (wArgs [.ref (aTop E), .int (iI x1)]) [] (fX6_count x1 c) := by
  unfold fX6_count
  refine wr_iload_n dX6_count_0 rfl ?_
  refine wr_bipush dX6_count_1 ?_
  refine wr_gd (fun g3 => ?_)
  refine wr_icmp_ne 14 dX6_count_3 g3 (by decide) (fun h3 => ?_) (fun h3 => ?_)
  · refine wr_iload_n dX6_count_14 rfl ?_
    refine wr_bipush dX6_count_15 ?_
    refine wr_gd (fun g17 => ?_)
    refine wr_icmp_ne 25 dX6_count_17 g17 (by decide) (fun h17 => ?_) (fun h17 => ?_)
    · refine wr_aload_n dX6_count_25 rfl ?_
      refine wr_get dX6_count_26 f_RX6_12 (rd_top hr) ?_
      refine wr_iload_n dX6_count_29 rfl ?_
      refine wr_cV dX6_count_30 k_RX6_157 b_yX2_numberOf x_yX2_numberOf (pX2_numberOf (n := n) hE hr rfl (by omega) x1) (rd_h hr rfl (by omega)) rfl (fun r30 => ?_)
      exact wr_ireturn dX6_count_33 ⟨_, rfl, rfl⟩
    · refine wr_aload_n dX6_count_20 rfl ?_
      refine wr_get dX6_count_21 f_RX6_154 (rd_top hr) ?_
      exact wr_ireturn dX6_count_24 ⟨_, rfl, rfl⟩
  · refine wr_aload_n dX6_count_6 rfl ?_
    refine wr_get dX6_count_7 f_RX6_33 (rd_top hr) ?_
    refine wr_get dX6_count_10 f_RX6_151 (rd_pad hr) ?_
    exact wr_ireturn dX6_count_13 ⟨_, rfl, rfl⟩
set_option maxRecDepth 100000 in
set_option maxHeartbeats 4000000 in
theorem pX2_nextNominalDay {E : wE} {n : Nat} (hE : wGE E) {G : gR} {k : Int} (hk : 0 ≤ k ∧ k < 11) (x1 : Int)  (H : hR) (ca : caT) : WF E (n + 4) yX2_nextNominalDay cX2_nextNominalDay 2 (some .int) vI (setH G k) ca 0 (wArgs [.ref (aH E k), .int (iI x1)]) [] H (fX2_nextNominalDay x1 H) := by
  unfold fX2_nextNominalDay
  refine wf_aload_n dX2_nextNominalDay_0 rfl ?_
  refine wf_get dX2_nextNominalDay_1 f_RX2_26 (fun h hr => rd_h hr setH_at hk) ?_
  refine wf_iload_n dX2_nextNominalDay_4 rfl ?_
  refine wf_gd (fun g5 => ?_)
  refine wf_aald_ord dX2_nextNominalDay_5 g5 (fun h hr => rd_ords hr setH_at hk) ?_
  refine wf_get dX2_nextNominalDay_6 f_RX2_127 (fun h hr => rd_ord hr setH_at hk (by omega)) ?_
  refine wf_iconst dX2_nextNominalDay_9 ?_
  refine wf_gd (fun g10 => ?_)
  refine wf_icmp_ne 16 dX2_nextNominalDay_10 g10 (by decide) (fun h10 => ?_) (fun h10 => ?_)
  · refine wf_aload_n dX2_nextNominalDay_16 rfl ?_
    refine wf_get dX2_nextNominalDay_17 f_RX2_26 (fun h hr => rd_h hr setH_at hk) ?_
    refine wf_iload_n dX2_nextNominalDay_20 rfl ?_
    refine wf_gd (fun g21 => ?_)
    refine wf_aald_ord dX2_nextNominalDay_21 g21 (fun h hr => rd_ords hr setH_at hk) ?_
    refine wf_aload_n dX2_nextNominalDay_22 rfl ?_
    refine wf_get dX2_nextNominalDay_23 f_RX2_12 (fun h hr => rd_h hr setH_at hk) ?_
    refine wf_cV (put := fun q => q) dX2_nextNominalDay_26 k_RX2_155 b_yX3_aim x_yX3_aim (pX3_aim (n := n) hE (G := G) (k := k) hk x1 (by omega) _ _) rfl (fun _ => rfl) (fun h hr => rd_ord hr setH_at hk (by omega)) rfl (fun r26 H26 ca => ?_)
    refine wf_aload_n dX2_nextNominalDay_29 rfl ?_
    refine wf_get dX2_nextNominalDay_30 f_RX2_26 (fun h hr => rd_h hr setH_at hk) ?_
    refine wf_iload_n dX2_nextNominalDay_33 rfl ?_
    refine wf_gd (fun g34 => ?_)
    refine wf_aald_ord dX2_nextNominalDay_34 g34 (fun h hr => rd_ords hr setH_at hk) ?_
    refine wf_get dX2_nextNominalDay_35 f_RX2_158 (fun h hr => rd_ord hr setH_at hk (by omega)) ?_
    exact wf_ireturn dX2_nextNominalDay_38 ⟨_, rfl, rfl⟩
  · refine wf_bipush dX2_nextNominalDay_13 ?_
    exact wf_ireturn dX2_nextNominalDay_15 ⟨_, rfl, rfl⟩
set_option maxRecDepth 100000 in
set_option maxHeartbeats 4000000 in
theorem pX6_ofOrder {E : wE} {n : Nat} (hE : wGE E) {M : mR} (x1 : Int) (x2 : Int)  (c : cR) (ca : caT) : WF E (n + 5) yX6_ofOrder cX6_ofOrder 3 (some .int) vI (fun c : cR => (c, M)) ca 0 (wArgs [.ref (aTop E), .int (iI x1), .int (iI x2)]) [] c (fX6_ofOrder x1 x2 c) := by
  unfold fX6_ofOrder
  refine wf_aload_n dX6_ofOrder_0 rfl ?_
  refine wf_get dX6_ofOrder_1 f_RX6_12 (fun h hr => rd_top hr) ?_
  refine wf_iload_n dX6_ofOrder_4 rfl ?_
  refine wf_rV dX6_ofOrder_5 k_RX6_124 b_yX2_hasOrder x_yX2_hasOrder (fun h hr => pX2_hasOrder (n := n + 4) hE hr rfl (by omega) x1) (fun h hr => rd_h hr rfl (by omega)) rfl (fun r5 => ?_)
  refine wf_gd (fun g8 => ?_)
  refine wf_if_ne 13 dX6_ofOrder_8 g8 (fun h8 => ?_) (fun h8 => ?_)
  · refine wf_iload_n dX6_ofOrder_13 rfl ?_
    refine wf_bipush dX6_ofOrder_14 ?_
    refine wf_gd (fun g16 => ?_)
    refine wf_icmp_ne 28 dX6_ofOrder_16 g16 (by decide) (fun h16 => ?_) (fun h16 => ?_)
    · refine wf_aload_n dX6_ofOrder_28 rfl ?_
      refine wf_get dX6_ofOrder_29 f_RX6_12 (fun h hr => rd_top hr) ?_
      refine wf_get dX6_ofOrder_32 f_RX6_130 (fun h hr => rd_h hr rfl (by omega)) ?_
      refine wf_iload_n dX6_ofOrder_35 rfl ?_
      refine wf_gd (fun g36 => ?_)
      refine wf_aald_ord dX6_ofOrder_36 g36 (fun h hr => rd_ords hr rfl (by omega)) ?_
      refine wf_iload_n dX6_ofOrder_37 rfl ?_
      refine wf_rV dX6_ofOrder_38 k_RX6_134 b_yX3_numberOf x_yX3_numberOf (fun h hr => pX3_numberOf (n := n + 4) hE hr rfl (by omega) x1 x2 (by omega)) (fun h hr => rd_ord hr rfl (by omega) (by omega)) rfl (fun r38 => ?_)
      exact wf_ireturn dX6_ofOrder_41 ⟨_, rfl, rfl⟩
    · refine wf_aload_n dX6_ofOrder_19 rfl ?_
      refine wf_get dX6_ofOrder_20 f_RX6_12 (fun h hr => rd_top hr) ?_
      refine wf_iload_n dX6_ofOrder_23 rfl ?_
      refine wf_cV (put := cH c 0) dX6_ofOrder_24 k_RX6_127 b_yX2_nextNominalDay x_yX2_nextNominalDay (pX2_nextNominalDay (n := n) hE (G := (c, M)) (k := 0) (by omega) x1 _ _) setH_self (fun _ => rfl) (fun h hr => rd_h hr rfl (by omega)) rfl (fun r24 t24 ca => ?_)
      refine wf_bnd (fun c24 => ?_)
      exact wf_ireturn dX6_ofOrder_27 ⟨_, rfl, rfl⟩
  · refine wf_iconst dX6_ofOrder_11 ?_
    exact wf_ireturn dX6_ofOrder_12 ⟨_, rfl, rfl⟩
set_option maxRecDepth 100000 in
set_option maxHeartbeats 4000000 in
theorem pX6_ofPayment {E : wE} {n : Nat} (hE : wGE E) {M : mR} {c : cR} {ca : caT} {h : hW} (hr : rep E (c, M) ca h) (x1 : Int) (x2 : Int)  : WR E (n + 1) yX6_ofPayment cX6_ofPayment 3 (some .int) vI h 0 (wArgs [.ref (aTop E), .int (iI x1), .int (iI x2)]) [] (fX6_ofPayment x1 x2 c) := by
  unfold fX6_ofPayment
  refine wr_iload_n dX6_ofPayment_0 rfl ?_
  refine wr_iconst dX6_ofPayment_1 ?_
  refine wr_aload_n dX6_ofPayment_2 rfl ?_
  refine wr_get dX6_ofPayment_3 f_RX6_12 (rd_top hr) ?_
  refine wr_get dX6_ofPayment_6 f_RX6_138 (rd_h hr rfl (by omega)) ?_
  refine wr_get dX6_ofPayment_9 f_RX6_142 (rd_wait hr rfl (by omega)) ?_
  refine wr_iconst dX6_ofPayment_12 ?_
  refine wr_isub dX6_ofPayment_13 ?_
  refine wr_cS dX6_ofPayment_14 k_RX6_93 b_yX6_isBetween x_yX6_isBetween (pX6_isBetween (n := n) hE x1 0 (((c.1 0).1 4 2 0) - 1)) (fun r14 => ?_)
  refine wr_gd (fun g17 => ?_)
  refine wr_if_ne 22 dX6_ofPayment_17 g17 (fun h17 => ?_) (fun h17 => ?_)
  · refine wr_iload_n dX6_ofPayment_22 rfl ?_
    refine wr_iconst dX6_ofPayment_23 ?_
    refine wr_iconst dX6_ofPayment_24 ?_
    refine wr_cS dX6_ofPayment_25 k_RX6_93 b_yX6_isBetween x_yX6_isBetween (pX6_isBetween (n := n) hE x2 0 4) (fun r25 => ?_)
    refine wr_gd (fun g28 => ?_)
    refine wr_if_ne 34 dX6_ofPayment_28 g28 (fun h28 => ?_) (fun h28 => ?_)
    · refine wr_aload_n dX6_ofPayment_34 rfl ?_
      refine wr_get dX6_ofPayment_35 f_RX6_12 (rd_top hr) ?_
      refine wr_get dX6_ofPayment_38 f_RX6_138 (rd_h hr rfl (by omega)) ?_
      refine wr_get dX6_ofPayment_41 f_RX6_147 (rd_wait hr rfl (by omega)) ?_
      refine wr_iload_n dX6_ofPayment_44 rfl ?_
      refine wr_gd (fun g45 => ?_)
      refine wr_aald_cols dX6_ofPayment_45 g45 (rd_cols hr rfl (by omega)) ?_
      refine wr_iload_n dX6_ofPayment_46 rfl ?_
      refine wr_gd (fun g47 => ?_)
      refine wr_collds dX6_ofPayment_47 hr rfl (by omega) g45 g47 ?_
      exact wr_ireturn dX6_ofPayment_48 ⟨_, rfl, rfl⟩
    · refine wr_bipush dX6_ofPayment_31 ?_
      exact wr_ireturn dX6_ofPayment_33 ⟨_, rfl, rfl⟩
  · refine wr_iconst dX6_ofPayment_20 ?_
    exact wr_ireturn dX6_ofPayment_21 ⟨_, rfl, rfl⟩
set_option maxRecDepth 100000 in
set_option maxHeartbeats 4000000 in
theorem pX3_dateBehindNext_b26 {E : wE} {n : Nat} (hE : wGE E) {G : gR} {k : Int} (hk : 0 ≤ k ∧ k < 11) (x0 : Int) (x1 : Int) (hbx0 : 0 ≤ x0 ∧ x0 < 16) (H : hR) (ca : caT) : WF E (n + 4) yX3_dateBehindNext cX3_dateBehindNext 4 (some .int) vI (setH G k) ca 26 (wLs [some (.ref (aOrd E k x0)), some (.int (iI x1)), some (.ref (aCal E k))]) [] H (fX3_dateBehindNext_b26 x0 x1 H) := by
  unfold fX3_dateBehindNext_b26
  refine wf_aload_n dX3_dateBehindNext_26 rfl ?_
  refine wf_aload_n dX3_dateBehindNext_27 rfl ?_
  refine wf_cV (put := fun q => q) dX3_dateBehindNext_28 k_RX3_101 b_yX3_aim x_yX3_aim (pX3_aim (n := n) hE (G := G) (k := k) hk x0 (by omega) _ _) rfl (fun _ => rfl) (fun h hr => rd_ord hr setH_at hk (by omega)) rfl (fun r28 H28 ca => ?_)
  refine wf_aload_n dX3_dateBehindNext_31 rfl ?_
  refine wf_aload_n dX3_dateBehindNext_32 rfl ?_
  refine wf_get dX3_dateBehindNext_33 f_RX3_85 (fun h hr => rd_ord hr setH_at hk (by omega)) ?_
  refine wf_iload_n dX3_dateBehindNext_36 rfl ?_
  refine wf_iadd dX3_dateBehindNext_37 ?_
  refine wf_aload_n dX3_dateBehindNext_38 rfl ?_
  refine wf_rV dX3_dateBehindNext_39 k_RX3_88 b_yX3_nominalDay x_yX3_nominalDay (fun h hr => pX3_nominalDay (n := n + 1) hE hr setH_at hk x0 ((H28.1 3 x0 17) + x1) (by omega)) (fun h hr => rd_ord hr setH_at hk (by omega)) rfl (fun r39 => ?_)
  refine wf_istore_n dX3_dateBehindNext_42 ?_
  refine wf_iload_n dX3_dateBehindNext_43 rfl ?_
  refine wf_bipush dX3_dateBehindNext_44 ?_
  refine wf_gd (fun g46 => ?_)
  refine wf_icmp_ne 54 dX3_dateBehindNext_46 g46 (by decide) (fun h46 => ?_) (fun h46 => ?_)
  · refine wf_aload_n dX3_dateBehindNext_54 rfl ?_
    refine wf_iload_n dX3_dateBehindNext_55 rfl ?_
    refine wf_aload_n dX3_dateBehindNext_56 rfl ?_
    refine wf_get dX3_dateBehindNext_57 f_RX3_33 (fun h hr => rd_ord hr setH_at hk (by omega)) ?_
    refine wf_rV dX3_dateBehindNext_60 k_RX3_95 b_yX1_shifted x_yX1_shifted (fun h hr => pX1_shifted (n := n + 1) hE hr setH_at hk r39 (H28.1 3 x0 7)) (fun h hr => rd_cal hr setH_at hk) rfl (fun r60 => ?_)
    exact wf_ireturn dX3_dateBehindNext_63 ⟨_, rfl, rfl⟩
  · refine wf_bipush dX3_dateBehindNext_49 ?_
    refine wf_goto 63 dX3_dateBehindNext_51 ?_
    exact wf_ireturn dX3_dateBehindNext_63 ⟨_, rfl, rfl⟩
set_option maxRecDepth 100000 in
set_option maxHeartbeats 4000000 in
theorem pX3_dateBehindNext {E : wE} {n : Nat} (hE : wGE E) {G : gR} {k : Int} (hk : 0 ≤ k ∧ k < 11) (i : Int) (x1 : Int) (hbi : 0 ≤ i ∧ i < 16) (H : hR) (ca : caT) : WF E (n + 4) yX3_dateBehindNext cX3_dateBehindNext 4 (some .int) vI (setH G k) ca 0 (wArgs [.ref (aOrd E k i), .int (iI x1), .ref (aCal E k)]) [] H (fX3_dateBehindNext i x1 H) := by
  unfold fX3_dateBehindNext
  refine wf_aload_n dX3_dateBehindNext_0 rfl ?_
  refine wf_get dX3_dateBehindNext_1 f_RX3_46 (fun h hr => rd_ord hr setH_at hk (by omega)) ?_
  refine wf_iconst dX3_dateBehindNext_4 ?_
  refine wf_gd (fun g5 => ?_)
  refine wf_icmp_eq 23 dX3_dateBehindNext_5 g5 (by decide) (fun h5 => ?_) (fun h5 => ?_)
  · refine wf_bipush dX3_dateBehindNext_23 ?_
    exact wf_ireturn dX3_dateBehindNext_25 ⟨_, rfl, rfl⟩
  · refine wf_aload_n dX3_dateBehindNext_8 rfl ?_
    refine wf_get dX3_dateBehindNext_9 f_RX3_39 (fun h hr => rd_ord hr setH_at hk (by omega)) ?_
    refine wf_gd (fun g12 => ?_)
    refine wf_if_ne 26 dX3_dateBehindNext_12 g12 (fun h12 => ?_) (fun h12 => ?_)
    · exact wf_at (pX3_dateBehindNext_b26 (n := n) hE hk  i x1 (by omega) _ _) ⟨rfl, rfl, rfl, trivial⟩
    · refine wf_iload_n dX3_dateBehindNext_15 rfl ?_
      refine wf_aload_n dX3_dateBehindNext_16 rfl ?_
      refine wf_get dX3_dateBehindNext_17 f_RX3_43 (fun h hr => rd_ord hr setH_at hk (by omega)) ?_
      refine wf_gd (fun g20 => ?_)
      refine wf_icmp_lt 26 dX3_dateBehindNext_20 g20.1 g20.2 (fun h20 => ?_) (fun h20 => ?_)
      · exact wf_at (pX3_dateBehindNext_b26 (n := n) hE hk  i x1 (by omega) _ _) ⟨rfl, rfl, rfl, trivial⟩
      · refine wf_bipush dX3_dateBehindNext_23 ?_
        exact wf_ireturn dX3_dateBehindNext_25 ⟨_, rfl, rfl⟩
set_option maxRecDepth 100000 in
set_option maxHeartbeats 4000000 in
theorem pX6_dateOf {E : wE} {n : Nat} (hE : wGE E) {M : mR} (x1 : Int) (x2 : Int)  (c : cR) (ca : caT) : WF E (n + 5) yX6_dateOf cX6_dateOf 3 (some .int) vI (fun c : cR => (c, M)) ca 0 (wArgs [.ref (aTop E), .int (iI x1), .int (iI x2)]) [] c (fX6_dateOf x1 x2 c) := by
  unfold fX6_dateOf
  refine wf_aload_n dX6_dateOf_0 rfl ?_
  refine wf_get dX6_dateOf_1 f_RX6_12 (fun h hr => rd_top hr) ?_
  refine wf_iload_n dX6_dateOf_4 rfl ?_
  refine wf_rV dX6_dateOf_5 k_RX6_124 b_yX2_hasOrder x_yX2_hasOrder (fun h hr => pX2_hasOrder (n := n + 4) hE hr rfl (by omega) x1) (fun h hr => rd_h hr rfl (by omega)) rfl (fun r5 => ?_)
  refine wf_gd (fun g8 => ?_)
  refine wf_if_ne 13 dX6_dateOf_8 g8 (fun h8 => ?_) (fun h8 => ?_)
  · refine wf_iload_n dX6_dateOf_13 rfl ?_
    refine wf_iconst dX6_dateOf_14 ?_
    refine wf_bipush dX6_dateOf_15 ?_
    refine wf_rS dX6_dateOf_17 k_RX6_93 b_yX6_isBetween x_yX6_isBetween (fun h hr => pX6_isBetween (n := n + 4) hE x2 0 99) (fun r17 => ?_)
    refine wf_gd (fun g20 => ?_)
    refine wf_if_ne 26 dX6_dateOf_20 g20 (fun h20 => ?_) (fun h20 => ?_)
    · refine wf_aload_n dX6_dateOf_26 rfl ?_
      refine wf_get dX6_dateOf_27 f_RX6_12 (fun h hr => rd_top hr) ?_
      refine wf_get dX6_dateOf_30 f_RX6_130 (fun h hr => rd_h hr rfl (by omega)) ?_
      refine wf_iload_n dX6_dateOf_33 rfl ?_
      refine wf_gd (fun g34 => ?_)
      refine wf_aald_ord dX6_dateOf_34 g34 (fun h hr => rd_ords hr rfl (by omega)) ?_
      refine wf_iload_n dX6_dateOf_35 rfl ?_
      refine wf_aload_n dX6_dateOf_36 rfl ?_
      refine wf_get dX6_dateOf_37 f_RX6_12 (fun h hr => rd_top hr) ?_
      refine wf_get dX6_dateOf_40 f_RX6_48 (fun h hr => rd_h hr rfl (by omega)) ?_
      refine wf_cV (put := cH c 0) dX6_dateOf_43 k_RX6_158 b_yX3_dateBehindNext x_yX3_dateBehindNext (pX3_dateBehindNext (n := n) hE (G := (c, M)) (k := 0) (by omega) x1 x2 (by omega) _ _) setH_self (fun _ => rfl) (fun h hr => rd_ord hr rfl (by omega) (by omega)) rfl (fun r43 t43 ca => ?_)
      refine wf_bnd (fun c43 => ?_)
      exact wf_ireturn dX6_dateOf_46 ⟨_, rfl, rfl⟩
    · refine wf_bipush dX6_dateOf_23 ?_
      exact wf_ireturn dX6_dateOf_25 ⟨_, rfl, rfl⟩
  · refine wf_iconst dX6_dateOf_11 ?_
    exact wf_ireturn dX6_dateOf_12 ⟨_, rfl, rfl⟩
set_option maxRecDepth 100000 in
set_option maxHeartbeats 4000000 in
theorem pX0_sumOf {E : wE} {n : Nat} (hE : wGE E) {G : gR} {H : hR} {ca : caT} {h : hW} {k : Int} (hr : rep E G ca h) (hH : G.1.1 k = H) (hk : 0 ≤ k ∧ k < 11) (i : Int) (x1 : Int) (hbi : 0 ≤ i ∧ i < 8) : WR E n yX0_sumOf cX0_sumOf 2 (some .long) vJ h 0 (wArgs [.ref (aAcc E k i), .int (iI x1)]) [] (fX0_sumOf i x1 H) := by
  unfold fX0_sumOf
  refine wr_iload_n dX0_sumOf_0 rfl ?_
  refine wr_gd (fun g1 => ?_)
  refine wr_ite (fun e1_0 => ?_) (fun e1_0 => ?_)
  · refine wr_tsK 0 52 dX0_sumOf_1 e1_0 ?_
    refine wr_aload_n dX0_sumOf_52 rfl ?_
    refine wr_get dX0_sumOf_53 f_RX0_21 (rd_acc hr hH hk (by omega)) ?_
    exact wr_lreturn dX0_sumOf_56 rfl
  refine wr_ite (fun e1_1 => ?_) (fun e1_1 => ?_)
  · refine wr_tsK 1 57 dX0_sumOf_1 e1_1 ?_
    refine wr_aload_n dX0_sumOf_57 rfl ?_
    refine wr_get dX0_sumOf_58 f_RX0_25 (rd_acc hr hH hk (by omega)) ?_
    exact wr_lreturn dX0_sumOf_61 rfl
  refine wr_ite (fun e1_2 => ?_) (fun e1_2 => ?_)
  · refine wr_tsK 2 62 dX0_sumOf_1 e1_2 ?_
    refine wr_aload_n dX0_sumOf_62 rfl ?_
    refine wr_get dX0_sumOf_63 f_RX0_28 (rd_acc hr hH hk (by omega)) ?_
    exact wr_lreturn dX0_sumOf_66 rfl
  refine wr_ite (fun e1_3 => ?_) (fun e1_3 => ?_)
  · refine wr_tsK 3 67 dX0_sumOf_1 e1_3 ?_
    refine wr_aload_n dX0_sumOf_67 rfl ?_
    refine wr_get dX0_sumOf_68 f_RX0_31 (rd_acc hr hH hk (by omega)) ?_
    exact wr_lreturn dX0_sumOf_71 rfl
  refine wr_ite (fun e1_4 => ?_) (fun e1_4 => ?_)
  · refine wr_tsK 4 72 dX0_sumOf_1 e1_4 ?_
    refine wr_aload_n dX0_sumOf_72 rfl ?_
    refine wr_get dX0_sumOf_73 f_RX0_34 (rd_acc hr hH hk (by omega)) ?_
    exact wr_lreturn dX0_sumOf_76 rfl
  refine wr_ite (fun e1_5 => ?_) (fun e1_5 => ?_)
  · refine wr_tsK 5 77 dX0_sumOf_1 e1_5 ?_
    refine wr_aload_n dX0_sumOf_77 rfl ?_
    refine wr_get dX0_sumOf_78 f_RX0_37 (rd_acc hr hH hk (by omega)) ?_
    exact wr_lreturn dX0_sumOf_81 rfl
  refine wr_ite (fun e1_6 => ?_) (fun e1_6 => ?_)
  · refine wr_tsK 6 82 dX0_sumOf_1 e1_6 ?_
    refine wr_aload_n dX0_sumOf_82 rfl ?_
    refine wr_get dX0_sumOf_83 f_RX0_40 (rd_acc hr hH hk (by omega)) ?_
    exact wr_lreturn dX0_sumOf_86 rfl
  refine wr_ite (fun e1_7 => ?_) (fun e1_7 => ?_)
  · refine wr_tsK 7 87 dX0_sumOf_1 e1_7 ?_
    refine wr_aload_n dX0_sumOf_87 rfl ?_
    refine wr_get dX0_sumOf_88 f_RX0_43 (rd_acc hr hH hk (by omega)) ?_
    exact wr_lreturn dX0_sumOf_91 rfl
  refine wr_ite (fun e1_8 => ?_) (fun e1_8 => ?_)
  · refine wr_tsK 8 92 dX0_sumOf_1 e1_8 ?_
    refine wr_aload_n dX0_sumOf_92 rfl ?_
    refine wr_get dX0_sumOf_93 f_RX0_46 (rd_acc hr hH hk (by omega)) ?_
    exact wr_lreturn dX0_sumOf_96 rfl
  refine wr_tsOut (z := x1) 97 dX0_sumOf_1 g1 (by omega) ?_
  refine wr_ldc2 dX0_sumOf_97 c_RX0_53 ?_
  exact wr_lreturn dX0_sumOf_100 rfl
set_option maxRecDepth 100000 in
set_option maxHeartbeats 4000000 in
theorem pX6_money {E : wE} {n : Nat} (hE : wGE E) {M : mR} {c : cR} {ca : caT} {h : hW} (hr : rep E (c, M) ca h) (x1 : Int) (x2 : Int)  : WR E (n + 1) yX6_money cX6_money 3 (some .long) vJ h 0 (wArgs [.ref (aTop E), .int (iI x1), .int (iI x2)]) [] (fX6_money x1 x2 c) := by
  unfold fX6_money
  refine wr_aload_n dX6_money_0 rfl ?_
  refine wr_get dX6_money_1 f_RX6_12 (rd_top hr) ?_
  refine wr_iload_n dX6_money_4 rfl ?_
  refine wr_cV dX6_money_5 k_RX6_100 b_yX2_hasAccount x_yX2_hasAccount (pX2_hasAccount (n := n) hE hr rfl (by omega) x1) (rd_h hr rfl (by omega)) rfl (fun r5 => ?_)
  refine wr_gd (fun g8 => ?_)
  refine wr_if_ne 15 dX6_money_8 g8 (fun h8 => ?_) (fun h8 => ?_)
  · refine wr_aload_n dX6_money_15 rfl ?_
    refine wr_get dX6_money_16 f_RX6_12 (rd_top hr) ?_
    refine wr_get dX6_money_19 f_RX6_106 (rd_h hr rfl (by omega)) ?_
    refine wr_iload_n dX6_money_22 rfl ?_
    refine wr_gd (fun g23 => ?_)
    refine wr_aald_acc dX6_money_23 g23 (rd_accs hr rfl (by omega)) ?_
    refine wr_iload_n dX6_money_24 rfl ?_
    refine wr_cV dX6_money_25 k_RX6_110 b_yX0_sumOf x_yX0_sumOf (pX0_sumOf (n := n) hE hr rfl (by omega) x1 x2 (by omega)) (rd_acc hr rfl (by omega) (by omega)) rfl (fun r25 => ?_)
    exact wr_lreturn dX6_money_28 rfl
  · refine wr_ldc2 dX6_money_11 c_RX6_104 ?_
    exact wr_lreturn dX6_money_14 rfl
set_option maxRecDepth 100000 in
set_option maxHeartbeats 4000000 in
theorem pX6_bitsOf_b87 {E : wE} {n : Nat} (hE : wGE E) {h : hW} (x2 : UInt64) (x4 : Int)  : WR E n yX6_bitsOf cX6_bitsOf 7 (some .long) vJ h 87 (wLs [none, none, some (.double x2), none, some (.long (jL x4))]) [] (fX6_bitsOf_b87 x2 x4) := by
  unfold fX6_bitsOf_b87
  refine wr_lload dX6_bitsOf_87 rfl ?_
  refine wr_bipush dX6_bitsOf_89 ?_
  refine wr_lshl dX6_bitsOf_91 ?_
  refine wr_dload_n dX6_bitsOf_92 rfl ?_
  refine wr_dconst1 dX6_bitsOf_93 ?_
  refine wr_gd (fun g94 => ?_)
  refine wr_dsub dX6_bitsOf_94 g94 ?_
  refine wr_ldc2d dX6_bitsOf_95 c_RX6_248 ?_
  refine wr_gd (fun g98 => ?_)
  refine wr_dmul dX6_bitsOf_98 g98 ?_
  refine wr_d2l dX6_bitsOf_99 ?_
  refine wr_ladd dX6_bitsOf_100 ?_
  exact wr_lreturn dX6_bitsOf_101 rfl
set_option maxRecDepth 100000 in
set_option maxHeartbeats 4000000 in
theorem pX6_bitsOf_b55 {E : wE} {n : Nat} (hE : wGE E) {h : hW} : ∀ (fuel : Nat) (x2 : UInt64) (x4 : Int) (x6 : Int) , WR E n yX6_bitsOf cX6_bitsOf 7 (some .long) vJ h 55 (wLs [none, none, some (.double x2), none, some (.long (jL x4)), none, some (.int (iI x6))]) [] (fX6_bitsOf_b55 fuel x2 x4 x6) := by
  intro fuel
  induction fuel with
  | zero =>
    intro x2 x4 x6
    exact wr_none
  | succ fuel ih =>
    intro x2 x4 x6
    unfold fX6_bitsOf_b55
    refine wr_iload dX6_bitsOf_55 rfl ?_
    refine wr_sipush dX6_bitsOf_57 ?_
    refine wr_gd (fun g60 => ?_)
    refine wr_icmp_ge 87 dX6_bitsOf_60 g60 (by decide) (fun h60 => ?_) (fun h60 => ?_)
    · exact wr_at (pX6_bitsOf_b87 (n := n) hE  x2 x4) ⟨rfl, rfl, trivial⟩
    · refine wr_dload_n dX6_bitsOf_63 rfl ?_
      refine wr_dconst1 dX6_bitsOf_64 ?_
      refine wr_dcmp dX6_bitsOf_65 ?_
      refine wr_gd (fun g66 => ?_)
      refine wr_if_ge 87 dX6_bitsOf_66 g66 (fun h66 => ?_) (fun h66 => ?_)
      · exact wr_at (pX6_bitsOf_b87 (n := n) hE  x2 x4) ⟨rfl, rfl, trivial⟩
      · refine wr_dload_n dX6_bitsOf_69 rfl ?_
        refine wr_ldc2d dX6_bitsOf_70 c_RX6_246 ?_
        refine wr_gd (fun g73 => ?_)
        refine wr_dmul dX6_bitsOf_73 g73 ?_
        refine wr_dstore_n dX6_bitsOf_74 ?_
        refine wr_lload dX6_bitsOf_75 rfl ?_
        refine wr_lconst1 dX6_bitsOf_77 ?_
        refine wr_lsub dX6_bitsOf_78 ?_
        refine wr_lstore dX6_bitsOf_79 ?_
        refine wr_iinc dX6_bitsOf_81 rfl ?_
        refine wr_goto 55 dX6_bitsOf_84 ?_
        exact wr_at (ih (FP.dmul x2 4611686018427387904) (x4 - 1) (x6 + 1)) ⟨rfl, rfl, rfl, trivial⟩
set_option maxRecDepth 100000 in
set_option maxHeartbeats 4000000 in
theorem pX6_bitsOf_b18 {E : wE} {n : Nat} (hE : wGE E) {h : hW} : ∀ (fuel : Nat) (x2 : UInt64) (x4 : Int) (x6 : Int) , WR E n yX6_bitsOf cX6_bitsOf 7 (some .long) vJ h 18 (wLs [none, none, some (.double x2), none, some (.long (jL x4)), none, some (.int (iI x6))]) [] (fX6_bitsOf_b18 fuel x2 x4 x6) := by
  intro fuel
  induction fuel with
  | zero =>
    intro x2 x4 x6
    exact wr_none
  | succ fuel ih =>
    intro x2 x4 x6
    unfold fX6_bitsOf_b18
    refine wr_iload dX6_bitsOf_18 rfl ?_
    refine wr_sipush dX6_bitsOf_20 ?_
    refine wr_gd (fun g23 => ?_)
    refine wr_icmp_ge 52 dX6_bitsOf_23 g23 (by decide) (fun h23 => ?_) (fun h23 => ?_)
    · refine wr_iconst dX6_bitsOf_52 ?_
      refine wr_istore dX6_bitsOf_53 ?_
      exact wr_at (pX6_bitsOf_b55 (n := n) hE  fuel0 x2 x4 0) ⟨rfl, rfl, rfl, trivial⟩
    · refine wr_dload_n dX6_bitsOf_26 rfl ?_
      refine wr_ldc2d dX6_bitsOf_27 c_RX6_246 ?_
      refine wr_dcmp dX6_bitsOf_30 ?_
      refine wr_gd (fun g31 => ?_)
      refine wr_if_lt 52 dX6_bitsOf_31 g31 (fun h31 => ?_) (fun h31 => ?_)
      · refine wr_iconst dX6_bitsOf_52 ?_
        refine wr_istore dX6_bitsOf_53 ?_
        exact wr_at (pX6_bitsOf_b55 (n := n) hE  fuel0 x2 x4 0) ⟨rfl, rfl, rfl, trivial⟩
      · refine wr_dload_n dX6_bitsOf_34 rfl ?_
        refine wr_ldc2d dX6_bitsOf_35 c_RX6_246 ?_
        refine wr_gd (fun g38 => ?_)
        refine wr_ddiv dX6_bitsOf_38 g38 ?_
        refine wr_dstore_n dX6_bitsOf_39 ?_
        refine wr_lload dX6_bitsOf_40 rfl ?_
        refine wr_lconst1 dX6_bitsOf_42 ?_
        refine wr_ladd dX6_bitsOf_43 ?_
        refine wr_lstore dX6_bitsOf_44 ?_
        refine wr_iinc dX6_bitsOf_46 rfl ?_
        refine wr_goto 18 dX6_bitsOf_49 ?_
        exact wr_at (ih (FP.ddiv x2 4611686018427387904) (x4 + 1) (x6 + 1)) ⟨rfl, rfl, rfl, trivial⟩
set_option maxRecDepth 100000 in
set_option maxHeartbeats 4000000 in
theorem pX6_bitsOf {E : wE} {n : Nat} (hE : wGE E) {h : hW} (x0 : UInt64)  : WR E n yX6_bitsOf cX6_bitsOf 7 (some .long) vJ h 0 (wArgs [.double x0]) [] (fX6_bitsOf x0) := by
  unfold fX6_bitsOf
  refine wr_dload_n dX6_bitsOf_0 rfl ?_
  refine wr_dconst0 dX6_bitsOf_1 ?_
  refine wr_dcmp dX6_bitsOf_2 ?_
  refine wr_gd (fun g3 => ?_)
  refine wr_if_gt 8 dX6_bitsOf_3 g3 (fun h3 => ?_) (fun h3 => ?_)
  · refine wr_dload_n dX6_bitsOf_8 rfl ?_
    refine wr_dstore_n dX6_bitsOf_9 ?_
    refine wr_ldc2 dX6_bitsOf_10 c_RX6_244 ?_
    refine wr_lstore dX6_bitsOf_13 ?_
    refine wr_iconst dX6_bitsOf_15 ?_
    refine wr_istore dX6_bitsOf_16 ?_
    exact wr_at (pX6_bitsOf_b18 (n := n) hE  fuel0 x0 1023 0) ⟨rfl, rfl, rfl, trivial⟩
  · refine wr_lconst0 dX6_bitsOf_6 ?_
    exact wr_lreturn dX6_bitsOf_7 rfl
set_option maxRecDepth 100000 in
set_option maxHeartbeats 4000000 in
theorem pX6_owedBits {E : wE} {n : Nat} (hE : wGE E) {M : mR} {c : cR} {ca : caT} {h : hW} (hr : rep E (c, M) ca h) (x1 : Int)  : WR E (n + 1) yX6_owedBits cX6_owedBits 2 (some .long) vJ h 0 (wArgs [.ref (aTop E), .int (iI x1)]) [] (fX6_owedBits x1 c) := by
  unfold fX6_owedBits
  refine wr_aload_n dX6_owedBits_0 rfl ?_
  refine wr_get dX6_owedBits_1 f_RX6_12 (rd_top hr) ?_
  refine wr_iload_n dX6_owedBits_4 rfl ?_
  refine wr_cV dX6_owedBits_5 k_RX6_100 b_yX2_hasAccount x_yX2_hasAccount (pX2_hasAccount (n := n) hE hr rfl (by omega) x1) (rd_h hr rfl (by omega)) rfl (fun r5 => ?_)
  refine wr_gd (fun g8 => ?_)
  refine wr_if_ne 15 dX6_owedBits_8 g8 (fun h8 => ?_) (fun h8 => ?_)
  · refine wr_aload_n dX6_owedBits_15 rfl ?_
    refine wr_get dX6_owedBits_16 f_RX6_12 (rd_top hr) ?_
    refine wr_get dX6_owedBits_19 f_RX6_106 (rd_h hr rfl (by omega)) ?_
    refine wr_iload_n dX6_owedBits_22 rfl ?_
    refine wr_gd (fun g23 => ?_)
    refine wr_aald_acc dX6_owedBits_23 g23 (rd_accs hr rfl (by omega)) ?_
    refine wr_get dX6_owedBits_24 f_RX6_116 (rd_acc hr rfl (by omega) (by omega)) ?_
    refine wr_cS dX6_owedBits_27 k_RX6_120 b_yX6_bitsOf x_yX6_bitsOf (pX6_bitsOf (n := n) hE ((c.1 0).2 x1)) (fun r27 => ?_)
    exact wr_lreturn dX6_owedBits_30 rfl
  · refine wr_ldc2 dX6_owedBits_11 c_RX6_104 ?_
    exact wr_lreturn dX6_owedBits_14 rfl
set_option maxRecDepth 100000 in
set_option maxHeartbeats 4000000 in
theorem pX0_takeInterest {E : wE} {n : Nat} (hE : wGE E) {G : gR} {k : Int} (hk : 0 ≤ k ∧ k < 11) (i : Int) (hbi : 0 ≤ i ∧ i < 8) (H : hR) (ca : caT) : WF E n yX0_takeInterest cX0_takeInterest 3 (none) vV (setH G k) ca 0 (wArgs [.ref (aAcc E k i)]) [] H (fX0_takeInterest i H) := by
  unfold fX0_takeInterest
  refine wf_aload_n dX0_takeInterest_0 rfl ?_
  refine wf_get dX0_takeInterest_1 f_RX0_49 (fun h hr => rd_acc hr setH_at hk (by omega)) ?_
  refine wf_d2l dX0_takeInterest_4 ?_
  refine wf_lstore_n dX0_takeInterest_5 ?_
  refine wf_aload_n dX0_takeInterest_6 rfl ?_
  refine wf_dup dX0_takeInterest_7 ?_
  refine wf_get dX0_takeInterest_8 f_RX0_21 (fun h hr => rd_acc hr setH_at hk (by omega)) ?_
  refine wf_lload_n dX0_takeInterest_11 rfl ?_
  refine wf_lsub dX0_takeInterest_12 ?_
  refine wf_p_accl (f := 3) dX0_takeInterest_13 p_RX0_21 hk (by omega) (fun H13 => ?_)
  refine wf_aload_n dX0_takeInterest_16 rfl ?_
  refine wf_dup dX0_takeInterest_17 ?_
  refine wf_get dX0_takeInterest_18 f_RX0_43 (fun h hr => rd_acc hr setH_at hk (by omega)) ?_
  refine wf_lload_n dX0_takeInterest_21 rfl ?_
  refine wf_ladd dX0_takeInterest_22 ?_
  refine wf_p_accl (f := 10) dX0_takeInterest_23 p_RX0_43 hk (by omega) (fun H23 => ?_)
  refine wf_aload_n dX0_takeInterest_26 rfl ?_
  refine wf_aload_n dX0_takeInterest_27 rfl ?_
  refine wf_get dX0_takeInterest_28 f_RX0_49 (fun h hr => rd_acc hr setH_at hk (by omega)) ?_
  refine wf_lload_n dX0_takeInterest_31 rfl ?_
  refine wf_l2d dX0_takeInterest_32 ?_
  refine wf_gd (fun g33 => ?_)
  refine wf_dsub dX0_takeInterest_33 g33 ?_
  refine wf_p_accd dX0_takeInterest_34 p_RX0_49 hk (by omega) (fun H34 => ?_)
  exact wf_return dX0_takeInterest_37 rfl
set_option maxRecDepth 100000 in
set_option maxHeartbeats 4000000 in
theorem pX2_chargeInterest_b85 {E : wE} {n : Nat} (hE : wGE E) {G : gR} {k : Int} (hk : 0 ≤ k ∧ k < 11) {rec35 : UInt32 → Int → Int → hR → Option (Unit × hR)} (hrec35 : ∀ (x1 : UInt32) (x2 : Int) (x3 : Int)  (H : hR) (ca : caT), WF E (n + 1) yX2_chargeInterest cX2_chargeInterest 5 (none) vV (setH G k) ca 35 (wLs [some (.ref (aH E k)), some (.float x1), some (.int (iI x2)), some (.int (iI x3))]) [] H (rec35 x1 x2 x3 H)) (x1 : UInt32) (x2 : Int) (x3 : Int) (x4 : Int) (hbx4 : 0 ≤ x4 ∧ x4 < 8) (H : hR) (ca : caT) : WF E (n + 1) yX2_chargeInterest cX2_chargeInterest 5 (none) vV (setH G k) ca 85 (wLs [some (.ref (aH E k)), some (.float x1), some (.int (iI x2)), some (.int (iI x3)), some (.ref (aAcc E k x4))]) [] H (fX2_chargeInterest_b85 rec35 x1 x2 x3 x4 H) := by
  unfold fX2_chargeInterest_b85
  refine wf_iload_n dX2_chargeInterest_85 rfl ?_
  refine wf_gd (fun g86 => ?_)
  refine wf_if_eq 94 dX2_chargeInterest_86 g86 (fun h86 => ?_) (fun h86 => ?_)
  · refine wf_iinc dX2_chargeInterest_94 rfl ?_
    refine wf_goto 35 dX2_chargeInterest_97 ?_
    exact wf_at (hrec35 x1 x2 (x3 + 1) _ _) ⟨rfl, rfl, rfl, rfl, trivial⟩
  · refine wf_aload dX2_chargeInterest_89 rfl ?_
    refine wf_cV (put := fun q => q) dX2_chargeInterest_91 k_RX2_282 b_yX0_takeInterest x_yX0_takeInterest (pX0_takeInterest (n := n) hE (G := G) (k := k) hk x4 (by omega) _ _) rfl (fun _ => rfl) (fun h hr => rd_acc hr setH_at hk (by omega)) rfl (fun r91 H91 ca => ?_)
    refine wf_iinc dX2_chargeInterest_94 rfl ?_
    refine wf_goto 35 dX2_chargeInterest_97 ?_
    exact wf_at (hrec35 x1 x2 (x3 + 1) _ _) ⟨rfl, rfl, rfl, rfl, trivial⟩
set_option maxRecDepth 100000 in
set_option maxHeartbeats 4000000 in
theorem pX2_chargeInterest_b35 {E : wE} {n : Nat} (hE : wGE E) {G : gR} {k : Int} (hk : 0 ≤ k ∧ k < 11) : ∀ (fuel : Nat) (x1 : UInt32) (x2 : Int) (x3 : Int)  (H : hR) (ca : caT), WF E (n + 1) yX2_chargeInterest cX2_chargeInterest 5 (none) vV (setH G k) ca 35 (wLs [some (.ref (aH E k)), some (.float x1), some (.int (iI x2)), some (.int (iI x3))]) [] H (fX2_chargeInterest_b35 fuel x1 x2 x3 H) := by
  intro fuel
  induction fuel with
  | zero =>
    intro x1 x2 x3 H ca
    exact wf_none
  | succ fuel ih =>
    intro x1 x2 x3 H ca
    unfold fX2_chargeInterest_b35
    refine wf_iload_n dX2_chargeInterest_35 rfl ?_
    refine wf_aload_n dX2_chargeInterest_36 rfl ?_
    refine wf_get dX2_chargeInterest_37 f_RX2_53 (fun h hr => rd_h hr setH_at hk) ?_
    refine wf_gd (fun g40 => ?_)
    refine wf_icmp_ge 100 dX2_chargeInterest_40 g40.1 g40.2 (fun h40 => ?_) (fun h40 => ?_)
    · exact wf_return dX2_chargeInterest_100 rfl
    · refine wf_aload_n dX2_chargeInterest_43 rfl ?_
      refine wf_get dX2_chargeInterest_44 f_RX2_20 (fun h hr => rd_h hr setH_at hk) ?_
      refine wf_iload_n dX2_chargeInterest_47 rfl ?_
      refine wf_gd (fun g48 => ?_)
      refine wf_aald_acc dX2_chargeInterest_48 g48 (fun h hr => rd_accs hr setH_at hk) ?_
      refine wf_astore dX2_chargeInterest_49 ?_
      refine wf_aload dX2_chargeInterest_51 rfl ?_
      refine wf_get dX2_chargeInterest_53 f_RX2_105 (fun h hr => rd_acc hr setH_at hk (by omega)) ?_
      refine wf_lconst0 dX2_chargeInterest_56 ?_
      refine wf_gd (fun g57 => ?_)
      refine wf_jcmp_ge 85 dX2_chargeInterest_57 dX2_chargeInterest_58 g57 (by decide) (fun h57 => ?_) (fun h57 => ?_)
      · exact wf_at (pX2_chargeInterest_b85 (n := n) hE hk ih x1 x2 x3 x3 (by omega) _ _) ⟨rfl, rfl, rfl, rfl, rfl, trivial⟩
      · refine wf_aload dX2_chargeInterest_61 rfl ?_
        refine wf_dup dX2_chargeInterest_63 ?_
        refine wf_get dX2_chargeInterest_64 f_RX2_276 (fun h hr => rd_acc hr setH_at hk (by omega)) ?_
        refine wf_aload dX2_chargeInterest_67 rfl ?_
        refine wf_get dX2_chargeInterest_69 f_RX2_105 (fun h hr => rd_acc hr setH_at hk (by omega)) ?_
        refine wf_lneg dX2_chargeInterest_72 ?_
        refine wf_l2d dX2_chargeInterest_73 ?_
        refine wf_fload_n dX2_chargeInterest_74 rfl ?_
        refine wf_gd (fun g75 => ?_)
        refine wf_f2d dX2_chargeInterest_75 g75 ?_
        refine wf_gd (fun g76 => ?_)
        refine wf_dmul dX2_chargeInterest_76 g76 ?_
        refine wf_ldc2d dX2_chargeInterest_77 c_RX2_280 ?_
        refine wf_gd (fun g80 => ?_)
        refine wf_ddiv dX2_chargeInterest_80 g80 ?_
        refine wf_gd (fun g81 => ?_)
        refine wf_dadd dX2_chargeInterest_81 g81 ?_
        refine wf_p_accd dX2_chargeInterest_82 p_RX2_276 hk (by omega) (fun H82 => ?_)
        exact wf_at (pX2_chargeInterest_b85 (n := n) hE hk ih x1 x2 x3 x3 (by omega) _ _) ⟨rfl, rfl, rfl, rfl, rfl, trivial⟩
set_option maxRecDepth 100000 in
set_option maxHeartbeats 4000000 in
theorem pX2_chargeInterest {E : wE} {n : Nat} (hE : wGE E) {G : gR} {k : Int} (hk : 0 ≤ k ∧ k < 11)   (H : hR) (ca : caT) : WF E (n + 1) yX2_chargeInterest cX2_chargeInterest 5 (none) vV (setH G k) ca 0 (wArgs [.ref (aH E k)]) [] H (fX2_chargeInterest  H) := by
  unfold fX2_chargeInterest
  refine wf_aload_n dX2_chargeInterest_0 rfl ?_
  refine wf_get dX2_chargeInterest_1 f_RX2_44 (fun h hr => rd_h hr setH_at hk) ?_
  refine wf_i2f dX2_chargeInterest_4 ?_
  refine wf_ldcwf dX2_chargeInterest_5 c_RX2_269 ?_
  refine wf_gd (fun g8 => ?_)
  refine wf_fdiv dX2_chargeInterest_8 g8 ?_
  refine wf_fstore_n dX2_chargeInterest_9 ?_
  refine wf_aload_n dX2_chargeInterest_10 rfl ?_
  refine wf_get dX2_chargeInterest_11 f_RX2_68 (fun h hr => rd_h hr setH_at hk) ?_
  refine wf_rS dX2_chargeInterest_14 k_RX2_270 b_yX1_monthOf x_yX1_monthOf (fun h hr => pX1_monthOf (n := n) hE (H.1 0 6 0)) (fun r14 => ?_)
  refine wf_rS dX2_chargeInterest_17 k_RX2_273 b_yX1_lastDayOf x_yX1_lastDayOf (fun h hr => pX1_lastDayOf (n := n) hE r14) (fun r17 => ?_)
  refine wf_aload_n dX2_chargeInterest_20 rfl ?_
  refine wf_get dX2_chargeInterest_21 f_RX2_68 (fun h hr => rd_h hr setH_at hk) ?_
  refine wf_gd (fun g24 => ?_)
  refine wf_icmp_ne 31 dX2_chargeInterest_24 g24.1 g24.2 (fun h24 => ?_) (fun h24 => ?_)
  · refine wf_iconst dX2_chargeInterest_31 ?_
    refine wf_istore_n dX2_chargeInterest_32 ?_
    refine wf_iconst dX2_chargeInterest_33 ?_
    refine wf_istore_n dX2_chargeInterest_34 ?_
    exact wf_at (pX2_chargeInterest_b35 (n := n) hE hk  fuel0 (FP.fdiv (FP.i2f (iI (H.1 0 9 0))) 1148846080) 0 0 _ _) ⟨rfl, rfl, rfl, rfl, trivial⟩
  · refine wf_iconst dX2_chargeInterest_27 ?_
    refine wf_goto 32 dX2_chargeInterest_28 ?_
    refine wf_istore_n dX2_chargeInterest_32 ?_
    refine wf_iconst dX2_chargeInterest_33 ?_
    refine wf_istore_n dX2_chargeInterest_34 ?_
    exact wf_at (pX2_chargeInterest_b35 (n := n) hE hk  fuel0 (FP.fdiv (FP.i2f (iI (H.1 0 9 0))) 1148846080) 1 0 _ _) ⟨rfl, rfl, rfl, rfl, trivial⟩
set_option maxRecDepth 100000 in
set_option maxHeartbeats 4000000 in
theorem pX5_add_b39 {E : wE} {n : Nat} (hE : wGE E) {G : gR} {k : Int} (hk : 0 ≤ k ∧ k < 11) (x1 : Int) (x2 : Int) (x3 : Int) (x4 : Int)  (H : hR) (ca : caT) : WF E (n + 4) yX5_add cX5_add 5 (some .boolean) vI (setH G k) ca 39 (wLs [some (.ref (aWait E k)), some (.int (iI x1)), some (.int (iI x2)), some (.int (iI x3)), some (.int (iI x4))]) [] H (fX5_add_b39 x1 x2 x3 x4 H) := by
  unfold fX5_add_b39
  refine wf_aload_n dX5_add_39 rfl ?_
  refine wf_get dX5_add_40 f_RX5_13 (fun h hr => rd_wait hr setH_at hk) ?_
  refine wf_iconst dX5_add_43 ?_
  refine wf_aald_cols dX5_add_44 (by decide) (fun h hr => rd_cols hr setH_at hk) ?_
  refine wf_aload_n dX5_add_45 rfl ?_
  refine wf_get dX5_add_46 f_RX5_20 (fun h hr => rd_wait hr setH_at hk) ?_
  refine wf_iload_n dX5_add_49 rfl ?_
  refine wf_gd (fun g50 => ?_)
  refine wf_s_col dX5_add_50 hk (by decide) g50 (fun H50 => ?_)
  refine wf_aload_n dX5_add_51 rfl ?_
  refine wf_get dX5_add_52 f_RX5_13 (fun h hr => rd_wait hr setH_at hk) ?_
  refine wf_iconst dX5_add_55 ?_
  refine wf_aald_cols dX5_add_56 (by decide) (fun h hr => rd_cols hr setH_at hk) ?_
  refine wf_aload_n dX5_add_57 rfl ?_
  refine wf_get dX5_add_58 f_RX5_20 (fun h hr => rd_wait hr setH_at hk) ?_
  refine wf_iload_n dX5_add_61 rfl ?_
  refine wf_gd (fun g62 => ?_)
  refine wf_s_col dX5_add_62 hk (by decide) g62 (fun H62 => ?_)
  refine wf_aload_n dX5_add_63 rfl ?_
  refine wf_get dX5_add_64 f_RX5_13 (fun h hr => rd_wait hr setH_at hk) ?_
  refine wf_iconst dX5_add_67 ?_
  refine wf_aald_cols dX5_add_68 (by decide) (fun h hr => rd_cols hr setH_at hk) ?_
  refine wf_aload_n dX5_add_69 rfl ?_
  refine wf_get dX5_add_70 f_RX5_20 (fun h hr => rd_wait hr setH_at hk) ?_
  refine wf_iload_n dX5_add_73 rfl ?_
  refine wf_gd (fun g74 => ?_)
  refine wf_s_col dX5_add_74 hk (by decide) g74 (fun H74 => ?_)
  refine wf_aload_n dX5_add_75 rfl ?_
  refine wf_get dX5_add_76 f_RX5_13 (fun h hr => rd_wait hr setH_at hk) ?_
  refine wf_iconst dX5_add_79 ?_
  refine wf_aald_cols dX5_add_80 (by decide) (fun h hr => rd_cols hr setH_at hk) ?_
  refine wf_aload_n dX5_add_81 rfl ?_
  refine wf_get dX5_add_82 f_RX5_20 (fun h hr => rd_wait hr setH_at hk) ?_
  refine wf_iload dX5_add_85 rfl ?_
  refine wf_gd (fun g87 => ?_)
  refine wf_s_col dX5_add_87 hk (by decide) g87 (fun H87 => ?_)
  refine wf_aload_n dX5_add_88 rfl ?_
  refine wf_get dX5_add_89 f_RX5_13 (fun h hr => rd_wait hr setH_at hk) ?_
  refine wf_iconst dX5_add_92 ?_
  refine wf_aald_cols dX5_add_93 (by decide) (fun h hr => rd_cols hr setH_at hk) ?_
  refine wf_aload_n dX5_add_94 rfl ?_
  refine wf_get dX5_add_95 f_RX5_20 (fun h hr => rd_wait hr setH_at hk) ?_
  refine wf_iconst dX5_add_98 ?_
  refine wf_gd (fun g99 => ?_)
  refine wf_s_col dX5_add_99 hk (by decide) g99 (fun H99 => ?_)
  refine wf_aload_n dX5_add_100 rfl ?_
  refine wf_dup dX5_add_101 ?_
  refine wf_get dX5_add_102 f_RX5_20 (fun h hr => rd_wait hr setH_at hk) ?_
  refine wf_iconst dX5_add_105 ?_
  refine wf_iadd dX5_add_106 ?_
  refine wf_p_wait (f := 2) dX5_add_107 p_RX5_20 hk (fun H107 => ?_)
  refine wf_iconst dX5_add_110 ?_
  exact wf_ireturn dX5_add_111 ⟨_, rfl, rfl⟩
set_option maxRecDepth 100000 in
set_option maxHeartbeats 4000000 in
theorem pX5_add {E : wE} {n : Nat} (hE : wGE E) {G : gR} {k : Int} (hk : 0 ≤ k ∧ k < 11) (x1 : Int) (x2 : Int) (x3 : Int) (x4 : Int)  (H : hR) (ca : caT) : WF E (n + 4) yX5_add cX5_add 5 (some .boolean) vI (setH G k) ca 0 (wArgs [.ref (aWait E k), .int (iI x1), .int (iI x2), .int (iI x3), .int (iI x4)]) [] H (fX5_add x1 x2 x3 x4 H) := by
  unfold fX5_add
  refine wf_aload_n dX5_add_0 rfl ?_
  refine wf_get dX5_add_1 f_RX5_20 (fun h hr => rd_wait hr setH_at hk) ?_
  refine wf_sipush dX5_add_4 ?_
  refine wf_gd (fun g7 => ?_)
  refine wf_icmp_lt 12 dX5_add_7 g7 (by decide) (fun h7 => ?_) (fun h7 => ?_)
  · refine wf_aload_n dX5_add_12 rfl ?_
    refine wf_get dX5_add_13 f_RX5_20 (fun h hr => rd_wait hr setH_at hk) ?_
    refine wf_aload_n dX5_add_16 rfl ?_
    refine wf_get dX5_add_17 f_RX5_16 (fun h hr => rd_wait hr setH_at hk) ?_
    refine wf_gd (fun g20 => ?_)
    refine wf_icmp_lt 39 dX5_add_20 g20.1 g20.2 (fun h20 => ?_) (fun h20 => ?_)
    · exact wf_at (pX5_add_b39 (n := n) hE hk  x1 x2 x3 x4 _ _) ⟨rfl, rfl, rfl, rfl, rfl, trivial⟩
    · refine wf_aload_n dX5_add_23 rfl ?_
      refine wf_iconst dX5_add_24 ?_
      refine wf_aload_n dX5_add_25 rfl ?_
      refine wf_get dX5_add_26 f_RX5_16 (fun h hr => rd_wait hr setH_at hk) ?_
      refine wf_imul dX5_add_29 ?_
      refine wf_sipush dX5_add_30 ?_
      refine wf_gd (fun g33 => ?_)
      refine wf_mmin dX5_add_33 k_RX5_39 g33.1 g33.2 ?_
      refine wf_cV (put := fun q => q) dX5_add_36 k_RX5_23 b_yX5_makeRoom x_yX5_makeRoom (pX5_makeRoom (n := n) hE (G := G) (k := k) hk (min (2 * (H.1 4 1 0)) 17520) _ _) rfl (fun _ => rfl) (fun h hr => rd_wait hr setH_at hk) rfl (fun r36 H36 ca => ?_)
      exact wf_at (pX5_add_b39 (n := n) hE hk  x1 x2 x3 x4 _ _) ⟨rfl, rfl, rfl, rfl, rfl, trivial⟩
  · refine wf_iconst dX5_add_10 ?_
    exact wf_ireturn dX5_add_11 ⟨_, rfl, rfl⟩

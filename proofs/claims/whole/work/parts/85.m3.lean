/-! ===== the methods meet their functions (by program: wip/whole/gen.py) ===== -/
set_option maxRecDepth 100000 in
set_option maxHeartbeats 4000000 in
theorem pX7_doesNewOrder_b28 {E : wE} {n : Nat} (hE : wGE E) {C : cR}   (m : mR) (ca : caT) : WF E (n + 9) yX7_doesNewOrder cX7_doesNewOrder 4 (some .int) vI (fun m : mR => (C, m)) ca 28 (wLs [some (.ref (aM E 0))]) [] m (fX7_doesNewOrder_b28  m) := by
  unfold fX7_doesNewOrder_b28
  refine wf_bipush dX7_doesNewOrder_28 ?_
  refine wf_aload_n dX7_doesNewOrder_30 rfl ?_
  refine wf_get dX7_doesNewOrder_31 f_RX7_331 (fun h hr => rd_mod hr) ?_
  refine wf_imul dX7_doesNewOrder_34 ?_
  refine wf_aload_n dX7_doesNewOrder_35 rfl ?_
  refine wf_get dX7_doesNewOrder_36 f_RX7_334 (fun h hr => rd_mod hr) ?_
  refine wf_iadd dX7_doesNewOrder_39 ?_
  refine wf_istore_n dX7_doesNewOrder_40 ?_
  refine wf_sipush dX7_doesNewOrder_41 ?_
  refine wf_aload_n dX7_doesNewOrder_44 rfl ?_
  refine wf_get dX7_doesNewOrder_45 f_RX7_353 (fun h hr => rd_mod hr) ?_
  refine wf_imul dX7_doesNewOrder_48 ?_
  refine wf_bipush dX7_doesNewOrder_49 ?_
  refine wf_aload_n dX7_doesNewOrder_51 rfl ?_
  refine wf_get dX7_doesNewOrder_52 f_RX7_356 (fun h hr => rd_mod hr) ?_
  refine wf_imul dX7_doesNewOrder_55 ?_
  refine wf_iadd dX7_doesNewOrder_56 ?_
  refine wf_aload_n dX7_doesNewOrder_57 rfl ?_
  refine wf_get dX7_doesNewOrder_58 f_RX7_359 (fun h hr => rd_mod hr) ?_
  refine wf_iadd dX7_doesNewOrder_61 ?_
  refine wf_istore_n dX7_doesNewOrder_62 ?_
  refine wf_aload_n dX7_doesNewOrder_63 rfl ?_
  refine wf_iload_n dX7_doesNewOrder_64 rfl ?_
  refine wf_aload_n dX7_doesNewOrder_65 rfl ?_
  refine wf_get dX7_doesNewOrder_66 f_RX7_350 (fun h hr => rd_mod hr) ?_
  refine wf_iload_n dX7_doesNewOrder_69 rfl ?_
  refine wf_aload_n dX7_doesNewOrder_70 rfl ?_
  refine wf_rV dX7_doesNewOrder_71 k_RX7_66 b_yX7_today x_yX7_today (fun h hr => pX7_today (n := n + 7) hE hr) (fun h hr => rd_mod hr) rfl (fun r71 => ?_)
  refine wf_bipush dX7_doesNewOrder_74 ?_
  refine wf_aload_n dX7_doesNewOrder_76 rfl ?_
  refine wf_get dX7_doesNewOrder_77 f_RX7_341 (fun h hr => rd_mod hr) ?_
  refine wf_imul dX7_doesNewOrder_80 ?_
  refine wf_iconst dX7_doesNewOrder_81 ?_
  refine wf_iadd dX7_doesNewOrder_82 ?_
  refine wf_iconst dX7_doesNewOrder_83 ?_
  refine wf_rV dX7_doesNewOrder_84 k_RX7_191 b_yX7_checksOrder x_yX7_checksOrder (fun h hr => pX7_checksOrder (n := n + 6) hE hr ((9 * (m.1 6 14)) + (m.1 6 15)) (m.1 6 16) (((10000 * (m.1 6 17)) + (100 * (m.1 6 18))) + (m.1 6 19)) r71 ((10 * (m.1 6 20)) + 5) 0) (fun h hr => rd_mod hr) rfl (fun r84 => ?_)
  refine wf_istore_n dX7_doesNewOrder_87 ?_
  refine wf_iload_n dX7_doesNewOrder_88 rfl ?_
  refine wf_gd (fun g89 => ?_)
  refine wf_if_eq 96 dX7_doesNewOrder_89 g89 (fun h89 => ?_) (fun h89 => ?_)
  · refine wf_aload_n dX7_doesNewOrder_96 rfl ?_
    refine wf_iload_n dX7_doesNewOrder_97 rfl ?_
    refine wf_aload_n dX7_doesNewOrder_98 rfl ?_
    refine wf_get dX7_doesNewOrder_99 f_RX7_350 (fun h hr => rd_mod hr) ?_
    refine wf_iload_n dX7_doesNewOrder_102 rfl ?_
    refine wf_aload_n dX7_doesNewOrder_103 rfl ?_
    refine wf_rV dX7_doesNewOrder_104 k_RX7_66 b_yX7_today x_yX7_today (fun h hr => pX7_today (n := n + 7) hE hr) (fun h hr => rd_mod hr) rfl (fun r104 => ?_)
    refine wf_bipush dX7_doesNewOrder_107 ?_
    refine wf_aload_n dX7_doesNewOrder_109 rfl ?_
    refine wf_get dX7_doesNewOrder_110 f_RX7_341 (fun h hr => rd_mod hr) ?_
    refine wf_imul dX7_doesNewOrder_113 ?_
    refine wf_iconst dX7_doesNewOrder_114 ?_
    refine wf_iadd dX7_doesNewOrder_115 ?_
    refine wf_iconst dX7_doesNewOrder_116 ?_
    refine wf_cV (put := fun q => q) dX7_doesNewOrder_117 k_RX7_195 b_yX7_makes x_yX7_makes (pX7_makes (n := n) hE ((9 * (m.1 6 14)) + (m.1 6 15)) (m.1 6 16) (((10000 * (m.1 6 17)) + (100 * (m.1 6 18))) + (m.1 6 19)) r104 ((10 * (m.1 6 20)) + 5) 0 _ _) rfl (fun _ => rfl) (fun h hr => rd_mod hr) rfl (fun r117 m117 ca => ?_)
    exact wf_ireturn dX7_doesNewOrder_120 ⟨_, rfl, rfl⟩
  · refine wf_iload_n dX7_doesNewOrder_92 rfl ?_
    refine wf_goto 120 dX7_doesNewOrder_93 ?_
    exact wf_ireturn dX7_doesNewOrder_120 ⟨_, rfl, rfl⟩
set_option maxRecDepth 100000 in
set_option maxHeartbeats 4000000 in
theorem pX7_doesNewOrder_b18 {E : wE} {n : Nat} (hE : wGE E) {C : cR}   (m : mR) (ca : caT) : WF E (n + 9) yX7_doesNewOrder cX7_doesNewOrder 4 (some .int) vI (fun m : mR => (C, m)) ca 18 (wLs [some (.ref (aM E 0))]) [] m (fX7_doesNewOrder_b18  m) := by
  unfold fX7_doesNewOrder_b18
  refine wf_aload_n dX7_doesNewOrder_18 rfl ?_
  refine wf_iconst dX7_doesNewOrder_19 ?_
  refine wf_p_modf (f := 18) dX7_doesNewOrder_20 p_RX7_356 (fun m20 => ?_)
  refine wf_aload_n dX7_doesNewOrder_23 rfl ?_
  refine wf_iconst dX7_doesNewOrder_24 ?_
  refine wf_p_modf (f := 19) dX7_doesNewOrder_25 p_RX7_359 (fun m25 => ?_)
  exact wf_at (pX7_doesNewOrder_b28 (n := n) hE   _ _) ⟨rfl, trivial⟩
set_option maxRecDepth 100000 in
set_option maxHeartbeats 4000000 in
theorem pX7_doesNewOrder {E : wE} {n : Nat} (hE : wGE E) {C : cR}   (m : mR) (ca : caT) : WF E (n + 9) yX7_doesNewOrder cX7_doesNewOrder 4 (some .int) vI (fun m : mR => (C, m)) ca 0 (wArgs [.ref (aM E 0)]) [] m (fX7_doesNewOrder  m) := by
  unfold fX7_doesNewOrder
  refine wf_aload_n dX7_doesNewOrder_0 rfl ?_
  refine wf_get dX7_doesNewOrder_1 f_RX7_356 (fun h hr => rd_mod hr) ?_
  refine wf_bipush dX7_doesNewOrder_4 ?_
  refine wf_gd (fun g6 => ?_)
  refine wf_icmp_gt 18 dX7_doesNewOrder_6 g6 (by decide) (fun h6 => ?_) (fun h6 => ?_)
  · exact wf_at (pX7_doesNewOrder_b18 (n := n) hE   _ _) ⟨rfl, trivial⟩
  · refine wf_aload_n dX7_doesNewOrder_9 rfl ?_
    refine wf_get dX7_doesNewOrder_10 f_RX7_359 (fun h hr => rd_mod hr) ?_
    refine wf_bipush dX7_doesNewOrder_13 ?_
    refine wf_gd (fun g15 => ?_)
    refine wf_icmp_le 28 dX7_doesNewOrder_15 g15 (by decide) (fun h15 => ?_) (fun h15 => ?_)
    · exact wf_at (pX7_doesNewOrder_b28 (n := n) hE   _ _) ⟨rfl, trivial⟩
    · exact wf_at (pX7_doesNewOrder_b18 (n := n) hE   _ _) ⟨rfl, trivial⟩
set_option maxRecDepth 100000 in
set_option maxHeartbeats 4000000 in
theorem pX7_goesOn {E : wE} {n : Nat} (hE : wGE E) {C : cR} (x1 : Int)  (m : mR) (ca : caT) : WF E (n + 8) yX7_goesOn cX7_goesOn 2 (some .int) vI (fun m : mR => (C, m)) ca 0 (wArgs [.ref (aM E 0), .int (iI x1)]) [] m (fX7_goesOn x1 m) := by
  unfold fX7_goesOn
  refine wf_aload_n dX7_goesOn_0 rfl ?_
  refine wf_iload_n dX7_goesOn_1 rfl ?_
  refine wf_bipush dX7_goesOn_2 ?_
  refine wf_iconst dX7_goesOn_4 ?_
  refine wf_cV (put := fun q => q) dX7_goesOn_5 k_RX7_169 b_yX7_becomes x_yX7_becomes (pX7_becomes (n := n + 7) hE x1 10 0 _ _) rfl (fun _ => rfl) (fun h hr => rd_mod hr) rfl (fun r5 m5 ca => ?_)
  refine wf_aload_n dX7_goesOn_8 rfl ?_
  refine wf_iload_n dX7_goesOn_9 rfl ?_
  refine wf_cV (put := fun q => q) dX7_goesOn_10 k_RX7_188 b_yX7_leavesOut x_yX7_leavesOut (pX7_leavesOut (n := n) hE x1 _ _) rfl (fun _ => rfl) (fun h hr => rd_mod hr) rfl (fun r10 m10 ca => ?_)
  exact wf_ireturn dX7_goesOn_13 ⟨_, rfl, rfl⟩
set_option maxRecDepth 100000 in
set_option maxHeartbeats 4000000 in
theorem pX7_stops {E : wE} {n : Nat} (hE : wGE E) {C : cR} (x1 : Int)  (m : mR) (ca : caT) : WF E (n + 2) yX7_stops cX7_stops 2 (some .int) vI (fun m : mR => (C, m)) ca 0 (wArgs [.ref (aM E 0), .int (iI x1)]) [] m (fX7_stops x1 m) := by
  unfold fX7_stops
  refine wf_aload_n dX7_stops_0 rfl ?_
  refine wf_iload_n dX7_stops_1 rfl ?_
  refine wf_bipush dX7_stops_2 ?_
  refine wf_iconst dX7_stops_4 ?_
  refine wf_cV (put := fun q => q) dX7_stops_5 k_RX7_169 b_yX7_becomes x_yX7_becomes (pX7_becomes (n := n + 1) hE x1 10 1 _ _) rfl (fun _ => rfl) (fun h hr => rd_mod hr) rfl (fun r5 m5 ca => ?_)
  refine wf_aload_n dX7_stops_8 rfl ?_
  refine wf_iload_n dX7_stops_9 rfl ?_
  refine wf_rV dX7_stops_10 k_RX7_213 b_yX7_waitsOf x_yX7_waitsOf (fun h hr => pX7_waitsOf (n := n) hE hr x1) (fun h hr => rd_mod hr) rfl (fun r10 => ?_)
  exact wf_ireturn dX7_stops_13 ⟨_, rfl, rfl⟩
set_option maxRecDepth 100000 in
set_option maxHeartbeats 4000000 in
theorem pX7_does {E : wE} {n : Nat} (hE : wGE E) {C : cR}   (m : mR) (ca : caT) : WF E (n + 10) yX7_does cX7_does 2 (some .int) vI (fun m : mR => (C, m)) ca 0 (wArgs [.ref (aM E 0)]) [] m (fX7_does  m) := by
  unfold fX7_does
  refine wf_aload_n dX7_does_0 rfl ?_
  refine wf_get dX7_does_1 f_RX7_365 (fun h hr => rd_mod hr) ?_
  refine wf_gd (fun g4 => ?_)
  refine wf_ite (fun e4_0 => ?_) (fun e4_0 => ?_)
  · refine wf_tsK 0 36 dX7_does_4 e4_0 ?_
    refine wf_aload_n dX7_does_36 rfl ?_
    refine wf_cV (put := fun q => q) dX7_does_37 k_RX7_377 b_yX7_doesNewOrder x_yX7_doesNewOrder (pX7_doesNewOrder (n := n) hE _ _) rfl (fun _ => rfl) (fun h hr => rd_mod hr) rfl (fun r37 m37 ca => ?_)
    exact wf_ireturn dX7_does_40 ⟨_, rfl, rfl⟩
  refine wf_ite (fun e4_1 => ?_) (fun e4_1 => ?_)
  · refine wf_tsK 1 41 dX7_does_4 e4_1 ?_
    refine wf_aload_n dX7_does_41 rfl ?_
    refine wf_aload_n dX7_does_42 rfl ?_
    refine wf_get dX7_does_43 f_RX7_331 (fun h hr => rd_mod hr) ?_
    refine wf_aload_n dX7_does_46 rfl ?_
    refine wf_get dX7_does_47 f_RX7_350 (fun h hr => rd_mod hr) ?_
    refine wf_rV dX7_does_50 k_RX7_145 b_yX7_checksDeposit x_yX7_checksDeposit (fun h hr => pX7_checksDeposit (n := n + 7) hE hr (m.1 6 14) (m.1 6 16)) (fun h hr => rd_mod hr) rfl (fun r50 => ?_)
    refine wf_istore_n dX7_does_53 ?_
    refine wf_iload_n dX7_does_54 rfl ?_
    refine wf_gd (fun g55 => ?_)
    refine wf_if_eq 62 dX7_does_55 g55 (fun h55 => ?_) (fun h55 => ?_)
    · refine wf_aload_n dX7_does_62 rfl ?_
      refine wf_aload_n dX7_does_63 rfl ?_
      refine wf_get dX7_does_64 f_RX7_331 (fun h hr => rd_mod hr) ?_
      refine wf_aload_n dX7_does_67 rfl ?_
      refine wf_get dX7_does_68 f_RX7_350 (fun h hr => rd_mod hr) ?_
      refine wf_cV (put := fun q => q) dX7_does_71 k_RX7_148 b_yX7_deposits x_yX7_deposits (pX7_deposits (n := n + 8) hE (m.1 6 14) (m.1 6 16) _ _) rfl (fun _ => rfl) (fun h hr => rd_mod hr) rfl (fun r71 m71 ca => ?_)
      exact wf_ireturn dX7_does_74 ⟨_, rfl, rfl⟩
    · refine wf_iload_n dX7_does_58 rfl ?_
      refine wf_goto 74 dX7_does_59 ?_
      exact wf_ireturn dX7_does_74 ⟨_, rfl, rfl⟩
  refine wf_ite (fun e4_2 => ?_) (fun e4_2 => ?_)
  · refine wf_tsK 2 75 dX7_does_4 e4_2 ?_
    refine wf_aload_n dX7_does_75 rfl ?_
    refine wf_aload_n dX7_does_76 rfl ?_
    refine wf_get dX7_does_77 f_RX7_350 (fun h hr => rd_mod hr) ?_
    refine wf_iconst dX7_does_80 ?_
    refine wf_rV dX7_does_81 k_RX7_216 b_yX7_checksState x_yX7_checksState (fun h hr => pX7_checksState (n := n + 7) hE hr (m.1 6 16) 0) (fun h hr => rd_mod hr) rfl (fun r81 => ?_)
    refine wf_istore_n dX7_does_84 ?_
    refine wf_iload_n dX7_does_85 rfl ?_
    refine wf_gd (fun g86 => ?_)
    refine wf_if_eq 93 dX7_does_86 g86 (fun h86 => ?_) (fun h86 => ?_)
    · refine wf_aload_n dX7_does_93 rfl ?_
      refine wf_aload_n dX7_does_94 rfl ?_
      refine wf_get dX7_does_95 f_RX7_350 (fun h hr => rd_mod hr) ?_
      refine wf_cV (put := fun q => q) dX7_does_98 k_RX7_219 b_yX7_stops x_yX7_stops (pX7_stops (n := n + 7) hE (m.1 6 16) _ _) rfl (fun _ => rfl) (fun h hr => rd_mod hr) rfl (fun r98 m98 ca => ?_)
      exact wf_ireturn dX7_does_101 ⟨_, rfl, rfl⟩
    · refine wf_iload_n dX7_does_89 rfl ?_
      refine wf_goto 101 dX7_does_90 ?_
      exact wf_ireturn dX7_does_101 ⟨_, rfl, rfl⟩
  refine wf_ite (fun e4_3 => ?_) (fun e4_3 => ?_)
  · refine wf_tsK 3 102 dX7_does_4 e4_3 ?_
    refine wf_aload_n dX7_does_102 rfl ?_
    refine wf_aload_n dX7_does_103 rfl ?_
    refine wf_get dX7_does_104 f_RX7_350 (fun h hr => rd_mod hr) ?_
    refine wf_iconst dX7_does_107 ?_
    refine wf_rV dX7_does_108 k_RX7_216 b_yX7_checksState x_yX7_checksState (fun h hr => pX7_checksState (n := n + 7) hE hr (m.1 6 16) 1) (fun h hr => rd_mod hr) rfl (fun r108 => ?_)
    refine wf_istore_n dX7_does_111 ?_
    refine wf_iload_n dX7_does_112 rfl ?_
    refine wf_gd (fun g113 => ?_)
    refine wf_if_eq 120 dX7_does_113 g113 (fun h113 => ?_) (fun h113 => ?_)
    · refine wf_aload_n dX7_does_120 rfl ?_
      refine wf_aload_n dX7_does_121 rfl ?_
      refine wf_get dX7_does_122 f_RX7_350 (fun h hr => rd_mod hr) ?_
      refine wf_cV (put := fun q => q) dX7_does_125 k_RX7_222 b_yX7_goesOn x_yX7_goesOn (pX7_goesOn (n := n + 1) hE (m.1 6 16) _ _) rfl (fun _ => rfl) (fun h hr => rd_mod hr) rfl (fun r125 m125 ca => ?_)
      exact wf_ireturn dX7_does_128 ⟨_, rfl, rfl⟩
    · refine wf_iload_n dX7_does_116 rfl ?_
      refine wf_goto 128 dX7_does_117 ?_
      exact wf_ireturn dX7_does_128 ⟨_, rfl, rfl⟩
  refine wf_tsOut (z := (m.1 6 13)) 129 dX7_does_4 g4 (by omega) ?_
  refine wf_aload_n dX7_does_129 rfl ?_
  refine wf_aload_n dX7_does_130 rfl ?_
  refine wf_get dX7_does_131 f_RX7_350 (fun h hr => rd_mod hr) ?_
  refine wf_rV dX7_does_134 k_RX7_272 b_yX7_checksDays x_yX7_checksDays (fun h hr => pX7_checksDays (n := n + 7) hE hr (m.1 6 16)) (fun h hr => rd_mod hr) rfl (fun r134 => ?_)
  refine wf_istore_n dX7_does_137 ?_
  refine wf_iload_n dX7_does_138 rfl ?_
  refine wf_gd (fun g139 => ?_)
  refine wf_if_eq 146 dX7_does_139 g139 (fun h139 => ?_) (fun h139 => ?_)
  · refine wf_aload_n dX7_does_146 rfl ?_
    refine wf_aload_n dX7_does_147 rfl ?_
    refine wf_get dX7_does_148 f_RX7_350 (fun h hr => rd_mod hr) ?_
    refine wf_cV (put := fun q => q) dX7_does_151 k_RX7_275 b_yX7_passesDays x_yX7_passesDays (pX7_passesDays (n := n) hE (m.1 6 16) _ _) rfl (fun _ => rfl) (fun h hr => rd_mod hr) rfl (fun r151 m151 ca => ?_)
    exact wf_ireturn dX7_does_154 ⟨_, rfl, rfl⟩
  · refine wf_iload_n dX7_does_142 rfl ?_
    refine wf_goto 154 dX7_does_143 ?_
    exact wf_ireturn dX7_does_154 ⟨_, rfl, rfl⟩
set_option maxRecDepth 100000 in
set_option maxHeartbeats 4000000 in
theorem pX7_passes {E : wE} {n : Nat} (hE : wGE E) {C : cR} (x1 : Int) (x2 : Int)  (m : mR) (ca : caT) : WF E (n + 1) yX7_passes cX7_passes 3 (some .boolean) vI (fun m : mR => (C, m)) ca 0 (wArgs [.ref (aM E 0), .int (iI x1), .int (iI x2)]) [] m (fX7_passes x1 x2 m) := by
  unfold fX7_passes
  refine wf_aload_n dX7_passes_0 rfl ?_
  refine wf_get dX7_passes_1 f_RX7_313 (fun h hr => rd_mod hr) ?_
  refine wf_aload_n dX7_passes_4 rfl ?_
  refine wf_get dX7_passes_5 f_RX7_298 (fun h hr => rd_mod hr) ?_
  refine wf_gd (fun g8 => ?_)
  refine wf_icmp_eq 31 dX7_passes_8 g8.1 g8.2 (fun h8 => ?_) (fun h8 => ?_)
  · refine wf_iconst dX7_passes_31 ?_
    exact wf_ireturn dX7_passes_32 ⟨_, rfl, rfl⟩
  · refine wf_aload_n dX7_passes_11 rfl ?_
    refine wf_get dX7_passes_12 f_RX7_34 (fun h hr => rd_mod hr) ?_
    refine wf_aload_n dX7_passes_15 rfl ?_
    refine wf_get dX7_passes_16 f_RX7_313 (fun h hr => rd_mod hr) ?_
    refine wf_gd (fun g19 => ?_)
    refine wf_iald dX7_passes_19 (g := fun j => m.1 5 j) g19 (fun h hr => rd_mp hr) ?_
    refine wf_gd (fun g20 => ?_)
    refine wf_i2l dX7_passes_20 g20 ?_
    refine wf_iload_n dX7_passes_21 rfl ?_
    refine wf_gd (fun g22 => ?_)
    refine wf_i2l dX7_passes_22 g22 ?_
    refine wf_iload_n dX7_passes_23 rfl ?_
    refine wf_gd (fun g24 => ?_)
    refine wf_i2l dX7_passes_24 g24 ?_
    refine wf_rS dX7_passes_25 k_RX7_47 b_yX7_isIn x_yX7_isIn (fun h hr => pX7_isIn (n := n) hE (m.1 5 (m.1 6 11)) x1 x2) (fun r25 => ?_)
    refine wf_gd (fun g28 => ?_)
    refine wf_if_ne 33 dX7_passes_28 g28 (fun h28 => ?_) (fun h28 => ?_)
    · refine wf_aload_n dX7_passes_33 rfl ?_
      refine wf_aload_n dX7_passes_34 rfl ?_
      refine wf_get dX7_passes_35 f_RX7_34 (fun h hr => rd_mod hr) ?_
      refine wf_aload_n dX7_passes_38 rfl ?_
      refine wf_get dX7_passes_39 f_RX7_313 (fun h hr => rd_mod hr) ?_
      refine wf_gd (fun g42 => ?_)
      refine wf_iald dX7_passes_42 (g := fun j => m.1 5 j) g42 (fun h hr => rd_mp hr) ?_
      refine wf_bipush dX7_passes_43 ?_
      refine wf_isub dX7_passes_45 ?_
      refine wf_p_modf (f := 12) dX7_passes_46 p_RX7_316 (fun m46 => ?_)
      refine wf_aload_n dX7_passes_49 rfl ?_
      refine wf_dup dX7_passes_50 ?_
      refine wf_get dX7_passes_51 f_RX7_313 (fun h hr => rd_mod hr) ?_
      refine wf_iconst dX7_passes_54 ?_
      refine wf_iadd dX7_passes_55 ?_
      refine wf_p_modf (f := 11) dX7_passes_56 p_RX7_313 (fun m56 => ?_)
      refine wf_iconst dX7_passes_59 ?_
      exact wf_ireturn dX7_passes_60 ⟨_, rfl, rfl⟩
    · refine wf_iconst dX7_passes_31 ?_
      exact wf_ireturn dX7_passes_32 ⟨_, rfl, rfl⟩
set_option maxRecDepth 100000 in
set_option maxHeartbeats 4000000 in
theorem pX7_isDigitHere {E : wE} {n : Nat} (hE : wGE E) {C : cR} {m : mR} {ca : caT} {h : hW} (hr : rep E (C, m) ca h)   : WR E (n + 1) yX7_isDigitHere cX7_isDigitHere 1 (some .boolean) vI h 0 (wArgs [.ref (aM E 0)]) [] (fX7_isDigitHere  m) := by
  unfold fX7_isDigitHere
  refine wr_aload_n dX7_isDigitHere_0 rfl ?_
  refine wr_get dX7_isDigitHere_1 f_RX7_313 (rd_mod hr) ?_
  refine wr_aload_n dX7_isDigitHere_4 rfl ?_
  refine wr_get dX7_isDigitHere_5 f_RX7_298 (rd_mod hr) ?_
  refine wr_gd (fun g8 => ?_)
  refine wr_icmp_ge 37 dX7_isDigitHere_8 g8.1 g8.2 (fun h8 => ?_) (fun h8 => ?_)
  · refine wr_iconst dX7_isDigitHere_37 ?_
    exact wr_ireturn dX7_isDigitHere_38 ⟨_, rfl, rfl⟩
  · refine wr_aload_n dX7_isDigitHere_11 rfl ?_
    refine wr_get dX7_isDigitHere_12 f_RX7_34 (rd_mod hr) ?_
    refine wr_aload_n dX7_isDigitHere_15 rfl ?_
    refine wr_get dX7_isDigitHere_16 f_RX7_313 (rd_mod hr) ?_
    refine wr_gd (fun g19 => ?_)
    refine wr_iald dX7_isDigitHere_19 (g := fun j => m.1 5 j) g19 (rd_mp hr) ?_
    refine wr_gd (fun g20 => ?_)
    refine wr_i2l dX7_isDigitHere_20 g20 ?_
    refine wr_ldc2 dX7_isDigitHere_21 c_RX7_319 ?_
    refine wr_ldc2 dX7_isDigitHere_24 c_RX7_321 ?_
    refine wr_cS dX7_isDigitHere_27 k_RX7_47 b_yX7_isIn x_yX7_isIn (pX7_isIn (n := n) hE (m.1 5 (m.1 6 11)) 48 57) (fun r27 => ?_)
    refine wr_gd (fun g30 => ?_)
    refine wr_if_eq 37 dX7_isDigitHere_30 g30 (fun h30 => ?_) (fun h30 => ?_)
    · refine wr_iconst dX7_isDigitHere_37 ?_
      exact wr_ireturn dX7_isDigitHere_38 ⟨_, rfl, rfl⟩
    · refine wr_iconst dX7_isDigitHere_33 ?_
      refine wr_goto 38 dX7_isDigitHere_34 ?_
      exact wr_ireturn dX7_isDigitHere_38 ⟨_, rfl, rfl⟩
set_option maxRecDepth 100000 in
set_option maxHeartbeats 4000000 in
theorem pX7_passesNumber_b71 {E : wE} {n : Nat} (hE : wGE E) {C : cR} (x1 : Int)  (m : mR) (ca : caT) : WF E (n + 2) yX7_passesNumber cX7_passesNumber 3 (some .boolean) vI (fun m : mR => (C, m)) ca 71 (wLs [some (.ref (aM E 0)), some (.int (iI x1))]) [] m (fX7_passesNumber_b71 x1 m) := by
  unfold fX7_passesNumber_b71
  refine wf_aload_n dX7_passesNumber_71 rfl ?_
  refine wf_iload_n dX7_passesNumber_72 rfl ?_
  refine wf_p_modf (f := 12) dX7_passesNumber_73 p_RX7_316 (fun m73 => ?_)
  refine wf_iconst dX7_passesNumber_76 ?_
  exact wf_ireturn dX7_passesNumber_77 ⟨_, rfl, rfl⟩
set_option maxRecDepth 100000 in
set_option maxHeartbeats 4000000 in
theorem pX7_passesNumber_b18 {E : wE} {n : Nat} (hE : wGE E) {C : cR} : ∀ (fuel : Nat) (x1 : Int)  (m : mR) (ca : caT), WF E (n + 2) yX7_passesNumber cX7_passesNumber 3 (some .boolean) vI (fun m : mR => (C, m)) ca 18 (wLs [some (.ref (aM E 0)), some (.int (iI x1))]) [] m (fX7_passesNumber_b18 fuel x1 m) := by
  intro fuel
  induction fuel with
  | zero =>
    intro x1 m ca
    exact wf_none
  | succ fuel ih =>
    intro x1 m ca
    unfold fX7_passesNumber_b18
    refine wf_iload_n dX7_passesNumber_18 rfl ?_
    refine wf_gd (fun g19 => ?_)
    refine wf_if_le 71 dX7_passesNumber_19 g19 (fun h19 => ?_) (fun h19 => ?_)
    · exact wf_at (pX7_passesNumber_b71 (n := n) hE  x1 _ _) ⟨rfl, rfl, trivial⟩
    · refine wf_aload_n dX7_passesNumber_22 rfl ?_
      refine wf_rV dX7_passesNumber_23 k_RX7_326 b_yX7_isDigitHere x_yX7_isDigitHere (fun h hr => pX7_isDigitHere (n := n) hE hr) (fun h hr => rd_mod hr) rfl (fun r23 => ?_)
      refine wf_gd (fun g26 => ?_)
      refine wf_if_eq 71 dX7_passesNumber_26 g26 (fun h26 => ?_) (fun h26 => ?_)
      · exact wf_at (pX7_passesNumber_b71 (n := n) hE  x1 _ _) ⟨rfl, rfl, trivial⟩
      · refine wf_bipush dX7_passesNumber_29 ?_
        refine wf_iload_n dX7_passesNumber_31 rfl ?_
        refine wf_imul dX7_passesNumber_32 ?_
        refine wf_aload_n dX7_passesNumber_33 rfl ?_
        refine wf_get dX7_passesNumber_34 f_RX7_34 (fun h hr => rd_mod hr) ?_
        refine wf_aload_n dX7_passesNumber_37 rfl ?_
        refine wf_get dX7_passesNumber_38 f_RX7_313 (fun h hr => rd_mod hr) ?_
        refine wf_gd (fun g41 => ?_)
        refine wf_iald dX7_passesNumber_41 (g := fun j => m.1 5 j) g41 (fun h hr => rd_mp hr) ?_
        refine wf_iadd dX7_passesNumber_42 ?_
        refine wf_bipush dX7_passesNumber_43 ?_
        refine wf_isub dX7_passesNumber_45 ?_
        refine wf_istore_n dX7_passesNumber_46 ?_
        refine wf_iload_n dX7_passesNumber_47 rfl ?_
        refine wf_ldcw dX7_passesNumber_48 c_RX7_330 ?_
        refine wf_gd (fun g51 => ?_)
        refine wf_icmp_le 56 dX7_passesNumber_51 g51 (by decide) (fun h51 => ?_) (fun h51 => ?_)
        · refine wf_iload_n dX7_passesNumber_56 rfl ?_
          refine wf_istore_n dX7_passesNumber_57 ?_
          refine wf_aload_n dX7_passesNumber_58 rfl ?_
          refine wf_dup dX7_passesNumber_59 ?_
          refine wf_get dX7_passesNumber_60 f_RX7_313 (fun h hr => rd_mod hr) ?_
          refine wf_iconst dX7_passesNumber_63 ?_
          refine wf_iadd dX7_passesNumber_64 ?_
          refine wf_p_modf (f := 11) dX7_passesNumber_65 p_RX7_313 (fun m65 => ?_)
          refine wf_goto 18 dX7_passesNumber_68 ?_
          exact wf_at (ih (((10 * x1) + (m.1 5 (m.1 6 11))) - 48) _ _) ⟨rfl, rfl, trivial⟩
        · refine wf_iconst dX7_passesNumber_54 ?_
          exact wf_ireturn dX7_passesNumber_55 ⟨_, rfl, rfl⟩
set_option maxRecDepth 100000 in
set_option maxHeartbeats 4000000 in
theorem pX7_passesNumber {E : wE} {n : Nat} (hE : wGE E) {C : cR}   (m : mR) (ca : caT) : WF E (n + 2) yX7_passesNumber cX7_passesNumber 3 (some .boolean) vI (fun m : mR => (C, m)) ca 0 (wArgs [.ref (aM E 0)]) [] m (fX7_passesNumber  m) := by
  unfold fX7_passesNumber
  refine wf_aload_n dX7_passesNumber_0 rfl ?_
  refine wf_bipush dX7_passesNumber_1 ?_
  refine wf_bipush dX7_passesNumber_3 ?_
  refine wf_cV (put := fun q => q) dX7_passesNumber_5 k_RX7_323 b_yX7_passes x_yX7_passes (pX7_passes (n := n) hE 48 57 _ _) rfl (fun _ => rfl) (fun h hr => rd_mod hr) rfl (fun r5 m5 ca => ?_)
  refine wf_gd (fun g8 => ?_)
  refine wf_if_ne 13 dX7_passesNumber_8 g8 (fun h8 => ?_) (fun h8 => ?_)
  · refine wf_aload_n dX7_passesNumber_13 rfl ?_
    refine wf_get dX7_passesNumber_14 f_RX7_316 (fun h hr => rd_mod hr) ?_
    refine wf_istore_n dX7_passesNumber_17 ?_
    exact wf_at (pX7_passesNumber_b18 (n := n) hE  fuel0 (m5.1 6 12) _ _) ⟨rfl, rfl, trivial⟩
  · refine wf_iconst dX7_passesNumber_11 ?_
    exact wf_ireturn dX7_passesNumber_12 ⟨_, rfl, rfl⟩
set_option maxRecDepth 100000 in
set_option maxHeartbeats 4000000 in
theorem pX7_passesDeposit {E : wE} {n : Nat} (hE : wGE E) {C : cR}   (m : mR) (ca : caT) : WF E (n + 3) yX7_passesDeposit cX7_passesDeposit 1 (some .boolean) vI (fun m : mR => (C, m)) ca 0 (wArgs [.ref (aM E 0)]) [] m (fX7_passesDeposit  m) := by
  unfold fX7_passesDeposit
  refine wf_aload_n dX7_passesDeposit_0 rfl ?_
  refine wf_bipush dX7_passesDeposit_1 ?_
  refine wf_bipush dX7_passesDeposit_3 ?_
  refine wf_cV (put := fun q => q) dX7_passesDeposit_5 k_RX7_323 b_yX7_passes x_yX7_passes (pX7_passes (n := n + 1) hE 48 55 _ _) rfl (fun _ => rfl) (fun h hr => rd_mod hr) rfl (fun r5 m5 ca => ?_)
  refine wf_gd (fun g8 => ?_)
  refine wf_if_ne 13 dX7_passesDeposit_8 g8 (fun h8 => ?_) (fun h8 => ?_)
  · refine wf_aload_n dX7_passesDeposit_13 rfl ?_
    refine wf_aload_n dX7_passesDeposit_14 rfl ?_
    refine wf_get dX7_passesDeposit_15 f_RX7_316 (fun h hr => rd_mod hr) ?_
    refine wf_p_modf (f := 14) dX7_passesDeposit_18 p_RX7_331 (fun m18 => ?_)
    refine wf_aload_n dX7_passesDeposit_21 rfl ?_
    refine wf_bipush dX7_passesDeposit_22 ?_
    refine wf_bipush dX7_passesDeposit_24 ?_
    refine wf_cV (put := fun q => q) dX7_passesDeposit_26 k_RX7_323 b_yX7_passes x_yX7_passes (pX7_passes (n := n + 1) hE 43 43 _ _) rfl (fun _ => rfl) (fun h hr => rd_mod hr) rfl (fun r26 m26 ca => ?_)
    refine wf_gd (fun g29 => ?_)
    refine wf_if_eq 39 dX7_passesDeposit_29 g29 (fun h29 => ?_) (fun h29 => ?_)
    · refine wf_iconst dX7_passesDeposit_39 ?_
      exact wf_ireturn dX7_passesDeposit_40 ⟨_, rfl, rfl⟩
    · refine wf_aload_n dX7_passesDeposit_32 rfl ?_
      refine wf_cV (put := fun q => q) dX7_passesDeposit_33 k_RX7_347 b_yX7_passesNumber x_yX7_passesNumber (pX7_passesNumber (n := n) hE _ _) rfl (fun _ => rfl) (fun h hr => rd_mod hr) rfl (fun r33 m33 ca => ?_)
      refine wf_gd (fun g36 => ?_)
      refine wf_if_ne 41 dX7_passesDeposit_36 g36 (fun h36 => ?_) (fun h36 => ?_)
      · refine wf_aload_n dX7_passesDeposit_41 rfl ?_
        refine wf_aload_n dX7_passesDeposit_42 rfl ?_
        refine wf_get dX7_passesDeposit_43 f_RX7_316 (fun h hr => rd_mod hr) ?_
        refine wf_p_modf (f := 16) dX7_passesDeposit_46 p_RX7_350 (fun m46 => ?_)
        refine wf_iconst dX7_passesDeposit_49 ?_
        exact wf_ireturn dX7_passesDeposit_50 ⟨_, rfl, rfl⟩
      · refine wf_iconst dX7_passesDeposit_39 ?_
        exact wf_ireturn dX7_passesDeposit_40 ⟨_, rfl, rfl⟩
  · refine wf_iconst dX7_passesDeposit_11 ?_
    exact wf_ireturn dX7_passesDeposit_12 ⟨_, rfl, rfl⟩
set_option maxRecDepth 100000 in
set_option maxHeartbeats 4000000 in
theorem pX7_passesOne {E : wE} {n : Nat} (hE : wGE E) {C : cR} (x1 : Int) (x2 : Int) (x3 : Int) (x4 : Int)  (m : mR) (ca : caT) : WF E (n + 2) yX7_passesOne cX7_passesOne 5 (some .int) vI (fun m : mR => (C, m)) ca 0 (wArgs [.ref (aM E 0), .int (iI x1), .int (iI x2), .int (iI x3), .int (iI x4)]) [] m (fX7_passesOne x1 x2 x3 x4 m) := by
  unfold fX7_passesOne
  refine wf_aload_n dX7_passesOne_0 rfl ?_
  refine wf_iload_n dX7_passesOne_1 rfl ?_
  refine wf_iload_n dX7_passesOne_2 rfl ?_
  refine wf_cV (put := fun q => q) dX7_passesOne_3 k_RX7_323 b_yX7_passes x_yX7_passes (pX7_passes (n := n) hE x1 x1 _ _) rfl (fun _ => rfl) (fun h hr => rd_mod hr) rfl (fun r3 m3 ca => ?_)
  refine wf_gd (fun g6 => ?_)
  refine wf_if_eq 11 dX7_passesOne_6 g6 (fun h6 => ?_) (fun h6 => ?_)
  · refine wf_aload_n dX7_passesOne_11 rfl ?_
    refine wf_iload_n dX7_passesOne_12 rfl ?_
    refine wf_iload_n dX7_passesOne_13 rfl ?_
    refine wf_cV (put := fun q => q) dX7_passesOne_14 k_RX7_323 b_yX7_passes x_yX7_passes (pX7_passes (n := n) hE x2 x2 _ _) rfl (fun _ => rfl) (fun h hr => rd_mod hr) rfl (fun r14 m14 ca => ?_)
    refine wf_gd (fun g17 => ?_)
    refine wf_if_eq 22 dX7_passesOne_17 g17 (fun h17 => ?_) (fun h17 => ?_)
    · refine wf_aload_n dX7_passesOne_22 rfl ?_
      refine wf_iload_n dX7_passesOne_23 rfl ?_
      refine wf_iload_n dX7_passesOne_24 rfl ?_
      refine wf_cV (put := fun q => q) dX7_passesOne_25 k_RX7_323 b_yX7_passes x_yX7_passes (pX7_passes (n := n) hE x3 x3 _ _) rfl (fun _ => rfl) (fun h hr => rd_mod hr) rfl (fun r25 m25 ca => ?_)
      refine wf_gd (fun g28 => ?_)
      refine wf_if_eq 33 dX7_passesOne_28 g28 (fun h28 => ?_) (fun h28 => ?_)
      · refine wf_aload_n dX7_passesOne_33 rfl ?_
        refine wf_iload dX7_passesOne_34 rfl ?_
        refine wf_iload dX7_passesOne_36 rfl ?_
        refine wf_cV (put := fun q => q) dX7_passesOne_38 k_RX7_323 b_yX7_passes x_yX7_passes (pX7_passes (n := n) hE x4 x4 _ _) rfl (fun _ => rfl) (fun h hr => rd_mod hr) rfl (fun r38 m38 ca => ?_)
        refine wf_gd (fun g41 => ?_)
        refine wf_if_eq 48 dX7_passesOne_41 g41 (fun h41 => ?_) (fun h41 => ?_)
        · refine wf_bipush dX7_passesOne_48 ?_
          exact wf_ireturn dX7_passesOne_50 ⟨_, rfl, rfl⟩
        · refine wf_iconst dX7_passesOne_44 ?_
          refine wf_goto 50 dX7_passesOne_45 ?_
          exact wf_ireturn dX7_passesOne_50 ⟨_, rfl, rfl⟩
      · refine wf_iconst dX7_passesOne_31 ?_
        exact wf_ireturn dX7_passesOne_32 ⟨_, rfl, rfl⟩
    · refine wf_iconst dX7_passesOne_20 ?_
      exact wf_ireturn dX7_passesOne_21 ⟨_, rfl, rfl⟩
  · refine wf_iconst dX7_passesOne_9 ?_
    exact wf_ireturn dX7_passesOne_10 ⟨_, rfl, rfl⟩
set_option maxRecDepth 100000 in
set_option maxHeartbeats 4000000 in
theorem pX7_passesParties_b72 {E : wE} {n : Nat} (hE : wGE E) {C : cR}   (m : mR) (ca : caT) : WF E (n + 2) yX7_passesParties cX7_passesParties 1 (some .boolean) vI (fun m : mR => (C, m)) ca 72 (wLs [some (.ref (aM E 0))]) [] m (fX7_passesParties_b72  m) := by
  unfold fX7_passesParties_b72
  refine wf_aload_n dX7_passesParties_72 rfl ?_
  refine wf_bipush dX7_passesParties_73 ?_
  refine wf_bipush dX7_passesParties_75 ?_
  refine wf_cV (put := fun q => q) dX7_passesParties_77 k_RX7_323 b_yX7_passes x_yX7_passes (pX7_passes (n := n) hE 42 42 _ _) rfl (fun _ => rfl) (fun h hr => rd_mod hr) rfl (fun r77 m77 ca => ?_)
  refine wf_gd (fun g80 => ?_)
  exact wf_ireturn dX7_passesParties_80 ⟨_, rfl, nar_z g80⟩
set_option maxRecDepth 100000 in
set_option maxHeartbeats 4000000 in
theorem pX7_passesParties {E : wE} {n : Nat} (hE : wGE E) {C : cR}   (m : mR) (ca : caT) : WF E (n + 2) yX7_passesParties cX7_passesParties 1 (some .boolean) vI (fun m : mR => (C, m)) ca 0 (wArgs [.ref (aM E 0)]) [] m (fX7_passesParties  m) := by
  unfold fX7_passesParties
  refine wf_aload_n dX7_passesParties_0 rfl ?_
  refine wf_bipush dX7_passesParties_1 ?_
  refine wf_bipush dX7_passesParties_3 ?_
  refine wf_cV (put := fun q => q) dX7_passesParties_5 k_RX7_323 b_yX7_passes x_yX7_passes (pX7_passes (n := n) hE 48 55 _ _) rfl (fun _ => rfl) (fun h hr => rd_mod hr) rfl (fun r5 m5 ca => ?_)
  refine wf_gd (fun g8 => ?_)
  refine wf_if_ne 13 dX7_passesParties_8 g8 (fun h8 => ?_) (fun h8 => ?_)
  · refine wf_aload_n dX7_passesParties_13 rfl ?_
    refine wf_aload_n dX7_passesParties_14 rfl ?_
    refine wf_get dX7_passesParties_15 f_RX7_316 (fun h hr => rd_mod hr) ?_
    refine wf_p_modf (f := 14) dX7_passesParties_18 p_RX7_331 (fun m18 => ?_)
    refine wf_aload_n dX7_passesParties_21 rfl ?_
    refine wf_bipush dX7_passesParties_22 ?_
    refine wf_bipush dX7_passesParties_24 ?_
    refine wf_cV (put := fun q => q) dX7_passesParties_26 k_RX7_323 b_yX7_passes x_yX7_passes (pX7_passes (n := n) hE 62 62 _ _) rfl (fun _ => rfl) (fun h hr => rd_mod hr) rfl (fun r26 m26 ca => ?_)
    refine wf_gd (fun g29 => ?_)
    refine wf_if_ne 34 dX7_passesParties_29 g29 (fun h29 => ?_) (fun h29 => ?_)
    · refine wf_aload_n dX7_passesParties_34 rfl ?_
      refine wf_bipush dX7_passesParties_35 ?_
      refine wf_p_modf (f := 15) dX7_passesParties_37 p_RX7_334 (fun m37 => ?_)
      refine wf_aload_n dX7_passesParties_40 rfl ?_
      refine wf_bipush dX7_passesParties_41 ?_
      refine wf_bipush dX7_passesParties_43 ?_
      refine wf_cV (put := fun q => q) dX7_passesParties_45 k_RX7_323 b_yX7_passes x_yX7_passes (pX7_passes (n := n) hE 45 45 _ _) rfl (fun _ => rfl) (fun h hr => rd_mod hr) rfl (fun r45 m45 ca => ?_)
      refine wf_gd (fun g48 => ?_)
      refine wf_if_ne 72 dX7_passesParties_48 g48 (fun h48 => ?_) (fun h48 => ?_)
      · exact wf_at (pX7_passesParties_b72 (n := n) hE   _ _) ⟨rfl, trivial⟩
      · refine wf_aload_n dX7_passesParties_51 rfl ?_
        refine wf_bipush dX7_passesParties_52 ?_
        refine wf_bipush dX7_passesParties_54 ?_
        refine wf_cV (put := fun q => q) dX7_passesParties_56 k_RX7_323 b_yX7_passes x_yX7_passes (pX7_passes (n := n) hE 48 55 _ _) rfl (fun _ => rfl) (fun h hr => rd_mod hr) rfl (fun r56 m56 ca => ?_)
        refine wf_gd (fun g59 => ?_)
        refine wf_if_ne 64 dX7_passesParties_59 g59 (fun h59 => ?_) (fun h59 => ?_)
        · refine wf_aload_n dX7_passesParties_64 rfl ?_
          refine wf_aload_n dX7_passesParties_65 rfl ?_
          refine wf_get dX7_passesParties_66 f_RX7_316 (fun h hr => rd_mod hr) ?_
          refine wf_p_modf (f := 15) dX7_passesParties_69 p_RX7_334 (fun m69 => ?_)
          exact wf_at (pX7_passesParties_b72 (n := n) hE   _ _) ⟨rfl, trivial⟩
        · refine wf_iconst dX7_passesParties_62 ?_
          exact wf_ireturn dX7_passesParties_63 ⟨_, rfl, rfl⟩
    · refine wf_iconst dX7_passesParties_32 ?_
      exact wf_ireturn dX7_passesParties_33 ⟨_, rfl, rfl⟩
  · refine wf_iconst dX7_passesParties_11 ?_
    exact wf_ireturn dX7_passesParties_12 ⟨_, rfl, rfl⟩
set_option maxRecDepth 100000 in
set_option maxHeartbeats 4000000 in
theorem pX7_passesRule_b41 {E : wE} {n : Nat} (hE : wGE E) {C : cR}   (m : mR) (ca : caT) : WF E (n + 3) yX7_passesRule cX7_passesRule 1 (some .boolean) vI (fun m : mR => (C, m)) ca 41 (wLs [some (.ref (aM E 0))]) [] m (fX7_passesRule_b41  m) := by
  unfold fX7_passesRule_b41
  refine wf_aload_n dX7_passesRule_41 rfl ?_
  refine wf_get dX7_passesRule_42 f_RX7_341 (fun h hr => rd_mod hr) ?_
  refine wf_bipush dX7_passesRule_45 ?_
  refine wf_gd (fun g47 => ?_)
  refine wf_icmp_eq 54 dX7_passesRule_47 g47 (by decide) (fun h47 => ?_) (fun h47 => ?_)
  · refine wf_iconst dX7_passesRule_54 ?_
    exact wf_ireturn dX7_passesRule_55 ⟨_, rfl, rfl⟩
  · refine wf_iconst dX7_passesRule_50 ?_
    refine wf_goto 55 dX7_passesRule_51 ?_
    exact wf_ireturn dX7_passesRule_55 ⟨_, rfl, rfl⟩
set_option maxRecDepth 100000 in
set_option maxHeartbeats 4000000 in
theorem pX7_passesRule {E : wE} {n : Nat} (hE : wGE E) {C : cR}   (m : mR) (ca : caT) : WF E (n + 3) yX7_passesRule cX7_passesRule 1 (some .boolean) vI (fun m : mR => (C, m)) ca 0 (wArgs [.ref (aM E 0)]) [] m (fX7_passesRule  m) := by
  unfold fX7_passesRule
  refine wf_aload_n dX7_passesRule_0 rfl ?_
  refine wf_aload_n dX7_passesRule_1 rfl ?_
  refine wf_bipush dX7_passesRule_2 ?_
  refine wf_bipush dX7_passesRule_4 ?_
  refine wf_bipush dX7_passesRule_6 ?_
  refine wf_bipush dX7_passesRule_8 ?_
  refine wf_cV (put := fun q => q) dX7_passesRule_10 k_RX7_337 b_yX7_passesOne x_yX7_passesOne (pX7_passesOne (n := n) hE 46 102 98 120 _ _) rfl (fun _ => rfl) (fun h hr => rd_mod hr) rfl (fun r10 m10 ca => ?_)
  refine wf_p_modf (f := 20) dX7_passesRule_13 p_RX7_341 (fun m13 => ?_)
  refine wf_aload_n dX7_passesRule_16 rfl ?_
  refine wf_get dX7_passesRule_17 f_RX7_341 (fun h hr => rd_mod hr) ?_
  refine wf_bipush dX7_passesRule_20 ?_
  refine wf_gd (fun g22 => ?_)
  refine wf_icmp_ne 41 dX7_passesRule_22 g22 (by decide) (fun h22 => ?_) (fun h22 => ?_)
  · exact wf_at (pX7_passesRule_b41 (n := n) hE   _ _) ⟨rfl, trivial⟩
  · refine wf_aload_n dX7_passesRule_25 rfl ?_
    refine wf_bipush dX7_passesRule_26 ?_
    refine wf_bipush dX7_passesRule_28 ?_
    refine wf_cV (put := fun q => q) dX7_passesRule_30 k_RX7_323 b_yX7_passes x_yX7_passes (pX7_passes (n := n + 1) hE 33 33 _ _) rfl (fun _ => rfl) (fun h hr => rd_mod hr) rfl (fun r30 m30 ca => ?_)
    refine wf_gd (fun g33 => ?_)
    refine wf_if_eq 41 dX7_passesRule_33 g33 (fun h33 => ?_) (fun h33 => ?_)
    · exact wf_at (pX7_passesRule_b41 (n := n) hE   _ _) ⟨rfl, trivial⟩
    · refine wf_aload_n dX7_passesRule_36 rfl ?_
      refine wf_iconst dX7_passesRule_37 ?_
      refine wf_p_modf (f := 20) dX7_passesRule_38 p_RX7_341 (fun m38 => ?_)
      exact wf_at (pX7_passesRule_b41 (n := n) hE   _ _) ⟨rfl, trivial⟩
set_option maxRecDepth 100000 in
set_option maxHeartbeats 4000000 in
theorem pX7_passesNewOrder_b99 {E : wE} {n : Nat} (hE : wGE E) {C : cR}   (m : mR) (ca : caT) : WF E (n + 4) yX7_passesNewOrder cX7_passesNewOrder 1 (some .boolean) vI (fun m : mR => (C, m)) ca 99 (wLs [some (.ref (aM E 0))]) [] m (fX7_passesNewOrder_b99  m) := by
  unfold fX7_passesNewOrder_b99
  refine wf_aload_n dX7_passesNewOrder_99 rfl ?_
  refine wf_cV (put := fun q => q) dX7_passesNewOrder_100 k_RX7_362 b_yX7_passesRule x_yX7_passesRule (pX7_passesRule (n := n) hE _ _) rfl (fun _ => rfl) (fun h hr => rd_mod hr) rfl (fun r100 m100 ca => ?_)
  refine wf_gd (fun g103 => ?_)
  exact wf_ireturn dX7_passesNewOrder_103 ⟨_, rfl, nar_z g103⟩
set_option maxRecDepth 100000 in
set_option maxHeartbeats 4000000 in
theorem pX7_passesNewOrder {E : wE} {n : Nat} (hE : wGE E) {C : cR}   (m : mR) (ca : caT) : WF E (n + 4) yX7_passesNewOrder cX7_passesNewOrder 1 (some .boolean) vI (fun m : mR => (C, m)) ca 0 (wArgs [.ref (aM E 0)]) [] m (fX7_passesNewOrder  m) := by
  unfold fX7_passesNewOrder
  refine wf_aload_n dX7_passesNewOrder_0 rfl ?_
  refine wf_cV (put := fun q => q) dX7_passesNewOrder_1 k_RX7_344 b_yX7_passesParties x_yX7_passesParties (pX7_passesParties (n := n + 1) hE _ _) rfl (fun _ => rfl) (fun h hr => rd_mod hr) rfl (fun r1 m1 ca => ?_)
  refine wf_gd (fun g4 => ?_)
  refine wf_if_eq 14 dX7_passesNewOrder_4 g4 (fun h4 => ?_) (fun h4 => ?_)
  · refine wf_iconst dX7_passesNewOrder_14 ?_
    exact wf_ireturn dX7_passesNewOrder_15 ⟨_, rfl, rfl⟩
  · refine wf_aload_n dX7_passesNewOrder_7 rfl ?_
    refine wf_cV (put := fun q => q) dX7_passesNewOrder_8 k_RX7_347 b_yX7_passesNumber x_yX7_passesNumber (pX7_passesNumber (n := n + 1) hE _ _) rfl (fun _ => rfl) (fun h hr => rd_mod hr) rfl (fun r8 m8 ca => ?_)
    refine wf_gd (fun g11 => ?_)
    refine wf_if_ne 16 dX7_passesNewOrder_11 g11 (fun h11 => ?_) (fun h11 => ?_)
    · refine wf_aload_n dX7_passesNewOrder_16 rfl ?_
      refine wf_aload_n dX7_passesNewOrder_17 rfl ?_
      refine wf_get dX7_passesNewOrder_18 f_RX7_316 (fun h hr => rd_mod hr) ?_
      refine wf_p_modf (f := 16) dX7_passesNewOrder_21 p_RX7_350 (fun m21 => ?_)
      refine wf_aload_n dX7_passesNewOrder_24 rfl ?_
      refine wf_aload_n dX7_passesNewOrder_25 rfl ?_
      refine wf_bipush dX7_passesNewOrder_26 ?_
      refine wf_bipush dX7_passesNewOrder_28 ?_
      refine wf_bipush dX7_passesNewOrder_30 ?_
      refine wf_bipush dX7_passesNewOrder_32 ?_
      refine wf_cV (put := fun q => q) dX7_passesNewOrder_34 k_RX7_337 b_yX7_passesOne x_yX7_passesOne (pX7_passesOne (n := n + 1) hE 100 119 109 101 _ _) rfl (fun _ => rfl) (fun h hr => rd_mod hr) rfl (fun r34 m34 ca => ?_)
      refine wf_p_modf (f := 17) dX7_passesNewOrder_37 p_RX7_353 (fun m37 => ?_)
      refine wf_aload_n dX7_passesNewOrder_40 rfl ?_
      refine wf_get dX7_passesNewOrder_41 f_RX7_353 (fun h hr => rd_mod hr) ?_
      refine wf_bipush dX7_passesNewOrder_44 ?_
      refine wf_gd (fun g46 => ?_)
      refine wf_icmp_eq 56 dX7_passesNewOrder_46 g46 (by decide) (fun h46 => ?_) (fun h46 => ?_)
      · refine wf_iconst dX7_passesNewOrder_56 ?_
        exact wf_ireturn dX7_passesNewOrder_57 ⟨_, rfl, rfl⟩
      · refine wf_aload_n dX7_passesNewOrder_49 rfl ?_
        refine wf_cV (put := fun q => q) dX7_passesNewOrder_50 k_RX7_347 b_yX7_passesNumber x_yX7_passesNumber (pX7_passesNumber (n := n + 1) hE _ _) rfl (fun _ => rfl) (fun h hr => rd_mod hr) rfl (fun r50 m50 ca => ?_)
        refine wf_gd (fun g53 => ?_)
        refine wf_if_ne 58 dX7_passesNewOrder_53 g53 (fun h53 => ?_) (fun h53 => ?_)
        · refine wf_aload_n dX7_passesNewOrder_58 rfl ?_
          refine wf_aload_n dX7_passesNewOrder_59 rfl ?_
          refine wf_get dX7_passesNewOrder_60 f_RX7_316 (fun h hr => rd_mod hr) ?_
          refine wf_p_modf (f := 18) dX7_passesNewOrder_63 p_RX7_356 (fun m63 => ?_)
          refine wf_aload_n dX7_passesNewOrder_66 rfl ?_
          refine wf_iconst dX7_passesNewOrder_67 ?_
          refine wf_p_modf (f := 19) dX7_passesNewOrder_68 p_RX7_359 (fun m68 => ?_)
          refine wf_aload_n dX7_passesNewOrder_71 rfl ?_
          refine wf_bipush dX7_passesNewOrder_72 ?_
          refine wf_bipush dX7_passesNewOrder_74 ?_
          refine wf_cV (put := fun q => q) dX7_passesNewOrder_76 k_RX7_323 b_yX7_passes x_yX7_passes (pX7_passes (n := n + 2) hE 47 47 _ _) rfl (fun _ => rfl) (fun h hr => rd_mod hr) rfl (fun r76 m76 ca => ?_)
          refine wf_gd (fun g79 => ?_)
          refine wf_if_eq 99 dX7_passesNewOrder_79 g79 (fun h79 => ?_) (fun h79 => ?_)
          · exact wf_at (pX7_passesNewOrder_b99 (n := n) hE   _ _) ⟨rfl, trivial⟩
          · refine wf_aload_n dX7_passesNewOrder_82 rfl ?_
            refine wf_cV (put := fun q => q) dX7_passesNewOrder_83 k_RX7_347 b_yX7_passesNumber x_yX7_passesNumber (pX7_passesNumber (n := n + 1) hE _ _) rfl (fun _ => rfl) (fun h hr => rd_mod hr) rfl (fun r83 m83 ca => ?_)
            refine wf_gd (fun g86 => ?_)
            refine wf_if_ne 91 dX7_passesNewOrder_86 g86 (fun h86 => ?_) (fun h86 => ?_)
            · refine wf_aload_n dX7_passesNewOrder_91 rfl ?_
              refine wf_aload_n dX7_passesNewOrder_92 rfl ?_
              refine wf_get dX7_passesNewOrder_93 f_RX7_316 (fun h hr => rd_mod hr) ?_
              refine wf_p_modf (f := 19) dX7_passesNewOrder_96 p_RX7_359 (fun m96 => ?_)
              exact wf_at (pX7_passesNewOrder_b99 (n := n) hE   _ _) ⟨rfl, trivial⟩
            · refine wf_iconst dX7_passesNewOrder_89 ?_
              exact wf_ireturn dX7_passesNewOrder_90 ⟨_, rfl, rfl⟩
        · refine wf_iconst dX7_passesNewOrder_56 ?_
          exact wf_ireturn dX7_passesNewOrder_57 ⟨_, rfl, rfl⟩
    · refine wf_iconst dX7_passesNewOrder_14 ?_
      exact wf_ireturn dX7_passesNewOrder_15 ⟨_, rfl, rfl⟩
set_option maxRecDepth 100000 in
set_option maxHeartbeats 4000000 in
theorem pX7_passesAct {E : wE} {n : Nat} (hE : wGE E) {C : cR}   (m : mR) (ca : caT) : WF E (n + 5) yX7_passesAct cX7_passesAct 2 (some .boolean) vI (fun m : mR => (C, m)) ca 0 (wArgs [.ref (aM E 0)]) [] m (fX7_passesAct  m) := by
  unfold fX7_passesAct
  refine wf_aload_n dX7_passesAct_0 rfl ?_
  refine wf_bipush dX7_passesAct_1 ?_
  refine wf_bipush dX7_passesAct_3 ?_
  refine wf_cV (put := fun q => q) dX7_passesAct_5 k_RX7_323 b_yX7_passes x_yX7_passes (pX7_passes (n := n + 3) hE 112 112 _ _) rfl (fun _ => rfl) (fun h hr => rd_mod hr) rfl (fun r5 m5 ca => ?_)
  refine wf_gd (fun g8 => ?_)
  refine wf_if_eq 21 dX7_passesAct_8 g8 (fun h8 => ?_) (fun h8 => ?_)
  · refine wf_aload_n dX7_passesAct_21 rfl ?_
    refine wf_bipush dX7_passesAct_22 ?_
    refine wf_bipush dX7_passesAct_24 ?_
    refine wf_cV (put := fun q => q) dX7_passesAct_26 k_RX7_323 b_yX7_passes x_yX7_passes (pX7_passes (n := n + 3) hE 100 100 _ _) rfl (fun _ => rfl) (fun h hr => rd_mod hr) rfl (fun r26 m26 ca => ?_)
    refine wf_gd (fun g29 => ?_)
    refine wf_if_eq 42 dX7_passesAct_29 g29 (fun h29 => ?_) (fun h29 => ?_)
    · refine wf_aload_n dX7_passesAct_42 rfl ?_
      refine wf_bipush dX7_passesAct_43 ?_
      refine wf_bipush dX7_passesAct_45 ?_
      refine wf_bipush dX7_passesAct_47 ?_
      refine wf_bipush dX7_passesAct_49 ?_
      refine wf_cV (put := fun q => q) dX7_passesAct_51 k_RX7_337 b_yX7_passesOne x_yX7_passesOne (pX7_passesOne (n := n + 2) hE 115 103 110 110 _ _) rfl (fun _ => rfl) (fun h hr => rd_mod hr) rfl (fun r51 m51 ca => ?_)
      refine wf_istore_n dX7_passesAct_54 ?_
      refine wf_iload_n dX7_passesAct_55 rfl ?_
      refine wf_bipush dX7_passesAct_56 ?_
      refine wf_gd (fun g58 => ?_)
      refine wf_icmp_eq 68 dX7_passesAct_58 g58 (by decide) (fun h58 => ?_) (fun h58 => ?_)
      · refine wf_iconst dX7_passesAct_68 ?_
        exact wf_ireturn dX7_passesAct_69 ⟨_, rfl, rfl⟩
      · refine wf_aload_n dX7_passesAct_61 rfl ?_
        refine wf_cV (put := fun q => q) dX7_passesAct_62 k_RX7_347 b_yX7_passesNumber x_yX7_passesNumber (pX7_passesNumber (n := n + 2) hE _ _) rfl (fun _ => rfl) (fun h hr => rd_mod hr) rfl (fun r62 m62 ca => ?_)
        refine wf_gd (fun g65 => ?_)
        refine wf_if_ne 70 dX7_passesAct_65 g65 (fun h65 => ?_) (fun h65 => ?_)
        · refine wf_aload_n dX7_passesAct_70 rfl ?_
          refine wf_iconst dX7_passesAct_71 ?_
          refine wf_iload_n dX7_passesAct_72 rfl ?_
          refine wf_iadd dX7_passesAct_73 ?_
          refine wf_p_modf (f := 13) dX7_passesAct_74 p_RX7_365 (fun m74 => ?_)
          refine wf_aload_n dX7_passesAct_77 rfl ?_
          refine wf_aload_n dX7_passesAct_78 rfl ?_
          refine wf_get dX7_passesAct_79 f_RX7_316 (fun h hr => rd_mod hr) ?_
          refine wf_p_modf (f := 16) dX7_passesAct_82 p_RX7_350 (fun m82 => ?_)
          refine wf_iconst dX7_passesAct_85 ?_
          exact wf_ireturn dX7_passesAct_86 ⟨_, rfl, rfl⟩
        · refine wf_iconst dX7_passesAct_68 ?_
          exact wf_ireturn dX7_passesAct_69 ⟨_, rfl, rfl⟩
    · refine wf_aload_n dX7_passesAct_32 rfl ?_
      refine wf_iconst dX7_passesAct_33 ?_
      refine wf_p_modf (f := 13) dX7_passesAct_34 p_RX7_365 (fun m34 => ?_)
      refine wf_aload_n dX7_passesAct_37 rfl ?_
      refine wf_cV (put := fun q => q) dX7_passesAct_38 k_RX7_371 b_yX7_passesDeposit x_yX7_passesDeposit (pX7_passesDeposit (n := n + 1) hE _ _) rfl (fun _ => rfl) (fun h hr => rd_mod hr) rfl (fun r38 m38 ca => ?_)
      refine wf_gd (fun g41 => ?_)
      exact wf_ireturn dX7_passesAct_41 ⟨_, rfl, nar_z g41⟩
  · refine wf_aload_n dX7_passesAct_11 rfl ?_
    refine wf_iconst dX7_passesAct_12 ?_
    refine wf_p_modf (f := 13) dX7_passesAct_13 p_RX7_365 (fun m13 => ?_)
    refine wf_aload_n dX7_passesAct_16 rfl ?_
    refine wf_cV (put := fun q => q) dX7_passesAct_17 k_RX7_368 b_yX7_passesNewOrder x_yX7_passesNewOrder (pX7_passesNewOrder (n := n) hE _ _) rfl (fun _ => rfl) (fun h hr => rd_mod hr) rfl (fun r17 m17 ca => ?_)
    refine wf_gd (fun g20 => ?_)
    exact wf_ireturn dX7_passesAct_20 ⟨_, rfl, nar_z g20⟩
set_option maxRecDepth 100000 in
set_option maxHeartbeats 4000000 in
theorem pX7_fault_b17 {E : wE} {n : Nat} (hE : wGE E) {C : cR} : ∀ (fuel : Nat)   (m : mR) (ca : caT), WF E (n + 6) yX7_fault cX7_fault 1 (some .int) vI (fun m : mR => (C, m)) ca 17 (wLs [some (.ref (aM E 0))]) [] m (fX7_fault_b17 fuel  m) := by
  intro fuel
  induction fuel with
  | zero =>
    intro m ca
    exact wf_none
  | succ fuel ih =>
    intro m ca
    unfold fX7_fault_b17
    refine wf_aload_n dX7_fault_17 rfl ?_
    refine wf_get dX7_fault_18 f_RX7_313 (fun h hr => rd_mod hr) ?_
    refine wf_aload_n dX7_fault_21 rfl ?_
    refine wf_get dX7_fault_22 f_RX7_298 (fun h hr => rd_mod hr) ?_
    refine wf_gd (fun g25 => ?_)
    refine wf_icmp_ge 51 dX7_fault_25 g25.1 g25.2 (fun h25 => ?_) (fun h25 => ?_)
    · refine wf_bipush dX7_fault_51 ?_
      exact wf_ireturn dX7_fault_53 ⟨_, rfl, rfl⟩
    · refine wf_aload_n dX7_fault_28 rfl ?_
      refine wf_bipush dX7_fault_29 ?_
      refine wf_bipush dX7_fault_31 ?_
      refine wf_cV (put := fun q => q) dX7_fault_33 k_RX7_323 b_yX7_passes x_yX7_passes (pX7_passes (n := n + 4) hE 59 59 _ _) rfl (fun _ => rfl) (fun h hr => rd_mod hr) rfl (fun r33 m33 ca => ?_)
      refine wf_gd (fun g36 => ?_)
      refine wf_if_eq 46 dX7_fault_36 g36 (fun h36 => ?_) (fun h36 => ?_)
      · refine wf_aload_n dX7_fault_46 rfl ?_
        refine wf_get dX7_fault_47 f_RX7_313 (fun h hr => rd_mod hr) ?_
        exact wf_ireturn dX7_fault_50 ⟨_, rfl, rfl⟩
      · refine wf_aload_n dX7_fault_39 rfl ?_
        refine wf_cV (put := fun q => q) dX7_fault_40 k_RX7_374 b_yX7_passesAct x_yX7_passesAct (pX7_passesAct (n := n) hE _ _) rfl (fun _ => rfl) (fun h hr => rd_mod hr) rfl (fun r40 m40 ca => ?_)
        refine wf_gd (fun g43 => ?_)
        refine wf_if_ne 17 dX7_fault_43 g43 (fun h43 => ?_) (fun h43 => ?_)
        · exact wf_at (ih  _ _) ⟨rfl, trivial⟩
        · refine wf_aload_n dX7_fault_46 rfl ?_
          refine wf_get dX7_fault_47 f_RX7_313 (fun h hr => rd_mod hr) ?_
          exact wf_ireturn dX7_fault_50 ⟨_, rfl, rfl⟩
set_option maxRecDepth 100000 in
set_option maxHeartbeats 4000000 in
theorem pX7_fault {E : wE} {n : Nat} (hE : wGE E) {C : cR}   (m : mR) (ca : caT) : WF E (n + 6) yX7_fault cX7_fault 1 (some .int) vI (fun m : mR => (C, m)) ca 0 (wArgs [.ref (aM E 0)]) [] m (fX7_fault  m) := by
  unfold fX7_fault
  refine wf_aload_n dX7_fault_0 rfl ?_
  refine wf_iconst dX7_fault_1 ?_
  refine wf_p_modf (f := 11) dX7_fault_2 p_RX7_313 (fun m2 => ?_)
  refine wf_aload_n dX7_fault_5 rfl ?_
  refine wf_cV (put := fun q => q) dX7_fault_6 k_RX7_374 b_yX7_passesAct x_yX7_passesAct (pX7_passesAct (n := n) hE _ _) rfl (fun _ => rfl) (fun h hr => rd_mod hr) rfl (fun r6 m6 ca => ?_)
  refine wf_gd (fun g9 => ?_)
  refine wf_if_ne 17 dX7_fault_9 g9 (fun h9 => ?_) (fun h9 => ?_)
  · exact wf_at (pX7_fault_b17 (n := n) hE  fuel0  _ _) ⟨rfl, trivial⟩
  · refine wf_aload_n dX7_fault_12 rfl ?_
    refine wf_get dX7_fault_13 f_RX7_313 (fun h hr => rd_mod hr) ?_
    exact wf_ireturn dX7_fault_16 ⟨_, rfl, rfl⟩
set_option maxRecDepth 100000 in
set_option maxHeartbeats 4000000 in
theorem pX7_carryOut_b81 {E : wE} {n : Nat} (hE : wGE E) {C : cR} {rec25 : Int → Int → mR → Option (Int × mR)} (hrec25 : ∀ (x1 : Int) (x2 : Int)  (m : mR) (ca : caT), WF E (n + 11) yX7_carryOut cX7_carryOut 3 (some .int) vI (fun m : mR => (C, m)) ca 25 (wLs [some (.ref (aM E 0)), some (.int (iI x1)), some (.int (iI x2))]) [] m (rec25 x1 x2 m)) (x1 : Int) (t0 : Int)  (m : mR) (ca : caT) : WF E (n + 11) yX7_carryOut cX7_carryOut 3 (some .int) vI (fun m : mR => (C, m)) ca 81 (wLs [some (.ref (aM E 0)), some (.int (iI x1))]) [.int (iI t0)] m (fX7_carryOut_b81 rec25 x1 t0 m) := by
  unfold fX7_carryOut_b81
  refine wf_istore_n dX7_carryOut_81 ?_
  refine wf_aload_n dX7_carryOut_82 rfl ?_
  refine wf_dup dX7_carryOut_83 ?_
  refine wf_get dX7_carryOut_84 f_RX7_313 (fun h hr => rd_mod hr) ?_
  refine wf_iconst dX7_carryOut_87 ?_
  refine wf_iadd dX7_carryOut_88 ?_
  refine wf_p_modf (f := 11) dX7_carryOut_89 p_RX7_313 (fun m89 => ?_)
  refine wf_goto 25 dX7_carryOut_92 ?_
  exact wf_at (hrec25 x1 t0 _ _) ⟨rfl, rfl, rfl, trivial⟩
set_option maxRecDepth 100000 in
set_option maxHeartbeats 4000000 in
theorem pX7_carryOut_b59 {E : wE} {n : Nat} (hE : wGE E) {C : cR} {rec25 : Int → Int → mR → Option (Int × mR)} (hrec25 : ∀ (x1 : Int) (x2 : Int)  (m : mR) (ca : caT), WF E (n + 11) yX7_carryOut cX7_carryOut 3 (some .int) vI (fun m : mR => (C, m)) ca 25 (wLs [some (.ref (aM E 0)), some (.int (iI x1)), some (.int (iI x2))]) [] m (rec25 x1 x2 m)) (x2 : Int) (t0 : Int) (t1 : Int)  (m : mR) (ca : caT) : WF E (n + 11) yX7_carryOut cX7_carryOut 3 (some .int) vI (fun m : mR => (C, m)) ca 59 (wLs [some (.ref (aM E 0)), none, some (.int (iI x2))]) [.int (iI t1), .int (iI t0)] m (fX7_carryOut_b59 rec25 x2 t0 t1 m) := by
  unfold fX7_carryOut_b59
  refine wf_iadd dX7_carryOut_59 ?_
  refine wf_istore_n dX7_carryOut_60 ?_
  refine wf_iload_n dX7_carryOut_61 rfl ?_
  refine wf_gd (fun g62 => ?_)
  refine wf_if_eq 80 dX7_carryOut_62 g62 (fun h62 => ?_) (fun h62 => ?_)
  · refine wf_iconst dX7_carryOut_80 ?_
    exact wf_at (pX7_carryOut_b81 (n := n) hE hrec25 (t0 + t1) 0 _ _) ⟨rfl, rfl, trivial⟩
  · refine wf_aload_n dX7_carryOut_65 rfl ?_
    refine wf_get dX7_carryOut_66 f_RX7_313 (fun h hr => rd_mod hr) ?_
    refine wf_aload_n dX7_carryOut_69 rfl ?_
    refine wf_get dX7_carryOut_70 f_RX7_298 (fun h hr => rd_mod hr) ?_
    refine wf_gd (fun g73 => ?_)
    refine wf_icmp_ge 80 dX7_carryOut_73 g73.1 g73.2 (fun h73 => ?_) (fun h73 => ?_)
    · refine wf_iconst dX7_carryOut_80 ?_
      exact wf_at (pX7_carryOut_b81 (n := n) hE hrec25 (t0 + t1) 0 _ _) ⟨rfl, rfl, trivial⟩
    · refine wf_iconst dX7_carryOut_76 ?_
      refine wf_goto 81 dX7_carryOut_77 ?_
      exact wf_at (pX7_carryOut_b81 (n := n) hE hrec25 (t0 + t1) 1 _ _) ⟨rfl, rfl, trivial⟩
set_option maxRecDepth 100000 in
set_option maxHeartbeats 4000000 in
theorem pX7_carryOut_b48 {E : wE} {n : Nat} (hE : wGE E) {C : cR} {rec25 : Int → Int → mR → Option (Int × mR)} (hrec25 : ∀ (x1 : Int) (x2 : Int)  (m : mR) (ca : caT), WF E (n + 11) yX7_carryOut cX7_carryOut 3 (some .int) vI (fun m : mR => (C, m)) ca 25 (wLs [some (.ref (aM E 0)), some (.int (iI x1)), some (.int (iI x2))]) [] m (rec25 x1 x2 m)) (x1 : Int) (t0 : Int)  (m : mR) (ca : caT) : WF E (n + 11) yX7_carryOut cX7_carryOut 3 (some .int) vI (fun m : mR => (C, m)) ca 48 (wLs [some (.ref (aM E 0)), some (.int (iI x1))]) [.int (iI t0)] m (fX7_carryOut_b48 rec25 x1 t0 m) := by
  unfold fX7_carryOut_b48
  refine wf_istore_n dX7_carryOut_48 ?_
  refine wf_iload_n dX7_carryOut_49 rfl ?_
  refine wf_iload_n dX7_carryOut_50 rfl ?_
  refine wf_gd (fun g51 => ?_)
  refine wf_if_eq 58 dX7_carryOut_51 g51 (fun h51 => ?_) (fun h51 => ?_)
  · refine wf_iconst dX7_carryOut_58 ?_
    exact wf_at (pX7_carryOut_b59 (n := n) hE hrec25 t0 x1 0 _ _) ⟨rfl, rfl, trivial⟩
  · refine wf_iconst dX7_carryOut_54 ?_
    refine wf_goto 59 dX7_carryOut_55 ?_
    exact wf_at (pX7_carryOut_b59 (n := n) hE hrec25 t0 x1 1 _ _) ⟨rfl, rfl, trivial⟩
set_option maxRecDepth 100000 in
set_option maxHeartbeats 4000000 in
theorem pX7_carryOut_b25 {E : wE} {n : Nat} (hE : wGE E) {C : cR} : ∀ (fuel : Nat) (x1 : Int) (x2 : Int)  (m : mR) (ca : caT), WF E (n + 11) yX7_carryOut cX7_carryOut 3 (some .int) vI (fun m : mR => (C, m)) ca 25 (wLs [some (.ref (aM E 0)), some (.int (iI x1)), some (.int (iI x2))]) [] m (fX7_carryOut_b25 fuel x1 x2 m) := by
  intro fuel
  induction fuel with
  | zero =>
    intro x1 x2 m ca
    exact wf_none
  | succ fuel ih =>
    intro x1 x2 m ca
    unfold fX7_carryOut_b25
    refine wf_iload_n dX7_carryOut_25 rfl ?_
    refine wf_gd (fun g26 => ?_)
    refine wf_if_eq 95 dX7_carryOut_26 g26 (fun h26 => ?_) (fun h26 => ?_)
    · refine wf_aload_n dX7_carryOut_95 rfl ?_
      refine wf_iconst dX7_carryOut_96 ?_
      refine wf_p_modf (f := 10) dX7_carryOut_97 p_RX7_298 (fun m97 => ?_)
      refine wf_iload_n dX7_carryOut_100 rfl ?_
      exact wf_ireturn dX7_carryOut_101 ⟨_, rfl, rfl⟩
    · refine wf_aload_n dX7_carryOut_29 rfl ?_
      refine wf_cV (put := fun q => q) dX7_carryOut_30 k_RX7_374 b_yX7_passesAct x_yX7_passesAct (pX7_passesAct (n := n + 5) hE _ _) rfl (fun _ => rfl) (fun h hr => rd_mod hr) rfl (fun r30 m30 ca => ?_)
      refine wf_gd (fun g33 => ?_)
      refine wf_if_eq 47 dX7_carryOut_33 g33 (fun h33 => ?_) (fun h33 => ?_)
      · refine wf_iconst dX7_carryOut_47 ?_
        exact wf_at (pX7_carryOut_b48 (n := n) hE ih x1 0 _ _) ⟨rfl, rfl, trivial⟩
      · refine wf_aload_n dX7_carryOut_36 rfl ?_
        refine wf_cV (put := fun q => q) dX7_carryOut_37 k_RX7_383 b_yX7_does x_yX7_does (pX7_does (n := n) hE _ _) rfl (fun _ => rfl) (fun h hr => rd_mod hr) rfl (fun r37 m37 ca => ?_)
        refine wf_gd (fun g40 => ?_)
        refine wf_if_lt 47 dX7_carryOut_40 g40 (fun h40 => ?_) (fun h40 => ?_)
        · refine wf_iconst dX7_carryOut_47 ?_
          exact wf_at (pX7_carryOut_b48 (n := n) hE ih x1 0 _ _) ⟨rfl, rfl, trivial⟩
        · refine wf_iconst dX7_carryOut_43 ?_
          refine wf_goto 48 dX7_carryOut_44 ?_
          exact wf_at (pX7_carryOut_b48 (n := n) hE ih x1 1 _ _) ⟨rfl, rfl, trivial⟩
set_option maxRecDepth 100000 in
set_option maxHeartbeats 4000000 in
theorem pX7_carryOut {E : wE} {n : Nat} (hE : wGE E) {C : cR}   (m : mR) (ca : caT) : WF E (n + 11) yX7_carryOut cX7_carryOut 3 (some .int) vI (fun m : mR => (C, m)) ca 0 (wArgs [.ref (aM E 0)]) [] m (fX7_carryOut  m) := by
  unfold fX7_carryOut
  refine wf_aload_n dX7_carryOut_0 rfl ?_
  refine wf_cV (put := fun q => q) dX7_carryOut_1 k_RX7_380 b_yX7_fault x_yX7_fault (pX7_fault (n := n + 4) hE _ _) rfl (fun _ => rfl) (fun h hr => rd_mod hr) rfl (fun r1 m1 ca => ?_)
  refine wf_bipush dX7_carryOut_4 ?_
  refine wf_gd (fun g6 => ?_)
  refine wf_icmp_eq 12 dX7_carryOut_6 g6 (by decide) (fun h6 => ?_) (fun h6 => ?_)
  · refine wf_aload_n dX7_carryOut_12 rfl ?_
    refine wf_cV (put := fun q => q) dX7_carryOut_13 k_RX7_70 b_yX7_records x_yX7_records (pX7_records (n := n + 9) hE _ _) rfl (fun _ => rfl) (fun h hr => rd_mod hr) rfl (fun r13 m13 ca => ?_)
    refine wf_iconst dX7_carryOut_16 ?_
    refine wf_istore_n dX7_carryOut_17 ?_
    refine wf_iconst dX7_carryOut_18 ?_
    refine wf_istore_n dX7_carryOut_19 ?_
    refine wf_aload_n dX7_carryOut_20 rfl ?_
    refine wf_iconst dX7_carryOut_21 ?_
    refine wf_p_modf (f := 11) dX7_carryOut_22 p_RX7_313 (fun m22 => ?_)
    exact wf_at (pX7_carryOut_b25 (n := n) hE  fuel0 0 1 _ _) ⟨rfl, rfl, rfl, trivial⟩
  · refine wf_bipush dX7_carryOut_9 ?_
    exact wf_ireturn dX7_carryOut_11 ⟨_, rfl, rfl⟩
set_option maxRecDepth 100000 in
set_option maxHeartbeats 4000000 in
theorem pX7_change {E : wE} {n : Nat} (hE : wGE E) {C : cR} (x1 : Int) (x2 : Int) (x3 : Int)  (m : mR) (ca : caT) : WF E (n + 2) yX7_change cX7_change 5 (some .int) vI (fun m : mR => (C, m)) ca 0 (wArgs [.ref (aM E 0), .int (iI x1), .int (iI x2), .int (iI x3)]) [] m (fX7_change x1 x2 x3 m) := by
  unfold fX7_change
  refine wf_aload_n dX7_change_0 rfl ?_
  refine wf_iload_n dX7_change_1 rfl ?_
  refine wf_rV dX7_change_2 k_RX7_173 b_yX7_isOrder x_yX7_isOrder (fun h hr => pX7_isOrder (n := n) hE hr x1) (fun h hr => rd_mod hr) rfl (fun r2 => ?_)
  refine wf_gd (fun g5 => ?_)
  refine wf_if_ne 10 dX7_change_5 g5 (fun h5 => ?_) (fun h5 => ?_)
  · refine wf_iload_n dX7_change_10 rfl ?_
    refine wf_gd (fun g11 => ?_)
    refine wf_i2l dX7_change_11 g11 ?_
    refine wf_lconst1 dX7_change_12 ?_
    refine wf_ldc2 dX7_change_13 c_RX7_123 ?_
    refine wf_rS dX7_change_16 k_RX7_47 b_yX7_isIn x_yX7_isIn (fun h hr => pX7_isIn (n := n + 1) hE x2 1 1000000) (fun r16 => ?_)
    refine wf_gd (fun g19 => ?_)
    refine wf_if_eq 34 dX7_change_19 g19 (fun h19 => ?_) (fun h19 => ?_)
    · refine wf_bipush dX7_change_34 ?_
      exact wf_ireturn dX7_change_36 ⟨_, rfl, rfl⟩
    · refine wf_iload_n dX7_change_22 rfl ?_
      refine wf_gd (fun g23 => ?_)
      refine wf_i2l dX7_change_23 g23 ?_
      refine wf_lconst0 dX7_change_24 ?_
      refine wf_ldc2 dX7_change_25 c_RX7_109 ?_
      refine wf_rS dX7_change_28 k_RX7_47 b_yX7_isIn x_yX7_isIn (fun h hr => pX7_isIn (n := n + 1) hE x3 0 9) (fun r28 => ?_)
      refine wf_gd (fun g31 => ?_)
      refine wf_if_ne 37 dX7_change_31 g31 (fun h31 => ?_) (fun h31 => ?_)
      · refine wf_aload_n dX7_change_37 rfl ?_
        refine wf_iload_n dX7_change_38 rfl ?_
        refine wf_bipush dX7_change_39 ?_
        refine wf_rV dX7_change_41 k_RX7_151 b_yX7_ofO x_yX7_ofO (fun h hr => pX7_ofO (n := n) hE hr x1 10) (fun h hr => rd_mod hr) rfl (fun r41 => ?_)
        refine wf_iconst dX7_change_44 ?_
        refine wf_gd (fun g45 => ?_)
        refine wf_icmp_ne 51 dX7_change_45 g45 (by decide) (fun h45 => ?_) (fun h45 => ?_)
        · refine wf_aload_n dX7_change_51 rfl ?_
          refine wf_cV (put := fun q => q) dX7_change_52 k_RX7_70 b_yX7_records x_yX7_records (pX7_records (n := n) hE _ _) rfl (fun _ => rfl) (fun h hr => rd_mod hr) rfl (fun r52 m52 ca => ?_)
          refine wf_aload_n dX7_change_55 rfl ?_
          refine wf_iload_n dX7_change_56 rfl ?_
          refine wf_iconst dX7_change_57 ?_
          refine wf_rV dX7_change_58 k_RX7_151 b_yX7_ofO x_yX7_ofO (fun h hr => pX7_ofO (n := n) hE hr x1 2) (fun h hr => rd_mod hr) rfl (fun r58 => ?_)
          refine wf_istore dX7_change_61 ?_
          refine wf_aload_n dX7_change_63 rfl ?_
          refine wf_iload_n dX7_change_64 rfl ?_
          refine wf_iconst dX7_change_65 ?_
          refine wf_iload_n dX7_change_66 rfl ?_
          refine wf_cV (put := fun q => q) dX7_change_67 k_RX7_169 b_yX7_becomes x_yX7_becomes (pX7_becomes (n := n + 1) hE x1 2 x2 _ _) rfl (fun _ => rfl) (fun h hr => rd_mod hr) rfl (fun r67 m67 ca => ?_)
          refine wf_aload_n dX7_change_70 rfl ?_
          refine wf_iload_n dX7_change_71 rfl ?_
          refine wf_bipush dX7_change_72 ?_
          refine wf_iload_n dX7_change_74 rfl ?_
          refine wf_cV (put := fun q => q) dX7_change_75 k_RX7_169 b_yX7_becomes x_yX7_becomes (pX7_becomes (n := n + 1) hE x1 8 x3 _ _) rfl (fun _ => rfl) (fun h hr => rd_mod hr) rfl (fun r75 m75 ca => ?_)
          refine wf_iload dX7_change_78 rfl ?_
          exact wf_ireturn dX7_change_80 ⟨_, rfl, rfl⟩
        · refine wf_bipush dX7_change_48 ?_
          exact wf_ireturn dX7_change_50 ⟨_, rfl, rfl⟩
      · refine wf_bipush dX7_change_34 ?_
        exact wf_ireturn dX7_change_36 ⟨_, rfl, rfl⟩
  · refine wf_iconst dX7_change_8 ?_
    exact wf_ireturn dX7_change_9 ⟨_, rfl, rfl⟩
set_option maxRecDepth 100000 in
set_option maxHeartbeats 4000000 in
theorem pX7_count {E : wE} {n : Nat} (hE : wGE E) {C : cR} {m : mR} {ca : caT} {h : hW} (hr : rep E (C, m) ca h) (x1 : Int)  : WR E (n + 1) yX7_count cX7_count 2 (some .int) vI h 0 (wArgs [.ref (aM E 0), .int (iI x1)]) [] (fX7_count x1 m) := by
  unfold fX7_count
  refine wr_iload_n dX7_count_0 rfl ?_
  refine wr_gd (fun g1 => ?_)
  refine wr_i2l dX7_count_1 g1 ?_
  refine wr_lconst0 dX7_count_2 ?_
  refine wr_ldc2 dX7_count_3 c_RX7_125 ?_
  refine wr_cS dX7_count_6 k_RX7_47 b_yX7_isIn x_yX7_isIn (pX7_isIn (n := n) hE x1 0 8) (fun r6 => ?_)
  refine wr_gd (fun g9 => ?_)
  refine wr_if_eq 18 dX7_count_9 g9 (fun h9 => ?_) (fun h9 => ?_)
  · refine wr_iload_n dX7_count_18 rfl ?_
    refine wr_gd (fun g19 => ?_)
    refine wr_i2l dX7_count_19 g19 ?_
    refine wr_ldc2 dX7_count_20 c_RX7_294 ?_
    refine wr_ldc2 dX7_count_23 c_RX7_296 ?_
    refine wr_cS dX7_count_26 k_RX7_47 b_yX7_isIn x_yX7_isIn (pX7_isIn (n := n) hE x1 11 14) (fun r26 => ?_)
    refine wr_gd (fun g29 => ?_)
    refine wr_if_eq 44 dX7_count_29 g29 (fun h29 => ?_) (fun h29 => ?_)
    · refine wr_iload_n dX7_count_44 rfl ?_
      refine wr_bipush dX7_count_45 ?_
      refine wr_gd (fun g47 => ?_)
      refine wr_icmp_ne 55 dX7_count_47 g47 (by decide) (fun h47 => ?_) (fun h47 => ?_)
      · refine wr_iload_n dX7_count_55 rfl ?_
        refine wr_bipush dX7_count_56 ?_
        refine wr_gd (fun g58 => ?_)
        refine wr_icmp_ne 68 dX7_count_58 g58 (by decide) (fun h58 => ?_) (fun h58 => ?_)
        · refine wr_bipush dX7_count_68 ?_
          exact wr_ireturn dX7_count_70 ⟨_, rfl, rfl⟩
        · refine wr_aload_n dX7_count_61 rfl ?_
          refine wr_get dX7_count_62 f_RX7_52 (rd_mod hr) ?_
          refine wr_goto 70 dX7_count_65 ?_
          exact wr_ireturn dX7_count_70 ⟨_, rfl, rfl⟩
      · refine wr_aload_n dX7_count_50 rfl ?_
        refine wr_get dX7_count_51 f_RX7_298 (rd_mod hr) ?_
        exact wr_ireturn dX7_count_54 ⟨_, rfl, rfl⟩
    · refine wr_aload_n dX7_count_32 rfl ?_
      refine wr_bipush dX7_count_33 ?_
      refine wr_iload_n dX7_count_35 rfl ?_
      refine wr_iadd dX7_count_36 ?_
      refine wr_bipush dX7_count_37 ?_
      refine wr_isub dX7_count_39 ?_
      refine wr_cV dX7_count_40 k_RX7_43 b_yX7_of x_yX7_of (pX7_of (n := n) hE hr ((9 + x1) - 11)) (rd_mod hr) rfl (fun r40 => ?_)
      exact wr_ireturn dX7_count_43 ⟨_, rfl, rfl⟩
  · refine wr_aload_n dX7_count_12 rfl ?_
    refine wr_iload_n dX7_count_13 rfl ?_
    refine wr_cV dX7_count_14 k_RX7_43 b_yX7_of x_yX7_of (pX7_of (n := n) hE hr x1) (rd_mod hr) rfl (fun r14 => ?_)
    exact wr_ireturn dX7_count_17 ⟨_, rfl, rfl⟩

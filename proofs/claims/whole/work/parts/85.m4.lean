/-! ===== the methods meet their functions (by program: wip/whole/gen.py) ===== -/
set_option maxRecDepth 100000 in
set_option maxHeartbeats 4000000 in
theorem pX7_dateOf_b103 {E : wE} {n : Nat} (hE : wGE E) {C : cR} {m : mR} {ca : caT} {h : hW} (hr : rep E (C, m) ca h) (x1 : Int) (x3 : Int)  : WR E (n + 7) yX7_dateOf cX7_dateOf 5 (some .int) vI h 103 (wLs [some (.ref (aM E 0)), some (.int (iI x1)), none, some (.int (iI x3))]) [] (fX7_dateOf_b103 m x1 x3) := by
  unfold fX7_dateOf_b103
  refine wr_iload_n dX7_dateOf_103 rfl ?_
  refine wr_bipush dX7_dateOf_104 ?_
  refine wr_gd (fun g106 => ?_)
  refine wr_icmp_ne 114 dX7_dateOf_106 g106 (by decide) (fun h106 => ?_) (fun h106 => ?_)
  · refine wr_aload_n dX7_dateOf_114 rfl ?_
    refine wr_iload_n dX7_dateOf_115 rfl ?_
    refine wr_iload_n dX7_dateOf_116 rfl ?_
    refine wr_cV dX7_dateOf_117 k_RX7_166 b_yX7_dateBy x_yX7_dateBy (pX7_dateBy (n := n) hE hr x1 x3) (rd_mod hr) rfl (fun r117 => ?_)
    exact wr_ireturn dX7_dateOf_120 ⟨_, rfl, rfl⟩
  · refine wr_bipush dX7_dateOf_109 ?_
    refine wr_goto 120 dX7_dateOf_111 ?_
    exact wr_ireturn dX7_dateOf_120 ⟨_, rfl, rfl⟩
set_option maxRecDepth 100000 in
set_option maxHeartbeats 4000000 in
theorem pX7_dateOf_b76 {E : wE} {n : Nat} (hE : wGE E) {C : cR} {m : mR} {ca : caT} {h : hW} (hr : rep E (C, m) ca h) : ∀ (fuel : Nat) (x1 : Int) (x2 : Int) (x3 : Int) (x4 : Int) , WR E (n + 7) yX7_dateOf cX7_dateOf 5 (some .int) vI h 76 (wLs [some (.ref (aM E 0)), some (.int (iI x1)), some (.int (iI x2)), some (.int (iI x3)), some (.int (iI x4))]) [] (fX7_dateOf_b76 m fuel x1 x2 x3 x4) := by
  intro fuel
  induction fuel with
  | zero =>
    intro x1 x2 x3 x4
    exact wr_none
  | succ fuel ih =>
    intro x1 x2 x3 x4
    unfold fX7_dateOf_b76
    refine wr_iload dX7_dateOf_76 rfl ?_
    refine wr_iload_n dX7_dateOf_78 rfl ?_
    refine wr_gd (fun g79 => ?_)
    refine wr_icmp_ge 103 dX7_dateOf_79 g79.1 g79.2 (fun h79 => ?_) (fun h79 => ?_)
    · exact wr_at (pX7_dateOf_b103 (n := n) hE hr  x1 x3) ⟨rfl, rfl, rfl, trivial⟩
    · refine wr_iload_n dX7_dateOf_82 rfl ?_
      refine wr_bipush dX7_dateOf_83 ?_
      refine wr_gd (fun g85 => ?_)
      refine wr_icmp_eq 103 dX7_dateOf_85 g85 (by decide) (fun h85 => ?_) (fun h85 => ?_)
      · exact wr_at (pX7_dateOf_b103 (n := n) hE hr  x1 x3) ⟨rfl, rfl, rfl, trivial⟩
      · refine wr_aload_n dX7_dateOf_88 rfl ?_
        refine wr_iload_n dX7_dateOf_89 rfl ?_
        refine wr_iload_n dX7_dateOf_90 rfl ?_
        refine wr_iconst dX7_dateOf_91 ?_
        refine wr_iadd dX7_dateOf_92 ?_
        refine wr_cV dX7_dateOf_93 k_RX7_163 b_yX7_occurrence x_yX7_occurrence (pX7_occurrence (n := n) hE hr x1 (x3 + 1)) (rd_mod hr) rfl (fun r93 => ?_)
        refine wr_istore_n dX7_dateOf_96 ?_
        refine wr_iinc dX7_dateOf_97 rfl ?_
        refine wr_goto 76 dX7_dateOf_100 ?_
        exact wr_at (ih x1 x2 r93 (x4 + 1)) ⟨rfl, rfl, rfl, rfl, rfl, trivial⟩
set_option maxRecDepth 100000 in
set_option maxHeartbeats 4000000 in
theorem pX7_dateOf_b60 {E : wE} {n : Nat} (hE : wGE E) {C : cR} {m : mR} {ca : caT} {h : hW} (hr : rep E (C, m) ca h) (x1 : Int) (x2 : Int)  : WR E (n + 7) yX7_dateOf cX7_dateOf 5 (some .int) vI h 60 (wLs [some (.ref (aM E 0)), some (.int (iI x1)), some (.int (iI x2))]) [] (fX7_dateOf_b60 m x1 x2) := by
  unfold fX7_dateOf_b60
  refine wr_aload_n dX7_dateOf_60 rfl ?_
  refine wr_iload_n dX7_dateOf_61 rfl ?_
  refine wr_aload_n dX7_dateOf_62 rfl ?_
  refine wr_iload_n dX7_dateOf_63 rfl ?_
  refine wr_bipush dX7_dateOf_64 ?_
  refine wr_cV dX7_dateOf_66 k_RX7_151 b_yX7_ofO x_yX7_ofO (pX7_ofO (n := n + 5) hE hr x1 14) (rd_mod hr) rfl (fun r66 => ?_)
  refine wr_cV dX7_dateOf_69 k_RX7_163 b_yX7_occurrence x_yX7_occurrence (pX7_occurrence (n := n) hE hr x1 r66) (rd_mod hr) rfl (fun r69 => ?_)
  refine wr_istore_n dX7_dateOf_72 ?_
  refine wr_iconst dX7_dateOf_73 ?_
  refine wr_istore dX7_dateOf_74 ?_
  exact wr_at (pX7_dateOf_b76 (n := n) hE hr  fuel0 x1 x2 r69 0) ⟨rfl, rfl, rfl, rfl, rfl, trivial⟩
set_option maxRecDepth 100000 in
set_option maxHeartbeats 4000000 in
theorem pX7_dateOf {E : wE} {n : Nat} (hE : wGE E) {C : cR} {m : mR} {ca : caT} {h : hW} (hr : rep E (C, m) ca h) (x1 : Int) (x2 : Int)  : WR E (n + 7) yX7_dateOf cX7_dateOf 5 (some .int) vI h 0 (wArgs [.ref (aM E 0), .int (iI x1), .int (iI x2)]) [] (fX7_dateOf x1 x2 m) := by
  unfold fX7_dateOf
  refine wr_aload_n dX7_dateOf_0 rfl ?_
  refine wr_iload_n dX7_dateOf_1 rfl ?_
  refine wr_cV dX7_dateOf_2 k_RX7_173 b_yX7_isOrder x_yX7_isOrder (pX7_isOrder (n := n + 5) hE hr x1) (rd_mod hr) rfl (fun r2 => ?_)
  refine wr_gd (fun g5 => ?_)
  refine wr_if_ne 10 dX7_dateOf_5 g5 (fun h5 => ?_) (fun h5 => ?_)
  · refine wr_iload_n dX7_dateOf_10 rfl ?_
    refine wr_gd (fun g11 => ?_)
    refine wr_i2l dX7_dateOf_11 g11 ?_
    refine wr_lconst0 dX7_dateOf_12 ?_
    refine wr_ldc2 dX7_dateOf_13 c_RX7_176 ?_
    refine wr_cS dX7_dateOf_16 k_RX7_47 b_yX7_isIn x_yX7_isIn (pX7_isIn (n := n + 6) hE x2 0 99) (fun r16 => ?_)
    refine wr_gd (fun g19 => ?_)
    refine wr_if_ne 25 dX7_dateOf_19 g19 (fun h19 => ?_) (fun h19 => ?_)
    · refine wr_aload_n dX7_dateOf_25 rfl ?_
      refine wr_iload_n dX7_dateOf_26 rfl ?_
      refine wr_bipush dX7_dateOf_27 ?_
      refine wr_cV dX7_dateOf_29 k_RX7_151 b_yX7_ofO x_yX7_ofO (pX7_ofO (n := n + 5) hE hr x1 10) (rd_mod hr) rfl (fun r29 => ?_)
      refine wr_iconst dX7_dateOf_32 ?_
      refine wr_gd (fun g33 => ?_)
      refine wr_icmp_eq 57 dX7_dateOf_33 g33 (by decide) (fun h33 => ?_) (fun h33 => ?_)
      · refine wr_bipush dX7_dateOf_57 ?_
        exact wr_ireturn dX7_dateOf_59 ⟨_, rfl, rfl⟩
      · refine wr_aload_n dX7_dateOf_36 rfl ?_
        refine wr_iload_n dX7_dateOf_37 rfl ?_
        refine wr_bipush dX7_dateOf_38 ?_
        refine wr_cV dX7_dateOf_40 k_RX7_151 b_yX7_ofO x_yX7_ofO (pX7_ofO (n := n + 5) hE hr x1 15) (rd_mod hr) rfl (fun r40 => ?_)
        refine wr_gd (fun g43 => ?_)
        refine wr_if_ne 60 dX7_dateOf_43 g43 (fun h43 => ?_) (fun h43 => ?_)
        · exact wr_at (pX7_dateOf_b60 (n := n) hE hr  x1 x2) ⟨rfl, rfl, rfl, trivial⟩
        · refine wr_iload_n dX7_dateOf_46 rfl ?_
          refine wr_aload_n dX7_dateOf_47 rfl ?_
          refine wr_iload_n dX7_dateOf_48 rfl ?_
          refine wr_bipush dX7_dateOf_49 ?_
          refine wr_cV dX7_dateOf_51 k_RX7_151 b_yX7_ofO x_yX7_ofO (pX7_ofO (n := n + 5) hE hr x1 9) (rd_mod hr) rfl (fun r51 => ?_)
          refine wr_gd (fun g54 => ?_)
          refine wr_icmp_lt 60 dX7_dateOf_54 g54.1 g54.2 (fun h54 => ?_) (fun h54 => ?_)
          · exact wr_at (pX7_dateOf_b60 (n := n) hE hr  x1 x2) ⟨rfl, rfl, rfl, trivial⟩
          · refine wr_bipush dX7_dateOf_57 ?_
            exact wr_ireturn dX7_dateOf_59 ⟨_, rfl, rfl⟩
    · refine wr_bipush dX7_dateOf_22 ?_
      exact wr_ireturn dX7_dateOf_24 ⟨_, rfl, rfl⟩
  · refine wr_iconst dX7_dateOf_8 ?_
    exact wr_ireturn dX7_dateOf_9 ⟨_, rfl, rfl⟩
set_option maxRecDepth 100000 in
set_option maxHeartbeats 4000000 in
theorem pX7_days {E : wE} {n : Nat} (hE : wGE E) {C : cR} (x1 : Int)  (m : mR) (ca : caT) : WF E (n + 10) yX7_days cX7_days 3 (some .int) vI (fun m : mR => (C, m)) ca 0 (wArgs [.ref (aM E 0), .int (iI x1)]) [] m (fX7_days x1 m) := by
  unfold fX7_days
  refine wf_aload_n dX7_days_0 rfl ?_
  refine wf_iload_n dX7_days_1 rfl ?_
  refine wf_rV dX7_days_2 k_RX7_272 b_yX7_checksDays x_yX7_checksDays (fun h hr => pX7_checksDays (n := n + 7) hE hr x1) (fun h hr => rd_mod hr) rfl (fun r2 => ?_)
  refine wf_istore_n dX7_days_5 ?_
  refine wf_iload_n dX7_days_6 rfl ?_
  refine wf_gd (fun g7 => ?_)
  refine wf_if_eq 12 dX7_days_7 g7 (fun h7 => ?_) (fun h7 => ?_)
  · refine wf_aload_n dX7_days_12 rfl ?_
    refine wf_cV (put := fun q => q) dX7_days_13 k_RX7_70 b_yX7_records x_yX7_records (pX7_records (n := n + 8) hE _ _) rfl (fun _ => rfl) (fun h hr => rd_mod hr) rfl (fun r13 m13 ca => ?_)
    refine wf_aload_n dX7_days_16 rfl ?_
    refine wf_iload_n dX7_days_17 rfl ?_
    refine wf_cV (put := fun q => q) dX7_days_18 k_RX7_275 b_yX7_passesDays x_yX7_passesDays (pX7_passesDays (n := n) hE x1 _ _) rfl (fun _ => rfl) (fun h hr => rd_mod hr) rfl (fun r18 m18 ca => ?_)
    exact wf_ireturn dX7_days_21 ⟨_, rfl, rfl⟩
  · refine wf_iload_n dX7_days_10 rfl ?_
    exact wf_ireturn dX7_days_11 ⟨_, rfl, rfl⟩
set_option maxRecDepth 100000 in
set_option maxHeartbeats 4000000 in
theorem pX7_deposit {E : wE} {n : Nat} (hE : wGE E) {C : cR} (x1 : Int) (x2 : Int)  (m : mR) (ca : caT) : WF E (n + 3) yX7_deposit cX7_deposit 4 (some .int) vI (fun m : mR => (C, m)) ca 0 (wArgs [.ref (aM E 0), .int (iI x1), .int (iI x2)]) [] m (fX7_deposit x1 x2 m) := by
  unfold fX7_deposit
  refine wf_aload_n dX7_deposit_0 rfl ?_
  refine wf_iload_n dX7_deposit_1 rfl ?_
  refine wf_iload_n dX7_deposit_2 rfl ?_
  refine wf_rV dX7_deposit_3 k_RX7_145 b_yX7_checksDeposit x_yX7_checksDeposit (fun h hr => pX7_checksDeposit (n := n) hE hr x1 x2) (fun h hr => rd_mod hr) rfl (fun r3 => ?_)
  refine wf_istore_n dX7_deposit_6 ?_
  refine wf_iload_n dX7_deposit_7 rfl ?_
  refine wf_gd (fun g8 => ?_)
  refine wf_if_eq 13 dX7_deposit_8 g8 (fun h8 => ?_) (fun h8 => ?_)
  · refine wf_aload_n dX7_deposit_13 rfl ?_
    refine wf_cV (put := fun q => q) dX7_deposit_14 k_RX7_70 b_yX7_records x_yX7_records (pX7_records (n := n + 1) hE _ _) rfl (fun _ => rfl) (fun h hr => rd_mod hr) rfl (fun r14 m14 ca => ?_)
    refine wf_aload_n dX7_deposit_17 rfl ?_
    refine wf_iload_n dX7_deposit_18 rfl ?_
    refine wf_iload_n dX7_deposit_19 rfl ?_
    refine wf_cV (put := fun q => q) dX7_deposit_20 k_RX7_148 b_yX7_deposits x_yX7_deposits (pX7_deposits (n := n + 1) hE x1 x2 _ _) rfl (fun _ => rfl) (fun h hr => rd_mod hr) rfl (fun r20 m20 ca => ?_)
    exact wf_ireturn dX7_deposit_23 ⟨_, rfl, rfl⟩
  · refine wf_iload_n dX7_deposit_11 rfl ?_
    exact wf_ireturn dX7_deposit_12 ⟨_, rfl, rfl⟩
set_option maxRecDepth 100000 in
set_option maxHeartbeats 4000000 in
theorem pX7_failsIn_b2 {E : wE} {n : Nat} (hE : wGE E) {C : cR} : ∀ (fuel : Nat) (x1 : Int) (x2 : Int) (x3 : Int)  (m : mR) (ca : caT), WF E (n + 9) yX7_failsIn cX7_failsIn 5 (some .int) vI (fun m : mR => (C, m)) ca 2 (wLs [some (.ref (aM E 0)), some (.int (iI x1)), some (.int (iI x2)), some (.int (iI x3))]) [] m (fX7_failsIn_b2 fuel x1 x2 x3 m) := by
  intro fuel
  induction fuel with
  | zero =>
    intro x1 x2 x3 m ca
    exact wf_none
  | succ fuel ih =>
    intro x1 x2 x3 m ca
    unfold fX7_failsIn_b2
    refine wf_iload_n dX7_failsIn_2 rfl ?_
    refine wf_iload_n dX7_failsIn_3 rfl ?_
    refine wf_gd (fun g4 => ?_)
    refine wf_icmp_ge 45 dX7_failsIn_4 g4.1 g4.2 (fun h4 => ?_) (fun h4 => ?_)
    · refine wf_bipush dX7_failsIn_45 ?_
      exact wf_ireturn dX7_failsIn_47 ⟨_, rfl, rfl⟩
    · refine wf_aload_n dX7_failsIn_7 rfl ?_
      refine wf_rV dX7_failsIn_8 k_RX7_66 b_yX7_today x_yX7_today (fun h hr => pX7_today (n := n + 7) hE hr) (fun h hr => rd_mod hr) rfl (fun r8 => ?_)
      refine wf_sipush dX7_failsIn_11 ?_
      refine wf_gd (fun g14 => ?_)
      refine wf_icmp_ge 45 dX7_failsIn_14 g14 (by decide) (fun h14 => ?_) (fun h14 => ?_)
      · refine wf_bipush dX7_failsIn_45 ?_
        exact wf_ireturn dX7_failsIn_47 ⟨_, rfl, rfl⟩
      · refine wf_aload_n dX7_failsIn_17 rfl ?_
        refine wf_rV dX7_failsIn_18 k_RX7_66 b_yX7_today x_yX7_today (fun h hr => pX7_today (n := n + 7) hE hr) (fun h hr => rd_mod hr) rfl (fun r18 => ?_)
        refine wf_istore dX7_failsIn_21 ?_
        refine wf_aload_n dX7_failsIn_23 rfl ?_
        refine wf_cV (put := fun q => q) dX7_failsIn_24 k_RX7_269 b_yX7_passesDay x_yX7_passesDay (pX7_passesDay (n := n) hE _ _) rfl (fun _ => rfl) (fun h hr => rd_mod hr) rfl (fun r24 m24 ca => ?_)
        refine wf_aload_n dX7_failsIn_27 rfl ?_
        refine wf_get dX7_failsIn_28 f_RX7_241 (fun h hr => rd_mod hr) ?_
        refine wf_iload_n dX7_failsIn_31 rfl ?_
        refine wf_iand dX7_failsIn_32 ?_
        refine wf_gd (fun g33 => ?_)
        refine wf_if_eq 39 dX7_failsIn_33 g33 (fun h33 => ?_) (fun h33 => ?_)
        · refine wf_iinc dX7_failsIn_39 rfl ?_
          refine wf_goto 2 dX7_failsIn_42 ?_
          exact wf_at (ih x1 x2 (x3 + 1) _ _) ⟨rfl, rfl, rfl, rfl, trivial⟩
        · refine wf_iload dX7_failsIn_36 rfl ?_
          exact wf_ireturn dX7_failsIn_38 ⟨_, rfl, rfl⟩
set_option maxRecDepth 100000 in
set_option maxHeartbeats 4000000 in
theorem pX7_failsIn {E : wE} {n : Nat} (hE : wGE E) {C : cR} (x1 : Int) (x2 : Int)  (m : mR) (ca : caT) : WF E (n + 9) yX7_failsIn cX7_failsIn 5 (some .int) vI (fun m : mR => (C, m)) ca 0 (wArgs [.ref (aM E 0), .int (iI x1), .int (iI x2)]) [] m (fX7_failsIn x1 x2 m) := by
  unfold fX7_failsIn
  refine wf_iconst dX7_failsIn_0 ?_
  refine wf_istore_n dX7_failsIn_1 ?_
  exact wf_at (pX7_failsIn_b2 (n := n) hE  fuel0 x1 x2 0 _ _) ⟨rfl, rfl, rfl, rfl, trivial⟩
set_option maxRecDepth 100000 in
set_option maxHeartbeats 4000000 in
theorem pX7_feed_b29 {E : wE} {n : Nat} (hE : wGE E) {C : cR} (x1 : Int) (x2 : Int)  (m : mR) (ca : caT) : WF E (n + 2) yX7_feed cX7_feed 4 (some .int) vI (fun m : mR => (C, m)) ca 29 (wLs [some (.ref (aM E 0)), some (.int (iI x1)), some (.int (iI x2))]) [] m (fX7_feed_b29 x1 x2 m) := by
  unfold fX7_feed_b29
  refine wf_aload_n dX7_feed_29 rfl ?_
  refine wf_cV (put := fun q => q) dX7_feed_30 k_RX7_70 b_yX7_records x_yX7_records (pX7_records (n := n) hE _ _) rfl (fun _ => rfl) (fun h hr => rd_mod hr) rfl (fun r30 m30 ca => ?_)
  refine wf_aload_n dX7_feed_33 rfl ?_
  refine wf_iload_n dX7_feed_34 rfl ?_
  refine wf_iconst dX7_feed_35 ?_
  refine wf_rV dX7_feed_36 k_RX7_132 b_yX7_ofA x_yX7_ofA (fun h hr => pX7_ofA (n := n) hE hr x1 2) (fun h hr => rd_mod hr) rfl (fun r36 => ?_)
  refine wf_istore_n dX7_feed_39 ?_
  refine wf_aload_n dX7_feed_40 rfl ?_
  refine wf_get dX7_feed_41 f_RX7_7 (fun h hr => rd_mod hr) ?_
  refine wf_bipush dX7_feed_44 ?_
  refine wf_bipush dX7_feed_46 ?_
  refine wf_iload_n dX7_feed_48 rfl ?_
  refine wf_imul dX7_feed_49 ?_
  refine wf_iadd dX7_feed_50 ?_
  refine wf_iconst dX7_feed_51 ?_
  refine wf_iadd dX7_feed_52 ?_
  refine wf_iload_n dX7_feed_53 rfl ?_
  refine wf_gd (fun g54 => ?_)
  refine wf_i2l dX7_feed_54 g54 ?_
  refine wf_gd (fun g55 => ?_)
  refine wf_s_now dX7_feed_55 g55 (fun m55 => ?_)
  refine wf_iload_n dX7_feed_56 rfl ?_
  exact wf_ireturn dX7_feed_57 ⟨_, rfl, rfl⟩
set_option maxRecDepth 100000 in
set_option maxHeartbeats 4000000 in
theorem pX7_feed {E : wE} {n : Nat} (hE : wGE E) {C : cR} (x1 : Int) (x2 : Int)  (m : mR) (ca : caT) : WF E (n + 2) yX7_feed cX7_feed 4 (some .int) vI (fun m : mR => (C, m)) ca 0 (wArgs [.ref (aM E 0), .int (iI x1), .int (iI x2)]) [] m (fX7_feed x1 x2 m) := by
  unfold fX7_feed
  refine wf_aload_n dX7_feed_0 rfl ?_
  refine wf_iload_n dX7_feed_1 rfl ?_
  refine wf_rV dX7_feed_2 k_RX7_129 b_yX7_isAccount x_yX7_isAccount (fun h hr => pX7_isAccount (n := n) hE hr x1) (fun h hr => rd_mod hr) rfl (fun r2 => ?_)
  refine wf_gd (fun g5 => ?_)
  refine wf_if_eq 27 dX7_feed_5 g5 (fun h5 => ?_) (fun h5 => ?_)
  · refine wf_iconst dX7_feed_27 ?_
    exact wf_ireturn dX7_feed_28 ⟨_, rfl, rfl⟩
  · refine wf_iload_n dX7_feed_8 rfl ?_
    refine wf_bipush dX7_feed_9 ?_
    refine wf_gd (fun g11 => ?_)
    refine wf_icmp_eq 29 dX7_feed_11 g11 (by decide) (fun h11 => ?_) (fun h11 => ?_)
    · exact wf_at (pX7_feed_b29 (n := n) hE  x1 x2 _ _) ⟨rfl, rfl, rfl, trivial⟩
    · refine wf_aload_n dX7_feed_14 rfl ?_
      refine wf_iload_n dX7_feed_15 rfl ?_
      refine wf_rV dX7_feed_16 k_RX7_129 b_yX7_isAccount x_yX7_isAccount (fun h hr => pX7_isAccount (n := n) hE hr x2) (fun h hr => rd_mod hr) rfl (fun r16 => ?_)
      refine wf_gd (fun g19 => ?_)
      refine wf_if_eq 27 dX7_feed_19 g19 (fun h19 => ?_) (fun h19 => ?_)
      · refine wf_iconst dX7_feed_27 ?_
        exact wf_ireturn dX7_feed_28 ⟨_, rfl, rfl⟩
      · refine wf_iload_n dX7_feed_22 rfl ?_
        refine wf_iload_n dX7_feed_23 rfl ?_
        refine wf_gd (fun g24 => ?_)
        refine wf_icmp_ne 29 dX7_feed_24 g24.1 g24.2 (fun h24 => ?_) (fun h24 => ?_)
        · exact wf_at (pX7_feed_b29 (n := n) hE  x1 x2 _ _) ⟨rfl, rfl, rfl, trivial⟩
        · refine wf_iconst dX7_feed_27 ?_
          exact wf_ireturn dX7_feed_28 ⟨_, rfl, rfl⟩
set_option maxRecDepth 100000 in
set_option maxHeartbeats 4000000 in
theorem pX7_firstFailure_b38 {E : wE} {n : Nat} (hE : wGE E) {C : cR} (t1 : Int)  (m : mR) (ca : caT) : WF E (n + 10) yX7_firstFailure cX7_firstFailure 3 (some .int) vI (fun m : mR => (C, m)) ca 38 (wLs [some (.ref (aM E 0))]) [.int (iI t1), .ref (aM E 0)] m (fX7_firstFailure_b38 t1 m) := by
  unfold fX7_firstFailure_b38
  refine wf_sipush dX7_firstFailure_38 ?_
  refine wf_cV (put := fun q => q) dX7_firstFailure_41 k_RX7_301 b_yX7_failsIn x_yX7_failsIn (pX7_failsIn (n := n) hE t1 400 _ _) rfl (fun _ => rfl) (fun h hr => rd_mod hr) rfl (fun r41 m41 ca => ?_)
  refine wf_istore_n dX7_firstFailure_44 ?_
  refine wf_aload_n dX7_firstFailure_45 rfl ?_
  refine wf_bipush dX7_firstFailure_46 ?_
  refine wf_cV (put := fun q => q) dX7_firstFailure_48 k_RX7_63 b_yX7_brings x_yX7_brings (pX7_brings (n := n + 9) hE 8 _ _) rfl (fun _ => rfl) (fun h hr => rd_mod hr) rfl (fun r48 m48 ca => ?_)
  refine wf_iload_n dX7_firstFailure_51 rfl ?_
  exact wf_ireturn dX7_firstFailure_52 ⟨_, rfl, rfl⟩
set_option maxRecDepth 100000 in
set_option maxHeartbeats 4000000 in
theorem pX7_firstFailure_b16 {E : wE} {n : Nat} (hE : wGE E) {C : cR} (x1 : Int)  (m : mR) (ca : caT) : WF E (n + 10) yX7_firstFailure cX7_firstFailure 3 (some .int) vI (fun m : mR => (C, m)) ca 16 (wLs [some (.ref (aM E 0)), some (.int (iI x1))]) [] m (fX7_firstFailure_b16 x1 m) := by
  unfold fX7_firstFailure_b16
  refine wf_aload_n dX7_firstFailure_16 rfl ?_
  refine wf_bipush dX7_firstFailure_17 ?_
  refine wf_cV (put := fun q => q) dX7_firstFailure_19 k_RX7_59 b_yX7_keeps x_yX7_keeps (pX7_keeps (n := n + 9) hE 8 _ _) rfl (fun _ => rfl) (fun h hr => rd_mod hr) rfl (fun r19 m19 ca => ?_)
  refine wf_aload_n dX7_firstFailure_22 rfl ?_
  refine wf_iload_n dX7_firstFailure_23 rfl ?_
  refine wf_bipush dX7_firstFailure_24 ?_
  refine wf_gd (fun g26 => ?_)
  refine wf_icmp_ne 35 dX7_firstFailure_26 g26 (by decide) (fun h26 => ?_) (fun h26 => ?_)
  · refine wf_iconst dX7_firstFailure_35 ?_
    refine wf_iload_n dX7_firstFailure_36 rfl ?_
    refine wf_ishl dX7_firstFailure_37 ?_
    exact wf_at (pX7_firstFailure_b38 (n := n) hE  (shlI 1 x1) _ _) ⟨rfl, trivial⟩
  · refine wf_sipush dX7_firstFailure_29 ?_
    refine wf_goto 38 dX7_firstFailure_32 ?_
    exact wf_at (pX7_firstFailure_b38 (n := n) hE  255 _ _) ⟨rfl, trivial⟩
set_option maxRecDepth 100000 in
set_option maxHeartbeats 4000000 in
theorem pX7_firstFailure {E : wE} {n : Nat} (hE : wGE E) {C : cR} (x1 : Int)  (m : mR) (ca : caT) : WF E (n + 10) yX7_firstFailure cX7_firstFailure 3 (some .int) vI (fun m : mR => (C, m)) ca 0 (wArgs [.ref (aM E 0), .int (iI x1)]) [] m (fX7_firstFailure x1 m) := by
  unfold fX7_firstFailure
  refine wf_iload_n dX7_firstFailure_0 rfl ?_
  refine wf_bipush dX7_firstFailure_1 ?_
  refine wf_gd (fun g3 => ?_)
  refine wf_icmp_eq 16 dX7_firstFailure_3 g3 (by decide) (fun h3 => ?_) (fun h3 => ?_)
  · exact wf_at (pX7_firstFailure_b16 (n := n) hE  x1 _ _) ⟨rfl, rfl, trivial⟩
  · refine wf_aload_n dX7_firstFailure_6 rfl ?_
    refine wf_iload_n dX7_firstFailure_7 rfl ?_
    refine wf_rV dX7_firstFailure_8 k_RX7_129 b_yX7_isAccount x_yX7_isAccount (fun h hr => pX7_isAccount (n := n + 8) hE hr x1) (fun h hr => rd_mod hr) rfl (fun r8 => ?_)
    refine wf_gd (fun g11 => ?_)
    refine wf_if_ne 16 dX7_firstFailure_11 g11 (fun h11 => ?_) (fun h11 => ?_)
    · exact wf_at (pX7_firstFailure_b16 (n := n) hE  x1 _ _) ⟨rfl, rfl, trivial⟩
    · refine wf_iconst dX7_firstFailure_14 ?_
      exact wf_ireturn dX7_firstFailure_15 ⟨_, rfl, rfl⟩
set_option maxRecDepth 100000 in
set_option maxHeartbeats 4000000 in
theorem pX7_giveUp {E : wE} {n : Nat} (hE : wGE E) {C : cR} (x1 : Int)  (m : mR) (ca : caT) : WF E (n + 2) yX7_giveUp cX7_giveUp 2 (some .int) vI (fun m : mR => (C, m)) ca 0 (wArgs [.ref (aM E 0), .int (iI x1)]) [] m (fX7_giveUp x1 m) := by
  unfold fX7_giveUp
  refine wf_iload_n dX7_giveUp_0 rfl ?_
  refine wf_gd (fun g1 => ?_)
  refine wf_i2l dX7_giveUp_1 g1 ?_
  refine wf_lconst0 dX7_giveUp_2 ?_
  refine wf_aload_n dX7_giveUp_3 rfl ?_
  refine wf_get dX7_giveUp_4 f_RX7_7 (fun h hr => rd_mod hr) ?_
  refine wf_iconst dX7_giveUp_7 ?_
  refine wf_lald dX7_giveUp_8 (g := fun j => m.1 0 j) (by decide) (fun h hr => rd_now hr) ?_
  refine wf_lconst1 dX7_giveUp_9 ?_
  refine wf_lsub dX7_giveUp_10 ?_
  refine wf_rS dX7_giveUp_11 k_RX7_47 b_yX7_isIn x_yX7_isIn (fun h hr => pX7_isIn (n := n + 1) hE x1 0 ((m.1 0 4) - 1)) (fun r11 => ?_)
  refine wf_gd (fun g14 => ?_)
  refine wf_if_ne 19 dX7_giveUp_14 g14 (fun h14 => ?_) (fun h14 => ?_)
  · refine wf_aload_n dX7_giveUp_19 rfl ?_
    refine wf_cV (put := fun q => q) dX7_giveUp_20 k_RX7_70 b_yX7_records x_yX7_records (pX7_records (n := n) hE _ _) rfl (fun _ => rfl) (fun h hr => rd_mod hr) rfl (fun r20 m20 ca => ?_)
    refine wf_aload_n dX7_giveUp_23 rfl ?_
    refine wf_iload_n dX7_giveUp_24 rfl ?_
    refine wf_cV (put := fun q => q) dX7_giveUp_25 k_RX7_228 b_yX7_misses x_yX7_misses (pX7_misses (n := n) hE x1 _ _) rfl (fun _ => rfl) (fun h hr => rd_mod hr) rfl (fun r25 m25 ca => ?_)
    refine wf_aload_n dX7_giveUp_28 rfl ?_
    refine wf_iconst dX7_giveUp_29 ?_
    refine wf_rV dX7_giveUp_30 k_RX7_43 b_yX7_of x_yX7_of (fun h hr => pX7_of (n := n + 1) hE hr 4) (fun h hr => rd_mod hr) rfl (fun r30 => ?_)
    exact wf_ireturn dX7_giveUp_33 ⟨_, rfl, rfl⟩
  · refine wf_iconst dX7_giveUp_17 ?_
    exact wf_ireturn dX7_giveUp_18 ⟨_, rfl, rfl⟩
set_option maxRecDepth 100000 in
set_option maxHeartbeats 4000000 in
theorem pX7_goOn {E : wE} {n : Nat} (hE : wGE E) {C : cR} (x1 : Int)  (m : mR) (ca : caT) : WF E (n + 9) yX7_goOn cX7_goOn 3 (some .int) vI (fun m : mR => (C, m)) ca 0 (wArgs [.ref (aM E 0), .int (iI x1)]) [] m (fX7_goOn x1 m) := by
  unfold fX7_goOn
  refine wf_aload_n dX7_goOn_0 rfl ?_
  refine wf_iload_n dX7_goOn_1 rfl ?_
  refine wf_iconst dX7_goOn_2 ?_
  refine wf_rV dX7_goOn_3 k_RX7_216 b_yX7_checksState x_yX7_checksState (fun h hr => pX7_checksState (n := n + 6) hE hr x1 1) (fun h hr => rd_mod hr) rfl (fun r3 => ?_)
  refine wf_istore_n dX7_goOn_6 ?_
  refine wf_iload_n dX7_goOn_7 rfl ?_
  refine wf_gd (fun g8 => ?_)
  refine wf_if_eq 13 dX7_goOn_8 g8 (fun h8 => ?_) (fun h8 => ?_)
  · refine wf_aload_n dX7_goOn_13 rfl ?_
    refine wf_cV (put := fun q => q) dX7_goOn_14 k_RX7_70 b_yX7_records x_yX7_records (pX7_records (n := n + 7) hE _ _) rfl (fun _ => rfl) (fun h hr => rd_mod hr) rfl (fun r14 m14 ca => ?_)
    refine wf_aload_n dX7_goOn_17 rfl ?_
    refine wf_iload_n dX7_goOn_18 rfl ?_
    refine wf_cV (put := fun q => q) dX7_goOn_19 k_RX7_222 b_yX7_goesOn x_yX7_goesOn (pX7_goesOn (n := n) hE x1 _ _) rfl (fun _ => rfl) (fun h hr => rd_mod hr) rfl (fun r19 m19 ca => ?_)
    exact wf_ireturn dX7_goOn_22 ⟨_, rfl, rfl⟩
  · refine wf_iload_n dX7_goOn_11 rfl ?_
    exact wf_ireturn dX7_goOn_12 ⟨_, rfl, rfl⟩
set_option maxRecDepth 100000 in
set_option maxHeartbeats 4000000 in
theorem pX7_isDay {E : wE} {n : Nat} (hE : wGE E) {h : hW} (x0 : Int)  : WR E (n + 1) yX7_isDay cX7_isDay 1 (some .boolean) vI h 0 (wArgs [.int (iI x0)]) [] (fX7_isDay x0) := by
  unfold fX7_isDay
  refine wr_iload_n dX7_isDay_0 rfl ?_
  refine wr_gd (fun g1 => ?_)
  refine wr_i2l dX7_isDay_1 g1 ?_
  refine wr_lconst0 dX7_isDay_2 ?_
  refine wr_ldc2 dX7_isDay_3 c_RX7_73 ?_
  refine wr_cS dX7_isDay_6 k_RX7_47 b_yX7_isIn x_yX7_isIn (pX7_isIn (n := n) hE x0 0 1094) (fun r6 => ?_)
  refine wr_gd (fun g9 => ?_)
  exact wr_ireturn dX7_isDay_9 ⟨_, rfl, nar_z g9⟩
set_option maxRecDepth 100000 in
set_option maxHeartbeats 4000000 in
theorem pX7_holiday_b184 {E : wE} {n : Nat} (hE : wGE E) {C : cR}   (m : mR) (ca : caT) : WF E (n + 2) yX7_holiday cX7_holiday 5 (some .int) vI (fun m : mR => (C, m)) ca 184 (wLs [some (.ref (aM E 0))]) [] m (fX7_holiday_b184  m) := by
  unfold fX7_holiday_b184
  refine wf_aload_n dX7_holiday_184 rfl ?_
  refine wf_iconst dX7_holiday_185 ?_
  refine wf_rV dX7_holiday_186 k_RX7_43 b_yX7_of x_yX7_of (fun h hr => pX7_of (n := n + 1) hE hr 3) (fun h hr => rd_mod hr) rfl (fun r186 => ?_)
  exact wf_ireturn dX7_holiday_189 ⟨_, rfl, rfl⟩
set_option maxRecDepth 100000 in
set_option maxHeartbeats 4000000 in
theorem pX7_holiday_b113 {E : wE} {n : Nat} (hE : wGE E) {C : cR} : ∀ (fuel : Nat) (x1 : Int) (x4 : Int)  (m : mR) (ca : caT), WF E (n + 2) yX7_holiday cX7_holiday 5 (some .int) vI (fun m : mR => (C, m)) ca 113 (wLs [some (.ref (aM E 0)), some (.int (iI x1)), none, none, some (.int (iI x4))]) [] m (fX7_holiday_b113 fuel x1 x4 m) := by
  intro fuel
  induction fuel with
  | zero =>
    intro x1 x4 m ca
    exact wf_none
  | succ fuel ih =>
    intro x1 x4 m ca
    unfold fX7_holiday_b113
    refine wf_iload dX7_holiday_113 rfl ?_
    refine wf_gd (fun g115 => ?_)
    refine wf_i2l dX7_holiday_115 g115 ?_
    refine wf_aload_n dX7_holiday_116 rfl ?_
    refine wf_get dX7_holiday_117 f_RX7_7 (fun h hr => rd_mod hr) ?_
    refine wf_iconst dX7_holiday_120 ?_
    refine wf_lald dX7_holiday_121 (g := fun j => m.1 0 j) (by decide) (fun h hr => rd_now hr) ?_
    refine wf_gd (fun g122 => ?_)
    refine wf_jcmp_ge 184 dX7_holiday_122 dX7_holiday_123 g122.1 g122.2 (fun h122 => ?_) (fun h122 => ?_)
    · exact wf_at (pX7_holiday_b184 (n := n) hE   _ _) ⟨rfl, trivial⟩
    · refine wf_aload_n dX7_holiday_126 rfl ?_
      refine wf_get dX7_holiday_127 f_RX7_7 (fun h hr => rd_mod hr) ?_
      refine wf_bipush dX7_holiday_130 ?_
      refine wf_iload dX7_holiday_132 rfl ?_
      refine wf_iadd dX7_holiday_134 ?_
      refine wf_aload_n dX7_holiday_135 rfl ?_
      refine wf_get dX7_holiday_136 f_RX7_7 (fun h hr => rd_mod hr) ?_
      refine wf_bipush dX7_holiday_139 ?_
      refine wf_iload dX7_holiday_141 rfl ?_
      refine wf_iadd dX7_holiday_143 ?_
      refine wf_gd (fun g144 => ?_)
      refine wf_lald dX7_holiday_144 (g := fun j => m.1 0 j) g144 (fun h hr => rd_now hr) ?_
      refine wf_iload_n dX7_holiday_145 rfl ?_
      refine wf_gd (fun g146 => ?_)
      refine wf_i2l dX7_holiday_146 g146 ?_
      refine wf_gd (fun g147 => ?_)
      refine wf_jcmp_ne 167 dX7_holiday_147 dX7_holiday_148 g147.1 g147.2 (fun h147 => ?_) (fun h147 => ?_)
      · refine wf_aload_n dX7_holiday_167 rfl ?_
        refine wf_get dX7_holiday_168 f_RX7_7 (fun h hr => rd_mod hr) ?_
        refine wf_bipush dX7_holiday_171 ?_
        refine wf_iload dX7_holiday_173 rfl ?_
        refine wf_iadd dX7_holiday_175 ?_
        refine wf_gd (fun g176 => ?_)
        refine wf_lald dX7_holiday_176 (g := fun j => m.1 0 j) g176 (fun h hr => rd_now hr) ?_
        refine wf_gd (fun g177 => ?_)
        refine wf_s_now dX7_holiday_177 g177 (fun m177 => ?_)
        refine wf_iinc dX7_holiday_178 rfl ?_
        refine wf_goto 113 dX7_holiday_181 ?_
        exact wf_at (ih x1 (x4 + 1) _ _) ⟨rfl, rfl, rfl, trivial⟩
      · refine wf_aload_n dX7_holiday_151 rfl ?_
        refine wf_get dX7_holiday_152 f_RX7_7 (fun h hr => rd_mod hr) ?_
        refine wf_bipush dX7_holiday_155 ?_
        refine wf_aload_n dX7_holiday_157 rfl ?_
        refine wf_iconst dX7_holiday_158 ?_
        refine wf_rV dX7_holiday_159 k_RX7_43 b_yX7_of x_yX7_of (fun h hr => pX7_of (n := n + 1) hE hr 3) (fun h hr => rd_mod hr) rfl (fun r159 => ?_)
        refine wf_iadd dX7_holiday_162 ?_
        refine wf_gd (fun g163 => ?_)
        refine wf_lald dX7_holiday_163 (g := fun j => m.1 0 j) g163 (fun h hr => rd_now hr) ?_
        refine wf_goto 177 dX7_holiday_164 ?_
        refine wf_gd (fun g177 => ?_)
        refine wf_s_now dX7_holiday_177 g177 (fun m177 => ?_)
        refine wf_iinc dX7_holiday_178 rfl ?_
        refine wf_goto 113 dX7_holiday_181 ?_
        exact wf_at (ih x1 (x4 + 1) _ _) ⟨rfl, rfl, rfl, trivial⟩
set_option maxRecDepth 100000 in
set_option maxHeartbeats 4000000 in
theorem pX7_holiday_b92 {E : wE} {n : Nat} (hE : wGE E) {C : cR} (x1 : Int) (x2 : Int) (x3 : Int)  (m : mR) (ca : caT) : WF E (n + 2) yX7_holiday cX7_holiday 5 (some .int) vI (fun m : mR => (C, m)) ca 92 (wLs [some (.ref (aM E 0)), some (.int (iI x1)), some (.int (iI x2)), some (.int (iI x3))]) [] m (fX7_holiday_b92 x1 x2 x3 m) := by
  unfold fX7_holiday_b92
  refine wf_iload_n dX7_holiday_92 rfl ?_
  refine wf_gd (fun g93 => ?_)
  refine wf_if_ne 184 dX7_holiday_93 g93 (fun h93 => ?_) (fun h93 => ?_)
  · exact wf_at (pX7_holiday_b184 (n := n) hE   _ _) ⟨rfl, trivial⟩
  · refine wf_iload_n dX7_holiday_96 rfl ?_
    refine wf_gd (fun g97 => ?_)
    refine wf_if_eq 184 dX7_holiday_97 g97 (fun h97 => ?_) (fun h97 => ?_)
    · exact wf_at (pX7_holiday_b184 (n := n) hE   _ _) ⟨rfl, trivial⟩
    · refine wf_aload_n dX7_holiday_100 rfl ?_
      refine wf_get dX7_holiday_101 f_RX7_7 (fun h hr => rd_mod hr) ?_
      refine wf_iconst dX7_holiday_104 ?_
      refine wf_dup2 dX7_holiday_105 ?_
      refine wf_lald dX7_holiday_106 (g := fun j => m.1 0 j) (by decide) (fun h hr => rd_now hr) ?_
      refine wf_lconst1 dX7_holiday_107 ?_
      refine wf_lsub dX7_holiday_108 ?_
      refine wf_s_now dX7_holiday_109 (by decide) (fun m109 => ?_)
      refine wf_iconst dX7_holiday_110 ?_
      refine wf_istore dX7_holiday_111 ?_
      exact wf_at (pX7_holiday_b113 (n := n) hE  fuel0 x1 0 _ _) ⟨rfl, rfl, rfl, trivial⟩
set_option maxRecDepth 100000 in
set_option maxHeartbeats 4000000 in
theorem pX7_holiday_b51 {E : wE} {n : Nat} (hE : wGE E) {C : cR} (x1 : Int) (x2 : Int) (x3 : Int)  (m : mR) (ca : caT) : WF E (n + 2) yX7_holiday cX7_holiday 5 (some .int) vI (fun m : mR => (C, m)) ca 51 (wLs [some (.ref (aM E 0)), some (.int (iI x1)), some (.int (iI x2)), some (.int (iI x3))]) [] m (fX7_holiday_b51 x1 x2 x3 m) := by
  unfold fX7_holiday_b51
  refine wf_aload_n dX7_holiday_51 rfl ?_
  refine wf_cV (put := fun q => q) dX7_holiday_52 k_RX7_70 b_yX7_records x_yX7_records (pX7_records (n := n) hE _ _) rfl (fun _ => rfl) (fun h hr => rd_mod hr) rfl (fun r52 m52 ca => ?_)
  refine wf_iload_n dX7_holiday_55 rfl ?_
  refine wf_iconst dX7_holiday_56 ?_
  refine wf_gd (fun g57 => ?_)
  refine wf_icmp_ne 92 dX7_holiday_57 g57 (by decide) (fun h57 => ?_) (fun h57 => ?_)
  · exact wf_at (pX7_holiday_b92 (n := n) hE  x1 x2 x3 _ _) ⟨rfl, rfl, rfl, rfl, trivial⟩
  · refine wf_iload_n dX7_holiday_60 rfl ?_
    refine wf_gd (fun g61 => ?_)
    refine wf_if_ne 92 dX7_holiday_61 g61 (fun h61 => ?_) (fun h61 => ?_)
    · exact wf_at (pX7_holiday_b92 (n := n) hE  x1 x2 x3 _ _) ⟨rfl, rfl, rfl, rfl, trivial⟩
    · refine wf_aload_n dX7_holiday_64 rfl ?_
      refine wf_get dX7_holiday_65 f_RX7_7 (fun h hr => rd_mod hr) ?_
      refine wf_bipush dX7_holiday_68 ?_
      refine wf_aload_n dX7_holiday_70 rfl ?_
      refine wf_iconst dX7_holiday_71 ?_
      refine wf_rV dX7_holiday_72 k_RX7_43 b_yX7_of x_yX7_of (fun h hr => pX7_of (n := n + 1) hE hr 3) (fun h hr => rd_mod hr) rfl (fun r72 => ?_)
      refine wf_iadd dX7_holiday_75 ?_
      refine wf_iload_n dX7_holiday_76 rfl ?_
      refine wf_gd (fun g77 => ?_)
      refine wf_i2l dX7_holiday_77 g77 ?_
      refine wf_gd (fun g78 => ?_)
      refine wf_s_now dX7_holiday_78 g78 (fun m78 => ?_)
      refine wf_aload_n dX7_holiday_79 rfl ?_
      refine wf_get dX7_holiday_80 f_RX7_7 (fun h hr => rd_mod hr) ?_
      refine wf_iconst dX7_holiday_83 ?_
      refine wf_dup2 dX7_holiday_84 ?_
      refine wf_lald dX7_holiday_85 (g := fun j => m78.1 0 j) (by decide) (fun h hr => rd_now hr) ?_
      refine wf_lconst1 dX7_holiday_86 ?_
      refine wf_ladd dX7_holiday_87 ?_
      refine wf_s_now dX7_holiday_88 (by decide) (fun m88 => ?_)
      refine wf_goto 184 dX7_holiday_89 ?_
      exact wf_at (pX7_holiday_b184 (n := n) hE   _ _) ⟨rfl, trivial⟩
set_option maxRecDepth 100000 in
set_option maxHeartbeats 4000000 in
theorem pX7_holiday {E : wE} {n : Nat} (hE : wGE E) {C : cR} (x1 : Int) (x2 : Int)  (m : mR) (ca : caT) : WF E (n + 2) yX7_holiday cX7_holiday 5 (some .int) vI (fun m : mR => (C, m)) ca 0 (wArgs [.ref (aM E 0), .int (iI x1), .int (iI x2)]) [] m (fX7_holiday x1 x2 m) := by
  unfold fX7_holiday
  refine wf_iload_n dX7_holiday_0 rfl ?_
  refine wf_rS dX7_holiday_1 k_RX7_91 b_yX7_isDay x_yX7_isDay (fun h hr => pX7_isDay (n := n) hE x1) (fun r1 => ?_)
  refine wf_gd (fun g4 => ?_)
  refine wf_if_eq 17 dX7_holiday_4 g4 (fun h4 => ?_) (fun h4 => ?_)
  · refine wf_bipush dX7_holiday_17 ?_
    exact wf_ireturn dX7_holiday_19 ⟨_, rfl, rfl⟩
  · refine wf_iload_n dX7_holiday_7 rfl ?_
    refine wf_gd (fun g8 => ?_)
    refine wf_i2l dX7_holiday_8 g8 ?_
    refine wf_lconst0 dX7_holiday_9 ?_
    refine wf_lconst1 dX7_holiday_10 ?_
    refine wf_rS dX7_holiday_11 k_RX7_47 b_yX7_isIn x_yX7_isIn (fun h hr => pX7_isIn (n := n + 1) hE x2 0 1) (fun r11 => ?_)
    refine wf_gd (fun g14 => ?_)
    refine wf_if_ne 20 dX7_holiday_14 g14 (fun h14 => ?_) (fun h14 => ?_)
    · refine wf_aload_n dX7_holiday_20 rfl ?_
      refine wf_iload_n dX7_holiday_21 rfl ?_
      refine wf_rV dX7_holiday_22 k_RX7_84 b_yX7_isHoliday x_yX7_isHoliday (fun h hr => pX7_isHoliday (n := n + 1) hE hr x1) (fun h hr => rd_mod hr) rfl (fun r22 => ?_)
      refine wf_istore_n dX7_holiday_25 ?_
      refine wf_iload_n dX7_holiday_26 rfl ?_
      refine wf_iconst dX7_holiday_27 ?_
      refine wf_gd (fun g28 => ?_)
      refine wf_icmp_ne 51 dX7_holiday_28 g28 (by decide) (fun h28 => ?_) (fun h28 => ?_)
      · exact wf_at (pX7_holiday_b51 (n := n) hE  x1 x2 r22 _ _) ⟨rfl, rfl, rfl, rfl, trivial⟩
      · refine wf_iload_n dX7_holiday_31 rfl ?_
        refine wf_gd (fun g32 => ?_)
        refine wf_if_ne 51 dX7_holiday_32 g32 (fun h32 => ?_) (fun h32 => ?_)
        · exact wf_at (pX7_holiday_b51 (n := n) hE  x1 x2 r22 _ _) ⟨rfl, rfl, rfl, rfl, trivial⟩
        · refine wf_aload_n dX7_holiday_35 rfl ?_
          refine wf_get dX7_holiday_36 f_RX7_7 (fun h hr => rd_mod hr) ?_
          refine wf_iconst dX7_holiday_39 ?_
          refine wf_lald dX7_holiday_40 (g := fun j => m.1 0 j) (by decide) (fun h hr => rd_now hr) ?_
          refine wf_ldc2 dX7_holiday_41 c_RX7_121 ?_
          refine wf_gd (fun g44 => ?_)
          refine wf_jcmp_ne 51 dX7_holiday_44 dX7_holiday_45 g44 (by decide) (fun h44 => ?_) (fun h44 => ?_)
          · exact wf_at (pX7_holiday_b51 (n := n) hE  x1 x2 r22 _ _) ⟨rfl, rfl, rfl, rfl, trivial⟩
          · refine wf_bipush dX7_holiday_48 ?_
            exact wf_ireturn dX7_holiday_50 ⟨_, rfl, rfl⟩
    · refine wf_bipush dX7_holiday_17 ?_
      exact wf_ireturn dX7_holiday_19 ⟨_, rfl, rfl⟩
set_option maxRecDepth 100000 in
set_option maxHeartbeats 4000000 in
theorem pX7_isSetting {E : wE} {n : Nat} (hE : wGE E) {C : cR} {m : mR} {ca : caT} {h : hW} (hr : rep E (C, m) ca h) (x1 : Int) (x2 : Int)  : WR E (n + 1) yX7_isSetting cX7_isSetting 3 (some .boolean) vI h 0 (wArgs [.ref (aM E 0), .int (iI x1), .int (iI x2)]) [] (fX7_isSetting x1 x2 m) := by
  unfold fX7_isSetting
  refine wr_iload_n dX7_isSetting_0 rfl ?_
  refine wr_gd (fun g1 => ?_)
  refine wr_ite (fun e1_0 => ?_) (fun e1_0 => ?_)
  · refine wr_tsK 0 28 dX7_isSetting_1 e1_0 ?_
    refine wr_iload_n dX7_isSetting_28 rfl ?_
    refine wr_gd (fun g29 => ?_)
    refine wr_i2l dX7_isSetting_29 g29 ?_
    refine wr_lconst1 dX7_isSetting_30 ?_
    refine wr_ldc2 dX7_isSetting_31 c_RX7_109 ?_
    refine wr_cS dX7_isSetting_34 k_RX7_47 b_yX7_isIn x_yX7_isIn (pX7_isIn (n := n) hE x2 1 9) (fun r34 => ?_)
    refine wr_gd (fun g37 => ?_)
    exact wr_ireturn dX7_isSetting_37 ⟨_, rfl, nar_z g37⟩
  refine wr_ite (fun e1_1 => ?_) (fun e1_1 => ?_)
  · refine wr_tsK 1 38 dX7_isSetting_1 e1_1 ?_
    refine wr_iload_n dX7_isSetting_38 rfl ?_
    refine wr_gd (fun g39 => ?_)
    refine wr_i2l dX7_isSetting_39 g39 ?_
    refine wr_lconst0 dX7_isSetting_40 ?_
    refine wr_ldc2 dX7_isSetting_41 c_RX7_111 ?_
    refine wr_cS dX7_isSetting_44 k_RX7_47 b_yX7_isIn x_yX7_isIn (pX7_isIn (n := n) hE x2 0 10000) (fun r44 => ?_)
    refine wr_gd (fun g47 => ?_)
    exact wr_ireturn dX7_isSetting_47 ⟨_, rfl, nar_z g47⟩
  refine wr_ite (fun e1_2 => ?_) (fun e1_2 => ?_)
  · refine wr_tsK 2 48 dX7_isSetting_1 e1_2 ?_
    refine wr_iload_n dX7_isSetting_48 rfl ?_
    refine wr_gd (fun g49 => ?_)
    refine wr_i2l dX7_isSetting_49 g49 ?_
    refine wr_lconst0 dX7_isSetting_50 ?_
    refine wr_ldc2 dX7_isSetting_51 c_RX7_113 ?_
    refine wr_cS dX7_isSetting_54 k_RX7_47 b_yX7_isIn x_yX7_isIn (pX7_isIn (n := n) hE x2 0 1000) (fun r54 => ?_)
    refine wr_gd (fun g57 => ?_)
    exact wr_ireturn dX7_isSetting_57 ⟨_, rfl, nar_z g57⟩
  refine wr_tsOut (z := x1) 58 dX7_isSetting_1 g1 (by omega) ?_
  refine wr_iload_n dX7_isSetting_58 rfl ?_
  refine wr_iconst dX7_isSetting_59 ?_
  refine wr_gd (fun g60 => ?_)
  refine wr_icmp_ne 79 dX7_isSetting_60 g60 (by decide) (fun h60 => ?_) (fun h60 => ?_)
  · refine wr_iconst dX7_isSetting_79 ?_
    exact wr_ireturn dX7_isSetting_80 ⟨_, rfl, rfl⟩
  · refine wr_iload_n dX7_isSetting_63 rfl ?_
    refine wr_gd (fun g64 => ?_)
    refine wr_i2l dX7_isSetting_64 g64 ?_
    refine wr_lconst0 dX7_isSetting_65 ?_
    refine wr_ldc2 dX7_isSetting_66 c_RX7_115 ?_
    refine wr_cS dX7_isSetting_69 k_RX7_47 b_yX7_isIn x_yX7_isIn (pX7_isIn (n := n) hE x2 0 6) (fun r69 => ?_)
    refine wr_gd (fun g72 => ?_)
    refine wr_if_eq 79 dX7_isSetting_72 g72 (fun h72 => ?_) (fun h72 => ?_)
    · refine wr_iconst dX7_isSetting_79 ?_
      exact wr_ireturn dX7_isSetting_80 ⟨_, rfl, rfl⟩
    · refine wr_iconst dX7_isSetting_75 ?_
      refine wr_goto 80 dX7_isSetting_76 ?_
      exact wr_ireturn dX7_isSetting_80 ⟨_, rfl, rfl⟩
set_option maxRecDepth 100000 in
set_option maxHeartbeats 4000000 in
theorem pX7_leastDeposit_b27 {E : wE} {n : Nat} (hE : wGE E) {C : cR} : ∀ (fuel : Nat) (x1 : Int) (x2 : Int) (x3 : Int)  (m : mR) (ca : caT), WF E (n + 10) yX7_leastDeposit cX7_leastDeposit 5 (some .int) vI (fun m : mR => (C, m)) ca 27 (wLs [some (.ref (aM E 0)), some (.int (iI x1)), some (.int (iI x2)), some (.int (iI x3))]) [] m (fX7_leastDeposit_b27 fuel x1 x2 x3 m) := by
  intro fuel
  induction fuel with
  | zero =>
    intro x1 x2 x3 m ca
    exact wf_none
  | succ fuel ih =>
    intro x1 x2 x3 m ca
    unfold fX7_leastDeposit_b27
    refine wf_iload_n dX7_leastDeposit_27 rfl ?_
    refine wf_ldcw dX7_leastDeposit_28 c_RX7_306 ?_
    refine wf_gd (fun g31 => ?_)
    refine wf_icmp_gt 82 dX7_leastDeposit_31 g31 (by decide) (fun h31 => ?_) (fun h31 => ?_)
    · refine wf_bipush dX7_leastDeposit_82 ?_
      exact wf_ireturn dX7_leastDeposit_84 ⟨_, rfl, rfl⟩
    · refine wf_aload_n dX7_leastDeposit_34 rfl ?_
      refine wf_bipush dX7_leastDeposit_35 ?_
      refine wf_cV (put := fun q => q) dX7_leastDeposit_37 k_RX7_59 b_yX7_keeps x_yX7_keeps (pX7_keeps (n := n + 9) hE 8 _ _) rfl (fun _ => rfl) (fun h hr => rd_mod hr) rfl (fun r37 m37 ca => ?_)
      refine wf_aload_n dX7_leastDeposit_40 rfl ?_
      refine wf_iload_n dX7_leastDeposit_41 rfl ?_
      refine wf_iconst dX7_leastDeposit_42 ?_
      refine wf_iload_n dX7_leastDeposit_43 rfl ?_
      refine wf_gd (fun g44 => ?_)
      refine wf_i2l dX7_leastDeposit_44 g44 ?_
      refine wf_cV (put := fun q => q) dX7_leastDeposit_45 k_RX7_137 b_yX7_moves x_yX7_moves (pX7_moves (n := n + 9) hE x1 0 x3 _ _) rfl (fun _ => rfl) (fun h hr => rd_mod hr) rfl (fun r45 m45 ca => ?_)
      refine wf_aload_n dX7_leastDeposit_48 rfl ?_
      refine wf_iconst dX7_leastDeposit_49 ?_
      refine wf_iload_n dX7_leastDeposit_50 rfl ?_
      refine wf_ishl dX7_leastDeposit_51 ?_
      refine wf_iload_n dX7_leastDeposit_52 rfl ?_
      refine wf_cV (put := fun q => q) dX7_leastDeposit_53 k_RX7_301 b_yX7_failsIn x_yX7_failsIn (pX7_failsIn (n := n) hE (shlI 1 x1) x2 _ _) rfl (fun _ => rfl) (fun h hr => rd_mod hr) rfl (fun r53 m53 ca => ?_)
      refine wf_istore dX7_leastDeposit_56 ?_
      refine wf_aload_n dX7_leastDeposit_58 rfl ?_
      refine wf_bipush dX7_leastDeposit_59 ?_
      refine wf_cV (put := fun q => q) dX7_leastDeposit_61 k_RX7_63 b_yX7_brings x_yX7_brings (pX7_brings (n := n + 9) hE 8 _ _) rfl (fun _ => rfl) (fun h hr => rd_mod hr) rfl (fun r61 m61 ca => ?_)
      refine wf_iload dX7_leastDeposit_64 rfl ?_
      refine wf_bipush dX7_leastDeposit_66 ?_
      refine wf_gd (fun g68 => ?_)
      refine wf_icmp_ne 73 dX7_leastDeposit_68 g68 (by decide) (fun h68 => ?_) (fun h68 => ?_)
      · refine wf_iincW dX7_leastDeposit_73 rfl ?_
        refine wf_goto 27 dX7_leastDeposit_79 ?_
        exact wf_at (ih x1 x2 (x3 + 5000) _ _) ⟨rfl, rfl, rfl, rfl, trivial⟩
      · refine wf_iload_n dX7_leastDeposit_71 rfl ?_
        exact wf_ireturn dX7_leastDeposit_72 ⟨_, rfl, rfl⟩
set_option maxRecDepth 100000 in
set_option maxHeartbeats 4000000 in
theorem pX7_leastDeposit {E : wE} {n : Nat} (hE : wGE E) {C : cR} (x1 : Int) (x2 : Int)  (m : mR) (ca : caT) : WF E (n + 10) yX7_leastDeposit cX7_leastDeposit 5 (some .int) vI (fun m : mR => (C, m)) ca 0 (wArgs [.ref (aM E 0), .int (iI x1), .int (iI x2)]) [] m (fX7_leastDeposit x1 x2 m) := by
  unfold fX7_leastDeposit
  refine wf_aload_n dX7_leastDeposit_0 rfl ?_
  refine wf_iload_n dX7_leastDeposit_1 rfl ?_
  refine wf_rV dX7_leastDeposit_2 k_RX7_129 b_yX7_isAccount x_yX7_isAccount (fun h hr => pX7_isAccount (n := n + 8) hE hr x1) (fun h hr => rd_mod hr) rfl (fun r2 => ?_)
  refine wf_gd (fun g5 => ?_)
  refine wf_if_ne 10 dX7_leastDeposit_5 g5 (fun h5 => ?_) (fun h5 => ?_)
  · refine wf_iload_n dX7_leastDeposit_10 rfl ?_
    refine wf_gd (fun g11 => ?_)
    refine wf_i2l dX7_leastDeposit_11 g11 ?_
    refine wf_lconst1 dX7_leastDeposit_12 ?_
    refine wf_ldc2 dX7_leastDeposit_13 c_RX7_304 ?_
    refine wf_rS dX7_leastDeposit_16 k_RX7_47 b_yX7_isIn x_yX7_isIn (fun h hr => pX7_isIn (n := n + 9) hE x2 1 100) (fun r16 => ?_)
    refine wf_gd (fun g19 => ?_)
    refine wf_if_ne 25 dX7_leastDeposit_19 g19 (fun h19 => ?_) (fun h19 => ?_)
    · refine wf_iconst dX7_leastDeposit_25 ?_
      refine wf_istore_n dX7_leastDeposit_26 ?_
      exact wf_at (pX7_leastDeposit_b27 (n := n) hE  fuel0 x1 x2 0 _ _) ⟨rfl, rfl, rfl, rfl, trivial⟩
    · refine wf_bipush dX7_leastDeposit_22 ?_
      exact wf_ireturn dX7_leastDeposit_24 ⟨_, rfl, rfl⟩
  · refine wf_iconst dX7_leastDeposit_8 ?_
    exact wf_ireturn dX7_leastDeposit_9 ⟨_, rfl, rfl⟩
set_option maxRecDepth 100000 in
set_option maxHeartbeats 4000000 in
theorem pX7_money {E : wE} {n : Nat} (hE : wGE E) {C : cR} {m : mR} {ca : caT} {h : hW} (hr : rep E (C, m) ca h) (x1 : Int) (x2 : Int)  : WR E (n + 3) yX7_money cX7_money 3 (some .long) vJ h 0 (wArgs [.ref (aM E 0), .int (iI x1), .int (iI x2)]) [] (fX7_money x1 x2 m) := by
  unfold fX7_money
  refine wr_aload_n dX7_money_0 rfl ?_
  refine wr_iload_n dX7_money_1 rfl ?_
  refine wr_cV dX7_money_2 k_RX7_129 b_yX7_isAccount x_yX7_isAccount (pX7_isAccount (n := n + 1) hE hr x1) (rd_mod hr) rfl (fun r2 => ?_)
  refine wr_gd (fun g5 => ?_)
  refine wr_if_ne 12 dX7_money_5 g5 (fun h5 => ?_) (fun h5 => ?_)
  · refine wr_iload_n dX7_money_12 rfl ?_
    refine wr_gd (fun g13 => ?_)
    refine wr_i2l dX7_money_13 g13 ?_
    refine wr_lconst0 dX7_money_14 ?_
    refine wr_ldc2 dX7_money_15 c_RX7_125 ?_
    refine wr_cS dX7_money_18 k_RX7_47 b_yX7_isIn x_yX7_isIn (pX7_isIn (n := n + 2) hE x2 0 8) (fun r18 => ?_)
    refine wr_gd (fun g21 => ?_)
    refine wr_if_ne 28 dX7_money_21 g21 (fun h21 => ?_) (fun h21 => ?_)
    · refine wr_iload_n dX7_money_28 rfl ?_
      refine wr_bipush dX7_money_29 ?_
      refine wr_gd (fun g31 => ?_)
      refine wr_icmp_ne 42 dX7_money_31 g31 (by decide) (fun h31 => ?_) (fun h31 => ?_)
      · refine wr_aload_n dX7_money_42 rfl ?_
        refine wr_iload_n dX7_money_43 rfl ?_
        refine wr_iload_n dX7_money_44 rfl ?_
        refine wr_cV dX7_money_45 k_RX7_141 b_yX7_moneyOf x_yX7_moneyOf (pX7_moneyOf (n := n + 2) hE hr x1 x2) (rd_mod hr) rfl (fun r45 => ?_)
        exact wr_lreturn dX7_money_48 rfl
      · refine wr_aload_n dX7_money_34 rfl ?_
        refine wr_iload_n dX7_money_35 rfl ?_
        refine wr_cV dX7_money_36 k_RX7_234 b_yX7_waitsFor x_yX7_waitsFor (pX7_waitsFor (n := n) hE hr x1) (rd_mod hr) rfl (fun r36 => ?_)
        refine wr_goto 48 dX7_money_39 ?_
        exact wr_lreturn dX7_money_48 rfl
    · refine wr_ldc2 dX7_money_24 c_RX7_280 ?_
      exact wr_lreturn dX7_money_27 rfl
  · refine wr_ldc2 dX7_money_8 c_RX7_278 ?_
    exact wr_lreturn dX7_money_11 rfl
set_option maxRecDepth 100000 in
set_option maxHeartbeats 4000000 in
theorem pX7_ofDay {E : wE} {n : Nat} (hE : wGE E) {C : cR} {m : mR} {ca : caT} {h : hW} (hr : rep E (C, m) ca h) (x1 : Int) (x2 : Int)  : WR E (n + 4) yX7_ofDay cX7_ofDay 3 (some .int) vI h 0 (wArgs [.ref (aM E 0), .int (iI x1), .int (iI x2)]) [] (fX7_ofDay x1 x2 m) := by
  unfold fX7_ofDay
  refine wr_iload_n dX7_ofDay_0 rfl ?_
  refine wr_cS dX7_ofDay_1 k_RX7_91 b_yX7_isDay x_yX7_isDay (pX7_isDay (n := n + 2) hE x1) (fun r1 => ?_)
  refine wr_gd (fun g4 => ?_)
  refine wr_if_ne 10 dX7_ofDay_4 g4 (fun h4 => ?_) (fun h4 => ?_)
  · refine wr_iload_n dX7_ofDay_10 rfl ?_
    refine wr_gd (fun g11 => ?_)
    refine wr_ite (fun e11_0 => ?_) (fun e11_0 => ?_)
    · refine wr_tsK 0 48 dX7_ofDay_11 e11_0 ?_
      refine wr_aload_n dX7_ofDay_48 rfl ?_
      refine wr_iload_n dX7_ofDay_49 rfl ?_
      refine wr_cV dX7_ofDay_50 k_RX7_81 b_yX7_weekdayOf x_yX7_weekdayOf (pX7_weekdayOf (n := n + 2) hE hr x1) (rd_mod hr) rfl (fun r50 => ?_)
      exact wr_ireturn dX7_ofDay_53 ⟨_, rfl, rfl⟩
    refine wr_ite (fun e11_1 => ?_) (fun e11_1 => ?_)
    · refine wr_tsK 1 54 dX7_ofDay_11 e11_1 ?_
      refine wr_iload_n dX7_ofDay_54 rfl ?_
      refine wr_cS dX7_ofDay_55 k_RX7_94 b_yX7_monthOf x_yX7_monthOf (pX7_monthOf (n := n + 1) hE x1) (fun r55 => ?_)
      exact wr_ireturn dX7_ofDay_58 ⟨_, rfl, rfl⟩
    refine wr_ite (fun e11_2 => ?_) (fun e11_2 => ?_)
    · refine wr_tsK 2 59 dX7_ofDay_11 e11_2 ?_
      refine wr_iload_n dX7_ofDay_59 rfl ?_
      refine wr_iload_n dX7_ofDay_60 rfl ?_
      refine wr_cS dX7_ofDay_61 k_RX7_94 b_yX7_monthOf x_yX7_monthOf (pX7_monthOf (n := n + 1) hE x1) (fun r61 => ?_)
      refine wr_cS dX7_ofDay_64 k_RX7_78 b_yX7_monthStart x_yX7_monthStart (pX7_monthStart (n := n + 2) hE r61) (fun r64 => ?_)
      refine wr_isub dX7_ofDay_67 ?_
      refine wr_iconst dX7_ofDay_68 ?_
      refine wr_iadd dX7_ofDay_69 ?_
      exact wr_ireturn dX7_ofDay_70 ⟨_, rfl, rfl⟩
    refine wr_ite (fun e11_3 => ?_) (fun e11_3 => ?_)
    · refine wr_tsK 3 71 dX7_ofDay_11 e11_3 ?_
      refine wr_aload_n dX7_ofDay_71 rfl ?_
      refine wr_iload_n dX7_ofDay_72 rfl ?_
      refine wr_cV dX7_ofDay_73 k_RX7_88 b_yX7_isBusiness x_yX7_isBusiness (pX7_isBusiness (n := n + 1) hE hr x1) (rd_mod hr) rfl (fun r73 => ?_)
      refine wr_gd (fun g76 => ?_)
      refine wr_if_eq 83 dX7_ofDay_76 g76 (fun h76 => ?_) (fun h76 => ?_)
      · refine wr_iconst dX7_ofDay_83 ?_
        exact wr_ireturn dX7_ofDay_84 ⟨_, rfl, rfl⟩
      · refine wr_iconst dX7_ofDay_79 ?_
        refine wr_goto 84 dX7_ofDay_80 ?_
        exact wr_ireturn dX7_ofDay_84 ⟨_, rfl, rfl⟩
    refine wr_ite (fun e11_4 => ?_) (fun e11_4 => ?_)
    · refine wr_tsK 4 85 dX7_ofDay_11 e11_4 ?_
      refine wr_aload_n dX7_ofDay_85 rfl ?_
      refine wr_iload_n dX7_ofDay_86 rfl ?_
      refine wr_cV dX7_ofDay_87 k_RX7_97 b_yX7_nextBusiness x_yX7_nextBusiness (pX7_nextBusiness (n := n) hE hr x1) (rd_mod hr) rfl (fun r87 => ?_)
      exact wr_ireturn dX7_ofDay_90 ⟨_, rfl, rfl⟩
    refine wr_ite (fun e11_5 => ?_) (fun e11_5 => ?_)
    · refine wr_tsK 5 91 dX7_ofDay_11 e11_5 ?_
      refine wr_aload_n dX7_ofDay_91 rfl ?_
      refine wr_iload_n dX7_ofDay_92 rfl ?_
      refine wr_cV dX7_ofDay_93 k_RX7_100 b_yX7_lastBusiness x_yX7_lastBusiness (pX7_lastBusiness (n := n) hE hr x1) (rd_mod hr) rfl (fun r93 => ?_)
      exact wr_ireturn dX7_ofDay_96 ⟨_, rfl, rfl⟩
    refine wr_tsOut (z := x2) 97 dX7_ofDay_11 g11 (by omega) ?_
    refine wr_bipush dX7_ofDay_97 ?_
    exact wr_ireturn dX7_ofDay_99 ⟨_, rfl, rfl⟩
  · refine wr_bipush dX7_ofDay_7 ?_
    exact wr_ireturn dX7_ofDay_9 ⟨_, rfl, rfl⟩
set_option maxRecDepth 100000 in
set_option maxHeartbeats 4000000 in
theorem pX7_ofOrder_b106 {E : wE} {n : Nat} (hE : wGE E) {C : cR} {m : mR} {ca : caT} {h : hW} (hr : rep E (C, m) ca h) (x1 : Int) (t0 : Int)  : WR E (n + 7) yX7_ofOrder cX7_ofOrder 4 (some .int) vI h 106 (wLs [some (.ref (aM E 0)), some (.int (iI x1))]) [.int (iI t0)] (fX7_ofOrder_b106 m x1 t0) := by
  unfold fX7_ofOrder_b106
  refine wr_istore_n dX7_ofOrder_106 ?_
  refine wr_iload_n dX7_ofOrder_107 rfl ?_
  refine wr_bipush dX7_ofOrder_108 ?_
  refine wr_gd (fun g110 => ?_)
  refine wr_icmp_ne 118 dX7_ofOrder_110 g110 (by decide) (fun h110 => ?_) (fun h110 => ?_)
  · refine wr_aload_n dX7_ofOrder_118 rfl ?_
    refine wr_iload_n dX7_ofOrder_119 rfl ?_
    refine wr_iload_n dX7_ofOrder_120 rfl ?_
    refine wr_cV dX7_ofOrder_121 k_RX7_160 b_yX7_nominal x_yX7_nominal (pX7_nominal (n := n + 1) hE hr x1 t0) (rd_mod hr) rfl (fun r121 => ?_)
    exact wr_ireturn dX7_ofOrder_124 ⟨_, rfl, rfl⟩
  · refine wr_bipush dX7_ofOrder_113 ?_
    refine wr_goto 124 dX7_ofOrder_115 ?_
    exact wr_ireturn dX7_ofOrder_124 ⟨_, rfl, rfl⟩
set_option maxRecDepth 100000 in
set_option maxHeartbeats 4000000 in
theorem pX7_ofOrder {E : wE} {n : Nat} (hE : wGE E) {C : cR} {m : mR} {ca : caT} {h : hW} (hr : rep E (C, m) ca h) (x1 : Int) (x2 : Int)  : WR E (n + 7) yX7_ofOrder cX7_ofOrder 4 (some .int) vI h 0 (wArgs [.ref (aM E 0), .int (iI x1), .int (iI x2)]) [] (fX7_ofOrder x1 x2 m) := by
  unfold fX7_ofOrder
  refine wr_aload_n dX7_ofOrder_0 rfl ?_
  refine wr_iload_n dX7_ofOrder_1 rfl ?_
  refine wr_cV dX7_ofOrder_2 k_RX7_173 b_yX7_isOrder x_yX7_isOrder (pX7_isOrder (n := n + 5) hE hr x1) (rd_mod hr) rfl (fun r2 => ?_)
  refine wr_gd (fun g5 => ?_)
  refine wr_if_ne 10 dX7_ofOrder_5 g5 (fun h5 => ?_) (fun h5 => ?_)
  · refine wr_iload_n dX7_ofOrder_10 rfl ?_
    refine wr_gd (fun g11 => ?_)
    refine wr_i2l dX7_ofOrder_11 g11 ?_
    refine wr_lconst0 dX7_ofOrder_12 ?_
    refine wr_ldc2 dX7_ofOrder_13 c_RX7_292 ?_
    refine wr_cS dX7_ofOrder_16 k_RX7_47 b_yX7_isIn x_yX7_isIn (pX7_isIn (n := n + 6) hE x2 0 15) (fun r16 => ?_)
    refine wr_gd (fun g19 => ?_)
    refine wr_if_ne 25 dX7_ofOrder_19 g19 (fun h19 => ?_) (fun h19 => ?_)
    · refine wr_iload_n dX7_ofOrder_25 rfl ?_
      refine wr_iconst dX7_ofOrder_26 ?_
      refine wr_gd (fun g27 => ?_)
      refine wr_icmp_ne 53 dX7_ofOrder_27 g27 (by decide) (fun h27 => ?_) (fun h27 => ?_)
      · refine wr_iload_n dX7_ofOrder_53 rfl ?_
        refine wr_bipush dX7_ofOrder_54 ?_
        refine wr_gd (fun g56 => ?_)
        refine wr_icmp_ne 65 dX7_ofOrder_56 g56 (by decide) (fun h56 => ?_) (fun h56 => ?_)
        · refine wr_iload_n dX7_ofOrder_65 rfl ?_
          refine wr_bipush dX7_ofOrder_66 ?_
          refine wr_gd (fun g68 => ?_)
          refine wr_icmp_ge 78 dX7_ofOrder_68 g68 (by decide) (fun h68 => ?_) (fun h68 => ?_)
          · refine wr_aload_n dX7_ofOrder_78 rfl ?_
            refine wr_iload_n dX7_ofOrder_79 rfl ?_
            refine wr_bipush dX7_ofOrder_80 ?_
            refine wr_cV dX7_ofOrder_82 k_RX7_151 b_yX7_ofO x_yX7_ofO (pX7_ofO (n := n + 5) hE hr x1 10) (rd_mod hr) rfl (fun r82 => ?_)
            refine wr_iconst dX7_ofOrder_85 ?_
            refine wr_gd (fun g86 => ?_)
            refine wr_icmp_ne 94 dX7_ofOrder_86 g86 (by decide) (fun h86 => ?_) (fun h86 => ?_)
            · refine wr_aload_n dX7_ofOrder_94 rfl ?_
              refine wr_iload_n dX7_ofOrder_95 rfl ?_
              refine wr_aload_n dX7_ofOrder_96 rfl ?_
              refine wr_iload_n dX7_ofOrder_97 rfl ?_
              refine wr_bipush dX7_ofOrder_98 ?_
              refine wr_cV dX7_ofOrder_100 k_RX7_151 b_yX7_ofO x_yX7_ofO (pX7_ofO (n := n + 5) hE hr x1 14) (rd_mod hr) rfl (fun r100 => ?_)
              refine wr_cV dX7_ofOrder_103 k_RX7_163 b_yX7_occurrence x_yX7_occurrence (pX7_occurrence (n := n) hE hr x1 r100) (rd_mod hr) rfl (fun r103 => ?_)
              exact wr_at (pX7_ofOrder_b106 (n := n) hE hr  x1 r103) ⟨rfl, rfl, trivial⟩
            · refine wr_bipush dX7_ofOrder_89 ?_
              refine wr_goto 106 dX7_ofOrder_91 ?_
              exact wr_at (pX7_ofOrder_b106 (n := n) hE hr  x1 (-6)) ⟨rfl, rfl, trivial⟩
          · refine wr_aload_n dX7_ofOrder_71 rfl ?_
            refine wr_iload_n dX7_ofOrder_72 rfl ?_
            refine wr_iload_n dX7_ofOrder_73 rfl ?_
            refine wr_cV dX7_ofOrder_74 k_RX7_151 b_yX7_ofO x_yX7_ofO (pX7_ofO (n := n + 5) hE hr x1 x2) (rd_mod hr) rfl (fun r74 => ?_)
            exact wr_ireturn dX7_ofOrder_77 ⟨_, rfl, rfl⟩
        · refine wr_aload_n dX7_ofOrder_59 rfl ?_
          refine wr_iload_n dX7_ofOrder_60 rfl ?_
          refine wr_cV dX7_ofOrder_61 k_RX7_213 b_yX7_waitsOf x_yX7_waitsOf (pX7_waitsOf (n := n + 5) hE hr x1) (rd_mod hr) rfl (fun r61 => ?_)
          exact wr_ireturn dX7_ofOrder_64 ⟨_, rfl, rfl⟩
      · refine wr_aload_n dX7_ofOrder_30 rfl ?_
        refine wr_iload_n dX7_ofOrder_31 rfl ?_
        refine wr_iconst dX7_ofOrder_32 ?_
        refine wr_cV dX7_ofOrder_33 k_RX7_151 b_yX7_ofO x_yX7_ofO (pX7_ofO (n := n + 5) hE hr x1 1) (rd_mod hr) rfl (fun r33 => ?_)
        refine wr_bipush dX7_ofOrder_36 ?_
        refine wr_gd (fun g38 => ?_)
        refine wr_icmp_ne 46 dX7_ofOrder_38 g38 (by decide) (fun h38 => ?_) (fun h38 => ?_)
        · refine wr_aload_n dX7_ofOrder_46 rfl ?_
          refine wr_iload_n dX7_ofOrder_47 rfl ?_
          refine wr_iconst dX7_ofOrder_48 ?_
          refine wr_cV dX7_ofOrder_49 k_RX7_151 b_yX7_ofO x_yX7_ofO (pX7_ofO (n := n + 5) hE hr x1 1) (rd_mod hr) rfl (fun r49 => ?_)
          exact wr_ireturn dX7_ofOrder_52 ⟨_, rfl, rfl⟩
        · refine wr_bipush dX7_ofOrder_41 ?_
          refine wr_goto 52 dX7_ofOrder_43 ?_
          exact wr_ireturn dX7_ofOrder_52 ⟨_, rfl, rfl⟩
    · refine wr_bipush dX7_ofOrder_22 ?_
      exact wr_ireturn dX7_ofOrder_24 ⟨_, rfl, rfl⟩
  · refine wr_iconst dX7_ofOrder_8 ?_
    exact wr_ireturn dX7_ofOrder_9 ⟨_, rfl, rfl⟩
set_option maxRecDepth 100000 in
set_option maxHeartbeats 4000000 in
theorem pX7_ofPayment {E : wE} {n : Nat} (hE : wGE E) {C : cR} {m : mR} {ca : caT} {h : hW} (hr : rep E (C, m) ca h) (x1 : Int) (x2 : Int)  : WR E (n + 1) yX7_ofPayment cX7_ofPayment 3 (some .int) vI h 0 (wArgs [.ref (aM E 0), .int (iI x1), .int (iI x2)]) [] (fX7_ofPayment x1 x2 m) := by
  unfold fX7_ofPayment
  refine wr_iload_n dX7_ofPayment_0 rfl ?_
  refine wr_gd (fun g1 => ?_)
  refine wr_i2l dX7_ofPayment_1 g1 ?_
  refine wr_lconst0 dX7_ofPayment_2 ?_
  refine wr_aload_n dX7_ofPayment_3 rfl ?_
  refine wr_get dX7_ofPayment_4 f_RX7_7 (rd_mod hr) ?_
  refine wr_iconst dX7_ofPayment_7 ?_
  refine wr_lald dX7_ofPayment_8 (g := fun j => m.1 0 j) (by decide) (rd_now hr) ?_
  refine wr_lconst1 dX7_ofPayment_9 ?_
  refine wr_lsub dX7_ofPayment_10 ?_
  refine wr_cS dX7_ofPayment_11 k_RX7_47 b_yX7_isIn x_yX7_isIn (pX7_isIn (n := n) hE x1 0 ((m.1 0 4) - 1)) (fun r11 => ?_)
  refine wr_gd (fun g14 => ?_)
  refine wr_if_ne 19 dX7_ofPayment_14 g14 (fun h14 => ?_) (fun h14 => ?_)
  · refine wr_iload_n dX7_ofPayment_19 rfl ?_
    refine wr_gd (fun g20 => ?_)
    refine wr_i2l dX7_ofPayment_20 g20 ?_
    refine wr_lconst0 dX7_ofPayment_21 ?_
    refine wr_ldc2 dX7_ofPayment_22 c_RX7_103 ?_
    refine wr_cS dX7_ofPayment_25 k_RX7_47 b_yX7_isIn x_yX7_isIn (pX7_isIn (n := n) hE x2 0 4) (fun r25 => ?_)
    refine wr_gd (fun g28 => ?_)
    refine wr_if_eq 40 dX7_ofPayment_28 g28 (fun h28 => ?_) (fun h28 => ?_)
    · refine wr_bipush dX7_ofPayment_40 ?_
      exact wr_ireturn dX7_ofPayment_42 ⟨_, rfl, rfl⟩
    · refine wr_aload_n dX7_ofPayment_31 rfl ?_
      refine wr_iload_n dX7_ofPayment_32 rfl ?_
      refine wr_iload_n dX7_ofPayment_33 rfl ?_
      refine wr_cV dX7_ofPayment_34 k_RX7_210 b_yX7_partOf x_yX7_partOf (pX7_partOf (n := n) hE hr x1 x2) (rd_mod hr) rfl (fun r34 => ?_)
      refine wr_goto 42 dX7_ofPayment_37 ?_
      exact wr_ireturn dX7_ofPayment_42 ⟨_, rfl, rfl⟩
  · refine wr_iconst dX7_ofPayment_17 ?_
    exact wr_ireturn dX7_ofPayment_18 ⟨_, rfl, rfl⟩
set_option maxRecDepth 100000 in
set_option maxHeartbeats 4000000 in
theorem pX7_order {E : wE} {n : Nat} (hE : wGE E) {C : cR} (x1 : Int) (x2 : Int) (x3 : Int) (x4 : Int) (x5 : Int) (x6 : Int)  (m : mR) (ca : caT) : WF E (n + 9) yX7_order cX7_order 8 (some .int) vI (fun m : mR => (C, m)) ca 0 (wArgs [.ref (aM E 0), .int (iI x1), .int (iI x2), .int (iI x3), .int (iI x4), .int (iI x5), .int (iI x6)]) [] m (fX7_order x1 x2 x3 x4 x5 x6 m) := by
  unfold fX7_order
  refine wf_aload_n dX7_order_0 rfl ?_
  refine wf_iload_n dX7_order_1 rfl ?_
  refine wf_iload_n dX7_order_2 rfl ?_
  refine wf_iload_n dX7_order_3 rfl ?_
  refine wf_iload dX7_order_4 rfl ?_
  refine wf_iload dX7_order_6 rfl ?_
  refine wf_iload dX7_order_8 rfl ?_
  refine wf_rV dX7_order_10 k_RX7_191 b_yX7_checksOrder x_yX7_checksOrder (fun h hr => pX7_checksOrder (n := n + 6) hE hr x1 x2 x3 x4 x5 x6) (fun h hr => rd_mod hr) rfl (fun r10 => ?_)
  refine wf_istore dX7_order_13 ?_
  refine wf_iload dX7_order_15 rfl ?_
  refine wf_gd (fun g17 => ?_)
  refine wf_if_eq 23 dX7_order_17 g17 (fun h17 => ?_) (fun h17 => ?_)
  · refine wf_aload_n dX7_order_23 rfl ?_
    refine wf_cV (put := fun q => q) dX7_order_24 k_RX7_70 b_yX7_records x_yX7_records (pX7_records (n := n + 7) hE _ _) rfl (fun _ => rfl) (fun h hr => rd_mod hr) rfl (fun r24 m24 ca => ?_)
    refine wf_aload_n dX7_order_27 rfl ?_
    refine wf_iload_n dX7_order_28 rfl ?_
    refine wf_iload_n dX7_order_29 rfl ?_
    refine wf_iload_n dX7_order_30 rfl ?_
    refine wf_iload dX7_order_31 rfl ?_
    refine wf_iload dX7_order_33 rfl ?_
    refine wf_iload dX7_order_35 rfl ?_
    refine wf_cV (put := fun q => q) dX7_order_37 k_RX7_195 b_yX7_makes x_yX7_makes (pX7_makes (n := n) hE x1 x2 x3 x4 x5 x6 _ _) rfl (fun _ => rfl) (fun h hr => rd_mod hr) rfl (fun r37 m37 ca => ?_)
    exact wf_ireturn dX7_order_40 ⟨_, rfl, rfl⟩
  · refine wf_iload dX7_order_20 rfl ?_
    exact wf_ireturn dX7_order_22 ⟨_, rfl, rfl⟩
set_option maxRecDepth 100000 in
set_option maxHeartbeats 4000000 in
theorem pX7_owedBits {E : wE} {n : Nat} (hE : wGE E) {C : cR} {m : mR} {ca : caT} {h : hW} (hr : rep E (C, m) ca h) (x1 : Int)  : WR E (n + 2) yX7_owedBits cX7_owedBits 2 (some .long) vJ h 0 (wArgs [.ref (aM E 0), .int (iI x1)]) [] (fX7_owedBits x1 m) := by
  unfold fX7_owedBits
  refine wr_aload_n dX7_owedBits_0 rfl ?_
  refine wr_iload_n dX7_owedBits_1 rfl ?_
  refine wr_cV dX7_owedBits_2 k_RX7_129 b_yX7_isAccount x_yX7_isAccount (pX7_isAccount (n := n) hE hr x1) (rd_mod hr) rfl (fun r2 => ?_)
  refine wr_gd (fun g5 => ?_)
  refine wr_if_eq 20 dX7_owedBits_5 g5 (fun h5 => ?_) (fun h5 => ?_)
  · refine wr_ldc2 dX7_owedBits_20 c_RX7_278 ?_
    exact wr_lreturn dX7_owedBits_23 rfl
  · refine wr_aload_n dX7_owedBits_8 rfl ?_
    refine wr_get dX7_owedBits_9 f_RX7_13 (rd_mod hr) ?_
    refine wr_iload_n dX7_owedBits_12 rfl ?_
    refine wr_gd (fun g13 => ?_)
    refine wr_dald dX7_owedBits_13 (g := fun j => m.2 0 j) g13 (rd_owed hr) ?_
    refine wr_cS dX7_owedBits_14 k_RX7_288 b_yX7_bitsOf x_yX7_bitsOf (pX7_bitsOf (n := n + 1) hE (m.2 0 x1)) (fun r14 => ?_)
    refine wr_goto 23 dX7_owedBits_17 ?_
    exact wr_lreturn dX7_owedBits_23 rfl
set_option maxRecDepth 100000 in
set_option maxHeartbeats 4000000 in
theorem pX7_put_b103 {E : wE} {n : Nat} (hE : wGE E) {C : cR} : ∀ (fuel : Nat) (x1 : Int) (x4 : Int)  (m : mR) (ca : caT), WF E (n + 1) yX7_put cX7_put 5 (some .int) vI (fun m : mR => (C, m)) ca 103 (wLs [some (.ref (aM E 0)), some (.long (jL x1)), none, none, some (.int (iI x4))]) [] m (fX7_put_b103 fuel x1 x4 m) := by
  intro fuel
  induction fuel with
  | zero =>
    intro x1 x4 m ca
    exact wf_none
  | succ fuel ih =>
    intro x1 x4 m ca
    unfold fX7_put_b103
    refine wf_iload dX7_put_103 rfl ?_
    refine wf_gd (fun g105 => ?_)
    refine wf_if_lt 145 dX7_put_105 g105 (fun h105 => ?_) (fun h105 => ?_)
    · refine wf_aload_n dX7_put_145 rfl ?_
      refine wf_get dX7_put_146 f_RX7_298 (fun h hr => rd_mod hr) ?_
      exact wf_ireturn dX7_put_149 ⟨_, rfl, rfl⟩
    · refine wf_aload_n dX7_put_108 rfl ?_
      refine wf_get dX7_put_109 f_RX7_34 (fun h hr => rd_mod hr) ?_
      refine wf_aload_n dX7_put_112 rfl ?_
      refine wf_get dX7_put_113 f_RX7_298 (fun h hr => rd_mod hr) ?_
      refine wf_lload_n dX7_put_116 rfl ?_
      refine wf_bipush dX7_put_117 ?_
      refine wf_iload dX7_put_119 rfl ?_
      refine wf_imul dX7_put_121 ?_
      refine wf_lshr dX7_put_122 ?_
      refine wf_ldc2 dX7_put_123 c_RX7_307 ?_
      refine wf_land dX7_put_126 ?_
      refine wf_l2i dX7_put_127 ?_
      refine wf_gd (fun g128 => ?_)
      refine wf_s_mp dX7_put_128 g128 (fun m128 => ?_)
      refine wf_aload_n dX7_put_129 rfl ?_
      refine wf_dup dX7_put_130 ?_
      refine wf_get dX7_put_131 f_RX7_298 (fun h hr => rd_mod hr) ?_
      refine wf_iconst dX7_put_134 ?_
      refine wf_iadd dX7_put_135 ?_
      refine wf_p_modf (f := 10) dX7_put_136 p_RX7_298 (fun m136 => ?_)
      refine wf_iinc dX7_put_139 rfl ?_
      refine wf_goto 103 dX7_put_142 ?_
      exact wf_at (ih x1 (x4 + (-1)) _ _) ⟨rfl, rfl, rfl, trivial⟩
set_option maxRecDepth 100000 in
set_option maxHeartbeats 4000000 in
theorem pX7_put_b84 {E : wE} {n : Nat} (hE : wGE E) {C : cR} (x1 : Int) (x3 : Int)  (m : mR) (ca : caT) : WF E (n + 1) yX7_put cX7_put 5 (some .int) vI (fun m : mR => (C, m)) ca 84 (wLs [some (.ref (aM E 0)), some (.long (jL x1)), none, some (.int (iI x3))]) [] m (fX7_put_b84 x1 x3 m) := by
  unfold fX7_put_b84
  refine wf_aload_n dX7_put_84 rfl ?_
  refine wf_get dX7_put_85 f_RX7_298 (fun h hr => rd_mod hr) ?_
  refine wf_iload_n dX7_put_88 rfl ?_
  refine wf_iadd dX7_put_89 ?_
  refine wf_bipush dX7_put_90 ?_
  refine wf_gd (fun g92 => ?_)
  refine wf_icmp_le 98 dX7_put_92 g92 (by decide) (fun h92 => ?_) (fun h92 => ?_)
  · refine wf_iload_n dX7_put_98 rfl ?_
    refine wf_iconst dX7_put_99 ?_
    refine wf_isub dX7_put_100 ?_
    refine wf_istore dX7_put_101 ?_
    exact wf_at (pX7_put_b103 (n := n) hE  fuel0 x1 (x3 - 1) _ _) ⟨rfl, rfl, rfl, trivial⟩
  · refine wf_bipush dX7_put_95 ?_
    exact wf_ireturn dX7_put_97 ⟨_, rfl, rfl⟩
set_option maxRecDepth 100000 in
set_option maxHeartbeats 4000000 in
theorem pX7_put_b60 {E : wE} {n : Nat} (hE : wGE E) {C : cR} (x1 : Int) (x3 : Int)  (m : mR) (ca : caT) : WF E (n + 1) yX7_put cX7_put 5 (some .int) vI (fun m : mR => (C, m)) ca 60 (wLs [some (.ref (aM E 0)), some (.long (jL x1)), none, some (.int (iI x3))]) [] m (fX7_put_b60 x1 x3 m) := by
  unfold fX7_put_b60
  refine wf_iload_n dX7_put_60 rfl ?_
  refine wf_gd (fun g61 => ?_)
  refine wf_if_eq 81 dX7_put_61 g61 (fun h61 => ?_) (fun h61 => ?_)
  · refine wf_bipush dX7_put_81 ?_
    exact wf_ireturn dX7_put_83 ⟨_, rfl, rfl⟩
  · refine wf_iload_n dX7_put_64 rfl ?_
    refine wf_bipush dX7_put_65 ?_
    refine wf_gd (fun g67 => ?_)
    refine wf_icmp_ge 84 dX7_put_67 g67 (by decide) (fun h67 => ?_) (fun h67 => ?_)
    · exact wf_at (pX7_put_b84 (n := n) hE  x1 x3 _ _) ⟨rfl, rfl, rfl, trivial⟩
    · refine wf_lload_n dX7_put_70 rfl ?_
      refine wf_bipush dX7_put_71 ?_
      refine wf_iload_n dX7_put_73 rfl ?_
      refine wf_imul dX7_put_74 ?_
      refine wf_lshr dX7_put_75 ?_
      refine wf_lconst0 dX7_put_76 ?_
      refine wf_gd (fun g77 => ?_)
      refine wf_jcmp_eq 84 dX7_put_77 dX7_put_78 g77 (by decide) (fun h77 => ?_) (fun h77 => ?_)
      · exact wf_at (pX7_put_b84 (n := n) hE  x1 x3 _ _) ⟨rfl, rfl, rfl, trivial⟩
      · refine wf_bipush dX7_put_81 ?_
        exact wf_ireturn dX7_put_83 ⟨_, rfl, rfl⟩
set_option maxRecDepth 100000 in
set_option maxHeartbeats 4000000 in
theorem pX7_put_b2 {E : wE} {n : Nat} (hE : wGE E) {C : cR} : ∀ (fuel : Nat) (x1 : Int) (x3 : Int)  (m : mR) (ca : caT), WF E (n + 1) yX7_put cX7_put 5 (some .int) vI (fun m : mR => (C, m)) ca 2 (wLs [some (.ref (aM E 0)), some (.long (jL x1)), none, some (.int (iI x3))]) [] m (fX7_put_b2 fuel x1 x3 m) := by
  intro fuel
  induction fuel with
  | zero =>
    intro x1 x3 m ca
    exact wf_none
  | succ fuel ih =>
    intro x1 x3 m ca
    unfold fX7_put_b2
    refine wf_iload_n dX7_put_2 rfl ?_
    refine wf_bipush dX7_put_3 ?_
    refine wf_gd (fun g5 => ?_)
    refine wf_icmp_ge 60 dX7_put_5 g5 (by decide) (fun h5 => ?_) (fun h5 => ?_)
    · exact wf_at (pX7_put_b60 (n := n) hE  x1 x3 _ _) ⟨rfl, rfl, rfl, trivial⟩
    · refine wf_lload_n dX7_put_8 rfl ?_
      refine wf_bipush dX7_put_9 ?_
      refine wf_iload_n dX7_put_11 rfl ?_
      refine wf_imul dX7_put_12 ?_
      refine wf_lshr dX7_put_13 ?_
      refine wf_ldc2 dX7_put_14 c_RX7_307 ?_
      refine wf_land dX7_put_17 ?_
      refine wf_lconst0 dX7_put_18 ?_
      refine wf_gd (fun g19 => ?_)
      refine wf_jcmp_eq 60 dX7_put_19 dX7_put_20 g19 (by decide) (fun h19 => ?_) (fun h19 => ?_)
      · exact wf_at (pX7_put_b60 (n := n) hE  x1 x3 _ _) ⟨rfl, rfl, rfl, trivial⟩
      · refine wf_lload_n dX7_put_23 rfl ?_
        refine wf_bipush dX7_put_24 ?_
        refine wf_iload_n dX7_put_26 rfl ?_
        refine wf_imul dX7_put_27 ?_
        refine wf_lshr dX7_put_28 ?_
        refine wf_ldc2 dX7_put_29 c_RX7_307 ?_
        refine wf_land dX7_put_32 ?_
        refine wf_l2i dX7_put_33 ?_
        refine wf_istore dX7_put_34 ?_
        refine wf_iload dX7_put_36 rfl ?_
        refine wf_gd (fun g38 => ?_)
        refine wf_i2l dX7_put_38 g38 ?_
        refine wf_ldc2 dX7_put_39 c_RX7_309 ?_
        refine wf_ldc2 dX7_put_42 c_RX7_311 ?_
        refine wf_rS dX7_put_45 k_RX7_47 b_yX7_isIn x_yX7_isIn (fun h hr => pX7_isIn (n := n) hE (landI (lshrI x1 (8 * x3)) 255) 33 126) (fun r45 => ?_)
        refine wf_gd (fun g48 => ?_)
        refine wf_if_ne 54 dX7_put_48 g48 (fun h48 => ?_) (fun h48 => ?_)
        · refine wf_iinc dX7_put_54 rfl ?_
          refine wf_goto 2 dX7_put_57 ?_
          exact wf_at (ih x1 (x3 + 1) _ _) ⟨rfl, rfl, rfl, trivial⟩
        · refine wf_bipush dX7_put_51 ?_
          exact wf_ireturn dX7_put_53 ⟨_, rfl, rfl⟩
set_option maxRecDepth 100000 in
set_option maxHeartbeats 4000000 in
theorem pX7_put {E : wE} {n : Nat} (hE : wGE E) {C : cR} (x1 : Int)  (m : mR) (ca : caT) : WF E (n + 1) yX7_put cX7_put 5 (some .int) vI (fun m : mR => (C, m)) ca 0 (wArgs [.ref (aM E 0), .long (jL x1)]) [] m (fX7_put x1 m) := by
  unfold fX7_put
  refine wf_iconst dX7_put_0 ?_
  refine wf_istore_n dX7_put_1 ?_
  exact wf_at (pX7_put_b2 (n := n) hE  fuel0 x1 0 _ _) ⟨rfl, rfl, rfl, trivial⟩

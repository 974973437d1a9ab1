/-! ===== the methods meet their functions (by program: wip/whole/gen.py) ===== -/
set_option maxRecDepth 100000 in
set_option maxHeartbeats 4000000 in
theorem pX4_isSound_b7 {E : wE} {n : Nat} (hE : wGE E) {C : cR} {M : mR} : ∀ (fuel : Nat) (x1 : Int)  (p : (Int → Int → Int)) (ca : caT), WF E (n + 9) yX4_isSound cX4_isSound 2 (some .boolean) vI (fun p : Int → Int → Int => ((C.1, C.2.1, p), M)) ca 7 (wLs [some (.ref (aPad E)), some (.int (iI x1))]) [] p (fX4_isSound_b7 fuel x1 p) := by
  intro fuel
  induction fuel with
  | zero =>
    intro x1 p ca
    exact wf_none
  | succ fuel ih =>
    intro x1 p ca
    unfold fX4_isSound_b7
    refine wf_iload_n dX4_isSound_7 rfl ?_
    refine wf_bipush dX4_isSound_8 ?_
    refine wf_gd (fun g10 => ?_)
    refine wf_icmp_ge 52 dX4_isSound_10 g10 (by decide) (fun h10 => ?_) (fun h10 => ?_)
    · refine wf_iconst dX4_isSound_52 ?_
      exact wf_ireturn dX4_isSound_53 ⟨_, rfl, rfl⟩
    · refine wf_aload_n dX4_isSound_13 rfl ?_
      refine wf_cV (put := fun q => q) dX4_isSound_14 k_RX4_28 b_yX4_readAct x_yX4_readAct (pX4_readAct (n := n) hE _ _) rfl (fun _ => rfl) (fun h hr => rd_pad hr) rfl (fun r14 p14 ca => ?_)
      refine wf_gd (fun g17 => ?_)
      refine wf_if_ne 22 dX4_isSound_17 g17 (fun h17 => ?_) (fun h17 => ?_)
      · refine wf_aload_n dX4_isSound_22 rfl ?_
        refine wf_get dX4_isSound_23 f_RX4_25 (fun h hr => rd_pad hr) ?_
        refine wf_aload_n dX4_isSound_26 rfl ?_
        refine wf_get dX4_isSound_27 f_RX4_21 (fun h hr => rd_pad hr) ?_
        refine wf_gd (fun g30 => ?_)
        refine wf_icmp_lt 35 dX4_isSound_30 g30.1 g30.2 (fun h30 => ?_) (fun h30 => ?_)
        · refine wf_aload_n dX4_isSound_35 rfl ?_
          refine wf_bipush dX4_isSound_36 ?_
          refine wf_cV (put := fun q => q) dX4_isSound_38 k_RX4_32 b_yX4_takes x_yX4_takes (pX4_takes (n := n + 7) hE 59 _ _) rfl (fun _ => rfl) (fun h hr => rd_pad hr) rfl (fun r38 p38 ca => ?_)
          refine wf_gd (fun g41 => ?_)
          refine wf_if_ne 46 dX4_isSound_41 g41 (fun h41 => ?_) (fun h41 => ?_)
          · refine wf_iinc dX4_isSound_46 rfl ?_
            refine wf_goto 7 dX4_isSound_49 ?_
            exact wf_at (ih (x1 + 1) _ _) ⟨rfl, rfl, trivial⟩
          · refine wf_iconst dX4_isSound_44 ?_
            exact wf_ireturn dX4_isSound_45 ⟨_, rfl, rfl⟩
        · refine wf_iconst dX4_isSound_33 ?_
          exact wf_ireturn dX4_isSound_34 ⟨_, rfl, rfl⟩
      · refine wf_iconst dX4_isSound_20 ?_
        exact wf_ireturn dX4_isSound_21 ⟨_, rfl, rfl⟩
set_option maxRecDepth 100000 in
set_option maxHeartbeats 4000000 in
theorem pX4_isSound {E : wE} {n : Nat} (hE : wGE E) {C : cR} {M : mR}   (p : (Int → Int → Int)) (ca : caT) : WF E (n + 9) yX4_isSound cX4_isSound 2 (some .boolean) vI (fun p : Int → Int → Int => ((C.1, C.2.1, p), M)) ca 0 (wArgs [.ref (aPad E)]) [] p (fX4_isSound  p) := by
  unfold fX4_isSound
  refine wf_aload_n dX4_isSound_0 rfl ?_
  refine wf_iconst dX4_isSound_1 ?_
  refine wf_p_padf (f := 2) dX4_isSound_2 p_RX4_25 (fun p2 => ?_)
  refine wf_iconst dX4_isSound_5 ?_
  refine wf_istore_n dX4_isSound_6 ?_
  exact wf_at (pX4_isSound_b7 (n := n) hE  fuel0 0 _ _) ⟨rfl, rfl, trivial⟩
set_option maxRecDepth 100000 in
set_option maxHeartbeats 4000000 in
theorem pX6_isError {E : wE} {n : Nat} (hE : wGE E) {h : hW} (x0 : Int)  : WR E (n + 1) yX6_isError cX6_isError 1 (some .boolean) vI h 0 (wArgs [.int (iI x0)]) [] (fX6_isError x0) := by
  unfold fX6_isError
  refine wr_iload_n dX6_isError_0 rfl ?_
  refine wr_bipush dX6_isError_1 ?_
  refine wr_iconst dX6_isError_3 ?_
  refine wr_cS dX6_isError_4 k_RX6_93 b_yX6_isBetween x_yX6_isBetween (pX6_isBetween (n := n) hE x0 (-5) (-1)) (fun r4 => ?_)
  refine wr_gd (fun g7 => ?_)
  exact wr_ireturn dX6_isError_7 ⟨_, rfl, nar_z g7⟩
set_option maxRecDepth 100000 in
set_option maxHeartbeats 4000000 in
theorem pX6_recorded {E : wE} {n : Nat} (hE : wGE E) {M : mR} (x1 : Int)  (c : cR) (ca : caT) : WF E (n + 2) yX6_recorded cX6_recorded 2 (some .int) vI (fun c : cR => (c, M)) ca 0 (wArgs [.ref (aTop E), .int (iI x1)]) [] c (fX6_recorded x1 c) := by
  unfold fX6_recorded
  refine wf_iload_n dX6_recorded_0 rfl ?_
  refine wf_rS dX6_recorded_1 k_RX6_209 b_yX6_isError x_yX6_isError (fun h hr => pX6_isError (n := n) hE x1) (fun r1 => ?_)
  refine wf_gd (fun g4 => ?_)
  refine wf_if_eq 9 dX6_recorded_4 g4 (fun h4 => ?_) (fun h4 => ?_)
  · refine wf_aload_n dX6_recorded_9 rfl ?_
    refine wf_get dX6_recorded_10 f_RX6_154 (fun h hr => rd_top hr) ?_
    refine wf_bipush dX6_recorded_13 ?_
    refine wf_gd (fun g15 => ?_)
    refine wf_icmp_ge 31 dX6_recorded_15 g15 (by decide) (fun h15 => ?_) (fun h15 => ?_)
    · refine wf_aload_n dX6_recorded_31 rfl ?_
      refine wf_aload_n dX6_recorded_32 rfl ?_
      refine wf_get dX6_recorded_33 f_RX6_216 (fun h hr => rd_top hr) ?_
      refine wf_iconst dX6_recorded_36 ?_
      refine wf_iadd dX6_recorded_37 ?_
      refine wf_bipush dX6_recorded_38 ?_
      refine wf_gd (fun g40 => ?_)
      refine wf_irem dX6_recorded_40 g40 (by decide) ?_
      refine wf_p_topf (f := 3) dX6_recorded_41 p_RX6_216 (fun c41 => ?_)
      refine wf_iload_n dX6_recorded_44 rfl ?_
      exact wf_ireturn dX6_recorded_45 ⟨_, rfl, rfl⟩
    · refine wf_aload_n dX6_recorded_18 rfl ?_
      refine wf_dup dX6_recorded_19 ?_
      refine wf_get dX6_recorded_20 f_RX6_154 (fun h hr => rd_top hr) ?_
      refine wf_iconst dX6_recorded_23 ?_
      refine wf_iadd dX6_recorded_24 ?_
      refine wf_p_topf (f := 4) dX6_recorded_25 p_RX6_154 (fun c25 => ?_)
      refine wf_goto 44 dX6_recorded_28 ?_
      refine wf_iload_n dX6_recorded_44 rfl ?_
      exact wf_ireturn dX6_recorded_45 ⟨_, rfl, rfl⟩
  · refine wf_iload_n dX6_recorded_7 rfl ?_
    exact wf_ireturn dX6_recorded_8 ⟨_, rfl, rfl⟩
set_option maxRecDepth 100000 in
set_option maxHeartbeats 4000000 in
theorem pX6_rowBehindLatest {E : wE} {n : Nat} (hE : wGE E) {M : mR} {c : cR} {ca : caT} {h : hW} (hr : rep E (c, M) ca h)   : WR E n yX6_rowBehindLatest cX6_rowBehindLatest 1 (some .int) vI h 0 (wArgs [.ref (aTop E)]) [] (fX6_rowBehindLatest  c) := by
  unfold fX6_rowBehindLatest
  refine wr_aload_n dX6_rowBehindLatest_0 rfl ?_
  refine wr_get dX6_rowBehindLatest_1 f_RX6_216 (rd_top hr) ?_
  refine wr_aload_n dX6_rowBehindLatest_4 rfl ?_
  refine wr_get dX6_rowBehindLatest_5 f_RX6_154 (rd_top hr) ?_
  refine wr_iadd dX6_rowBehindLatest_8 ?_
  refine wr_bipush dX6_rowBehindLatest_9 ?_
  refine wr_gd (fun g11 => ?_)
  refine wr_irem dX6_rowBehindLatest_11 g11 (by decide) ?_
  exact wr_ireturn dX6_rowBehindLatest_12 ⟨_, rfl, rfl⟩
set_option maxRecDepth 100000 in
set_option maxHeartbeats 4000000 in
theorem pX6_remember {E : wE} {n : Nat} (hE : wGE E) {M : mR}   (c : cR) (ca : caT) : WF E (n + 6) yX6_remember cX6_remember 1 (none) vV (fun c : cR => (c, M)) ca 0 (wArgs [.ref (aTop E)]) [] c (fX6_remember  c) := by
  unfold fX6_remember
  refine wf_aload_n dX6_remember_0 rfl ?_
  refine wf_get dX6_remember_1 f_RX6_19 (fun h hr => rd_top hr) ?_
  refine wf_aload_n dX6_remember_4 rfl ?_
  refine wf_rV dX6_remember_5 k_RX6_212 b_yX6_rowBehindLatest x_yX6_rowBehindLatest (fun h hr => pX6_rowBehindLatest (n := n + 5) hE hr) (fun h hr => rd_top hr) rfl (fun r5 => ?_)
  refine wf_gd (fun g8 => ?_)
  refine wf_aald_hist dX6_remember_8 g8 (fun h hr => rd_hist hr) ?_
  refine wf_aload_n dX6_remember_9 rfl ?_
  refine wf_get dX6_remember_10 f_RX6_12 (fun h hr => rd_top hr) ?_
  refine wf_cV (put := cH c (2 + r5)) dX6_remember_13 k_RX6_167 b_yX2_copyFrom x_yX2_copyFrom (pX2_copyFrom (n := n) hE (G := (c, M)) (k := (2 + r5)) (by omega) (k2 := 0) (by omega) (by omega) rfl _ _) setH_self (fun _ => rfl) (fun h hr => rd_h hr rfl (by omega)) rfl (fun r13 t13 ca => ?_)
  refine wf_bnd (fun c13 => ?_)
  exact wf_return dX6_remember_16 rfl
set_option maxRecDepth 100000 in
set_option maxHeartbeats 4000000 in
theorem pX6_account {E : wE} {n : Nat} (hE : wGE E) {M : mR} (x1 : Int) (x2 : Int)  (c : cR) (ca : caT) : WF E (n + 7) yX6_account cX6_account 3 (some .int) vI (fun c : cR => (c, M)) ca 0 (wArgs [.ref (aTop E), .int (iI x1), .int (iI x2)]) [] c (fX6_account x1 x2 c) := by
  unfold fX6_account
  refine wf_aload_n dX6_account_0 rfl ?_
  refine wf_cV (put := fun q => q) dX6_account_1 k_RX6_37 b_yX6_remember x_yX6_remember (pX6_remember (n := n) hE _ _) rfl (fun _ => rfl) (fun h hr => rd_top hr) rfl (fun r1 c1 ca => ?_)
  refine wf_aload_n dX6_account_4 rfl ?_
  refine wf_aload_n dX6_account_5 rfl ?_
  refine wf_get dX6_account_6 f_RX6_12 (fun h hr => rd_top hr) ?_
  refine wf_iload_n dX6_account_9 rfl ?_
  refine wf_iload_n dX6_account_10 rfl ?_
  refine wf_cV (put := cH c1 0) dX6_account_11 k_RX6_57 b_yX2_addAccount x_yX2_addAccount (pX2_addAccount (n := n + 5) hE (G := (c1, M)) (k := 0) (by omega) x1 x2 _ _) setH_self (fun _ => rfl) (fun h hr => rd_h hr rfl (by omega)) rfl (fun r11 t11 ca => ?_)
  refine wf_bnd (fun c11 => ?_)
  refine wf_cV (put := fun q => q) dX6_account_14 k_RX6_44 b_yX6_recorded x_yX6_recorded (pX6_recorded (n := n + 4) hE r11 _ _) rfl (fun _ => rfl) (fun h hr => rd_top hr) rfl (fun r14 c14 ca => ?_)
  exact wf_ireturn dX6_account_17 ⟨_, rfl, rfl⟩
set_option maxRecDepth 100000 in
set_option maxHeartbeats 4000000 in
theorem pX6_ahead {E : wE} {n : Nat} (hE : wGE E) {M : mR} (x1 : Int) (x2 : Int) (x3 : Int)  (c : cR) (ca : caT) : WF E (n + 8) yX6_ahead cX6_ahead 6 (some .int) vI (fun c : cR => (c, M)) ca 0 (wArgs [.ref (aTop E), .int (iI x1), .int (iI x2), .int (iI x3)]) [] c (fX6_ahead x1 x2 x3 c) := by
  unfold fX6_ahead
  refine wf_aload_n dX6_ahead_0 rfl ?_
  refine wf_get dX6_ahead_1 f_RX6_12 (fun h hr => rd_top hr) ?_
  refine wf_iload_n dX6_ahead_4 rfl ?_
  refine wf_rV dX6_ahead_5 k_RX6_124 b_yX2_hasOrder x_yX2_hasOrder (fun h hr => pX2_hasOrder (n := n + 7) hE hr rfl (by omega) x1) (fun h hr => rd_h hr rfl (by omega)) rfl (fun r5 => ?_)
  refine wf_gd (fun g8 => ?_)
  refine wf_if_ne 13 dX6_ahead_8 g8 (fun h8 => ?_) (fun h8 => ?_)
  · refine wf_iload_n dX6_ahead_13 rfl ?_
    refine wf_iconst dX6_ahead_14 ?_
    refine wf_sipush dX6_ahead_15 ?_
    refine wf_rS dX6_ahead_18 k_RX6_93 b_yX6_isBetween x_yX6_isBetween (fun h hr => pX6_isBetween (n := n + 7) hE x2 1 400) (fun r18 => ?_)
    refine wf_gd (fun g21 => ?_)
    refine wf_if_eq 33 dX6_ahead_21 g21 (fun h21 => ?_) (fun h21 => ?_)
    · refine wf_bipush dX6_ahead_33 ?_
      exact wf_ireturn dX6_ahead_35 ⟨_, rfl, rfl⟩
    · refine wf_iload_n dX6_ahead_24 rfl ?_
      refine wf_iconst dX6_ahead_25 ?_
      refine wf_iconst dX6_ahead_26 ?_
      refine wf_rS dX6_ahead_27 k_RX6_93 b_yX6_isBetween x_yX6_isBetween (fun h hr => pX6_isBetween (n := n + 7) hE x3 0 3) (fun r27 => ?_)
      refine wf_gd (fun g30 => ?_)
      refine wf_if_ne 36 dX6_ahead_30 g30 (fun h30 => ?_) (fun h30 => ?_)
      · refine wf_aload_n dX6_ahead_36 rfl ?_
        refine wf_get dX6_ahead_37 f_RX6_16 (fun h hr => rd_top hr) ?_
        refine wf_aload_n dX6_ahead_40 rfl ?_
        refine wf_get dX6_ahead_41 f_RX6_12 (fun h hr => rd_top hr) ?_
        refine wf_cV (put := cH c 1) dX6_ahead_44 k_RX6_167 b_yX2_copyFrom x_yX2_copyFrom (pX2_copyFrom (n := n + 2) hE (G := (c, M)) (k := 1) (by omega) (k2 := 0) (by omega) (by omega) rfl _ _) setH_self (fun _ => rfl) (fun h hr => rd_h hr rfl (by omega)) rfl (fun r44 t44 ca => ?_)
        refine wf_bnd (fun c44 => ?_)
        refine wf_aload_n dX6_ahead_47 rfl ?_
        refine wf_get dX6_ahead_48 f_RX6_16 (fun h hr => rd_top hr) ?_
        refine wf_iload_n dX6_ahead_51 rfl ?_
        refine wf_iconst dX6_ahead_52 ?_
        refine wf_cV (put := cH c44 1) dX6_ahead_53 k_RX6_86 b_yX2_passDays x_yX2_passDays (pX2_passDays (n := n) hE (G := (c44, M)) (k := 1) (by omega) x2 0 _ _) setH_self (fun _ => rfl) (fun h hr => rd_h hr rfl (by omega)) rfl (fun r53 t53 ca => ?_)
        refine wf_bnd (fun c53 => ?_)
        refine wf_pop dX6_ahead_56 ?_
        refine wf_aload_n dX6_ahead_57 rfl ?_
        refine wf_get dX6_ahead_58 f_RX6_12 (fun h hr => rd_top hr) ?_
        refine wf_get dX6_ahead_61 f_RX6_130 (fun h hr => rd_h hr rfl (by omega)) ?_
        refine wf_iload_n dX6_ahead_64 rfl ?_
        refine wf_gd (fun g65 => ?_)
        refine wf_aald_ord dX6_ahead_65 g65 (fun h hr => rd_ords hr rfl (by omega)) ?_
        refine wf_astore dX6_ahead_66 ?_
        refine wf_aload_n dX6_ahead_68 rfl ?_
        refine wf_get dX6_ahead_69 f_RX6_16 (fun h hr => rd_top hr) ?_
        refine wf_get dX6_ahead_72 f_RX6_130 (fun h hr => rd_h hr rfl (by omega)) ?_
        refine wf_iload_n dX6_ahead_75 rfl ?_
        refine wf_gd (fun g76 => ?_)
        refine wf_aald_ord dX6_ahead_76 g76 (fun h hr => rd_ords hr rfl (by omega)) ?_
        refine wf_astore dX6_ahead_77 ?_
        refine wf_iload_n dX6_ahead_79 rfl ?_
        refine wf_gd (fun g80 => ?_)
        refine wf_ite (fun e80_0 => ?_) (fun e80_0 => ?_)
        · refine wf_tsK 0 108 dX6_ahead_80 e80_0 ?_
          refine wf_aload dX6_ahead_108 rfl ?_
          refine wf_get dX6_ahead_110 f_RX6_176 (fun h hr => rd_ord hr rfl (by omega) (by omega)) ?_
          refine wf_aload dX6_ahead_113 rfl ?_
          refine wf_get dX6_ahead_115 f_RX6_176 (fun h hr => rd_ord hr rfl (by omega) (by omega)) ?_
          refine wf_isub dX6_ahead_118 ?_
          exact wf_ireturn dX6_ahead_119 ⟨_, rfl, rfl⟩
        refine wf_ite (fun e80_1 => ?_) (fun e80_1 => ?_)
        · refine wf_tsK 1 120 dX6_ahead_80 e80_1 ?_
          refine wf_aload dX6_ahead_120 rfl ?_
          refine wf_get dX6_ahead_122 f_RX6_179 (fun h hr => rd_ord hr rfl (by omega) (by omega)) ?_
          refine wf_aload dX6_ahead_125 rfl ?_
          refine wf_get dX6_ahead_127 f_RX6_179 (fun h hr => rd_ord hr rfl (by omega) (by omega)) ?_
          refine wf_isub dX6_ahead_130 ?_
          exact wf_ireturn dX6_ahead_131 ⟨_, rfl, rfl⟩
        refine wf_ite (fun e80_2 => ?_) (fun e80_2 => ?_)
        · refine wf_tsK 2 132 dX6_ahead_80 e80_2 ?_
          refine wf_aload dX6_ahead_132 rfl ?_
          refine wf_get dX6_ahead_134 f_RX6_182 (fun h hr => rd_ord hr rfl (by omega) (by omega)) ?_
          refine wf_aload dX6_ahead_137 rfl ?_
          refine wf_get dX6_ahead_139 f_RX6_182 (fun h hr => rd_ord hr rfl (by omega) (by omega)) ?_
          refine wf_isub dX6_ahead_142 ?_
          exact wf_ireturn dX6_ahead_143 ⟨_, rfl, rfl⟩
        refine wf_tsOut (z := x3) 144 dX6_ahead_80 g80 (by omega) ?_
        refine wf_aload dX6_ahead_144 rfl ?_
        refine wf_get dX6_ahead_146 f_RX6_185 (fun h hr => rd_ord hr rfl (by omega) (by omega)) ?_
        exact wf_ireturn dX6_ahead_149 ⟨_, rfl, rfl⟩
      · refine wf_bipush dX6_ahead_33 ?_
        exact wf_ireturn dX6_ahead_35 ⟨_, rfl, rfl⟩
  · refine wf_iconst dX6_ahead_11 ?_
    exact wf_ireturn dX6_ahead_12 ⟨_, rfl, rfl⟩
set_option maxRecDepth 100000 in
set_option maxHeartbeats 4000000 in
theorem pX6_balanceIn {E : wE} {n : Nat} (hE : wGE E) {M : mR} (x1 : Int) (x2 : Int)  (c : cR) (ca : caT) : WF E (n + 8) yX6_balanceIn cX6_balanceIn 3 (some .long) vJ (fun c : cR => (c, M)) ca 0 (wArgs [.ref (aTop E), .int (iI x1), .int (iI x2)]) [] c (fX6_balanceIn x1 x2 c) := by
  unfold fX6_balanceIn
  refine wf_aload_n dX6_balanceIn_0 rfl ?_
  refine wf_get dX6_balanceIn_1 f_RX6_12 (fun h hr => rd_top hr) ?_
  refine wf_iload_n dX6_balanceIn_4 rfl ?_
  refine wf_rV dX6_balanceIn_5 k_RX6_100 b_yX2_hasAccount x_yX2_hasAccount (fun h hr => pX2_hasAccount (n := n + 7) hE hr rfl (by omega) x1) (fun h hr => rd_h hr rfl (by omega)) rfl (fun r5 => ?_)
  refine wf_gd (fun g8 => ?_)
  refine wf_if_ne 15 dX6_balanceIn_8 g8 (fun h8 => ?_) (fun h8 => ?_)
  · refine wf_iload_n dX6_balanceIn_15 rfl ?_
    refine wf_iconst dX6_balanceIn_16 ?_
    refine wf_sipush dX6_balanceIn_17 ?_
    refine wf_rS dX6_balanceIn_20 k_RX6_93 b_yX6_isBetween x_yX6_isBetween (fun h hr => pX6_isBetween (n := n + 7) hE x2 1 400) (fun r20 => ?_)
    refine wf_gd (fun g23 => ?_)
    refine wf_if_ne 30 dX6_balanceIn_23 g23 (fun h23 => ?_) (fun h23 => ?_)
    · refine wf_aload_n dX6_balanceIn_30 rfl ?_
      refine wf_get dX6_balanceIn_31 f_RX6_16 (fun h hr => rd_top hr) ?_
      refine wf_aload_n dX6_balanceIn_34 rfl ?_
      refine wf_get dX6_balanceIn_35 f_RX6_12 (fun h hr => rd_top hr) ?_
      refine wf_cV (put := cH c 1) dX6_balanceIn_38 k_RX6_167 b_yX2_copyFrom x_yX2_copyFrom (pX2_copyFrom (n := n + 2) hE (G := (c, M)) (k := 1) (by omega) (k2 := 0) (by omega) (by omega) rfl _ _) setH_self (fun _ => rfl) (fun h hr => rd_h hr rfl (by omega)) rfl (fun r38 t38 ca => ?_)
      refine wf_bnd (fun c38 => ?_)
      refine wf_aload_n dX6_balanceIn_41 rfl ?_
      refine wf_get dX6_balanceIn_42 f_RX6_16 (fun h hr => rd_top hr) ?_
      refine wf_iload_n dX6_balanceIn_45 rfl ?_
      refine wf_iconst dX6_balanceIn_46 ?_
      refine wf_cV (put := cH c38 1) dX6_balanceIn_47 k_RX6_86 b_yX2_passDays x_yX2_passDays (pX2_passDays (n := n) hE (G := (c38, M)) (k := 1) (by omega) x2 0 _ _) setH_self (fun _ => rfl) (fun h hr => rd_h hr rfl (by omega)) rfl (fun r47 t47 ca => ?_)
      refine wf_bnd (fun c47 => ?_)
      refine wf_pop dX6_balanceIn_50 ?_
      refine wf_aload_n dX6_balanceIn_51 rfl ?_
      refine wf_get dX6_balanceIn_52 f_RX6_16 (fun h hr => rd_top hr) ?_
      refine wf_get dX6_balanceIn_55 f_RX6_106 (fun h hr => rd_h hr rfl (by omega)) ?_
      refine wf_iload_n dX6_balanceIn_58 rfl ?_
      refine wf_gd (fun g59 => ?_)
      refine wf_aald_acc dX6_balanceIn_59 g59 (fun h hr => rd_accs hr rfl (by omega)) ?_
      refine wf_get dX6_balanceIn_60 f_RX6_171 (fun h hr => rd_acc hr rfl (by omega) (by omega)) ?_
      exact wf_lreturn dX6_balanceIn_63 rfl
    · refine wf_ldc2 dX6_balanceIn_26 c_RX6_165 ?_
      exact wf_lreturn dX6_balanceIn_29 rfl
  · refine wf_ldc2 dX6_balanceIn_11 c_RX6_104 ?_
    exact wf_lreturn dX6_balanceIn_14 rfl
set_option maxRecDepth 100000 in
set_option maxHeartbeats 4000000 in
theorem pX6_bitsOf_b87 {E : wE} {n : Nat} (hE : wGE E) {h : hW} (x2 : UInt64) (x4 : Int)  : WR E n yX6_bitsOf cX6_bitsOf 7 (some .long) vJ h 87 (wLs [none, none, some (.double x2), none, some (.long (jL x4))]) [] (fX6_bitsOf_b87 x2 x4) := by
  unfold fX6_bitsOf_b87
  refine wr_lload dX6_bitsOf_87 rfl ?_
  refine wr_bipush dX6_bitsOf_89 ?_
  refine wr_lshl dX6_bitsOf_91 ?_
  refine wr_dload_n dX6_bitsOf_92 rfl ?_
  refine wr_dconst1 dX6_bitsOf_93 ?_
  refine wr_gd (fun g94 => ?_)
  refine wr_dsub dX6_bitsOf_94 g94 ?_
  refine wr_ldc2d dX6_bitsOf_95 c_RX6_248 ?_
  refine wr_gd (fun g98 => ?_)
  refine wr_dmul dX6_bitsOf_98 g98 ?_
  refine wr_d2l dX6_bitsOf_99 ?_
  refine wr_ladd dX6_bitsOf_100 ?_
  exact wr_lreturn dX6_bitsOf_101 rfl
set_option maxRecDepth 100000 in
set_option maxHeartbeats 4000000 in
theorem pX6_bitsOf_b55 {E : wE} {n : Nat} (hE : wGE E) {h : hW} : ∀ (fuel : Nat) (x2 : UInt64) (x4 : Int) (x6 : Int) , WR E n yX6_bitsOf cX6_bitsOf 7 (some .long) vJ h 55 (wLs [none, none, some (.double x2), none, some (.long (jL x4)), none, some (.int (iI x6))]) [] (fX6_bitsOf_b55 fuel x2 x4 x6) := by
  intro fuel
  induction fuel with
  | zero =>
    intro x2 x4 x6
    exact wr_none
  | succ fuel ih =>
    intro x2 x4 x6
    unfold fX6_bitsOf_b55
    refine wr_iload dX6_bitsOf_55 rfl ?_
    refine wr_sipush dX6_bitsOf_57 ?_
    refine wr_gd (fun g60 => ?_)
    refine wr_icmp_ge 87 dX6_bitsOf_60 g60 (by decide) (fun h60 => ?_) (fun h60 => ?_)
    · exact wr_at (pX6_bitsOf_b87 (n := n) hE  x2 x4) ⟨rfl, rfl, trivial⟩
    · refine wr_dload_n dX6_bitsOf_63 rfl ?_
      refine wr_dconst1 dX6_bitsOf_64 ?_
      refine wr_dcmp dX6_bitsOf_65 ?_
      refine wr_gd (fun g66 => ?_)
      refine wr_if_ge 87 dX6_bitsOf_66 g66 (fun h66 => ?_) (fun h66 => ?_)
      · exact wr_at (pX6_bitsOf_b87 (n := n) hE  x2 x4) ⟨rfl, rfl, trivial⟩
      · refine wr_dload_n dX6_bitsOf_69 rfl ?_
        refine wr_ldc2d dX6_bitsOf_70 c_RX6_246 ?_
        refine wr_gd (fun g73 => ?_)
        refine wr_dmul dX6_bitsOf_73 g73 ?_
        refine wr_dstore_n dX6_bitsOf_74 ?_
        refine wr_lload dX6_bitsOf_75 rfl ?_
        refine wr_lconst1 dX6_bitsOf_77 ?_
        refine wr_lsub dX6_bitsOf_78 ?_
        refine wr_lstore dX6_bitsOf_79 ?_
        refine wr_iinc dX6_bitsOf_81 rfl ?_
        refine wr_goto 55 dX6_bitsOf_84 ?_
        exact wr_at (ih (FP.dmul x2 4611686018427387904) (x4 - 1) (x6 + 1)) ⟨rfl, rfl, rfl, trivial⟩
set_option maxRecDepth 100000 in
set_option maxHeartbeats 4000000 in
theorem pX6_bitsOf_b18 {E : wE} {n : Nat} (hE : wGE E) {h : hW} : ∀ (fuel : Nat) (x2 : UInt64) (x4 : Int) (x6 : Int) , WR E n yX6_bitsOf cX6_bitsOf 7 (some .long) vJ h 18 (wLs [none, none, some (.double x2), none, some (.long (jL x4)), none, some (.int (iI x6))]) [] (fX6_bitsOf_b18 fuel x2 x4 x6) := by
  intro fuel
  induction fuel with
  | zero =>
    intro x2 x4 x6
    exact wr_none
  | succ fuel ih =>
    intro x2 x4 x6
    unfold fX6_bitsOf_b18
    refine wr_iload dX6_bitsOf_18 rfl ?_
    refine wr_sipush dX6_bitsOf_20 ?_
    refine wr_gd (fun g23 => ?_)
    refine wr_icmp_ge 52 dX6_bitsOf_23 g23 (by decide) (fun h23 => ?_) (fun h23 => ?_)
    · refine wr_iconst dX6_bitsOf_52 ?_
      refine wr_istore dX6_bitsOf_53 ?_
      exact wr_at (pX6_bitsOf_b55 (n := n) hE  fuel0 x2 x4 0) ⟨rfl, rfl, rfl, trivial⟩
    · refine wr_dload_n dX6_bitsOf_26 rfl ?_
      refine wr_ldc2d dX6_bitsOf_27 c_RX6_246 ?_
      refine wr_dcmp dX6_bitsOf_30 ?_
      refine wr_gd (fun g31 => ?_)
      refine wr_if_lt 52 dX6_bitsOf_31 g31 (fun h31 => ?_) (fun h31 => ?_)
      · refine wr_iconst dX6_bitsOf_52 ?_
        refine wr_istore dX6_bitsOf_53 ?_
        exact wr_at (pX6_bitsOf_b55 (n := n) hE  fuel0 x2 x4 0) ⟨rfl, rfl, rfl, trivial⟩
      · refine wr_dload_n dX6_bitsOf_34 rfl ?_
        refine wr_ldc2d dX6_bitsOf_35 c_RX6_246 ?_
        refine wr_gd (fun g38 => ?_)
        refine wr_ddiv dX6_bitsOf_38 g38 ?_
        refine wr_dstore_n dX6_bitsOf_39 ?_
        refine wr_lload dX6_bitsOf_40 rfl ?_
        refine wr_lconst1 dX6_bitsOf_42 ?_
        refine wr_ladd dX6_bitsOf_43 ?_
        refine wr_lstore dX6_bitsOf_44 ?_
        refine wr_iinc dX6_bitsOf_46 rfl ?_
        refine wr_goto 18 dX6_bitsOf_49 ?_
        exact wr_at (ih (FP.ddiv x2 4611686018427387904) (x4 + 1) (x6 + 1)) ⟨rfl, rfl, rfl, trivial⟩
set_option maxRecDepth 100000 in
set_option maxHeartbeats 4000000 in
theorem pX6_bitsOf {E : wE} {n : Nat} (hE : wGE E) {h : hW} (x0 : UInt64)  : WR E n yX6_bitsOf cX6_bitsOf 7 (some .long) vJ h 0 (wArgs [.double x0]) [] (fX6_bitsOf x0) := by
  unfold fX6_bitsOf
  refine wr_dload_n dX6_bitsOf_0 rfl ?_
  refine wr_dconst0 dX6_bitsOf_1 ?_
  refine wr_dcmp dX6_bitsOf_2 ?_
  refine wr_gd (fun g3 => ?_)
  refine wr_if_gt 8 dX6_bitsOf_3 g3 (fun h3 => ?_) (fun h3 => ?_)
  · refine wr_dload_n dX6_bitsOf_8 rfl ?_
    refine wr_dstore_n dX6_bitsOf_9 ?_
    refine wr_ldc2 dX6_bitsOf_10 c_RX6_244 ?_
    refine wr_lstore dX6_bitsOf_13 ?_
    refine wr_iconst dX6_bitsOf_15 ?_
    refine wr_istore dX6_bitsOf_16 ?_
    exact wr_at (pX6_bitsOf_b18 (n := n) hE  fuel0 x0 1023 0) ⟨rfl, rfl, rfl, trivial⟩
  · refine wr_lconst0 dX6_bitsOf_6 ?_
    exact wr_lreturn dX6_bitsOf_7 rfl
set_option maxRecDepth 100000 in
set_option maxHeartbeats 4000000 in
theorem pX6_perform {E : wE} {n : Nat} (hE : wGE E) {M : mR}   (c : cR) (ca : caT) : WF E (n + 8) yX6_perform cX6_perform 3 (some .int) vI (fun c : cR => (c, M)) ca 0 (wArgs [.ref (aTop E), .ref (aPad E)]) [] c (fX6_perform  c) := by
  unfold fX6_perform
  refine wf_aload_n dX6_perform_0 rfl ?_
  refine wf_get dX6_perform_1 f_RX6_219 (fun h hr => rd_pad hr) ?_
  refine wf_gd (fun g4 => ?_)
  refine wf_ite (fun e4_0 => ?_) (fun e4_0 => ?_)
  · refine wf_lk (off := 151) 155 dX6_perform_4 g4 ((congrArg (Op.lookupswitch.offset _ _) e4_0).trans rfl) ?_
    refine wf_aload_n dX6_perform_155 rfl ?_
    refine wf_get dX6_perform_156 f_RX6_12 (fun h hr => rd_top hr) ?_
    refine wf_aload_n dX6_perform_159 rfl ?_
    refine wf_get dX6_perform_160 f_RX6_229 (fun h hr => rd_pad hr) ?_
    refine wf_aload_n dX6_perform_163 rfl ?_
    refine wf_get dX6_perform_164 f_RX6_235 (fun h hr => rd_pad hr) ?_
    refine wf_cV (put := cH c 0) dX6_perform_167 k_RX6_63 b_yX2_payIn x_yX2_payIn (pX2_payIn (n := n + 6) hE (G := (c, M)) (k := 0) (by omega) (c.2.2 0 4) (c.2.2 0 6) _ _) setH_self (fun _ => rfl) (fun h hr => rd_h hr rfl (by omega)) rfl (fun r167 t167 ca => ?_)
    refine wf_bnd (fun c167 => ?_)
    exact wf_ireturn dX6_perform_170 ⟨_, rfl, rfl⟩
  refine wf_ite (fun e4_1 => ?_) (fun e4_1 => ?_)
  · refine wf_lk (off := 139) 143 dX6_perform_4 g4 ((congrArg (Op.lookupswitch.offset _ _) e4_1).trans rfl) ?_
    refine wf_aload_n dX6_perform_143 rfl ?_
    refine wf_get dX6_perform_144 f_RX6_12 (fun h hr => rd_top hr) ?_
    refine wf_aload_n dX6_perform_147 rfl ?_
    refine wf_get dX6_perform_148 f_RX6_235 (fun h hr => rd_pad hr) ?_
    refine wf_cV (put := cH c 0) dX6_perform_151 k_RX6_77 b_yX2_resumeOrder x_yX2_resumeOrder (pX2_resumeOrder (n := n + 2) hE (G := (c, M)) (k := 0) (by omega) (c.2.2 0 6) _ _) setH_self (fun _ => rfl) (fun h hr => rd_h hr rfl (by omega)) rfl (fun r151 t151 ca => ?_)
    refine wf_bnd (fun c151 => ?_)
    exact wf_ireturn dX6_perform_154 ⟨_, rfl, rfl⟩
  refine wf_ite (fun e4_2 => ?_) (fun e4_2 => ?_)
  · refine wf_lk (off := 44) 48 dX6_perform_4 g4 ((congrArg (Op.lookupswitch.offset _ _) e4_2).trans rfl) ?_
    refine wf_aload_n dX6_perform_48 rfl ?_
    refine wf_get dX6_perform_49 f_RX6_223 (fun h hr => rd_pad hr) ?_
    refine wf_bipush dX6_perform_52 ?_
    refine wf_gd (fun g54 => ?_)
    refine wf_icmp_gt 66 dX6_perform_54 g54 (by decide) (fun h54 => ?_) (fun h54 => ?_)
    · refine wf_bipush dX6_perform_66 ?_
      exact wf_ireturn dX6_perform_68 ⟨_, rfl, rfl⟩
    · refine wf_aload_n dX6_perform_57 rfl ?_
      refine wf_get dX6_perform_58 f_RX6_226 (fun h hr => rd_pad hr) ?_
      refine wf_bipush dX6_perform_61 ?_
      refine wf_gd (fun g63 => ?_)
      refine wf_icmp_le 69 dX6_perform_63 g63 (by decide) (fun h63 => ?_) (fun h63 => ?_)
      · refine wf_aload_n dX6_perform_69 rfl ?_
        refine wf_get dX6_perform_70 f_RX6_12 (fun h hr => rd_top hr) ?_
        refine wf_bipush dX6_perform_73 ?_
        refine wf_aload_n dX6_perform_75 rfl ?_
        refine wf_get dX6_perform_76 f_RX6_229 (fun h hr => rd_pad hr) ?_
        refine wf_imul dX6_perform_79 ?_
        refine wf_aload_n dX6_perform_80 rfl ?_
        refine wf_get dX6_perform_81 f_RX6_232 (fun h hr => rd_pad hr) ?_
        refine wf_iadd dX6_perform_84 ?_
        refine wf_aload_n dX6_perform_85 rfl ?_
        refine wf_get dX6_perform_86 f_RX6_235 (fun h hr => rd_pad hr) ?_
        refine wf_sipush dX6_perform_89 ?_
        refine wf_aload_n dX6_perform_92 rfl ?_
        refine wf_get dX6_perform_93 f_RX6_238 (fun h hr => rd_pad hr) ?_
        refine wf_imul dX6_perform_96 ?_
        refine wf_bipush dX6_perform_97 ?_
        refine wf_aload_n dX6_perform_99 rfl ?_
        refine wf_get dX6_perform_100 f_RX6_223 (fun h hr => rd_pad hr) ?_
        refine wf_imul dX6_perform_103 ?_
        refine wf_iadd dX6_perform_104 ?_
        refine wf_aload_n dX6_perform_105 rfl ?_
        refine wf_get dX6_perform_106 f_RX6_226 (fun h hr => rd_pad hr) ?_
        refine wf_iadd dX6_perform_109 ?_
        refine wf_aload_n dX6_perform_110 rfl ?_
        refine wf_get dX6_perform_111 f_RX6_12 (fun h hr => rd_top hr) ?_
        refine wf_get dX6_perform_114 f_RX6_89 (fun h hr => rd_h hr rfl (by omega)) ?_
        refine wf_bipush dX6_perform_117 ?_
        refine wf_aload_n dX6_perform_119 rfl ?_
        refine wf_get dX6_perform_120 f_RX6_241 (fun h hr => rd_pad hr) ?_
        refine wf_imul dX6_perform_123 ?_
        refine wf_iconst dX6_perform_124 ?_
        refine wf_iadd dX6_perform_125 ?_
        refine wf_iconst dX6_perform_126 ?_
        refine wf_cV (put := cH c 0) dX6_perform_127 k_RX6_66 b_yX2_addOrder x_yX2_addOrder (pX2_addOrder (n := n + 2) hE (G := (c, M)) (k := 0) (by omega) ((9 * (c.2.2 0 4)) + (c.2.2 0 5)) (c.2.2 0 6) (((10000 * (c.2.2 0 7)) + (100 * (c.2.2 0 8))) + (c.2.2 0 9)) ((c.1 0).1 0 6 0) ((10 * (c.2.2 0 10)) + 5) 0 _ _) setH_self (fun _ => rfl) (fun h hr => rd_h hr rfl (by omega)) rfl (fun r127 t127 ca => ?_)
        refine wf_bnd (fun c127 => ?_)
        exact wf_ireturn dX6_perform_130 ⟨_, rfl, rfl⟩
      · refine wf_bipush dX6_perform_66 ?_
        exact wf_ireturn dX6_perform_68 ⟨_, rfl, rfl⟩
  refine wf_ite (fun e4_3 => ?_) (fun e4_3 => ?_)
  · refine wf_lk (off := 127) 131 dX6_perform_4 g4 ((congrArg (Op.lookupswitch.offset _ _) e4_3).trans rfl) ?_
    refine wf_aload_n dX6_perform_131 rfl ?_
    refine wf_get dX6_perform_132 f_RX6_12 (fun h hr => rd_top hr) ?_
    refine wf_aload_n dX6_perform_135 rfl ?_
    refine wf_get dX6_perform_136 f_RX6_235 (fun h hr => rd_pad hr) ?_
    refine wf_cV (put := cH c 0) dX6_perform_139 k_RX6_74 b_yX2_stopOrder x_yX2_stopOrder (pX2_stopOrder (n := n + 6) hE (G := (c, M)) (k := 0) (by omega) (c.2.2 0 6) _ _) setH_self (fun _ => rfl) (fun h hr => rd_h hr rfl (by omega)) rfl (fun r139 t139 ca => ?_)
    refine wf_bnd (fun c139 => ?_)
    exact wf_ireturn dX6_perform_142 ⟨_, rfl, rfl⟩
  refine wf_lk (off := 167) 171 dX6_perform_4 g4 (lk_none (by simp; omega)) ?_
  refine wf_aload_n dX6_perform_171 rfl ?_
  refine wf_get dX6_perform_172 f_RX6_12 (fun h hr => rd_top hr) ?_
  refine wf_aload_n dX6_perform_175 rfl ?_
  refine wf_get dX6_perform_176 f_RX6_235 (fun h hr => rd_pad hr) ?_
  refine wf_rV dX6_perform_179 k_RX6_83 b_yX2_errorOfDays x_yX2_errorOfDays (fun h hr => pX2_errorOfDays (n := n + 6) hE hr rfl (by omega) (c.2.2 0 6)) (fun h hr => rd_h hr rfl (by omega)) rfl (fun r179 => ?_)
  refine wf_istore_n dX6_perform_182 ?_
  refine wf_iload_n dX6_perform_183 rfl ?_
  refine wf_gd (fun g184 => ?_)
  refine wf_if_ne 200 dX6_perform_184 g184 (fun h184 => ?_) (fun h184 => ?_)
  · refine wf_iload_n dX6_perform_200 rfl ?_
    exact wf_ireturn dX6_perform_201 ⟨_, rfl, rfl⟩
  · refine wf_aload_n dX6_perform_187 rfl ?_
    refine wf_get dX6_perform_188 f_RX6_12 (fun h hr => rd_top hr) ?_
    refine wf_aload_n dX6_perform_191 rfl ?_
    refine wf_get dX6_perform_192 f_RX6_235 (fun h hr => rd_pad hr) ?_
    refine wf_iconst dX6_perform_195 ?_
    refine wf_cV (put := cH c 0) dX6_perform_196 k_RX6_86 b_yX2_passDays x_yX2_passDays (pX2_passDays (n := n) hE (G := (c, M)) (k := 0) (by omega) (c.2.2 0 6) 0 _ _) setH_self (fun _ => rfl) (fun h hr => rd_h hr rfl (by omega)) rfl (fun r196 t196 ca => ?_)
    refine wf_bnd (fun c196 => ?_)
    refine wf_pop dX6_perform_199 ?_
    refine wf_iload_n dX6_perform_200 rfl ?_
    exact wf_ireturn dX6_perform_201 ⟨_, rfl, rfl⟩
set_option maxRecDepth 100000 in
set_option maxHeartbeats 4000000 in
theorem pX6_carryOut_b96 {E : wE} {n : Nat} (hE : wGE E) {M : mR} (x1 : Int)  (c : cR) (ca : caT) : WF E (n + 10) yX6_carryOut cX6_carryOut 3 (some .int) vI (fun c : cR => (c, M)) ca 96 (wLs [some (.ref (aTop E)), some (.int (iI x1))]) [] c (fX6_carryOut_b96 x1 c) := by
  unfold fX6_carryOut_b96
  refine wf_aload_n dX6_carryOut_96 rfl ?_
  refine wf_get dX6_carryOut_97 f_RX6_33 (fun h hr => rd_top hr) ?_
  refine wf_iconst dX6_carryOut_100 ?_
  refine wf_pc_padf (f := 1) dX6_carryOut_101 p_RX6_151 (fun c101 => ?_)
  refine wf_aload_n dX6_carryOut_104 rfl ?_
  refine wf_iload_n dX6_carryOut_105 rfl ?_
  refine wf_cV (put := fun q => q) dX6_carryOut_106 k_RX6_44 b_yX6_recorded x_yX6_recorded (pX6_recorded (n := n + 7) hE x1 _ _) rfl (fun _ => rfl) (fun h hr => rd_top hr) rfl (fun r106 c106 ca => ?_)
  exact wf_ireturn dX6_carryOut_109 ⟨_, rfl, rfl⟩
set_option maxRecDepth 100000 in
set_option maxHeartbeats 4000000 in
theorem pX6_carryOut_b29 {E : wE} {n : Nat} (hE : wGE E) {M : mR} : ∀ (fuel : Nat) (x1 : Int) (x2 : Int)  (c : cR) (ca : caT), WF E (n + 10) yX6_carryOut cX6_carryOut 3 (some .int) vI (fun c : cR => (c, M)) ca 29 (wLs [some (.ref (aTop E)), some (.int (iI x1)), some (.int (iI x2))]) [] c (fX6_carryOut_b29 fuel x1 x2 c) := by
  intro fuel
  induction fuel with
  | zero =>
    intro x1 x2 c ca
    exact wf_none
  | succ fuel ih =>
    intro x1 x2 c ca
    unfold fX6_carryOut_b29
    refine wf_iload_n dX6_carryOut_29 rfl ?_
    refine wf_bipush dX6_carryOut_30 ?_
    refine wf_gd (fun g32 => ?_)
    refine wf_icmp_ge 96 dX6_carryOut_32 g32 (by decide) (fun h32 => ?_) (fun h32 => ?_)
    · exact wf_at (pX6_carryOut_b96 (n := n) hE  x1 _ _) ⟨rfl, rfl, trivial⟩
    · refine wf_aload_n dX6_carryOut_35 rfl ?_
      refine wf_get dX6_carryOut_36 f_RX6_33 (fun h hr => rd_top hr) ?_
      refine wf_get dX6_carryOut_39 f_RX6_195 (fun h hr => rd_pad hr) ?_
      refine wf_aload_n dX6_carryOut_42 rfl ?_
      refine wf_get dX6_carryOut_43 f_RX6_33 (fun h hr => rd_top hr) ?_
      refine wf_get dX6_carryOut_46 f_RX6_151 (fun h hr => rd_pad hr) ?_
      refine wf_gd (fun g49 => ?_)
      refine wf_icmp_ge 96 dX6_carryOut_49 g49.1 g49.2 (fun h49 => ?_) (fun h49 => ?_)
      · exact wf_at (pX6_carryOut_b96 (n := n) hE  x1 _ _) ⟨rfl, rfl, trivial⟩
      · refine wf_aload_n dX6_carryOut_52 rfl ?_
        refine wf_get dX6_carryOut_53 f_RX6_33 (fun h hr => rd_top hr) ?_
        refine wf_cV (put := cP c) dX6_carryOut_56 k_RX6_198 b_yX4_readAct x_yX4_readAct (pX4_readAct (n := n + 1) hE (C := c) (M := M) _ _) rfl (fun _ => rfl) (fun h hr => rd_pad hr) rfl (fun r56 t56 ca => ?_)
        refine wf_bnd (fun c56 => ?_)
        refine wf_pop dX6_carryOut_59 ?_
        refine wf_aload_n dX6_carryOut_60 rfl ?_
        refine wf_get dX6_carryOut_61 f_RX6_33 (fun h hr => rd_top hr) ?_
        refine wf_bipush dX6_carryOut_64 ?_
        refine wf_cV (put := cP c56) dX6_carryOut_66 k_RX6_201 b_yX4_takes x_yX4_takes (pX4_takes (n := n + 8) hE (C := c56) (M := M) 59 _ _) rfl (fun _ => rfl) (fun h hr => rd_pad hr) rfl (fun r66 t66 ca => ?_)
        refine wf_bnd (fun c66 => ?_)
        refine wf_pop dX6_carryOut_69 ?_
        refine wf_aload_n dX6_carryOut_70 rfl ?_
        refine wf_aload_n dX6_carryOut_71 rfl ?_
        refine wf_get dX6_carryOut_72 f_RX6_33 (fun h hr => rd_top hr) ?_
        refine wf_cV (put := fun q => q) dX6_carryOut_75 k_RX6_205 b_yX6_perform x_yX6_perform (pX6_perform (n := n + 1) hE _ _) rfl (fun _ => rfl) (fun h hr => rd_top hr) rfl (fun r75 c75 ca => ?_)
        refine wf_rS dX6_carryOut_78 k_RX6_209 b_yX6_isError x_yX6_isError (fun h hr => pX6_isError (n := n + 8) hE r75) (fun r78 => ?_)
        refine wf_gd (fun g81 => ?_)
        refine wf_if_eq 87 dX6_carryOut_81 g81 (fun h81 => ?_) (fun h81 => ?_)
        · refine wf_iinc dX6_carryOut_87 rfl ?_
          refine wf_iinc dX6_carryOut_90 rfl ?_
          refine wf_goto 29 dX6_carryOut_93 ?_
          exact wf_at (ih (x1 + 1) (x2 + 1) _ _) ⟨rfl, rfl, rfl, trivial⟩
        · refine wf_goto 96 dX6_carryOut_84 ?_
          exact wf_at (pX6_carryOut_b96 (n := n) hE  x1 _ _) ⟨rfl, rfl, trivial⟩
set_option maxRecDepth 100000 in
set_option maxHeartbeats 4000000 in
theorem pX6_carryOut {E : wE} {n : Nat} (hE : wGE E) {M : mR}   (c : cR) (ca : caT) : WF E (n + 10) yX6_carryOut cX6_carryOut 3 (some .int) vI (fun c : cR => (c, M)) ca 0 (wArgs [.ref (aTop E)]) [] c (fX6_carryOut  c) := by
  unfold fX6_carryOut
  refine wf_aload_n dX6_carryOut_0 rfl ?_
  refine wf_get dX6_carryOut_1 f_RX6_33 (fun h hr => rd_top hr) ?_
  refine wf_cV (put := cP c) dX6_carryOut_4 k_RX6_191 b_yX4_isSound x_yX4_isSound (pX4_isSound (n := n) hE (C := c) (M := M) _ _) rfl (fun _ => rfl) (fun h hr => rd_pad hr) rfl (fun r4 t4 ca => ?_)
  refine wf_bnd (fun c4 => ?_)
  refine wf_gd (fun g7 => ?_)
  refine wf_if_ne 13 dX6_carryOut_7 g7 (fun h7 => ?_) (fun h7 => ?_)
  · refine wf_aload_n dX6_carryOut_13 rfl ?_
    refine wf_cV (put := fun q => q) dX6_carryOut_14 k_RX6_37 b_yX6_remember x_yX6_remember (pX6_remember (n := n + 3) hE _ _) rfl (fun _ => rfl) (fun h hr => rd_top hr) rfl (fun r14 c14 ca => ?_)
    refine wf_iconst dX6_carryOut_17 ?_
    refine wf_istore_n dX6_carryOut_18 ?_
    refine wf_aload_n dX6_carryOut_19 rfl ?_
    refine wf_get dX6_carryOut_20 f_RX6_33 (fun h hr => rd_top hr) ?_
    refine wf_iconst dX6_carryOut_23 ?_
    refine wf_pc_padf (f := 2) dX6_carryOut_24 p_RX6_195 (fun c24 => ?_)
    refine wf_iconst dX6_carryOut_27 ?_
    refine wf_istore_n dX6_carryOut_28 ?_
    exact wf_at (pX6_carryOut_b29 (n := n) hE  fuel0 0 0 _ _) ⟨rfl, rfl, rfl, trivial⟩
  · refine wf_bipush dX6_carryOut_10 ?_
    exact wf_ireturn dX6_carryOut_12 ⟨_, rfl, rfl⟩
set_option maxRecDepth 100000 in
set_option maxHeartbeats 4000000 in
theorem pX6_change {E : wE} {n : Nat} (hE : wGE E) {M : mR} (x1 : Int) (x2 : Int) (x3 : Int)  (c : cR) (ca : caT) : WF E (n + 7) yX6_change cX6_change 4 (some .int) vI (fun c : cR => (c, M)) ca 0 (wArgs [.ref (aTop E), .int (iI x1), .int (iI x2), .int (iI x3)]) [] c (fX6_change x1 x2 x3 c) := by
  unfold fX6_change
  refine wf_aload_n dX6_change_0 rfl ?_
  refine wf_cV (put := fun q => q) dX6_change_1 k_RX6_37 b_yX6_remember x_yX6_remember (pX6_remember (n := n) hE _ _) rfl (fun _ => rfl) (fun h hr => rd_top hr) rfl (fun r1 c1 ca => ?_)
  refine wf_aload_n dX6_change_4 rfl ?_
  refine wf_aload_n dX6_change_5 rfl ?_
  refine wf_get dX6_change_6 f_RX6_12 (fun h hr => rd_top hr) ?_
  refine wf_iload_n dX6_change_9 rfl ?_
  refine wf_iload_n dX6_change_10 rfl ?_
  refine wf_iload_n dX6_change_11 rfl ?_
  refine wf_cV (put := cH c1 0) dX6_change_12 k_RX6_70 b_yX2_alterOrder x_yX2_alterOrder (pX2_alterOrder (n := n + 5) hE (G := (c1, M)) (k := 0) (by omega) x1 x2 x3 _ _) setH_self (fun _ => rfl) (fun h hr => rd_h hr rfl (by omega)) rfl (fun r12 t12 ca => ?_)
  refine wf_bnd (fun c12 => ?_)
  refine wf_cV (put := fun q => q) dX6_change_15 k_RX6_44 b_yX6_recorded x_yX6_recorded (pX6_recorded (n := n + 4) hE r12 _ _) rfl (fun _ => rfl) (fun h hr => rd_top hr) rfl (fun r15 c15 ca => ?_)
  exact wf_ireturn dX6_change_18 ⟨_, rfl, rfl⟩
set_option maxRecDepth 100000 in
set_option maxHeartbeats 4000000 in
theorem pX6_count {E : wE} {n : Nat} (hE : wGE E) {M : mR} {c : cR} {ca : caT} {h : hW} (hr : rep E (c, M) ca h) (x1 : Int)  : WR E (n + 3) yX6_count cX6_count 2 (some .int) vI h 0 (wArgs [.ref (aTop E), .int (iI x1)]) [] (fX6_count x1 c) := by
  unfold fX6_count
  refine wr_iload_n dX6_count_0 rfl ?_
  refine wr_bipush dX6_count_1 ?_
  refine wr_gd (fun g3 => ?_)
  refine wr_icmp_ne 14 dX6_count_3 g3 (by decide) (fun h3 => ?_) (fun h3 => ?_)
  · refine wr_iload_n dX6_count_14 rfl ?_
    refine wr_bipush dX6_count_15 ?_
    refine wr_gd (fun g17 => ?_)
    refine wr_icmp_ne 25 dX6_count_17 g17 (by decide) (fun h17 => ?_) (fun h17 => ?_)
    · refine wr_aload_n dX6_count_25 rfl ?_
      refine wr_get dX6_count_26 f_RX6_12 (rd_top hr) ?_
      refine wr_iload_n dX6_count_29 rfl ?_
      refine wr_cV dX6_count_30 k_RX6_157 b_yX2_numberOf x_yX2_numberOf (pX2_numberOf (n := n) hE hr rfl (by omega) x1) (rd_h hr rfl (by omega)) rfl (fun r30 => ?_)
      exact wr_ireturn dX6_count_33 ⟨_, rfl, rfl⟩
    · refine wr_aload_n dX6_count_20 rfl ?_
      refine wr_get dX6_count_21 f_RX6_154 (rd_top hr) ?_
      exact wr_ireturn dX6_count_24 ⟨_, rfl, rfl⟩
  · refine wr_aload_n dX6_count_6 rfl ?_
    refine wr_get dX6_count_7 f_RX6_33 (rd_top hr) ?_
    refine wr_get dX6_count_10 f_RX6_151 (rd_pad hr) ?_
    exact wr_ireturn dX6_count_13 ⟨_, rfl, rfl⟩
set_option maxRecDepth 100000 in
set_option maxHeartbeats 4000000 in
theorem pX6_dateOf {E : wE} {n : Nat} (hE : wGE E) {M : mR} (x1 : Int) (x2 : Int)  (c : cR) (ca : caT) : WF E (n + 5) yX6_dateOf cX6_dateOf 3 (some .int) vI (fun c : cR => (c, M)) ca 0 (wArgs [.ref (aTop E), .int (iI x1), .int (iI x2)]) [] c (fX6_dateOf x1 x2 c) := by
  unfold fX6_dateOf
  refine wf_aload_n dX6_dateOf_0 rfl ?_
  refine wf_get dX6_dateOf_1 f_RX6_12 (fun h hr => rd_top hr) ?_
  refine wf_iload_n dX6_dateOf_4 rfl ?_
  refine wf_rV dX6_dateOf_5 k_RX6_124 b_yX2_hasOrder x_yX2_hasOrder (fun h hr => pX2_hasOrder (n := n + 4) hE hr rfl (by omega) x1) (fun h hr => rd_h hr rfl (by omega)) rfl (fun r5 => ?_)
  refine wf_gd (fun g8 => ?_)
  refine wf_if_ne 13 dX6_dateOf_8 g8 (fun h8 => ?_) (fun h8 => ?_)
  · refine wf_iload_n dX6_dateOf_13 rfl ?_
    refine wf_iconst dX6_dateOf_14 ?_
    refine wf_bipush dX6_dateOf_15 ?_
    refine wf_rS dX6_dateOf_17 k_RX6_93 b_yX6_isBetween x_yX6_isBetween (fun h hr => pX6_isBetween (n := n + 4) hE x2 0 99) (fun r17 => ?_)
    refine wf_gd (fun g20 => ?_)
    refine wf_if_ne 26 dX6_dateOf_20 g20 (fun h20 => ?_) (fun h20 => ?_)
    · refine wf_aload_n dX6_dateOf_26 rfl ?_
      refine wf_get dX6_dateOf_27 f_RX6_12 (fun h hr => rd_top hr) ?_
      refine wf_get dX6_dateOf_30 f_RX6_130 (fun h hr => rd_h hr rfl (by omega)) ?_
      refine wf_iload_n dX6_dateOf_33 rfl ?_
      refine wf_gd (fun g34 => ?_)
      refine wf_aald_ord dX6_dateOf_34 g34 (fun h hr => rd_ords hr rfl (by omega)) ?_
      refine wf_iload_n dX6_dateOf_35 rfl ?_
      refine wf_aload_n dX6_dateOf_36 rfl ?_
      refine wf_get dX6_dateOf_37 f_RX6_12 (fun h hr => rd_top hr) ?_
      refine wf_get dX6_dateOf_40 f_RX6_48 (fun h hr => rd_h hr rfl (by omega)) ?_
      refine wf_cV (put := cH c 0) dX6_dateOf_43 k_RX6_158 b_yX3_dateBehindNext x_yX3_dateBehindNext (pX3_dateBehindNext (n := n) hE (G := (c, M)) (k := 0) (by omega) x1 x2 (by omega) _ _) setH_self (fun _ => rfl) (fun h hr => rd_ord hr rfl (by omega) (by omega)) rfl (fun r43 t43 ca => ?_)
      refine wf_bnd (fun c43 => ?_)
      exact wf_ireturn dX6_dateOf_46 ⟨_, rfl, rfl⟩
    · refine wf_bipush dX6_dateOf_23 ?_
      exact wf_ireturn dX6_dateOf_25 ⟨_, rfl, rfl⟩
  · refine wf_iconst dX6_dateOf_11 ?_
    exact wf_ireturn dX6_dateOf_12 ⟨_, rfl, rfl⟩
set_option maxRecDepth 100000 in
set_option maxHeartbeats 4000000 in
theorem pX6_days {E : wE} {n : Nat} (hE : wGE E) {M : mR} (x1 : Int)  (c : cR) (ca : caT) : WF E (n + 8) yX6_days cX6_days 3 (some .int) vI (fun c : cR => (c, M)) ca 0 (wArgs [.ref (aTop E), .int (iI x1)]) [] c (fX6_days x1 c) := by
  unfold fX6_days
  refine wf_aload_n dX6_days_0 rfl ?_
  refine wf_get dX6_days_1 f_RX6_12 (fun h hr => rd_top hr) ?_
  refine wf_iload_n dX6_days_4 rfl ?_
  refine wf_rV dX6_days_5 k_RX6_83 b_yX2_errorOfDays x_yX2_errorOfDays (fun h hr => pX2_errorOfDays (n := n + 6) hE hr rfl (by omega) x1) (fun h hr => rd_h hr rfl (by omega)) rfl (fun r5 => ?_)
  refine wf_istore_n dX6_days_8 ?_
  refine wf_iload_n dX6_days_9 rfl ?_
  refine wf_gd (fun g10 => ?_)
  refine wf_if_eq 15 dX6_days_10 g10 (fun h10 => ?_) (fun h10 => ?_)
  · refine wf_aload_n dX6_days_15 rfl ?_
    refine wf_cV (put := fun q => q) dX6_days_16 k_RX6_37 b_yX6_remember x_yX6_remember (pX6_remember (n := n + 1) hE _ _) rfl (fun _ => rfl) (fun h hr => rd_top hr) rfl (fun r16 c16 ca => ?_)
    refine wf_aload_n dX6_days_19 rfl ?_
    refine wf_get dX6_days_20 f_RX6_12 (fun h hr => rd_top hr) ?_
    refine wf_iload_n dX6_days_23 rfl ?_
    refine wf_iconst dX6_days_24 ?_
    refine wf_cV (put := cH c16 0) dX6_days_25 k_RX6_86 b_yX2_passDays x_yX2_passDays (pX2_passDays (n := n) hE (G := (c16, M)) (k := 0) (by omega) x1 0 _ _) setH_self (fun _ => rfl) (fun h hr => rd_h hr rfl (by omega)) rfl (fun r25 t25 ca => ?_)
    refine wf_bnd (fun c25 => ?_)
    refine wf_pop dX6_days_28 ?_
    refine wf_aload_n dX6_days_29 rfl ?_
    refine wf_aload_n dX6_days_30 rfl ?_
    refine wf_get dX6_days_31 f_RX6_12 (fun h hr => rd_top hr) ?_
    refine wf_get dX6_days_34 f_RX6_89 (fun h hr => rd_h hr rfl (by omega)) ?_
    refine wf_cV (put := fun q => q) dX6_days_37 k_RX6_44 b_yX6_recorded x_yX6_recorded (pX6_recorded (n := n + 5) hE ((c25.1 0).1 0 6 0) _ _) rfl (fun _ => rfl) (fun h hr => rd_top hr) rfl (fun r37 c37 ca => ?_)
    exact wf_ireturn dX6_days_40 ⟨_, rfl, rfl⟩
  · refine wf_iload_n dX6_days_13 rfl ?_
    exact wf_ireturn dX6_days_14 ⟨_, rfl, rfl⟩
set_option maxRecDepth 100000 in
set_option maxHeartbeats 4000000 in
theorem pX6_deposit {E : wE} {n : Nat} (hE : wGE E) {M : mR} (x1 : Int) (x2 : Int)  (c : cR) (ca : caT) : WF E (n + 7) yX6_deposit cX6_deposit 3 (some .int) vI (fun c : cR => (c, M)) ca 0 (wArgs [.ref (aTop E), .int (iI x1), .int (iI x2)]) [] c (fX6_deposit x1 x2 c) := by
  unfold fX6_deposit
  refine wf_aload_n dX6_deposit_0 rfl ?_
  refine wf_cV (put := fun q => q) dX6_deposit_1 k_RX6_37 b_yX6_remember x_yX6_remember (pX6_remember (n := n) hE _ _) rfl (fun _ => rfl) (fun h hr => rd_top hr) rfl (fun r1 c1 ca => ?_)
  refine wf_aload_n dX6_deposit_4 rfl ?_
  refine wf_aload_n dX6_deposit_5 rfl ?_
  refine wf_get dX6_deposit_6 f_RX6_12 (fun h hr => rd_top hr) ?_
  refine wf_iload_n dX6_deposit_9 rfl ?_
  refine wf_iload_n dX6_deposit_10 rfl ?_
  refine wf_cV (put := cH c1 0) dX6_deposit_11 k_RX6_63 b_yX2_payIn x_yX2_payIn (pX2_payIn (n := n + 5) hE (G := (c1, M)) (k := 0) (by omega) x1 x2 _ _) setH_self (fun _ => rfl) (fun h hr => rd_h hr rfl (by omega)) rfl (fun r11 t11 ca => ?_)
  refine wf_bnd (fun c11 => ?_)
  refine wf_cV (put := fun q => q) dX6_deposit_14 k_RX6_44 b_yX6_recorded x_yX6_recorded (pX6_recorded (n := n + 4) hE r11 _ _) rfl (fun _ => rfl) (fun h hr => rd_top hr) rfl (fun r14 c14 ca => ?_)
  exact wf_ireturn dX6_deposit_17 ⟨_, rfl, rfl⟩
set_option maxRecDepth 100000 in
set_option maxHeartbeats 4000000 in
theorem pX6_fault {E : wE} {n : Nat} (hE : wGE E) {M : mR}   (c : cR) (ca : caT) : WF E (n + 10) yX6_fault cX6_fault 1 (some .int) vI (fun c : cR => (c, M)) ca 0 (wArgs [.ref (aTop E)]) [] c (fX6_fault  c) := by
  unfold fX6_fault
  refine wf_aload_n dX6_fault_0 rfl ?_
  refine wf_get dX6_fault_1 f_RX6_33 (fun h hr => rd_top hr) ?_
  refine wf_cV (put := cP c) dX6_fault_4 k_RX6_191 b_yX4_isSound x_yX4_isSound (pX4_isSound (n := n) hE (C := c) (M := M) _ _) rfl (fun _ => rfl) (fun h hr => rd_pad hr) rfl (fun r4 t4 ca => ?_)
  refine wf_bnd (fun c4 => ?_)
  refine wf_gd (fun g7 => ?_)
  refine wf_if_eq 15 dX6_fault_7 g7 (fun h7 => ?_) (fun h7 => ?_)
  · refine wf_aload_n dX6_fault_15 rfl ?_
    refine wf_get dX6_fault_16 f_RX6_33 (fun h hr => rd_top hr) ?_
    refine wf_get dX6_fault_19 f_RX6_195 (fun h hr => rd_pad hr) ?_
    exact wf_ireturn dX6_fault_22 ⟨_, rfl, rfl⟩
  · refine wf_bipush dX6_fault_10 ?_
    refine wf_goto 22 dX6_fault_12 ?_
    exact wf_ireturn dX6_fault_22 ⟨_, rfl, rfl⟩
set_option maxRecDepth 100000 in
set_option maxHeartbeats 4000000 in
theorem pX6_feed {E : wE} {n : Nat} (hE : wGE E) {M : mR} (x1 : Int) (x2 : Int)  (c : cR) (ca : caT) : WF E (n + 7) yX6_feed cX6_feed 3 (some .int) vI (fun c : cR => (c, M)) ca 0 (wArgs [.ref (aTop E), .int (iI x1), .int (iI x2)]) [] c (fX6_feed x1 x2 c) := by
  unfold fX6_feed
  refine wf_aload_n dX6_feed_0 rfl ?_
  refine wf_cV (put := fun q => q) dX6_feed_1 k_RX6_37 b_yX6_remember x_yX6_remember (pX6_remember (n := n) hE _ _) rfl (fun _ => rfl) (fun h hr => rd_top hr) rfl (fun r1 c1 ca => ?_)
  refine wf_aload_n dX6_feed_4 rfl ?_
  refine wf_aload_n dX6_feed_5 rfl ?_
  refine wf_get dX6_feed_6 f_RX6_12 (fun h hr => rd_top hr) ?_
  refine wf_iload_n dX6_feed_9 rfl ?_
  refine wf_iload_n dX6_feed_10 rfl ?_
  refine wf_cV (put := cH c1 0) dX6_feed_11 k_RX6_60 b_yX2_nameFeeder x_yX2_nameFeeder (pX2_nameFeeder (n := n + 5) hE (G := (c1, M)) (k := 0) (by omega) x1 x2 _ _) setH_self (fun _ => rfl) (fun h hr => rd_h hr rfl (by omega)) rfl (fun r11 t11 ca => ?_)
  refine wf_bnd (fun c11 => ?_)
  refine wf_cV (put := fun q => q) dX6_feed_14 k_RX6_44 b_yX6_recorded x_yX6_recorded (pX6_recorded (n := n + 4) hE r11 _ _) rfl (fun _ => rfl) (fun h hr => rd_top hr) rfl (fun r14 c14 ca => ?_)
  exact wf_ireturn dX6_feed_17 ⟨_, rfl, rfl⟩
set_option maxRecDepth 100000 in
set_option maxHeartbeats 4000000 in
theorem pX6_firstFailure_b50 {E : wE} {n : Nat} (hE : wGE E) {M : mR} (t1 : Int) (t2 : Int)  (c : cR) (ca : caT) : WF E (n + 8) yX6_firstFailure cX6_firstFailure 2 (some .int) vI (fun c : cR => (c, M)) ca 50 (wLs []) [.int (iI t2), .int (iI t1), .ref (aH E 1)] c (fX6_firstFailure_b50 t1 t2 c) := by
  unfold fX6_firstFailure_b50
  refine wf_cV (put := cH c 1) dX6_firstFailure_50 k_RX6_86 b_yX2_passDays x_yX2_passDays (pX2_passDays (n := n) hE (G := (c, M)) (k := 1) (by omega) t1 t2 _ _) setH_self (fun _ => rfl) (fun h hr => rd_h hr rfl (by omega)) rfl (fun r50 t50 ca => ?_)
  refine wf_bnd (fun c50 => ?_)
  exact wf_ireturn dX6_firstFailure_53 ⟨_, rfl, rfl⟩
set_option maxRecDepth 100000 in
set_option maxHeartbeats 4000000 in
theorem pX6_firstFailure_b19 {E : wE} {n : Nat} (hE : wGE E) {M : mR} (x1 : Int)  (c : cR) (ca : caT) : WF E (n + 8) yX6_firstFailure cX6_firstFailure 2 (some .int) vI (fun c : cR => (c, M)) ca 19 (wLs [some (.ref (aTop E)), some (.int (iI x1))]) [] c (fX6_firstFailure_b19 x1 c) := by
  unfold fX6_firstFailure_b19
  refine wf_aload_n dX6_firstFailure_19 rfl ?_
  refine wf_get dX6_firstFailure_20 f_RX6_16 (fun h hr => rd_top hr) ?_
  refine wf_aload_n dX6_firstFailure_23 rfl ?_
  refine wf_get dX6_firstFailure_24 f_RX6_12 (fun h hr => rd_top hr) ?_
  refine wf_cV (put := cH c 1) dX6_firstFailure_27 k_RX6_167 b_yX2_copyFrom x_yX2_copyFrom (pX2_copyFrom (n := n + 2) hE (G := (c, M)) (k := 1) (by omega) (k2 := 0) (by omega) (by omega) rfl _ _) setH_self (fun _ => rfl) (fun h hr => rd_h hr rfl (by omega)) rfl (fun r27 t27 ca => ?_)
  refine wf_bnd (fun c27 => ?_)
  refine wf_aload_n dX6_firstFailure_30 rfl ?_
  refine wf_get dX6_firstFailure_31 f_RX6_16 (fun h hr => rd_top hr) ?_
  refine wf_sipush dX6_firstFailure_34 ?_
  refine wf_iload_n dX6_firstFailure_37 rfl ?_
  refine wf_bipush dX6_firstFailure_38 ?_
  refine wf_gd (fun g40 => ?_)
  refine wf_icmp_ne 47 dX6_firstFailure_40 g40 (by decide) (fun h40 => ?_) (fun h40 => ?_)
  · refine wf_iconst dX6_firstFailure_47 ?_
    refine wf_iload_n dX6_firstFailure_48 rfl ?_
    refine wf_ishl dX6_firstFailure_49 ?_
    exact wf_at (pX6_firstFailure_b50 (n := n) hE  400 (shlI 1 x1) _ _) trivial
  · refine wf_iconst dX6_firstFailure_43 ?_
    refine wf_goto 50 dX6_firstFailure_44 ?_
    exact wf_at (pX6_firstFailure_b50 (n := n) hE  400 (-1) _ _) trivial
set_option maxRecDepth 100000 in
set_option maxHeartbeats 4000000 in
theorem pX6_firstFailure {E : wE} {n : Nat} (hE : wGE E) {M : mR} (x1 : Int)  (c : cR) (ca : caT) : WF E (n + 8) yX6_firstFailure cX6_firstFailure 2 (some .int) vI (fun c : cR => (c, M)) ca 0 (wArgs [.ref (aTop E), .int (iI x1)]) [] c (fX6_firstFailure x1 c) := by
  unfold fX6_firstFailure
  refine wf_iload_n dX6_firstFailure_0 rfl ?_
  refine wf_bipush dX6_firstFailure_1 ?_
  refine wf_gd (fun g3 => ?_)
  refine wf_icmp_eq 19 dX6_firstFailure_3 g3 (by decide) (fun h3 => ?_) (fun h3 => ?_)
  · exact wf_at (pX6_firstFailure_b19 (n := n) hE  x1 _ _) ⟨rfl, rfl, trivial⟩
  · refine wf_aload_n dX6_firstFailure_6 rfl ?_
    refine wf_get dX6_firstFailure_7 f_RX6_12 (fun h hr => rd_top hr) ?_
    refine wf_iload_n dX6_firstFailure_10 rfl ?_
    refine wf_rV dX6_firstFailure_11 k_RX6_100 b_yX2_hasAccount x_yX2_hasAccount (fun h hr => pX2_hasAccount (n := n + 7) hE hr rfl (by omega) x1) (fun h hr => rd_h hr rfl (by omega)) rfl (fun r11 => ?_)
    refine wf_gd (fun g14 => ?_)
    refine wf_if_ne 19 dX6_firstFailure_14 g14 (fun h14 => ?_) (fun h14 => ?_)
    · exact wf_at (pX6_firstFailure_b19 (n := n) hE  x1 _ _) ⟨rfl, rfl, trivial⟩
    · refine wf_iconst dX6_firstFailure_17 ?_
      exact wf_ireturn dX6_firstFailure_18 ⟨_, rfl, rfl⟩
set_option maxRecDepth 100000 in
set_option maxHeartbeats 4000000 in
theorem pX6_giveUp {E : wE} {n : Nat} (hE : wGE E) {M : mR} (x1 : Int)  (c : cR) (ca : caT) : WF E (n + 7) yX6_giveUp cX6_giveUp 2 (some .int) vI (fun c : cR => (c, M)) ca 0 (wArgs [.ref (aTop E), .int (iI x1)]) [] c (fX6_giveUp x1 c) := by
  unfold fX6_giveUp
  refine wf_aload_n dX6_giveUp_0 rfl ?_
  refine wf_cV (put := fun q => q) dX6_giveUp_1 k_RX6_37 b_yX6_remember x_yX6_remember (pX6_remember (n := n) hE _ _) rfl (fun _ => rfl) (fun h hr => rd_top hr) rfl (fun r1 c1 ca => ?_)
  refine wf_aload_n dX6_giveUp_4 rfl ?_
  refine wf_aload_n dX6_giveUp_5 rfl ?_
  refine wf_get dX6_giveUp_6 f_RX6_12 (fun h hr => rd_top hr) ?_
  refine wf_iload_n dX6_giveUp_9 rfl ?_
  refine wf_cV (put := cH c1 0) dX6_giveUp_10 k_RX6_80 b_yX2_dropPayment x_yX2_dropPayment (pX2_dropPayment (n := n + 5) hE (G := (c1, M)) (k := 0) (by omega) x1 _ _) setH_self (fun _ => rfl) (fun h hr => rd_h hr rfl (by omega)) rfl (fun r10 t10 ca => ?_)
  refine wf_bnd (fun c10 => ?_)
  refine wf_cV (put := fun q => q) dX6_giveUp_13 k_RX6_44 b_yX6_recorded x_yX6_recorded (pX6_recorded (n := n + 4) hE r10 _ _) rfl (fun _ => rfl) (fun h hr => rd_top hr) rfl (fun r13 c13 ca => ?_)
  exact wf_ireturn dX6_giveUp_16 ⟨_, rfl, rfl⟩
set_option maxRecDepth 100000 in
set_option maxHeartbeats 4000000 in
theorem pX6_goOn {E : wE} {n : Nat} (hE : wGE E) {M : mR} (x1 : Int)  (c : cR) (ca : caT) : WF E (n + 7) yX6_goOn cX6_goOn 2 (some .int) vI (fun c : cR => (c, M)) ca 0 (wArgs [.ref (aTop E), .int (iI x1)]) [] c (fX6_goOn x1 c) := by
  unfold fX6_goOn
  refine wf_aload_n dX6_goOn_0 rfl ?_
  refine wf_cV (put := fun q => q) dX6_goOn_1 k_RX6_37 b_yX6_remember x_yX6_remember (pX6_remember (n := n) hE _ _) rfl (fun _ => rfl) (fun h hr => rd_top hr) rfl (fun r1 c1 ca => ?_)
  refine wf_aload_n dX6_goOn_4 rfl ?_
  refine wf_aload_n dX6_goOn_5 rfl ?_
  refine wf_get dX6_goOn_6 f_RX6_12 (fun h hr => rd_top hr) ?_
  refine wf_iload_n dX6_goOn_9 rfl ?_
  refine wf_cV (put := cH c1 0) dX6_goOn_10 k_RX6_77 b_yX2_resumeOrder x_yX2_resumeOrder (pX2_resumeOrder (n := n + 1) hE (G := (c1, M)) (k := 0) (by omega) x1 _ _) setH_self (fun _ => rfl) (fun h hr => rd_h hr rfl (by omega)) rfl (fun r10 t10 ca => ?_)
  refine wf_bnd (fun c10 => ?_)
  refine wf_cV (put := fun q => q) dX6_goOn_13 k_RX6_44 b_yX6_recorded x_yX6_recorded (pX6_recorded (n := n + 4) hE r10 _ _) rfl (fun _ => rfl) (fun h hr => rd_top hr) rfl (fun r13 c13 ca => ?_)
  exact wf_ireturn dX6_goOn_16 ⟨_, rfl, rfl⟩
set_option maxRecDepth 100000 in
set_option maxHeartbeats 4000000 in
theorem pX6_holiday {E : wE} {n : Nat} (hE : wGE E) {M : mR} (x1 : Int) (x2 : Int)  (c : cR) (ca : caT) : WF E (n + 7) yX6_holiday cX6_holiday 3 (some .int) vI (fun c : cR => (c, M)) ca 0 (wArgs [.ref (aTop E), .int (iI x1), .int (iI x2)]) [] c (fX6_holiday x1 x2 c) := by
  unfold fX6_holiday
  refine wf_aload_n dX6_holiday_0 rfl ?_
  refine wf_cV (put := fun q => q) dX6_holiday_1 k_RX6_37 b_yX6_remember x_yX6_remember (pX6_remember (n := n) hE _ _) rfl (fun _ => rfl) (fun h hr => rd_top hr) rfl (fun r1 c1 ca => ?_)
  refine wf_aload_n dX6_holiday_4 rfl ?_
  refine wf_aload_n dX6_holiday_5 rfl ?_
  refine wf_get dX6_holiday_6 f_RX6_12 (fun h hr => rd_top hr) ?_
  refine wf_get dX6_holiday_9 f_RX6_48 (fun h hr => rd_h hr rfl (by omega)) ?_
  refine wf_iload_n dX6_holiday_12 rfl ?_
  refine wf_iload_n dX6_holiday_13 rfl ?_
  refine wf_cV (put := cH c1 0) dX6_holiday_14 k_RX6_52 b_yX1_mark x_yX1_mark (pX1_mark (n := n + 5) hE (G := (c1, M)) (k := 0) (by omega) x1 x2 _ _) setH_self (fun _ => rfl) (fun h hr => rd_cal hr rfl (by omega)) rfl (fun r14 t14 ca => ?_)
  refine wf_bnd (fun c14 => ?_)
  refine wf_cV (put := fun q => q) dX6_holiday_17 k_RX6_44 b_yX6_recorded x_yX6_recorded (pX6_recorded (n := n + 4) hE r14 _ _) rfl (fun _ => rfl) (fun h hr => rd_top hr) rfl (fun r17 c17 ca => ?_)
  exact wf_ireturn dX6_holiday_20 ⟨_, rfl, rfl⟩
set_option maxRecDepth 100000 in
set_option maxHeartbeats 4000000 in
theorem pX6_leastDeposit_b28 {E : wE} {n : Nat} (hE : wGE E) {M : mR} : ∀ (fuel : Nat) (x1 : Int) (x2 : Int) (x3 : Int)  (c : cR) (ca : caT), WF E (n + 8) yX6_leastDeposit cX6_leastDeposit 4 (some .int) vI (fun c : cR => (c, M)) ca 28 (wLs [some (.ref (aTop E)), some (.int (iI x1)), some (.int (iI x2)), some (.int (iI x3))]) [] c (fX6_leastDeposit_b28 fuel x1 x2 x3 c) := by
  intro fuel
  induction fuel with
  | zero =>
    intro x1 x2 x3 c ca
    exact wf_none
  | succ fuel ih =>
    intro x1 x2 x3 c ca
    unfold fX6_leastDeposit_b28
    refine wf_iload_n dX6_leastDeposit_28 rfl ?_
    refine wf_ldc dX6_leastDeposit_29 c_RX6_175 ?_
    refine wf_gd (fun g31 => ?_)
    refine wf_icmp_gt 91 dX6_leastDeposit_31 g31 (by decide) (fun h31 => ?_) (fun h31 => ?_)
    · refine wf_bipush dX6_leastDeposit_91 ?_
      exact wf_ireturn dX6_leastDeposit_93 ⟨_, rfl, rfl⟩
    · refine wf_aload_n dX6_leastDeposit_34 rfl ?_
      refine wf_get dX6_leastDeposit_35 f_RX6_16 (fun h hr => rd_top hr) ?_
      refine wf_aload_n dX6_leastDeposit_38 rfl ?_
      refine wf_get dX6_leastDeposit_39 f_RX6_12 (fun h hr => rd_top hr) ?_
      refine wf_cV (put := cH c 1) dX6_leastDeposit_42 k_RX6_167 b_yX2_copyFrom x_yX2_copyFrom (pX2_copyFrom (n := n + 2) hE (G := (c, M)) (k := 1) (by omega) (k2 := 0) (by omega) (by omega) rfl _ _) setH_self (fun _ => rfl) (fun h hr => rd_h hr rfl (by omega)) rfl (fun r42 t42 ca => ?_)
      refine wf_bnd (fun c42 => ?_)
      refine wf_aload_n dX6_leastDeposit_45 rfl ?_
      refine wf_get dX6_leastDeposit_46 f_RX6_16 (fun h hr => rd_top hr) ?_
      refine wf_get dX6_leastDeposit_49 f_RX6_106 (fun h hr => rd_h hr rfl (by omega)) ?_
      refine wf_iload_n dX6_leastDeposit_52 rfl ?_
      refine wf_gd (fun g53 => ?_)
      refine wf_aald_acc dX6_leastDeposit_53 g53 (fun h hr => rd_accs hr rfl (by omega)) ?_
      refine wf_dup dX6_leastDeposit_54 ?_
      refine wf_get dX6_leastDeposit_55 f_RX6_171 (fun h hr => rd_acc hr rfl (by omega) (by omega)) ?_
      refine wf_iload_n dX6_leastDeposit_58 rfl ?_
      refine wf_gd (fun g59 => ?_)
      refine wf_i2l dX6_leastDeposit_59 g59 ?_
      refine wf_ladd dX6_leastDeposit_60 ?_
      refine wf_pc_accl (f := 3) dX6_leastDeposit_61 p_RX6_171 (by omega) (by omega) (fun c61 => ?_)
      refine wf_aload_n dX6_leastDeposit_64 rfl ?_
      refine wf_get dX6_leastDeposit_65 f_RX6_16 (fun h hr => rd_top hr) ?_
      refine wf_iload_n dX6_leastDeposit_68 rfl ?_
      refine wf_iconst dX6_leastDeposit_69 ?_
      refine wf_iload_n dX6_leastDeposit_70 rfl ?_
      refine wf_ishl dX6_leastDeposit_71 ?_
      refine wf_cV (put := cH c61 1) dX6_leastDeposit_72 k_RX6_86 b_yX2_passDays x_yX2_passDays (pX2_passDays (n := n) hE (G := (c61, M)) (k := 1) (by omega) x2 (shlI 1 x1) _ _) setH_self (fun _ => rfl) (fun h hr => rd_h hr rfl (by omega)) rfl (fun r72 t72 ca => ?_)
      refine wf_bnd (fun c72 => ?_)
      refine wf_bipush dX6_leastDeposit_75 ?_
      refine wf_gd (fun g77 => ?_)
      refine wf_icmp_ne 82 dX6_leastDeposit_77 g77 (by decide) (fun h77 => ?_) (fun h77 => ?_)
      · refine wf_iincW dX6_leastDeposit_82 rfl ?_
        refine wf_goto 28 dX6_leastDeposit_88 ?_
        exact wf_at (ih x1 x2 (x3 + 5000) _ _) ⟨rfl, rfl, rfl, rfl, trivial⟩
      · refine wf_iload_n dX6_leastDeposit_80 rfl ?_
        exact wf_ireturn dX6_leastDeposit_81 ⟨_, rfl, rfl⟩
set_option maxRecDepth 100000 in
set_option maxHeartbeats 4000000 in
theorem pX6_leastDeposit {E : wE} {n : Nat} (hE : wGE E) {M : mR} (x1 : Int) (x2 : Int)  (c : cR) (ca : caT) : WF E (n + 8) yX6_leastDeposit cX6_leastDeposit 4 (some .int) vI (fun c : cR => (c, M)) ca 0 (wArgs [.ref (aTop E), .int (iI x1), .int (iI x2)]) [] c (fX6_leastDeposit x1 x2 c) := by
  unfold fX6_leastDeposit
  refine wf_aload_n dX6_leastDeposit_0 rfl ?_
  refine wf_get dX6_leastDeposit_1 f_RX6_12 (fun h hr => rd_top hr) ?_
  refine wf_iload_n dX6_leastDeposit_4 rfl ?_
  refine wf_rV dX6_leastDeposit_5 k_RX6_100 b_yX2_hasAccount x_yX2_hasAccount (fun h hr => pX2_hasAccount (n := n + 7) hE hr rfl (by omega) x1) (fun h hr => rd_h hr rfl (by omega)) rfl (fun r5 => ?_)
  refine wf_gd (fun g8 => ?_)
  refine wf_if_ne 13 dX6_leastDeposit_8 g8 (fun h8 => ?_) (fun h8 => ?_)
  · refine wf_iload_n dX6_leastDeposit_13 rfl ?_
    refine wf_iconst dX6_leastDeposit_14 ?_
    refine wf_bipush dX6_leastDeposit_15 ?_
    refine wf_rS dX6_leastDeposit_17 k_RX6_93 b_yX6_isBetween x_yX6_isBetween (fun h hr => pX6_isBetween (n := n + 7) hE x2 1 100) (fun r17 => ?_)
    refine wf_gd (fun g20 => ?_)
    refine wf_if_ne 26 dX6_leastDeposit_20 g20 (fun h20 => ?_) (fun h20 => ?_)
    · refine wf_iconst dX6_leastDeposit_26 ?_
      refine wf_istore_n dX6_leastDeposit_27 ?_
      exact wf_at (pX6_leastDeposit_b28 (n := n) hE  fuel0 x1 x2 0 _ _) ⟨rfl, rfl, rfl, rfl, trivial⟩
    · refine wf_bipush dX6_leastDeposit_23 ?_
      exact wf_ireturn dX6_leastDeposit_25 ⟨_, rfl, rfl⟩
  · refine wf_iconst dX6_leastDeposit_11 ?_
    exact wf_ireturn dX6_leastDeposit_12 ⟨_, rfl, rfl⟩
set_option maxRecDepth 100000 in
set_option maxHeartbeats 4000000 in
theorem pX6_money {E : wE} {n : Nat} (hE : wGE E) {M : mR} {c : cR} {ca : caT} {h : hW} (hr : rep E (c, M) ca h) (x1 : Int) (x2 : Int)  : WR E (n + 1) yX6_money cX6_money 3 (some .long) vJ h 0 (wArgs [.ref (aTop E), .int (iI x1), .int (iI x2)]) [] (fX6_money x1 x2 c) := by
  unfold fX6_money
  refine wr_aload_n dX6_money_0 rfl ?_
  refine wr_get dX6_money_1 f_RX6_12 (rd_top hr) ?_
  refine wr_iload_n dX6_money_4 rfl ?_
  refine wr_cV dX6_money_5 k_RX6_100 b_yX2_hasAccount x_yX2_hasAccount (pX2_hasAccount (n := n) hE hr rfl (by omega) x1) (rd_h hr rfl (by omega)) rfl (fun r5 => ?_)
  refine wr_gd (fun g8 => ?_)
  refine wr_if_ne 15 dX6_money_8 g8 (fun h8 => ?_) (fun h8 => ?_)
  · refine wr_aload_n dX6_money_15 rfl ?_
    refine wr_get dX6_money_16 f_RX6_12 (rd_top hr) ?_
    refine wr_get dX6_money_19 f_RX6_106 (rd_h hr rfl (by omega)) ?_
    refine wr_iload_n dX6_money_22 rfl ?_
    refine wr_gd (fun g23 => ?_)
    refine wr_aald_acc dX6_money_23 g23 (rd_accs hr rfl (by omega)) ?_
    refine wr_iload_n dX6_money_24 rfl ?_
    refine wr_cV dX6_money_25 k_RX6_110 b_yX0_sumOf x_yX0_sumOf (pX0_sumOf (n := n) hE hr rfl (by omega) x1 x2 (by omega)) (rd_acc hr rfl (by omega) (by omega)) rfl (fun r25 => ?_)
    exact wr_lreturn dX6_money_28 rfl
  · refine wr_ldc2 dX6_money_11 c_RX6_104 ?_
    exact wr_lreturn dX6_money_14 rfl

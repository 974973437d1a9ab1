/-! ===== the methods meet their functions (by program: wip/p33/gen.py) ===== -/
set_option maxRecDepth 100000 in
set_option maxHeartbeats 4000000 in
theorem pX1_isHoliday {E : wE} {n : Nat} (hE : wGE E) {G : gR} {H : hR} {ca : caT} {h : hW} {k : Int} (hr : rep E G ca h) (hH : G.1.1 k = H) (hk : 0 ≤ k ∧ k < 11) (x1 : Int)  : WR E n yX1_isHoliday cX1_isHoliday 2 (some .boolean) vI h 0 (wArgs [.ref (aCal E k), .int (iI x1)]) [] (fX1_isHoliday x1 H) := by
  unfold fX1_isHoliday
  refine wr_aload_n dX1_isHoliday_0 rfl ?_
  refine wr_get dX1_isHoliday_1 f_RX1_9 (rd_cal hr hH hk) ?_
  refine wr_iload_n dX1_isHoliday_4 rfl ?_
  refine wr_bipush dX1_isHoliday_5 ?_
  refine wr_ishr dX1_isHoliday_7 ?_
  refine wr_gd (fun g8 => ?_)
  refine wr_lald dX1_isHoliday_8 (g := fun j => H.1 6 j 0) g8 (rd_bits hr hH hk) ?_
  refine wr_iload_n dX1_isHoliday_9 rfl ?_
  refine wr_bipush dX1_isHoliday_10 ?_
  refine wr_iand dX1_isHoliday_12 ?_
  refine wr_lushr dX1_isHoliday_13 ?_
  refine wr_lconst1 dX1_isHoliday_14 ?_
  refine wr_land dX1_isHoliday_15 ?_
  refine wr_lconst0 dX1_isHoliday_16 ?_
  refine wr_gd (fun g17 => ?_)
  refine wr_jcmp_eq 25 dX1_isHoliday_17 dX1_isHoliday_18 g17 (by decide) (fun h17 => ?_) (fun h17 => ?_)
  · refine wr_iconst dX1_isHoliday_25 ?_
    exact wr_ireturn dX1_isHoliday_26 ⟨_, rfl, rfl⟩
  · refine wr_iconst dX1_isHoliday_21 ?_
    refine wr_goto 26 dX1_isHoliday_22 ?_
    exact wr_ireturn dX1_isHoliday_26 ⟨_, rfl, rfl⟩
set_option maxRecDepth 100000 in
set_option maxHeartbeats 4000000 in
theorem pX1_mark_b96 {E : wE} {n : Nat} (hE : wGE E) {G : gR} {k : Int} (hk : 0 ≤ k ∧ k < 11) (t1 : Int) (t2 : Int)  (H : hR) (ca : caT) : WF E (n + 1) yX1_mark cX1_mark 3 (some .int) vI (setH G k) ca 96 (wLs [some (.ref (aCal E k))]) [.int (iI t2), .int (iI t1), .ref (aCal E k)] H (fX1_mark_b96 t1 t2 H) := by
  unfold fX1_mark_b96
  refine wf_iadd dX1_mark_96 ?_
  refine wf_p_cal (f := 1) dX1_mark_97 p_RX1_21 hk (fun H97 => ?_)
  refine wf_aload_n dX1_mark_100 rfl ?_
  refine wf_get dX1_mark_101 f_RX1_21 (fun h hr => rd_cal hr setH_at hk) ?_
  exact wf_ireturn dX1_mark_104 ⟨_, rfl, rfl⟩
set_option maxRecDepth 100000 in
set_option maxHeartbeats 4000000 in
theorem pX1_mark_b63 {E : wE} {n : Nat} (hE : wGE E) {G : gR} {k : Int} (hk : 0 ≤ k ∧ k < 11) (x1 : Int) (x2 : Int)  (H : hR) (ca : caT) : WF E (n + 1) yX1_mark cX1_mark 3 (some .int) vI (setH G k) ca 63 (wLs [some (.ref (aCal E k)), some (.int (iI x1)), some (.int (iI x2))]) [] H (fX1_mark_b63 x1 x2 H) := by
  unfold fX1_mark_b63
  refine wf_aload_n dX1_mark_63 rfl ?_
  refine wf_get dX1_mark_64 f_RX1_9 (fun h hr => rd_cal hr setH_at hk) ?_
  refine wf_iload_n dX1_mark_67 rfl ?_
  refine wf_bipush dX1_mark_68 ?_
  refine wf_ishr dX1_mark_70 ?_
  refine wf_dup2 dX1_mark_71 ?_
  refine wf_gd (fun g72 => ?_)
  refine wf_lald dX1_mark_72 (g := fun j => H.1 6 j 0) g72 (fun h hr => rd_bits hr setH_at hk) ?_
  refine wf_lconst1 dX1_mark_73 ?_
  refine wf_iload_n dX1_mark_74 rfl ?_
  refine wf_bipush dX1_mark_75 ?_
  refine wf_iand dX1_mark_77 ?_
  refine wf_lshl dX1_mark_78 ?_
  refine wf_lxor dX1_mark_79 ?_
  refine wf_gd (fun g80 => ?_)
  refine wf_s_bits dX1_mark_80 hk g80 (fun H80 => ?_)
  refine wf_aload_n dX1_mark_81 rfl ?_
  refine wf_dup dX1_mark_82 ?_
  refine wf_get dX1_mark_83 f_RX1_21 (fun h hr => rd_cal hr setH_at hk) ?_
  refine wf_iload_n dX1_mark_86 rfl ?_
  refine wf_iconst dX1_mark_87 ?_
  refine wf_gd (fun g88 => ?_)
  refine wf_icmp_ne 95 dX1_mark_88 g88 (by decide) (fun h88 => ?_) (fun h88 => ?_)
  · refine wf_iconst dX1_mark_95 ?_
    exact wf_at (pX1_mark_b96 (n := n) hE hk  (H80.1 1 1 0) (-1) _ _) ⟨rfl, trivial⟩
  · refine wf_iconst dX1_mark_91 ?_
    refine wf_goto 96 dX1_mark_92 ?_
    exact wf_at (pX1_mark_b96 (n := n) hE hk  (H80.1 1 1 0) 1 _ _) ⟨rfl, trivial⟩
set_option maxRecDepth 100000 in
set_option maxHeartbeats 4000000 in
theorem pX1_mark_b38 {E : wE} {n : Nat} (hE : wGE E) {G : gR} {k : Int} (hk : 0 ≤ k ∧ k < 11) (x1 : Int) (x2 : Int) (t0 : Int) (t1 : Int)  (H : hR) (ca : caT) : WF E (n + 1) yX1_mark cX1_mark 3 (some .int) vI (setH G k) ca 38 (wLs [some (.ref (aCal E k)), some (.int (iI x1)), some (.int (iI x2))]) [.int (iI t1), .int (iI t0)] H (fX1_mark_b38 x1 x2 t0 t1 H) := by
  unfold fX1_mark_b38
  refine wf_gd (fun g38 => ?_)
  refine wf_icmp_ne 46 dX1_mark_38 g38.1 g38.2 (fun h38 => ?_) (fun h38 => ?_)
  · refine wf_iload_n dX1_mark_46 rfl ?_
    refine wf_iconst dX1_mark_47 ?_
    refine wf_gd (fun g48 => ?_)
    refine wf_icmp_ne 63 dX1_mark_48 g48 (by decide) (fun h48 => ?_) (fun h48 => ?_)
    · exact wf_at (pX1_mark_b63 (n := n) hE hk  x1 x2 _ _) ⟨rfl, rfl, rfl, trivial⟩
    · refine wf_aload_n dX1_mark_51 rfl ?_
      refine wf_get dX1_mark_52 f_RX1_21 (fun h hr => rd_cal hr setH_at hk) ?_
      refine wf_bipush dX1_mark_55 ?_
      refine wf_gd (fun g57 => ?_)
      refine wf_icmp_lt 63 dX1_mark_57 g57 (by decide) (fun h57 => ?_) (fun h57 => ?_)
      · exact wf_at (pX1_mark_b63 (n := n) hE hk  x1 x2 _ _) ⟨rfl, rfl, rfl, trivial⟩
      · refine wf_bipush dX1_mark_60 ?_
        exact wf_ireturn dX1_mark_62 ⟨_, rfl, rfl⟩
  · refine wf_aload_n dX1_mark_41 rfl ?_
    refine wf_get dX1_mark_42 f_RX1_21 (fun h hr => rd_cal hr setH_at hk) ?_
    exact wf_ireturn dX1_mark_45 ⟨_, rfl, rfl⟩
set_option maxRecDepth 100000 in
set_option maxHeartbeats 4000000 in
theorem pX1_mark {E : wE} {n : Nat} (hE : wGE E) {G : gR} {k : Int} (hk : 0 ≤ k ∧ k < 11) (x1 : Int) (x2 : Int)  (H : hR) (ca : caT) : WF E (n + 1) yX1_mark cX1_mark 3 (some .int) vI (setH G k) ca 0 (wArgs [.ref (aCal E k), .int (iI x1), .int (iI x2)]) [] H (fX1_mark x1 x2 H) := by
  unfold fX1_mark
  refine wf_iload_n dX1_mark_0 rfl ?_
  refine wf_iconst dX1_mark_1 ?_
  refine wf_sipush dX1_mark_2 ?_
  refine wf_rSN dX1_mark_5 k_RX1_46 b_yX6_isBetween x_yX6_isBetween (fun h hr => pX6_isBetween (n := n) hE x1 0 1094) (fun r5 => ?_)
  refine wf_gd (fun g8 => ?_)
  refine wf_if_eq 20 dX1_mark_8 g8 (fun h8 => ?_) (fun h8 => ?_)
  · refine wf_bipush dX1_mark_20 ?_
    exact wf_ireturn dX1_mark_22 ⟨_, rfl, rfl⟩
  · refine wf_iload_n dX1_mark_11 rfl ?_
    refine wf_iconst dX1_mark_12 ?_
    refine wf_iconst dX1_mark_13 ?_
    refine wf_rSN dX1_mark_14 k_RX1_46 b_yX6_isBetween x_yX6_isBetween (fun h hr => pX6_isBetween (n := n) hE x2 0 1) (fun r14 => ?_)
    refine wf_gd (fun g17 => ?_)
    refine wf_if_ne 23 dX1_mark_17 g17 (fun h17 => ?_) (fun h17 => ?_)
    · refine wf_aload_n dX1_mark_23 rfl ?_
      refine wf_iload_n dX1_mark_24 rfl ?_
      refine wf_rV dX1_mark_25 k_RX1_50 b_yX1_isHoliday x_yX1_isHoliday (fun h hr => pX1_isHoliday (n := n) hE hr setH_at hk x1) (fun h hr => rd_cal hr setH_at hk) rfl (fun r25 => ?_)
      refine wf_iload_n dX1_mark_28 rfl ?_
      refine wf_iconst dX1_mark_29 ?_
      refine wf_gd (fun g30 => ?_)
      refine wf_icmp_ne 37 dX1_mark_30 g30 (by decide) (fun h30 => ?_) (fun h30 => ?_)
      · refine wf_iconst dX1_mark_37 ?_
        exact wf_at (pX1_mark_b38 (n := n) hE hk  x1 x2 r25 0 _ _) ⟨rfl, rfl, rfl, trivial⟩
      · refine wf_iconst dX1_mark_33 ?_
        refine wf_goto 38 dX1_mark_34 ?_
        exact wf_at (pX1_mark_b38 (n := n) hE hk  x1 x2 r25 1 _ _) ⟨rfl, rfl, rfl, trivial⟩
    · refine wf_bipush dX1_mark_20 ?_
      exact wf_ireturn dX1_mark_22 ⟨_, rfl, rfl⟩
set_option maxRecDepth 100000 in
set_option maxHeartbeats 4000000 in
theorem pX6_holiday {E : wE} {n : Nat} (hE : wGE E) {M : mR} (x1 : Int) (x2 : Int)  (c : cR) (ca : caT) : WF E (n + 7) yX6_holiday cX6_holiday 3 (some .int) vI (fun c : cR => (c, M)) ca 0 (wArgs [.ref (aTop E), .int (iI x1), .int (iI x2)]) [] c (fX6_holiday x1 x2 c) := by
  unfold fX6_holiday
  refine wf_aload_n dX6_holiday_0 rfl ?_
  refine wf_cV (put := fun q => q) dX6_holiday_1 k_RX6_37 b_yX6_remember x_yX6_remember (pX6_remember (n := n) hE _ _) rfl (fun _ => rfl) (fun h hr => rd_top hr) rfl (fun r1 c1 ca => ?_)
  refine wf_aload_n dX6_holiday_4 rfl ?_
  refine wf_aload_n dX6_holiday_5 rfl ?_
  refine wf_get dX6_holiday_6 f_RX6_12 (fun h hr => rd_top hr) ?_
  refine wf_get dX6_holiday_9 f_RX6_48 (fun h hr => rd_h hr rfl (by omega)) ?_
  refine wf_iload_n dX6_holiday_12 rfl ?_
  refine wf_iload_n dX6_holiday_13 rfl ?_
  refine wf_cV (put := cH c1 0) dX6_holiday_14 k_RX6_52 b_yX1_mark x_yX1_mark (pX1_mark (n := n + 5) hE (G := (c1, M)) (k := 0) (by omega) x1 x2 _ _) setH_self (fun _ => rfl) (fun h hr => rd_cal hr rfl (by omega)) rfl (fun r14 t14 ca => ?_)
  refine wf_bnd (fun c14 => ?_)
  refine wf_cV (put := fun q => q) dX6_holiday_17 k_RX6_44 b_yX6_recorded x_yX6_recorded (pX6_recorded (n := n + 4) hE r14 _ _) rfl (fun _ => rfl) (fun h hr => rd_top hr) rfl (fun r17 c17 ca => ?_)
  exact wf_ireturn dX6_holiday_20 ⟨_, rfl, rfl⟩
set_option maxRecDepth 100000 in
set_option maxHeartbeats 4000000 in
theorem pX2_areDates {E : wE} {n : Nat} (hE : wGE E) {h : hW} (x0 : Int)  : WR E (n + 1) yX2_areDates cX2_areDates 1 (some .boolean) vI h 0 (wArgs [.int (iI x0)]) [] (fX2_areDates x0) := by
  unfold fX2_areDates
  refine wr_iload_n dX2_areDates_0 rfl ?_
  refine wr_iconst dX2_areDates_1 ?_
  refine wr_ldc dX2_areDates_2 c_RX2_123 ?_
  refine wr_cSN dX2_areDates_4 k_RX2_77 b_yX6_isBetween x_yX6_isBetween (pX6_isBetween (n := n) hE x0 0 39999) (fun r4 => ?_)
  refine wr_gd (fun g7 => ?_)
  refine wr_if_eq 43 dX2_areDates_7 g7 (fun h7 => ?_) (fun h7 => ?_)
  · refine wr_iconst dX2_areDates_43 ?_
    exact wr_ireturn dX2_areDates_44 ⟨_, rfl, rfl⟩
  · refine wr_iload_n dX2_areDates_10 rfl ?_
    refine wr_bipush dX2_areDates_11 ?_
    refine wr_gd (fun g13 => ?_)
    refine wr_idiv dX2_areDates_13 g13 (by decide) ?_
    refine wr_bipush dX2_areDates_14 ?_
    refine wr_gd (fun g16 => ?_)
    refine wr_irem dX2_areDates_16 g16 (by decide) ?_
    refine wr_iconst dX2_areDates_17 ?_
    refine wr_bipush dX2_areDates_18 ?_
    refine wr_cSN dX2_areDates_20 k_RX2_77 b_yX6_isBetween x_yX6_isBetween (pX6_isBetween (n := n) hE (rmI (dvI x0 100) 100) 1 12) (fun r20 => ?_)
    refine wr_gd (fun g23 => ?_)
    refine wr_if_eq 43 dX2_areDates_23 g23 (fun h23 => ?_) (fun h23 => ?_)
    · refine wr_iconst dX2_areDates_43 ?_
      exact wr_ireturn dX2_areDates_44 ⟨_, rfl, rfl⟩
    · refine wr_iload_n dX2_areDates_26 rfl ?_
      refine wr_bipush dX2_areDates_27 ?_
      refine wr_gd (fun g29 => ?_)
      refine wr_irem dX2_areDates_29 g29 (by decide) ?_
      refine wr_iconst dX2_areDates_30 ?_
      refine wr_bipush dX2_areDates_31 ?_
      refine wr_cSN dX2_areDates_33 k_RX2_77 b_yX6_isBetween x_yX6_isBetween (pX6_isBetween (n := n) hE (rmI x0 100) 1 31) (fun r33 => ?_)
      refine wr_gd (fun g36 => ?_)
      refine wr_if_eq 43 dX2_areDates_36 g36 (fun h36 => ?_) (fun h36 => ?_)
      · refine wr_iconst dX2_areDates_43 ?_
        exact wr_ireturn dX2_areDates_44 ⟨_, rfl, rfl⟩
      · refine wr_iconst dX2_areDates_39 ?_
        refine wr_goto 44 dX2_areDates_40 ?_
        exact wr_ireturn dX2_areDates_44 ⟨_, rfl, rfl⟩
set_option maxRecDepth 100000 in
set_option maxHeartbeats 4000000 in
theorem pX3_begin_b98 {E : wE} {n : Nat} (hE : wGE E) {G : gR} {k : Int} (hk : 0 ≤ k ∧ k < 11) (x0 : Int) (x6 : Int) (t0 : Int) (t1 : Int) (hbx0 : 0 ≤ x0 ∧ x0 < 16) (hbt0 : 0 ≤ t0 ∧ t0 < 16) (H : hR) (ca : caT) : WF E n yX3_begin cX3_begin 7 (none) vV (setH G k) ca 98 (wLs [some (.ref (aOrd E k x0)), none, none, none, none, none, some (.int (iI x6))]) [.int (iI t1), .ref (aOrd E k t0)] H (fX3_begin_b98 x0 x6 t0 t1 H) := by
  unfold fX3_begin_b98
  refine wf_gd (fun g98 => ?_)
  refine wf_p_ord (f := 9) dX3_begin_98 p_RX3_39 hk (by omega) (fun H98 => ?_) (nar_z g98) (fit_z g98)
  refine wf_aload_n dX3_begin_101 rfl ?_
  refine wf_iload dX3_begin_102 rfl ?_
  refine wf_p_ord (f := 10) dX3_begin_104 p_RX3_43 hk (by omega) (fun H104 => ?_)
  refine wf_aload_n dX3_begin_107 rfl ?_
  refine wf_iconst dX3_begin_108 ?_
  refine wf_p_ord (f := 11) dX3_begin_109 p_RX3_46 hk (by omega) (fun H109 => ?_)
  refine wf_aload_n dX3_begin_112 rfl ?_
  refine wf_iconst dX3_begin_113 ?_
  refine wf_p_ord (f := 12) dX3_begin_114 p_RX3_49 hk (by omega) (fun H114 => ?_)
  refine wf_aload_n dX3_begin_117 rfl ?_
  refine wf_iconst dX3_begin_118 ?_
  refine wf_p_ord (f := 13) dX3_begin_119 p_RX3_52 hk (by omega) (fun H119 => ?_)
  refine wf_aload_n dX3_begin_122 rfl ?_
  refine wf_iconst dX3_begin_123 ?_
  refine wf_p_ord (f := 14) dX3_begin_124 p_RX3_55 hk (by omega) (fun H124 => ?_)
  refine wf_aload_n dX3_begin_127 rfl ?_
  refine wf_iconst dX3_begin_128 ?_
  refine wf_p_ord (f := 15) dX3_begin_129 p_RX3_58 hk (by omega) (fun H129 => ?_)
  refine wf_aload_n dX3_begin_132 rfl ?_
  refine wf_iconst dX3_begin_133 ?_
  refine wf_p_ord (f := 16) dX3_begin_134 p_RX3_61 hk (by omega) (fun H134 => ?_)
  exact wf_return dX3_begin_137 rfl
set_option maxRecDepth 100000 in
set_option maxHeartbeats 4000000 in
theorem pX3_begin_b27 {E : wE} {n : Nat} (hE : wGE E) {G : gR} {k : Int} (hk : 0 ≤ k ∧ k < 11) (x0 : Int) (x2 : Int) (x3 : Int) (x4 : Int) (x5 : Int) (x6 : Int) (t0 : Int) (t1 : Int) (hbx0 : 0 ≤ x0 ∧ x0 < 16) (hbt0 : 0 ≤ t0 ∧ t0 < 16) (H : hR) (ca : caT) : WF E n yX3_begin cX3_begin 7 (none) vV (setH G k) ca 27 (wLs [some (.ref (aOrd E k x0)), none, some (.int (iI x2)), some (.int (iI x3)), some (.int (iI x4)), some (.int (iI x5)), some (.int (iI x6))]) [.int (iI t1), .ref (aOrd E k t0)] H (fX3_begin_b27 x0 x2 x3 x4 x5 x6 t0 t1 H) := by
  unfold fX3_begin_b27
  refine wf_p_ord (f := 1) dX3_begin_27 p_RX3_15 hk (by omega) (fun H27 => ?_)
  refine wf_aload_n dX3_begin_30 rfl ?_
  refine wf_iload_n dX3_begin_31 rfl ?_
  refine wf_p_ord (f := 2) dX3_begin_32 p_RX3_18 hk (by omega) (fun H32 => ?_)
  refine wf_aload_n dX3_begin_35 rfl ?_
  refine wf_iload_n dX3_begin_36 rfl ?_
  refine wf_sipush dX3_begin_37 ?_
  refine wf_gd (fun g40 => ?_)
  refine wf_idiv dX3_begin_40 g40 (by decide) ?_
  refine wf_p_ord (f := 3) dX3_begin_41 p_RX3_21 hk (by omega) (fun H41 => ?_)
  refine wf_aload_n dX3_begin_44 rfl ?_
  refine wf_iload_n dX3_begin_45 rfl ?_
  refine wf_bipush dX3_begin_46 ?_
  refine wf_gd (fun g48 => ?_)
  refine wf_idiv dX3_begin_48 g48 (by decide) ?_
  refine wf_bipush dX3_begin_49 ?_
  refine wf_gd (fun g51 => ?_)
  refine wf_irem dX3_begin_51 g51 (by decide) ?_
  refine wf_p_ord (f := 4) dX3_begin_52 p_RX3_24 hk (by omega) (fun H52 => ?_)
  refine wf_aload_n dX3_begin_55 rfl ?_
  refine wf_iload_n dX3_begin_56 rfl ?_
  refine wf_bipush dX3_begin_57 ?_
  refine wf_gd (fun g59 => ?_)
  refine wf_irem dX3_begin_59 g59 (by decide) ?_
  refine wf_p_ord (f := 5) dX3_begin_60 p_RX3_27 hk (by omega) (fun H60 => ?_)
  refine wf_aload_n dX3_begin_63 rfl ?_
  refine wf_iload dX3_begin_64 rfl ?_
  refine wf_p_ord (f := 6) dX3_begin_66 p_RX3_30 hk (by omega) (fun H66 => ?_)
  refine wf_aload_n dX3_begin_69 rfl ?_
  refine wf_iload dX3_begin_70 rfl ?_
  refine wf_bipush dX3_begin_72 ?_
  refine wf_gd (fun g74 => ?_)
  refine wf_idiv dX3_begin_74 g74 (by decide) ?_
  refine wf_p_ord (f := 7) dX3_begin_75 p_RX3_33 hk (by omega) (fun H75 => ?_)
  refine wf_aload_n dX3_begin_78 rfl ?_
  refine wf_iload dX3_begin_79 rfl ?_
  refine wf_bipush dX3_begin_81 ?_
  refine wf_gd (fun g83 => ?_)
  refine wf_irem dX3_begin_83 g83 (by decide) ?_
  refine wf_p_ord (f := 8) dX3_begin_84 p_RX3_36 hk (by omega) (fun H84 => ?_)
  refine wf_aload_n dX3_begin_87 rfl ?_
  refine wf_iload dX3_begin_88 rfl ?_
  refine wf_gd (fun g90 => ?_)
  refine wf_if_ne 97 dX3_begin_90 g90 (fun h90 => ?_) (fun h90 => ?_)
  · refine wf_iconst dX3_begin_97 ?_
    exact wf_at (pX3_begin_b98 (n := n) hE hk  x0 x6 x0 0 (by omega) (by omega) _ _) ⟨rfl, rfl, trivial⟩
  · refine wf_iconst dX3_begin_93 ?_
    refine wf_goto 98 dX3_begin_94 ?_
    exact wf_at (pX3_begin_b98 (n := n) hE hk  x0 x6 x0 1 (by omega) (by omega) _ _) ⟨rfl, rfl, trivial⟩
set_option maxRecDepth 100000 in
set_option maxHeartbeats 4000000 in
theorem pX3_begin {E : wE} {n : Nat} (hE : wGE E) {G : gR} {k : Int} (hk : 0 ≤ k ∧ k < 11) (i : Int) (x1 : Int) (x2 : Int) (x3 : Int) (x4 : Int) (x5 : Int) (x6 : Int) (hbi : 0 ≤ i ∧ i < 16) (H : hR) (ca : caT) : WF E n yX3_begin cX3_begin 7 (none) vV (setH G k) ca 0 (wArgs [.ref (aOrd E k i), .int (iI x1), .int (iI x2), .int (iI x3), .int (iI x4), .int (iI x5), .int (iI x6)]) [] H (fX3_begin i x1 x2 x3 x4 x5 x6 H) := by
  unfold fX3_begin
  refine wf_aload_n dX3_begin_0 rfl ?_
  refine wf_iload_n dX3_begin_1 rfl ?_
  refine wf_bipush dX3_begin_2 ?_
  refine wf_gd (fun g4 => ?_)
  refine wf_idiv dX3_begin_4 g4 (by decide) ?_
  refine wf_p_ord (f := 0) dX3_begin_5 p_RX3_9 hk (by omega) (fun H5 => ?_)
  refine wf_aload_n dX3_begin_8 rfl ?_
  refine wf_iload_n dX3_begin_9 rfl ?_
  refine wf_bipush dX3_begin_10 ?_
  refine wf_gd (fun g12 => ?_)
  refine wf_irem dX3_begin_12 g12 (by decide) ?_
  refine wf_bipush dX3_begin_13 ?_
  refine wf_gd (fun g15 => ?_)
  refine wf_icmp_ne 23 dX3_begin_15 g15 (by decide) (fun h15 => ?_) (fun h15 => ?_)
  · refine wf_iload_n dX3_begin_23 rfl ?_
    refine wf_bipush dX3_begin_24 ?_
    refine wf_gd (fun g26 => ?_)
    refine wf_irem dX3_begin_26 g26 (by decide) ?_
    exact wf_at (pX3_begin_b27 (n := n) hE hk  i x2 x3 x4 x5 x6 i (rmI x1 9) (by omega) (by omega) _ _) ⟨rfl, rfl, rfl, rfl, rfl, rfl, trivial⟩
  · refine wf_bipush dX3_begin_18 ?_
    refine wf_goto 27 dX3_begin_20 ?_
    exact wf_at (pX3_begin_b27 (n := n) hE hk  i x2 x3 x4 x5 x6 i (-6) (by omega) (by omega) _ _) ⟨rfl, rfl, rfl, rfl, rfl, rfl, trivial⟩
set_option maxRecDepth 100000 in
set_option maxHeartbeats 4000000 in
theorem pX1_isBusiness {E : wE} {n : Nat} (hE : wGE E) {G : gR} {H : hR} {ca : caT} {h : hW} {k : Int} (hr : rep E G ca h) (hH : G.1.1 k = H) (hk : 0 ≤ k ∧ k < 11) (x1 : Int)  : WR E n yX1_isBusiness cX1_isBusiness 2 (some .boolean) vI h 0 (wArgs [.ref (aCal E k), .int (iI x1)]) [] (fX1_isBusiness x1 H) := by
  unfold fX1_isBusiness
  refine wr_iload_n dX1_isBusiness_0 rfl ?_
  refine wr_aload_n dX1_isBusiness_1 rfl ?_
  refine wr_get dX1_isBusiness_2 f_RX1_25 (rd_cal hr hH hk) ?_
  refine wr_iadd dX1_isBusiness_5 ?_
  refine wr_bipush dX1_isBusiness_6 ?_
  refine wr_gd (fun g8 => ?_)
  refine wr_irem dX1_isBusiness_8 g8 (by decide) ?_
  refine wr_iconst dX1_isBusiness_9 ?_
  refine wr_gd (fun g10 => ?_)
  refine wr_icmp_ge 38 dX1_isBusiness_10 g10 (by decide) (fun h10 => ?_) (fun h10 => ?_)
  · refine wr_iconst dX1_isBusiness_38 ?_
    exact wr_ireturn dX1_isBusiness_39 ⟨_, rfl, rfl⟩
  · refine wr_aload_n dX1_isBusiness_13 rfl ?_
    refine wr_get dX1_isBusiness_14 f_RX1_9 (rd_cal hr hH hk) ?_
    refine wr_iload_n dX1_isBusiness_17 rfl ?_
    refine wr_bipush dX1_isBusiness_18 ?_
    refine wr_ishr dX1_isBusiness_20 ?_
    refine wr_gd (fun g21 => ?_)
    refine wr_lald dX1_isBusiness_21 (g := fun j => H.1 6 j 0) g21 (rd_bits hr hH hk) ?_
    refine wr_iload_n dX1_isBusiness_22 rfl ?_
    refine wr_bipush dX1_isBusiness_23 ?_
    refine wr_iand dX1_isBusiness_25 ?_
    refine wr_lushr dX1_isBusiness_26 ?_
    refine wr_lconst1 dX1_isBusiness_27 ?_
    refine wr_land dX1_isBusiness_28 ?_
    refine wr_lconst0 dX1_isBusiness_29 ?_
    refine wr_gd (fun g30 => ?_)
    refine wr_jcmp_ne 38 dX1_isBusiness_30 dX1_isBusiness_31 g30 (by decide) (fun h30 => ?_) (fun h30 => ?_)
    · refine wr_iconst dX1_isBusiness_38 ?_
      exact wr_ireturn dX1_isBusiness_39 ⟨_, rfl, rfl⟩
    · refine wr_iconst dX1_isBusiness_34 ?_
      refine wr_goto 39 dX1_isBusiness_35 ?_
      exact wr_ireturn dX1_isBusiness_39 ⟨_, rfl, rfl⟩
set_option maxRecDepth 100000 in
set_option maxHeartbeats 4000000 in
theorem pX1_lastBusiness_b2 {E : wE} {n : Nat} (hE : wGE E) {G : gR} {H : hR} {ca : caT} {h : hW} {k : Int} (hr : rep E G ca h) (hH : G.1.1 k = H) (hk : 0 ≤ k ∧ k < 11) : ∀ (fuel : Nat) (x2 : Int) , WR E (n + 1) yX1_lastBusiness cX1_lastBusiness 3 (some .int) vI h 2 (wLs [some (.ref (aCal E k)), none, some (.int (iI x2))]) [] (fX1_lastBusiness_b2 H fuel x2) := by
  intro fuel
  induction fuel with
  | zero =>
    intro x2
    exact wr_none
  | succ fuel ih =>
    intro x2
    unfold fX1_lastBusiness_b2
    refine wr_iload_n dX1_lastBusiness_2 rfl ?_
    refine wr_gd (fun g3 => ?_)
    refine wr_if_lt 22 dX1_lastBusiness_3 g3 (fun h3 => ?_) (fun h3 => ?_)
    · refine wr_bipush dX1_lastBusiness_22 ?_
      exact wr_ireturn dX1_lastBusiness_24 ⟨_, rfl, rfl⟩
    · refine wr_aload_n dX1_lastBusiness_6 rfl ?_
      refine wr_iload_n dX1_lastBusiness_7 rfl ?_
      refine wr_cV dX1_lastBusiness_8 k_RX1_32 b_yX1_isBusiness x_yX1_isBusiness (pX1_isBusiness (n := n) hE hr hH hk x2) (rd_cal hr hH hk) rfl (fun r8 => ?_)
      refine wr_gd (fun g11 => ?_)
      refine wr_if_eq 16 dX1_lastBusiness_11 g11 (fun h11 => ?_) (fun h11 => ?_)
      · refine wr_iinc dX1_lastBusiness_16 rfl ?_
        refine wr_goto 2 dX1_lastBusiness_19 ?_
        exact wr_at (ih (x2 + (-1))) ⟨rfl, rfl, trivial⟩
      · refine wr_iload_n dX1_lastBusiness_14 rfl ?_
        exact wr_ireturn dX1_lastBusiness_15 ⟨_, rfl, rfl⟩
set_option maxRecDepth 100000 in
set_option maxHeartbeats 4000000 in
theorem pX1_lastBusiness {E : wE} {n : Nat} (hE : wGE E) {G : gR} {H : hR} {ca : caT} {h : hW} {k : Int} (hr : rep E G ca h) (hH : G.1.1 k = H) (hk : 0 ≤ k ∧ k < 11) (x1 : Int)  : WR E (n + 1) yX1_lastBusiness cX1_lastBusiness 3 (some .int) vI h 0 (wArgs [.ref (aCal E k), .int (iI x1)]) [] (fX1_lastBusiness x1 H) := by
  unfold fX1_lastBusiness
  refine wr_iload_n dX1_lastBusiness_0 rfl ?_
  refine wr_istore_n dX1_lastBusiness_1 ?_
  exact wr_at (pX1_lastBusiness_b2 (n := n) hE hr hH hk  fuel0 x1) ⟨rfl, rfl, trivial⟩
set_option maxRecDepth 100000 in
set_option maxHeartbeats 4000000 in
theorem pX1_monthOf_b25 {E : wE} {n : Nat} (hE : wGE E) {h : hW} (x0 : Int) (x2 : Int)  : WR E n yX1_monthOf cX1_monthOf 3 (some .int) vI h 25 (wLs [some (.int (iI x0)), none, some (.int (iI x2))]) [] (fX1_monthOf_b25 x0 x2) := by
  unfold fX1_monthOf_b25
  refine wr_iload_n dX1_monthOf_25 rfl ?_
  refine wr_sipush dX1_monthOf_26 ?_
  refine wr_gd (fun g29 => ?_)
  refine wr_idiv dX1_monthOf_29 g29 (by decide) ?_
  refine wr_bipush dX1_monthOf_30 ?_
  refine wr_imul dX1_monthOf_32 ?_
  refine wr_iload_n dX1_monthOf_33 rfl ?_
  refine wr_iadd dX1_monthOf_34 ?_
  exact wr_ireturn dX1_monthOf_35 ⟨_, rfl, rfl⟩
set_option maxRecDepth 100000 in
set_option maxHeartbeats 4000000 in
theorem pX1_monthOf {E : wE} {n : Nat} (hE : wGE E) {h : hW} (x0 : Int)  : WR E n yX1_monthOf cX1_monthOf 3 (some .int) vI h 0 (wArgs [.int (iI x0)]) [] (fX1_monthOf x0) := by
  unfold fX1_monthOf
  refine wr_iload_n dX1_monthOf_0 rfl ?_
  refine wr_sipush dX1_monthOf_1 ?_
  refine wr_gd (fun g4 => ?_)
  refine wr_irem dX1_monthOf_4 g4 (by decide) ?_
  refine wr_istore_n dX1_monthOf_5 ?_
  refine wr_iload_n dX1_monthOf_6 rfl ?_
  refine wr_bipush dX1_monthOf_7 ?_
  refine wr_gd (fun g9 => ?_)
  refine wr_idiv dX1_monthOf_9 g9 (by decide) ?_
  refine wr_istore_n dX1_monthOf_10 ?_
  refine wr_gets (k := 2) dX1_monthOf_11 rfl g_RX1_28 (hE.2.2.1.1) ?_
  refine wr_iload_n dX1_monthOf_14 rfl ?_
  refine wr_iconst dX1_monthOf_15 ?_
  refine wr_iadd dX1_monthOf_16 ?_
  refine wr_gd (fun g17 => ?_)
  refine wr_ro dX1_monthOf_17 (hE.2.2.1.2) g17 ?_
  refine wr_iload_n dX1_monthOf_18 rfl ?_
  refine wr_gd (fun g19 => ?_)
  refine wr_icmp_gt 25 dX1_monthOf_19 g19.1 g19.2 (fun h19 => ?_) (fun h19 => ?_)
  · exact wr_at (pX1_monthOf_b25 (n := n) hE  x0 (dvI (rmI x0 365) 31)) ⟨rfl, rfl, trivial⟩
  · refine wr_iinc dX1_monthOf_22 rfl ?_
    exact wr_at (pX1_monthOf_b25 (n := n) hE  x0 ((dvI (rmI x0 365) 31) + 1)) ⟨rfl, rfl, trivial⟩
set_option maxRecDepth 100000 in
set_option maxHeartbeats 4000000 in
theorem pX1_nextBusiness_b2 {E : wE} {n : Nat} (hE : wGE E) {G : gR} {H : hR} {ca : caT} {h : hW} {k : Int} (hr : rep E G ca h) (hH : G.1.1 k = H) (hk : 0 ≤ k ∧ k < 11) : ∀ (fuel : Nat) (x2 : Int) , WR E (n + 1) yX1_nextBusiness cX1_nextBusiness 3 (some .int) vI h 2 (wLs [some (.ref (aCal E k)), none, some (.int (iI x2))]) [] (fX1_nextBusiness_b2 H fuel x2) := by
  intro fuel
  induction fuel with
  | zero =>
    intro x2
    exact wr_none
  | succ fuel ih =>
    intro x2
    unfold fX1_nextBusiness_b2
    refine wr_iload_n dX1_nextBusiness_2 rfl ?_
    refine wr_sipush dX1_nextBusiness_3 ?_
    refine wr_gd (fun g6 => ?_)
    refine wr_icmp_gt 25 dX1_nextBusiness_6 g6 (by decide) (fun h6 => ?_) (fun h6 => ?_)
    · refine wr_bipush dX1_nextBusiness_25 ?_
      exact wr_ireturn dX1_nextBusiness_27 ⟨_, rfl, rfl⟩
    · refine wr_aload_n dX1_nextBusiness_9 rfl ?_
      refine wr_iload_n dX1_nextBusiness_10 rfl ?_
      refine wr_cV dX1_nextBusiness_11 k_RX1_32 b_yX1_isBusiness x_yX1_isBusiness (pX1_isBusiness (n := n) hE hr hH hk x2) (rd_cal hr hH hk) rfl (fun r11 => ?_)
      refine wr_gd (fun g14 => ?_)
      refine wr_if_eq 19 dX1_nextBusiness_14 g14 (fun h14 => ?_) (fun h14 => ?_)
      · refine wr_iinc dX1_nextBusiness_19 rfl ?_
        refine wr_goto 2 dX1_nextBusiness_22 ?_
        exact wr_at (ih (x2 + 1)) ⟨rfl, rfl, trivial⟩
      · refine wr_iload_n dX1_nextBusiness_17 rfl ?_
        exact wr_ireturn dX1_nextBusiness_18 ⟨_, rfl, rfl⟩
set_option maxRecDepth 100000 in
set_option maxHeartbeats 4000000 in
theorem pX1_nextBusiness {E : wE} {n : Nat} (hE : wGE E) {G : gR} {H : hR} {ca : caT} {h : hW} {k : Int} (hr : rep E G ca h) (hH : G.1.1 k = H) (hk : 0 ≤ k ∧ k < 11) (x1 : Int)  : WR E (n + 1) yX1_nextBusiness cX1_nextBusiness 3 (some .int) vI h 0 (wArgs [.ref (aCal E k), .int (iI x1)]) [] (fX1_nextBusiness x1 H) := by
  unfold fX1_nextBusiness
  refine wr_iload_n dX1_nextBusiness_0 rfl ?_
  refine wr_istore_n dX1_nextBusiness_1 ?_
  exact wr_at (pX1_nextBusiness_b2 (n := n) hE hr hH hk  fuel0 x1) ⟨rfl, rfl, trivial⟩
set_option maxRecDepth 100000 in
set_option maxHeartbeats 4000000 in
theorem pX1_shifted_b58 {E : wE} {n : Nat} (hE : wGE E) {G : gR} {H : hR} {ca : caT} {h : hW} {k : Int} (hr : rep E G ca h) (hH : G.1.1 k = H) (hk : 0 ≤ k ∧ k < 11) (x1 : Int) (x3 : Int)  : WR E (n + 2) yX1_shifted cX1_shifted 4 (some .int) vI h 58 (wLs [none, some (.int (iI x1)), none, some (.int (iI x3))]) [] (fX1_shifted_b58 H x1 x3) := by
  unfold fX1_shifted_b58
  refine wr_iload_n dX1_shifted_58 rfl ?_
  refine wr_bipush dX1_shifted_59 ?_
  refine wr_gd (fun g61 => ?_)
  refine wr_icmp_ne 68 dX1_shifted_61 g61 (by decide) (fun h61 => ?_) (fun h61 => ?_)
  · refine wr_iload_n dX1_shifted_68 rfl ?_
    exact wr_ireturn dX1_shifted_69 ⟨_, rfl, rfl⟩
  · refine wr_iload_n dX1_shifted_64 rfl ?_
    refine wr_goto 69 dX1_shifted_65 ?_
    exact wr_ireturn dX1_shifted_69 ⟨_, rfl, rfl⟩
set_option maxRecDepth 100000 in
set_option maxHeartbeats 4000000 in
theorem pX1_shifted_b52 {E : wE} {n : Nat} (hE : wGE E) {G : gR} {H : hR} {ca : caT} {h : hW} {k : Int} (hr : rep E G ca h) (hH : G.1.1 k = H) (hk : 0 ≤ k ∧ k < 11) (x1 : Int)  : WR E (n + 2) yX1_shifted cX1_shifted 4 (some .int) vI h 52 (wLs [some (.ref (aCal E k)), some (.int (iI x1))]) [] (fX1_shifted_b52 H x1) := by
  unfold fX1_shifted_b52
  refine wr_aload_n dX1_shifted_52 rfl ?_
  refine wr_iload_n dX1_shifted_53 rfl ?_
  refine wr_cV dX1_shifted_54 k_RX1_36 b_yX1_lastBusiness x_yX1_lastBusiness (pX1_lastBusiness (n := n) hE hr hH hk x1) (rd_cal hr hH hk) rfl (fun r54 => ?_)
  refine wr_istore_n dX1_shifted_57 ?_
  exact wr_at (pX1_shifted_b58 (n := n) hE hr hH hk  x1 r54) ⟨rfl, rfl, trivial⟩
set_option maxRecDepth 100000 in
set_option maxHeartbeats 4000000 in
theorem pX1_shifted_b29 {E : wE} {n : Nat} (hE : wGE E) {G : gR} {H : hR} {ca : caT} {h : hW} {k : Int} (hr : rep E G ca h) (hH : G.1.1 k = H) (hk : 0 ≤ k ∧ k < 11) (x1 : Int) (x2 : Int) (t0 : Int)  : WR E (n + 2) yX1_shifted cX1_shifted 4 (some .int) vI h 29 (wLs [some (.ref (aCal E k)), some (.int (iI x1)), some (.int (iI x2))]) [.int (iI t0)] (fX1_shifted_b29 H x1 x2 t0) := by
  unfold fX1_shifted_b29
  refine wr_istore_n dX1_shifted_29 ?_
  refine wr_iload_n dX1_shifted_30 rfl ?_
  refine wr_iconst dX1_shifted_31 ?_
  refine wr_gd (fun g32 => ?_)
  refine wr_icmp_ne 58 dX1_shifted_32 g32 (by decide) (fun h32 => ?_) (fun h32 => ?_)
  · exact wr_at (pX1_shifted_b58 (n := n) hE hr hH hk  x1 t0) ⟨rfl, rfl, trivial⟩
  · refine wr_iload_n dX1_shifted_35 rfl ?_
    refine wr_bipush dX1_shifted_36 ?_
    refine wr_gd (fun g38 => ?_)
    refine wr_icmp_eq 52 dX1_shifted_38 g38 (by decide) (fun h38 => ?_) (fun h38 => ?_)
    · exact wr_at (pX1_shifted_b52 (n := n) hE hr hH hk  x1) ⟨rfl, rfl, trivial⟩
    · refine wr_iload_n dX1_shifted_41 rfl ?_
      refine wr_cS dX1_shifted_42 k_RX1_43 b_yX1_monthOf x_yX1_monthOf (pX1_monthOf (n := n + 1) hE t0) (fun r42 => ?_)
      refine wr_iload_n dX1_shifted_45 rfl ?_
      refine wr_cS dX1_shifted_46 k_RX1_43 b_yX1_monthOf x_yX1_monthOf (pX1_monthOf (n := n + 1) hE x1) (fun r46 => ?_)
      refine wr_gd (fun g49 => ?_)
      refine wr_icmp_eq 58 dX1_shifted_49 g49.1 g49.2 (fun h49 => ?_) (fun h49 => ?_)
      · exact wr_at (pX1_shifted_b58 (n := n) hE hr hH hk  x1 t0) ⟨rfl, rfl, trivial⟩
      · exact wr_at (pX1_shifted_b52 (n := n) hE hr hH hk  x1) ⟨rfl, rfl, trivial⟩
set_option maxRecDepth 100000 in
set_option maxHeartbeats 4000000 in
theorem pX1_shifted {E : wE} {n : Nat} (hE : wGE E) {G : gR} {H : hR} {ca : caT} {h : hW} {k : Int} (hr : rep E G ca h) (hH : G.1.1 k = H) (hk : 0 ≤ k ∧ k < 11) (x1 : Int) (x2 : Int)  : WR E (n + 2) yX1_shifted cX1_shifted 4 (some .int) vI h 0 (wArgs [.ref (aCal E k), .int (iI x1), .int (iI x2)]) [] (fX1_shifted x1 x2 H) := by
  unfold fX1_shifted
  refine wr_iload_n dX1_shifted_0 rfl ?_
  refine wr_gd (fun g1 => ?_)
  refine wr_if_eq 9 dX1_shifted_1 g1 (fun h1 => ?_) (fun h1 => ?_)
  · refine wr_iload_n dX1_shifted_9 rfl ?_
    exact wr_ireturn dX1_shifted_10 ⟨_, rfl, rfl⟩
  · refine wr_iload_n dX1_shifted_4 rfl ?_
    refine wr_iconst dX1_shifted_5 ?_
    refine wr_gd (fun g6 => ?_)
    refine wr_icmp_ne 11 dX1_shifted_6 g6 (by decide) (fun h6 => ?_) (fun h6 => ?_)
    · refine wr_iload_n dX1_shifted_11 rfl ?_
      refine wr_iconst dX1_shifted_12 ?_
      refine wr_gd (fun g13 => ?_)
      refine wr_icmp_ne 24 dX1_shifted_13 g13 (by decide) (fun h13 => ?_) (fun h13 => ?_)
      · refine wr_aload_n dX1_shifted_24 rfl ?_
        refine wr_iload_n dX1_shifted_25 rfl ?_
        refine wr_cV dX1_shifted_26 k_RX1_40 b_yX1_nextBusiness x_yX1_nextBusiness (pX1_nextBusiness (n := n) hE hr hH hk x1) (rd_cal hr hH hk) rfl (fun r26 => ?_)
        exact wr_at (pX1_shifted_b29 (n := n) hE hr hH hk  x1 x2 r26) ⟨rfl, rfl, rfl, trivial⟩
      · refine wr_aload_n dX1_shifted_16 rfl ?_
        refine wr_iload_n dX1_shifted_17 rfl ?_
        refine wr_cV dX1_shifted_18 k_RX1_36 b_yX1_lastBusiness x_yX1_lastBusiness (pX1_lastBusiness (n := n) hE hr hH hk x1) (rd_cal hr hH hk) rfl (fun r18 => ?_)
        refine wr_goto 29 dX1_shifted_21 ?_
        exact wr_at (pX1_shifted_b29 (n := n) hE hr hH hk  x1 x2 r18) ⟨rfl, rfl, rfl, trivial⟩
    · refine wr_iload_n dX1_shifted_9 rfl ?_
      exact wr_ireturn dX1_shifted_10 ⟨_, rfl, rfl⟩
set_option maxRecDepth 100000 in
set_option maxHeartbeats 4000000 in
theorem pX1_firstDayOf {E : wE} {n : Nat} (hE : wGE E) {h : hW} (x0 : Int)  : WR E n yX1_firstDayOf cX1_firstDayOf 1 (some .int) vI h 0 (wArgs [.int (iI x0)]) [] (fX1_firstDayOf x0) := by
  unfold fX1_firstDayOf
  refine wr_iload_n dX1_firstDayOf_0 rfl ?_
  refine wr_bipush dX1_firstDayOf_1 ?_
  refine wr_gd (fun g3 => ?_)
  refine wr_idiv dX1_firstDayOf_3 g3 (by decide) ?_
  refine wr_sipush dX1_firstDayOf_4 ?_
  refine wr_imul dX1_firstDayOf_7 ?_
  refine wr_gets (k := 2) dX1_firstDayOf_8 rfl g_RX1_28 (hE.2.2.1.1) ?_
  refine wr_iload_n dX1_firstDayOf_11 rfl ?_
  refine wr_bipush dX1_firstDayOf_12 ?_
  refine wr_gd (fun g14 => ?_)
  refine wr_irem dX1_firstDayOf_14 g14 (by decide) ?_
  refine wr_gd (fun g15 => ?_)
  refine wr_ro dX1_firstDayOf_15 (hE.2.2.1.2) g15 ?_
  refine wr_iadd dX1_firstDayOf_16 ?_
  exact wr_ireturn dX1_firstDayOf_17 ⟨_, rfl, rfl⟩
set_option maxRecDepth 100000 in
set_option maxHeartbeats 4000000 in
theorem pX1_lastDayOf {E : wE} {n : Nat} (hE : wGE E) {h : hW} (x0 : Int)  : WR E n yX1_lastDayOf cX1_lastDayOf 1 (some .int) vI h 0 (wArgs [.int (iI x0)]) [] (fX1_lastDayOf x0) := by
  unfold fX1_lastDayOf
  refine wr_iload_n dX1_lastDayOf_0 rfl ?_
  refine wr_bipush dX1_lastDayOf_1 ?_
  refine wr_gd (fun g3 => ?_)
  refine wr_idiv dX1_lastDayOf_3 g3 (by decide) ?_
  refine wr_sipush dX1_lastDayOf_4 ?_
  refine wr_imul dX1_lastDayOf_7 ?_
  refine wr_gets (k := 2) dX1_lastDayOf_8 rfl g_RX1_28 (hE.2.2.1.1) ?_
  refine wr_iload_n dX1_lastDayOf_11 rfl ?_
  refine wr_bipush dX1_lastDayOf_12 ?_
  refine wr_gd (fun g14 => ?_)
  refine wr_irem dX1_lastDayOf_14 g14 (by decide) ?_
  refine wr_iconst dX1_lastDayOf_15 ?_
  refine wr_iadd dX1_lastDayOf_16 ?_
  refine wr_gd (fun g17 => ?_)
  refine wr_ro dX1_lastDayOf_17 (hE.2.2.1.2) g17 ?_
  refine wr_iadd dX1_lastDayOf_18 ?_
  refine wr_iconst dX1_lastDayOf_19 ?_
  refine wr_isub dX1_lastDayOf_20 ?_
  exact wr_ireturn dX1_lastDayOf_21 ⟨_, rfl, rfl⟩
set_option maxRecDepth 100000 in
set_option maxHeartbeats 4000000 in
theorem pX3_nominalDay_b38 {E : wE} {n : Nat} (hE : wGE E) {G : gR} {H : hR} {ca : caT} {h : hW} {k : Int} (hr : rep E G ca h) (hH : G.1.1 k = H) (hk : 0 ≤ k ∧ k < 11) (t0 : Int) (t1 : Int) (t2 : Int)  : WR E (n + 2) yX3_nominalDay cX3_nominalDay 7 (some .int) vI h 38 (wLs []) [.int (iI t2), .int (iI t1), .int (iI t0)] (fX3_nominalDay_b38 H t0 t1 t2) := by
  unfold fX3_nominalDay_b38
  refine wr_imul dX3_nominalDay_38 ?_
  refine wr_iadd dX3_nominalDay_39 ?_
  refine wr_istore_n dX3_nominalDay_40 ?_
  refine wr_iload_n dX3_nominalDay_41 rfl ?_
  refine wr_sipush dX3_nominalDay_42 ?_
  refine wr_gd (fun g45 => ?_)
  refine wr_icmp_gt 52 dX3_nominalDay_45 g45 (by decide) (fun h45 => ?_) (fun h45 => ?_)
  · refine wr_bipush dX3_nominalDay_52 ?_
    exact wr_ireturn dX3_nominalDay_54 ⟨_, rfl, rfl⟩
  · refine wr_iload_n dX3_nominalDay_48 rfl ?_
    refine wr_goto 54 dX3_nominalDay_49 ?_
    exact wr_ireturn dX3_nominalDay_54 ⟨_, rfl, rfl⟩
set_option maxRecDepth 100000 in
set_option maxHeartbeats 4000000 in
theorem pX3_nominalDay_b15 {E : wE} {n : Nat} (hE : wGE E) {G : gR} {H : hR} {ca : caT} {h : hW} {k : Int} (hr : rep E G ca h) (hH : G.1.1 k = H) (hk : 0 ≤ k ∧ k < 11) (x0 : Int) (x1 : Int) (hbx0 : 0 ≤ x0 ∧ x0 < 16) : WR E (n + 2) yX3_nominalDay cX3_nominalDay 7 (some .int) vI h 15 (wLs [some (.ref (aOrd E k x0)), some (.int (iI x1))]) [] (fX3_nominalDay_b15 H x0 x1) := by
  unfold fX3_nominalDay_b15
  refine wr_aload_n dX3_nominalDay_15 rfl ?_
  refine wr_get dX3_nominalDay_16 f_RX3_30 (rd_ord hr hH hk (by omega)) ?_
  refine wr_iload_n dX3_nominalDay_19 rfl ?_
  refine wr_aload_n dX3_nominalDay_20 rfl ?_
  refine wr_get dX3_nominalDay_21 f_RX3_24 (rd_ord hr hH hk (by omega)) ?_
  refine wr_imul dX3_nominalDay_24 ?_
  refine wr_aload_n dX3_nominalDay_25 rfl ?_
  refine wr_get dX3_nominalDay_26 f_RX3_21 (rd_ord hr hH hk (by omega)) ?_
  refine wr_gd (fun g29 => ?_)
  refine wr_if_ne 36 dX3_nominalDay_29 g29 (fun h29 => ?_) (fun h29 => ?_)
  · refine wr_bipush dX3_nominalDay_36 ?_
    exact wr_at (pX3_nominalDay_b38 (n := n) hE hr hH hk  (H.1 3 x0 6) (x1 * (H.1 3 x0 4)) 7) trivial
  · refine wr_iconst dX3_nominalDay_32 ?_
    refine wr_goto 38 dX3_nominalDay_33 ?_
    exact wr_at (pX3_nominalDay_b38 (n := n) hE hr hH hk  (H.1 3 x0 6) (x1 * (H.1 3 x0 4)) 1) trivial
set_option maxRecDepth 100000 in
set_option maxHeartbeats 4000000 in
theorem pX3_nominalDay {E : wE} {n : Nat} (hE : wGE E) {G : gR} {H : hR} {ca : caT} {h : hW} {k : Int} (hr : rep E G ca h) (hH : G.1.1 k = H) (hk : 0 ≤ k ∧ k < 11) (i : Int) (x1 : Int) (hbi : 0 ≤ i ∧ i < 16) : WR E (n + 2) yX3_nominalDay cX3_nominalDay 7 (some .int) vI h 0 (wArgs [.ref (aOrd E k i), .int (iI x1), .ref (aCal E k)]) [] (fX3_nominalDay i x1 H) := by
  unfold fX3_nominalDay
  refine wr_aload_n dX3_nominalDay_0 rfl ?_
  refine wr_get dX3_nominalDay_1 f_RX3_21 (rd_ord hr hH hk (by omega)) ?_
  refine wr_gd (fun g4 => ?_)
  refine wr_if_eq 15 dX3_nominalDay_4 g4 (fun h4 => ?_) (fun h4 => ?_)
  · exact wr_at (pX3_nominalDay_b15 (n := n) hE hr hH hk  i x1 (by omega)) ⟨rfl, rfl, trivial⟩
  · refine wr_aload_n dX3_nominalDay_7 rfl ?_
    refine wr_get dX3_nominalDay_8 f_RX3_21 (rd_ord hr hH hk (by omega)) ?_
    refine wr_iconst dX3_nominalDay_11 ?_
    refine wr_gd (fun g12 => ?_)
    refine wr_icmp_ne 55 dX3_nominalDay_12 g12 (by decide) (fun h12 => ?_) (fun h12 => ?_)
    · refine wr_aload_n dX3_nominalDay_55 rfl ?_
      refine wr_get dX3_nominalDay_56 f_RX3_30 (rd_ord hr hH hk (by omega)) ?_
      refine wr_cS dX3_nominalDay_59 k_RX3_64 b_yX1_monthOf x_yX1_monthOf (pX1_monthOf (n := n + 1) hE (H.1 3 i 6)) (fun r59 => ?_)
      refine wr_iload_n dX3_nominalDay_62 rfl ?_
      refine wr_aload_n dX3_nominalDay_63 rfl ?_
      refine wr_get dX3_nominalDay_64 f_RX3_24 (rd_ord hr hH hk (by omega)) ?_
      refine wr_imul dX3_nominalDay_67 ?_
      refine wr_iadd dX3_nominalDay_68 ?_
      refine wr_istore_n dX3_nominalDay_69 ?_
      refine wr_iload_n dX3_nominalDay_70 rfl ?_
      refine wr_bipush dX3_nominalDay_71 ?_
      refine wr_gd (fun g73 => ?_)
      refine wr_icmp_le 79 dX3_nominalDay_73 g73 (by decide) (fun h73 => ?_) (fun h73 => ?_)
      · refine wr_iload_n dX3_nominalDay_79 rfl ?_
        refine wr_cS dX3_nominalDay_80 k_RX3_70 b_yX1_firstDayOf x_yX1_firstDayOf (pX1_firstDayOf (n := n + 1) hE (r59 + (x1 * (H.1 3 i 4)))) (fun r80 => ?_)
        refine wr_istore dX3_nominalDay_83 ?_
        refine wr_iload_n dX3_nominalDay_85 rfl ?_
        refine wr_cS dX3_nominalDay_86 k_RX3_73 b_yX1_lastDayOf x_yX1_lastDayOf (pX1_lastDayOf (n := n + 1) hE (r59 + (x1 * (H.1 3 i 4)))) (fun r86 => ?_)
        refine wr_istore dX3_nominalDay_89 ?_
        refine wr_aload_n dX3_nominalDay_91 rfl ?_
        refine wr_get dX3_nominalDay_92 f_RX3_21 (rd_ord hr hH hk (by omega)) ?_
        refine wr_iconst dX3_nominalDay_95 ?_
        refine wr_gd (fun g96 => ?_)
        refine wr_icmp_ne 114 dX3_nominalDay_96 g96 (by decide) (fun h96 => ?_) (fun h96 => ?_)
        · refine wr_aload_n dX3_nominalDay_114 rfl ?_
          refine wr_iload dX3_nominalDay_115 rfl ?_
          refine wr_cV dX3_nominalDay_117 k_RX3_82 b_yX1_lastBusiness x_yX1_lastBusiness (pX1_lastBusiness (n := n) hE hr hH hk r86) (rd_cal hr hH hk) rfl (fun r117 => ?_)
          refine wr_istore dX3_nominalDay_120 ?_
          refine wr_iload dX3_nominalDay_122 rfl ?_
          refine wr_iload dX3_nominalDay_124 rfl ?_
          refine wr_gd (fun g126 => ?_)
          refine wr_icmp_lt 134 dX3_nominalDay_126 g126.1 g126.2 (fun h126 => ?_) (fun h126 => ?_)
          · refine wr_iload dX3_nominalDay_134 rfl ?_
            exact wr_ireturn dX3_nominalDay_136 ⟨_, rfl, rfl⟩
          · refine wr_iload dX3_nominalDay_129 rfl ?_
            refine wr_goto 136 dX3_nominalDay_131 ?_
            exact wr_ireturn dX3_nominalDay_136 ⟨_, rfl, rfl⟩
        · refine wr_iload dX3_nominalDay_99 rfl ?_
          refine wr_aload_n dX3_nominalDay_101 rfl ?_
          refine wr_get dX3_nominalDay_102 f_RX3_27 (rd_ord hr hH hk (by omega)) ?_
          refine wr_iadd dX3_nominalDay_105 ?_
          refine wr_iconst dX3_nominalDay_106 ?_
          refine wr_isub dX3_nominalDay_107 ?_
          refine wr_iload dX3_nominalDay_108 rfl ?_
          refine wr_gd (fun g110 => ?_)
          refine wr_mmin dX3_nominalDay_110 k_RX3_76 g110.1 g110.2 ?_
          exact wr_ireturn dX3_nominalDay_113 ⟨_, rfl, rfl⟩
      · refine wr_bipush dX3_nominalDay_76 ?_
        exact wr_ireturn dX3_nominalDay_78 ⟨_, rfl, rfl⟩
    · exact wr_at (pX3_nominalDay_b15 (n := n) hE hr hH hk  i x1 (by omega)) ⟨rfl, rfl, trivial⟩
set_option maxRecDepth 100000 in
set_option maxHeartbeats 4000000 in
theorem pX3_aim_b92 {E : wE} {n : Nat} (hE : wGE E) {G : gR} {k : Int} (hk : 0 ≤ k ∧ k < 11) (t0 : Int) (t1 : Int) (hbt0 : 0 ≤ t0 ∧ t0 < 16) (H : hR) (ca : caT) : WF E (n + 3) yX3_aim cX3_aim 2 (none) vV (setH G k) ca 92 (wLs []) [.int (iI t1), .ref (aOrd E k t0)] H (fX3_aim_b92 t0 t1 H) := by
  unfold fX3_aim_b92
  refine wf_p_ord (f := 19) dX3_aim_92 p_RX3_98 hk (by omega) (fun H92 => ?_)
  exact wf_return dX3_aim_95 rfl
set_option maxRecDepth 100000 in
set_option maxHeartbeats 4000000 in
theorem pX3_aim_b64 {E : wE} {n : Nat} (hE : wGE E) {G : gR} {k : Int} (hk : 0 ≤ k ∧ k < 11) (x0 : Int) (hbx0 : 0 ≤ x0 ∧ x0 < 16) (H : hR) (ca : caT) : WF E (n + 3) yX3_aim cX3_aim 2 (none) vV (setH G k) ca 64 (wLs [some (.ref (aOrd E k x0)), some (.ref (aCal E k))]) [] H (fX3_aim_b64 x0 H) := by
  unfold fX3_aim_b64
  refine wf_aload_n dX3_aim_64 rfl ?_
  refine wf_aload_n dX3_aim_65 rfl ?_
  refine wf_get dX3_aim_66 f_RX3_92 (fun h hr => rd_ord hr setH_at hk (by omega)) ?_
  refine wf_bipush dX3_aim_69 ?_
  refine wf_gd (fun g71 => ?_)
  refine wf_icmp_ne 80 dX3_aim_71 g71 (by decide) (fun h71 => ?_) (fun h71 => ?_)
  · refine wf_aload_n dX3_aim_80 rfl ?_
    refine wf_aload_n dX3_aim_81 rfl ?_
    refine wf_get dX3_aim_82 f_RX3_92 (fun h hr => rd_ord hr setH_at hk (by omega)) ?_
    refine wf_aload_n dX3_aim_85 rfl ?_
    refine wf_get dX3_aim_86 f_RX3_33 (fun h hr => rd_ord hr setH_at hk (by omega)) ?_
    refine wf_rV dX3_aim_89 k_RX3_95 b_yX1_shifted x_yX1_shifted (fun h hr => pX1_shifted (n := n) hE hr setH_at hk (H.1 3 x0 18) (H.1 3 x0 7)) (fun h hr => rd_cal hr setH_at hk) rfl (fun r89 => ?_)
    exact wf_at (pX3_aim_b92 (n := n) hE hk  x0 r89 (by omega) _ _) trivial
  · refine wf_sipush dX3_aim_74 ?_
    refine wf_goto 92 dX3_aim_77 ?_
    exact wf_at (pX3_aim_b92 (n := n) hE hk  x0 1095 (by omega) _ _) trivial
set_option maxRecDepth 100000 in
set_option maxHeartbeats 4000000 in
theorem pX3_aim {E : wE} {n : Nat} (hE : wGE E) {G : gR} {k : Int} (hk : 0 ≤ k ∧ k < 11) (i : Int) (hbi : 0 ≤ i ∧ i < 16) (H : hR) (ca : caT) : WF E (n + 3) yX3_aim cX3_aim 2 (none) vV (setH G k) ca 0 (wArgs [.ref (aOrd E k i), .ref (aCal E k)]) [] H (fX3_aim i H) := by
  unfold fX3_aim
  refine wf_aload_n dX3_aim_0 rfl ?_
  refine wf_aload_n dX3_aim_1 rfl ?_
  refine wf_get dX3_aim_2 f_RX3_61 (fun h hr => rd_ord hr setH_at hk (by omega)) ?_
  refine wf_p_ord (f := 17) dX3_aim_5 p_RX3_85 hk (by omega) (fun H5 => ?_)
  refine wf_aload_n dX3_aim_8 rfl ?_
  refine wf_aload_n dX3_aim_9 rfl ?_
  refine wf_aload_n dX3_aim_10 rfl ?_
  refine wf_get dX3_aim_11 f_RX3_61 (fun h hr => rd_ord hr setH_at hk (by omega)) ?_
  refine wf_aload_n dX3_aim_14 rfl ?_
  refine wf_rV dX3_aim_15 k_RX3_88 b_yX3_nominalDay x_yX3_nominalDay (fun h hr => pX3_nominalDay (n := n) hE hr setH_at hk i (H5.1 3 i 16) (by omega)) (fun h hr => rd_ord hr setH_at hk (by omega)) rfl (fun r15 => ?_)
  refine wf_p_ord (f := 18) dX3_aim_18 p_RX3_92 hk (by omega) (fun H18 => ?_)
  refine wf_aload_n dX3_aim_21 rfl ?_
  refine wf_get dX3_aim_22 f_RX3_92 (fun h hr => rd_ord hr setH_at hk (by omega)) ?_
  refine wf_bipush dX3_aim_25 ?_
  refine wf_gd (fun g27 => ?_)
  refine wf_icmp_eq 64 dX3_aim_27 g27 (by decide) (fun h27 => ?_) (fun h27 => ?_)
  · exact wf_at (pX3_aim_b64 (n := n) hE hk  i (by omega) _ _) ⟨rfl, rfl, trivial⟩
  · refine wf_aload_n dX3_aim_30 rfl ?_
    refine wf_get dX3_aim_31 f_RX3_92 (fun h hr => rd_ord hr setH_at hk (by omega)) ?_
    refine wf_aload_n dX3_aim_34 rfl ?_
    refine wf_get dX3_aim_35 f_RX3_30 (fun h hr => rd_ord hr setH_at hk (by omega)) ?_
    refine wf_gd (fun g38 => ?_)
    refine wf_icmp_ge 64 dX3_aim_38 g38.1 g38.2 (fun h38 => ?_) (fun h38 => ?_)
    · exact wf_at (pX3_aim_b64 (n := n) hE hk  i (by omega) _ _) ⟨rfl, rfl, trivial⟩
    · refine wf_aload_n dX3_aim_41 rfl ?_
      refine wf_aload_n dX3_aim_42 rfl ?_
      refine wf_get dX3_aim_43 f_RX3_61 (fun h hr => rd_ord hr setH_at hk (by omega)) ?_
      refine wf_iconst dX3_aim_46 ?_
      refine wf_iadd dX3_aim_47 ?_
      refine wf_p_ord (f := 17) dX3_aim_48 p_RX3_85 hk (by omega) (fun H48 => ?_)
      refine wf_aload_n dX3_aim_51 rfl ?_
      refine wf_aload_n dX3_aim_52 rfl ?_
      refine wf_aload_n dX3_aim_53 rfl ?_
      refine wf_get dX3_aim_54 f_RX3_85 (fun h hr => rd_ord hr setH_at hk (by omega)) ?_
      refine wf_aload_n dX3_aim_57 rfl ?_
      refine wf_rV dX3_aim_58 k_RX3_88 b_yX3_nominalDay x_yX3_nominalDay (fun h hr => pX3_nominalDay (n := n) hE hr setH_at hk i (H48.1 3 i 17) (by omega)) (fun h hr => rd_ord hr setH_at hk (by omega)) rfl (fun r58 => ?_)
      refine wf_p_ord (f := 18) dX3_aim_61 p_RX3_92 hk (by omega) (fun H61 => ?_)
      exact wf_at (pX3_aim_b64 (n := n) hE hk  i (by omega) _ _) ⟨rfl, rfl, trivial⟩
set_option maxRecDepth 100000 in
set_option maxHeartbeats 4000000 in
theorem pX3_leaveOutBefore_b10 {E : wE} {n : Nat} (hE : wGE E) {G : gR} {k : Int} (hk : 0 ≤ k ∧ k < 11) : ∀ (fuel : Nat) (x0 : Int) (x1 : Int) (x3 : Int) (x4 : Int) (hbx0 : 0 ≤ x0 ∧ x0 < 16) (H : hR) (ca : caT), WF E (n + 4) yX3_leaveOutBefore cX3_leaveOutBefore 5 (some .int) vI (setH G k) ca 10 (wLs [some (.ref (aOrd E k x0)), some (.int (iI x1)), some (.ref (aCal E k)), some (.int (iI x3)), some (.int (iI x4))]) [] H (fX3_leaveOutBefore_b10 fuel x0 x1 x3 x4 H) := by
  intro fuel
  induction fuel with
  | zero =>
    intro x0 x1 x3 x4 hbx0 H ca
    exact wf_none
  | succ fuel ih =>
    intro x0 x1 x3 x4 hbx0 H ca
    unfold fX3_leaveOutBefore_b10
    refine wf_iload dX3_leaveOutBefore_10 rfl ?_
    refine wf_sipush dX3_leaveOutBefore_12 ?_
    refine wf_gd (fun g15 => ?_)
    refine wf_icmp_gt 50 dX3_leaveOutBefore_15 g15 (by decide) (fun h15 => ?_) (fun h15 => ?_)
    · refine wf_iload_n dX3_leaveOutBefore_50 rfl ?_
      exact wf_ireturn dX3_leaveOutBefore_51 ⟨_, rfl, rfl⟩
    · refine wf_aload_n dX3_leaveOutBefore_18 rfl ?_
      refine wf_get dX3_leaveOutBefore_19 f_RX3_98 (fun h hr => rd_ord hr setH_at hk (by omega)) ?_
      refine wf_iload_n dX3_leaveOutBefore_22 rfl ?_
      refine wf_gd (fun g23 => ?_)
      refine wf_icmp_ge 50 dX3_leaveOutBefore_23 g23.1 g23.2 (fun h23 => ?_) (fun h23 => ?_)
      · refine wf_iload_n dX3_leaveOutBefore_50 rfl ?_
        exact wf_ireturn dX3_leaveOutBefore_51 ⟨_, rfl, rfl⟩
      · refine wf_iinc dX3_leaveOutBefore_26 rfl ?_
        refine wf_aload_n dX3_leaveOutBefore_29 rfl ?_
        refine wf_aload_n dX3_leaveOutBefore_30 rfl ?_
        refine wf_get dX3_leaveOutBefore_31 f_RX3_85 (fun h hr => rd_ord hr setH_at hk (by omega)) ?_
        refine wf_iconst dX3_leaveOutBefore_34 ?_
        refine wf_iadd dX3_leaveOutBefore_35 ?_
        refine wf_p_ord (f := 16) dX3_leaveOutBefore_36 p_RX3_61 hk (by omega) (fun H36 => ?_)
        refine wf_aload_n dX3_leaveOutBefore_39 rfl ?_
        refine wf_aload_n dX3_leaveOutBefore_40 rfl ?_
        refine wf_cV (put := fun q => q) dX3_leaveOutBefore_41 k_RX3_101 b_yX3_aim x_yX3_aim (pX3_aim (n := n) hE (G := G) (k := k) hk x0 (by omega) _ _) rfl (fun _ => rfl) (fun h hr => rd_ord hr setH_at hk (by omega)) rfl (fun r41 H41 ca => ?_)
        refine wf_iinc dX3_leaveOutBefore_44 rfl ?_
        refine wf_goto 10 dX3_leaveOutBefore_47 ?_
        exact wf_at (ih x0 x1 (x3 + 1) (x4 + 1) (by omega) _ _) ⟨rfl, rfl, rfl, rfl, rfl, trivial⟩
set_option maxRecDepth 100000 in
set_option maxHeartbeats 4000000 in
theorem pX3_leaveOutBefore {E : wE} {n : Nat} (hE : wGE E) {G : gR} {k : Int} (hk : 0 ≤ k ∧ k < 11) (i : Int) (x1 : Int) (hbi : 0 ≤ i ∧ i < 16) (H : hR) (ca : caT) : WF E (n + 4) yX3_leaveOutBefore cX3_leaveOutBefore 5 (some .int) vI (setH G k) ca 0 (wArgs [.ref (aOrd E k i), .int (iI x1), .ref (aCal E k)]) [] H (fX3_leaveOutBefore i x1 H) := by
  unfold fX3_leaveOutBefore
  refine wf_iconst dX3_leaveOutBefore_0 ?_
  refine wf_istore_n dX3_leaveOutBefore_1 ?_
  refine wf_aload_n dX3_leaveOutBefore_2 rfl ?_
  refine wf_aload_n dX3_leaveOutBefore_3 rfl ?_
  refine wf_cV (put := fun q => q) dX3_leaveOutBefore_4 k_RX3_101 b_yX3_aim x_yX3_aim (pX3_aim (n := n) hE (G := G) (k := k) hk i (by omega) _ _) rfl (fun _ => rfl) (fun h hr => rd_ord hr setH_at hk (by omega)) rfl (fun r4 H4 ca => ?_)
  refine wf_iconst dX3_leaveOutBefore_7 ?_
  refine wf_istore dX3_leaveOutBefore_8 ?_
  exact wf_at (pX3_leaveOutBefore_b10 (n := n) hE hk  fuel0 i x1 0 0 (by omega) _ _) ⟨rfl, rfl, rfl, rfl, rfl, trivial⟩
set_option maxRecDepth 100000 in
set_option maxHeartbeats 4000000 in
theorem pX2_addOrder_b50 {E : wE} {n : Nat} (hE : wGE E) {G : gR} {k : Int} (hk : 0 ≤ k ∧ k < 11) (x1 : Int) (x2 : Int) (x3 : Int) (x4 : Int) (x5 : Int) (x6 : Int)  (H : hR) (ca : caT) : WF E (n + 5) yX2_addOrder cX2_addOrder 8 (some .int) vI (setH G k) ca 50 (wLs [some (.ref (aH E k)), some (.int (iI x1)), some (.int (iI x2)), some (.int (iI x3)), some (.int (iI x4)), some (.int (iI x5)), some (.int (iI x6))]) [] H (fX2_addOrder_b50 x1 x2 x3 x4 x5 x6 H) := by
  unfold fX2_addOrder_b50
  refine wf_iload_n dX2_addOrder_50 rfl ?_
  refine wf_iconst dX2_addOrder_51 ?_
  refine wf_ldc dX2_addOrder_52 c_RX2_92 ?_
  refine wf_rSN dX2_addOrder_54 k_RX2_77 b_yX6_isBetween x_yX6_isBetween (fun h hr => pX6_isBetween (n := n + 4) hE x2 1 1000000) (fun r54 => ?_)
  refine wf_gd (fun g57 => ?_)
  refine wf_if_eq 67 dX2_addOrder_57 g57 (fun h57 => ?_) (fun h57 => ?_)
  · refine wf_bipush dX2_addOrder_67 ?_
    exact wf_ireturn dX2_addOrder_69 ⟨_, rfl, rfl⟩
  · refine wf_iload_n dX2_addOrder_60 rfl ?_
    refine wf_rS dX2_addOrder_61 k_RX2_112 b_yX2_areDates x_yX2_areDates (fun h hr => pX2_areDates (n := n + 3) hE x3) (fun r61 => ?_)
    refine wf_gd (fun g64 => ?_)
    refine wf_if_ne 70 dX2_addOrder_64 g64 (fun h64 => ?_) (fun h64 => ?_)
    · refine wf_iload dX2_addOrder_70 rfl ?_
      refine wf_aload_n dX2_addOrder_72 rfl ?_
      refine wf_get dX2_addOrder_73 f_RX2_68 (fun h hr => rd_h hr setH_at hk) ?_
      refine wf_sipush dX2_addOrder_76 ?_
      refine wf_rSN dX2_addOrder_79 k_RX2_77 b_yX6_isBetween x_yX6_isBetween (fun h hr => pX6_isBetween (n := n + 4) hE x4 (H.1 0 6 0) 1094) (fun r79 => ?_)
      refine wf_gd (fun g82 => ?_)
      refine wf_if_ne 88 dX2_addOrder_82 g82 (fun h82 => ?_) (fun h82 => ?_)
      · refine wf_iload dX2_addOrder_88 rfl ?_
        refine wf_iconst dX2_addOrder_90 ?_
        refine wf_bipush dX2_addOrder_91 ?_
        refine wf_rSN dX2_addOrder_93 k_RX2_77 b_yX6_isBetween x_yX6_isBetween (fun h hr => pX6_isBetween (n := n + 4) hE x5 0 49) (fun r93 => ?_)
        refine wf_gd (fun g96 => ?_)
        refine wf_if_eq 110 dX2_addOrder_96 g96 (fun h96 => ?_) (fun h96 => ?_)
        · refine wf_bipush dX2_addOrder_110 ?_
          exact wf_ireturn dX2_addOrder_112 ⟨_, rfl, rfl⟩
        · refine wf_iload dX2_addOrder_99 rfl ?_
          refine wf_iconst dX2_addOrder_101 ?_
          refine wf_bipush dX2_addOrder_102 ?_
          refine wf_rSN dX2_addOrder_104 k_RX2_77 b_yX6_isBetween x_yX6_isBetween (fun h hr => pX6_isBetween (n := n + 4) hE x6 0 99) (fun r104 => ?_)
          refine wf_gd (fun g107 => ?_)
          refine wf_if_ne 113 dX2_addOrder_107 g107 (fun h107 => ?_) (fun h107 => ?_)
          · refine wf_aload_n dX2_addOrder_113 rfl ?_
            refine wf_get dX2_addOrder_114 f_RX2_59 (fun h hr => rd_h hr setH_at hk) ?_
            refine wf_bipush dX2_addOrder_117 ?_
            refine wf_gd (fun g119 => ?_)
            refine wf_icmp_lt 125 dX2_addOrder_119 g119 (by decide) (fun h119 => ?_) (fun h119 => ?_)
            · refine wf_aload_n dX2_addOrder_125 rfl ?_
              refine wf_get dX2_addOrder_126 f_RX2_26 (fun h hr => rd_h hr setH_at hk) ?_
              refine wf_aload_n dX2_addOrder_129 rfl ?_
              refine wf_get dX2_addOrder_130 f_RX2_59 (fun h hr => rd_h hr setH_at hk) ?_
              refine wf_gd (fun g133 => ?_)
              refine wf_aald_ord dX2_addOrder_133 g133 (fun h hr => rd_ords hr setH_at hk) ?_
              refine wf_iload_n dX2_addOrder_134 rfl ?_
              refine wf_iload_n dX2_addOrder_135 rfl ?_
              refine wf_iload_n dX2_addOrder_136 rfl ?_
              refine wf_iload dX2_addOrder_137 rfl ?_
              refine wf_iload dX2_addOrder_139 rfl ?_
              refine wf_iload dX2_addOrder_141 rfl ?_
              refine wf_cV (put := fun q => q) dX2_addOrder_143 k_RX2_115 b_yX3_begin x_yX3_begin (pX3_begin (n := n + 4) hE (G := G) (k := k) hk (H.1 0 5 0) x1 x2 x3 x4 x5 x6 (by omega) _ _) rfl (fun _ => rfl) (fun h hr => rd_ord hr setH_at hk (by omega)) rfl (fun r143 H143 ca => ?_)
              refine wf_aload_n dX2_addOrder_146 rfl ?_
              refine wf_get dX2_addOrder_147 f_RX2_26 (fun h hr => rd_h hr setH_at hk) ?_
              refine wf_aload_n dX2_addOrder_150 rfl ?_
              refine wf_get dX2_addOrder_151 f_RX2_59 (fun h hr => rd_h hr setH_at hk) ?_
              refine wf_gd (fun g154 => ?_)
              refine wf_aald_ord dX2_addOrder_154 g154 (fun h hr => rd_ords hr setH_at hk) ?_
              refine wf_aload_n dX2_addOrder_155 rfl ?_
              refine wf_get dX2_addOrder_156 f_RX2_68 (fun h hr => rd_h hr setH_at hk) ?_
              refine wf_aload_n dX2_addOrder_159 rfl ?_
              refine wf_get dX2_addOrder_160 f_RX2_12 (fun h hr => rd_h hr setH_at hk) ?_
              refine wf_cV (put := fun q => q) dX2_addOrder_163 k_RX2_119 b_yX3_leaveOutBefore x_yX3_leaveOutBefore (pX3_leaveOutBefore (n := n) hE (G := G) (k := k) hk (H143.1 0 5 0) (H143.1 0 6 0) (by omega) _ _) rfl (fun _ => rfl) (fun h hr => rd_ord hr setH_at hk (by omega)) rfl (fun r163 H163 ca => ?_)
              refine wf_pop dX2_addOrder_166 ?_
              refine wf_aload_n dX2_addOrder_167 rfl ?_
              refine wf_dup dX2_addOrder_168 ?_
              refine wf_get dX2_addOrder_169 f_RX2_59 (fun h hr => rd_h hr setH_at hk) ?_
              refine wf_iconst dX2_addOrder_172 ?_
              refine wf_iadd dX2_addOrder_173 ?_
              refine wf_p_h (f := 5) dX2_addOrder_174 p_RX2_59 hk (fun H174 => ?_)
              refine wf_aload_n dX2_addOrder_177 rfl ?_
              refine wf_get dX2_addOrder_178 f_RX2_59 (fun h hr => rd_h hr setH_at hk) ?_
              refine wf_iconst dX2_addOrder_181 ?_
              refine wf_isub dX2_addOrder_182 ?_
              exact wf_ireturn dX2_addOrder_183 ⟨_, rfl, rfl⟩
            · refine wf_bipush dX2_addOrder_122 ?_
              exact wf_ireturn dX2_addOrder_124 ⟨_, rfl, rfl⟩
          · refine wf_bipush dX2_addOrder_110 ?_
            exact wf_ireturn dX2_addOrder_112 ⟨_, rfl, rfl⟩
      · refine wf_bipush dX2_addOrder_85 ?_
        exact wf_ireturn dX2_addOrder_87 ⟨_, rfl, rfl⟩
    · refine wf_bipush dX2_addOrder_67 ?_
      exact wf_ireturn dX2_addOrder_69 ⟨_, rfl, rfl⟩
set_option maxRecDepth 100000 in
set_option maxHeartbeats 4000000 in
theorem pX2_addOrder {E : wE} {n : Nat} (hE : wGE E) {G : gR} {k : Int} (hk : 0 ≤ k ∧ k < 11) (x1 : Int) (x2 : Int) (x3 : Int) (x4 : Int) (x5 : Int) (x6 : Int)  (H : hR) (ca : caT) : WF E (n + 5) yX2_addOrder cX2_addOrder 8 (some .int) vI (setH G k) ca 0 (wArgs [.ref (aH E k), .int (iI x1), .int (iI x2), .int (iI x3), .int (iI x4), .int (iI x5), .int (iI x6)]) [] H (fX2_addOrder x1 x2 x3 x4 x5 x6 H) := by
  unfold fX2_addOrder
  refine wf_iload_n dX2_addOrder_0 rfl ?_
  refine wf_gd (fun g1 => ?_)
  refine wf_if_lt 15 dX2_addOrder_1 g1 (fun h1 => ?_) (fun h1 => ?_)
  · refine wf_iconst dX2_addOrder_15 ?_
    exact wf_ireturn dX2_addOrder_16 ⟨_, rfl, rfl⟩
  · refine wf_aload_n dX2_addOrder_4 rfl ?_
    refine wf_iload_n dX2_addOrder_5 rfl ?_
    refine wf_bipush dX2_addOrder_6 ?_
    refine wf_gd (fun g8 => ?_)
    refine wf_idiv dX2_addOrder_8 g8 (by decide) ?_
    refine wf_rV dX2_addOrder_9 k_RX2_97 b_yX2_hasAccount x_yX2_hasAccount (fun h hr => pX2_hasAccount (n := n + 4) hE hr setH_at hk (dvI x1 9)) (fun h hr => rd_h hr setH_at hk) rfl (fun r9 => ?_)
    refine wf_gd (fun g12 => ?_)
    refine wf_if_ne 17 dX2_addOrder_12 g12 (fun h12 => ?_) (fun h12 => ?_)
    · refine wf_iload_n dX2_addOrder_17 rfl ?_
      refine wf_bipush dX2_addOrder_18 ?_
      refine wf_gd (fun g20 => ?_)
      refine wf_irem dX2_addOrder_20 g20 (by decide) ?_
      refine wf_istore dX2_addOrder_21 ?_
      refine wf_iload dX2_addOrder_23 rfl ?_
      refine wf_iload_n dX2_addOrder_25 rfl ?_
      refine wf_bipush dX2_addOrder_26 ?_
      refine wf_gd (fun g28 => ?_)
      refine wf_idiv dX2_addOrder_28 g28 (by decide) ?_
      refine wf_gd (fun g29 => ?_)
      refine wf_icmp_eq 48 dX2_addOrder_29 g29.1 g29.2 (fun h29 => ?_) (fun h29 => ?_)
      · refine wf_iconst dX2_addOrder_48 ?_
        exact wf_ireturn dX2_addOrder_49 ⟨_, rfl, rfl⟩
      · refine wf_iload dX2_addOrder_32 rfl ?_
        refine wf_bipush dX2_addOrder_34 ?_
        refine wf_gd (fun g36 => ?_)
        refine wf_icmp_eq 50 dX2_addOrder_36 g36 (by decide) (fun h36 => ?_) (fun h36 => ?_)
        · exact wf_at (pX2_addOrder_b50 (n := n) hE hk  x1 x2 x3 x4 x5 x6 _ _) ⟨rfl, rfl, rfl, rfl, rfl, rfl, rfl, trivial⟩
        · refine wf_aload_n dX2_addOrder_39 rfl ?_
          refine wf_iload dX2_addOrder_40 rfl ?_
          refine wf_rV dX2_addOrder_42 k_RX2_97 b_yX2_hasAccount x_yX2_hasAccount (fun h hr => pX2_hasAccount (n := n + 4) hE hr setH_at hk (rmI x1 9)) (fun h hr => rd_h hr setH_at hk) rfl (fun r42 => ?_)
          refine wf_gd (fun g45 => ?_)
          refine wf_if_ne 50 dX2_addOrder_45 g45 (fun h45 => ?_) (fun h45 => ?_)
          · exact wf_at (pX2_addOrder_b50 (n := n) hE hk  x1 x2 x3 x4 x5 x6 _ _) ⟨rfl, rfl, rfl, rfl, rfl, rfl, rfl, trivial⟩
          · refine wf_iconst dX2_addOrder_48 ?_
            exact wf_ireturn dX2_addOrder_49 ⟨_, rfl, rfl⟩
    · refine wf_iconst dX2_addOrder_15 ?_
      exact wf_ireturn dX2_addOrder_16 ⟨_, rfl, rfl⟩
set_option maxRecDepth 100000 in
set_option maxHeartbeats 4000000 in
theorem pX6_order {E : wE} {n : Nat} (hE : wGE E) {M : mR} (x1 : Int) (x2 : Int) (x3 : Int) (x4 : Int) (x5 : Int) (x6 : Int)  (c : cR) (ca : caT) : WF E (n + 7) yX6_order cX6_order 7 (some .int) vI (fun c : cR => (c, M)) ca 0 (wArgs [.ref (aTop E), .int (iI x1), .int (iI x2), .int (iI x3), .int (iI x4), .int (iI x5), .int (iI x6)]) [] c (fX6_order x1 x2 x3 x4 x5 x6 c) := by
  unfold fX6_order
  refine wf_aload_n dX6_order_0 rfl ?_
  refine wf_cV (put := fun q => q) dX6_order_1 k_RX6_37 b_yX6_remember x_yX6_remember (pX6_remember (n := n) hE _ _) rfl (fun _ => rfl) (fun h hr => rd_top hr) rfl (fun r1 c1 ca => ?_)
  refine wf_aload_n dX6_order_4 rfl ?_
  refine wf_aload_n dX6_order_5 rfl ?_
  refine wf_get dX6_order_6 f_RX6_12 (fun h hr => rd_top hr) ?_
  refine wf_iload_n dX6_order_9 rfl ?_
  refine wf_iload_n dX6_order_10 rfl ?_
  refine wf_iload_n dX6_order_11 rfl ?_
  refine wf_iload dX6_order_12 rfl ?_
  refine wf_iload dX6_order_14 rfl ?_
  refine wf_iload dX6_order_16 rfl ?_
  refine wf_cV (put := cH c1 0) dX6_order_18 k_RX6_66 b_yX2_addOrder x_yX2_addOrder (pX2_addOrder (n := n + 1) hE (G := (c1, M)) (k := 0) (by omega) x1 x2 x3 x4 x5 x6 _ _) setH_self (fun _ => rfl) (fun h hr => rd_h hr rfl (by omega)) rfl (fun r18 t18 ca => ?_)
  refine wf_bnd (fun c18 => ?_)
  refine wf_cV (put := fun q => q) dX6_order_21 k_RX6_44 b_yX6_recorded x_yX6_recorded (pX6_recorded (n := n + 4) hE r18 _ _) rfl (fun _ => rfl) (fun h hr => rd_top hr) rfl (fun r21 c21 ca => ?_)
  exact wf_ireturn dX6_order_24 ⟨_, rfl, rfl⟩
set_option maxRecDepth 100000 in
set_option maxHeartbeats 4000000 in
theorem pX2_settingOf {E : wE} {n : Nat} (hE : wGE E) {G : gR} {H : hR} {ca : caT} {h : hW} {k : Int} (hr : rep E G ca h) (hH : G.1.1 k = H) (hk : 0 ≤ k ∧ k < 11) (x1 : Int)  : WR E n yX2_settingOf cX2_settingOf 2 (some .int) vI h 0 (wArgs [.ref (aH E k), .int (iI x1)]) [] (fX2_settingOf x1 H) := by
  unfold fX2_settingOf
  refine wr_iload_n dX2_settingOf_0 rfl ?_
  refine wr_gd (fun g1 => ?_)
  refine wr_ite (fun e1_0 => ?_) (fun e1_0 => ?_)
  · refine wr_tsK 0 28 dX2_settingOf_1 e1_0 ?_
    refine wr_aload_n dX2_settingOf_28 rfl ?_
    refine wr_get dX2_settingOf_29 f_RX2_37 (rd_h hr hH hk) ?_
    exact wr_ireturn dX2_settingOf_32 ⟨_, rfl, rfl⟩
  refine wr_ite (fun e1_1 => ?_) (fun e1_1 => ?_)
  · refine wr_tsK 1 33 dX2_settingOf_1 e1_1 ?_
    refine wr_aload_n dX2_settingOf_33 rfl ?_
    refine wr_get dX2_settingOf_34 f_RX2_41 (rd_h hr hH hk) ?_
    exact wr_ireturn dX2_settingOf_37 ⟨_, rfl, rfl⟩
  refine wr_ite (fun e1_2 => ?_) (fun e1_2 => ?_)
  · refine wr_tsK 2 38 dX2_settingOf_1 e1_2 ?_
    refine wr_aload_n dX2_settingOf_38 rfl ?_
    refine wr_get dX2_settingOf_39 f_RX2_44 (rd_h hr hH hk) ?_
    exact wr_ireturn dX2_settingOf_42 ⟨_, rfl, rfl⟩
  refine wr_tsOut (z := x1) 43 dX2_settingOf_1 g1 (by omega) ?_
  refine wr_aload_n dX2_settingOf_43 rfl ?_
  refine wr_get dX2_settingOf_44 f_RX2_12 (rd_h hr hH hk) ?_
  refine wr_get dX2_settingOf_47 f_RX2_74 (rd_cal hr hH hk) ?_
  exact wr_ireturn dX2_settingOf_50 ⟨_, rfl, rfl⟩

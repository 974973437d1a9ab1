/-! ===== the methods meet their functions (by program: wip/whole/gen.py) ===== -/
set_option maxRecDepth 100000 in
set_option maxHeartbeats 4000000 in
theorem pX6_ofDay {E : wE} {n : Nat} (hE : wGE E) {M : mR} {c : cR} {ca : caT} {h : hW} (hr : rep E (c, M) ca h) (x1 : Int) (x2 : Int)  : WR E (n + 3) yX6_ofDay cX6_ofDay 3 (some .int) vI h 0 (wArgs [.ref (aTop E), .int (iI x1), .int (iI x2)]) [] (fX6_ofDay x1 x2 c) := by
  unfold fX6_ofDay
  refine wr_iload_n dX6_ofDay_0 rfl ?_
  refine wr_iconst dX6_ofDay_1 ?_
  refine wr_sipush dX6_ofDay_2 ?_
  refine wr_cS dX6_ofDay_5 k_RX6_93 b_yX6_isBetween x_yX6_isBetween (pX6_isBetween (n := n + 2) hE x1 0 1094) (fun r5 => ?_)
  refine wr_gd (fun g8 => ?_)
  refine wr_if_ne 14 dX6_ofDay_8 g8 (fun h8 => ?_) (fun h8 => ?_)
  · refine wr_aload_n dX6_ofDay_14 rfl ?_
    refine wr_get dX6_ofDay_15 f_RX6_12 (rd_top hr) ?_
    refine wr_get dX6_ofDay_18 f_RX6_48 (rd_h hr rfl (by omega)) ?_
    refine wr_iload_n dX6_ofDay_21 rfl ?_
    refine wr_iload_n dX6_ofDay_22 rfl ?_
    refine wr_cV dX6_ofDay_23 k_RX6_97 b_yX1_numberOf x_yX1_numberOf (pX1_numberOf (n := n) hE hr rfl (by omega) x1 x2) (rd_cal hr rfl (by omega)) rfl (fun r23 => ?_)
    exact wr_ireturn dX6_ofDay_26 ⟨_, rfl, rfl⟩
  · refine wr_bipush dX6_ofDay_11 ?_
    exact wr_ireturn dX6_ofDay_13 ⟨_, rfl, rfl⟩
set_option maxRecDepth 100000 in
set_option maxHeartbeats 4000000 in
theorem pX6_ofOrder {E : wE} {n : Nat} (hE : wGE E) {M : mR} (x1 : Int) (x2 : Int)  (c : cR) (ca : caT) : WF E (n + 5) yX6_ofOrder cX6_ofOrder 3 (some .int) vI (fun c : cR => (c, M)) ca 0 (wArgs [.ref (aTop E), .int (iI x1), .int (iI x2)]) [] c (fX6_ofOrder x1 x2 c) := by
  unfold fX6_ofOrder
  refine wf_aload_n dX6_ofOrder_0 rfl ?_
  refine wf_get dX6_ofOrder_1 f_RX6_12 (fun h hr => rd_top hr) ?_
  refine wf_iload_n dX6_ofOrder_4 rfl ?_
  refine wf_rV dX6_ofOrder_5 k_RX6_124 b_yX2_hasOrder x_yX2_hasOrder (fun h hr => pX2_hasOrder (n := n + 4) hE hr rfl (by omega) x1) (fun h hr => rd_h hr rfl (by omega)) rfl (fun r5 => ?_)
  refine wf_gd (fun g8 => ?_)
  refine wf_if_ne 13 dX6_ofOrder_8 g8 (fun h8 => ?_) (fun h8 => ?_)
  · refine wf_iload_n dX6_ofOrder_13 rfl ?_
    refine wf_bipush dX6_ofOrder_14 ?_
    refine wf_gd (fun g16 => ?_)
    refine wf_icmp_ne 28 dX6_ofOrder_16 g16 (by decide) (fun h16 => ?_) (fun h16 => ?_)
    · refine wf_aload_n dX6_ofOrder_28 rfl ?_
      refine wf_get dX6_ofOrder_29 f_RX6_12 (fun h hr => rd_top hr) ?_
      refine wf_get dX6_ofOrder_32 f_RX6_130 (fun h hr => rd_h hr rfl (by omega)) ?_
      refine wf_iload_n dX6_ofOrder_35 rfl ?_
      refine wf_gd (fun g36 => ?_)
      refine wf_aald_ord dX6_ofOrder_36 g36 (fun h hr => rd_ords hr rfl (by omega)) ?_
      refine wf_iload_n dX6_ofOrder_37 rfl ?_
      refine wf_rV dX6_ofOrder_38 k_RX6_134 b_yX3_numberOf x_yX3_numberOf (fun h hr => pX3_numberOf (n := n + 4) hE hr rfl (by omega) x1 x2 (by omega)) (fun h hr => rd_ord hr rfl (by omega) (by omega)) rfl (fun r38 => ?_)
      exact wf_ireturn dX6_ofOrder_41 ⟨_, rfl, rfl⟩
    · refine wf_aload_n dX6_ofOrder_19 rfl ?_
      refine wf_get dX6_ofOrder_20 f_RX6_12 (fun h hr => rd_top hr) ?_
      refine wf_iload_n dX6_ofOrder_23 rfl ?_
      refine wf_cV (put := cH c 0) dX6_ofOrder_24 k_RX6_127 b_yX2_nextNominalDay x_yX2_nextNominalDay (pX2_nextNominalDay (n := n) hE (G := (c, M)) (k := 0) (by omega) x1 _ _) setH_self (fun _ => rfl) (fun h hr => rd_h hr rfl (by omega)) rfl (fun r24 t24 ca => ?_)
      refine wf_bnd (fun c24 => ?_)
      exact wf_ireturn dX6_ofOrder_27 ⟨_, rfl, rfl⟩
  · refine wf_iconst dX6_ofOrder_11 ?_
    exact wf_ireturn dX6_ofOrder_12 ⟨_, rfl, rfl⟩
set_option maxRecDepth 100000 in
set_option maxHeartbeats 4000000 in
theorem pX6_ofPayment {E : wE} {n : Nat} (hE : wGE E) {M : mR} {c : cR} {ca : caT} {h : hW} (hr : rep E (c, M) ca h) (x1 : Int) (x2 : Int)  : WR E (n + 1) yX6_ofPayment cX6_ofPayment 3 (some .int) vI h 0 (wArgs [.ref (aTop E), .int (iI x1), .int (iI x2)]) [] (fX6_ofPayment x1 x2 c) := by
  unfold fX6_ofPayment
  refine wr_iload_n dX6_ofPayment_0 rfl ?_
  refine wr_iconst dX6_ofPayment_1 ?_
  refine wr_aload_n dX6_ofPayment_2 rfl ?_
  refine wr_get dX6_ofPayment_3 f_RX6_12 (rd_top hr) ?_
  refine wr_get dX6_ofPayment_6 f_RX6_138 (rd_h hr rfl (by omega)) ?_
  refine wr_get dX6_ofPayment_9 f_RX6_142 (rd_wait hr rfl (by omega)) ?_
  refine wr_iconst dX6_ofPayment_12 ?_
  refine wr_isub dX6_ofPayment_13 ?_
  refine wr_cS dX6_ofPayment_14 k_RX6_93 b_yX6_isBetween x_yX6_isBetween (pX6_isBetween (n := n) hE x1 0 (((c.1 0).1 4 2 0) - 1)) (fun r14 => ?_)
  refine wr_gd (fun g17 => ?_)
  refine wr_if_ne 22 dX6_ofPayment_17 g17 (fun h17 => ?_) (fun h17 => ?_)
  · refine wr_iload_n dX6_ofPayment_22 rfl ?_
    refine wr_iconst dX6_ofPayment_23 ?_
    refine wr_iconst dX6_ofPayment_24 ?_
    refine wr_cS dX6_ofPayment_25 k_RX6_93 b_yX6_isBetween x_yX6_isBetween (pX6_isBetween (n := n) hE x2 0 4) (fun r25 => ?_)
    refine wr_gd (fun g28 => ?_)
    refine wr_if_ne 34 dX6_ofPayment_28 g28 (fun h28 => ?_) (fun h28 => ?_)
    · refine wr_aload_n dX6_ofPayment_34 rfl ?_
      refine wr_get dX6_ofPayment_35 f_RX6_12 (rd_top hr) ?_
      refine wr_get dX6_ofPayment_38 f_RX6_138 (rd_h hr rfl (by omega)) ?_
      refine wr_get dX6_ofPayment_41 f_RX6_147 (rd_wait hr rfl (by omega)) ?_
      refine wr_iload_n dX6_ofPayment_44 rfl ?_
      refine wr_gd (fun g45 => ?_)
      refine wr_aald_cols dX6_ofPayment_45 g45 (rd_cols hr rfl (by omega)) ?_
      refine wr_iload_n dX6_ofPayment_46 rfl ?_
      refine wr_gd (fun g47 => ?_)
      refine wr_collds dX6_ofPayment_47 hr rfl (by omega) g45 g47 ?_
      exact wr_ireturn dX6_ofPayment_48 ⟨_, rfl, rfl⟩
    · refine wr_bipush dX6_ofPayment_31 ?_
      exact wr_ireturn dX6_ofPayment_33 ⟨_, rfl, rfl⟩
  · refine wr_iconst dX6_ofPayment_20 ?_
    exact wr_ireturn dX6_ofPayment_21 ⟨_, rfl, rfl⟩
set_option maxRecDepth 100000 in
set_option maxHeartbeats 4000000 in
theorem pX6_order {E : wE} {n : Nat} (hE : wGE E) {M : mR} (x1 : Int) (x2 : Int) (x3 : Int) (x4 : Int) (x5 : Int) (x6 : Int)  (c : cR) (ca : caT) : WF E (n + 7) yX6_order cX6_order 7 (some .int) vI (fun c : cR => (c, M)) ca 0 (wArgs [.ref (aTop E), .int (iI x1), .int (iI x2), .int (iI x3), .int (iI x4), .int (iI x5), .int (iI x6)]) [] c (fX6_order x1 x2 x3 x4 x5 x6 c) := by
  unfold fX6_order
  refine wf_aload_n dX6_order_0 rfl ?_
  refine wf_cV (put := fun q => q) dX6_order_1 k_RX6_37 b_yX6_remember x_yX6_remember (pX6_remember (n := n) hE _ _) rfl (fun _ => rfl) (fun h hr => rd_top hr) rfl (fun r1 c1 ca => ?_)
  refine wf_aload_n dX6_order_4 rfl ?_
  refine wf_aload_n dX6_order_5 rfl ?_
  refine wf_get dX6_order_6 f_RX6_12 (fun h hr => rd_top hr) ?_
  refine wf_iload_n dX6_order_9 rfl ?_
  refine wf_iload_n dX6_order_10 rfl ?_
  refine wf_iload_n dX6_order_11 rfl ?_
  refine wf_iload dX6_order_12 rfl ?_
  refine wf_iload dX6_order_14 rfl ?_
  refine wf_iload dX6_order_16 rfl ?_
  refine wf_cV (put := cH c1 0) dX6_order_18 k_RX6_66 b_yX2_addOrder x_yX2_addOrder (pX2_addOrder (n := n + 1) hE (G := (c1, M)) (k := 0) (by omega) x1 x2 x3 x4 x5 x6 _ _) setH_self (fun _ => rfl) (fun h hr => rd_h hr rfl (by omega)) rfl (fun r18 t18 ca => ?_)
  refine wf_bnd (fun c18 => ?_)
  refine wf_cV (put := fun q => q) dX6_order_21 k_RX6_44 b_yX6_recorded x_yX6_recorded (pX6_recorded (n := n + 4) hE r18 _ _) rfl (fun _ => rfl) (fun h hr => rd_top hr) rfl (fun r21 c21 ca => ?_)
  exact wf_ireturn dX6_order_24 ⟨_, rfl, rfl⟩
set_option maxRecDepth 100000 in
set_option maxHeartbeats 4000000 in
theorem pX6_owedBits {E : wE} {n : Nat} (hE : wGE E) {M : mR} {c : cR} {ca : caT} {h : hW} (hr : rep E (c, M) ca h) (x1 : Int)  : WR E (n + 1) yX6_owedBits cX6_owedBits 2 (some .long) vJ h 0 (wArgs [.ref (aTop E), .int (iI x1)]) [] (fX6_owedBits x1 c) := by
  unfold fX6_owedBits
  refine wr_aload_n dX6_owedBits_0 rfl ?_
  refine wr_get dX6_owedBits_1 f_RX6_12 (rd_top hr) ?_
  refine wr_iload_n dX6_owedBits_4 rfl ?_
  refine wr_cV dX6_owedBits_5 k_RX6_100 b_yX2_hasAccount x_yX2_hasAccount (pX2_hasAccount (n := n) hE hr rfl (by omega) x1) (rd_h hr rfl (by omega)) rfl (fun r5 => ?_)
  refine wr_gd (fun g8 => ?_)
  refine wr_if_ne 15 dX6_owedBits_8 g8 (fun h8 => ?_) (fun h8 => ?_)
  · refine wr_aload_n dX6_owedBits_15 rfl ?_
    refine wr_get dX6_owedBits_16 f_RX6_12 (rd_top hr) ?_
    refine wr_get dX6_owedBits_19 f_RX6_106 (rd_h hr rfl (by omega)) ?_
    refine wr_iload_n dX6_owedBits_22 rfl ?_
    refine wr_gd (fun g23 => ?_)
    refine wr_aald_acc dX6_owedBits_23 g23 (rd_accs hr rfl (by omega)) ?_
    refine wr_get dX6_owedBits_24 f_RX6_116 (rd_acc hr rfl (by omega) (by omega)) ?_
    refine wr_cS dX6_owedBits_27 k_RX6_120 b_yX6_bitsOf x_yX6_bitsOf (pX6_bitsOf (n := n) hE ((c.1 0).2 x1)) (fun r27 => ?_)
    exact wr_lreturn dX6_owedBits_30 rfl
  · refine wr_ldc2 dX6_owedBits_11 c_RX6_104 ?_
    exact wr_lreturn dX6_owedBits_14 rfl
set_option maxRecDepth 100000 in
set_option maxHeartbeats 4000000 in
theorem pX6_put {E : wE} {n : Nat} (hE : wGE E) {M : mR} (x1 : Int)  (c : cR) (ca : caT) : WF E (n + 2) yX6_put cX6_put 3 (some .int) vI (fun c : cR => (c, M)) ca 0 (wArgs [.ref (aTop E), .long (jL x1)]) [] c (fX6_put x1 c) := by
  unfold fX6_put
  refine wf_aload_n dX6_put_0 rfl ?_
  refine wf_get dX6_put_1 f_RX6_33 (fun h hr => rd_top hr) ?_
  refine wf_lload_n dX6_put_4 rfl ?_
  refine wf_cV (put := cP c) dX6_put_5 k_RX6_187 b_yX4_append x_yX4_append (pX4_append (n := n) hE (C := c) (M := M) x1 _ _) rfl (fun _ => rfl) (fun h hr => rd_pad hr) rfl (fun r5 t5 ca => ?_)
  refine wf_bnd (fun c5 => ?_)
  exact wf_ireturn dX6_put_8 ⟨_, rfl, rfl⟩
set_option maxRecDepth 100000 in
set_option maxHeartbeats 4000000 in
theorem pX6_restore {E : wE} {n : Nat} (hE : wGE E) {M : mR} (x1 : Int)  (c : cR) (ca : caT) : WF E (n + 7) yX6_restore cX6_restore 2 (some .int) vI (fun c : cR => (c, M)) ca 0 (wArgs [.ref (aTop E), .int (iI x1)]) [] c (fX6_restore x1 c) := by
  unfold fX6_restore
  refine wf_iload_n dX6_restore_0 rfl ?_
  refine wf_iconst dX6_restore_1 ?_
  refine wf_iconst dX6_restore_2 ?_
  refine wf_rS dX6_restore_3 k_RX6_93 b_yX6_isBetween x_yX6_isBetween (fun h hr => pX6_isBetween (n := n + 6) hE x1 0 1) (fun r3 => ?_)
  refine wf_gd (fun g6 => ?_)
  refine wf_if_ne 12 dX6_restore_6 g6 (fun h6 => ?_) (fun h6 => ?_)
  · refine wf_aload_n dX6_restore_12 rfl ?_
    refine wf_get dX6_restore_13 f_RX6_26 (fun h hr => rd_top hr) ?_
    refine wf_iload_n dX6_restore_16 rfl ?_
    refine wf_gd (fun g17 => ?_)
    refine wf_zald dX6_restore_17 (g := fun j => c.2.1 1 j) g17 (fun h hr => rd_saved hr) ?_
    refine wf_gd (fun g18 => ?_)
    refine wf_if_ne 24 dX6_restore_18 g18 (fun h18 => ?_) (fun h18 => ?_)
    · refine wf_aload_n dX6_restore_24 rfl ?_
      refine wf_cV (put := fun q => q) dX6_restore_25 k_RX6_37 b_yX6_remember x_yX6_remember (pX6_remember (n := n) hE _ _) rfl (fun _ => rfl) (fun h hr => rd_top hr) rfl (fun r25 c25 ca => ?_)
      refine wf_aload_n dX6_restore_28 rfl ?_
      refine wf_get dX6_restore_29 f_RX6_12 (fun h hr => rd_top hr) ?_
      refine wf_aload_n dX6_restore_32 rfl ?_
      refine wf_get dX6_restore_33 f_RX6_23 (fun h hr => rd_top hr) ?_
      refine wf_iload_n dX6_restore_36 rfl ?_
      refine wf_gd (fun g37 => ?_)
      refine wf_aald_slots dX6_restore_37 g37 (fun h hr => rd_slots hr) ?_
      refine wf_cV (put := cH c25 0) dX6_restore_38 k_RX6_167 b_yX2_copyFrom x_yX2_copyFrom (pX2_copyFrom (n := n + 1) hE (G := (c25, M)) (k := 0) (by omega) (k2 := (9 + x1)) (by omega) (by omega) rfl _ _) setH_self (fun _ => rfl) (fun h hr => rd_h hr rfl (by omega)) rfl (fun r38 t38 ca => ?_)
      refine wf_bnd (fun c38 => ?_)
      refine wf_aload_n dX6_restore_41 rfl ?_
      refine wf_aload_n dX6_restore_42 rfl ?_
      refine wf_get dX6_restore_43 f_RX6_12 (fun h hr => rd_top hr) ?_
      refine wf_get dX6_restore_46 f_RX6_89 (fun h hr => rd_h hr rfl (by omega)) ?_
      refine wf_cV (put := fun q => q) dX6_restore_49 k_RX6_44 b_yX6_recorded x_yX6_recorded (pX6_recorded (n := n + 4) hE ((c38.1 0).1 0 6 0) _ _) rfl (fun _ => rfl) (fun h hr => rd_top hr) rfl (fun r49 c49 ca => ?_)
      exact wf_ireturn dX6_restore_52 ⟨_, rfl, rfl⟩
    · refine wf_bipush dX6_restore_21 ?_
      exact wf_ireturn dX6_restore_23 ⟨_, rfl, rfl⟩
  · refine wf_bipush dX6_restore_9 ?_
    exact wf_ireturn dX6_restore_11 ⟨_, rfl, rfl⟩
set_option maxRecDepth 100000 in
set_option maxHeartbeats 4000000 in
theorem pX6_save {E : wE} {n : Nat} (hE : wGE E) {M : mR} (x1 : Int)  (c : cR) (ca : caT) : WF E (n + 6) yX6_save cX6_save 2 (some .int) vI (fun c : cR => (c, M)) ca 0 (wArgs [.ref (aTop E), .int (iI x1)]) [] c (fX6_save x1 c) := by
  unfold fX6_save
  refine wf_iload_n dX6_save_0 rfl ?_
  refine wf_iconst dX6_save_1 ?_
  refine wf_iconst dX6_save_2 ?_
  refine wf_rS dX6_save_3 k_RX6_93 b_yX6_isBetween x_yX6_isBetween (fun h hr => pX6_isBetween (n := n + 5) hE x1 0 1) (fun r3 => ?_)
  refine wf_gd (fun g6 => ?_)
  refine wf_if_ne 12 dX6_save_6 g6 (fun h6 => ?_) (fun h6 => ?_)
  · refine wf_aload_n dX6_save_12 rfl ?_
    refine wf_get dX6_save_13 f_RX6_23 (fun h hr => rd_top hr) ?_
    refine wf_iload_n dX6_save_16 rfl ?_
    refine wf_gd (fun g17 => ?_)
    refine wf_aald_slots dX6_save_17 g17 (fun h hr => rd_slots hr) ?_
    refine wf_aload_n dX6_save_18 rfl ?_
    refine wf_get dX6_save_19 f_RX6_12 (fun h hr => rd_top hr) ?_
    refine wf_cV (put := cH c (9 + x1)) dX6_save_22 k_RX6_167 b_yX2_copyFrom x_yX2_copyFrom (pX2_copyFrom (n := n) hE (G := (c, M)) (k := (9 + x1)) (by omega) (k2 := 0) (by omega) (by omega) rfl _ _) setH_self (fun _ => rfl) (fun h hr => rd_h hr rfl (by omega)) rfl (fun r22 t22 ca => ?_)
    refine wf_bnd (fun c22 => ?_)
    refine wf_aload_n dX6_save_25 rfl ?_
    refine wf_get dX6_save_26 f_RX6_26 (fun h hr => rd_top hr) ?_
    refine wf_iload_n dX6_save_29 rfl ?_
    refine wf_iconst dX6_save_30 ?_
    refine wf_gd (fun g31 => ?_)
    refine wf_s_saved dX6_save_31 g31 rfl (fun c31 => ?_)
    refine wf_aload_n dX6_save_32 rfl ?_
    refine wf_get dX6_save_33 f_RX6_12 (fun h hr => rd_top hr) ?_
    refine wf_get dX6_save_36 f_RX6_89 (fun h hr => rd_h hr rfl (by omega)) ?_
    exact wf_ireturn dX6_save_39 ⟨_, rfl, rfl⟩
  · refine wf_bipush dX6_save_9 ?_
    exact wf_ireturn dX6_save_11 ⟨_, rfl, rfl⟩
set_option maxRecDepth 100000 in
set_option maxHeartbeats 4000000 in
theorem pX6_set {E : wE} {n : Nat} (hE : wGE E) {M : mR} (x1 : Int) (x2 : Int)  (c : cR) (ca : caT) : WF E (n + 7) yX6_set cX6_set 3 (some .int) vI (fun c : cR => (c, M)) ca 0 (wArgs [.ref (aTop E), .int (iI x1), .int (iI x2)]) [] c (fX6_set x1 x2 c) := by
  unfold fX6_set
  refine wf_aload_n dX6_set_0 rfl ?_
  refine wf_cV (put := fun q => q) dX6_set_1 k_RX6_37 b_yX6_remember x_yX6_remember (pX6_remember (n := n) hE _ _) rfl (fun _ => rfl) (fun h hr => rd_top hr) rfl (fun r1 c1 ca => ?_)
  refine wf_aload_n dX6_set_4 rfl ?_
  refine wf_aload_n dX6_set_5 rfl ?_
  refine wf_get dX6_set_6 f_RX6_12 (fun h hr => rd_top hr) ?_
  refine wf_iload_n dX6_set_9 rfl ?_
  refine wf_iload_n dX6_set_10 rfl ?_
  refine wf_cV (put := cH c1 0) dX6_set_11 k_RX6_40 b_yX2_replaceSetting x_yX2_replaceSetting (pX2_replaceSetting (n := n + 5) hE (G := (c1, M)) (k := 0) (by omega) x1 x2 _ _) setH_self (fun _ => rfl) (fun h hr => rd_h hr rfl (by omega)) rfl (fun r11 t11 ca => ?_)
  refine wf_bnd (fun c11 => ?_)
  refine wf_cV (put := fun q => q) dX6_set_14 k_RX6_44 b_yX6_recorded x_yX6_recorded (pX6_recorded (n := n + 4) hE r11 _ _) rfl (fun _ => rfl) (fun h hr => rd_top hr) rfl (fun r14 c14 ca => ?_)
  exact wf_ireturn dX6_set_17 ⟨_, rfl, rfl⟩
set_option maxRecDepth 100000 in
set_option maxHeartbeats 4000000 in
theorem pX6_shift {E : wE} {n : Nat} (hE : wGE E) {M : mR} {c : cR} {ca : caT} {h : hW} (hr : rep E (c, M) ca h) (x1 : Int) (x2 : Int)  : WR E (n + 3) yX6_shift cX6_shift 3 (some .int) vI h 0 (wArgs [.ref (aTop E), .int (iI x1), .int (iI x2)]) [] (fX6_shift x1 x2 c) := by
  unfold fX6_shift
  refine wr_iload_n dX6_shift_0 rfl ?_
  refine wr_iconst dX6_shift_1 ?_
  refine wr_sipush dX6_shift_2 ?_
  refine wr_cS dX6_shift_5 k_RX6_93 b_yX6_isBetween x_yX6_isBetween (pX6_isBetween (n := n + 2) hE x1 0 1094) (fun r5 => ?_)
  refine wr_gd (fun g8 => ?_)
  refine wr_if_eq 20 dX6_shift_8 g8 (fun h8 => ?_) (fun h8 => ?_)
  · refine wr_bipush dX6_shift_20 ?_
    exact wr_ireturn dX6_shift_22 ⟨_, rfl, rfl⟩
  · refine wr_iload_n dX6_shift_11 rfl ?_
    refine wr_iconst dX6_shift_12 ?_
    refine wr_iconst dX6_shift_13 ?_
    refine wr_cS dX6_shift_14 k_RX6_93 b_yX6_isBetween x_yX6_isBetween (pX6_isBetween (n := n + 2) hE x2 0 4) (fun r14 => ?_)
    refine wr_gd (fun g17 => ?_)
    refine wr_if_ne 23 dX6_shift_17 g17 (fun h17 => ?_) (fun h17 => ?_)
    · refine wr_aload_n dX6_shift_23 rfl ?_
      refine wr_get dX6_shift_24 f_RX6_12 (rd_top hr) ?_
      refine wr_get dX6_shift_27 f_RX6_48 (rd_h hr rfl (by omega)) ?_
      refine wr_iload_n dX6_shift_30 rfl ?_
      refine wr_iload_n dX6_shift_31 rfl ?_
      refine wr_cV dX6_shift_32 k_RX6_162 b_yX1_shifted x_yX1_shifted (pX1_shifted (n := n) hE hr rfl (by omega) x1 x2) (rd_cal hr rfl (by omega)) rfl (fun r32 => ?_)
      exact wr_ireturn dX6_shift_35 ⟨_, rfl, rfl⟩
    · refine wr_bipush dX6_shift_20 ?_
      exact wr_ireturn dX6_shift_22 ⟨_, rfl, rfl⟩
set_option maxRecDepth 100000 in
set_option maxHeartbeats 4000000 in
theorem pX6_stop {E : wE} {n : Nat} (hE : wGE E) {M : mR} (x1 : Int)  (c : cR) (ca : caT) : WF E (n + 7) yX6_stop cX6_stop 2 (some .int) vI (fun c : cR => (c, M)) ca 0 (wArgs [.ref (aTop E), .int (iI x1)]) [] c (fX6_stop x1 c) := by
  unfold fX6_stop
  refine wf_aload_n dX6_stop_0 rfl ?_
  refine wf_cV (put := fun q => q) dX6_stop_1 k_RX6_37 b_yX6_remember x_yX6_remember (pX6_remember (n := n) hE _ _) rfl (fun _ => rfl) (fun h hr => rd_top hr) rfl (fun r1 c1 ca => ?_)
  refine wf_aload_n dX6_stop_4 rfl ?_
  refine wf_aload_n dX6_stop_5 rfl ?_
  refine wf_get dX6_stop_6 f_RX6_12 (fun h hr => rd_top hr) ?_
  refine wf_iload_n dX6_stop_9 rfl ?_
  refine wf_cV (put := cH c1 0) dX6_stop_10 k_RX6_74 b_yX2_stopOrder x_yX2_stopOrder (pX2_stopOrder (n := n + 5) hE (G := (c1, M)) (k := 0) (by omega) x1 _ _) setH_self (fun _ => rfl) (fun h hr => rd_h hr rfl (by omega)) rfl (fun r10 t10 ca => ?_)
  refine wf_bnd (fun c10 => ?_)
  refine wf_cV (put := fun q => q) dX6_stop_13 k_RX6_44 b_yX6_recorded x_yX6_recorded (pX6_recorded (n := n + 4) hE r10 _ _) rfl (fun _ => rfl) (fun h hr => rd_top hr) rfl (fun r13 c13 ca => ?_)
  exact wf_ireturn dX6_stop_16 ⟨_, rfl, rfl⟩
set_option maxRecDepth 100000 in
set_option maxHeartbeats 4000000 in
theorem pX6_undo {E : wE} {n : Nat} (hE : wGE E) {M : mR}   (c : cR) (ca : caT) : WF E (n + 6) yX6_undo cX6_undo 1 (some .int) vI (fun c : cR => (c, M)) ca 0 (wArgs [.ref (aTop E)]) [] c (fX6_undo  c) := by
  unfold fX6_undo
  refine wf_aload_n dX6_undo_0 rfl ?_
  refine wf_get dX6_undo_1 f_RX6_154 (fun h hr => rd_top hr) ?_
  refine wf_gd (fun g4 => ?_)
  refine wf_if_ne 10 dX6_undo_4 g4 (fun h4 => ?_) (fun h4 => ?_)
  · refine wf_aload_n dX6_undo_10 rfl ?_
    refine wf_dup dX6_undo_11 ?_
    refine wf_get dX6_undo_12 f_RX6_154 (fun h hr => rd_top hr) ?_
    refine wf_iconst dX6_undo_15 ?_
    refine wf_isub dX6_undo_16 ?_
    refine wf_p_topf (f := 4) dX6_undo_17 p_RX6_154 (fun c17 => ?_)
    refine wf_aload_n dX6_undo_20 rfl ?_
    refine wf_get dX6_undo_21 f_RX6_12 (fun h hr => rd_top hr) ?_
    refine wf_aload_n dX6_undo_24 rfl ?_
    refine wf_get dX6_undo_25 f_RX6_19 (fun h hr => rd_top hr) ?_
    refine wf_aload_n dX6_undo_28 rfl ?_
    refine wf_rV dX6_undo_29 k_RX6_212 b_yX6_rowBehindLatest x_yX6_rowBehindLatest (fun h hr => pX6_rowBehindLatest (n := n + 5) hE hr) (fun h hr => rd_top hr) rfl (fun r29 => ?_)
    refine wf_gd (fun g32 => ?_)
    refine wf_aald_hist dX6_undo_32 g32 (fun h hr => rd_hist hr) ?_
    refine wf_cV (put := cH c17 0) dX6_undo_33 k_RX6_167 b_yX2_copyFrom x_yX2_copyFrom (pX2_copyFrom (n := n) hE (G := (c17, M)) (k := 0) (by omega) (k2 := (2 + r29)) (by omega) (by omega) rfl _ _) setH_self (fun _ => rfl) (fun h hr => rd_h hr rfl (by omega)) rfl (fun r33 t33 ca => ?_)
    refine wf_bnd (fun c33 => ?_)
    refine wf_aload_n dX6_undo_36 rfl ?_
    refine wf_get dX6_undo_37 f_RX6_154 (fun h hr => rd_top hr) ?_
    exact wf_ireturn dX6_undo_40 ⟨_, rfl, rfl⟩
  · refine wf_bipush dX6_undo_7 ?_
    exact wf_ireturn dX6_undo_9 ⟨_, rfl, rfl⟩
set_option maxRecDepth 100000 in
set_option maxHeartbeats 4000000 in
theorem pX6_wipe {E : wE} {n : Nat} (hE : wGE E) {M : mR}   (c : cR) (ca : caT) : WF E n yX6_wipe cX6_wipe 2 (some .int) vI (fun c : cR => (c, M)) ca 0 (wArgs [.ref (aTop E)]) [] c (fX6_wipe  c) := by
  unfold fX6_wipe
  refine wf_aload_n dX6_wipe_0 rfl ?_
  refine wf_get dX6_wipe_1 f_RX6_33 (fun h hr => rd_top hr) ?_
  refine wf_get dX6_wipe_4 f_RX6_151 (fun h hr => rd_pad hr) ?_
  refine wf_istore_n dX6_wipe_7 ?_
  refine wf_aload_n dX6_wipe_8 rfl ?_
  refine wf_get dX6_wipe_9 f_RX6_33 (fun h hr => rd_top hr) ?_
  refine wf_iconst dX6_wipe_12 ?_
  refine wf_pc_padf (f := 1) dX6_wipe_13 p_RX6_151 (fun c13 => ?_)
  refine wf_iload_n dX6_wipe_16 rfl ?_
  exact wf_ireturn dX6_wipe_17 ⟨_, rfl, rfl⟩

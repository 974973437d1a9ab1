/-! ===== the methods meet their functions (by program: wip/whole/gen.py) ===== -/
set_option maxRecDepth 100000 in
set_option maxHeartbeats 4000000 in
theorem pX7_restore {E : wE} {n : Nat} (hE : wGE E) {C : cR} (x1 : Int)  (m : mR) (ca : caT) : WF E (n + 2) yX7_restore cX7_restore 2 (some .int) vI (fun m : mR => (C, m)) ca 0 (wArgs [.ref (aM E 0), .int (iI x1)]) [] m (fX7_restore x1 m) := by
  unfold fX7_restore
  refine wf_iload_n dX7_restore_0 rfl ?_
  refine wf_gd (fun g1 => ?_)
  refine wf_i2l dX7_restore_1 g1 ?_
  refine wf_lconst0 dX7_restore_2 ?_
  refine wf_lconst1 dX7_restore_3 ?_
  refine wf_rS dX7_restore_4 k_RX7_47 b_yX7_isIn x_yX7_isIn (fun h hr => pX7_isIn (n := n + 1) hE x1 0 1) (fun r4 => ?_)
  refine wf_gd (fun g7 => ?_)
  refine wf_if_ne 13 dX7_restore_7 g7 (fun h7 => ?_) (fun h7 => ?_)
  · refine wf_aload_n dX7_restore_13 rfl ?_
    refine wf_get dX7_restore_14 f_RX7_30 (fun h hr => rd_mod hr) ?_
    refine wf_iload_n dX7_restore_17 rfl ?_
    refine wf_gd (fun g18 => ?_)
    refine wf_iald dX7_restore_18 (g := fun j => m.1 4 j) g18 (fun h hr => rd_ms hr) ?_
    refine wf_gd (fun g19 => ?_)
    refine wf_if_ne 25 dX7_restore_19 g19 (fun h19 => ?_) (fun h19 => ?_)
    · refine wf_aload_n dX7_restore_25 rfl ?_
      refine wf_cV (put := fun q => q) dX7_restore_26 k_RX7_70 b_yX7_records x_yX7_records (pX7_records (n := n) hE _ _) rfl (fun _ => rfl) (fun h hr => rd_mod hr) rfl (fun r26 m26 ca => ?_)
      refine wf_aload_n dX7_restore_29 rfl ?_
      refine wf_bipush dX7_restore_30 ?_
      refine wf_iload_n dX7_restore_32 rfl ?_
      refine wf_iadd dX7_restore_33 ?_
      refine wf_cV (put := fun q => q) dX7_restore_34 k_RX7_63 b_yX7_brings x_yX7_brings (pX7_brings (n := n + 1) hE (6 + x1) _ _) rfl (fun _ => rfl) (fun h hr => rd_mod hr) rfl (fun r34 m34 ca => ?_)
      refine wf_aload_n dX7_restore_37 rfl ?_
      refine wf_rV dX7_restore_38 k_RX7_66 b_yX7_today x_yX7_today (fun h hr => pX7_today (n := n) hE hr) (fun h hr => rd_mod hr) rfl (fun r38 => ?_)
      exact wf_ireturn dX7_restore_41 ⟨_, rfl, rfl⟩
    · refine wf_bipush dX7_restore_22 ?_
      exact wf_ireturn dX7_restore_24 ⟨_, rfl, rfl⟩
  · refine wf_bipush dX7_restore_10 ?_
    exact wf_ireturn dX7_restore_12 ⟨_, rfl, rfl⟩
set_option maxRecDepth 100000 in
set_option maxHeartbeats 4000000 in
theorem pX7_save {E : wE} {n : Nat} (hE : wGE E) {C : cR} (x1 : Int)  (m : mR) (ca : caT) : WF E (n + 2) yX7_save cX7_save 2 (some .int) vI (fun m : mR => (C, m)) ca 0 (wArgs [.ref (aM E 0), .int (iI x1)]) [] m (fX7_save x1 m) := by
  unfold fX7_save
  refine wf_iload_n dX7_save_0 rfl ?_
  refine wf_gd (fun g1 => ?_)
  refine wf_i2l dX7_save_1 g1 ?_
  refine wf_lconst0 dX7_save_2 ?_
  refine wf_lconst1 dX7_save_3 ?_
  refine wf_rS dX7_save_4 k_RX7_47 b_yX7_isIn x_yX7_isIn (fun h hr => pX7_isIn (n := n + 1) hE x1 0 1) (fun r4 => ?_)
  refine wf_gd (fun g7 => ?_)
  refine wf_if_ne 13 dX7_save_7 g7 (fun h7 => ?_) (fun h7 => ?_)
  · refine wf_aload_n dX7_save_13 rfl ?_
    refine wf_bipush dX7_save_14 ?_
    refine wf_iload_n dX7_save_16 rfl ?_
    refine wf_iadd dX7_save_17 ?_
    refine wf_cV (put := fun q => q) dX7_save_18 k_RX7_59 b_yX7_keeps x_yX7_keeps (pX7_keeps (n := n + 1) hE (6 + x1) _ _) rfl (fun _ => rfl) (fun h hr => rd_mod hr) rfl (fun r18 m18 ca => ?_)
    refine wf_aload_n dX7_save_21 rfl ?_
    refine wf_get dX7_save_22 f_RX7_30 (fun h hr => rd_mod hr) ?_
    refine wf_iload_n dX7_save_25 rfl ?_
    refine wf_iconst dX7_save_26 ?_
    refine wf_gd (fun g27 => ?_)
    refine wf_s_ms dX7_save_27 g27 (fun m27 => ?_)
    refine wf_aload_n dX7_save_28 rfl ?_
    refine wf_rV dX7_save_29 k_RX7_66 b_yX7_today x_yX7_today (fun h hr => pX7_today (n := n) hE hr) (fun h hr => rd_mod hr) rfl (fun r29 => ?_)
    exact wf_ireturn dX7_save_32 ⟨_, rfl, rfl⟩
  · refine wf_bipush dX7_save_10 ?_
    exact wf_ireturn dX7_save_12 ⟨_, rfl, rfl⟩
set_option maxRecDepth 100000 in
set_option maxHeartbeats 4000000 in
theorem pX7_set {E : wE} {n : Nat} (hE : wGE E) {C : cR} (x1 : Int) (x2 : Int)  (m : mR) (ca : caT) : WF E (n + 2) yX7_set cX7_set 4 (some .int) vI (fun m : mR => (C, m)) ca 0 (wArgs [.ref (aM E 0), .int (iI x1), .int (iI x2)]) [] m (fX7_set x1 x2 m) := by
  unfold fX7_set
  refine wf_aload_n dX7_set_0 rfl ?_
  refine wf_iload_n dX7_set_1 rfl ?_
  refine wf_iload_n dX7_set_2 rfl ?_
  refine wf_rV dX7_set_3 k_RX7_117 b_yX7_isSetting x_yX7_isSetting (fun h hr => pX7_isSetting (n := n) hE hr x1 x2) (fun h hr => rd_mod hr) rfl (fun r3 => ?_)
  refine wf_gd (fun g6 => ?_)
  refine wf_if_ne 12 dX7_set_6 g6 (fun h6 => ?_) (fun h6 => ?_)
  · refine wf_aload_n dX7_set_12 rfl ?_
    refine wf_cV (put := fun q => q) dX7_set_13 k_RX7_70 b_yX7_records x_yX7_records (pX7_records (n := n) hE _ _) rfl (fun _ => rfl) (fun h hr => rd_mod hr) rfl (fun r13 m13 ca => ?_)
    refine wf_aload_n dX7_set_16 rfl ?_
    refine wf_bipush dX7_set_17 ?_
    refine wf_iload_n dX7_set_19 rfl ?_
    refine wf_iadd dX7_set_20 ?_
    refine wf_rV dX7_set_21 k_RX7_43 b_yX7_of x_yX7_of (fun h hr => pX7_of (n := n + 1) hE hr (9 + x1)) (fun h hr => rd_mod hr) rfl (fun r21 => ?_)
    refine wf_istore_n dX7_set_24 ?_
    refine wf_aload_n dX7_set_25 rfl ?_
    refine wf_get dX7_set_26 f_RX7_7 (fun h hr => rd_mod hr) ?_
    refine wf_bipush dX7_set_29 ?_
    refine wf_iload_n dX7_set_31 rfl ?_
    refine wf_iadd dX7_set_32 ?_
    refine wf_iload_n dX7_set_33 rfl ?_
    refine wf_gd (fun g34 => ?_)
    refine wf_i2l dX7_set_34 g34 ?_
    refine wf_gd (fun g35 => ?_)
    refine wf_s_now dX7_set_35 g35 (fun m35 => ?_)
    refine wf_iload_n dX7_set_36 rfl ?_
    exact wf_ireturn dX7_set_37 ⟨_, rfl, rfl⟩
  · refine wf_bipush dX7_set_9 ?_
    exact wf_ireturn dX7_set_11 ⟨_, rfl, rfl⟩
set_option maxRecDepth 100000 in
set_option maxHeartbeats 4000000 in
theorem pX7_shift {E : wE} {n : Nat} (hE : wGE E) {C : cR} {m : mR} {ca : caT} {h : hW} (hr : rep E (C, m) ca h) (x1 : Int) (x2 : Int)  : WR E (n + 5) yX7_shift cX7_shift 3 (some .int) vI h 0 (wArgs [.ref (aM E 0), .int (iI x1), .int (iI x2)]) [] (fX7_shift x1 x2 m) := by
  unfold fX7_shift
  refine wr_iload_n dX7_shift_0 rfl ?_
  refine wr_cS dX7_shift_1 k_RX7_91 b_yX7_isDay x_yX7_isDay (pX7_isDay (n := n + 3) hE x1) (fun r1 => ?_)
  refine wr_gd (fun g4 => ?_)
  refine wr_if_eq 28 dX7_shift_4 g4 (fun h4 => ?_) (fun h4 => ?_)
  · refine wr_bipush dX7_shift_28 ?_
    exact wr_ireturn dX7_shift_30 ⟨_, rfl, rfl⟩
  · refine wr_iload_n dX7_shift_7 rfl ?_
    refine wr_gd (fun g8 => ?_)
    refine wr_i2l dX7_shift_8 g8 ?_
    refine wr_lconst0 dX7_shift_9 ?_
    refine wr_ldc2 dX7_shift_10 c_RX7_103 ?_
    refine wr_cS dX7_shift_13 k_RX7_47 b_yX7_isIn x_yX7_isIn (pX7_isIn (n := n + 4) hE x2 0 4) (fun r13 => ?_)
    refine wr_gd (fun g16 => ?_)
    refine wr_if_eq 28 dX7_shift_16 g16 (fun h16 => ?_) (fun h16 => ?_)
    · refine wr_bipush dX7_shift_28 ?_
      exact wr_ireturn dX7_shift_30 ⟨_, rfl, rfl⟩
    · refine wr_aload_n dX7_shift_19 rfl ?_
      refine wr_iload_n dX7_shift_20 rfl ?_
      refine wr_iload_n dX7_shift_21 rfl ?_
      refine wr_cV dX7_shift_22 k_RX7_105 b_yX7_shifted x_yX7_shifted (pX7_shifted (n := n) hE hr x1 x2) (rd_mod hr) rfl (fun r22 => ?_)
      refine wr_goto 30 dX7_shift_25 ?_
      exact wr_ireturn dX7_shift_30 ⟨_, rfl, rfl⟩
set_option maxRecDepth 100000 in
set_option maxHeartbeats 4000000 in
theorem pX7_stop {E : wE} {n : Nat} (hE : wGE E) {C : cR} (x1 : Int)  (m : mR) (ca : caT) : WF E (n + 3) yX7_stop cX7_stop 3 (some .int) vI (fun m : mR => (C, m)) ca 0 (wArgs [.ref (aM E 0), .int (iI x1)]) [] m (fX7_stop x1 m) := by
  unfold fX7_stop
  refine wf_aload_n dX7_stop_0 rfl ?_
  refine wf_iload_n dX7_stop_1 rfl ?_
  refine wf_iconst dX7_stop_2 ?_
  refine wf_rV dX7_stop_3 k_RX7_216 b_yX7_checksState x_yX7_checksState (fun h hr => pX7_checksState (n := n) hE hr x1 0) (fun h hr => rd_mod hr) rfl (fun r3 => ?_)
  refine wf_istore_n dX7_stop_6 ?_
  refine wf_iload_n dX7_stop_7 rfl ?_
  refine wf_gd (fun g8 => ?_)
  refine wf_if_eq 13 dX7_stop_8 g8 (fun h8 => ?_) (fun h8 => ?_)
  · refine wf_aload_n dX7_stop_13 rfl ?_
    refine wf_cV (put := fun q => q) dX7_stop_14 k_RX7_70 b_yX7_records x_yX7_records (pX7_records (n := n + 1) hE _ _) rfl (fun _ => rfl) (fun h hr => rd_mod hr) rfl (fun r14 m14 ca => ?_)
    refine wf_aload_n dX7_stop_17 rfl ?_
    refine wf_iload_n dX7_stop_18 rfl ?_
    refine wf_cV (put := fun q => q) dX7_stop_19 k_RX7_219 b_yX7_stops x_yX7_stops (pX7_stops (n := n) hE x1 _ _) rfl (fun _ => rfl) (fun h hr => rd_mod hr) rfl (fun r19 m19 ca => ?_)
    exact wf_ireturn dX7_stop_22 ⟨_, rfl, rfl⟩
  · refine wf_iload_n dX7_stop_11 rfl ?_
    exact wf_ireturn dX7_stop_12 ⟨_, rfl, rfl⟩
set_option maxRecDepth 100000 in
set_option maxHeartbeats 4000000 in
theorem pX7_undo {E : wE} {n : Nat} (hE : wGE E) {C : cR}   (m : mR) (ca : caT) : WF E (n + 1) yX7_undo cX7_undo 1 (some .int) vI (fun m : mR => (C, m)) ca 0 (wArgs [.ref (aM E 0)]) [] m (fX7_undo  m) := by
  unfold fX7_undo
  refine wf_aload_n dX7_undo_0 rfl ?_
  refine wf_get dX7_undo_1 f_RX7_52 (fun h hr => rd_mod hr) ?_
  refine wf_gd (fun g4 => ?_)
  refine wf_if_ne 10 dX7_undo_4 g4 (fun h4 => ?_) (fun h4 => ?_)
  · refine wf_aload_n dX7_undo_10 rfl ?_
    refine wf_dup dX7_undo_11 ?_
    refine wf_get dX7_undo_12 f_RX7_52 (fun h hr => rd_mod hr) ?_
    refine wf_iconst dX7_undo_15 ?_
    refine wf_isub dX7_undo_16 ?_
    refine wf_p_modf (f := 7) dX7_undo_17 p_RX7_52 (fun m17 => ?_)
    refine wf_aload_n dX7_undo_20 rfl ?_
    refine wf_aload_n dX7_undo_21 rfl ?_
    refine wf_get dX7_undo_22 f_RX7_52 (fun h hr => rd_mod hr) ?_
    refine wf_cV (put := fun q => q) dX7_undo_25 k_RX7_63 b_yX7_brings x_yX7_brings (pX7_brings (n := n) hE (m17.1 6 7) _ _) rfl (fun _ => rfl) (fun h hr => rd_mod hr) rfl (fun r25 m25 ca => ?_)
    refine wf_aload_n dX7_undo_28 rfl ?_
    refine wf_get dX7_undo_29 f_RX7_52 (fun h hr => rd_mod hr) ?_
    exact wf_ireturn dX7_undo_32 ⟨_, rfl, rfl⟩
  · refine wf_bipush dX7_undo_7 ?_
    exact wf_ireturn dX7_undo_9 ⟨_, rfl, rfl⟩
set_option maxRecDepth 100000 in
set_option maxHeartbeats 4000000 in
theorem pX7_wipe {E : wE} {n : Nat} (hE : wGE E) {C : cR}   (m : mR) (ca : caT) : WF E n yX7_wipe cX7_wipe 2 (some .int) vI (fun m : mR => (C, m)) ca 0 (wArgs [.ref (aM E 0)]) [] m (fX7_wipe  m) := by
  unfold fX7_wipe
  refine wf_aload_n dX7_wipe_0 rfl ?_
  refine wf_get dX7_wipe_1 f_RX7_298 (fun h hr => rd_mod hr) ?_
  refine wf_istore_n dX7_wipe_4 ?_
  refine wf_aload_n dX7_wipe_5 rfl ?_
  refine wf_iconst dX7_wipe_6 ?_
  refine wf_p_modf (f := 10) dX7_wipe_7 p_RX7_298 (fun m7 => ?_)
  refine wf_iload_n dX7_wipe_10 rfl ?_
  exact wf_ireturn dX7_wipe_11 ⟨_, rfl, rfl⟩

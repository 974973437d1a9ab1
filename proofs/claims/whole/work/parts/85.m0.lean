/-! ===== the methods meet their functions (by program: wip/whole/gen.py) ===== -/
set_option maxRecDepth 100000 in
set_option maxHeartbeats 4000000 in
theorem pX7_isIn {E : wE} {n : Nat} (hE : wGE E) {h : hW} (x0 : Int) (x2 : Int) (x4 : Int)  : WR E n yX7_isIn cX7_isIn 6 (some .boolean) vI h 0 (wArgs [.long (jL x0), .long (jL x2), .long (jL x4)]) [] (fX7_isIn x0 x2 x4) := by
  unfold fX7_isIn
  refine wr_lload_n dX7_isIn_0 rfl ?_
  refine wr_lload_n dX7_isIn_1 rfl ?_
  refine wr_gd (fun g2 => ?_)
  refine wr_jcmp_lt 17 dX7_isIn_2 dX7_isIn_3 g2.1 g2.2 (fun h2 => ?_) (fun h2 => ?_)
  · refine wr_iconst dX7_isIn_17 ?_
    exact wr_ireturn dX7_isIn_18 ⟨_, rfl, rfl⟩
  · refine wr_lload_n dX7_isIn_6 rfl ?_
    refine wr_lload dX7_isIn_7 rfl ?_
    refine wr_gd (fun g9 => ?_)
    refine wr_jcmp_gt 17 dX7_isIn_9 dX7_isIn_10 g9.1 g9.2 (fun h9 => ?_) (fun h9 => ?_)
    · refine wr_iconst dX7_isIn_17 ?_
      exact wr_ireturn dX7_isIn_18 ⟨_, rfl, rfl⟩
    · refine wr_iconst dX7_isIn_13 ?_
      refine wr_goto 18 dX7_isIn_14 ?_
      exact wr_ireturn dX7_isIn_18 ⟨_, rfl, rfl⟩
set_option maxRecDepth 100000 in
set_option maxHeartbeats 4000000 in
theorem pX7_of {E : wE} {n : Nat} (hE : wGE E) {C : cR} {m : mR} {ca : caT} {h : hW} (hr : rep E (C, m) ca h) (x1 : Int)  : WR E n yX7_of cX7_of 2 (some .int) vI h 0 (wArgs [.ref (aM E 0), .int (iI x1)]) [] (fX7_of x1 m) := by
  unfold fX7_of
  refine wr_aload_n dX7_of_0 rfl ?_
  refine wr_get dX7_of_1 f_RX7_7 (rd_mod hr) ?_
  refine wr_iload_n dX7_of_4 rfl ?_
  refine wr_gd (fun g5 => ?_)
  refine wr_lald dX7_of_5 (g := fun j => m.1 0 j) g5 (rd_now hr) ?_
  refine wr_l2i dX7_of_6 ?_
  exact wr_ireturn dX7_of_7 ⟨_, rfl, rfl⟩
set_option maxRecDepth 100000 in
set_option maxHeartbeats 4000000 in
theorem pX7_drops_b62 {E : wE} {n : Nat} (hE : wGE E) {C : cR} : ∀ (fuel : Nat) (x1 : Int)  (m : mR) (ca : caT), WF E n yX7_drops cX7_drops 2 (none) vV (fun m : mR => (C, m)) ca 62 (wLs [some (.ref (aM E 0)), some (.int (iI x1))]) [] m (fX7_drops_b62 fuel x1 m) := by
  intro fuel
  induction fuel with
  | zero =>
    intro x1 m ca
    exact wf_none
  | succ fuel ih =>
    intro x1 m ca
    unfold fX7_drops_b62
    refine wf_iload_n dX7_drops_62 rfl ?_
    refine wf_ldc dX7_drops_63 c_RX7_51 ?_
    refine wf_gd (fun g65 => ?_)
    refine wf_icmp_ge 90 dX7_drops_65 g65 (by decide) (fun h65 => ?_) (fun h65 => ?_)
    · refine wf_aload_n dX7_drops_90 rfl ?_
      refine wf_dup dX7_drops_91 ?_
      refine wf_get dX7_drops_92 f_RX7_52 (fun h hr => rd_mod hr) ?_
      refine wf_iconst dX7_drops_95 ?_
      refine wf_isub dX7_drops_96 ?_
      refine wf_p_modf (f := 7) dX7_drops_97 p_RX7_52 (fun m97 => ?_)
      exact wf_return dX7_drops_100 rfl
    · refine wf_aload_n dX7_drops_68 rfl ?_
      refine wf_get dX7_drops_69 f_RX7_27 (fun h hr => rd_mod hr) ?_
      refine wf_iload_n dX7_drops_72 rfl ?_
      refine wf_aload_n dX7_drops_73 rfl ?_
      refine wf_get dX7_drops_74 f_RX7_27 (fun h hr => rd_mod hr) ?_
      refine wf_iload_n dX7_drops_77 rfl ?_
      refine wf_sipush dX7_drops_78 ?_
      refine wf_iadd dX7_drops_81 ?_
      refine wf_gd (fun g82 => ?_)
      refine wf_lald dX7_drops_82 (g := fun j => m.1 3 j) g82 (fun h hr => rd_keptW hr) ?_
      refine wf_gd (fun g83 => ?_)
      refine wf_s_keptW dX7_drops_83 g83 (fun m83 => ?_)
      refine wf_iinc dX7_drops_84 rfl ?_
      refine wf_goto 62 dX7_drops_87 ?_
      exact wf_at (ih (x1 + 1) _ _) ⟨rfl, rfl, trivial⟩
set_option maxRecDepth 100000 in
set_option maxHeartbeats 4000000 in
theorem pX7_drops_b33 {E : wE} {n : Nat} (hE : wGE E) {C : cR} : ∀ (fuel : Nat) (x1 : Int)  (m : mR) (ca : caT), WF E n yX7_drops cX7_drops 2 (none) vV (fun m : mR => (C, m)) ca 33 (wLs [some (.ref (aM E 0)), some (.int (iI x1))]) [] m (fX7_drops_b33 fuel x1 m) := by
  intro fuel
  induction fuel with
  | zero =>
    intro x1 m ca
    exact wf_none
  | succ fuel ih =>
    intro x1 m ca
    unfold fX7_drops_b33
    refine wf_iload_n dX7_drops_33 rfl ?_
    refine wf_bipush dX7_drops_34 ?_
    refine wf_gd (fun g36 => ?_)
    refine wf_icmp_ge 60 dX7_drops_36 g36 (by decide) (fun h36 => ?_) (fun h36 => ?_)
    · refine wf_iconst dX7_drops_60 ?_
      refine wf_istore_n dX7_drops_61 ?_
      exact wf_at (pX7_drops_b62 (n := n) hE  fuel0 0 _ _) ⟨rfl, rfl, trivial⟩
    · refine wf_aload_n dX7_drops_39 rfl ?_
      refine wf_get dX7_drops_40 f_RX7_23 (fun h hr => rd_mod hr) ?_
      refine wf_iload_n dX7_drops_43 rfl ?_
      refine wf_aload_n dX7_drops_44 rfl ?_
      refine wf_get dX7_drops_45 f_RX7_23 (fun h hr => rd_mod hr) ?_
      refine wf_iload_n dX7_drops_48 rfl ?_
      refine wf_bipush dX7_drops_49 ?_
      refine wf_iadd dX7_drops_51 ?_
      refine wf_gd (fun g52 => ?_)
      refine wf_dald dX7_drops_52 (g := fun j => m.2 1 j) g52 (fun h hr => rd_keptO hr) ?_
      refine wf_gd (fun g53 => ?_)
      refine wf_s_keptO dX7_drops_53 g53 (fun m53 => ?_)
      refine wf_iinc dX7_drops_54 rfl ?_
      refine wf_goto 33 dX7_drops_57 ?_
      exact wf_at (ih (x1 + 1) _ _) ⟨rfl, rfl, trivial⟩
set_option maxRecDepth 100000 in
set_option maxHeartbeats 4000000 in
theorem pX7_drops_b2 {E : wE} {n : Nat} (hE : wGE E) {C : cR} : ∀ (fuel : Nat) (x1 : Int)  (m : mR) (ca : caT), WF E n yX7_drops cX7_drops 2 (none) vV (fun m : mR => (C, m)) ca 2 (wLs [some (.ref (aM E 0)), some (.int (iI x1))]) [] m (fX7_drops_b2 fuel x1 m) := by
  intro fuel
  induction fuel with
  | zero =>
    intro x1 m ca
    exact wf_none
  | succ fuel ih =>
    intro x1 m ca
    unfold fX7_drops_b2
    refine wf_iload_n dX7_drops_2 rfl ?_
    refine wf_sipush dX7_drops_3 ?_
    refine wf_gd (fun g6 => ?_)
    refine wf_icmp_ge 31 dX7_drops_6 g6 (by decide) (fun h6 => ?_) (fun h6 => ?_)
    · refine wf_iconst dX7_drops_31 ?_
      refine wf_istore_n dX7_drops_32 ?_
      exact wf_at (pX7_drops_b33 (n := n) hE  fuel0 0 _ _) ⟨rfl, rfl, trivial⟩
    · refine wf_aload_n dX7_drops_9 rfl ?_
      refine wf_get dX7_drops_10 f_RX7_20 (fun h hr => rd_mod hr) ?_
      refine wf_iload_n dX7_drops_13 rfl ?_
      refine wf_aload_n dX7_drops_14 rfl ?_
      refine wf_get dX7_drops_15 f_RX7_20 (fun h hr => rd_mod hr) ?_
      refine wf_iload_n dX7_drops_18 rfl ?_
      refine wf_sipush dX7_drops_19 ?_
      refine wf_iadd dX7_drops_22 ?_
      refine wf_gd (fun g23 => ?_)
      refine wf_lald dX7_drops_23 (g := fun j => m.1 2 j) g23 (fun h hr => rd_kept hr) ?_
      refine wf_gd (fun g24 => ?_)
      refine wf_s_kept dX7_drops_24 g24 (fun m24 => ?_)
      refine wf_iinc dX7_drops_25 rfl ?_
      refine wf_goto 2 dX7_drops_28 ?_
      exact wf_at (ih (x1 + 1) _ _) ⟨rfl, rfl, trivial⟩
set_option maxRecDepth 100000 in
set_option maxHeartbeats 4000000 in
theorem pX7_drops {E : wE} {n : Nat} (hE : wGE E) {C : cR}   (m : mR) (ca : caT) : WF E n yX7_drops cX7_drops 2 (none) vV (fun m : mR => (C, m)) ca 0 (wArgs [.ref (aM E 0)]) [] m (fX7_drops  m) := by
  unfold fX7_drops
  refine wf_iconst dX7_drops_0 ?_
  refine wf_istore_n dX7_drops_1 ?_
  exact wf_at (pX7_drops_b2 (n := n) hE  fuel0 0 _ _) ⟨rfl, rfl, trivial⟩
set_option maxRecDepth 100000 in
set_option maxHeartbeats 4000000 in
theorem pX7_keeps_b66 {E : wE} {n : Nat} (hE : wGE E) {C : cR} : ∀ (fuel : Nat) (x1 : Int) (x2 : Int)  (m : mR) (ca : caT), WF E n yX7_keeps cX7_keeps 3 (none) vV (fun m : mR => (C, m)) ca 66 (wLs [some (.ref (aM E 0)), some (.int (iI x1)), some (.int (iI x2))]) [] m (fX7_keeps_b66 fuel x1 x2 m) := by
  intro fuel
  induction fuel with
  | zero =>
    intro x1 x2 m ca
    exact wf_none
  | succ fuel ih =>
    intro x1 x2 m ca
    unfold fX7_keeps_b66
    refine wf_iload_n dX7_keeps_66 rfl ?_
    refine wf_gd (fun g67 => ?_)
    refine wf_i2l dX7_keeps_67 g67 ?_
    refine wf_aload_n dX7_keeps_68 rfl ?_
    refine wf_get dX7_keeps_69 f_RX7_7 (fun h hr => rd_mod hr) ?_
    refine wf_iconst dX7_keeps_72 ?_
    refine wf_lald dX7_keeps_73 (g := fun j => m.1 0 j) (by decide) (fun h hr => rd_now hr) ?_
    refine wf_gd (fun g74 => ?_)
    refine wf_jcmp_ge 102 dX7_keeps_74 dX7_keeps_75 g74.1 g74.2 (fun h74 => ?_) (fun h74 => ?_)
    · exact wf_return dX7_keeps_102 rfl
    · refine wf_aload_n dX7_keeps_78 rfl ?_
      refine wf_get dX7_keeps_79 f_RX7_27 (fun h hr => rd_mod hr) ?_
      refine wf_iload_n dX7_keeps_82 rfl ?_
      refine wf_sipush dX7_keeps_83 ?_
      refine wf_imul dX7_keeps_86 ?_
      refine wf_iload_n dX7_keeps_87 rfl ?_
      refine wf_iadd dX7_keeps_88 ?_
      refine wf_aload_n dX7_keeps_89 rfl ?_
      refine wf_get dX7_keeps_90 f_RX7_17 (fun h hr => rd_mod hr) ?_
      refine wf_iload_n dX7_keeps_93 rfl ?_
      refine wf_gd (fun g94 => ?_)
      refine wf_lald dX7_keeps_94 (g := fun j => m.1 1 j) g94 (fun h hr => rd_waits hr) ?_
      refine wf_gd (fun g95 => ?_)
      refine wf_s_keptW dX7_keeps_95 g95 (fun m95 => ?_)
      refine wf_iinc dX7_keeps_96 rfl ?_
      refine wf_goto 66 dX7_keeps_99 ?_
      exact wf_at (ih x1 (x2 + 1) _ _) ⟨rfl, rfl, rfl, trivial⟩
set_option maxRecDepth 100000 in
set_option maxHeartbeats 4000000 in
theorem pX7_keeps_b35 {E : wE} {n : Nat} (hE : wGE E) {C : cR} : ∀ (fuel : Nat) (x1 : Int) (x2 : Int)  (m : mR) (ca : caT), WF E n yX7_keeps cX7_keeps 3 (none) vV (fun m : mR => (C, m)) ca 35 (wLs [some (.ref (aM E 0)), some (.int (iI x1)), some (.int (iI x2))]) [] m (fX7_keeps_b35 fuel x1 x2 m) := by
  intro fuel
  induction fuel with
  | zero =>
    intro x1 x2 m ca
    exact wf_none
  | succ fuel ih =>
    intro x1 x2 m ca
    unfold fX7_keeps_b35
    refine wf_iload_n dX7_keeps_35 rfl ?_
    refine wf_bipush dX7_keeps_36 ?_
    refine wf_gd (fun g38 => ?_)
    refine wf_icmp_ge 64 dX7_keeps_38 g38 (by decide) (fun h38 => ?_) (fun h38 => ?_)
    · refine wf_iconst dX7_keeps_64 ?_
      refine wf_istore_n dX7_keeps_65 ?_
      exact wf_at (pX7_keeps_b66 (n := n) hE  fuel0 x1 0 _ _) ⟨rfl, rfl, rfl, trivial⟩
    · refine wf_aload_n dX7_keeps_41 rfl ?_
      refine wf_get dX7_keeps_42 f_RX7_23 (fun h hr => rd_mod hr) ?_
      refine wf_iload_n dX7_keeps_45 rfl ?_
      refine wf_bipush dX7_keeps_46 ?_
      refine wf_imul dX7_keeps_48 ?_
      refine wf_iload_n dX7_keeps_49 rfl ?_
      refine wf_iadd dX7_keeps_50 ?_
      refine wf_aload_n dX7_keeps_51 rfl ?_
      refine wf_get dX7_keeps_52 f_RX7_13 (fun h hr => rd_mod hr) ?_
      refine wf_iload_n dX7_keeps_55 rfl ?_
      refine wf_gd (fun g56 => ?_)
      refine wf_dald dX7_keeps_56 (g := fun j => m.2 0 j) g56 (fun h hr => rd_owed hr) ?_
      refine wf_gd (fun g57 => ?_)
      refine wf_s_keptO dX7_keeps_57 g57 (fun m57 => ?_)
      refine wf_iinc dX7_keeps_58 rfl ?_
      refine wf_goto 35 dX7_keeps_61 ?_
      exact wf_at (ih x1 (x2 + 1) _ _) ⟨rfl, rfl, rfl, trivial⟩
set_option maxRecDepth 100000 in
set_option maxHeartbeats 4000000 in
theorem pX7_keeps_b2 {E : wE} {n : Nat} (hE : wGE E) {C : cR} : ∀ (fuel : Nat) (x1 : Int) (x2 : Int)  (m : mR) (ca : caT), WF E n yX7_keeps cX7_keeps 3 (none) vV (fun m : mR => (C, m)) ca 2 (wLs [some (.ref (aM E 0)), some (.int (iI x1)), some (.int (iI x2))]) [] m (fX7_keeps_b2 fuel x1 x2 m) := by
  intro fuel
  induction fuel with
  | zero =>
    intro x1 x2 m ca
    exact wf_none
  | succ fuel ih =>
    intro x1 x2 m ca
    unfold fX7_keeps_b2
    refine wf_iload_n dX7_keeps_2 rfl ?_
    refine wf_sipush dX7_keeps_3 ?_
    refine wf_gd (fun g6 => ?_)
    refine wf_icmp_ge 33 dX7_keeps_6 g6 (by decide) (fun h6 => ?_) (fun h6 => ?_)
    · refine wf_iconst dX7_keeps_33 ?_
      refine wf_istore_n dX7_keeps_34 ?_
      exact wf_at (pX7_keeps_b35 (n := n) hE  fuel0 x1 0 _ _) ⟨rfl, rfl, rfl, trivial⟩
    · refine wf_aload_n dX7_keeps_9 rfl ?_
      refine wf_get dX7_keeps_10 f_RX7_20 (fun h hr => rd_mod hr) ?_
      refine wf_iload_n dX7_keeps_13 rfl ?_
      refine wf_sipush dX7_keeps_14 ?_
      refine wf_imul dX7_keeps_17 ?_
      refine wf_iload_n dX7_keeps_18 rfl ?_
      refine wf_iadd dX7_keeps_19 ?_
      refine wf_aload_n dX7_keeps_20 rfl ?_
      refine wf_get dX7_keeps_21 f_RX7_7 (fun h hr => rd_mod hr) ?_
      refine wf_iload_n dX7_keeps_24 rfl ?_
      refine wf_gd (fun g25 => ?_)
      refine wf_lald dX7_keeps_25 (g := fun j => m.1 0 j) g25 (fun h hr => rd_now hr) ?_
      refine wf_gd (fun g26 => ?_)
      refine wf_s_kept dX7_keeps_26 g26 (fun m26 => ?_)
      refine wf_iinc dX7_keeps_27 rfl ?_
      refine wf_goto 2 dX7_keeps_30 ?_
      exact wf_at (ih x1 (x2 + 1) _ _) ⟨rfl, rfl, rfl, trivial⟩
set_option maxRecDepth 100000 in
set_option maxHeartbeats 4000000 in
theorem pX7_keeps {E : wE} {n : Nat} (hE : wGE E) {C : cR} (x1 : Int)  (m : mR) (ca : caT) : WF E n yX7_keeps cX7_keeps 3 (none) vV (fun m : mR => (C, m)) ca 0 (wArgs [.ref (aM E 0), .int (iI x1)]) [] m (fX7_keeps x1 m) := by
  unfold fX7_keeps
  refine wf_iconst dX7_keeps_0 ?_
  refine wf_istore_n dX7_keeps_1 ?_
  exact wf_at (pX7_keeps_b2 (n := n) hE  fuel0 x1 0 _ _) ⟨rfl, rfl, rfl, trivial⟩
set_option maxRecDepth 100000 in
set_option maxHeartbeats 4000000 in
theorem pX7_records_b13 {E : wE} {n : Nat} (hE : wGE E) {C : cR}   (m : mR) (ca : caT) : WF E (n + 1) yX7_records cX7_records 1 (none) vV (fun m : mR => (C, m)) ca 13 (wLs [some (.ref (aM E 0))]) [] m (fX7_records_b13  m) := by
  unfold fX7_records_b13
  refine wf_aload_n dX7_records_13 rfl ?_
  refine wf_aload_n dX7_records_14 rfl ?_
  refine wf_get dX7_records_15 f_RX7_52 (fun h hr => rd_mod hr) ?_
  refine wf_cV (put := fun q => q) dX7_records_18 k_RX7_59 b_yX7_keeps x_yX7_keeps (pX7_keeps (n := n) hE (m.1 6 7) _ _) rfl (fun _ => rfl) (fun h hr => rd_mod hr) rfl (fun r18 m18 ca => ?_)
  refine wf_aload_n dX7_records_21 rfl ?_
  refine wf_dup dX7_records_22 ?_
  refine wf_get dX7_records_23 f_RX7_52 (fun h hr => rd_mod hr) ?_
  refine wf_iconst dX7_records_26 ?_
  refine wf_iadd dX7_records_27 ?_
  refine wf_p_modf (f := 7) dX7_records_28 p_RX7_52 (fun m28 => ?_)
  exact wf_return dX7_records_31 rfl
set_option maxRecDepth 100000 in
set_option maxHeartbeats 4000000 in
theorem pX7_records {E : wE} {n : Nat} (hE : wGE E) {C : cR}   (m : mR) (ca : caT) : WF E (n + 1) yX7_records cX7_records 1 (none) vV (fun m : mR => (C, m)) ca 0 (wArgs [.ref (aM E 0)]) [] m (fX7_records  m) := by
  unfold fX7_records
  refine wf_aload_n dX7_records_0 rfl ?_
  refine wf_get dX7_records_1 f_RX7_52 (fun h hr => rd_mod hr) ?_
  refine wf_bipush dX7_records_4 ?_
  refine wf_gd (fun g6 => ?_)
  refine wf_icmp_ne 13 dX7_records_6 g6 (by decide) (fun h6 => ?_) (fun h6 => ?_)
  · exact wf_at (pX7_records_b13 (n := n) hE   _ _) ⟨rfl, trivial⟩
  · refine wf_aload_n dX7_records_9 rfl ?_
    refine wf_cV (put := fun q => q) dX7_records_10 k_RX7_56 b_yX7_drops x_yX7_drops (pX7_drops (n := n) hE _ _) rfl (fun _ => rfl) (fun h hr => rd_mod hr) rfl (fun r10 m10 ca => ?_)
    exact wf_at (pX7_records_b13 (n := n) hE   _ _) ⟨rfl, trivial⟩
set_option maxRecDepth 100000 in
set_option maxHeartbeats 4000000 in
theorem pX7_account_b105 {E : wE} {n : Nat} (hE : wGE E) {C : cR} : ∀ (fuel : Nat) (x3 : Int) (x4 : Int)  (m : mR) (ca : caT), WF E (n + 2) yX7_account cX7_account 5 (some .int) vI (fun m : mR => (C, m)) ca 105 (wLs [some (.ref (aM E 0)), none, none, some (.int (iI x3)), some (.int (iI x4))]) [] m (fX7_account_b105 fuel x3 x4 m) := by
  intro fuel
  induction fuel with
  | zero =>
    intro x3 x4 m ca
    exact wf_none
  | succ fuel ih =>
    intro x3 x4 m ca
    unfold fX7_account_b105
    refine wf_iload dX7_account_105 rfl ?_
    refine wf_bipush dX7_account_107 ?_
    refine wf_gd (fun g109 => ?_)
    refine wf_icmp_ge 136 dX7_account_109 g109 (by decide) (fun h109 => ?_) (fun h109 => ?_)
    · refine wf_aload_n dX7_account_136 rfl ?_
      refine wf_get dX7_account_137 f_RX7_13 (fun h hr => rd_mod hr) ?_
      refine wf_iload_n dX7_account_140 rfl ?_
      refine wf_dconst0 dX7_account_141 ?_
      refine wf_gd (fun g142 => ?_)
      refine wf_s_owed dX7_account_142 g142 (fun m142 => ?_)
      refine wf_aload_n dX7_account_143 rfl ?_
      refine wf_get dX7_account_144 f_RX7_7 (fun h hr => rd_mod hr) ?_
      refine wf_iconst dX7_account_147 ?_
      refine wf_dup2 dX7_account_148 ?_
      refine wf_lald dX7_account_149 (g := fun j => m142.1 0 j) (by decide) (fun h hr => rd_now hr) ?_
      refine wf_lconst1 dX7_account_150 ?_
      refine wf_ladd dX7_account_151 ?_
      refine wf_s_now dX7_account_152 (by decide) (fun m152 => ?_)
      refine wf_iload_n dX7_account_153 rfl ?_
      exact wf_ireturn dX7_account_154 ⟨_, rfl, rfl⟩
    · refine wf_aload_n dX7_account_112 rfl ?_
      refine wf_get dX7_account_113 f_RX7_7 (fun h hr => rd_mod hr) ?_
      refine wf_bipush dX7_account_116 ?_
      refine wf_bipush dX7_account_118 ?_
      refine wf_iload_n dX7_account_120 rfl ?_
      refine wf_imul dX7_account_121 ?_
      refine wf_iadd dX7_account_122 ?_
      refine wf_iconst dX7_account_123 ?_
      refine wf_iadd dX7_account_124 ?_
      refine wf_iload dX7_account_125 rfl ?_
      refine wf_iadd dX7_account_127 ?_
      refine wf_lconst0 dX7_account_128 ?_
      refine wf_gd (fun g129 => ?_)
      refine wf_s_now dX7_account_129 g129 (fun m129 => ?_)
      refine wf_iinc dX7_account_130 rfl ?_
      refine wf_goto 105 dX7_account_133 ?_
      exact wf_at (ih x3 (x4 + 1) _ _) ⟨rfl, rfl, rfl, trivial⟩
set_option maxRecDepth 100000 in
set_option maxHeartbeats 4000000 in
theorem pX7_account {E : wE} {n : Nat} (hE : wGE E) {C : cR} (x1 : Int) (x2 : Int)  (m : mR) (ca : caT) : WF E (n + 2) yX7_account cX7_account 5 (some .int) vI (fun m : mR => (C, m)) ca 0 (wArgs [.ref (aM E 0), .int (iI x1), .int (iI x2)]) [] m (fX7_account x1 x2 m) := by
  unfold fX7_account
  refine wf_iload_n dX7_account_0 rfl ?_
  refine wf_gd (fun g1 => ?_)
  refine wf_i2l dX7_account_1 g1 ?_
  refine wf_lconst0 dX7_account_2 ?_
  refine wf_ldc2 dX7_account_3 c_RX7_123 ?_
  refine wf_rS dX7_account_6 k_RX7_47 b_yX7_isIn x_yX7_isIn (fun h hr => pX7_isIn (n := n + 1) hE x1 0 1000000) (fun r6 => ?_)
  refine wf_gd (fun g9 => ?_)
  refine wf_if_eq 24 dX7_account_9 g9 (fun h9 => ?_) (fun h9 => ?_)
  · refine wf_bipush dX7_account_24 ?_
    exact wf_ireturn dX7_account_26 ⟨_, rfl, rfl⟩
  · refine wf_iload_n dX7_account_12 rfl ?_
    refine wf_gd (fun g13 => ?_)
    refine wf_i2l dX7_account_13 g13 ?_
    refine wf_lconst0 dX7_account_14 ?_
    refine wf_ldc2 dX7_account_15 c_RX7_123 ?_
    refine wf_rS dX7_account_18 k_RX7_47 b_yX7_isIn x_yX7_isIn (fun h hr => pX7_isIn (n := n + 1) hE x2 0 1000000) (fun r18 => ?_)
    refine wf_gd (fun g21 => ?_)
    refine wf_if_ne 27 dX7_account_21 g21 (fun h21 => ?_) (fun h21 => ?_)
    · refine wf_aload_n dX7_account_27 rfl ?_
      refine wf_get dX7_account_28 f_RX7_7 (fun h hr => rd_mod hr) ?_
      refine wf_iconst dX7_account_31 ?_
      refine wf_lald dX7_account_32 (g := fun j => m.1 0 j) (by decide) (fun h hr => rd_now hr) ?_
      refine wf_ldc2 dX7_account_33 c_RX7_125 ?_
      refine wf_gd (fun g36 => ?_)
      refine wf_jcmp_ne 43 dX7_account_36 dX7_account_37 g36 (by decide) (fun h36 => ?_) (fun h36 => ?_)
      · refine wf_aload_n dX7_account_43 rfl ?_
        refine wf_cV (put := fun q => q) dX7_account_44 k_RX7_70 b_yX7_records x_yX7_records (pX7_records (n := n) hE _ _) rfl (fun _ => rfl) (fun h hr => rd_mod hr) rfl (fun r44 m44 ca => ?_)
        refine wf_aload_n dX7_account_47 rfl ?_
        refine wf_iconst dX7_account_48 ?_
        refine wf_rV dX7_account_49 k_RX7_43 b_yX7_of x_yX7_of (fun h hr => pX7_of (n := n + 1) hE hr 1) (fun h hr => rd_mod hr) rfl (fun r49 => ?_)
        refine wf_istore_n dX7_account_52 ?_
        refine wf_aload_n dX7_account_53 rfl ?_
        refine wf_get dX7_account_54 f_RX7_7 (fun h hr => rd_mod hr) ?_
        refine wf_bipush dX7_account_57 ?_
        refine wf_bipush dX7_account_59 ?_
        refine wf_iload_n dX7_account_61 rfl ?_
        refine wf_imul dX7_account_62 ?_
        refine wf_iadd dX7_account_63 ?_
        refine wf_iconst dX7_account_64 ?_
        refine wf_iadd dX7_account_65 ?_
        refine wf_iload_n dX7_account_66 rfl ?_
        refine wf_gd (fun g67 => ?_)
        refine wf_i2l dX7_account_67 g67 ?_
        refine wf_gd (fun g68 => ?_)
        refine wf_s_now dX7_account_68 g68 (fun m68 => ?_)
        refine wf_aload_n dX7_account_69 rfl ?_
        refine wf_get dX7_account_70 f_RX7_7 (fun h hr => rd_mod hr) ?_
        refine wf_bipush dX7_account_73 ?_
        refine wf_bipush dX7_account_75 ?_
        refine wf_iload_n dX7_account_77 rfl ?_
        refine wf_imul dX7_account_78 ?_
        refine wf_iadd dX7_account_79 ?_
        refine wf_iconst dX7_account_80 ?_
        refine wf_iadd dX7_account_81 ?_
        refine wf_iload_n dX7_account_82 rfl ?_
        refine wf_gd (fun g83 => ?_)
        refine wf_i2l dX7_account_83 g83 ?_
        refine wf_gd (fun g84 => ?_)
        refine wf_s_now dX7_account_84 g84 (fun m84 => ?_)
        refine wf_aload_n dX7_account_85 rfl ?_
        refine wf_get dX7_account_86 f_RX7_7 (fun h hr => rd_mod hr) ?_
        refine wf_bipush dX7_account_89 ?_
        refine wf_bipush dX7_account_91 ?_
        refine wf_iload_n dX7_account_93 rfl ?_
        refine wf_imul dX7_account_94 ?_
        refine wf_iadd dX7_account_95 ?_
        refine wf_iconst dX7_account_96 ?_
        refine wf_iadd dX7_account_97 ?_
        refine wf_ldc2 dX7_account_98 c_RX7_127 ?_
        refine wf_gd (fun g101 => ?_)
        refine wf_s_now dX7_account_101 g101 (fun m101 => ?_)
        refine wf_iconst dX7_account_102 ?_
        refine wf_istore dX7_account_103 ?_
        exact wf_at (pX7_account_b105 (n := n) hE  fuel0 r49 0 _ _) ⟨rfl, rfl, rfl, trivial⟩
      · refine wf_bipush dX7_account_40 ?_
        exact wf_ireturn dX7_account_42 ⟨_, rfl, rfl⟩
    · refine wf_bipush dX7_account_24 ?_
      exact wf_ireturn dX7_account_26 ⟨_, rfl, rfl⟩
set_option maxRecDepth 100000 in
set_option maxHeartbeats 4000000 in
theorem pX7_brings_b66 {E : wE} {n : Nat} (hE : wGE E) {C : cR} : ∀ (fuel : Nat) (x1 : Int) (x2 : Int)  (m : mR) (ca : caT), WF E n yX7_brings cX7_brings 3 (none) vV (fun m : mR => (C, m)) ca 66 (wLs [some (.ref (aM E 0)), some (.int (iI x1)), some (.int (iI x2))]) [] m (fX7_brings_b66 fuel x1 x2 m) := by
  intro fuel
  induction fuel with
  | zero =>
    intro x1 x2 m ca
    exact wf_none
  | succ fuel ih =>
    intro x1 x2 m ca
    unfold fX7_brings_b66
    refine wf_iload_n dX7_brings_66 rfl ?_
    refine wf_gd (fun g67 => ?_)
    refine wf_i2l dX7_brings_67 g67 ?_
    refine wf_aload_n dX7_brings_68 rfl ?_
    refine wf_get dX7_brings_69 f_RX7_7 (fun h hr => rd_mod hr) ?_
    refine wf_iconst dX7_brings_72 ?_
    refine wf_lald dX7_brings_73 (g := fun j => m.1 0 j) (by decide) (fun h hr => rd_now hr) ?_
    refine wf_gd (fun g74 => ?_)
    refine wf_jcmp_ge 102 dX7_brings_74 dX7_brings_75 g74.1 g74.2 (fun h74 => ?_) (fun h74 => ?_)
    · exact wf_return dX7_brings_102 rfl
    · refine wf_aload_n dX7_brings_78 rfl ?_
      refine wf_get dX7_brings_79 f_RX7_17 (fun h hr => rd_mod hr) ?_
      refine wf_iload_n dX7_brings_82 rfl ?_
      refine wf_aload_n dX7_brings_83 rfl ?_
      refine wf_get dX7_brings_84 f_RX7_27 (fun h hr => rd_mod hr) ?_
      refine wf_iload_n dX7_brings_87 rfl ?_
      refine wf_sipush dX7_brings_88 ?_
      refine wf_imul dX7_brings_91 ?_
      refine wf_iload_n dX7_brings_92 rfl ?_
      refine wf_iadd dX7_brings_93 ?_
      refine wf_gd (fun g94 => ?_)
      refine wf_lald dX7_brings_94 (g := fun j => m.1 3 j) g94 (fun h hr => rd_keptW hr) ?_
      refine wf_gd (fun g95 => ?_)
      refine wf_s_waits dX7_brings_95 g95 (fun m95 => ?_)
      refine wf_iinc dX7_brings_96 rfl ?_
      refine wf_goto 66 dX7_brings_99 ?_
      exact wf_at (ih x1 (x2 + 1) _ _) ⟨rfl, rfl, rfl, trivial⟩
set_option maxRecDepth 100000 in
set_option maxHeartbeats 4000000 in
theorem pX7_brings_b35 {E : wE} {n : Nat} (hE : wGE E) {C : cR} : ∀ (fuel : Nat) (x1 : Int) (x2 : Int)  (m : mR) (ca : caT), WF E n yX7_brings cX7_brings 3 (none) vV (fun m : mR => (C, m)) ca 35 (wLs [some (.ref (aM E 0)), some (.int (iI x1)), some (.int (iI x2))]) [] m (fX7_brings_b35 fuel x1 x2 m) := by
  intro fuel
  induction fuel with
  | zero =>
    intro x1 x2 m ca
    exact wf_none
  | succ fuel ih =>
    intro x1 x2 m ca
    unfold fX7_brings_b35
    refine wf_iload_n dX7_brings_35 rfl ?_
    refine wf_bipush dX7_brings_36 ?_
    refine wf_gd (fun g38 => ?_)
    refine wf_icmp_ge 64 dX7_brings_38 g38 (by decide) (fun h38 => ?_) (fun h38 => ?_)
    · refine wf_iconst dX7_brings_64 ?_
      refine wf_istore_n dX7_brings_65 ?_
      exact wf_at (pX7_brings_b66 (n := n) hE  fuel0 x1 0 _ _) ⟨rfl, rfl, rfl, trivial⟩
    · refine wf_aload_n dX7_brings_41 rfl ?_
      refine wf_get dX7_brings_42 f_RX7_13 (fun h hr => rd_mod hr) ?_
      refine wf_iload_n dX7_brings_45 rfl ?_
      refine wf_aload_n dX7_brings_46 rfl ?_
      refine wf_get dX7_brings_47 f_RX7_23 (fun h hr => rd_mod hr) ?_
      refine wf_iload_n dX7_brings_50 rfl ?_
      refine wf_bipush dX7_brings_51 ?_
      refine wf_imul dX7_brings_53 ?_
      refine wf_iload_n dX7_brings_54 rfl ?_
      refine wf_iadd dX7_brings_55 ?_
      refine wf_gd (fun g56 => ?_)
      refine wf_dald dX7_brings_56 (g := fun j => m.2 1 j) g56 (fun h hr => rd_keptO hr) ?_
      refine wf_gd (fun g57 => ?_)
      refine wf_s_owed dX7_brings_57 g57 (fun m57 => ?_)
      refine wf_iinc dX7_brings_58 rfl ?_
      refine wf_goto 35 dX7_brings_61 ?_
      exact wf_at (ih x1 (x2 + 1) _ _) ⟨rfl, rfl, rfl, trivial⟩
set_option maxRecDepth 100000 in
set_option maxHeartbeats 4000000 in
theorem pX7_brings_b2 {E : wE} {n : Nat} (hE : wGE E) {C : cR} : ∀ (fuel : Nat) (x1 : Int) (x2 : Int)  (m : mR) (ca : caT), WF E n yX7_brings cX7_brings 3 (none) vV (fun m : mR => (C, m)) ca 2 (wLs [some (.ref (aM E 0)), some (.int (iI x1)), some (.int (iI x2))]) [] m (fX7_brings_b2 fuel x1 x2 m) := by
  intro fuel
  induction fuel with
  | zero =>
    intro x1 x2 m ca
    exact wf_none
  | succ fuel ih =>
    intro x1 x2 m ca
    unfold fX7_brings_b2
    refine wf_iload_n dX7_brings_2 rfl ?_
    refine wf_sipush dX7_brings_3 ?_
    refine wf_gd (fun g6 => ?_)
    refine wf_icmp_ge 33 dX7_brings_6 g6 (by decide) (fun h6 => ?_) (fun h6 => ?_)
    · refine wf_iconst dX7_brings_33 ?_
      refine wf_istore_n dX7_brings_34 ?_
      exact wf_at (pX7_brings_b35 (n := n) hE  fuel0 x1 0 _ _) ⟨rfl, rfl, rfl, trivial⟩
    · refine wf_aload_n dX7_brings_9 rfl ?_
      refine wf_get dX7_brings_10 f_RX7_7 (fun h hr => rd_mod hr) ?_
      refine wf_iload_n dX7_brings_13 rfl ?_
      refine wf_aload_n dX7_brings_14 rfl ?_
      refine wf_get dX7_brings_15 f_RX7_20 (fun h hr => rd_mod hr) ?_
      refine wf_iload_n dX7_brings_18 rfl ?_
      refine wf_sipush dX7_brings_19 ?_
      refine wf_imul dX7_brings_22 ?_
      refine wf_iload_n dX7_brings_23 rfl ?_
      refine wf_iadd dX7_brings_24 ?_
      refine wf_gd (fun g25 => ?_)
      refine wf_lald dX7_brings_25 (g := fun j => m.1 2 j) g25 (fun h hr => rd_kept hr) ?_
      refine wf_gd (fun g26 => ?_)
      refine wf_s_now dX7_brings_26 g26 (fun m26 => ?_)
      refine wf_iinc dX7_brings_27 rfl ?_
      refine wf_goto 2 dX7_brings_30 ?_
      exact wf_at (ih x1 (x2 + 1) _ _) ⟨rfl, rfl, rfl, trivial⟩
set_option maxRecDepth 100000 in
set_option maxHeartbeats 4000000 in
theorem pX7_brings {E : wE} {n : Nat} (hE : wGE E) {C : cR} (x1 : Int)  (m : mR) (ca : caT) : WF E n yX7_brings cX7_brings 3 (none) vV (fun m : mR => (C, m)) ca 0 (wArgs [.ref (aM E 0), .int (iI x1)]) [] m (fX7_brings x1 m) := by
  unfold fX7_brings
  refine wf_iconst dX7_brings_0 ?_
  refine wf_istore_n dX7_brings_1 ?_
  exact wf_at (pX7_brings_b2 (n := n) hE  fuel0 x1 0 _ _) ⟨rfl, rfl, rfl, trivial⟩
set_option maxRecDepth 100000 in
set_option maxHeartbeats 4000000 in
theorem pX7_isOrder {E : wE} {n : Nat} (hE : wGE E) {C : cR} {m : mR} {ca : caT} {h : hW} (hr : rep E (C, m) ca h) (x1 : Int)  : WR E (n + 1) yX7_isOrder cX7_isOrder 2 (some .boolean) vI h 0 (wArgs [.ref (aM E 0), .int (iI x1)]) [] (fX7_isOrder x1 m) := by
  unfold fX7_isOrder
  refine wr_iload_n dX7_isOrder_0 rfl ?_
  refine wr_gd (fun g1 => ?_)
  refine wr_i2l dX7_isOrder_1 g1 ?_
  refine wr_lconst0 dX7_isOrder_2 ?_
  refine wr_aload_n dX7_isOrder_3 rfl ?_
  refine wr_get dX7_isOrder_4 f_RX7_7 (rd_mod hr) ?_
  refine wr_iconst dX7_isOrder_7 ?_
  refine wr_lald dX7_isOrder_8 (g := fun j => m.1 0 j) (by decide) (rd_now hr) ?_
  refine wr_lconst1 dX7_isOrder_9 ?_
  refine wr_lsub dX7_isOrder_10 ?_
  refine wr_cS dX7_isOrder_11 k_RX7_47 b_yX7_isIn x_yX7_isIn (pX7_isIn (n := n) hE x1 0 ((m.1 0 2) - 1)) (fun r11 => ?_)
  refine wr_gd (fun g14 => ?_)
  exact wr_ireturn dX7_isOrder_14 ⟨_, rfl, nar_z g14⟩
set_option maxRecDepth 100000 in
set_option maxHeartbeats 4000000 in
theorem pX7_ofO {E : wE} {n : Nat} (hE : wGE E) {C : cR} {m : mR} {ca : caT} {h : hW} (hr : rep E (C, m) ca h) (x1 : Int) (x2 : Int)  : WR E (n + 1) yX7_ofO cX7_ofO 3 (some .int) vI h 0 (wArgs [.ref (aM E 0), .int (iI x1), .int (iI x2)]) [] (fX7_ofO x1 x2 m) := by
  unfold fX7_ofO
  refine wr_aload_n dX7_ofO_0 rfl ?_
  refine wr_bipush dX7_ofO_1 ?_
  refine wr_bipush dX7_ofO_3 ?_
  refine wr_iload_n dX7_ofO_5 rfl ?_
  refine wr_imul dX7_ofO_6 ?_
  refine wr_iadd dX7_ofO_7 ?_
  refine wr_iload_n dX7_ofO_8 rfl ?_
  refine wr_iadd dX7_ofO_9 ?_
  refine wr_cV dX7_ofO_10 k_RX7_43 b_yX7_of x_yX7_of (pX7_of (n := n) hE hr ((121 + (16 * x1)) + x2)) (rd_mod hr) rfl (fun r10 => ?_)
  exact wr_ireturn dX7_ofO_13 ⟨_, rfl, rfl⟩
set_option maxRecDepth 100000 in
set_option maxHeartbeats 4000000 in
theorem pX7_becomes {E : wE} {n : Nat} (hE : wGE E) {C : cR} (x1 : Int) (x2 : Int) (x3 : Int)  (m : mR) (ca : caT) : WF E n yX7_becomes cX7_becomes 4 (none) vV (fun m : mR => (C, m)) ca 0 (wArgs [.ref (aM E 0), .int (iI x1), .int (iI x2), .int (iI x3)]) [] m (fX7_becomes x1 x2 x3 m) := by
  unfold fX7_becomes
  refine wf_aload_n dX7_becomes_0 rfl ?_
  refine wf_get dX7_becomes_1 f_RX7_7 (fun h hr => rd_mod hr) ?_
  refine wf_bipush dX7_becomes_4 ?_
  refine wf_bipush dX7_becomes_6 ?_
  refine wf_iload_n dX7_becomes_8 rfl ?_
  refine wf_imul dX7_becomes_9 ?_
  refine wf_iadd dX7_becomes_10 ?_
  refine wf_iload_n dX7_becomes_11 rfl ?_
  refine wf_iadd dX7_becomes_12 ?_
  refine wf_iload_n dX7_becomes_13 rfl ?_
  refine wf_gd (fun g14 => ?_)
  refine wf_i2l dX7_becomes_14 g14 ?_
  refine wf_gd (fun g15 => ?_)
  refine wf_s_now dX7_becomes_15 g15 (fun m15 => ?_)
  exact wf_return dX7_becomes_16 rfl
set_option maxRecDepth 100000 in
set_option maxHeartbeats 4000000 in
theorem pX7_monthLength {E : wE} {n : Nat} (hE : wGE E) {h : hW} (x0 : Int)  : WR E n yX7_monthLength cX7_monthLength 2 (some .int) vI h 0 (wArgs [.int (iI x0)]) [] (fX7_monthLength x0) := by
  unfold fX7_monthLength
  refine wr_iload_n dX7_monthLength_0 rfl ?_
  refine wr_bipush dX7_monthLength_1 ?_
  refine wr_gd (fun g3 => ?_)
  refine wr_irem dX7_monthLength_3 g3 (by decide) ?_
  refine wr_istore_n dX7_monthLength_4 ?_
  refine wr_iload_n dX7_monthLength_5 rfl ?_
  refine wr_iconst dX7_monthLength_6 ?_
  refine wr_gd (fun g7 => ?_)
  refine wr_icmp_ne 13 dX7_monthLength_7 g7 (by decide) (fun h7 => ?_) (fun h7 => ?_)
  · refine wr_iload_n dX7_monthLength_13 rfl ?_
    refine wr_iconst dX7_monthLength_14 ?_
    refine wr_gd (fun g15 => ?_)
    refine wr_icmp_eq 35 dX7_monthLength_15 g15 (by decide) (fun h15 => ?_) (fun h15 => ?_)
    · refine wr_bipush dX7_monthLength_35 ?_
      refine wr_goto 42 dX7_monthLength_37 ?_
      exact wr_ireturn dX7_monthLength_42 ⟨_, rfl, rfl⟩
    · refine wr_iload_n dX7_monthLength_18 rfl ?_
      refine wr_iconst dX7_monthLength_19 ?_
      refine wr_gd (fun g20 => ?_)
      refine wr_icmp_eq 35 dX7_monthLength_20 g20 (by decide) (fun h20 => ?_) (fun h20 => ?_)
      · refine wr_bipush dX7_monthLength_35 ?_
        refine wr_goto 42 dX7_monthLength_37 ?_
        exact wr_ireturn dX7_monthLength_42 ⟨_, rfl, rfl⟩
      · refine wr_iload_n dX7_monthLength_23 rfl ?_
        refine wr_bipush dX7_monthLength_24 ?_
        refine wr_gd (fun g26 => ?_)
        refine wr_icmp_eq 35 dX7_monthLength_26 g26 (by decide) (fun h26 => ?_) (fun h26 => ?_)
        · refine wr_bipush dX7_monthLength_35 ?_
          refine wr_goto 42 dX7_monthLength_37 ?_
          exact wr_ireturn dX7_monthLength_42 ⟨_, rfl, rfl⟩
        · refine wr_iload_n dX7_monthLength_29 rfl ?_
          refine wr_bipush dX7_monthLength_30 ?_
          refine wr_gd (fun g32 => ?_)
          refine wr_icmp_ne 40 dX7_monthLength_32 g32 (by decide) (fun h32 => ?_) (fun h32 => ?_)
          · refine wr_bipush dX7_monthLength_40 ?_
            exact wr_ireturn dX7_monthLength_42 ⟨_, rfl, rfl⟩
          · refine wr_bipush dX7_monthLength_35 ?_
            refine wr_goto 42 dX7_monthLength_37 ?_
            exact wr_ireturn dX7_monthLength_42 ⟨_, rfl, rfl⟩
  · refine wr_bipush dX7_monthLength_10 ?_
    exact wr_ireturn dX7_monthLength_12 ⟨_, rfl, rfl⟩
set_option maxRecDepth 100000 in
set_option maxHeartbeats 4000000 in
theorem pX7_monthStart_b17 {E : wE} {n : Nat} (hE : wGE E) {h : hW} : ∀ (fuel : Nat) (x0 : Int) (x1 : Int) (x2 : Int) , WR E (n + 1) yX7_monthStart cX7_monthStart 3 (some .int) vI h 17 (wLs [some (.int (iI x0)), some (.int (iI x1)), some (.int (iI x2))]) [] (fX7_monthStart_b17 fuel x0 x1 x2) := by
  intro fuel
  induction fuel with
  | zero =>
    intro x0 x1 x2
    exact wr_none
  | succ fuel ih =>
    intro x0 x1 x2
    unfold fX7_monthStart_b17
    refine wr_iload_n dX7_monthStart_17 rfl ?_
    refine wr_iload_n dX7_monthStart_18 rfl ?_
    refine wr_gd (fun g19 => ?_)
    refine wr_icmp_ge 35 dX7_monthStart_19 g19.1 g19.2 (fun h19 => ?_) (fun h19 => ?_)
    · refine wr_iload_n dX7_monthStart_35 rfl ?_
      exact wr_ireturn dX7_monthStart_36 ⟨_, rfl, rfl⟩
    · refine wr_iload_n dX7_monthStart_22 rfl ?_
      refine wr_iload_n dX7_monthStart_23 rfl ?_
      refine wr_cS dX7_monthStart_24 k_RX7_75 b_yX7_monthLength x_yX7_monthLength (pX7_monthLength (n := n) hE x2) (fun r24 => ?_)
      refine wr_iadd dX7_monthStart_27 ?_
      refine wr_istore_n dX7_monthStart_28 ?_
      refine wr_iinc dX7_monthStart_29 rfl ?_
      refine wr_goto 17 dX7_monthStart_32 ?_
      exact wr_at (ih x0 (x1 + r24) (x2 + 1)) ⟨rfl, rfl, rfl, trivial⟩
set_option maxRecDepth 100000 in
set_option maxHeartbeats 4000000 in
theorem pX7_monthStart {E : wE} {n : Nat} (hE : wGE E) {h : hW} (x0 : Int)  : WR E (n + 1) yX7_monthStart cX7_monthStart 3 (some .int) vI h 0 (wArgs [.int (iI x0)]) [] (fX7_monthStart x0) := by
  unfold fX7_monthStart
  refine wr_iload_n dX7_monthStart_0 rfl ?_
  refine wr_bipush dX7_monthStart_1 ?_
  refine wr_gd (fun g3 => ?_)
  refine wr_idiv dX7_monthStart_3 g3 (by decide) ?_
  refine wr_sipush dX7_monthStart_4 ?_
  refine wr_imul dX7_monthStart_7 ?_
  refine wr_istore_n dX7_monthStart_8 ?_
  refine wr_iload_n dX7_monthStart_9 rfl ?_
  refine wr_bipush dX7_monthStart_10 ?_
  refine wr_gd (fun g12 => ?_)
  refine wr_idiv dX7_monthStart_12 g12 (by decide) ?_
  refine wr_bipush dX7_monthStart_13 ?_
  refine wr_imul dX7_monthStart_15 ?_
  refine wr_istore_n dX7_monthStart_16 ?_
  exact wr_at (pX7_monthStart_b17 (n := n) hE  fuel0 x0 ((dvI x0 12) * 365) ((dvI x0 12) * 12)) ⟨rfl, rfl, rfl, trivial⟩
set_option maxRecDepth 100000 in
set_option maxHeartbeats 4000000 in
theorem pX7_dayIn {E : wE} {n : Nat} (hE : wGE E) {h : hW} (x0 : Int) (x1 : Int)  : WR E (n + 2) yX7_dayIn cX7_dayIn 3 (some .int) vI h 0 (wArgs [.int (iI x0), .int (iI x1)]) [] (fX7_dayIn x0 x1) := by
  unfold fX7_dayIn
  refine wr_iload_n dX7_dayIn_0 rfl ?_
  refine wr_cS dX7_dayIn_1 k_RX7_75 b_yX7_monthLength x_yX7_monthLength (pX7_monthLength (n := n + 1) hE x0) (fun r1 => ?_)
  refine wr_istore_n dX7_dayIn_4 ?_
  refine wr_iload_n dX7_dayIn_5 rfl ?_
  refine wr_cS dX7_dayIn_6 k_RX7_78 b_yX7_monthStart x_yX7_monthStart (pX7_monthStart (n := n) hE x0) (fun r6 => ?_)
  refine wr_iload_n dX7_dayIn_9 rfl ?_
  refine wr_iload_n dX7_dayIn_10 rfl ?_
  refine wr_gd (fun g11 => ?_)
  refine wr_icmp_ge 18 dX7_dayIn_11 g11.1 g11.2 (fun h11 => ?_) (fun h11 => ?_)
  · refine wr_iload_n dX7_dayIn_18 rfl ?_
    refine wr_iadd dX7_dayIn_19 ?_
    refine wr_iconst dX7_dayIn_20 ?_
    refine wr_isub dX7_dayIn_21 ?_
    exact wr_ireturn dX7_dayIn_22 ⟨_, rfl, rfl⟩
  · refine wr_iload_n dX7_dayIn_14 rfl ?_
    refine wr_goto 19 dX7_dayIn_15 ?_
    refine wr_iadd dX7_dayIn_19 ?_
    refine wr_iconst dX7_dayIn_20 ?_
    refine wr_isub dX7_dayIn_21 ?_
    exact wr_ireturn dX7_dayIn_22 ⟨_, rfl, rfl⟩
set_option maxRecDepth 100000 in
set_option maxHeartbeats 4000000 in
theorem pX7_isHoliday_b4 {E : wE} {n : Nat} (hE : wGE E) {C : cR} {m : mR} {ca : caT} {h : hW} (hr : rep E (C, m) ca h) : ∀ (fuel : Nat) (x1 : Int) (x2 : Int) (x3 : Int) , WR E n yX7_isHoliday cX7_isHoliday 4 (some .boolean) vI h 4 (wLs [some (.ref (aM E 0)), some (.int (iI x1)), some (.int (iI x2)), some (.int (iI x3))]) [] (fX7_isHoliday_b4 m fuel x1 x2 x3) := by
  intro fuel
  induction fuel with
  | zero =>
    intro x1 x2 x3
    exact wr_none
  | succ fuel ih =>
    intro x1 x2 x3
    unfold fX7_isHoliday_b4
    refine wr_iload_n dX7_isHoliday_4 rfl ?_
    refine wr_gd (fun g5 => ?_)
    refine wr_i2l dX7_isHoliday_5 g5 ?_
    refine wr_aload_n dX7_isHoliday_6 rfl ?_
    refine wr_get dX7_isHoliday_7 f_RX7_7 (rd_mod hr) ?_
    refine wr_iconst dX7_isHoliday_10 ?_
    refine wr_lald dX7_isHoliday_11 (g := fun j => m.1 0 j) (by decide) (rd_now hr) ?_
    refine wr_gd (fun g12 => ?_)
    refine wr_jcmp_ge 47 dX7_isHoliday_12 dX7_isHoliday_13 g12.1 g12.2 (fun h12 => ?_) (fun h12 => ?_)
    · refine wr_iload_n dX7_isHoliday_47 rfl ?_
      refine wr_gd (fun g48 => ?_)
      exact wr_ireturn dX7_isHoliday_48 ⟨_, rfl, nar_z g48⟩
    · refine wr_iload_n dX7_isHoliday_16 rfl ?_
      refine wr_gd (fun g17 => ?_)
      refine wr_if_ne 35 dX7_isHoliday_17 g17 (fun h17 => ?_) (fun h17 => ?_)
      · refine wr_iconst dX7_isHoliday_35 ?_
        refine wr_goto 40 dX7_isHoliday_36 ?_
        refine wr_istore_n dX7_isHoliday_40 ?_
        refine wr_iinc dX7_isHoliday_41 rfl ?_
        refine wr_goto 4 dX7_isHoliday_44 ?_
        exact wr_at (ih x1 1 (x3 + 1)) ⟨rfl, rfl, rfl, rfl, trivial⟩
      · refine wr_aload_n dX7_isHoliday_20 rfl ?_
        refine wr_get dX7_isHoliday_21 f_RX7_7 (rd_mod hr) ?_
        refine wr_bipush dX7_isHoliday_24 ?_
        refine wr_iload_n dX7_isHoliday_26 rfl ?_
        refine wr_iadd dX7_isHoliday_27 ?_
        refine wr_gd (fun g28 => ?_)
        refine wr_lald dX7_isHoliday_28 (g := fun j => m.1 0 j) g28 (rd_now hr) ?_
        refine wr_iload_n dX7_isHoliday_29 rfl ?_
        refine wr_gd (fun g30 => ?_)
        refine wr_i2l dX7_isHoliday_30 g30 ?_
        refine wr_gd (fun g31 => ?_)
        refine wr_jcmp_ne 39 dX7_isHoliday_31 dX7_isHoliday_32 g31.1 g31.2 (fun h31 => ?_) (fun h31 => ?_)
        · refine wr_iconst dX7_isHoliday_39 ?_
          refine wr_istore_n dX7_isHoliday_40 ?_
          refine wr_iinc dX7_isHoliday_41 rfl ?_
          refine wr_goto 4 dX7_isHoliday_44 ?_
          exact wr_at (ih x1 0 (x3 + 1)) ⟨rfl, rfl, rfl, rfl, trivial⟩
        · refine wr_iconst dX7_isHoliday_35 ?_
          refine wr_goto 40 dX7_isHoliday_36 ?_
          refine wr_istore_n dX7_isHoliday_40 ?_
          refine wr_iinc dX7_isHoliday_41 rfl ?_
          refine wr_goto 4 dX7_isHoliday_44 ?_
          exact wr_at (ih x1 1 (x3 + 1)) ⟨rfl, rfl, rfl, rfl, trivial⟩
set_option maxRecDepth 100000 in
set_option maxHeartbeats 4000000 in
theorem pX7_isHoliday {E : wE} {n : Nat} (hE : wGE E) {C : cR} {m : mR} {ca : caT} {h : hW} (hr : rep E (C, m) ca h) (x1 : Int)  : WR E n yX7_isHoliday cX7_isHoliday 4 (some .boolean) vI h 0 (wArgs [.ref (aM E 0), .int (iI x1)]) [] (fX7_isHoliday x1 m) := by
  unfold fX7_isHoliday
  refine wr_iconst dX7_isHoliday_0 ?_
  refine wr_istore_n dX7_isHoliday_1 ?_
  refine wr_iconst dX7_isHoliday_2 ?_
  refine wr_istore_n dX7_isHoliday_3 ?_
  exact wr_at (pX7_isHoliday_b4 (n := n) hE hr  fuel0 x1 0 0) ⟨rfl, rfl, rfl, rfl, trivial⟩
set_option maxRecDepth 100000 in
set_option maxHeartbeats 4000000 in
theorem pX7_weekdayOf {E : wE} {n : Nat} (hE : wGE E) {C : cR} {m : mR} {ca : caT} {h : hW} (hr : rep E (C, m) ca h) (x1 : Int)  : WR E (n + 1) yX7_weekdayOf cX7_weekdayOf 2 (some .int) vI h 0 (wArgs [.ref (aM E 0), .int (iI x1)]) [] (fX7_weekdayOf x1 m) := by
  unfold fX7_weekdayOf
  refine wr_iload_n dX7_weekdayOf_0 rfl ?_
  refine wr_aload_n dX7_weekdayOf_1 rfl ?_
  refine wr_bipush dX7_weekdayOf_2 ?_
  refine wr_cV dX7_weekdayOf_4 k_RX7_43 b_yX7_of x_yX7_of (pX7_of (n := n) hE hr 12) (rd_mod hr) rfl (fun r4 => ?_)
  refine wr_iadd dX7_weekdayOf_7 ?_
  refine wr_bipush dX7_weekdayOf_8 ?_
  refine wr_gd (fun g10 => ?_)
  refine wr_irem dX7_weekdayOf_10 g10 (by decide) ?_
  exact wr_ireturn dX7_weekdayOf_11 ⟨_, rfl, rfl⟩
set_option maxRecDepth 100000 in
set_option maxHeartbeats 4000000 in
theorem pX7_isBusiness {E : wE} {n : Nat} (hE : wGE E) {C : cR} {m : mR} {ca : caT} {h : hW} (hr : rep E (C, m) ca h) (x1 : Int)  : WR E (n + 2) yX7_isBusiness cX7_isBusiness 2 (some .boolean) vI h 0 (wArgs [.ref (aM E 0), .int (iI x1)]) [] (fX7_isBusiness x1 m) := by
  unfold fX7_isBusiness
  refine wr_aload_n dX7_isBusiness_0 rfl ?_
  refine wr_iload_n dX7_isBusiness_1 rfl ?_
  refine wr_cV dX7_isBusiness_2 k_RX7_81 b_yX7_weekdayOf x_yX7_weekdayOf (pX7_weekdayOf (n := n) hE hr x1) (rd_mod hr) rfl (fun r2 => ?_)
  refine wr_iconst dX7_isBusiness_5 ?_
  refine wr_gd (fun g6 => ?_)
  refine wr_icmp_ge 21 dX7_isBusiness_6 g6 (by decide) (fun h6 => ?_) (fun h6 => ?_)
  · refine wr_iconst dX7_isBusiness_21 ?_
    exact wr_ireturn dX7_isBusiness_22 ⟨_, rfl, rfl⟩
  · refine wr_aload_n dX7_isBusiness_9 rfl ?_
    refine wr_iload_n dX7_isBusiness_10 rfl ?_
    refine wr_cV dX7_isBusiness_11 k_RX7_84 b_yX7_isHoliday x_yX7_isHoliday (pX7_isHoliday (n := n + 1) hE hr x1) (rd_mod hr) rfl (fun r11 => ?_)
    refine wr_gd (fun g14 => ?_)
    refine wr_if_ne 21 dX7_isBusiness_14 g14 (fun h14 => ?_) (fun h14 => ?_)
    · refine wr_iconst dX7_isBusiness_21 ?_
      exact wr_ireturn dX7_isBusiness_22 ⟨_, rfl, rfl⟩
    · refine wr_iconst dX7_isBusiness_17 ?_
      refine wr_goto 22 dX7_isBusiness_18 ?_
      exact wr_ireturn dX7_isBusiness_22 ⟨_, rfl, rfl⟩
set_option maxRecDepth 100000 in
set_option maxHeartbeats 4000000 in
theorem pX7_lastBusiness_b2 {E : wE} {n : Nat} (hE : wGE E) {C : cR} {m : mR} {ca : caT} {h : hW} (hr : rep E (C, m) ca h) : ∀ (fuel : Nat) (x2 : Int) , WR E (n + 3) yX7_lastBusiness cX7_lastBusiness 3 (some .int) vI h 2 (wLs [some (.ref (aM E 0)), none, some (.int (iI x2))]) [] (fX7_lastBusiness_b2 m fuel x2) := by
  intro fuel
  induction fuel with
  | zero =>
    intro x2
    exact wr_none
  | succ fuel ih =>
    intro x2
    unfold fX7_lastBusiness_b2
    refine wr_iload_n dX7_lastBusiness_2 rfl ?_
    refine wr_gd (fun g3 => ?_)
    refine wr_if_lt 22 dX7_lastBusiness_3 g3 (fun h3 => ?_) (fun h3 => ?_)
    · refine wr_bipush dX7_lastBusiness_22 ?_
      exact wr_ireturn dX7_lastBusiness_24 ⟨_, rfl, rfl⟩
    · refine wr_aload_n dX7_lastBusiness_6 rfl ?_
      refine wr_iload_n dX7_lastBusiness_7 rfl ?_
      refine wr_cV dX7_lastBusiness_8 k_RX7_88 b_yX7_isBusiness x_yX7_isBusiness (pX7_isBusiness (n := n) hE hr x2) (rd_mod hr) rfl (fun r8 => ?_)
      refine wr_gd (fun g11 => ?_)
      refine wr_if_eq 16 dX7_lastBusiness_11 g11 (fun h11 => ?_) (fun h11 => ?_)
      · refine wr_iinc dX7_lastBusiness_16 rfl ?_
        refine wr_goto 2 dX7_lastBusiness_19 ?_
        exact wr_at (ih (x2 + (-1))) ⟨rfl, rfl, trivial⟩
      · refine wr_iload_n dX7_lastBusiness_14 rfl ?_
        exact wr_ireturn dX7_lastBusiness_15 ⟨_, rfl, rfl⟩
set_option maxRecDepth 100000 in
set_option maxHeartbeats 4000000 in
theorem pX7_lastBusiness {E : wE} {n : Nat} (hE : wGE E) {C : cR} {m : mR} {ca : caT} {h : hW} (hr : rep E (C, m) ca h) (x1 : Int)  : WR E (n + 3) yX7_lastBusiness cX7_lastBusiness 3 (some .int) vI h 0 (wArgs [.ref (aM E 0), .int (iI x1)]) [] (fX7_lastBusiness x1 m) := by
  unfold fX7_lastBusiness
  refine wr_iload_n dX7_lastBusiness_0 rfl ?_
  refine wr_istore_n dX7_lastBusiness_1 ?_
  exact wr_at (pX7_lastBusiness_b2 (n := n) hE hr  fuel0 x1) ⟨rfl, rfl, trivial⟩
set_option maxRecDepth 100000 in
set_option maxHeartbeats 4000000 in
theorem pX7_lastOf {E : wE} {n : Nat} (hE : wGE E) {C : cR} {m : mR} {ca : caT} {h : hW} (hr : rep E (C, m) ca h) (x1 : Int)  : WR E (n + 4) yX7_lastOf cX7_lastOf 4 (some .int) vI h 0 (wArgs [.ref (aM E 0), .int (iI x1)]) [] (fX7_lastOf x1 m) := by
  unfold fX7_lastOf
  refine wr_iload_n dX7_lastOf_0 rfl ?_
  refine wr_cS dX7_lastOf_1 k_RX7_78 b_yX7_monthStart x_yX7_monthStart (pX7_monthStart (n := n + 2) hE x1) (fun r1 => ?_)
  refine wr_iload_n dX7_lastOf_4 rfl ?_
  refine wr_cS dX7_lastOf_5 k_RX7_75 b_yX7_monthLength x_yX7_monthLength (pX7_monthLength (n := n + 3) hE x1) (fun r5 => ?_)
  refine wr_iadd dX7_lastOf_8 ?_
  refine wr_iconst dX7_lastOf_9 ?_
  refine wr_isub dX7_lastOf_10 ?_
  refine wr_istore_n dX7_lastOf_11 ?_
  refine wr_aload_n dX7_lastOf_12 rfl ?_
  refine wr_iload_n dX7_lastOf_13 rfl ?_
  refine wr_cV dX7_lastOf_14 k_RX7_100 b_yX7_lastBusiness x_yX7_lastBusiness (pX7_lastBusiness (n := n) hE hr ((r1 + r5) - 1)) (rd_mod hr) rfl (fun r14 => ?_)
  refine wr_istore_n dX7_lastOf_17 ?_
  refine wr_iload_n dX7_lastOf_18 rfl ?_
  refine wr_bipush dX7_lastOf_19 ?_
  refine wr_gd (fun g21 => ?_)
  refine wr_icmp_eq 32 dX7_lastOf_21 g21 (by decide) (fun h21 => ?_) (fun h21 => ?_)
  · refine wr_iload_n dX7_lastOf_32 rfl ?_
    refine wr_goto 37 dX7_lastOf_33 ?_
    exact wr_ireturn dX7_lastOf_37 ⟨_, rfl, rfl⟩
  · refine wr_iload_n dX7_lastOf_24 rfl ?_
    refine wr_iload_n dX7_lastOf_25 rfl ?_
    refine wr_cS dX7_lastOf_26 k_RX7_78 b_yX7_monthStart x_yX7_monthStart (pX7_monthStart (n := n + 2) hE x1) (fun r26 => ?_)
    refine wr_gd (fun g29 => ?_)
    refine wr_icmp_ge 36 dX7_lastOf_29 g29.1 g29.2 (fun h29 => ?_) (fun h29 => ?_)
    · refine wr_iload_n dX7_lastOf_36 rfl ?_
      exact wr_ireturn dX7_lastOf_37 ⟨_, rfl, rfl⟩
    · refine wr_iload_n dX7_lastOf_32 rfl ?_
      refine wr_goto 37 dX7_lastOf_33 ?_
      exact wr_ireturn dX7_lastOf_37 ⟨_, rfl, rfl⟩
set_option maxRecDepth 100000 in
set_option maxHeartbeats 4000000 in
theorem pX7_monthOf_b9 {E : wE} {n : Nat} (hE : wGE E) {h : hW} : ∀ (fuel : Nat) (x0 : Int) (x1 : Int) , WR E (n + 2) yX7_monthOf cX7_monthOf 2 (some .int) vI h 9 (wLs [some (.int (iI x0)), some (.int (iI x1))]) [] (fX7_monthOf_b9 fuel x0 x1) := by
  intro fuel
  induction fuel with
  | zero =>
    intro x0 x1
    exact wr_none
  | succ fuel ih =>
    intro x0 x1
    unfold fX7_monthOf_b9
    refine wr_iload_n dX7_monthOf_9 rfl ?_
    refine wr_cS dX7_monthOf_10 k_RX7_78 b_yX7_monthStart x_yX7_monthStart (pX7_monthStart (n := n) hE x1) (fun r10 => ?_)
    refine wr_iload_n dX7_monthOf_13 rfl ?_
    refine wr_cS dX7_monthOf_14 k_RX7_75 b_yX7_monthLength x_yX7_monthLength (pX7_monthLength (n := n + 1) hE x1) (fun r14 => ?_)
    refine wr_iadd dX7_monthOf_17 ?_
    refine wr_iload_n dX7_monthOf_18 rfl ?_
    refine wr_gd (fun g19 => ?_)
    refine wr_icmp_gt 28 dX7_monthOf_19 g19.1 g19.2 (fun h19 => ?_) (fun h19 => ?_)
    · refine wr_iload_n dX7_monthOf_28 rfl ?_
      exact wr_ireturn dX7_monthOf_29 ⟨_, rfl, rfl⟩
    · refine wr_iinc dX7_monthOf_22 rfl ?_
      refine wr_goto 9 dX7_monthOf_25 ?_
      exact wr_at (ih x0 (x1 + 1)) ⟨rfl, rfl, trivial⟩
set_option maxRecDepth 100000 in
set_option maxHeartbeats 4000000 in
theorem pX7_monthOf {E : wE} {n : Nat} (hE : wGE E) {h : hW} (x0 : Int)  : WR E (n + 2) yX7_monthOf cX7_monthOf 2 (some .int) vI h 0 (wArgs [.int (iI x0)]) [] (fX7_monthOf x0) := by
  unfold fX7_monthOf
  refine wr_iload_n dX7_monthOf_0 rfl ?_
  refine wr_sipush dX7_monthOf_1 ?_
  refine wr_gd (fun g4 => ?_)
  refine wr_idiv dX7_monthOf_4 g4 (by decide) ?_
  refine wr_bipush dX7_monthOf_5 ?_
  refine wr_imul dX7_monthOf_7 ?_
  refine wr_istore_n dX7_monthOf_8 ?_
  exact wr_at (pX7_monthOf_b9 (n := n) hE  fuel0 x0 ((dvI x0 365) * 12)) ⟨rfl, rfl, trivial⟩
set_option maxRecDepth 100000 in
set_option maxHeartbeats 4000000 in
theorem pX7_nominal_b102 {E : wE} {n : Nat} (hE : wGE E) {C : cR} {m : mR} {ca : caT} {h : hW} (hr : rep E (C, m) ca h) (x3 : Int) (x6 : Int)  : WR E (n + 5) yX7_nominal cX7_nominal 8 (some .int) vI h 102 (wLs [none, none, none, some (.int (iI x3)), none, none, some (.int (iI x6))]) [] (fX7_nominal_b102 m x3 x6) := by
  unfold fX7_nominal_b102
  refine wr_iload dX7_nominal_102 rfl ?_
  refine wr_sipush dX7_nominal_104 ?_
  refine wr_gd (fun g107 => ?_)
  refine wr_icmp_le 114 dX7_nominal_107 g107 (by decide) (fun h107 => ?_) (fun h107 => ?_)
  · refine wr_iload dX7_nominal_114 rfl ?_
    refine wr_iload_n dX7_nominal_116 rfl ?_
    refine wr_gd (fun g117 => ?_)
    refine wr_icmp_ge 125 dX7_nominal_117 g117.1 g117.2 (fun h117 => ?_) (fun h117 => ?_)
    · refine wr_iload dX7_nominal_125 rfl ?_
      exact wr_ireturn dX7_nominal_127 ⟨_, rfl, rfl⟩
    · refine wr_bipush dX7_nominal_120 ?_
      refine wr_goto 127 dX7_nominal_122 ?_
      exact wr_ireturn dX7_nominal_127 ⟨_, rfl, rfl⟩
  · refine wr_sipush dX7_nominal_110 ?_
    exact wr_ireturn dX7_nominal_113 ⟨_, rfl, rfl⟩
set_option maxRecDepth 100000 in
set_option maxHeartbeats 4000000 in
theorem pX7_nominal {E : wE} {n : Nat} (hE : wGE E) {C : cR} {m : mR} {ca : caT} {h : hW} (hr : rep E (C, m) ca h) (x1 : Int) (x2 : Int)  : WR E (n + 5) yX7_nominal cX7_nominal 8 (some .int) vI h 0 (wArgs [.ref (aM E 0), .int (iI x1), .int (iI x2)]) [] (fX7_nominal x1 x2 m) := by
  unfold fX7_nominal
  refine wr_aload_n dX7_nominal_0 rfl ?_
  refine wr_iload_n dX7_nominal_1 rfl ?_
  refine wr_bipush dX7_nominal_2 ?_
  refine wr_cV dX7_nominal_4 k_RX7_151 b_yX7_ofO x_yX7_ofO (pX7_ofO (n := n + 3) hE hr x1 6) (rd_mod hr) rfl (fun r4 => ?_)
  refine wr_istore_n dX7_nominal_7 ?_
  refine wr_aload_n dX7_nominal_8 rfl ?_
  refine wr_iload_n dX7_nominal_9 rfl ?_
  refine wr_iconst dX7_nominal_10 ?_
  refine wr_cV dX7_nominal_11 k_RX7_151 b_yX7_ofO x_yX7_ofO (pX7_ofO (n := n + 3) hE hr x1 3) (rd_mod hr) rfl (fun r11 => ?_)
  refine wr_istore dX7_nominal_14 ?_
  refine wr_iload_n dX7_nominal_16 rfl ?_
  refine wr_aload_n dX7_nominal_17 rfl ?_
  refine wr_iload_n dX7_nominal_18 rfl ?_
  refine wr_iconst dX7_nominal_19 ?_
  refine wr_cV dX7_nominal_20 k_RX7_151 b_yX7_ofO x_yX7_ofO (pX7_ofO (n := n + 3) hE hr x1 4) (rd_mod hr) rfl (fun r20 => ?_)
  refine wr_imul dX7_nominal_23 ?_
  refine wr_istore dX7_nominal_24 ?_
  refine wr_iload dX7_nominal_26 rfl ?_
  refine wr_iconst dX7_nominal_28 ?_
  refine wr_gd (fun g29 => ?_)
  refine wr_icmp_ge 54 dX7_nominal_29 g29 (by decide) (fun h29 => ?_) (fun h29 => ?_)
  · refine wr_iload_n dX7_nominal_54 rfl ?_
    refine wr_cS dX7_nominal_55 k_RX7_94 b_yX7_monthOf x_yX7_monthOf (pX7_monthOf (n := n + 2) hE r4) (fun r55 => ?_)
    refine wr_iload dX7_nominal_58 rfl ?_
    refine wr_iadd dX7_nominal_60 ?_
    refine wr_istore dX7_nominal_61 ?_
    refine wr_iload dX7_nominal_63 rfl ?_
    refine wr_bipush dX7_nominal_65 ?_
    refine wr_gd (fun g67 => ?_)
    refine wr_icmp_lt 74 dX7_nominal_67 g67 (by decide) (fun h67 => ?_) (fun h67 => ?_)
    · refine wr_iload dX7_nominal_74 rfl ?_
      refine wr_iconst dX7_nominal_76 ?_
      refine wr_gd (fun g77 => ?_)
      refine wr_icmp_ne 94 dX7_nominal_77 g77 (by decide) (fun h77 => ?_) (fun h77 => ?_)
      · refine wr_aload_n dX7_nominal_94 rfl ?_
        refine wr_iload dX7_nominal_95 rfl ?_
        refine wr_cV dX7_nominal_97 k_RX7_157 b_yX7_lastOf x_yX7_lastOf (pX7_lastOf (n := n) hE hr (r55 + (x2 * r20))) (rd_mod hr) rfl (fun r97 => ?_)
        refine wr_istore dX7_nominal_100 ?_
        exact wr_at (pX7_nominal_b102 (n := n) hE hr  r4 r97) ⟨rfl, rfl, trivial⟩
      · refine wr_iload dX7_nominal_80 rfl ?_
        refine wr_aload_n dX7_nominal_82 rfl ?_
        refine wr_iload_n dX7_nominal_83 rfl ?_
        refine wr_iconst dX7_nominal_84 ?_
        refine wr_cV dX7_nominal_85 k_RX7_151 b_yX7_ofO x_yX7_ofO (pX7_ofO (n := n + 3) hE hr x1 5) (rd_mod hr) rfl (fun r85 => ?_)
        refine wr_cS dX7_nominal_88 k_RX7_154 b_yX7_dayIn x_yX7_dayIn (pX7_dayIn (n := n + 2) hE (r55 + (x2 * r20)) r85) (fun r88 => ?_)
        refine wr_goto 100 dX7_nominal_91 ?_
        refine wr_istore dX7_nominal_100 ?_
        exact wr_at (pX7_nominal_b102 (n := n) hE hr  r4 r88) ⟨rfl, rfl, trivial⟩
    · refine wr_sipush dX7_nominal_70 ?_
      exact wr_ireturn dX7_nominal_73 ⟨_, rfl, rfl⟩
  · refine wr_iload_n dX7_nominal_32 rfl ?_
    refine wr_iload dX7_nominal_33 rfl ?_
    refine wr_gd (fun g35 => ?_)
    refine wr_if_ne 43 dX7_nominal_35 g35 (fun h35 => ?_) (fun h35 => ?_)
    · refine wr_bipush dX7_nominal_43 ?_
      refine wr_iload dX7_nominal_45 rfl ?_
      refine wr_imul dX7_nominal_47 ?_
      refine wr_iadd dX7_nominal_48 ?_
      refine wr_istore dX7_nominal_49 ?_
      refine wr_goto 102 dX7_nominal_51 ?_
      exact wr_at (pX7_nominal_b102 (n := n) hE hr  r4 (r4 + (7 * (x2 * r20)))) ⟨rfl, rfl, trivial⟩
    · refine wr_iload dX7_nominal_38 rfl ?_
      refine wr_goto 48 dX7_nominal_40 ?_
      refine wr_iadd dX7_nominal_48 ?_
      refine wr_istore dX7_nominal_49 ?_
      refine wr_goto 102 dX7_nominal_51 ?_
      exact wr_at (pX7_nominal_b102 (n := n) hE hr  r4 (r4 + (x2 * r20))) ⟨rfl, rfl, trivial⟩
set_option maxRecDepth 100000 in
set_option maxHeartbeats 4000000 in
theorem pX7_nextBusiness_b2 {E : wE} {n : Nat} (hE : wGE E) {C : cR} {m : mR} {ca : caT} {h : hW} (hr : rep E (C, m) ca h) : ∀ (fuel : Nat) (x2 : Int) , WR E (n + 3) yX7_nextBusiness cX7_nextBusiness 3 (some .int) vI h 2 (wLs [some (.ref (aM E 0)), none, some (.int (iI x2))]) [] (fX7_nextBusiness_b2 m fuel x2) := by
  intro fuel
  induction fuel with
  | zero =>
    intro x2
    exact wr_none
  | succ fuel ih =>
    intro x2
    unfold fX7_nextBusiness_b2
    refine wr_iload_n dX7_nextBusiness_2 rfl ?_
    refine wr_sipush dX7_nextBusiness_3 ?_
    refine wr_gd (fun g6 => ?_)
    refine wr_icmp_gt 25 dX7_nextBusiness_6 g6 (by decide) (fun h6 => ?_) (fun h6 => ?_)
    · refine wr_bipush dX7_nextBusiness_25 ?_
      exact wr_ireturn dX7_nextBusiness_27 ⟨_, rfl, rfl⟩
    · refine wr_aload_n dX7_nextBusiness_9 rfl ?_
      refine wr_iload_n dX7_nextBusiness_10 rfl ?_
      refine wr_cV dX7_nextBusiness_11 k_RX7_88 b_yX7_isBusiness x_yX7_isBusiness (pX7_isBusiness (n := n) hE hr x2) (rd_mod hr) rfl (fun r11 => ?_)
      refine wr_gd (fun g14 => ?_)
      refine wr_if_eq 19 dX7_nextBusiness_14 g14 (fun h14 => ?_) (fun h14 => ?_)
      · refine wr_iinc dX7_nextBusiness_19 rfl ?_
        refine wr_goto 2 dX7_nextBusiness_22 ?_
        exact wr_at (ih (x2 + 1)) ⟨rfl, rfl, trivial⟩
      · refine wr_iload_n dX7_nextBusiness_17 rfl ?_
        exact wr_ireturn dX7_nextBusiness_18 ⟨_, rfl, rfl⟩
set_option maxRecDepth 100000 in
set_option maxHeartbeats 4000000 in
theorem pX7_nextBusiness {E : wE} {n : Nat} (hE : wGE E) {C : cR} {m : mR} {ca : caT} {h : hW} (hr : rep E (C, m) ca h) (x1 : Int)  : WR E (n + 3) yX7_nextBusiness cX7_nextBusiness 3 (some .int) vI h 0 (wArgs [.ref (aM E 0), .int (iI x1)]) [] (fX7_nextBusiness x1 m) := by
  unfold fX7_nextBusiness
  refine wr_iload_n dX7_nextBusiness_0 rfl ?_
  refine wr_istore_n dX7_nextBusiness_1 ?_
  exact wr_at (pX7_nextBusiness_b2 (n := n) hE hr  fuel0 x1) ⟨rfl, rfl, trivial⟩
set_option maxRecDepth 100000 in
set_option maxHeartbeats 4000000 in
theorem pX7_shifted_b73 {E : wE} {n : Nat} (hE : wGE E) {C : cR} {m : mR} {ca : caT} {h : hW} (hr : rep E (C, m) ca h) (x1 : Int) (x4 : Int)  : WR E (n + 4) yX7_shifted cX7_shifted 5 (some .int) vI h 73 (wLs [none, some (.int (iI x1)), none, none, some (.int (iI x4))]) [] (fX7_shifted_b73 m x1 x4) := by
  unfold fX7_shifted_b73
  refine wr_iload dX7_shifted_73 rfl ?_
  refine wr_bipush dX7_shifted_75 ?_
  refine wr_gd (fun g77 => ?_)
  refine wr_icmp_ne 84 dX7_shifted_77 g77 (by decide) (fun h77 => ?_) (fun h77 => ?_)
  · refine wr_iload dX7_shifted_84 rfl ?_
    exact wr_ireturn dX7_shifted_86 ⟨_, rfl, rfl⟩
  · refine wr_iload_n dX7_shifted_80 rfl ?_
    refine wr_goto 86 dX7_shifted_81 ?_
    exact wr_ireturn dX7_shifted_86 ⟨_, rfl, rfl⟩
set_option maxRecDepth 100000 in
set_option maxHeartbeats 4000000 in
theorem pX7_shifted {E : wE} {n : Nat} (hE : wGE E) {C : cR} {m : mR} {ca : caT} {h : hW} (hr : rep E (C, m) ca h) (x1 : Int) (x2 : Int)  : WR E (n + 4) yX7_shifted cX7_shifted 5 (some .int) vI h 0 (wArgs [.ref (aM E 0), .int (iI x1), .int (iI x2)]) [] (fX7_shifted x1 x2 m) := by
  unfold fX7_shifted
  refine wr_iload_n dX7_shifted_0 rfl ?_
  refine wr_gd (fun g1 => ?_)
  refine wr_if_eq 17 dX7_shifted_1 g1 (fun h1 => ?_) (fun h1 => ?_)
  · refine wr_iload_n dX7_shifted_17 rfl ?_
    exact wr_ireturn dX7_shifted_18 ⟨_, rfl, rfl⟩
  · refine wr_iload_n dX7_shifted_4 rfl ?_
    refine wr_iconst dX7_shifted_5 ?_
    refine wr_gd (fun g6 => ?_)
    refine wr_icmp_eq 17 dX7_shifted_6 g6 (by decide) (fun h6 => ?_) (fun h6 => ?_)
    · refine wr_iload_n dX7_shifted_17 rfl ?_
      exact wr_ireturn dX7_shifted_18 ⟨_, rfl, rfl⟩
    · refine wr_aload_n dX7_shifted_9 rfl ?_
      refine wr_iload_n dX7_shifted_10 rfl ?_
      refine wr_cV dX7_shifted_11 k_RX7_88 b_yX7_isBusiness x_yX7_isBusiness (pX7_isBusiness (n := n + 1) hE hr x1) (rd_mod hr) rfl (fun r11 => ?_)
      refine wr_gd (fun g14 => ?_)
      refine wr_if_eq 19 dX7_shifted_14 g14 (fun h14 => ?_) (fun h14 => ?_)
      · refine wr_aload_n dX7_shifted_19 rfl ?_
        refine wr_iload_n dX7_shifted_20 rfl ?_
        refine wr_cV dX7_shifted_21 k_RX7_97 b_yX7_nextBusiness x_yX7_nextBusiness (pX7_nextBusiness (n := n) hE hr x1) (rd_mod hr) rfl (fun r21 => ?_)
        refine wr_istore_n dX7_shifted_24 ?_
        refine wr_aload_n dX7_shifted_25 rfl ?_
        refine wr_iload_n dX7_shifted_26 rfl ?_
        refine wr_cV dX7_shifted_27 k_RX7_100 b_yX7_lastBusiness x_yX7_lastBusiness (pX7_lastBusiness (n := n) hE hr x1) (rd_mod hr) rfl (fun r27 => ?_)
        refine wr_istore dX7_shifted_30 ?_
        refine wr_iload_n dX7_shifted_32 rfl ?_
        refine wr_iconst dX7_shifted_33 ?_
        refine wr_gd (fun g34 => ?_)
        refine wr_icmp_ne 49 dX7_shifted_34 g34 (by decide) (fun h34 => ?_) (fun h34 => ?_)
        · refine wr_iload_n dX7_shifted_49 rfl ?_
          refine wr_iconst dX7_shifted_50 ?_
          refine wr_gd (fun g51 => ?_)
          refine wr_icmp_ne 73 dX7_shifted_51 g51 (by decide) (fun h51 => ?_) (fun h51 => ?_)
          · exact wr_at (pX7_shifted_b73 (n := n) hE hr  x1 r27) ⟨rfl, rfl, trivial⟩
          · refine wr_iload_n dX7_shifted_54 rfl ?_
            refine wr_bipush dX7_shifted_55 ?_
            refine wr_gd (fun g57 => ?_)
            refine wr_icmp_eq 73 dX7_shifted_57 g57 (by decide) (fun h57 => ?_) (fun h57 => ?_)
            · exact wr_at (pX7_shifted_b73 (n := n) hE hr  x1 r27) ⟨rfl, rfl, trivial⟩
            · refine wr_iload_n dX7_shifted_60 rfl ?_
              refine wr_cS dX7_shifted_61 k_RX7_94 b_yX7_monthOf x_yX7_monthOf (pX7_monthOf (n := n + 1) hE r21) (fun r61 => ?_)
              refine wr_iload_n dX7_shifted_64 rfl ?_
              refine wr_cS dX7_shifted_65 k_RX7_94 b_yX7_monthOf x_yX7_monthOf (pX7_monthOf (n := n + 1) hE x1) (fun r65 => ?_)
              refine wr_gd (fun g68 => ?_)
              refine wr_icmp_ne 73 dX7_shifted_68 g68.1 g68.2 (fun h68 => ?_) (fun h68 => ?_)
              · exact wr_at (pX7_shifted_b73 (n := n) hE hr  x1 r27) ⟨rfl, rfl, trivial⟩
              · refine wr_iload_n dX7_shifted_71 rfl ?_
                exact wr_ireturn dX7_shifted_72 ⟨_, rfl, rfl⟩
        · refine wr_iload_n dX7_shifted_37 rfl ?_
          refine wr_bipush dX7_shifted_38 ?_
          refine wr_gd (fun g40 => ?_)
          refine wr_icmp_ne 47 dX7_shifted_40 g40 (by decide) (fun h40 => ?_) (fun h40 => ?_)
          · refine wr_iload_n dX7_shifted_47 rfl ?_
            exact wr_ireturn dX7_shifted_48 ⟨_, rfl, rfl⟩
          · refine wr_iload_n dX7_shifted_43 rfl ?_
            refine wr_goto 48 dX7_shifted_44 ?_
            exact wr_ireturn dX7_shifted_48 ⟨_, rfl, rfl⟩
      · refine wr_iload_n dX7_shifted_17 rfl ?_
        exact wr_ireturn dX7_shifted_18 ⟨_, rfl, rfl⟩
set_option maxRecDepth 100000 in
set_option maxHeartbeats 4000000 in
theorem pX7_dateBy {E : wE} {n : Nat} (hE : wGE E) {C : cR} {m : mR} {ca : caT} {h : hW} (hr : rep E (C, m) ca h) (x1 : Int) (x2 : Int)  : WR E (n + 6) yX7_dateBy cX7_dateBy 3 (some .int) vI h 0 (wArgs [.ref (aM E 0), .int (iI x1), .int (iI x2)]) [] (fX7_dateBy x1 x2 m) := by
  unfold fX7_dateBy
  refine wr_aload_n dX7_dateBy_0 rfl ?_
  refine wr_aload_n dX7_dateBy_1 rfl ?_
  refine wr_iload_n dX7_dateBy_2 rfl ?_
  refine wr_iload_n dX7_dateBy_3 rfl ?_
  refine wr_cV dX7_dateBy_4 k_RX7_160 b_yX7_nominal x_yX7_nominal (pX7_nominal (n := n) hE hr x1 x2) (rd_mod hr) rfl (fun r4 => ?_)
  refine wr_aload_n dX7_dateBy_7 rfl ?_
  refine wr_iload_n dX7_dateBy_8 rfl ?_
  refine wr_bipush dX7_dateBy_9 ?_
  refine wr_cV dX7_dateBy_11 k_RX7_151 b_yX7_ofO x_yX7_ofO (pX7_ofO (n := n + 4) hE hr x1 7) (rd_mod hr) rfl (fun r11 => ?_)
  refine wr_cV dX7_dateBy_14 k_RX7_105 b_yX7_shifted x_yX7_shifted (pX7_shifted (n := n + 1) hE hr r4 r11) (rd_mod hr) rfl (fun r14 => ?_)
  exact wr_ireturn dX7_dateBy_17 ⟨_, rfl, rfl⟩

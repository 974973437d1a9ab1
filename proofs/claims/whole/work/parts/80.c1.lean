/-! ===== the methods meet their functions (by program: wip/whole/gen.py) ===== -/
set_option maxRecDepth 100000 in
set_option maxHeartbeats 4000000 in
theorem pX3_aim_b92 {E : wE} {n : Nat} (hE : wGE E) {G : gR} {k : Int} (hk : 0 ≤ k ∧ k < 11) (t0 : Int) (t1 : Int) (hbt0 : 0 ≤ t0 ∧ t0 < 16) (H : hR) (ca : caT) : WF E (n + 3) yX3_aim cX3_aim 2 (none) vV (setH G k) ca 92 (wLs []) [.int (iI t1), .ref (aOrd E k t0)] H (fX3_aim_b92 t0 t1 H) := by
  unfold fX3_aim_b92
  refine wf_p_ord (f := 19) dX3_aim_92 p_RX3_98 hk (by omega) (fun H92 => ?_)
  exact wf_return dX3_aim_95 rfl
set_option maxRecDepth 100000 in
set_option maxHeartbeats 4000000 in
theorem pX3_aim_b64 {E : wE} {n : Nat} (hE : wGE E) {G : gR} {k : Int} (hk : 0 ≤ k ∧ k < 11) (x0 : Int) (hbx0 : 0 ≤ x0 ∧ x0 < 16) (H : hR) (ca : caT) : WF E (n + 3) yX3_aim cX3_aim 2 (none) vV (setH G k) ca 64 (wLs [some (.ref (aOrd E k x0)), some (.ref (aCal E k))]) [] H (fX3_aim_b64 x0 H) := by
  unfold fX3_aim_b64
  refine wf_aload_n dX3_aim_64 rfl ?_
  refine wf_aload_n dX3_aim_65 rfl ?_
  refine wf_get dX3_aim_66 f_RX3_92 (fun h hr => rd_ord hr setH_at hk (by omega)) ?_
  refine wf_bipush dX3_aim_69 ?_
  refine wf_gd (fun g71 => ?_)
  refine wf_icmp_ne 80 dX3_aim_71 g71 (by decide) (fun h71 => ?_) (fun h71 => ?_)
  · refine wf_aload_n dX3_aim_80 rfl ?_
    refine wf_aload_n dX3_aim_81 rfl ?_
    refine wf_get dX3_aim_82 f_RX3_92 (fun h hr => rd_ord hr setH_at hk (by omega)) ?_
    refine wf_aload_n dX3_aim_85 rfl ?_
    refine wf_get dX3_aim_86 f_RX3_33 (fun h hr => rd_ord hr setH_at hk (by omega)) ?_
    refine wf_rV dX3_aim_89 k_RX3_95 b_yX1_shifted x_yX1_shifted (fun h hr => pX1_shifted (n := n) hE hr setH_at hk (H.1 3 x0 18) (H.1 3 x0 7)) (fun h hr => rd_cal hr setH_at hk) rfl (fun r89 => ?_)
    exact wf_at (pX3_aim_b92 (n := n) hE hk  x0 r89 (by omega) _ _) trivial
  · refine wf_sipush dX3_aim_74 ?_
    refine wf_goto 92 dX3_aim_77 ?_
    exact wf_at (pX3_aim_b92 (n := n) hE hk  x0 1095 (by omega) _ _) trivial
set_option maxRecDepth 100000 in
set_option maxHeartbeats 4000000 in
theorem pX3_aim {E : wE} {n : Nat} (hE : wGE E) {G : gR} {k : Int} (hk : 0 ≤ k ∧ k < 11) (i : Int) (hbi : 0 ≤ i ∧ i < 16) (H : hR) (ca : caT) : WF E (n + 3) yX3_aim cX3_aim 2 (none) vV (setH G k) ca 0 (wArgs [.ref (aOrd E k i), .ref (aCal E k)]) [] H (fX3_aim i H) := by
  unfold fX3_aim
  refine wf_aload_n dX3_aim_0 rfl ?_
  refine wf_aload_n dX3_aim_1 rfl ?_
  refine wf_get dX3_aim_2 f_RX3_61 (fun h hr => rd_ord hr setH_at hk (by omega)) ?_
  refine wf_p_ord (f := 17) dX3_aim_5 p_RX3_85 hk (by omega) (fun H5 => ?_)
  refine wf_aload_n dX3_aim_8 rfl ?_
  refine wf_aload_n dX3_aim_9 rfl ?_
  refine wf_aload_n dX3_aim_10 rfl ?_
  refine wf_get dX3_aim_11 f_RX3_61 (fun h hr => rd_ord hr setH_at hk (by omega)) ?_
  refine wf_aload_n dX3_aim_14 rfl ?_
  refine wf_rV dX3_aim_15 k_RX3_88 b_yX3_nominalDay x_yX3_nominalDay (fun h hr => pX3_nominalDay (n := n) hE hr setH_at hk i (H5.1 3 i 16) (by omega)) (fun h hr => rd_ord hr setH_at hk (by omega)) rfl (fun r15 => ?_)
  refine wf_p_ord (f := 18) dX3_aim_18 p_RX3_92 hk (by omega) (fun H18 => ?_)
  refine wf_aload_n dX3_aim_21 rfl ?_
  refine wf_get dX3_aim_22 f_RX3_92 (fun h hr => rd_ord hr setH_at hk (by omega)) ?_
  refine wf_bipush dX3_aim_25 ?_
  refine wf_gd (fun g27 => ?_)
  refine wf_icmp_eq 64 dX3_aim_27 g27 (by decide) (fun h27 => ?_) (fun h27 => ?_)
  · exact wf_at (pX3_aim_b64 (n := n) hE hk  i (by omega) _ _) ⟨rfl, rfl, trivial⟩
  · refine wf_aload_n dX3_aim_30 rfl ?_
    refine wf_get dX3_aim_31 f_RX3_92 (fun h hr => rd_ord hr setH_at hk (by omega)) ?_
    refine wf_aload_n dX3_aim_34 rfl ?_
    refine wf_get dX3_aim_35 f_RX3_30 (fun h hr => rd_ord hr setH_at hk (by omega)) ?_
    refine wf_gd (fun g38 => ?_)
    refine wf_icmp_ge 64 dX3_aim_38 g38.1 g38.2 (fun h38 => ?_) (fun h38 => ?_)
    · exact wf_at (pX3_aim_b64 (n := n) hE hk  i (by omega) _ _) ⟨rfl, rfl, trivial⟩
    · refine wf_aload_n dX3_aim_41 rfl ?_
      refine wf_aload_n dX3_aim_42 rfl ?_
      refine wf_get dX3_aim_43 f_RX3_61 (fun h hr => rd_ord hr setH_at hk (by omega)) ?_
      refine wf_iconst dX3_aim_46 ?_
      refine wf_iadd dX3_aim_47 ?_
      refine wf_p_ord (f := 17) dX3_aim_48 p_RX3_85 hk (by omega) (fun H48 => ?_)
      refine wf_aload_n dX3_aim_51 rfl ?_
      refine wf_aload_n dX3_aim_52 rfl ?_
      refine wf_aload_n dX3_aim_53 rfl ?_
      refine wf_get dX3_aim_54 f_RX3_85 (fun h hr => rd_ord hr setH_at hk (by omega)) ?_
      refine wf_aload_n dX3_aim_57 rfl ?_
      refine wf_rV dX3_aim_58 k_RX3_88 b_yX3_nominalDay x_yX3_nominalDay (fun h hr => pX3_nominalDay (n := n) hE hr setH_at hk i (H48.1 3 i 17) (by omega)) (fun h hr => rd_ord hr setH_at hk (by omega)) rfl (fun r58 => ?_)
      refine wf_p_ord (f := 18) dX3_aim_61 p_RX3_92 hk (by omega) (fun H61 => ?_)
      exact wf_at (pX3_aim_b64 (n := n) hE hk  i (by omega) _ _) ⟨rfl, rfl, trivial⟩
set_option maxRecDepth 100000 in
set_option maxHeartbeats 4000000 in
theorem pX3_leaveOutBefore_b10 {E : wE} {n : Nat} (hE : wGE E) {G : gR} {k : Int} (hk : 0 ≤ k ∧ k < 11) : ∀ (fuel : Nat) (x0 : Int) (x1 : Int) (x3 : Int) (x4 : Int) (hbx0 : 0 ≤ x0 ∧ x0 < 16) (H : hR) (ca : caT), WF E (n + 4) yX3_leaveOutBefore cX3_leaveOutBefore 5 (some .int) vI (setH G k) ca 10 (wLs [some (.ref (aOrd E k x0)), some (.int (iI x1)), some (.ref (aCal E k)), some (.int (iI x3)), some (.int (iI x4))]) [] H (fX3_leaveOutBefore_b10 fuel x0 x1 x3 x4 H) := by
  intro fuel
  induction fuel with
  | zero =>
    intro x0 x1 x3 x4 hbx0 H ca
    exact wf_none
  | succ fuel ih =>
    intro x0 x1 x3 x4 hbx0 H ca
    unfold fX3_leaveOutBefore_b10
    refine wf_iload dX3_leaveOutBefore_10 rfl ?_
    refine wf_sipush dX3_leaveOutBefore_12 ?_
    refine wf_gd (fun g15 => ?_)
    refine wf_icmp_gt 50 dX3_leaveOutBefore_15 g15 (by decide) (fun h15 => ?_) (fun h15 => ?_)
    · refine wf_iload_n dX3_leaveOutBefore_50 rfl ?_
      exact wf_ireturn dX3_leaveOutBefore_51 ⟨_, rfl, rfl⟩
    · refine wf_aload_n dX3_leaveOutBefore_18 rfl ?_
      refine wf_get dX3_leaveOutBefore_19 f_RX3_98 (fun h hr => rd_ord hr setH_at hk (by omega)) ?_
      refine wf_iload_n dX3_leaveOutBefore_22 rfl ?_
      refine wf_gd (fun g23 => ?_)
      refine wf_icmp_ge 50 dX3_leaveOutBefore_23 g23.1 g23.2 (fun h23 => ?_) (fun h23 => ?_)
      · refine wf_iload_n dX3_leaveOutBefore_50 rfl ?_
        exact wf_ireturn dX3_leaveOutBefore_51 ⟨_, rfl, rfl⟩
      · refine wf_iinc dX3_leaveOutBefore_26 rfl ?_
        refine wf_aload_n dX3_leaveOutBefore_29 rfl ?_
        refine wf_aload_n dX3_leaveOutBefore_30 rfl ?_
        refine wf_get dX3_leaveOutBefore_31 f_RX3_85 (fun h hr => rd_ord hr setH_at hk (by omega)) ?_
        refine wf_iconst dX3_leaveOutBefore_34 ?_
        refine wf_iadd dX3_leaveOutBefore_35 ?_
        refine wf_p_ord (f := 16) dX3_leaveOutBefore_36 p_RX3_61 hk (by omega) (fun H36 => ?_)
        refine wf_aload_n dX3_leaveOutBefore_39 rfl ?_
        refine wf_aload_n dX3_leaveOutBefore_40 rfl ?_
        refine wf_cV (put := fun q => q) dX3_leaveOutBefore_41 k_RX3_101 b_yX3_aim x_yX3_aim (pX3_aim (n := n) hE (G := G) (k := k) hk x0 (by omega) _ _) rfl (fun _ => rfl) (fun h hr => rd_ord hr setH_at hk (by omega)) rfl (fun r41 H41 ca => ?_)
        refine wf_iinc dX3_leaveOutBefore_44 rfl ?_
        refine wf_goto 10 dX3_leaveOutBefore_47 ?_
        exact wf_at (ih x0 x1 (x3 + 1) (x4 + 1) (by omega) _ _) ⟨rfl, rfl, rfl, rfl, rfl, trivial⟩
set_option maxRecDepth 100000 in
set_option maxHeartbeats 4000000 in
theorem pX3_leaveOutBefore {E : wE} {n : Nat} (hE : wGE E) {G : gR} {k : Int} (hk : 0 ≤ k ∧ k < 11) (i : Int) (x1 : Int) (hbi : 0 ≤ i ∧ i < 16) (H : hR) (ca : caT) : WF E (n + 4) yX3_leaveOutBefore cX3_leaveOutBefore 5 (some .int) vI (setH G k) ca 0 (wArgs [.ref (aOrd E k i), .int (iI x1), .ref (aCal E k)]) [] H (fX3_leaveOutBefore i x1 H) := by
  unfold fX3_leaveOutBefore
  refine wf_iconst dX3_leaveOutBefore_0 ?_
  refine wf_istore_n dX3_leaveOutBefore_1 ?_
  refine wf_aload_n dX3_leaveOutBefore_2 rfl ?_
  refine wf_aload_n dX3_leaveOutBefore_3 rfl ?_
  refine wf_cV (put := fun q => q) dX3_leaveOutBefore_4 k_RX3_101 b_yX3_aim x_yX3_aim (pX3_aim (n := n) hE (G := G) (k := k) hk i (by omega) _ _) rfl (fun _ => rfl) (fun h hr => rd_ord hr setH_at hk (by omega)) rfl (fun r4 H4 ca => ?_)
  refine wf_iconst dX3_leaveOutBefore_7 ?_
  refine wf_istore dX3_leaveOutBefore_8 ?_
  exact wf_at (pX3_leaveOutBefore_b10 (n := n) hE hk  fuel0 i x1 0 0 (by omega) _ _) ⟨rfl, rfl, rfl, rfl, rfl, trivial⟩
set_option maxRecDepth 100000 in
set_option maxHeartbeats 4000000 in
theorem pX2_addOrder_b50 {E : wE} {n : Nat} (hE : wGE E) {G : gR} {k : Int} (hk : 0 ≤ k ∧ k < 11) (x1 : Int) (x2 : Int) (x3 : Int) (x4 : Int) (x5 : Int) (x6 : Int)  (H : hR) (ca : caT) : WF E (n + 5) yX2_addOrder cX2_addOrder 8 (some .int) vI (setH G k) ca 50 (wLs [some (.ref (aH E k)), some (.int (iI x1)), some (.int (iI x2)), some (.int (iI x3)), some (.int (iI x4)), some (.int (iI x5)), some (.int (iI x6))]) [] H (fX2_addOrder_b50 x1 x2 x3 x4 x5 x6 H) := by
  unfold fX2_addOrder_b50
  refine wf_iload_n dX2_addOrder_50 rfl ?_
  refine wf_iconst dX2_addOrder_51 ?_
  refine wf_ldc dX2_addOrder_52 c_RX2_92 ?_
  refine wf_rSN dX2_addOrder_54 k_RX2_77 b_yX6_isBetween x_yX6_isBetween (fun h hr => pX6_isBetween (n := n + 4) hE x2 1 1000000) (fun r54 => ?_)
  refine wf_gd (fun g57 => ?_)
  refine wf_if_eq 67 dX2_addOrder_57 g57 (fun h57 => ?_) (fun h57 => ?_)
  · refine wf_bipush dX2_addOrder_67 ?_
    exact wf_ireturn dX2_addOrder_69 ⟨_, rfl, rfl⟩
  · refine wf_iload_n dX2_addOrder_60 rfl ?_
    refine wf_rS dX2_addOrder_61 k_RX2_112 b_yX2_areDates x_yX2_areDates (fun h hr => pX2_areDates (n := n + 3) hE x3) (fun r61 => ?_)
    refine wf_gd (fun g64 => ?_)
    refine wf_if_ne 70 dX2_addOrder_64 g64 (fun h64 => ?_) (fun h64 => ?_)
    · refine wf_iload dX2_addOrder_70 rfl ?_
      refine wf_aload_n dX2_addOrder_72 rfl ?_
      refine wf_get dX2_addOrder_73 f_RX2_68 (fun h hr => rd_h hr setH_at hk) ?_
      refine wf_sipush dX2_addOrder_76 ?_
      refine wf_rSN dX2_addOrder_79 k_RX2_77 b_yX6_isBetween x_yX6_isBetween (fun h hr => pX6_isBetween (n := n + 4) hE x4 (H.1 0 6 0) 1094) (fun r79 => ?_)
      refine wf_gd (fun g82 => ?_)
      refine wf_if_ne 88 dX2_addOrder_82 g82 (fun h82 => ?_) (fun h82 => ?_)
      · refine wf_iload dX2_addOrder_88 rfl ?_
        refine wf_iconst dX2_addOrder_90 ?_
        refine wf_bipush dX2_addOrder_91 ?_
        refine wf_rSN dX2_addOrder_93 k_RX2_77 b_yX6_isBetween x_yX6_isBetween (fun h hr => pX6_isBetween (n := n + 4) hE x5 0 49) (fun r93 => ?_)
        refine wf_gd (fun g96 => ?_)
        refine wf_if_eq 110 dX2_addOrder_96 g96 (fun h96 => ?_) (fun h96 => ?_)
        · refine wf_bipush dX2_addOrder_110 ?_
          exact wf_ireturn dX2_addOrder_112 ⟨_, rfl, rfl⟩
        · refine wf_iload dX2_addOrder_99 rfl ?_
          refine wf_iconst dX2_addOrder_101 ?_
          refine wf_bipush dX2_addOrder_102 ?_
          refine wf_rSN dX2_addOrder_104 k_RX2_77 b_yX6_isBetween x_yX6_isBetween (fun h hr => pX6_isBetween (n := n + 4) hE x6 0 99) (fun r104 => ?_)
          refine wf_gd (fun g107 => ?_)
          refine wf_if_ne 113 dX2_addOrder_107 g107 (fun h107 => ?_) (fun h107 => ?_)
          · refine wf_aload_n dX2_addOrder_113 rfl ?_
            refine wf_get dX2_addOrder_114 f_RX2_59 (fun h hr => rd_h hr setH_at hk) ?_
            refine wf_bipush dX2_addOrder_117 ?_
            refine wf_gd (fun g119 => ?_)
            refine wf_icmp_lt 125 dX2_addOrder_119 g119 (by decide) (fun h119 => ?_) (fun h119 => ?_)
            · refine wf_aload_n dX2_addOrder_125 rfl ?_
              refine wf_get dX2_addOrder_126 f_RX2_26 (fun h hr => rd_h hr setH_at hk) ?_
              refine wf_aload_n dX2_addOrder_129 rfl ?_
              refine wf_get dX2_addOrder_130 f_RX2_59 (fun h hr => rd_h hr setH_at hk) ?_
              refine wf_gd (fun g133 => ?_)
              refine wf_aald_ord dX2_addOrder_133 g133 (fun h hr => rd_ords hr setH_at hk) ?_
              refine wf_iload_n dX2_addOrder_134 rfl ?_
              refine wf_iload_n dX2_addOrder_135 rfl ?_
              refine wf_iload_n dX2_addOrder_136 rfl ?_
              refine wf_iload dX2_addOrder_137 rfl ?_
              refine wf_iload dX2_addOrder_139 rfl ?_
              refine wf_iload dX2_addOrder_141 rfl ?_
              refine wf_cV (put := fun q => q) dX2_addOrder_143 k_RX2_115 b_yX3_begin x_yX3_begin (pX3_begin (n := n + 4) hE (G := G) (k := k) hk (H.1 0 5 0) x1 x2 x3 x4 x5 x6 (by omega) _ _) rfl (fun _ => rfl) (fun h hr => rd_ord hr setH_at hk (by omega)) rfl (fun r143 H143 ca => ?_)
              refine wf_aload_n dX2_addOrder_146 rfl ?_
              refine wf_get dX2_addOrder_147 f_RX2_26 (fun h hr => rd_h hr setH_at hk) ?_
              refine wf_aload_n dX2_addOrder_150 rfl ?_
              refine wf_get dX2_addOrder_151 f_RX2_59 (fun h hr => rd_h hr setH_at hk) ?_
              refine wf_gd (fun g154 => ?_)
              refine wf_aald_ord dX2_addOrder_154 g154 (fun h hr => rd_ords hr setH_at hk) ?_
              refine wf_aload_n dX2_addOrder_155 rfl ?_
              refine wf_get dX2_addOrder_156 f_RX2_68 (fun h hr => rd_h hr setH_at hk) ?_
              refine wf_aload_n dX2_addOrder_159 rfl ?_
              refine wf_get dX2_addOrder_160 f_RX2_12 (fun h hr => rd_h hr setH_at hk) ?_
              refine wf_cV (put := fun q => q) dX2_addOrder_163 k_RX2_119 b_yX3_leaveOutBefore x_yX3_leaveOutBefore (pX3_leaveOutBefore (n := n) hE (G := G) (k := k) hk (H143.1 0 5 0) (H143.1 0 6 0) (by omega) _ _) rfl (fun _ => rfl) (fun h hr => rd_ord hr setH_at hk (by omega)) rfl (fun r163 H163 ca => ?_)
              refine wf_pop dX2_addOrder_166 ?_
              refine wf_aload_n dX2_addOrder_167 rfl ?_
              refine wf_dup dX2_addOrder_168 ?_
              refine wf_get dX2_addOrder_169 f_RX2_59 (fun h hr => rd_h hr setH_at hk) ?_
              refine wf_iconst dX2_addOrder_172 ?_
              refine wf_iadd dX2_addOrder_173 ?_
              refine wf_p_h (f := 5) dX2_addOrder_174 p_RX2_59 hk (fun H174 => ?_)
              refine wf_aload_n dX2_addOrder_177 rfl ?_
              refine wf_get dX2_addOrder_178 f_RX2_59 (fun h hr => rd_h hr setH_at hk) ?_
              refine wf_iconst dX2_addOrder_181 ?_
              refine wf_isub dX2_addOrder_182 ?_
              exact wf_ireturn dX2_addOrder_183 ⟨_, rfl, rfl⟩
            · refine wf_bipush dX2_addOrder_122 ?_
              exact wf_ireturn dX2_addOrder_124 ⟨_, rfl, rfl⟩
          · refine wf_bipush dX2_addOrder_110 ?_
            exact wf_ireturn dX2_addOrder_112 ⟨_, rfl, rfl⟩
      · refine wf_bipush dX2_addOrder_85 ?_
        exact wf_ireturn dX2_addOrder_87 ⟨_, rfl, rfl⟩
    · refine wf_bipush dX2_addOrder_67 ?_
      exact wf_ireturn dX2_addOrder_69 ⟨_, rfl, rfl⟩
set_option maxRecDepth 100000 in
set_option maxHeartbeats 4000000 in
theorem pX2_addOrder {E : wE} {n : Nat} (hE : wGE E) {G : gR} {k : Int} (hk : 0 ≤ k ∧ k < 11) (x1 : Int) (x2 : Int) (x3 : Int) (x4 : Int) (x5 : Int) (x6 : Int)  (H : hR) (ca : caT) : WF E (n + 5) yX2_addOrder cX2_addOrder 8 (some .int) vI (setH G k) ca 0 (wArgs [.ref (aH E k), .int (iI x1), .int (iI x2), .int (iI x3), .int (iI x4), .int (iI x5), .int (iI x6)]) [] H (fX2_addOrder x1 x2 x3 x4 x5 x6 H) := by
  unfold fX2_addOrder
  refine wf_iload_n dX2_addOrder_0 rfl ?_
  refine wf_gd (fun g1 => ?_)
  refine wf_if_lt 15 dX2_addOrder_1 g1 (fun h1 => ?_) (fun h1 => ?_)
  · refine wf_iconst dX2_addOrder_15 ?_
    exact wf_ireturn dX2_addOrder_16 ⟨_, rfl, rfl⟩
  · refine wf_aload_n dX2_addOrder_4 rfl ?_
    refine wf_iload_n dX2_addOrder_5 rfl ?_
    refine wf_bipush dX2_addOrder_6 ?_
    refine wf_gd (fun g8 => ?_)
    refine wf_idiv dX2_addOrder_8 g8 (by decide) ?_
    refine wf_rV dX2_addOrder_9 k_RX2_97 b_yX2_hasAccount x_yX2_hasAccount (fun h hr => pX2_hasAccount (n := n + 4) hE hr setH_at hk (dvI x1 9)) (fun h hr => rd_h hr setH_at hk) rfl (fun r9 => ?_)
    refine wf_gd (fun g12 => ?_)
    refine wf_if_ne 17 dX2_addOrder_12 g12 (fun h12 => ?_) (fun h12 => ?_)
    · refine wf_iload_n dX2_addOrder_17 rfl ?_
      refine wf_bipush dX2_addOrder_18 ?_
      refine wf_gd (fun g20 => ?_)
      refine wf_irem dX2_addOrder_20 g20 (by decide) ?_
      refine wf_istore dX2_addOrder_21 ?_
      refine wf_iload dX2_addOrder_23 rfl ?_
      refine wf_iload_n dX2_addOrder_25 rfl ?_
      refine wf_bipush dX2_addOrder_26 ?_
      refine wf_gd (fun g28 => ?_)
      refine wf_idiv dX2_addOrder_28 g28 (by decide) ?_
      refine wf_gd (fun g29 => ?_)
      refine wf_icmp_eq 48 dX2_addOrder_29 g29.1 g29.2 (fun h29 => ?_) (fun h29 => ?_)
      · refine wf_iconst dX2_addOrder_48 ?_
        exact wf_ireturn dX2_addOrder_49 ⟨_, rfl, rfl⟩
      · refine wf_iload dX2_addOrder_32 rfl ?_
        refine wf_bipush dX2_addOrder_34 ?_
        refine wf_gd (fun g36 => ?_)
        refine wf_icmp_eq 50 dX2_addOrder_36 g36 (by decide) (fun h36 => ?_) (fun h36 => ?_)
        · exact wf_at (pX2_addOrder_b50 (n := n) hE hk  x1 x2 x3 x4 x5 x6 _ _) ⟨rfl, rfl, rfl, rfl, rfl, rfl, rfl, trivial⟩
        · refine wf_aload_n dX2_addOrder_39 rfl ?_
          refine wf_iload dX2_addOrder_40 rfl ?_
          refine wf_rV dX2_addOrder_42 k_RX2_97 b_yX2_hasAccount x_yX2_hasAccount (fun h hr => pX2_hasAccount (n := n + 4) hE hr setH_at hk (rmI x1 9)) (fun h hr => rd_h hr setH_at hk) rfl (fun r42 => ?_)
          refine wf_gd (fun g45 => ?_)
          refine wf_if_ne 50 dX2_addOrder_45 g45 (fun h45 => ?_) (fun h45 => ?_)
          · exact wf_at (pX2_addOrder_b50 (n := n) hE hk  x1 x2 x3 x4 x5 x6 _ _) ⟨rfl, rfl, rfl, rfl, rfl, rfl, rfl, trivial⟩
          · refine wf_iconst dX2_addOrder_48 ?_
            exact wf_ireturn dX2_addOrder_49 ⟨_, rfl, rfl⟩
    · refine wf_iconst dX2_addOrder_15 ?_
      exact wf_ireturn dX2_addOrder_16 ⟨_, rfl, rfl⟩
set_option maxRecDepth 100000 in
set_option maxHeartbeats 4000000 in
theorem pX2_hasOrder {E : wE} {n : Nat} (hE : wGE E) {G : gR} {H : hR} {ca : caT} {h : hW} {k : Int} (hr : rep E G ca h) (hH : G.1.1 k = H) (hk : 0 ≤ k ∧ k < 11) (x1 : Int)  : WR E n yX2_hasOrder cX2_hasOrder 2 (some .boolean) vI h 0 (wArgs [.ref (aH E k), .int (iI x1)]) [] (fX2_hasOrder x1 H) := by
  unfold fX2_hasOrder
  refine wr_iload_n dX2_hasOrder_0 rfl ?_
  refine wr_gd (fun g1 => ?_)
  refine wr_if_lt 16 dX2_hasOrder_1 g1 (fun h1 => ?_) (fun h1 => ?_)
  · refine wr_iconst dX2_hasOrder_16 ?_
    exact wr_ireturn dX2_hasOrder_17 ⟨_, rfl, rfl⟩
  · refine wr_iload_n dX2_hasOrder_4 rfl ?_
    refine wr_aload_n dX2_hasOrder_5 rfl ?_
    refine wr_get dX2_hasOrder_6 f_RX2_59 (rd_h hr hH hk) ?_
    refine wr_gd (fun g9 => ?_)
    refine wr_icmp_ge 16 dX2_hasOrder_9 g9.1 g9.2 (fun h9 => ?_) (fun h9 => ?_)
    · refine wr_iconst dX2_hasOrder_16 ?_
      exact wr_ireturn dX2_hasOrder_17 ⟨_, rfl, rfl⟩
    · refine wr_iconst dX2_hasOrder_12 ?_
      refine wr_goto 17 dX2_hasOrder_13 ?_
      exact wr_ireturn dX2_hasOrder_17 ⟨_, rfl, rfl⟩
set_option maxRecDepth 100000 in
set_option maxHeartbeats 4000000 in
theorem pX2_alterOrder {E : wE} {n : Nat} (hE : wGE E) {G : gR} {k : Int} (hk : 0 ≤ k ∧ k < 11) (x1 : Int) (x2 : Int) (x3 : Int)  (H : hR) (ca : caT) : WF E (n + 1) yX2_alterOrder cX2_alterOrder 5 (some .int) vI (setH G k) ca 0 (wArgs [.ref (aH E k), .int (iI x1), .int (iI x2), .int (iI x3)]) [] H (fX2_alterOrder x1 x2 x3 H) := by
  unfold fX2_alterOrder
  refine wf_aload_n dX2_alterOrder_0 rfl ?_
  refine wf_iload_n dX2_alterOrder_1 rfl ?_
  refine wf_rV dX2_alterOrder_2 k_RX2_124 b_yX2_hasOrder x_yX2_hasOrder (fun h hr => pX2_hasOrder (n := n) hE hr setH_at hk x1) (fun h hr => rd_h hr setH_at hk) rfl (fun r2 => ?_)
  refine wf_gd (fun g5 => ?_)
  refine wf_if_ne 10 dX2_alterOrder_5 g5 (fun h5 => ?_) (fun h5 => ?_)
  · refine wf_iload_n dX2_alterOrder_10 rfl ?_
    refine wf_iconst dX2_alterOrder_11 ?_
    refine wf_ldc dX2_alterOrder_12 c_RX2_92 ?_
    refine wf_rSN dX2_alterOrder_14 k_RX2_77 b_yX6_isBetween x_yX6_isBetween (fun h hr => pX6_isBetween (n := n) hE x2 1 1000000) (fun r14 => ?_)
    refine wf_gd (fun g17 => ?_)
    refine wf_if_eq 30 dX2_alterOrder_17 g17 (fun h17 => ?_) (fun h17 => ?_)
    · refine wf_bipush dX2_alterOrder_30 ?_
      exact wf_ireturn dX2_alterOrder_32 ⟨_, rfl, rfl⟩
    · refine wf_iload_n dX2_alterOrder_20 rfl ?_
      refine wf_iconst dX2_alterOrder_21 ?_
      refine wf_bipush dX2_alterOrder_22 ?_
      refine wf_rSN dX2_alterOrder_24 k_RX2_77 b_yX6_isBetween x_yX6_isBetween (fun h hr => pX6_isBetween (n := n) hE x3 0 9) (fun r24 => ?_)
      refine wf_gd (fun g27 => ?_)
      refine wf_if_ne 33 dX2_alterOrder_27 g27 (fun h27 => ?_) (fun h27 => ?_)
      · refine wf_aload_n dX2_alterOrder_33 rfl ?_
        refine wf_get dX2_alterOrder_34 f_RX2_26 (fun h hr => rd_h hr setH_at hk) ?_
        refine wf_iload_n dX2_alterOrder_37 rfl ?_
        refine wf_gd (fun g38 => ?_)
        refine wf_aald_ord dX2_alterOrder_38 g38 (fun h hr => rd_ords hr setH_at hk) ?_
        refine wf_get dX2_alterOrder_39 f_RX2_127 (fun h hr => rd_ord hr setH_at hk (by omega)) ?_
        refine wf_iconst dX2_alterOrder_42 ?_
        refine wf_gd (fun g43 => ?_)
        refine wf_icmp_ne 49 dX2_alterOrder_43 g43 (by decide) (fun h43 => ?_) (fun h43 => ?_)
        · refine wf_aload_n dX2_alterOrder_49 rfl ?_
          refine wf_get dX2_alterOrder_50 f_RX2_26 (fun h hr => rd_h hr setH_at hk) ?_
          refine wf_iload_n dX2_alterOrder_53 rfl ?_
          refine wf_gd (fun g54 => ?_)
          refine wf_aald_ord dX2_alterOrder_54 g54 (fun h hr => rd_ords hr setH_at hk) ?_
          refine wf_get dX2_alterOrder_55 f_RX2_130 (fun h hr => rd_ord hr setH_at hk (by omega)) ?_
          refine wf_istore dX2_alterOrder_58 ?_
          refine wf_aload_n dX2_alterOrder_60 rfl ?_
          refine wf_get dX2_alterOrder_61 f_RX2_26 (fun h hr => rd_h hr setH_at hk) ?_
          refine wf_iload_n dX2_alterOrder_64 rfl ?_
          refine wf_gd (fun g65 => ?_)
          refine wf_aald_ord dX2_alterOrder_65 g65 (fun h hr => rd_ords hr setH_at hk) ?_
          refine wf_iload_n dX2_alterOrder_66 rfl ?_
          refine wf_p_ord (f := 2) dX2_alterOrder_67 p_RX2_130 hk (by omega) (fun H67 => ?_)
          refine wf_aload_n dX2_alterOrder_70 rfl ?_
          refine wf_get dX2_alterOrder_71 f_RX2_26 (fun h hr => rd_h hr setH_at hk) ?_
          refine wf_iload_n dX2_alterOrder_74 rfl ?_
          refine wf_gd (fun g75 => ?_)
          refine wf_aald_ord dX2_alterOrder_75 g75 (fun h hr => rd_ords hr setH_at hk) ?_
          refine wf_iload_n dX2_alterOrder_76 rfl ?_
          refine wf_p_ord (f := 8) dX2_alterOrder_77 p_RX2_133 hk (by omega) (fun H77 => ?_)
          refine wf_iload dX2_alterOrder_80 rfl ?_
          exact wf_ireturn dX2_alterOrder_82 ⟨_, rfl, rfl⟩
        · refine wf_bipush dX2_alterOrder_46 ?_
          exact wf_ireturn dX2_alterOrder_48 ⟨_, rfl, rfl⟩
      · refine wf_bipush dX2_alterOrder_30 ?_
        exact wf_ireturn dX2_alterOrder_32 ⟨_, rfl, rfl⟩
  · refine wf_iconst dX2_alterOrder_8 ?_
    exact wf_ireturn dX2_alterOrder_9 ⟨_, rfl, rfl⟩
set_option maxRecDepth 100000 in
set_option maxHeartbeats 4000000 in
theorem pX2_chargeInterest_b85 {E : wE} {n : Nat} (hE : wGE E) {G : gR} {k : Int} (hk : 0 ≤ k ∧ k < 11) {rec35 : UInt32 → Int → Int → hR → Option (Unit × hR)} (hrec35 : ∀ (x1 : UInt32) (x2 : Int) (x3 : Int)  (H : hR) (ca : caT), WF E (n + 1) yX2_chargeInterest cX2_chargeInterest 5 (none) vV (setH G k) ca 35 (wLs [some (.ref (aH E k)), some (.float x1), some (.int (iI x2)), some (.int (iI x3))]) [] H (rec35 x1 x2 x3 H)) (x1 : UInt32) (x2 : Int) (x3 : Int) (x4 : Int) (hbx4 : 0 ≤ x4 ∧ x4 < 8) (H : hR) (ca : caT) : WF E (n + 1) yX2_chargeInterest cX2_chargeInterest 5 (none) vV (setH G k) ca 85 (wLs [some (.ref (aH E k)), some (.float x1), some (.int (iI x2)), some (.int (iI x3)), some (.ref (aAcc E k x4))]) [] H (fX2_chargeInterest_b85 rec35 x1 x2 x3 x4 H) := by
  unfold fX2_chargeInterest_b85
  refine wf_iload_n dX2_chargeInterest_85 rfl ?_
  refine wf_gd (fun g86 => ?_)
  refine wf_if_eq 94 dX2_chargeInterest_86 g86 (fun h86 => ?_) (fun h86 => ?_)
  · refine wf_iinc dX2_chargeInterest_94 rfl ?_
    refine wf_goto 35 dX2_chargeInterest_97 ?_
    exact wf_at (hrec35 x1 x2 (x3 + 1) _ _) ⟨rfl, rfl, rfl, rfl, trivial⟩
  · refine wf_aload dX2_chargeInterest_89 rfl ?_
    refine wf_cV (put := fun q => q) dX2_chargeInterest_91 k_RX2_282 b_yX0_takeInterest x_yX0_takeInterest (pX0_takeInterest (n := n) hE (G := G) (k := k) hk x4 (by omega) _ _) rfl (fun _ => rfl) (fun h hr => rd_acc hr setH_at hk (by omega)) rfl (fun r91 H91 ca => ?_)
    refine wf_iinc dX2_chargeInterest_94 rfl ?_
    refine wf_goto 35 dX2_chargeInterest_97 ?_
    exact wf_at (hrec35 x1 x2 (x3 + 1) _ _) ⟨rfl, rfl, rfl, rfl, trivial⟩
set_option maxRecDepth 100000 in
set_option maxHeartbeats 4000000 in
theorem pX2_chargeInterest_b35 {E : wE} {n : Nat} (hE : wGE E) {G : gR} {k : Int} (hk : 0 ≤ k ∧ k < 11) : ∀ (fuel : Nat) (x1 : UInt32) (x2 : Int) (x3 : Int)  (H : hR) (ca : caT), WF E (n + 1) yX2_chargeInterest cX2_chargeInterest 5 (none) vV (setH G k) ca 35 (wLs [some (.ref (aH E k)), some (.float x1), some (.int (iI x2)), some (.int (iI x3))]) [] H (fX2_chargeInterest_b35 fuel x1 x2 x3 H) := by
  intro fuel
  induction fuel with
  | zero =>
    intro x1 x2 x3 H ca
    exact wf_none
  | succ fuel ih =>
    intro x1 x2 x3 H ca
    unfold fX2_chargeInterest_b35
    refine wf_iload_n dX2_chargeInterest_35 rfl ?_
    refine wf_aload_n dX2_chargeInterest_36 rfl ?_
    refine wf_get dX2_chargeInterest_37 f_RX2_53 (fun h hr => rd_h hr setH_at hk) ?_
    refine wf_gd (fun g40 => ?_)
    refine wf_icmp_ge 100 dX2_chargeInterest_40 g40.1 g40.2 (fun h40 => ?_) (fun h40 => ?_)
    · exact wf_return dX2_chargeInterest_100 rfl
    · refine wf_aload_n dX2_chargeInterest_43 rfl ?_
      refine wf_get dX2_chargeInterest_44 f_RX2_20 (fun h hr => rd_h hr setH_at hk) ?_
      refine wf_iload_n dX2_chargeInterest_47 rfl ?_
      refine wf_gd (fun g48 => ?_)
      refine wf_aald_acc dX2_chargeInterest_48 g48 (fun h hr => rd_accs hr setH_at hk) ?_
      refine wf_astore dX2_chargeInterest_49 ?_
      refine wf_aload dX2_chargeInterest_51 rfl ?_
      refine wf_get dX2_chargeInterest_53 f_RX2_105 (fun h hr => rd_acc hr setH_at hk (by omega)) ?_
      refine wf_lconst0 dX2_chargeInterest_56 ?_
      refine wf_gd (fun g57 => ?_)
      refine wf_jcmp_ge 85 dX2_chargeInterest_57 dX2_chargeInterest_58 g57 (by decide) (fun h57 => ?_) (fun h57 => ?_)
      · exact wf_at (pX2_chargeInterest_b85 (n := n) hE hk ih x1 x2 x3 x3 (by omega) _ _) ⟨rfl, rfl, rfl, rfl, rfl, trivial⟩
      · refine wf_aload dX2_chargeInterest_61 rfl ?_
        refine wf_dup dX2_chargeInterest_63 ?_
        refine wf_get dX2_chargeInterest_64 f_RX2_276 (fun h hr => rd_acc hr setH_at hk (by omega)) ?_
        refine wf_aload dX2_chargeInterest_67 rfl ?_
        refine wf_get dX2_chargeInterest_69 f_RX2_105 (fun h hr => rd_acc hr setH_at hk (by omega)) ?_
        refine wf_lneg dX2_chargeInterest_72 ?_
        refine wf_l2d dX2_chargeInterest_73 ?_
        refine wf_fload_n dX2_chargeInterest_74 rfl ?_
        refine wf_gd (fun g75 => ?_)
        refine wf_f2d dX2_chargeInterest_75 g75 ?_
        refine wf_gd (fun g76 => ?_)
        refine wf_dmul dX2_chargeInterest_76 g76 ?_
        refine wf_ldc2d dX2_chargeInterest_77 c_RX2_280 ?_
        refine wf_gd (fun g80 => ?_)
        refine wf_ddiv dX2_chargeInterest_80 g80 ?_
        refine wf_gd (fun g81 => ?_)
        refine wf_dadd dX2_chargeInterest_81 g81 ?_
        refine wf_p_accd dX2_chargeInterest_82 p_RX2_276 hk (by omega) (fun H82 => ?_)
        exact wf_at (pX2_chargeInterest_b85 (n := n) hE hk ih x1 x2 x3 x3 (by omega) _ _) ⟨rfl, rfl, rfl, rfl, rfl, trivial⟩
set_option maxRecDepth 100000 in
set_option maxHeartbeats 4000000 in
theorem pX2_chargeInterest {E : wE} {n : Nat} (hE : wGE E) {G : gR} {k : Int} (hk : 0 ≤ k ∧ k < 11)   (H : hR) (ca : caT) : WF E (n + 1) yX2_chargeInterest cX2_chargeInterest 5 (none) vV (setH G k) ca 0 (wArgs [.ref (aH E k)]) [] H (fX2_chargeInterest  H) := by
  unfold fX2_chargeInterest
  refine wf_aload_n dX2_chargeInterest_0 rfl ?_
  refine wf_get dX2_chargeInterest_1 f_RX2_44 (fun h hr => rd_h hr setH_at hk) ?_
  refine wf_i2f dX2_chargeInterest_4 ?_
  refine wf_ldcwf dX2_chargeInterest_5 c_RX2_269 ?_
  refine wf_gd (fun g8 => ?_)
  refine wf_fdiv dX2_chargeInterest_8 g8 ?_
  refine wf_fstore_n dX2_chargeInterest_9 ?_
  refine wf_aload_n dX2_chargeInterest_10 rfl ?_
  refine wf_get dX2_chargeInterest_11 f_RX2_68 (fun h hr => rd_h hr setH_at hk) ?_
  refine wf_rS dX2_chargeInterest_14 k_RX2_270 b_yX1_monthOf x_yX1_monthOf (fun h hr => pX1_monthOf (n := n) hE (H.1 0 6 0)) (fun r14 => ?_)
  refine wf_rS dX2_chargeInterest_17 k_RX2_273 b_yX1_lastDayOf x_yX1_lastDayOf (fun h hr => pX1_lastDayOf (n := n) hE r14) (fun r17 => ?_)
  refine wf_aload_n dX2_chargeInterest_20 rfl ?_
  refine wf_get dX2_chargeInterest_21 f_RX2_68 (fun h hr => rd_h hr setH_at hk) ?_
  refine wf_gd (fun g24 => ?_)
  refine wf_icmp_ne 31 dX2_chargeInterest_24 g24.1 g24.2 (fun h24 => ?_) (fun h24 => ?_)
  · refine wf_iconst dX2_chargeInterest_31 ?_
    refine wf_istore_n dX2_chargeInterest_32 ?_
    refine wf_iconst dX2_chargeInterest_33 ?_
    refine wf_istore_n dX2_chargeInterest_34 ?_
    exact wf_at (pX2_chargeInterest_b35 (n := n) hE hk  fuel0 (FP.fdiv (FP.i2f (iI (H.1 0 9 0))) 1148846080) 0 0 _ _) ⟨rfl, rfl, rfl, rfl, trivial⟩
  · refine wf_iconst dX2_chargeInterest_27 ?_
    refine wf_goto 32 dX2_chargeInterest_28 ?_
    refine wf_istore_n dX2_chargeInterest_32 ?_
    refine wf_iconst dX2_chargeInterest_33 ?_
    refine wf_istore_n dX2_chargeInterest_34 ?_
    exact wf_at (pX2_chargeInterest_b35 (n := n) hE hk  fuel0 (FP.fdiv (FP.i2f (iI (H.1 0 9 0))) 1148846080) 1 0 _ _) ⟨rfl, rfl, rfl, rfl, trivial⟩
set_option maxRecDepth 100000 in
set_option maxHeartbeats 4000000 in
theorem pX3_copyFrom {E : wE} {n : Nat} (hE : wGE E) {G : gR} {k : Int} (hk : 0 ≤ k ∧ k < 11) {k2 : Int} {H2 : hR} (hk2 : 0 ≤ k2 ∧ k2 < 11) (hne : ¬ k2 = k) (hH2 : G.1.1 k2 = H2) (i : Int) (x1 : Int) (hbi : 0 ≤ i ∧ i < 16) (hbx1 : 0 ≤ x1 ∧ x1 < 16) (H : hR) (ca : caT) : WF E n yX3_copyFrom cX3_copyFrom 2 (none) vV (setH G k) ca 0 (wArgs [.ref (aOrd E k i), .ref (aOrd E k2 x1)]) [] H (fX3_copyFrom H2 i x1 H) := by
  unfold fX3_copyFrom
  refine wf_aload_n dX3_copyFrom_0 rfl ?_
  refine wf_aload_n dX3_copyFrom_1 rfl ?_
  refine wf_get dX3_copyFrom_2 f_RX3_9 (fun h hr => rd_ord hr ((setH_ne hne).trans hH2) hk2 (by omega)) ?_
  refine wf_p_ord (f := 0) dX3_copyFrom_5 p_RX3_9 hk (by omega) (fun H5 => ?_)
  refine wf_aload_n dX3_copyFrom_8 rfl ?_
  refine wf_aload_n dX3_copyFrom_9 rfl ?_
  refine wf_get dX3_copyFrom_10 f_RX3_15 (fun h hr => rd_ord hr ((setH_ne hne).trans hH2) hk2 (by omega)) ?_
  refine wf_p_ord (f := 1) dX3_copyFrom_13 p_RX3_15 hk (by omega) (fun H13 => ?_)
  refine wf_aload_n dX3_copyFrom_16 rfl ?_
  refine wf_aload_n dX3_copyFrom_17 rfl ?_
  refine wf_get dX3_copyFrom_18 f_RX3_18 (fun h hr => rd_ord hr ((setH_ne hne).trans hH2) hk2 (by omega)) ?_
  refine wf_p_ord (f := 2) dX3_copyFrom_21 p_RX3_18 hk (by omega) (fun H21 => ?_)
  refine wf_aload_n dX3_copyFrom_24 rfl ?_
  refine wf_aload_n dX3_copyFrom_25 rfl ?_
  refine wf_get dX3_copyFrom_26 f_RX3_21 (fun h hr => rd_ord hr ((setH_ne hne).trans hH2) hk2 (by omega)) ?_
  refine wf_p_ord (f := 3) dX3_copyFrom_29 p_RX3_21 hk (by omega) (fun H29 => ?_)
  refine wf_aload_n dX3_copyFrom_32 rfl ?_
  refine wf_aload_n dX3_copyFrom_33 rfl ?_
  refine wf_get dX3_copyFrom_34 f_RX3_24 (fun h hr => rd_ord hr ((setH_ne hne).trans hH2) hk2 (by omega)) ?_
  refine wf_p_ord (f := 4) dX3_copyFrom_37 p_RX3_24 hk (by omega) (fun H37 => ?_)
  refine wf_aload_n dX3_copyFrom_40 rfl ?_
  refine wf_aload_n dX3_copyFrom_41 rfl ?_
  refine wf_get dX3_copyFrom_42 f_RX3_27 (fun h hr => rd_ord hr ((setH_ne hne).trans hH2) hk2 (by omega)) ?_
  refine wf_p_ord (f := 5) dX3_copyFrom_45 p_RX3_27 hk (by omega) (fun H45 => ?_)
  refine wf_aload_n dX3_copyFrom_48 rfl ?_
  refine wf_aload_n dX3_copyFrom_49 rfl ?_
  refine wf_get dX3_copyFrom_50 f_RX3_30 (fun h hr => rd_ord hr ((setH_ne hne).trans hH2) hk2 (by omega)) ?_
  refine wf_p_ord (f := 6) dX3_copyFrom_53 p_RX3_30 hk (by omega) (fun H53 => ?_)
  refine wf_aload_n dX3_copyFrom_56 rfl ?_
  refine wf_aload_n dX3_copyFrom_57 rfl ?_
  refine wf_get dX3_copyFrom_58 f_RX3_33 (fun h hr => rd_ord hr ((setH_ne hne).trans hH2) hk2 (by omega)) ?_
  refine wf_p_ord (f := 7) dX3_copyFrom_61 p_RX3_33 hk (by omega) (fun H61 => ?_)
  refine wf_aload_n dX3_copyFrom_64 rfl ?_
  refine wf_aload_n dX3_copyFrom_65 rfl ?_
  refine wf_get dX3_copyFrom_66 f_RX3_36 (fun h hr => rd_ord hr ((setH_ne hne).trans hH2) hk2 (by omega)) ?_
  refine wf_p_ord (f := 8) dX3_copyFrom_69 p_RX3_36 hk (by omega) (fun H69 => ?_)
  refine wf_aload_n dX3_copyFrom_72 rfl ?_
  refine wf_aload_n dX3_copyFrom_73 rfl ?_
  refine wf_get dX3_copyFrom_74 f_RX3_39 (fun h hr => rd_ord hr ((setH_ne hne).trans hH2) hk2 (by omega)) ?_
  refine wf_gd (fun g77 => ?_)
  refine wf_p_ord (f := 9) dX3_copyFrom_77 p_RX3_39 hk (by omega) (fun H77 => ?_) (nar_z g77) (fit_z g77)
  refine wf_aload_n dX3_copyFrom_80 rfl ?_
  refine wf_aload_n dX3_copyFrom_81 rfl ?_
  refine wf_get dX3_copyFrom_82 f_RX3_43 (fun h hr => rd_ord hr ((setH_ne hne).trans hH2) hk2 (by omega)) ?_
  refine wf_p_ord (f := 10) dX3_copyFrom_85 p_RX3_43 hk (by omega) (fun H85 => ?_)
  refine wf_aload_n dX3_copyFrom_88 rfl ?_
  refine wf_aload_n dX3_copyFrom_89 rfl ?_
  refine wf_get dX3_copyFrom_90 f_RX3_46 (fun h hr => rd_ord hr ((setH_ne hne).trans hH2) hk2 (by omega)) ?_
  refine wf_p_ord (f := 11) dX3_copyFrom_93 p_RX3_46 hk (by omega) (fun H93 => ?_)
  refine wf_aload_n dX3_copyFrom_96 rfl ?_
  refine wf_aload_n dX3_copyFrom_97 rfl ?_
  refine wf_get dX3_copyFrom_98 f_RX3_49 (fun h hr => rd_ord hr ((setH_ne hne).trans hH2) hk2 (by omega)) ?_
  refine wf_p_ord (f := 12) dX3_copyFrom_101 p_RX3_49 hk (by omega) (fun H101 => ?_)
  refine wf_aload_n dX3_copyFrom_104 rfl ?_
  refine wf_aload_n dX3_copyFrom_105 rfl ?_
  refine wf_get dX3_copyFrom_106 f_RX3_52 (fun h hr => rd_ord hr ((setH_ne hne).trans hH2) hk2 (by omega)) ?_
  refine wf_p_ord (f := 13) dX3_copyFrom_109 p_RX3_52 hk (by omega) (fun H109 => ?_)
  refine wf_aload_n dX3_copyFrom_112 rfl ?_
  refine wf_aload_n dX3_copyFrom_113 rfl ?_
  refine wf_get dX3_copyFrom_114 f_RX3_55 (fun h hr => rd_ord hr ((setH_ne hne).trans hH2) hk2 (by omega)) ?_
  refine wf_p_ord (f := 14) dX3_copyFrom_117 p_RX3_55 hk (by omega) (fun H117 => ?_)
  refine wf_aload_n dX3_copyFrom_120 rfl ?_
  refine wf_aload_n dX3_copyFrom_121 rfl ?_
  refine wf_get dX3_copyFrom_122 f_RX3_58 (fun h hr => rd_ord hr ((setH_ne hne).trans hH2) hk2 (by omega)) ?_
  refine wf_p_ord (f := 15) dX3_copyFrom_125 p_RX3_58 hk (by omega) (fun H125 => ?_)
  refine wf_aload_n dX3_copyFrom_128 rfl ?_
  refine wf_aload_n dX3_copyFrom_129 rfl ?_
  refine wf_get dX3_copyFrom_130 f_RX3_61 (fun h hr => rd_ord hr ((setH_ne hne).trans hH2) hk2 (by omega)) ?_
  refine wf_p_ord (f := 16) dX3_copyFrom_133 p_RX3_61 hk (by omega) (fun H133 => ?_)
  exact wf_return dX3_copyFrom_136 rfl
set_option maxRecDepth 100000 in
set_option maxHeartbeats 4000000 in
theorem pX5_copyFrom_b21 {E : wE} {n : Nat} (hE : wGE E) {G : gR} {k : Int} (hk : 0 ≤ k ∧ k < 11) {k2 : Int} {H2 : hR} (hk2 : 0 ≤ k2 ∧ k2 < 11) (hne : ¬ k2 = k) (hH2 : G.1.1 k2 = H2) : ∀ (fuel : Nat) (x2 : Int)  (H : hR) (ca : caT), WF E (n + 4) yX5_copyFrom cX5_copyFrom 3 (none) vV (setH G k) ca 21 (wLs [some (.ref (aWait E k)), some (.ref (aWait E k2)), some (.int (iI x2))]) [] H (fX5_copyFrom_b21 H2 fuel x2 H) := by
  intro fuel
  induction fuel with
  | zero =>
    intro x2 H ca
    exact wf_none
  | succ fuel ih =>
    intro x2 H ca
    unfold fX5_copyFrom_b21
    refine wf_iload_n dX5_copyFrom_21 rfl ?_
    refine wf_iconst dX5_copyFrom_22 ?_
    refine wf_gd (fun g23 => ?_)
    refine wf_icmp_ge 53 dX5_copyFrom_23 g23 (by decide) (fun h23 => ?_) (fun h23 => ?_)
    · refine wf_aload_n dX5_copyFrom_53 rfl ?_
      refine wf_aload_n dX5_copyFrom_54 rfl ?_
      refine wf_get dX5_copyFrom_55 f_RX5_20 (fun h hr => rd_wait hr ((setH_ne hne).trans hH2) hk2) ?_
      refine wf_p_wait (f := 2) dX5_copyFrom_58 p_RX5_20 hk (fun H58 => ?_)
      exact wf_return dX5_copyFrom_61 rfl
    · refine wf_aload_n dX5_copyFrom_26 rfl ?_
      refine wf_get dX5_copyFrom_27 f_RX5_13 (fun h hr => rd_wait hr ((setH_ne hne).trans hH2) hk2) ?_
      refine wf_iload_n dX5_copyFrom_30 rfl ?_
      refine wf_gd (fun g31 => ?_)
      refine wf_aald_cols dX5_copyFrom_31 g31 (fun h hr => rd_cols hr ((setH_ne hne).trans hH2) hk2) ?_
      refine wf_iconst dX5_copyFrom_32 ?_
      refine wf_aload_n dX5_copyFrom_33 rfl ?_
      refine wf_get dX5_copyFrom_34 f_RX5_13 (fun h hr => rd_wait hr setH_at hk) ?_
      refine wf_iload_n dX5_copyFrom_37 rfl ?_
      refine wf_gd (fun g38 => ?_)
      refine wf_aald_cols dX5_copyFrom_38 g38 (fun h hr => rd_cols hr setH_at hk) ?_
      refine wf_iconst dX5_copyFrom_39 ?_
      refine wf_aload_n dX5_copyFrom_40 rfl ?_
      refine wf_get dX5_copyFrom_41 f_RX5_20 (fun h hr => rd_wait hr ((setH_ne hne).trans hH2) hk2) ?_
      refine wf_gd (fun g44 => ?_)
      refine wf_cpyC dX5_copyFrom_44 k_RX5_27 hk hk2 hne hH2 g31 g38 g44 (Nat.le_of_ble_eq_true rfl) (fun H44 => ?_)
      refine wf_iinc dX5_copyFrom_47 rfl ?_
      refine wf_goto 21 dX5_copyFrom_50 ?_
      exact wf_at (ih (x2 + 1) _ _) ⟨rfl, rfl, rfl, trivial⟩
set_option maxRecDepth 100000 in
set_option maxHeartbeats 4000000 in
theorem pX5_copyFrom {E : wE} {n : Nat} (hE : wGE E) {G : gR} {k : Int} (hk : 0 ≤ k ∧ k < 11) {k2 : Int} {H2 : hR} (hk2 : 0 ≤ k2 ∧ k2 < 11) (hne : ¬ k2 = k) (hH2 : G.1.1 k2 = H2)   (H : hR) (ca : caT) : WF E (n + 4) yX5_copyFrom cX5_copyFrom 3 (none) vV (setH G k) ca 0 (wArgs [.ref (aWait E k), .ref (aWait E k2)]) [] H (fX5_copyFrom H2  H) := by
  unfold fX5_copyFrom
  refine wf_aload_n dX5_copyFrom_0 rfl ?_
  refine wf_get dX5_copyFrom_1 f_RX5_16 (fun h hr => rd_wait hr setH_at hk) ?_
  refine wf_aload_n dX5_copyFrom_4 rfl ?_
  refine wf_get dX5_copyFrom_5 f_RX5_20 (fun h hr => rd_wait hr ((setH_ne hne).trans hH2) hk2) ?_
  refine wf_gd (fun g8 => ?_)
  refine wf_icmp_ge 19 dX5_copyFrom_8 g8.1 g8.2 (fun h8 => ?_) (fun h8 => ?_)
  · refine wf_iconst dX5_copyFrom_19 ?_
    refine wf_istore_n dX5_copyFrom_20 ?_
    exact wf_at (pX5_copyFrom_b21 (n := n) hE hk hk2 hne hH2  fuel0 0 _ _) ⟨rfl, rfl, rfl, trivial⟩
  · refine wf_aload_n dX5_copyFrom_11 rfl ?_
    refine wf_aload_n dX5_copyFrom_12 rfl ?_
    refine wf_get dX5_copyFrom_13 f_RX5_16 (fun h hr => rd_wait hr ((setH_ne hne).trans hH2) hk2) ?_
    refine wf_cV (put := fun q => q) dX5_copyFrom_16 k_RX5_23 b_yX5_makeRoom x_yX5_makeRoom (pX5_makeRoom (n := n) hE (G := G) (k := k) hk (H2.1 4 1 0) _ _) rfl (fun _ => rfl) (fun h hr => rd_wait hr setH_at hk) rfl (fun r16 H16 ca => ?_)
    refine wf_iconst dX5_copyFrom_19 ?_
    refine wf_istore_n dX5_copyFrom_20 ?_
    exact wf_at (pX5_copyFrom_b21 (n := n) hE hk hk2 hne hH2  fuel0 0 _ _) ⟨rfl, rfl, rfl, trivial⟩
set_option maxRecDepth 100000 in
set_option maxHeartbeats 4000000 in
theorem pX2_copyFrom_b44 {E : wE} {n : Nat} (hE : wGE E) {G : gR} {k : Int} (hk : 0 ≤ k ∧ k < 11) {k2 : Int} {H2 : hR} (hk2 : 0 ≤ k2 ∧ k2 < 11) (hne : ¬ k2 = k) (hH2 : G.1.1 k2 = H2) : ∀ (fuel : Nat) (x2 : Int)  (H : hR) (ca : caT), WF E (n + 5) yX2_copyFrom cX2_copyFrom 3 (none) vV (setH G k) ca 44 (wLs [some (.ref (aH E k)), some (.ref (aH E k2)), some (.int (iI x2))]) [] H (fX2_copyFrom_b44 H2 fuel x2 H) := by
  intro fuel
  induction fuel with
  | zero =>
    intro x2 H ca
    exact wf_none
  | succ fuel ih =>
    intro x2 H ca
    unfold fX2_copyFrom_b44
    refine wf_iload_n dX2_copyFrom_44 rfl ?_
    refine wf_aload_n dX2_copyFrom_45 rfl ?_
    refine wf_get dX2_copyFrom_46 f_RX2_59 (fun h hr => rd_h hr ((setH_ne hne).trans hH2) hk2) ?_
    refine wf_gd (fun g49 => ?_)
    refine wf_icmp_ge 73 dX2_copyFrom_49 g49.1 g49.2 (fun h49 => ?_) (fun h49 => ?_)
    · refine wf_aload_n dX2_copyFrom_73 rfl ?_
      refine wf_get dX2_copyFrom_74 f_RX2_33 (fun h hr => rd_h hr setH_at hk) ?_
      refine wf_aload_n dX2_copyFrom_77 rfl ?_
      refine wf_get dX2_copyFrom_78 f_RX2_33 (fun h hr => rd_h hr ((setH_ne hne).trans hH2) hk2) ?_
      refine wf_cV (put := fun q => q) dX2_copyFrom_81 k_RX2_65 b_yX5_copyFrom x_yX5_copyFrom (pX5_copyFrom (n := n) hE (G := G) (k := k) hk hk2 hne hH2 _ _) rfl (fun _ => rfl) (fun h hr => rd_wait hr setH_at hk) rfl (fun r81 H81 ca => ?_)
      refine wf_aload_n dX2_copyFrom_84 rfl ?_
      refine wf_aload_n dX2_copyFrom_85 rfl ?_
      refine wf_get dX2_copyFrom_86 f_RX2_53 (fun h hr => rd_h hr ((setH_ne hne).trans hH2) hk2) ?_
      refine wf_p_h (f := 4) dX2_copyFrom_89 p_RX2_53 hk (fun H89 => ?_)
      refine wf_aload_n dX2_copyFrom_92 rfl ?_
      refine wf_aload_n dX2_copyFrom_93 rfl ?_
      refine wf_get dX2_copyFrom_94 f_RX2_59 (fun h hr => rd_h hr ((setH_ne hne).trans hH2) hk2) ?_
      refine wf_p_h (f := 5) dX2_copyFrom_97 p_RX2_59 hk (fun H97 => ?_)
      refine wf_aload_n dX2_copyFrom_100 rfl ?_
      refine wf_aload_n dX2_copyFrom_101 rfl ?_
      refine wf_get dX2_copyFrom_102 f_RX2_68 (fun h hr => rd_h hr ((setH_ne hne).trans hH2) hk2) ?_
      refine wf_p_h (f := 6) dX2_copyFrom_105 p_RX2_68 hk (fun H105 => ?_)
      refine wf_aload_n dX2_copyFrom_108 rfl ?_
      refine wf_aload_n dX2_copyFrom_109 rfl ?_
      refine wf_get dX2_copyFrom_110 f_RX2_37 (fun h hr => rd_h hr ((setH_ne hne).trans hH2) hk2) ?_
      refine wf_p_h (f := 7) dX2_copyFrom_113 p_RX2_37 hk (fun H113 => ?_)
      refine wf_aload_n dX2_copyFrom_116 rfl ?_
      refine wf_aload_n dX2_copyFrom_117 rfl ?_
      refine wf_get dX2_copyFrom_118 f_RX2_41 (fun h hr => rd_h hr ((setH_ne hne).trans hH2) hk2) ?_
      refine wf_p_h (f := 8) dX2_copyFrom_121 p_RX2_41 hk (fun H121 => ?_)
      refine wf_aload_n dX2_copyFrom_124 rfl ?_
      refine wf_aload_n dX2_copyFrom_125 rfl ?_
      refine wf_get dX2_copyFrom_126 f_RX2_44 (fun h hr => rd_h hr ((setH_ne hne).trans hH2) hk2) ?_
      refine wf_p_h (f := 9) dX2_copyFrom_129 p_RX2_44 hk (fun H129 => ?_)
      refine wf_aload_n dX2_copyFrom_132 rfl ?_
      refine wf_aload_n dX2_copyFrom_133 rfl ?_
      refine wf_get dX2_copyFrom_134 f_RX2_71 (fun h hr => rd_h hr ((setH_ne hne).trans hH2) hk2) ?_
      refine wf_p_h (f := 10) dX2_copyFrom_137 p_RX2_71 hk (fun H137 => ?_)
      exact wf_return dX2_copyFrom_140 rfl
    · refine wf_aload_n dX2_copyFrom_52 rfl ?_
      refine wf_get dX2_copyFrom_53 f_RX2_26 (fun h hr => rd_h hr setH_at hk) ?_
      refine wf_iload_n dX2_copyFrom_56 rfl ?_
      refine wf_gd (fun g57 => ?_)
      refine wf_aald_ord dX2_copyFrom_57 g57 (fun h hr => rd_ords hr setH_at hk) ?_
      refine wf_aload_n dX2_copyFrom_58 rfl ?_
      refine wf_get dX2_copyFrom_59 f_RX2_26 (fun h hr => rd_h hr ((setH_ne hne).trans hH2) hk2) ?_
      refine wf_iload_n dX2_copyFrom_62 rfl ?_
      refine wf_gd (fun g63 => ?_)
      refine wf_aald_ord dX2_copyFrom_63 g63 (fun h hr => rd_ords hr ((setH_ne hne).trans hH2) hk2) ?_
      refine wf_cV (put := fun q => q) dX2_copyFrom_64 k_RX2_62 b_yX3_copyFrom x_yX3_copyFrom (pX3_copyFrom (n := n + 4) hE (G := G) (k := k) hk hk2 hne hH2 x2 x2 (by omega) (by omega) _ _) rfl (fun _ => rfl) (fun h hr => rd_ord hr setH_at hk (by omega)) rfl (fun r64 H64 ca => ?_)
      refine wf_iinc dX2_copyFrom_67 rfl ?_
      refine wf_goto 44 dX2_copyFrom_70 ?_
      exact wf_at (ih (x2 + 1) _ _) ⟨rfl, rfl, rfl, trivial⟩
set_option maxRecDepth 100000 in
set_option maxHeartbeats 4000000 in
theorem pX2_copyFrom_b13 {E : wE} {n : Nat} (hE : wGE E) {G : gR} {k : Int} (hk : 0 ≤ k ∧ k < 11) {k2 : Int} {H2 : hR} (hk2 : 0 ≤ k2 ∧ k2 < 11) (hne : ¬ k2 = k) (hH2 : G.1.1 k2 = H2) : ∀ (fuel : Nat) (x2 : Int)  (H : hR) (ca : caT), WF E (n + 5) yX2_copyFrom cX2_copyFrom 3 (none) vV (setH G k) ca 13 (wLs [some (.ref (aH E k)), some (.ref (aH E k2)), some (.int (iI x2))]) [] H (fX2_copyFrom_b13 H2 fuel x2 H) := by
  intro fuel
  induction fuel with
  | zero =>
    intro x2 H ca
    exact wf_none
  | succ fuel ih =>
    intro x2 H ca
    unfold fX2_copyFrom_b13
    refine wf_iload_n dX2_copyFrom_13 rfl ?_
    refine wf_aload_n dX2_copyFrom_14 rfl ?_
    refine wf_get dX2_copyFrom_15 f_RX2_53 (fun h hr => rd_h hr ((setH_ne hne).trans hH2) hk2) ?_
    refine wf_gd (fun g18 => ?_)
    refine wf_icmp_ge 42 dX2_copyFrom_18 g18.1 g18.2 (fun h18 => ?_) (fun h18 => ?_)
    · refine wf_iconst dX2_copyFrom_42 ?_
      refine wf_istore_n dX2_copyFrom_43 ?_
      exact wf_at (pX2_copyFrom_b44 (n := n) hE hk hk2 hne hH2  fuel0 0 _ _) ⟨rfl, rfl, rfl, trivial⟩
    · refine wf_aload_n dX2_copyFrom_21 rfl ?_
      refine wf_get dX2_copyFrom_22 f_RX2_20 (fun h hr => rd_h hr setH_at hk) ?_
      refine wf_iload_n dX2_copyFrom_25 rfl ?_
      refine wf_gd (fun g26 => ?_)
      refine wf_aald_acc dX2_copyFrom_26 g26 (fun h hr => rd_accs hr setH_at hk) ?_
      refine wf_aload_n dX2_copyFrom_27 rfl ?_
      refine wf_get dX2_copyFrom_28 f_RX2_20 (fun h hr => rd_h hr ((setH_ne hne).trans hH2) hk2) ?_
      refine wf_iload_n dX2_copyFrom_31 rfl ?_
      refine wf_gd (fun g32 => ?_)
      refine wf_aald_acc dX2_copyFrom_32 g32 (fun h hr => rd_accs hr ((setH_ne hne).trans hH2) hk2) ?_
      refine wf_cV (put := fun q => q) dX2_copyFrom_33 k_RX2_56 b_yX0_copyFrom x_yX0_copyFrom (pX0_copyFrom (n := n + 4) hE (G := G) (k := k) hk hk2 hne hH2 x2 x2 (by omega) (by omega) _ _) rfl (fun _ => rfl) (fun h hr => rd_acc hr setH_at hk (by omega)) rfl (fun r33 H33 ca => ?_)
      refine wf_iinc dX2_copyFrom_36 rfl ?_
      refine wf_goto 13 dX2_copyFrom_39 ?_
      exact wf_at (ih (x2 + 1) _ _) ⟨rfl, rfl, rfl, trivial⟩
set_option maxRecDepth 100000 in
set_option maxHeartbeats 4000000 in
theorem pX2_copyFrom {E : wE} {n : Nat} (hE : wGE E) {G : gR} {k : Int} (hk : 0 ≤ k ∧ k < 11) {k2 : Int} {H2 : hR} (hk2 : 0 ≤ k2 ∧ k2 < 11) (hne : ¬ k2 = k) (hH2 : G.1.1 k2 = H2)   (H : hR) (ca : caT) : WF E (n + 5) yX2_copyFrom cX2_copyFrom 3 (none) vV (setH G k) ca 0 (wArgs [.ref (aH E k), .ref (aH E k2)]) [] H (fX2_copyFrom H2  H) := by
  unfold fX2_copyFrom
  refine wf_aload_n dX2_copyFrom_0 rfl ?_
  refine wf_get dX2_copyFrom_1 f_RX2_12 (fun h hr => rd_h hr setH_at hk) ?_
  refine wf_aload_n dX2_copyFrom_4 rfl ?_
  refine wf_get dX2_copyFrom_5 f_RX2_12 (fun h hr => rd_h hr ((setH_ne hne).trans hH2) hk2) ?_
  refine wf_cV (put := fun q => q) dX2_copyFrom_8 k_RX2_49 b_yX1_copyFrom x_yX1_copyFrom (pX1_copyFrom (n := n + 3) hE (G := G) (k := k) hk hk2 hne hH2 _ _) rfl (fun _ => rfl) (fun h hr => rd_cal hr setH_at hk) rfl (fun r8 H8 ca => ?_)
  refine wf_iconst dX2_copyFrom_11 ?_
  refine wf_istore_n dX2_copyFrom_12 ?_
  exact wf_at (pX2_copyFrom_b13 (n := n) hE hk hk2 hne hH2  fuel0 0 _ _) ⟨rfl, rfl, rfl, trivial⟩
set_option maxRecDepth 100000 in
set_option maxHeartbeats 4000000 in
theorem pX2_settle {E : wE} {n : Nat} (hE : wGE E) {G : gR} {k : Int} (hk : 0 ≤ k ∧ k < 11) (x1 : Int)  (H : hR) (ca : caT) : WF E n yX2_settle cX2_settle 3 (none) vV (setH G k) ca 0 (wArgs [.ref (aH E k), .int (iI x1)]) [] H (fX2_settle x1 H) := by
  unfold fX2_settle
  refine wf_aload_n dX2_settle_0 rfl ?_
  refine wf_get dX2_settle_1 f_RX2_26 (fun h hr => rd_h hr setH_at hk) ?_
  refine wf_aload_n dX2_settle_4 rfl ?_
  refine wf_get dX2_settle_5 f_RX2_33 (fun h hr => rd_h hr setH_at hk) ?_
  refine wf_get dX2_settle_8 f_RX2_141 (fun h hr => rd_wait hr setH_at hk) ?_
  refine wf_iconst dX2_settle_11 ?_
  refine wf_aald_cols dX2_settle_12 (by decide) (fun h hr => rd_cols hr setH_at hk) ?_
  refine wf_iload_n dX2_settle_13 rfl ?_
  refine wf_gd (fun g14 => ?_)
  refine wf_collds dX2_settle_14 setH_at hk (by decide) g14 ?_
  refine wf_gd (fun g15 => ?_)
  refine wf_aald_ord dX2_settle_15 g15 (fun h hr => rd_ords hr setH_at hk) ?_
  refine wf_astore_n dX2_settle_16 ?_
  refine wf_aload_n dX2_settle_17 rfl ?_
  refine wf_dup dX2_settle_18 ?_
  refine wf_get dX2_settle_19 f_RX2_136 (fun h hr => rd_ord hr setH_at hk (by omega)) ?_
  refine wf_iconst dX2_settle_22 ?_
  refine wf_isub dX2_settle_23 ?_
  refine wf_p_ord (f := 15) dX2_settle_24 p_RX2_136 hk (by omega) (fun H24 => ?_)
  refine wf_aload_n dX2_settle_27 rfl ?_
  refine wf_get dX2_settle_28 f_RX2_20 (fun h hr => rd_h hr setH_at hk) ?_
  refine wf_aload_n dX2_settle_31 rfl ?_
  refine wf_get dX2_settle_32 f_RX2_221 (fun h hr => rd_ord hr setH_at hk (by omega)) ?_
  refine wf_gd (fun g35 => ?_)
  refine wf_aald_acc dX2_settle_35 g35 (fun h hr => rd_accs hr setH_at hk) ?_
  refine wf_dup dX2_settle_36 ?_
  refine wf_get dX2_settle_37 f_RX2_224 (fun h hr => rd_acc hr setH_at hk (by omega)) ?_
  refine wf_aload_n dX2_settle_40 rfl ?_
  refine wf_get dX2_settle_41 f_RX2_33 (fun h hr => rd_h hr setH_at hk) ?_
  refine wf_get dX2_settle_44 f_RX2_141 (fun h hr => rd_wait hr setH_at hk) ?_
  refine wf_iconst dX2_settle_47 ?_
  refine wf_aald_cols dX2_settle_48 (by decide) (fun h hr => rd_cols hr setH_at hk) ?_
  refine wf_iload_n dX2_settle_49 rfl ?_
  refine wf_gd (fun g50 => ?_)
  refine wf_collds dX2_settle_50 setH_at hk (by decide) g50 ?_
  refine wf_gd (fun g51 => ?_)
  refine wf_i2l dX2_settle_51 g51 ?_
  refine wf_lsub dX2_settle_52 ?_
  refine wf_p_accl (f := 11) dX2_settle_53 p_RX2_224 hk (by omega) (fun H53 => ?_)
  refine wf_aload_n dX2_settle_56 rfl ?_
  refine wf_get dX2_settle_57 f_RX2_33 (fun h hr => rd_h hr setH_at hk) ?_
  refine wf_get dX2_settle_60 f_RX2_141 (fun h hr => rd_wait hr setH_at hk) ?_
  refine wf_iconst dX2_settle_63 ?_
  refine wf_aald_cols dX2_settle_64 (by decide) (fun h hr => rd_cols hr setH_at hk) ?_
  refine wf_iload_n dX2_settle_65 rfl ?_
  refine wf_iconst dX2_settle_66 ?_
  refine wf_gd (fun g67 => ?_)
  refine wf_s_col dX2_settle_67 hk (by decide) g67 (fun H67 => ?_)
  exact wf_return dX2_settle_68 rfl
set_option maxRecDepth 100000 in
set_option maxHeartbeats 4000000 in
theorem pX5_dropSettled_b28 {E : wE} {n : Nat} (hE : wGE E) {G : gR} {k : Int} (hk : 0 ≤ k ∧ k < 11) {rec4 : Int → Int → hR → Option (Unit × hR)} (hrec4 : ∀ (x1 : Int) (x2 : Int)  (H : hR) (ca : caT), WF E n yX5_dropSettled cX5_dropSettled 4 (none) vV (setH G k) ca 4 (wLs [some (.ref (aWait E k)), some (.int (iI x1)), some (.int (iI x2))]) [] H (rec4 x1 x2 H)) : ∀ (fuel : Nat) (x1 : Int) (x2 : Int) (x3 : Int)  (H : hR) (ca : caT), WF E n yX5_dropSettled cX5_dropSettled 4 (none) vV (setH G k) ca 28 (wLs [some (.ref (aWait E k)), some (.int (iI x1)), some (.int (iI x2)), some (.int (iI x3))]) [] H (fX5_dropSettled_b28 rec4 fuel x1 x2 x3 H) := by
  intro fuel
  induction fuel with
  | zero =>
    intro x1 x2 x3 H ca
    exact wf_none
  | succ fuel ih =>
    intro x1 x2 x3 H ca
    unfold fX5_dropSettled_b28
    refine wf_iload_n dX5_dropSettled_28 rfl ?_
    refine wf_iconst dX5_dropSettled_29 ?_
    refine wf_gd (fun g30 => ?_)
    refine wf_icmp_ge 55 dX5_dropSettled_30 g30 (by decide) (fun h30 => ?_) (fun h30 => ?_)
    · refine wf_iinc dX5_dropSettled_55 rfl ?_
      refine wf_iinc dX5_dropSettled_58 rfl ?_
      refine wf_goto 4 dX5_dropSettled_61 ?_
      exact wf_at (hrec4 (x1 + 1) (x2 + 1) _ _) ⟨rfl, rfl, rfl, trivial⟩
    · refine wf_aload_n dX5_dropSettled_33 rfl ?_
      refine wf_get dX5_dropSettled_34 f_RX5_13 (fun h hr => rd_wait hr setH_at hk) ?_
      refine wf_iload_n dX5_dropSettled_37 rfl ?_
      refine wf_gd (fun g38 => ?_)
      refine wf_aald_cols dX5_dropSettled_38 g38 (fun h hr => rd_cols hr setH_at hk) ?_
      refine wf_iload_n dX5_dropSettled_39 rfl ?_
      refine wf_aload_n dX5_dropSettled_40 rfl ?_
      refine wf_get dX5_dropSettled_41 f_RX5_13 (fun h hr => rd_wait hr setH_at hk) ?_
      refine wf_iload_n dX5_dropSettled_44 rfl ?_
      refine wf_gd (fun g45 => ?_)
      refine wf_aald_cols dX5_dropSettled_45 g45 (fun h hr => rd_cols hr setH_at hk) ?_
      refine wf_iload_n dX5_dropSettled_46 rfl ?_
      refine wf_gd (fun g47 => ?_)
      refine wf_collds dX5_dropSettled_47 setH_at hk g45 g47 ?_
      refine wf_gd (fun g48 => ?_)
      refine wf_s_col dX5_dropSettled_48 hk g38 g48 (fun H48 => ?_)
      refine wf_iinc dX5_dropSettled_49 rfl ?_
      refine wf_goto 28 dX5_dropSettled_52 ?_
      exact wf_at (ih x1 x2 (x3 + 1) _ _) ⟨rfl, rfl, rfl, rfl, trivial⟩
set_option maxRecDepth 100000 in
set_option maxHeartbeats 4000000 in
theorem pX5_dropSettled_b4 {E : wE} {n : Nat} (hE : wGE E) {G : gR} {k : Int} (hk : 0 ≤ k ∧ k < 11) : ∀ (fuel : Nat) (x1 : Int) (x2 : Int)  (H : hR) (ca : caT), WF E n yX5_dropSettled cX5_dropSettled 4 (none) vV (setH G k) ca 4 (wLs [some (.ref (aWait E k)), some (.int (iI x1)), some (.int (iI x2))]) [] H (fX5_dropSettled_b4 fuel x1 x2 H) := by
  intro fuel
  induction fuel with
  | zero =>
    intro x1 x2 H ca
    exact wf_none
  | succ fuel ih =>
    intro x1 x2 H ca
    unfold fX5_dropSettled_b4
    refine wf_iload_n dX5_dropSettled_4 rfl ?_
    refine wf_aload_n dX5_dropSettled_5 rfl ?_
    refine wf_get dX5_dropSettled_6 f_RX5_20 (fun h hr => rd_wait hr setH_at hk) ?_
    refine wf_gd (fun g9 => ?_)
    refine wf_icmp_ge 64 dX5_dropSettled_9 g9.1 g9.2 (fun h9 => ?_) (fun h9 => ?_)
    · refine wf_aload_n dX5_dropSettled_64 rfl ?_
      refine wf_iload_n dX5_dropSettled_65 rfl ?_
      refine wf_p_wait (f := 2) dX5_dropSettled_66 p_RX5_20 hk (fun H66 => ?_)
      exact wf_return dX5_dropSettled_69 rfl
    · refine wf_aload_n dX5_dropSettled_12 rfl ?_
      refine wf_get dX5_dropSettled_13 f_RX5_13 (fun h hr => rd_wait hr setH_at hk) ?_
      refine wf_iconst dX5_dropSettled_16 ?_
      refine wf_aald_cols dX5_dropSettled_17 (by decide) (fun h hr => rd_cols hr setH_at hk) ?_
      refine wf_iload_n dX5_dropSettled_18 rfl ?_
      refine wf_gd (fun g19 => ?_)
      refine wf_collds dX5_dropSettled_19 setH_at hk (by decide) g19 ?_
      refine wf_gd (fun g20 => ?_)
      refine wf_if_ne 26 dX5_dropSettled_20 g20 (fun h20 => ?_) (fun h20 => ?_)
      · refine wf_iconst dX5_dropSettled_26 ?_
        refine wf_istore_n dX5_dropSettled_27 ?_
        exact wf_at (pX5_dropSettled_b28 (n := n) hE hk ih fuel0 x1 x2 0 _ _) ⟨rfl, rfl, rfl, rfl, trivial⟩
      · refine wf_goto 58 dX5_dropSettled_23 ?_
        refine wf_iinc dX5_dropSettled_58 rfl ?_
        refine wf_goto 4 dX5_dropSettled_61 ?_
        exact wf_at (ih x1 (x2 + 1) _ _) ⟨rfl, rfl, rfl, trivial⟩
set_option maxRecDepth 100000 in
set_option maxHeartbeats 4000000 in
theorem pX5_dropSettled {E : wE} {n : Nat} (hE : wGE E) {G : gR} {k : Int} (hk : 0 ≤ k ∧ k < 11)   (H : hR) (ca : caT) : WF E n yX5_dropSettled cX5_dropSettled 4 (none) vV (setH G k) ca 0 (wArgs [.ref (aWait E k)]) [] H (fX5_dropSettled  H) := by
  unfold fX5_dropSettled
  refine wf_iconst dX5_dropSettled_0 ?_
  refine wf_istore_n dX5_dropSettled_1 ?_
  refine wf_iconst dX5_dropSettled_2 ?_
  refine wf_istore_n dX5_dropSettled_3 ?_
  exact wf_at (pX5_dropSettled_b4 (n := n) hE hk  fuel0 0 0 _ _) ⟨rfl, rfl, rfl, trivial⟩
set_option maxRecDepth 100000 in
set_option maxHeartbeats 4000000 in
theorem pX2_dropPayment {E : wE} {n : Nat} (hE : wGE E) {G : gR} {k : Int} (hk : 0 ≤ k ∧ k < 11) (x1 : Int)  (H : hR) (ca : caT) : WF E (n + 1) yX2_dropPayment cX2_dropPayment 2 (some .int) vI (setH G k) ca 0 (wArgs [.ref (aH E k), .int (iI x1)]) [] H (fX2_dropPayment x1 H) := by
  unfold fX2_dropPayment
  refine wf_iload_n dX2_dropPayment_0 rfl ?_
  refine wf_iconst dX2_dropPayment_1 ?_
  refine wf_aload_n dX2_dropPayment_2 rfl ?_
  refine wf_get dX2_dropPayment_3 f_RX2_33 (fun h hr => rd_h hr setH_at hk) ?_
  refine wf_get dX2_dropPayment_6 f_RX2_138 (fun h hr => rd_wait hr setH_at hk) ?_
  refine wf_iconst dX2_dropPayment_9 ?_
  refine wf_isub dX2_dropPayment_10 ?_
  refine wf_rSN dX2_dropPayment_11 k_RX2_77 b_yX6_isBetween x_yX6_isBetween (fun h hr => pX6_isBetween (n := n) hE x1 0 ((H.1 4 2 0) - 1)) (fun r11 => ?_)
  refine wf_gd (fun g14 => ?_)
  refine wf_if_ne 19 dX2_dropPayment_14 g14 (fun h14 => ?_) (fun h14 => ?_)
  · refine wf_aload_n dX2_dropPayment_19 rfl ?_
    refine wf_get dX2_dropPayment_20 f_RX2_26 (fun h hr => rd_h hr setH_at hk) ?_
    refine wf_aload_n dX2_dropPayment_23 rfl ?_
    refine wf_get dX2_dropPayment_24 f_RX2_33 (fun h hr => rd_h hr setH_at hk) ?_
    refine wf_get dX2_dropPayment_27 f_RX2_141 (fun h hr => rd_wait hr setH_at hk) ?_
    refine wf_iconst dX2_dropPayment_30 ?_
    refine wf_aald_cols dX2_dropPayment_31 (by decide) (fun h hr => rd_cols hr setH_at hk) ?_
    refine wf_iload_n dX2_dropPayment_32 rfl ?_
    refine wf_gd (fun g33 => ?_)
    refine wf_collds dX2_dropPayment_33 setH_at hk (by decide) g33 ?_
    refine wf_gd (fun g34 => ?_)
    refine wf_aald_ord dX2_dropPayment_34 g34 (fun h hr => rd_ords hr setH_at hk) ?_
    refine wf_dup dX2_dropPayment_35 ?_
    refine wf_get dX2_dropPayment_36 f_RX2_145 (fun h hr => rd_ord hr setH_at hk (by omega)) ?_
    refine wf_iconst dX2_dropPayment_39 ?_
    refine wf_iadd dX2_dropPayment_40 ?_
    refine wf_p_ord (f := 13) dX2_dropPayment_41 p_RX2_145 hk (by omega) (fun H41 => ?_)
    refine wf_aload_n dX2_dropPayment_44 rfl ?_
    refine wf_iload_n dX2_dropPayment_45 rfl ?_
    refine wf_cV (put := fun q => q) dX2_dropPayment_46 k_RX2_148 b_yX2_settle x_yX2_settle (pX2_settle (n := n) hE (G := G) (k := k) hk x1 _ _) rfl (fun _ => rfl) (fun h hr => rd_h hr setH_at hk) rfl (fun r46 H46 ca => ?_)
    refine wf_aload_n dX2_dropPayment_49 rfl ?_
    refine wf_get dX2_dropPayment_50 f_RX2_33 (fun h hr => rd_h hr setH_at hk) ?_
    refine wf_cV (put := fun q => q) dX2_dropPayment_53 k_RX2_152 b_yX5_dropSettled x_yX5_dropSettled (pX5_dropSettled (n := n) hE (G := G) (k := k) hk _ _) rfl (fun _ => rfl) (fun h hr => rd_wait hr setH_at hk) rfl (fun r53 H53 ca => ?_)
    refine wf_aload_n dX2_dropPayment_56 rfl ?_
    refine wf_get dX2_dropPayment_57 f_RX2_33 (fun h hr => rd_h hr setH_at hk) ?_
    refine wf_get dX2_dropPayment_60 f_RX2_138 (fun h hr => rd_wait hr setH_at hk) ?_
    exact wf_ireturn dX2_dropPayment_63 ⟨_, rfl, rfl⟩
  · refine wf_iconst dX2_dropPayment_17 ?_
    exact wf_ireturn dX2_dropPayment_18 ⟨_, rfl, rfl⟩
set_option maxRecDepth 100000 in
set_option maxHeartbeats 4000000 in
theorem pX2_errorOfDays {E : wE} {n : Nat} (hE : wGE E) {G : gR} {H : hR} {ca : caT} {h : hW} {k : Int} (hr : rep E G ca h) (hH : G.1.1 k = H) (hk : 0 ≤ k ∧ k < 11) (x1 : Int)  : WR E (n + 1) yX2_errorOfDays cX2_errorOfDays 2 (some .int) vI h 0 (wArgs [.ref (aH E k), .int (iI x1)]) [] (fX2_errorOfDays x1 H) := by
  unfold fX2_errorOfDays
  refine wr_iload_n dX2_errorOfDays_0 rfl ?_
  refine wr_iconst dX2_errorOfDays_1 ?_
  refine wr_sipush dX2_errorOfDays_2 ?_
  refine wr_cSN dX2_errorOfDays_5 k_RX2_77 b_yX6_isBetween x_yX6_isBetween (pX6_isBetween (n := n) hE x1 1 400) (fun r5 => ?_)
  refine wr_gd (fun g8 => ?_)
  refine wr_if_ne 14 dX2_errorOfDays_8 g8 (fun h8 => ?_) (fun h8 => ?_)
  · refine wr_aload_n dX2_errorOfDays_14 rfl ?_
    refine wr_get dX2_errorOfDays_15 f_RX2_68 (rd_h hr hH hk) ?_
    refine wr_iload_n dX2_errorOfDays_18 rfl ?_
    refine wr_iadd dX2_errorOfDays_19 ?_
    refine wr_sipush dX2_errorOfDays_20 ?_
    refine wr_gd (fun g23 => ?_)
    refine wr_icmp_le 31 dX2_errorOfDays_23 g23 (by decide) (fun h23 => ?_) (fun h23 => ?_)
    · refine wr_iconst dX2_errorOfDays_31 ?_
      exact wr_ireturn dX2_errorOfDays_32 ⟨_, rfl, rfl⟩
    · refine wr_bipush dX2_errorOfDays_26 ?_
      refine wr_goto 32 dX2_errorOfDays_28 ?_
      exact wr_ireturn dX2_errorOfDays_32 ⟨_, rfl, rfl⟩
  · refine wr_bipush dX2_errorOfDays_11 ?_
    exact wr_ireturn dX2_errorOfDays_13 ⟨_, rfl, rfl⟩
set_option maxRecDepth 100000 in
set_option maxHeartbeats 4000000 in
theorem pX2_failTry {E : wE} {n : Nat} (hE : wGE E) {G : gR} {k : Int} (hk : 0 ≤ k ∧ k < 11) (x1 : Int)  (H : hR) (ca : caT) : WF E (n + 1) yX2_failTry cX2_failTry 3 (none) vV (setH G k) ca 0 (wArgs [.ref (aH E k), .int (iI x1)]) [] H (fX2_failTry x1 H) := by
  unfold fX2_failTry
  refine wf_aload_n dX2_failTry_0 rfl ?_
  refine wf_get dX2_failTry_1 f_RX2_26 (fun h hr => rd_h hr setH_at hk) ?_
  refine wf_aload_n dX2_failTry_4 rfl ?_
  refine wf_get dX2_failTry_5 f_RX2_33 (fun h hr => rd_h hr setH_at hk) ?_
  refine wf_get dX2_failTry_8 f_RX2_141 (fun h hr => rd_wait hr setH_at hk) ?_
  refine wf_iconst dX2_failTry_11 ?_
  refine wf_aald_cols dX2_failTry_12 (by decide) (fun h hr => rd_cols hr setH_at hk) ?_
  refine wf_iload_n dX2_failTry_13 rfl ?_
  refine wf_gd (fun g14 => ?_)
  refine wf_collds dX2_failTry_14 setH_at hk (by decide) g14 ?_
  refine wf_gd (fun g15 => ?_)
  refine wf_aald_ord dX2_failTry_15 g15 (fun h hr => rd_ords hr setH_at hk) ?_
  refine wf_astore_n dX2_failTry_16 ?_
  refine wf_aload_n dX2_failTry_17 rfl ?_
  refine wf_get dX2_failTry_18 f_RX2_20 (fun h hr => rd_h hr setH_at hk) ?_
  refine wf_aload_n dX2_failTry_21 rfl ?_
  refine wf_get dX2_failTry_22 f_RX2_221 (fun h hr => rd_ord hr setH_at hk (by omega)) ?_
  refine wf_gd (fun g25 => ?_)
  refine wf_aald_acc dX2_failTry_25 g25 (fun h hr => rd_accs hr setH_at hk) ?_
  refine wf_dup dX2_failTry_26 ?_
  refine wf_get dX2_failTry_27 f_RX2_105 (fun h hr => rd_acc hr setH_at hk (by omega)) ?_
  refine wf_aload_n dX2_failTry_30 rfl ?_
  refine wf_get dX2_failTry_31 f_RX2_41 (fun h hr => rd_h hr setH_at hk) ?_
  refine wf_gd (fun g34 => ?_)
  refine wf_i2l dX2_failTry_34 g34 ?_
  refine wf_lsub dX2_failTry_35 ?_
  refine wf_p_accl (f := 3) dX2_failTry_36 p_RX2_105 hk (by omega) (fun H36 => ?_)
  refine wf_aload_n dX2_failTry_39 rfl ?_
  refine wf_get dX2_failTry_40 f_RX2_20 (fun h hr => rd_h hr setH_at hk) ?_
  refine wf_aload_n dX2_failTry_43 rfl ?_
  refine wf_get dX2_failTry_44 f_RX2_221 (fun h hr => rd_ord hr setH_at hk (by omega)) ?_
  refine wf_gd (fun g47 => ?_)
  refine wf_aald_acc dX2_failTry_47 g47 (fun h hr => rd_accs hr setH_at hk) ?_
  refine wf_dup dX2_failTry_48 ?_
  refine wf_get dX2_failTry_49 f_RX2_266 (fun h hr => rd_acc hr setH_at hk (by omega)) ?_
  refine wf_aload_n dX2_failTry_52 rfl ?_
  refine wf_get dX2_failTry_53 f_RX2_41 (fun h hr => rd_h hr setH_at hk) ?_
  refine wf_gd (fun g56 => ?_)
  refine wf_i2l dX2_failTry_56 g56 ?_
  refine wf_ladd dX2_failTry_57 ?_
  refine wf_p_accl (f := 9) dX2_failTry_58 p_RX2_266 hk (by omega) (fun H58 => ?_)
  refine wf_aload_n dX2_failTry_61 rfl ?_
  refine wf_dup dX2_failTry_62 ?_
  refine wf_get dX2_failTry_63 f_RX2_71 (fun h hr => rd_h hr setH_at hk) ?_
  refine wf_iconst dX2_failTry_66 ?_
  refine wf_iadd dX2_failTry_67 ?_
  refine wf_p_h (f := 10) dX2_failTry_68 p_RX2_71 hk (fun H68 => ?_)
  refine wf_aload_n dX2_failTry_71 rfl ?_
  refine wf_dup dX2_failTry_72 ?_
  refine wf_get dX2_failTry_73 f_RX2_170 (fun h hr => rd_h hr setH_at hk) ?_
  refine wf_iconst dX2_failTry_76 ?_
  refine wf_aload_n dX2_failTry_77 rfl ?_
  refine wf_get dX2_failTry_78 f_RX2_221 (fun h hr => rd_ord hr setH_at hk (by omega)) ?_
  refine wf_ishl dX2_failTry_81 ?_
  refine wf_ior dX2_failTry_82 ?_
  refine wf_p_h (f := 11) dX2_failTry_83 p_RX2_170 hk (fun H83 => ?_)
  refine wf_aload_n dX2_failTry_86 rfl ?_
  refine wf_get dX2_failTry_87 f_RX2_33 (fun h hr => rd_h hr setH_at hk) ?_
  refine wf_get dX2_failTry_90 f_RX2_141 (fun h hr => rd_wait hr setH_at hk) ?_
  refine wf_iconst dX2_failTry_93 ?_
  refine wf_aald_cols dX2_failTry_94 (by decide) (fun h hr => rd_cols hr setH_at hk) ?_
  refine wf_iload_n dX2_failTry_95 rfl ?_
  refine wf_dup2 dX2_failTry_96 ?_
  refine wf_gd (fun g97 => ?_)
  refine wf_collds dX2_failTry_97 setH_at hk (by decide) g97 ?_
  refine wf_iconst dX2_failTry_98 ?_
  refine wf_iadd dX2_failTry_99 ?_
  refine wf_gd (fun g100 => ?_)
  refine wf_s_col dX2_failTry_100 hk (by decide) g100 (fun H100 => ?_)
  refine wf_aload_n dX2_failTry_101 rfl ?_
  refine wf_get dX2_failTry_102 f_RX2_33 (fun h hr => rd_h hr setH_at hk) ?_
  refine wf_get dX2_failTry_105 f_RX2_141 (fun h hr => rd_wait hr setH_at hk) ?_
  refine wf_iconst dX2_failTry_108 ?_
  refine wf_aald_cols dX2_failTry_109 (by decide) (fun h hr => rd_cols hr setH_at hk) ?_
  refine wf_iload_n dX2_failTry_110 rfl ?_
  refine wf_gd (fun g111 => ?_)
  refine wf_collds dX2_failTry_111 setH_at hk (by decide) g111 ?_
  refine wf_aload_n dX2_failTry_112 rfl ?_
  refine wf_get dX2_failTry_113 f_RX2_37 (fun h hr => rd_h hr setH_at hk) ?_
  refine wf_gd (fun g116 => ?_)
  refine wf_icmp_ge 120 dX2_failTry_116 g116.1 g116.2 (fun h116 => ?_) (fun h116 => ?_)
  · refine wf_aload_n dX2_failTry_120 rfl ?_
    refine wf_dup dX2_failTry_121 ?_
    refine wf_get dX2_failTry_122 f_RX2_145 (fun h hr => rd_ord hr setH_at hk (by omega)) ?_
    refine wf_iconst dX2_failTry_125 ?_
    refine wf_iadd dX2_failTry_126 ?_
    refine wf_p_ord (f := 13) dX2_failTry_127 p_RX2_145 hk (by omega) (fun H127 => ?_)
    refine wf_aload_n dX2_failTry_130 rfl ?_
    refine wf_iload_n dX2_failTry_131 rfl ?_
    refine wf_cV (put := fun q => q) dX2_failTry_132 k_RX2_148 b_yX2_settle x_yX2_settle (pX2_settle (n := n) hE (G := G) (k := k) hk x1 _ _) rfl (fun _ => rfl) (fun h hr => rd_h hr setH_at hk) rfl (fun r132 H132 ca => ?_)
    exact wf_return dX2_failTry_135 rfl
  · exact wf_return dX2_failTry_119 rfl

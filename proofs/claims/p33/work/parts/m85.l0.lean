/-! ===== the methods meet their functions (by program: wip/p33/gen.py) ===== -/
set_option maxRecDepth 100000 in
set_option maxHeartbeats 4000000 in
theorem pL_any {E : wE} {n : Nat} (hE : wGE E) {M : mR} (x1 : Int) (x2 : Int)  (c : cR) (ca : caT) : WF E (n + 8) yL_any cL_any 3 (some .int) vI (fun c : cR => (c, M)) ca 0 (wArgs [.ref (aTop E), .int (iI x1), .int (iI x2)]) [] c (fL_any x1 x2 c) := by
  unfold fL_any
  refine wf_iload_n dL_any_0 rfl ?_
  refine wf_bipush dL_any_1 ?_
  refine wf_iand dL_any_3 ?_
  refine wf_gd (fun g4 => ?_)
  refine wf_ite (fun e4_0 => ?_) (fun e4_0 => ?_)
  · refine wf_tsK 0 48 dL_any_4 e4_0 ?_
    refine wf_aload_n dL_any_48 rfl ?_
    refine wf_iload_n dL_any_49 rfl ?_
    refine wf_iload_n dL_any_50 rfl ?_
    refine wf_cV (put := fun q => q) dL_any_51 k_RL_47 b_yX6_set x_yX6_set (pX6_set (n := n) hE x1 x2 _ _) rfl (fun _ => rfl) (fun h hr => rd_top hr) rfl (fun r51 c51 ca => ?_)
    exact wf_ireturn dL_any_54 ⟨_, rfl, rfl⟩
  refine wf_ite (fun e4_1 => ?_) (fun e4_1 => ?_)
  · refine wf_tsK 1 55 dL_any_4 e4_1 ?_
    refine wf_aload_n dL_any_55 rfl ?_
    refine wf_iload_n dL_any_56 rfl ?_
    refine wf_iload_n dL_any_57 rfl ?_
    refine wf_iconst dL_any_58 ?_
    refine wf_ishr dL_any_59 ?_
    refine wf_cV (put := fun q => q) dL_any_60 k_RL_50 b_yX6_holiday x_yX6_holiday (pX6_holiday (n := n) hE x1 (shrI x2 3) _ _) rfl (fun _ => rfl) (fun h hr => rd_top hr) rfl (fun r60 c60 ca => ?_)
    exact wf_ireturn dL_any_63 ⟨_, rfl, rfl⟩
  refine wf_ite (fun e4_2 => ?_) (fun e4_2 => ?_)
  · refine wf_tsK 2 64 dL_any_4 e4_2 ?_
    refine wf_aload_n dL_any_64 rfl ?_
    refine wf_iload_n dL_any_65 rfl ?_
    refine wf_iload_n dL_any_66 rfl ?_
    refine wf_cV (put := fun q => q) dL_any_67 k_RL_53 b_yX6_account x_yX6_account (pX6_account (n := n) hE x1 x2 _ _) rfl (fun _ => rfl) (fun h hr => rd_top hr) rfl (fun r67 c67 ca => ?_)
    exact wf_ireturn dL_any_70 ⟨_, rfl, rfl⟩
  refine wf_ite (fun e4_3 => ?_) (fun e4_3 => ?_)
  · refine wf_tsK 3 71 dL_any_4 e4_3 ?_
    refine wf_aload_n dL_any_71 rfl ?_
    refine wf_iload_n dL_any_72 rfl ?_
    refine wf_iload_n dL_any_73 rfl ?_
    refine wf_cV (put := fun q => q) dL_any_74 k_RL_56 b_yX6_deposit x_yX6_deposit (pX6_deposit (n := n) hE x1 x2 _ _) rfl (fun _ => rfl) (fun h hr => rd_top hr) rfl (fun r74 c74 ca => ?_)
    exact wf_ireturn dL_any_77 ⟨_, rfl, rfl⟩
  refine wf_ite (fun e4_4 => ?_) (fun e4_4 => ?_)
  · refine wf_tsK 4 78 dL_any_4 e4_4 ?_
    refine wf_aload_n dL_any_78 rfl ?_
    refine wf_iload_n dL_any_79 rfl ?_
    refine wf_iload_n dL_any_80 rfl ?_
    refine wf_iload_n dL_any_81 rfl ?_
    refine wf_iload_n dL_any_82 rfl ?_
    refine wf_iload_n dL_any_83 rfl ?_
    refine wf_iload_n dL_any_84 rfl ?_
    refine wf_cV (put := fun q => q) dL_any_85 k_RL_43 b_yX6_order x_yX6_order (pX6_order (n := n) hE x1 x2 x1 x2 x1 x2 _ _) rfl (fun _ => rfl) (fun h hr => rd_top hr) rfl (fun r85 c85 ca => ?_)
    exact wf_ireturn dL_any_88 ⟨_, rfl, rfl⟩
  refine wf_ite (fun e4_5 => ?_) (fun e4_5 => ?_)
  · refine wf_tsK 5 89 dL_any_4 e4_5 ?_
    refine wf_aload_n dL_any_89 rfl ?_
    refine wf_iload_n dL_any_90 rfl ?_
    refine wf_iload_n dL_any_91 rfl ?_
    refine wf_iload_n dL_any_92 rfl ?_
    refine wf_cV (put := fun q => q) dL_any_93 k_RL_59 b_yX6_change x_yX6_change (pX6_change (n := n) hE x1 x2 x2 _ _) rfl (fun _ => rfl) (fun h hr => rd_top hr) rfl (fun r93 c93 ca => ?_)
    exact wf_ireturn dL_any_96 ⟨_, rfl, rfl⟩
  refine wf_ite (fun e4_6 => ?_) (fun e4_6 => ?_)
  · refine wf_tsK 6 97 dL_any_4 e4_6 ?_
    refine wf_aload_n dL_any_97 rfl ?_
    refine wf_iload_n dL_any_98 rfl ?_
    refine wf_cV (put := fun q => q) dL_any_99 k_RL_63 b_yX6_giveUp x_yX6_giveUp (pX6_giveUp (n := n) hE x1 _ _) rfl (fun _ => rfl) (fun h hr => rd_top hr) rfl (fun r99 c99 ca => ?_)
    exact wf_ireturn dL_any_102 ⟨_, rfl, rfl⟩
  refine wf_tsOut (z := (andI x2 7)) 103 dL_any_4 g4 (by omega) ?_
  refine wf_aload_n dL_any_103 rfl ?_
  refine wf_iload_n dL_any_104 rfl ?_
  refine wf_cV (put := fun q => q) dL_any_105 k_RL_66 b_yX6_stop x_yX6_stop (pX6_stop (n := n) hE x1 _ _) rfl (fun _ => rfl) (fun h hr => rd_top hr) rfl (fun r105 c105 ca => ?_)
  exact wf_ireturn dL_any_108 ⟨_, rfl, rfl⟩
set_option maxRecDepth 100000 in
set_option maxHeartbeats 4000000 in
theorem pL_areInOrder_b123 {E : wE} {n : Nat} (hE : wGE E) {M : mR} : ∀ (fuel : Nat) (x1 : Int) (x5 : Int) (x6 : Int)  (c : cR) (ca : caT), WF E (n + 6) yL_areInOrder cL_areInOrder 8 (some .boolean) vI (fun c : cR => (c, M)) ca 123 (wLs [some (.ref (aTop E)), some (.int (iI x1)), none, none, none, some (.int (iI x5)), some (.int (iI x6))]) [] c (fL_areInOrder_b123 fuel x1 x5 x6 c) := by
  intro fuel
  induction fuel with
  | zero =>
    intro x1 x5 x6 c ca
    exact wf_none
  | succ fuel ih =>
    intro x1 x5 x6 c ca
    unfold fL_areInOrder_b123
    refine wf_iload dL_areInOrder_123 rfl ?_
    refine wf_iload_n dL_areInOrder_125 rfl ?_
    refine wf_gd (fun g126 => ?_)
    refine wf_icmp_ge 195 dL_areInOrder_126 g126.1 g126.2 (fun h126 => ?_) (fun h126 => ?_)
    · refine wf_iload dL_areInOrder_195 rfl ?_
      refine wf_gd (fun g197 => ?_)
      exact wf_ireturn dL_areInOrder_197 ⟨_, rfl, nar_z g197⟩
    · refine wf_iload dL_areInOrder_129 rfl ?_
      refine wf_gd (fun g131 => ?_)
      refine wf_if_eq 195 dL_areInOrder_131 g131 (fun h131 => ?_) (fun h131 => ?_)
      · refine wf_iload dL_areInOrder_195 rfl ?_
        refine wf_gd (fun g197 => ?_)
        exact wf_ireturn dL_areInOrder_197 ⟨_, rfl, nar_z g197⟩
      · refine wf_aload_n dL_areInOrder_134 rfl ?_
        refine wf_iload dL_areInOrder_135 rfl ?_
        refine wf_iconst dL_areInOrder_137 ?_
        refine wf_rV dL_areInOrder_138 k_RL_34 b_yX6_ofPayment x_yX6_ofPayment (fun h hr => pX6_ofPayment (n := n + 4) hE hr x6 3) (fun h hr => rd_top hr) rfl (fun r138 => ?_)
        refine wf_aload_n dL_areInOrder_141 rfl ?_
        refine wf_iload dL_areInOrder_142 rfl ?_
        refine wf_iconst dL_areInOrder_144 ?_
        refine wf_isub dL_areInOrder_145 ?_
        refine wf_iconst dL_areInOrder_146 ?_
        refine wf_rV dL_areInOrder_147 k_RL_34 b_yX6_ofPayment x_yX6_ofPayment (fun h hr => pX6_ofPayment (n := n + 4) hE hr (x6 - 1) 3) (fun h hr => rd_top hr) rfl (fun r147 => ?_)
        refine wf_isub dL_areInOrder_150 ?_
        refine wf_istore dL_areInOrder_151 ?_
        refine wf_iload dL_areInOrder_153 rfl ?_
        refine wf_gd (fun g155 => ?_)
        refine wf_if_gt 182 dL_areInOrder_155 g155 (fun h155 => ?_) (fun h155 => ?_)
        · refine wf_iconst dL_areInOrder_182 ?_
          refine wf_goto 187 dL_areInOrder_183 ?_
          refine wf_istore dL_areInOrder_187 ?_
          refine wf_iinc dL_areInOrder_189 rfl ?_
          refine wf_goto 123 dL_areInOrder_192 ?_
          exact wf_at (ih x1 1 (x6 + 1) _ _) ⟨rfl, rfl, rfl, rfl, trivial⟩
        · refine wf_iload dL_areInOrder_158 rfl ?_
          refine wf_gd (fun g160 => ?_)
          refine wf_if_ne 186 dL_areInOrder_160 g160 (fun h160 => ?_) (fun h160 => ?_)
          · refine wf_iconst dL_areInOrder_186 ?_
            refine wf_istore dL_areInOrder_187 ?_
            refine wf_iinc dL_areInOrder_189 rfl ?_
            refine wf_goto 123 dL_areInOrder_192 ?_
            exact wf_at (ih x1 0 (x6 + 1) _ _) ⟨rfl, rfl, rfl, rfl, trivial⟩
          · refine wf_aload_n dL_areInOrder_163 rfl ?_
            refine wf_iload dL_areInOrder_164 rfl ?_
            refine wf_iconst dL_areInOrder_166 ?_
            refine wf_rV dL_areInOrder_167 k_RL_34 b_yX6_ofPayment x_yX6_ofPayment (fun h hr => pX6_ofPayment (n := n + 4) hE hr x6 0) (fun h hr => rd_top hr) rfl (fun r167 => ?_)
            refine wf_aload_n dL_areInOrder_170 rfl ?_
            refine wf_iload dL_areInOrder_171 rfl ?_
            refine wf_iconst dL_areInOrder_173 ?_
            refine wf_isub dL_areInOrder_174 ?_
            refine wf_iconst dL_areInOrder_175 ?_
            refine wf_rV dL_areInOrder_176 k_RL_34 b_yX6_ofPayment x_yX6_ofPayment (fun h hr => pX6_ofPayment (n := n + 4) hE hr (x6 - 1) 0) (fun h hr => rd_top hr) rfl (fun r176 => ?_)
            refine wf_gd (fun g179 => ?_)
            refine wf_icmp_lt 186 dL_areInOrder_179 g179.1 g179.2 (fun h179 => ?_) (fun h179 => ?_)
            · refine wf_iconst dL_areInOrder_186 ?_
              refine wf_istore dL_areInOrder_187 ?_
              refine wf_iinc dL_areInOrder_189 rfl ?_
              refine wf_goto 123 dL_areInOrder_192 ?_
              exact wf_at (ih x1 0 (x6 + 1) _ _) ⟨rfl, rfl, rfl, rfl, trivial⟩
            · refine wf_iconst dL_areInOrder_182 ?_
              refine wf_goto 187 dL_areInOrder_183 ?_
              refine wf_istore dL_areInOrder_187 ?_
              refine wf_iinc dL_areInOrder_189 rfl ?_
              refine wf_goto 123 dL_areInOrder_192 ?_
              exact wf_at (ih x1 1 (x6 + 1) _ _) ⟨rfl, rfl, rfl, rfl, trivial⟩
set_option maxRecDepth 100000 in
set_option maxHeartbeats 4000000 in
theorem pL_areInOrder_b12 {E : wE} {n : Nat} (hE : wGE E) {M : mR} : ∀ (fuel : Nat) (x1 : Int) (x2 : Int) (x3 : Int) (x4 : Int) (x5 : Int)  (c : cR) (ca : caT), WF E (n + 6) yL_areInOrder cL_areInOrder 8 (some .boolean) vI (fun c : cR => (c, M)) ca 12 (wLs [some (.ref (aTop E)), some (.int (iI x1)), some (.int (iI x2)), some (.int (iI x3)), some (.int (iI x4)), some (.int (iI x5))]) [] c (fL_areInOrder_b12 fuel x1 x2 x3 x4 x5 c) := by
  intro fuel
  induction fuel with
  | zero =>
    intro x1 x2 x3 x4 x5 c ca
    exact wf_none
  | succ fuel ih =>
    intro x1 x2 x3 x4 x5 c ca
    unfold fL_areInOrder_b12
    refine wf_iload dL_areInOrder_12 rfl ?_
    refine wf_aload_n dL_areInOrder_14 rfl ?_
    refine wf_iconst dL_areInOrder_15 ?_
    refine wf_rV dL_areInOrder_16 k_RL_13 b_yX6_count x_yX6_count (fun h hr => pX6_count (n := n + 2) hE hr 2) (fun h hr => rd_top hr) rfl (fun r16 => ?_)
    refine wf_gd (fun g19 => ?_)
    refine wf_icmp_ge 74 dL_areInOrder_19 g19.1 g19.2 (fun h19 => ?_) (fun h19 => ?_)
    · refine wf_iload_n dL_areInOrder_74 rfl ?_
      refine wf_aload_n dL_areInOrder_75 rfl ?_
      refine wf_iconst dL_areInOrder_76 ?_
      refine wf_rV dL_areInOrder_77 k_RL_13 b_yX6_count x_yX6_count (fun h hr => pX6_count (n := n + 2) hE hr 4) (fun h hr => rd_top hr) rfl (fun r77 => ?_)
      refine wf_icmpR_ne 117 dL_areInOrder_80 (fun h80 => ?_) (fun h80 => ?_)
      · refine wf_iconst dL_areInOrder_117 ?_
        refine wf_istore dL_areInOrder_118 ?_
        refine wf_iconst dL_areInOrder_120 ?_
        refine wf_istore dL_areInOrder_121 ?_
        exact wf_at (pL_areInOrder_b123 (n := n) hE  fuel0 x1 0 1 _ _) ⟨rfl, rfl, rfl, rfl, trivial⟩
      · refine wf_iload_n dL_areInOrder_83 rfl ?_
        refine wf_aload_n dL_areInOrder_84 rfl ?_
        refine wf_iconst dL_areInOrder_85 ?_
        refine wf_rV dL_areInOrder_86 k_RL_13 b_yX6_count x_yX6_count (fun h hr => pX6_count (n := n + 2) hE hr 5) (fun h hr => rd_top hr) rfl (fun r86 => ?_)
        refine wf_icmpR_ne 117 dL_areInOrder_89 (fun h89 => ?_) (fun h89 => ?_)
        · refine wf_iconst dL_areInOrder_117 ?_
          refine wf_istore dL_areInOrder_118 ?_
          refine wf_iconst dL_areInOrder_120 ?_
          refine wf_istore dL_areInOrder_121 ?_
          exact wf_at (pL_areInOrder_b123 (n := n) hE  fuel0 x1 0 1 _ _) ⟨rfl, rfl, rfl, rfl, trivial⟩
        · refine wf_iload_n dL_areInOrder_92 rfl ?_
          refine wf_aload_n dL_areInOrder_93 rfl ?_
          refine wf_bipush dL_areInOrder_94 ?_
          refine wf_rV dL_areInOrder_96 k_RL_13 b_yX6_count x_yX6_count (fun h hr => pX6_count (n := n + 2) hE hr 6) (fun h hr => rd_top hr) rfl (fun r96 => ?_)
          refine wf_icmpR_ne 117 dL_areInOrder_99 (fun h99 => ?_) (fun h99 => ?_)
          · refine wf_iconst dL_areInOrder_117 ?_
            refine wf_istore dL_areInOrder_118 ?_
            refine wf_iconst dL_areInOrder_120 ?_
            refine wf_istore dL_areInOrder_121 ?_
            exact wf_at (pL_areInOrder_b123 (n := n) hE  fuel0 x1 0 1 _ _) ⟨rfl, rfl, rfl, rfl, trivial⟩
          · refine wf_iload dL_areInOrder_102 rfl ?_
            refine wf_aload_n dL_areInOrder_104 rfl ?_
            refine wf_bipush dL_areInOrder_105 ?_
            refine wf_rV dL_areInOrder_107 k_RL_13 b_yX6_count x_yX6_count (fun h hr => pX6_count (n := n + 2) hE hr 7) (fun h hr => rd_top hr) rfl (fun r107 => ?_)
            refine wf_icmpR_ne 117 dL_areInOrder_110 (fun h110 => ?_) (fun h110 => ?_)
            · refine wf_iconst dL_areInOrder_117 ?_
              refine wf_istore dL_areInOrder_118 ?_
              refine wf_iconst dL_areInOrder_120 ?_
              refine wf_istore dL_areInOrder_121 ?_
              exact wf_at (pL_areInOrder_b123 (n := n) hE  fuel0 x1 0 1 _ _) ⟨rfl, rfl, rfl, rfl, trivial⟩
            · refine wf_iconst dL_areInOrder_113 ?_
              refine wf_goto 118 dL_areInOrder_114 ?_
              refine wf_istore dL_areInOrder_118 ?_
              refine wf_iconst dL_areInOrder_120 ?_
              refine wf_istore dL_areInOrder_121 ?_
              exact wf_at (pL_areInOrder_b123 (n := n) hE  fuel0 x1 1 1 _ _) ⟨rfl, rfl, rfl, rfl, trivial⟩
    · refine wf_iload_n dL_areInOrder_22 rfl ?_
      refine wf_aload_n dL_areInOrder_23 rfl ?_
      refine wf_iload dL_areInOrder_24 rfl ?_
      refine wf_bipush dL_areInOrder_26 ?_
      refine wf_cV (put := fun q => q) dL_areInOrder_28 k_RL_27 b_yX6_ofOrder x_yX6_ofOrder (pX6_ofOrder (n := n) hE x5 14 _ _) rfl (fun _ => rfl) (fun h hr => rd_top hr) rfl (fun r28 c28 ca => ?_)
      refine wf_iadd dL_areInOrder_31 ?_
      refine wf_istore_n dL_areInOrder_32 ?_
      refine wf_iload_n dL_areInOrder_33 rfl ?_
      refine wf_aload_n dL_areInOrder_34 rfl ?_
      refine wf_iload dL_areInOrder_35 rfl ?_
      refine wf_bipush dL_areInOrder_37 ?_
      refine wf_cV (put := fun q => q) dL_areInOrder_39 k_RL_27 b_yX6_ofOrder x_yX6_ofOrder (pX6_ofOrder (n := n) hE x5 11 _ _) rfl (fun _ => rfl) (fun h hr => rd_top hr) rfl (fun r39 c39 ca => ?_)
      refine wf_iadd dL_areInOrder_42 ?_
      refine wf_istore_n dL_areInOrder_43 ?_
      refine wf_iload_n dL_areInOrder_44 rfl ?_
      refine wf_aload_n dL_areInOrder_45 rfl ?_
      refine wf_iload dL_areInOrder_46 rfl ?_
      refine wf_bipush dL_areInOrder_48 ?_
      refine wf_cV (put := fun q => q) dL_areInOrder_50 k_RL_27 b_yX6_ofOrder x_yX6_ofOrder (pX6_ofOrder (n := n) hE x5 12 _ _) rfl (fun _ => rfl) (fun h hr => rd_top hr) rfl (fun r50 c50 ca => ?_)
      refine wf_iadd dL_areInOrder_53 ?_
      refine wf_istore_n dL_areInOrder_54 ?_
      refine wf_iload dL_areInOrder_55 rfl ?_
      refine wf_aload_n dL_areInOrder_57 rfl ?_
      refine wf_iload dL_areInOrder_58 rfl ?_
      refine wf_bipush dL_areInOrder_60 ?_
      refine wf_cV (put := fun q => q) dL_areInOrder_62 k_RL_27 b_yX6_ofOrder x_yX6_ofOrder (pX6_ofOrder (n := n) hE x5 13 _ _) rfl (fun _ => rfl) (fun h hr => rd_top hr) rfl (fun r62 c62 ca => ?_)
      refine wf_iadd dL_areInOrder_65 ?_
      refine wf_istore dL_areInOrder_66 ?_
      refine wf_iinc dL_areInOrder_68 rfl ?_
      refine wf_goto 12 dL_areInOrder_71 ?_
      exact wf_at (ih (x1 + r28) (x2 + r39) (x3 + r50) (x4 + r62) (x5 + 1) _ _) ⟨rfl, rfl, rfl, rfl, rfl, rfl, trivial⟩
set_option maxRecDepth 100000 in
set_option maxHeartbeats 4000000 in
theorem pL_areInOrder {E : wE} {n : Nat} (hE : wGE E) {M : mR}   (c : cR) (ca : caT) : WF E (n + 6) yL_areInOrder cL_areInOrder 8 (some .boolean) vI (fun c : cR => (c, M)) ca 0 (wArgs [.ref (aTop E)]) [] c (fL_areInOrder  c) := by
  unfold fL_areInOrder
  refine wf_iconst dL_areInOrder_0 ?_
  refine wf_istore_n dL_areInOrder_1 ?_
  refine wf_iconst dL_areInOrder_2 ?_
  refine wf_istore_n dL_areInOrder_3 ?_
  refine wf_iconst dL_areInOrder_4 ?_
  refine wf_istore_n dL_areInOrder_5 ?_
  refine wf_iconst dL_areInOrder_6 ?_
  refine wf_istore dL_areInOrder_7 ?_
  refine wf_iconst dL_areInOrder_9 ?_
  refine wf_istore dL_areInOrder_10 ?_
  exact wf_at (pL_areInOrder_b12 (n := n) hE  fuel0 0 0 0 0 0 _ _) ⟨rfl, rfl, rfl, rfl, rfl, rfl, trivial⟩
set_option maxRecDepth 100000 in
set_option maxHeartbeats 4000000 in
theorem pL_up {E : wE} {n : Nat} (hE : wGE E) {h : hW} (x0 : Int) (x1 : Int)  : WR E n yL_up cL_up 2 (some .int) vI h 0 (wArgs [.int (iI x0), .int (iI x1)]) [] (fL_up x0 x1) := by
  unfold fL_up
  refine wr_iload_n dL_up_0 rfl ?_
  refine wr_ldc dL_up_1 c_RL_8 ?_
  refine wr_iand dL_up_3 ?_
  refine wr_iload_n dL_up_4 rfl ?_
  refine wr_gd (fun g5 => ?_)
  refine wr_irem dL_up_5 g5.1 g5.2 ?_
  exact wr_ireturn dL_up_6 ⟨_, rfl, rfl⟩
set_option maxRecDepth 100000 in
set_option maxHeartbeats 4000000 in
theorem pL_view_b188 {E : wE} {n : Nat} (hE : wGE E) {M : mR} {rec170 : Int → Int → cR → Option (Int × cR)} (hrec170 : ∀ (x1 : Int) (x3 : Int)  (c : cR) (ca : caT), WF E (n + 6) yL_view cL_view 5 (some .long) vJ (fun c : cR => (c, M)) ca 170 (wLs [some (.ref (aTop E)), some (.long (jL x1)), none, some (.int (iI x3))]) [] c (rec170 x1 x3 c)) : ∀ (fuel : Nat) (x1 : Int) (x3 : Int) (x4 : Int)  (c : cR) (ca : caT), WF E (n + 6) yL_view cL_view 5 (some .long) vJ (fun c : cR => (c, M)) ca 188 (wLs [some (.ref (aTop E)), some (.long (jL x1)), none, some (.int (iI x3)), some (.int (iI x4))]) [] c (fL_view_b188 rec170 fuel x1 x3 x4 c) := by
  intro fuel
  induction fuel with
  | zero =>
    intro x1 x3 x4 c ca
    exact wf_none
  | succ fuel ih =>
    intro x1 x3 x4 c ca
    unfold fL_view_b188
    refine wf_iload dL_view_188 rfl ?_
    refine wf_iconst dL_view_190 ?_
    refine wf_gd (fun g191 => ?_)
    refine wf_icmp_ge 215 dL_view_191 g191 (by decide) (fun h191 => ?_) (fun h191 => ?_)
    · refine wf_iinc dL_view_215 rfl ?_
      refine wf_goto 170 dL_view_218 ?_
      exact wf_at (hrec170 x1 (x3 + 1) _ _) ⟨rfl, rfl, rfl, trivial⟩
    · refine wf_ldc2 dL_view_194 c_RL_11 ?_
      refine wf_lload_n dL_view_197 rfl ?_
      refine wf_lmul dL_view_198 ?_
      refine wf_aload_n dL_view_199 rfl ?_
      refine wf_iload_n dL_view_200 rfl ?_
      refine wf_iload dL_view_201 rfl ?_
      refine wf_rV dL_view_203 k_RL_34 b_yX6_ofPayment x_yX6_ofPayment (fun h hr => pX6_ofPayment (n := n + 4) hE hr x3 x4) (fun h hr => rd_top hr) rfl (fun r203 => ?_)
      refine wf_gd (fun g206 => ?_)
      refine wf_i2l dL_view_206 g206 ?_
      refine wf_ladd dL_view_207 ?_
      refine wf_lstore_n dL_view_208 ?_
      refine wf_iinc dL_view_209 rfl ?_
      refine wf_goto 188 dL_view_212 ?_
      exact wf_at (ih ((31 * x1) + r203) x3 (x4 + 1) _ _) ⟨rfl, rfl, rfl, rfl, trivial⟩
set_option maxRecDepth 100000 in
set_option maxHeartbeats 4000000 in
theorem pL_view_b170 {E : wE} {n : Nat} (hE : wGE E) {M : mR} : ∀ (fuel : Nat) (x1 : Int) (x3 : Int)  (c : cR) (ca : caT), WF E (n + 6) yL_view cL_view 5 (some .long) vJ (fun c : cR => (c, M)) ca 170 (wLs [some (.ref (aTop E)), some (.long (jL x1)), none, some (.int (iI x3))]) [] c (fL_view_b170 fuel x1 x3 c) := by
  intro fuel
  induction fuel with
  | zero =>
    intro x1 x3 c ca
    exact wf_none
  | succ fuel ih =>
    intro x1 x3 c ca
    unfold fL_view_b170
    refine wf_iload_n dL_view_170 rfl ?_
    refine wf_aload_n dL_view_171 rfl ?_
    refine wf_iconst dL_view_172 ?_
    refine wf_rV dL_view_173 k_RL_13 b_yX6_count x_yX6_count (fun h hr => pX6_count (n := n + 2) hE hr 4) (fun h hr => rd_top hr) rfl (fun r173 => ?_)
    refine wf_gd (fun g176 => ?_)
    refine wf_icmp_ge 221 dL_view_176 g176.1 g176.2 (fun h176 => ?_) (fun h176 => ?_)
    · refine wf_lload_n dL_view_221 rfl ?_
      refine wf_w64 ?_
      exact wf_lreturn dL_view_222 rfl
    · refine wf_iload_n dL_view_179 rfl ?_
      refine wf_bipush dL_view_180 ?_
      refine wf_gd (fun g182 => ?_)
      refine wf_icmp_ge 221 dL_view_182 g182 (by decide) (fun h182 => ?_) (fun h182 => ?_)
      · refine wf_lload_n dL_view_221 rfl ?_
        refine wf_w64 ?_
        exact wf_lreturn dL_view_222 rfl
      · refine wf_iconst dL_view_185 ?_
        refine wf_istore dL_view_186 ?_
        exact wf_at (pL_view_b188 (n := n) hE ih fuel0 x1 x3 0 _ _) ⟨rfl, rfl, rfl, rfl, trivial⟩
set_option maxRecDepth 100000 in
set_option maxHeartbeats 4000000 in
theorem pL_view_b120 {E : wE} {n : Nat} (hE : wGE E) {M : mR} {rec108 : Int → Int → cR → Option (Int × cR)} (hrec108 : ∀ (x1 : Int) (x3 : Int)  (c : cR) (ca : caT), WF E (n + 6) yL_view cL_view 5 (some .long) vJ (fun c : cR => (c, M)) ca 108 (wLs [some (.ref (aTop E)), some (.long (jL x1)), none, some (.int (iI x3))]) [] c (rec108 x1 x3 c)) : ∀ (fuel : Nat) (x1 : Int) (x3 : Int) (x4 : Int)  (c : cR) (ca : caT), WF E (n + 6) yL_view cL_view 5 (some .long) vJ (fun c : cR => (c, M)) ca 120 (wLs [some (.ref (aTop E)), some (.long (jL x1)), none, some (.int (iI x3)), some (.int (iI x4))]) [] c (fL_view_b120 rec108 fuel x1 x3 x4 c) := by
  intro fuel
  induction fuel with
  | zero =>
    intro x1 x3 x4 c ca
    exact wf_none
  | succ fuel ih =>
    intro x1 x3 x4 c ca
    unfold fL_view_b120
    refine wf_iload dL_view_120 rfl ?_
    refine wf_bipush dL_view_122 ?_
    refine wf_gd (fun g124 => ?_)
    refine wf_icmp_ge 148 dL_view_124 g124 (by decide) (fun h124 => ?_) (fun h124 => ?_)
    · refine wf_ldc2 dL_view_148 c_RL_11 ?_
      refine wf_lload_n dL_view_151 rfl ?_
      refine wf_lmul dL_view_152 ?_
      refine wf_aload_n dL_view_153 rfl ?_
      refine wf_iload_n dL_view_154 rfl ?_
      refine wf_iconst dL_view_155 ?_
      refine wf_cV (put := fun q => q) dL_view_156 k_RL_31 b_yX6_dateOf x_yX6_dateOf (pX6_dateOf (n := n) hE x3 1 _ _) rfl (fun _ => rfl) (fun h hr => rd_top hr) rfl (fun r156 c156 ca => ?_)
      refine wf_gd (fun g159 => ?_)
      refine wf_i2l dL_view_159 g159 ?_
      refine wf_ladd dL_view_160 ?_
      refine wf_lstore_n dL_view_161 ?_
      refine wf_iinc dL_view_162 rfl ?_
      refine wf_goto 108 dL_view_165 ?_
      exact wf_at (hrec108 ((31 * x1) + r156) (x3 + 1) _ _) ⟨rfl, rfl, rfl, trivial⟩
    · refine wf_ldc2 dL_view_127 c_RL_11 ?_
      refine wf_lload_n dL_view_130 rfl ?_
      refine wf_lmul dL_view_131 ?_
      refine wf_aload_n dL_view_132 rfl ?_
      refine wf_iload_n dL_view_133 rfl ?_
      refine wf_iload dL_view_134 rfl ?_
      refine wf_cV (put := fun q => q) dL_view_136 k_RL_27 b_yX6_ofOrder x_yX6_ofOrder (pX6_ofOrder (n := n) hE x3 x4 _ _) rfl (fun _ => rfl) (fun h hr => rd_top hr) rfl (fun r136 c136 ca => ?_)
      refine wf_gd (fun g139 => ?_)
      refine wf_i2l dL_view_139 g139 ?_
      refine wf_ladd dL_view_140 ?_
      refine wf_lstore_n dL_view_141 ?_
      refine wf_iinc dL_view_142 rfl ?_
      refine wf_goto 120 dL_view_145 ?_
      exact wf_at (ih ((31 * x1) + r136) x3 (x4 + 1) _ _) ⟨rfl, rfl, rfl, rfl, trivial⟩
set_option maxRecDepth 100000 in
set_option maxHeartbeats 4000000 in
theorem pL_view_b108 {E : wE} {n : Nat} (hE : wGE E) {M : mR} : ∀ (fuel : Nat) (x1 : Int) (x3 : Int)  (c : cR) (ca : caT), WF E (n + 6) yL_view cL_view 5 (some .long) vJ (fun c : cR => (c, M)) ca 108 (wLs [some (.ref (aTop E)), some (.long (jL x1)), none, some (.int (iI x3))]) [] c (fL_view_b108 fuel x1 x3 c) := by
  intro fuel
  induction fuel with
  | zero =>
    intro x1 x3 c ca
    exact wf_none
  | succ fuel ih =>
    intro x1 x3 c ca
    unfold fL_view_b108
    refine wf_iload_n dL_view_108 rfl ?_
    refine wf_aload_n dL_view_109 rfl ?_
    refine wf_iconst dL_view_110 ?_
    refine wf_rV dL_view_111 k_RL_13 b_yX6_count x_yX6_count (fun h hr => pX6_count (n := n + 2) hE hr 2) (fun h hr => rd_top hr) rfl (fun r111 => ?_)
    refine wf_gd (fun g114 => ?_)
    refine wf_icmp_ge 168 dL_view_114 g114.1 g114.2 (fun h114 => ?_) (fun h114 => ?_)
    · refine wf_iconst dL_view_168 ?_
      refine wf_istore_n dL_view_169 ?_
      exact wf_at (pL_view_b170 (n := n) hE  fuel0 x1 0 _ _) ⟨rfl, rfl, rfl, trivial⟩
    · refine wf_iconst dL_view_117 ?_
      refine wf_istore dL_view_118 ?_
      exact wf_at (pL_view_b120 (n := n) hE ih fuel0 x1 x3 0 _ _) ⟨rfl, rfl, rfl, rfl, trivial⟩
set_option maxRecDepth 100000 in
set_option maxHeartbeats 4000000 in
theorem pL_view_b61 {E : wE} {n : Nat} (hE : wGE E) {M : mR} {rec49 : Int → Int → cR → Option (Int × cR)} (hrec49 : ∀ (x1 : Int) (x3 : Int)  (c : cR) (ca : caT), WF E (n + 6) yL_view cL_view 5 (some .long) vJ (fun c : cR => (c, M)) ca 49 (wLs [some (.ref (aTop E)), some (.long (jL x1)), none, some (.int (iI x3))]) [] c (rec49 x1 x3 c)) : ∀ (fuel : Nat) (x1 : Int) (x3 : Int) (x4 : Int)  (c : cR) (ca : caT), WF E (n + 6) yL_view cL_view 5 (some .long) vJ (fun c : cR => (c, M)) ca 61 (wLs [some (.ref (aTop E)), some (.long (jL x1)), none, some (.int (iI x3)), some (.int (iI x4))]) [] c (fL_view_b61 rec49 fuel x1 x3 x4 c) := by
  intro fuel
  induction fuel with
  | zero =>
    intro x1 x3 x4 c ca
    exact wf_none
  | succ fuel ih =>
    intro x1 x3 x4 c ca
    unfold fL_view_b61
    refine wf_iload dL_view_61 rfl ?_
    refine wf_bipush dL_view_63 ?_
    refine wf_gd (fun g65 => ?_)
    refine wf_icmp_ge 88 dL_view_65 g65 (by decide) (fun h65 => ?_) (fun h65 => ?_)
    · refine wf_ldc2 dL_view_88 c_RL_11 ?_
      refine wf_lload_n dL_view_91 rfl ?_
      refine wf_lmul dL_view_92 ?_
      refine wf_aload_n dL_view_93 rfl ?_
      refine wf_iload_n dL_view_94 rfl ?_
      refine wf_rV dL_view_95 k_RL_23 b_yX6_owedBits x_yX6_owedBits (fun h hr => pX6_owedBits (n := n + 4) hE hr x3) (fun h hr => rd_top hr) rfl (fun r95 => ?_)
      refine wf_ladd dL_view_98 ?_
      refine wf_lstore_n dL_view_99 ?_
      refine wf_iinc dL_view_100 rfl ?_
      refine wf_goto 49 dL_view_103 ?_
      exact wf_at (hrec49 ((31 * x1) + r95) (x3 + 1) _ _) ⟨rfl, rfl, rfl, trivial⟩
    · refine wf_ldc2 dL_view_68 c_RL_11 ?_
      refine wf_lload_n dL_view_71 rfl ?_
      refine wf_lmul dL_view_72 ?_
      refine wf_aload_n dL_view_73 rfl ?_
      refine wf_iload_n dL_view_74 rfl ?_
      refine wf_iload dL_view_75 rfl ?_
      refine wf_rV dL_view_77 k_RL_19 b_yX6_money x_yX6_money (fun h hr => pX6_money (n := n + 4) hE hr x3 x4) (fun h hr => rd_top hr) rfl (fun r77 => ?_)
      refine wf_ladd dL_view_80 ?_
      refine wf_lstore_n dL_view_81 ?_
      refine wf_iinc dL_view_82 rfl ?_
      refine wf_goto 61 dL_view_85 ?_
      exact wf_at (ih ((31 * x1) + r77) x3 (x4 + 1) _ _) ⟨rfl, rfl, rfl, rfl, trivial⟩
set_option maxRecDepth 100000 in
set_option maxHeartbeats 4000000 in
theorem pL_view_b49 {E : wE} {n : Nat} (hE : wGE E) {M : mR} : ∀ (fuel : Nat) (x1 : Int) (x3 : Int)  (c : cR) (ca : caT), WF E (n + 6) yL_view cL_view 5 (some .long) vJ (fun c : cR => (c, M)) ca 49 (wLs [some (.ref (aTop E)), some (.long (jL x1)), none, some (.int (iI x3))]) [] c (fL_view_b49 fuel x1 x3 c) := by
  intro fuel
  induction fuel with
  | zero =>
    intro x1 x3 c ca
    exact wf_none
  | succ fuel ih =>
    intro x1 x3 c ca
    unfold fL_view_b49
    refine wf_iload_n dL_view_49 rfl ?_
    refine wf_aload_n dL_view_50 rfl ?_
    refine wf_iconst dL_view_51 ?_
    refine wf_rV dL_view_52 k_RL_13 b_yX6_count x_yX6_count (fun h hr => pX6_count (n := n + 2) hE hr 1) (fun h hr => rd_top hr) rfl (fun r52 => ?_)
    refine wf_gd (fun g55 => ?_)
    refine wf_icmp_ge 106 dL_view_55 g55.1 g55.2 (fun h55 => ?_) (fun h55 => ?_)
    · refine wf_iconst dL_view_106 ?_
      refine wf_istore_n dL_view_107 ?_
      exact wf_at (pL_view_b108 (n := n) hE  fuel0 x1 0 _ _) ⟨rfl, rfl, rfl, trivial⟩
    · refine wf_iconst dL_view_58 ?_
      refine wf_istore dL_view_59 ?_
      exact wf_at (pL_view_b61 (n := n) hE ih fuel0 x1 x3 0 _ _) ⟨rfl, rfl, rfl, rfl, trivial⟩
set_option maxRecDepth 100000 in
set_option maxHeartbeats 4000000 in
theorem pL_view_b6 {E : wE} {n : Nat} (hE : wGE E) {M : mR} : ∀ (fuel : Nat) (x1 : Int) (x3 : Int)  (c : cR) (ca : caT), WF E (n + 6) yL_view cL_view 5 (some .long) vJ (fun c : cR => (c, M)) ca 6 (wLs [some (.ref (aTop E)), some (.long (jL x1)), none, some (.int (iI x3))]) [] c (fL_view_b6 fuel x1 x3 c) := by
  intro fuel
  induction fuel with
  | zero =>
    intro x1 x3 c ca
    exact wf_none
  | succ fuel ih =>
    intro x1 x3 c ca
    unfold fL_view_b6
    refine wf_iload_n dL_view_6 rfl ?_
    refine wf_bipush dL_view_7 ?_
    refine wf_gd (fun g9 => ?_)
    refine wf_icmp_ge 47 dL_view_9 g9 (by decide) (fun h9 => ?_) (fun h9 => ?_)
    · refine wf_iconst dL_view_47 ?_
      refine wf_istore_n dL_view_48 ?_
      exact wf_at (pL_view_b49 (n := n) hE  fuel0 x1 0 _ _) ⟨rfl, rfl, rfl, trivial⟩
    · refine wf_iload_n dL_view_12 rfl ?_
      refine wf_bipush dL_view_13 ?_
      refine wf_gd (fun g15 => ?_)
      refine wf_icmp_eq 24 dL_view_15 g15 (by decide) (fun h15 => ?_) (fun h15 => ?_)
      · refine wf_lload_n dL_view_24 rfl ?_
        refine wf_goto 40 dL_view_25 ?_
        refine wf_lstore_n dL_view_40 ?_
        refine wf_iinc dL_view_41 rfl ?_
        refine wf_goto 6 dL_view_44 ?_
        exact wf_at (ih x1 (x3 + 1) _ _) ⟨rfl, rfl, rfl, trivial⟩
      · refine wf_iload_n dL_view_18 rfl ?_
        refine wf_bipush dL_view_19 ?_
        refine wf_gd (fun g21 => ?_)
        refine wf_icmp_ne 28 dL_view_21 g21 (by decide) (fun h21 => ?_) (fun h21 => ?_)
        · refine wf_ldc2 dL_view_28 c_RL_11 ?_
          refine wf_lload_n dL_view_31 rfl ?_
          refine wf_lmul dL_view_32 ?_
          refine wf_aload_n dL_view_33 rfl ?_
          refine wf_iload_n dL_view_34 rfl ?_
          refine wf_rV dL_view_35 k_RL_13 b_yX6_count x_yX6_count (fun h hr => pX6_count (n := n + 2) hE hr x3) (fun h hr => rd_top hr) rfl (fun r35 => ?_)
          refine wf_gd (fun g38 => ?_)
          refine wf_i2l dL_view_38 g38 ?_
          refine wf_ladd dL_view_39 ?_
          refine wf_lstore_n dL_view_40 ?_
          refine wf_iinc dL_view_41 rfl ?_
          refine wf_goto 6 dL_view_44 ?_
          exact wf_at (ih ((31 * x1) + r35) (x3 + 1) _ _) ⟨rfl, rfl, rfl, trivial⟩
        · refine wf_lload_n dL_view_24 rfl ?_
          refine wf_goto 40 dL_view_25 ?_
          refine wf_lstore_n dL_view_40 ?_
          refine wf_iinc dL_view_41 rfl ?_
          refine wf_goto 6 dL_view_44 ?_
          exact wf_at (ih x1 (x3 + 1) _ _) ⟨rfl, rfl, rfl, trivial⟩
set_option maxRecDepth 100000 in
set_option maxHeartbeats 4000000 in
theorem pL_view {E : wE} {n : Nat} (hE : wGE E) {M : mR}   (c : cR) (ca : caT) : WF E (n + 6) yL_view cL_view 5 (some .long) vJ (fun c : cR => (c, M)) ca 0 (wArgs [.ref (aTop E)]) [] c (fL_view  c) := by
  unfold fL_view
  refine wf_ldc2 dL_view_0 c_RL_9 ?_
  refine wf_lstore_n dL_view_3 ?_
  refine wf_iconst dL_view_4 ?_
  refine wf_istore_n dL_view_5 ?_
  exact wf_at (pL_view_b6 (n := n) hE  fuel0 7 0 _ _) ⟨rfl, rfl, rfl, trivial⟩
set_option maxRecDepth 100000 in
set_option maxHeartbeats 4000000 in
theorem pL_asks {E : wE} {n : Nat} (hE : wGE E) {M : mR} (x1 : Int) (x2 : Int)  (c : cR) (ca : caT) : WF E (n + 9) yL_asks cL_asks 6 (some .boolean) vI (fun c : cR => (c, M)) ca 0 (wArgs [.ref (aTop E), .int (iI x1), .int (iI x2)]) [] c (fL_asks x1 x2 c) := by
  unfold fL_asks
  refine wf_aload_n dL_asks_0 rfl ?_
  refine wf_cS (put := fun q => q) dL_asks_1 k_RL_90 b_yL_view x_yL_view (pL_view (n := n + 2) hE _ _) rfl (fun _ => rfl) (fun r1 c1 ca => ?_)
  refine wf_lstore_n dL_asks_4 ?_
  refine wf_aload_n dL_asks_5 rfl ?_
  refine wf_bipush dL_asks_6 ?_
  refine wf_rV dL_asks_8 k_RL_13 b_yX6_count x_yX6_count (fun h hr => pX6_count (n := n + 5) hE hr 10) (fun h hr => rd_top hr) rfl (fun r8 => ?_)
  refine wf_istore dL_asks_11 ?_
  refine wf_aload_n dL_asks_13 rfl ?_
  refine wf_iload_n dL_asks_14 rfl ?_
  refine wf_iconst dL_asks_15 ?_
  refine wf_rS dL_asks_16 k_RL_37 b_yL_up x_yL_up (fun h hr => pL_up (n := n + 8) hE x1 4) (fun r16 => ?_)
  refine wf_iconst dL_asks_19 ?_
  refine wf_iload_n dL_asks_20 rfl ?_
  refine wf_bipush dL_asks_21 ?_
  refine wf_rS dL_asks_23 k_RL_37 b_yL_up x_yL_up (fun h hr => pL_up (n := n + 8) hE x2 30) (fun r23 => ?_)
  refine wf_iadd dL_asks_26 ?_
  refine wf_cV (put := fun q => q) dL_asks_27 k_RL_104 b_yX6_balanceIn x_yX6_balanceIn (pX6_balanceIn (n := n) hE r16 (1 + r23) _ _) rfl (fun _ => rfl) (fun h hr => rd_top hr) rfl (fun r27 c27 ca => ?_)
  refine wf_pop2L dL_asks_30 ?_
  refine wf_aload_n dL_asks_31 rfl ?_
  refine wf_iload_n dL_asks_32 rfl ?_
  refine wf_iconst dL_asks_33 ?_
  refine wf_rS dL_asks_34 k_RL_37 b_yL_up x_yL_up (fun h hr => pL_up (n := n + 8) hE x1 4) (fun r34 => ?_)
  refine wf_iconst dL_asks_37 ?_
  refine wf_iload_n dL_asks_38 rfl ?_
  refine wf_bipush dL_asks_39 ?_
  refine wf_rS dL_asks_41 k_RL_37 b_yL_up x_yL_up (fun h hr => pL_up (n := n + 8) hE x2 30) (fun r41 => ?_)
  refine wf_iadd dL_asks_44 ?_
  refine wf_iload_n dL_asks_45 rfl ?_
  refine wf_iconst dL_asks_46 ?_
  refine wf_iand dL_asks_47 ?_
  refine wf_cV (put := fun q => q) dL_asks_48 k_RL_107 b_yX6_ahead x_yX6_ahead (pX6_ahead (n := n) hE r34 (1 + r41) (andI x2 3) _ _) rfl (fun _ => rfl) (fun h hr => rd_top hr) rfl (fun r48 c48 ca => ?_)
  refine wf_pop dL_asks_51 ?_
  refine wf_aload_n dL_asks_52 rfl ?_
  refine wf_iload_n dL_asks_53 rfl ?_
  refine wf_iconst dL_asks_54 ?_
  refine wf_rS dL_asks_55 k_RL_37 b_yL_up x_yL_up (fun h hr => pL_up (n := n + 8) hE x1 4) (fun r55 => ?_)
  refine wf_iconst dL_asks_58 ?_
  refine wf_iload_n dL_asks_59 rfl ?_
  refine wf_iconst dL_asks_60 ?_
  refine wf_rS dL_asks_61 k_RL_37 b_yL_up x_yL_up (fun h hr => pL_up (n := n + 8) hE x2 5) (fun r61 => ?_)
  refine wf_iadd dL_asks_64 ?_
  refine wf_cV (put := fun q => q) dL_asks_65 k_RL_110 b_yX6_leastDeposit x_yX6_leastDeposit (pX6_leastDeposit (n := n) hE r55 (1 + r61) _ _) rfl (fun _ => rfl) (fun h hr => rd_top hr) rfl (fun r65 c65 ca => ?_)
  refine wf_pop dL_asks_68 ?_
  refine wf_aload_n dL_asks_69 rfl ?_
  refine wf_cS (put := fun q => q) dL_asks_70 k_RL_90 b_yL_view x_yL_view (pL_view (n := n + 2) hE _ _) rfl (fun _ => rfl) (fun r70 c70 ca => ?_)
  refine wf_lload_n dL_asks_73 rfl ?_
  refine wf_jcmpR_ne 93 dL_asks_74 dL_asks_75 (fun h74 => ?_) (fun h74 => ?_)
  · refine wf_iconst dL_asks_93 ?_
    exact wf_ireturn dL_asks_94 ⟨_, rfl, rfl⟩
  · refine wf_aload_n dL_asks_78 rfl ?_
    refine wf_bipush dL_asks_79 ?_
    refine wf_rV dL_asks_81 k_RL_13 b_yX6_count x_yX6_count (fun h hr => pX6_count (n := n + 5) hE hr 10) (fun h hr => rd_top hr) rfl (fun r81 => ?_)
    refine wf_iload dL_asks_84 rfl ?_
    refine wf_gd (fun g86 => ?_)
    refine wf_icmp_ne 93 dL_asks_86 g86.1 g86.2 (fun h86 => ?_) (fun h86 => ?_)
    · refine wf_iconst dL_asks_93 ?_
      exact wf_ireturn dL_asks_94 ⟨_, rfl, rfl⟩
    · refine wf_iconst dL_asks_89 ?_
      refine wf_goto 94 dL_asks_90 ?_
      exact wf_ireturn dL_asks_94 ⟨_, rfl, rfl⟩
set_option maxRecDepth 100000 in
set_option maxHeartbeats 4000000 in
theorem pL_cell {E : wE} {n : Nat} (hE : wGE E) {a0 : Nat} {ln : Nat} {xs : Int → Int} (hro : wro E a0 = some (.int, ln, fun j : Nat => .int (iI (xs j)))) (hln : ln ≤ 260) {h : hW} (x1 : Int)  : WR E n yL_cell cL_cell 2 (some .int) vI h 0 (wArgs [.ref a0, .int (iI x1)]) [] (fL_cell ln xs x1) := by
  unfold fL_cell
  refine wr_iload_n dL_cell_0 rfl ?_
  refine wr_aload_n dL_cell_1 rfl ?_
  refine wr_rolen dL_cell_2 hro ?_
  refine wr_gd (fun g3 => ?_)
  refine wr_icmp_ge 12 dL_cell_3 g3.1 g3.2 (fun h3 => ?_) (fun h3 => ?_)
  · refine wr_ldc dL_cell_12 c_RL_7 ?_
    refine wr_iload_n dL_cell_14 rfl ?_
    refine wr_iconst dL_cell_15 ?_
    refine wr_iadd dL_cell_16 ?_
    refine wr_imul dL_cell_17 ?_
    exact wr_ireturn dL_cell_18 ⟨_, rfl, rfl⟩
  · refine wr_aload_n dL_cell_6 rfl ?_
    refine wr_iload_n dL_cell_7 rfl ?_
    refine wr_gd (fun g8 => ?_)
    refine wr_ro dL_cell_8 hro g8 ?_ (by omega)
    refine wr_goto 18 dL_cell_9 ?_
    exact wr_ireturn dL_cell_18 ⟨_, rfl, rfl⟩
set_option maxRecDepth 100000 in
set_option maxHeartbeats 4000000 in
theorem pL_isBalanced_b4 {E : wE} {n : Nat} (hE : wGE E) {M : mR} {c : cR} {ca : caT} {h : hW} (hr : rep E (c, M) ca h) : ∀ (fuel : Nat) (x1 : Int) (x2 : Int) , WR E (n + 4) yL_isBalanced cL_isBalanced 7 (some .boolean) vI h 4 (wLs [some (.ref (aTop E)), some (.int (iI x1)), some (.int (iI x2))]) [] (fL_isBalanced_b4 c fuel x1 x2) := by
  intro fuel
  induction fuel with
  | zero =>
    intro x1 x2
    exact wr_none
  | succ fuel ih =>
    intro x1 x2
    unfold fL_isBalanced_b4
    refine wr_iload_n dL_isBalanced_4 rfl ?_
    refine wr_aload_n dL_isBalanced_5 rfl ?_
    refine wr_iconst dL_isBalanced_6 ?_
    refine wr_cV dL_isBalanced_7 k_RL_13 b_yX6_count x_yX6_count (pX6_count (n := n) hE hr 1) (rd_top hr) rfl (fun r7 => ?_)
    refine wr_gd (fun g10 => ?_)
    refine wr_icmp_ge 95 dL_isBalanced_10 g10.1 g10.2 (fun h10 => ?_) (fun h10 => ?_)
    · refine wr_iload_n dL_isBalanced_95 rfl ?_
      refine wr_gd (fun g96 => ?_)
      exact wr_ireturn dL_isBalanced_96 ⟨_, rfl, nar_z g96⟩
    · refine wr_iload_n dL_isBalanced_13 rfl ?_
      refine wr_gd (fun g14 => ?_)
      refine wr_if_eq 95 dL_isBalanced_14 g14 (fun h14 => ?_) (fun h14 => ?_)
      · refine wr_iload_n dL_isBalanced_95 rfl ?_
        refine wr_gd (fun g96 => ?_)
        exact wr_ireturn dL_isBalanced_96 ⟨_, rfl, nar_z g96⟩
      · refine wr_aload_n dL_isBalanced_17 rfl ?_
        refine wr_iload_n dL_isBalanced_18 rfl ?_
        refine wr_iconst dL_isBalanced_19 ?_
        refine wr_cV dL_isBalanced_20 k_RL_19 b_yX6_money x_yX6_money (pX6_money (n := n + 2) hE hr x2 1) (rd_top hr) rfl (fun r20 => ?_)
        refine wr_aload_n dL_isBalanced_23 rfl ?_
        refine wr_iload_n dL_isBalanced_24 rfl ?_
        refine wr_iconst dL_isBalanced_25 ?_
        refine wr_cV dL_isBalanced_26 k_RL_19 b_yX6_money x_yX6_money (pX6_money (n := n + 2) hE hr x2 3) (rd_top hr) rfl (fun r26 => ?_)
        refine wr_ladd dL_isBalanced_29 ?_
        refine wr_aload_n dL_isBalanced_30 rfl ?_
        refine wr_iload_n dL_isBalanced_31 rfl ?_
        refine wr_iconst dL_isBalanced_32 ?_
        refine wr_cV dL_isBalanced_33 k_RL_19 b_yX6_money x_yX6_money (pX6_money (n := n + 2) hE hr x2 4) (rd_top hr) rfl (fun r33 => ?_)
        refine wr_ladd dL_isBalanced_36 ?_
        refine wr_lstore_n dL_isBalanced_37 ?_
        refine wr_aload_n dL_isBalanced_38 rfl ?_
        refine wr_iload_n dL_isBalanced_39 rfl ?_
        refine wr_iconst dL_isBalanced_40 ?_
        refine wr_cV dL_isBalanced_41 k_RL_19 b_yX6_money x_yX6_money (pX6_money (n := n + 2) hE hr x2 2) (rd_top hr) rfl (fun r41 => ?_)
        refine wr_aload_n dL_isBalanced_44 rfl ?_
        refine wr_iload_n dL_isBalanced_45 rfl ?_
        refine wr_iconst dL_isBalanced_46 ?_
        refine wr_cV dL_isBalanced_47 k_RL_19 b_yX6_money x_yX6_money (pX6_money (n := n + 2) hE hr x2 5) (rd_top hr) rfl (fun r47 => ?_)
        refine wr_ladd dL_isBalanced_50 ?_
        refine wr_aload_n dL_isBalanced_51 rfl ?_
        refine wr_iload_n dL_isBalanced_52 rfl ?_
        refine wr_bipush dL_isBalanced_53 ?_
        refine wr_cV dL_isBalanced_55 k_RL_19 b_yX6_money x_yX6_money (pX6_money (n := n + 2) hE hr x2 6) (rd_top hr) rfl (fun r55 => ?_)
        refine wr_ladd dL_isBalanced_58 ?_
        refine wr_aload_n dL_isBalanced_59 rfl ?_
        refine wr_iload_n dL_isBalanced_60 rfl ?_
        refine wr_bipush dL_isBalanced_61 ?_
        refine wr_cV dL_isBalanced_63 k_RL_19 b_yX6_money x_yX6_money (pX6_money (n := n + 2) hE hr x2 7) (rd_top hr) rfl (fun r63 => ?_)
        refine wr_ladd dL_isBalanced_66 ?_
        refine wr_lstore dL_isBalanced_67 ?_
        refine wr_aload_n dL_isBalanced_69 rfl ?_
        refine wr_iload_n dL_isBalanced_70 rfl ?_
        refine wr_iconst dL_isBalanced_71 ?_
        refine wr_cV dL_isBalanced_72 k_RL_19 b_yX6_money x_yX6_money (pX6_money (n := n + 2) hE hr x2 0) (rd_top hr) rfl (fun r72 => ?_)
        refine wr_lload_n dL_isBalanced_75 rfl ?_
        refine wr_lload dL_isBalanced_76 rfl ?_
        refine wr_lsub dL_isBalanced_78 ?_
        refine wr_jcmpR_ne 87 dL_isBalanced_79 dL_isBalanced_80 (fun h79 => ?_) (fun h79 => ?_)
        · refine wr_iconst dL_isBalanced_87 ?_
          refine wr_istore_n dL_isBalanced_88 ?_
          refine wr_iinc dL_isBalanced_89 rfl ?_
          refine wr_goto 4 dL_isBalanced_92 ?_
          exact wr_at (ih 0 (x2 + 1)) ⟨rfl, rfl, rfl, trivial⟩
        · refine wr_iconst dL_isBalanced_83 ?_
          refine wr_goto 88 dL_isBalanced_84 ?_
          refine wr_istore_n dL_isBalanced_88 ?_
          refine wr_iinc dL_isBalanced_89 rfl ?_
          refine wr_goto 4 dL_isBalanced_92 ?_
          exact wr_at (ih 1 (x2 + 1)) ⟨rfl, rfl, rfl, trivial⟩
set_option maxRecDepth 100000 in
set_option maxHeartbeats 4000000 in
theorem pL_isBalanced {E : wE} {n : Nat} (hE : wGE E) {M : mR} {c : cR} {ca : caT} {h : hW} (hr : rep E (c, M) ca h)   : WR E (n + 4) yL_isBalanced cL_isBalanced 7 (some .boolean) vI h 0 (wArgs [.ref (aTop E)]) [] (fL_isBalanced  c) := by
  unfold fL_isBalanced
  refine wr_iconst dL_isBalanced_0 ?_
  refine wr_istore_n dL_isBalanced_1 ?_
  refine wr_iconst dL_isBalanced_2 ?_
  refine wr_istore_n dL_isBalanced_3 ?_
  exact wr_at (pL_isBalanced_b4 (n := n) hE hr  fuel0 1 0) ⟨rfl, rfl, rfl, trivial⟩
set_option maxRecDepth 100000 in
set_option maxHeartbeats 4000000 in
theorem pL_order_b46 {E : wE} {n : Nat} (hE : wGE E) {M : mR} (x1 : Int) (x2 : Int) (x3 : Int) (x4 : Int) (t0 : Int) (t1 : Int) (t2 : Int)  (c : cR) (ca : caT) : WF E (n + 8) yL_order cL_order 7 (some .int) vI (fun c : cR => (c, M)) ca 46 (wLs [some (.ref (aTop E)), some (.int (iI x1)), some (.int (iI x2)), some (.int (iI x3)), some (.int (iI x4))]) [.int (iI t2), .int (iI t1), .int (iI t0)] c (fL_order_b46 x1 x2 x3 x4 t0 t1 t2 c) := by
  unfold fL_order_b46
  refine wf_rS dL_order_46 k_RL_37 b_yL_up x_yL_up (fun h hr => pL_up (n := n + 7) hE t1 t2) (fun r46 => ?_)
  refine wf_iadd dL_order_49 ?_
  refine wf_istore dL_order_50 ?_
  refine wf_aload_n dL_order_52 rfl ?_
  refine wf_iconst dL_order_53 ?_
  refine wf_rV dL_order_54 k_RL_13 b_yX6_count x_yX6_count (fun h hr => pX6_count (n := n + 4) hE hr 0) (fun h hr => rd_top hr) rfl (fun r54 => ?_)
  refine wf_iload_n dL_order_57 rfl ?_
  refine wf_bipush dL_order_58 ?_
  refine wf_ishr dL_order_60 ?_
  refine wf_bipush dL_order_61 ?_
  refine wf_rS dL_order_63 k_RL_37 b_yL_up x_yL_up (fun h hr => pL_up (n := n + 7) hE (shrI x2 8) 20) (fun r63 => ?_)
  refine wf_iadd dL_order_66 ?_
  refine wf_istore dL_order_67 ?_
  refine wf_aload_n dL_order_69 rfl ?_
  refine wf_bipush dL_order_70 ?_
  refine wf_iload_n dL_order_72 rfl ?_
  refine wf_iconst dL_order_73 ?_
  refine wf_rS dL_order_74 k_RL_37 b_yL_up x_yL_up (fun h hr => pL_up (n := n + 7) hE x1 3) (fun r74 => ?_)
  refine wf_imul dL_order_77 ?_
  refine wf_iload_n dL_order_78 rfl ?_
  refine wf_iadd dL_order_79 ?_
  refine wf_iconst dL_order_80 ?_
  refine wf_iload_n dL_order_81 rfl ?_
  refine wf_bipush dL_order_82 ?_
  refine wf_ishr dL_order_84 ?_
  refine wf_ldc dL_order_85 c_RL_42 ?_
  refine wf_rS dL_order_87 k_RL_37 b_yL_up x_yL_up (fun h hr => pL_up (n := n + 7) hE (shrI x1 6) 60000) (fun r87 => ?_)
  refine wf_iadd dL_order_90 ?_
  refine wf_sipush dL_order_91 ?_
  refine wf_iload dL_order_94 rfl ?_
  refine wf_imul dL_order_96 ?_
  refine wf_bipush dL_order_97 ?_
  refine wf_iload dL_order_99 rfl ?_
  refine wf_imul dL_order_101 ?_
  refine wf_iadd dL_order_102 ?_
  refine wf_iconst dL_order_103 ?_
  refine wf_iadd dL_order_104 ?_
  refine wf_iload_n dL_order_105 rfl ?_
  refine wf_bipush dL_order_106 ?_
  refine wf_ishr dL_order_108 ?_
  refine wf_bipush dL_order_109 ?_
  refine wf_rS dL_order_111 k_RL_37 b_yL_up x_yL_up (fun h hr => pL_up (n := n + 7) hE (shrI x2 12) 31) (fun r111 => ?_)
  refine wf_iadd dL_order_114 ?_
  refine wf_iload dL_order_115 rfl ?_
  refine wf_iload_n dL_order_117 rfl ?_
  refine wf_bipush dL_order_118 ?_
  refine wf_ishr dL_order_120 ?_
  refine wf_bipush dL_order_121 ?_
  refine wf_rS dL_order_123 k_RL_37 b_yL_up x_yL_up (fun h hr => pL_up (n := n + 7) hE (shrI x1 8) 50) (fun r123 => ?_)
  refine wf_iload_n dL_order_126 rfl ?_
  refine wf_bipush dL_order_127 ?_
  refine wf_ishr dL_order_129 ?_
  refine wf_iconst dL_order_130 ?_
  refine wf_rS dL_order_131 k_RL_37 b_yL_up x_yL_up (fun h hr => pL_up (n := n + 7) hE (shrI x2 16) 4) (fun r131 => ?_)
  refine wf_cV (put := fun q => q) dL_order_134 k_RL_43 b_yX6_order x_yX6_order (pX6_order (n := n) hE ((9 * r74) + x3) (1 + r87) ((((10000 * x4) + (100 * (t0 + r46))) + 1) + r111) (r54 + r63) r123 r131 _ _) rfl (fun _ => rfl) (fun h hr => rd_top hr) rfl (fun r134 c134 ca => ?_)
  exact wf_ireturn dL_order_137 ⟨_, rfl, rfl⟩
set_option maxRecDepth 100000 in
set_option maxHeartbeats 4000000 in
theorem pL_order_b23 {E : wE} {n : Nat} (hE : wGE E) {M : mR} (x1 : Int) (x2 : Int) (t0 : Int)  (c : cR) (ca : caT) : WF E (n + 8) yL_order cL_order 7 (some .int) vI (fun c : cR => (c, M)) ca 23 (wLs [some (.ref (aTop E)), some (.int (iI x1)), some (.int (iI x2))]) [.int (iI t0)] c (fL_order_b23 x1 x2 t0 c) := by
  unfold fL_order_b23
  refine wf_istore_n dL_order_23 ?_
  refine wf_iload_n dL_order_24 rfl ?_
  refine wf_iconst dL_order_25 ?_
  refine wf_rS dL_order_26 k_RL_37 b_yL_up x_yL_up (fun h hr => pL_up (n := n + 7) hE x2 4) (fun r26 => ?_)
  refine wf_istore dL_order_29 ?_
  refine wf_iconst dL_order_31 ?_
  refine wf_iload_n dL_order_32 rfl ?_
  refine wf_iconst dL_order_33 ?_
  refine wf_ishr dL_order_34 ?_
  refine wf_iload dL_order_35 rfl ?_
  refine wf_gd (fun g37 => ?_)
  refine wf_if_ne 45 dL_order_37 g37 (fun h37 => ?_) (fun h37 => ?_)
  · refine wf_iconst dL_order_45 ?_
    exact wf_at (pL_order_b46 (n := n) hE  x1 x2 t0 r26 1 (shrI x2 4) 2 _ _) ⟨rfl, rfl, rfl, rfl, rfl, trivial⟩
  · refine wf_bipush dL_order_40 ?_
    refine wf_goto 46 dL_order_42 ?_
    exact wf_at (pL_order_b46 (n := n) hE  x1 x2 t0 r26 1 (shrI x2 4) 12 _ _) ⟨rfl, rfl, rfl, rfl, rfl, trivial⟩
set_option maxRecDepth 100000 in
set_option maxHeartbeats 4000000 in
theorem pL_order {E : wE} {n : Nat} (hE : wGE E) {M : mR} (x1 : Int) (x2 : Int)  (c : cR) (ca : caT) : WF E (n + 8) yL_order cL_order 7 (some .int) vI (fun c : cR => (c, M)) ca 0 (wArgs [.ref (aTop E), .int (iI x1), .int (iI x2)]) [] c (fL_order x1 x2 c) := by
  unfold fL_order
  refine wf_iload_n dL_order_0 rfl ?_
  refine wf_iconst dL_order_1 ?_
  refine wf_ishr dL_order_2 ?_
  refine wf_iconst dL_order_3 ?_
  refine wf_rS dL_order_4 k_RL_37 b_yL_up x_yL_up (fun h hr => pL_up (n := n + 7) hE (shrI x1 2) 4) (fun r4 => ?_)
  refine wf_iconst dL_order_7 ?_
  refine wf_gd (fun g8 => ?_)
  refine wf_icmp_ne 16 dL_order_8 g8 (by decide) (fun h8 => ?_) (fun h8 => ?_)
  · refine wf_iload_n dL_order_16 rfl ?_
    refine wf_iconst dL_order_17 ?_
    refine wf_ishr dL_order_18 ?_
    refine wf_iconst dL_order_19 ?_
    refine wf_rS dL_order_20 k_RL_37 b_yL_up x_yL_up (fun h hr => pL_up (n := n + 7) hE (shrI x1 4) 4) (fun r20 => ?_)
    exact wf_at (pL_order_b23 (n := n) hE  x1 x2 r20 _ _) ⟨rfl, rfl, rfl, trivial⟩
  · refine wf_bipush dL_order_11 ?_
    refine wf_goto 23 dL_order_13 ?_
    exact wf_at (pL_order_b23 (n := n) hE  x1 x2 8 _ _) ⟨rfl, rfl, rfl, trivial⟩
set_option maxRecDepth 100000 in
set_option maxHeartbeats 4000000 in
theorem pL_turn_b93 {E : wE} {n : Nat} (hE : wGE E) {M : mR} (t1 : Int) (t2 : Int) (t3 : Int)  (c : cR) (ca : caT) : WF E (n + 9) yL_turn cL_turn 4 (some .int) vI (fun c : cR => (c, M)) ca 93 (wLs []) [.int (iI t3), .int (iI t2), .int (iI t1), .ref (aTop E)] c (fL_turn_b93 t1 t2 t3 c) := by
  unfold fL_turn_b93
  refine wf_rS dL_turn_93 k_RL_37 b_yL_up x_yL_up (fun h hr => pL_up (n := n + 8) hE t2 t3) (fun r93 => ?_)
  refine wf_cV (put := fun q => q) dL_turn_96 k_RL_47 b_yX6_set x_yX6_set (pX6_set (n := n + 1) hE t1 r93 _ _) rfl (fun _ => rfl) (fun h hr => rd_top hr) rfl (fun r96 c96 ca => ?_)
  exact wf_ireturn dL_turn_99 ⟨_, rfl, rfl⟩
set_option maxRecDepth 100000 in
set_option maxHeartbeats 4000000 in
theorem pL_turn_b261 {E : wE} {n : Nat} (hE : wGE E) {M : mR} (t1 : Int) (t2 : Int) (t3 : Int)  (c : cR) (ca : caT) : WF E (n + 9) yL_turn cL_turn 4 (some .int) vI (fun c : cR => (c, M)) ca 261 (wLs []) [.int (iI t3), .int (iI t2), .int (iI t1), .ref (aTop E)] c (fL_turn_b261 t1 t2 t3 c) := by
  unfold fL_turn_b261
  refine wf_rS dL_turn_261 k_RL_37 b_yL_up x_yL_up (fun h hr => pL_up (n := n + 8) hE t2 t3) (fun r261 => ?_)
  refine wf_iadd dL_turn_264 ?_
  refine wf_cV (put := fun q => q) dL_turn_265 k_RL_80 b_yX6_days x_yX6_days (pX6_days (n := n) hE (t1 + r261) _ _) rfl (fun _ => rfl) (fun h hr => rd_top hr) rfl (fun r265 c265 ca => ?_)
  exact wf_ireturn dL_turn_268 ⟨_, rfl, rfl⟩
set_option maxRecDepth 100000 in
set_option maxHeartbeats 4000000 in
theorem pL_turn {E : wE} {n : Nat} (hE : wGE E) {M : mR} (x1 : Int) (x2 : Int) (x3 : Int)  (c : cR) (ca : caT) : WF E (n + 9) yL_turn cL_turn 4 (some .int) vI (fun c : cR => (c, M)) ca 0 (wArgs [.ref (aTop E), .int (iI x1), .int (iI x2), .int (iI x3)]) [] c (fL_turn x1 x2 x3 c) := by
  unfold fL_turn
  refine wf_iload_n dL_turn_0 rfl ?_
  refine wf_gd (fun g1 => ?_)
  refine wf_ite (fun e1_0 => ?_) (fun e1_0 => ?_)
  · refine wf_tsK 0 72 dL_turn_1 e1_0 ?_
    refine wf_aload_n dL_turn_72 rfl ?_
    refine wf_iload_n dL_turn_73 rfl ?_
    refine wf_iconst dL_turn_74 ?_
    refine wf_rS dL_turn_75 k_RL_37 b_yL_up x_yL_up (fun h hr => pL_up (n := n + 8) hE x2 4) (fun r75 => ?_)
    refine wf_iload_n dL_turn_78 rfl ?_
    refine wf_iload_n dL_turn_79 rfl ?_
    refine wf_iconst dL_turn_80 ?_
    refine wf_iand dL_turn_81 ?_
    refine wf_gd (fun g82 => ?_)
    refine wf_if_ne 90 dL_turn_82 g82 (fun h82 => ?_) (fun h82 => ?_)
    · refine wf_sipush dL_turn_90 ?_
      exact wf_at (pL_turn_b93 (n := n) hE  r75 x3 400 _ _) trivial
    · refine wf_bipush dL_turn_85 ?_
      refine wf_goto 93 dL_turn_87 ?_
      exact wf_at (pL_turn_b93 (n := n) hE  r75 x3 7 _ _) trivial
  refine wf_ite (fun e1_1 => ?_) (fun e1_1 => ?_)
  · refine wf_tsK 1 100 dL_turn_1 e1_1 ?_
    refine wf_aload_n dL_turn_100 rfl ?_
    refine wf_aload_n dL_turn_101 rfl ?_
    refine wf_iconst dL_turn_102 ?_
    refine wf_rV dL_turn_103 k_RL_13 b_yX6_count x_yX6_count (fun h hr => pX6_count (n := n + 5) hE hr 0) (fun h hr => rd_top hr) rfl (fun r103 => ?_)
    refine wf_iload_n dL_turn_106 rfl ?_
    refine wf_bipush dL_turn_107 ?_
    refine wf_rS dL_turn_109 k_RL_37 b_yL_up x_yL_up (fun h hr => pL_up (n := n + 8) hE x2 30) (fun r109 => ?_)
    refine wf_iadd dL_turn_112 ?_
    refine wf_iload_n dL_turn_113 rfl ?_
    refine wf_iconst dL_turn_114 ?_
    refine wf_iand dL_turn_115 ?_
    refine wf_cV (put := fun q => q) dL_turn_116 k_RL_50 b_yX6_holiday x_yX6_holiday (pX6_holiday (n := n + 1) hE (r103 + r109) (andI x3 1) _ _) rfl (fun _ => rfl) (fun h hr => rd_top hr) rfl (fun r116 c116 ca => ?_)
    exact wf_ireturn dL_turn_119 ⟨_, rfl, rfl⟩
  refine wf_ite (fun e1_2 => ?_) (fun e1_2 => ?_)
  · refine wf_tsK 2 120 dL_turn_1 e1_2 ?_
    refine wf_aload_n dL_turn_120 rfl ?_
    refine wf_iload_n dL_turn_121 rfl ?_
    refine wf_ldc dL_turn_122 c_RL_69 ?_
    refine wf_rS dL_turn_124 k_RL_37 b_yL_up x_yL_up (fun h hr => pL_up (n := n + 8) hE x2 50000) (fun r124 => ?_)
    refine wf_iload_n dL_turn_127 rfl ?_
    refine wf_sipush dL_turn_128 ?_
    refine wf_rS dL_turn_131 k_RL_37 b_yL_up x_yL_up (fun h hr => pL_up (n := n + 8) hE x3 30000) (fun r131 => ?_)
    refine wf_cV (put := fun q => q) dL_turn_134 k_RL_53 b_yX6_account x_yX6_account (pX6_account (n := n + 1) hE r124 r131 _ _) rfl (fun _ => rfl) (fun h hr => rd_top hr) rfl (fun r134 c134 ca => ?_)
    exact wf_ireturn dL_turn_137 ⟨_, rfl, rfl⟩
  refine wf_ite (fun e1_3 => ?_) (fun e1_3 => ?_)
  · refine wf_tsK 3 138 dL_turn_1 e1_3 ?_
    refine wf_aload_n dL_turn_138 rfl ?_
    refine wf_iload_n dL_turn_139 rfl ?_
    refine wf_iconst dL_turn_140 ?_
    refine wf_rS dL_turn_141 k_RL_37 b_yL_up x_yL_up (fun h hr => pL_up (n := n + 8) hE x2 4) (fun r141 => ?_)
    refine wf_iload_n dL_turn_144 rfl ?_
    refine wf_iconst dL_turn_145 ?_
    refine wf_rS dL_turn_146 k_RL_37 b_yL_up x_yL_up (fun h hr => pL_up (n := n + 8) hE x3 4) (fun r146 => ?_)
    refine wf_cV (put := fun q => q) dL_turn_149 k_RL_70 b_yX6_feed x_yX6_feed (pX6_feed (n := n + 1) hE r141 r146 _ _) rfl (fun _ => rfl) (fun h hr => rd_top hr) rfl (fun r149 c149 ca => ?_)
    exact wf_ireturn dL_turn_152 ⟨_, rfl, rfl⟩
  refine wf_ite (fun e1_4 => ?_) (fun e1_4 => ?_)
  · refine wf_tsK 4 153 dL_turn_1 e1_4 ?_
    refine wf_aload_n dL_turn_153 rfl ?_
    refine wf_iload_n dL_turn_154 rfl ?_
    refine wf_iconst dL_turn_155 ?_
    refine wf_rS dL_turn_156 k_RL_37 b_yL_up x_yL_up (fun h hr => pL_up (n := n + 8) hE x2 4) (fun r156 => ?_)
    refine wf_iconst dL_turn_159 ?_
    refine wf_iload_n dL_turn_160 rfl ?_
    refine wf_ldc dL_turn_161 c_RL_73 ?_
    refine wf_rS dL_turn_163 k_RL_37 b_yL_up x_yL_up (fun h hr => pL_up (n := n + 8) hE x3 90000) (fun r163 => ?_)
    refine wf_iadd dL_turn_166 ?_
    refine wf_cV (put := fun q => q) dL_turn_167 k_RL_56 b_yX6_deposit x_yX6_deposit (pX6_deposit (n := n + 1) hE r156 (1 + r163) _ _) rfl (fun _ => rfl) (fun h hr => rd_top hr) rfl (fun r167 c167 ca => ?_)
    exact wf_ireturn dL_turn_170 ⟨_, rfl, rfl⟩
  refine wf_ite (fun e1_5 => ?_) (fun e1_5 => ?_)
  · refine wf_tsK 5 153 dL_turn_1 e1_5 ?_
    refine wf_aload_n dL_turn_153 rfl ?_
    refine wf_iload_n dL_turn_154 rfl ?_
    refine wf_iconst dL_turn_155 ?_
    refine wf_rS dL_turn_156 k_RL_37 b_yL_up x_yL_up (fun h hr => pL_up (n := n + 8) hE x2 4) (fun r156 => ?_)
    refine wf_iconst dL_turn_159 ?_
    refine wf_iload_n dL_turn_160 rfl ?_
    refine wf_ldc dL_turn_161 c_RL_73 ?_
    refine wf_rS dL_turn_163 k_RL_37 b_yL_up x_yL_up (fun h hr => pL_up (n := n + 8) hE x3 90000) (fun r163 => ?_)
    refine wf_iadd dL_turn_166 ?_
    refine wf_cV (put := fun q => q) dL_turn_167 k_RL_56 b_yX6_deposit x_yX6_deposit (pX6_deposit (n := n + 1) hE r156 (1 + r163) _ _) rfl (fun _ => rfl) (fun h hr => rd_top hr) rfl (fun r167 c167 ca => ?_)
    exact wf_ireturn dL_turn_170 ⟨_, rfl, rfl⟩
  refine wf_ite (fun e1_6 => ?_) (fun e1_6 => ?_)
  · refine wf_tsK 6 171 dL_turn_1 e1_6 ?_
    refine wf_aload_n dL_turn_171 rfl ?_
    refine wf_iload_n dL_turn_172 rfl ?_
    refine wf_iload_n dL_turn_173 rfl ?_
    refine wf_cS (put := fun q => q) dL_turn_174 k_RL_74 b_yL_order x_yL_order (pL_order (n := n) hE x2 x3 _ _) rfl (fun _ => rfl) (fun r174 c174 ca => ?_)
    exact wf_ireturn dL_turn_177 ⟨_, rfl, rfl⟩
  refine wf_ite (fun e1_7 => ?_) (fun e1_7 => ?_)
  · refine wf_tsK 7 171 dL_turn_1 e1_7 ?_
    refine wf_aload_n dL_turn_171 rfl ?_
    refine wf_iload_n dL_turn_172 rfl ?_
    refine wf_iload_n dL_turn_173 rfl ?_
    refine wf_cS (put := fun q => q) dL_turn_174 k_RL_74 b_yL_order x_yL_order (pL_order (n := n) hE x2 x3 _ _) rfl (fun _ => rfl) (fun r174 c174 ca => ?_)
    exact wf_ireturn dL_turn_177 ⟨_, rfl, rfl⟩
  refine wf_ite (fun e1_8 => ?_) (fun e1_8 => ?_)
  · refine wf_tsK 8 178 dL_turn_1 e1_8 ?_
    refine wf_aload_n dL_turn_178 rfl ?_
    refine wf_iload_n dL_turn_179 rfl ?_
    refine wf_iconst dL_turn_180 ?_
    refine wf_rS dL_turn_181 k_RL_37 b_yL_up x_yL_up (fun h hr => pL_up (n := n + 8) hE x2 4) (fun r181 => ?_)
    refine wf_iconst dL_turn_184 ?_
    refine wf_iload_n dL_turn_185 rfl ?_
    refine wf_ldc dL_turn_186 c_RL_42 ?_
    refine wf_rS dL_turn_188 k_RL_37 b_yL_up x_yL_up (fun h hr => pL_up (n := n + 8) hE x3 60000) (fun r188 => ?_)
    refine wf_iadd dL_turn_191 ?_
    refine wf_iload_n dL_turn_192 rfl ?_
    refine wf_iconst dL_turn_193 ?_
    refine wf_ishr dL_turn_194 ?_
    refine wf_bipush dL_turn_195 ?_
    refine wf_rS dL_turn_197 k_RL_37 b_yL_up x_yL_up (fun h hr => pL_up (n := n + 8) hE (shrI x2 4) 10) (fun r197 => ?_)
    refine wf_cV (put := fun q => q) dL_turn_200 k_RL_59 b_yX6_change x_yX6_change (pX6_change (n := n + 1) hE r181 (1 + r188) r197 _ _) rfl (fun _ => rfl) (fun h hr => rd_top hr) rfl (fun r200 c200 ca => ?_)
    exact wf_ireturn dL_turn_203 ⟨_, rfl, rfl⟩
  refine wf_ite (fun e1_9 => ?_) (fun e1_9 => ?_)
  · refine wf_tsK 9 204 dL_turn_1 e1_9 ?_
    refine wf_iload_n dL_turn_204 rfl ?_
    refine wf_bipush dL_turn_205 ?_
    refine wf_iand dL_turn_207 ?_
    refine wf_gd (fun g208 => ?_)
    refine wf_if_ne 223 dL_turn_208 g208 (fun h208 => ?_) (fun h208 => ?_)
    · refine wf_aload_n dL_turn_223 rfl ?_
      refine wf_iload_n dL_turn_224 rfl ?_
      refine wf_iconst dL_turn_225 ?_
      refine wf_rS dL_turn_226 k_RL_37 b_yL_up x_yL_up (fun h hr => pL_up (n := n + 8) hE x2 4) (fun r226 => ?_)
      refine wf_cV (put := fun q => q) dL_turn_229 k_RL_77 b_yX6_goOn x_yX6_goOn (pX6_goOn (n := n + 1) hE r226 _ _) rfl (fun _ => rfl) (fun h hr => rd_top hr) rfl (fun r229 c229 ca => ?_)
      exact wf_ireturn dL_turn_232 ⟨_, rfl, rfl⟩
    · refine wf_aload_n dL_turn_211 rfl ?_
      refine wf_iload_n dL_turn_212 rfl ?_
      refine wf_iconst dL_turn_213 ?_
      refine wf_rS dL_turn_214 k_RL_37 b_yL_up x_yL_up (fun h hr => pL_up (n := n + 8) hE x2 4) (fun r214 => ?_)
      refine wf_cV (put := fun q => q) dL_turn_217 k_RL_66 b_yX6_stop x_yX6_stop (pX6_stop (n := n + 1) hE r214 _ _) rfl (fun _ => rfl) (fun h hr => rd_top hr) rfl (fun r217 c217 ca => ?_)
      refine wf_goto 232 dL_turn_220 ?_
      exact wf_ireturn dL_turn_232 ⟨_, rfl, rfl⟩
  refine wf_ite (fun e1_10 => ?_) (fun e1_10 => ?_)
  · refine wf_tsK 10 233 dL_turn_1 e1_10 ?_
    refine wf_aload_n dL_turn_233 rfl ?_
    refine wf_iload_n dL_turn_234 rfl ?_
    refine wf_bipush dL_turn_235 ?_
    refine wf_rS dL_turn_237 k_RL_37 b_yL_up x_yL_up (fun h hr => pL_up (n := n + 8) hE x2 6) (fun r237 => ?_)
    refine wf_cV (put := fun q => q) dL_turn_240 k_RL_63 b_yX6_giveUp x_yX6_giveUp (pX6_giveUp (n := n + 1) hE r237 _ _) rfl (fun _ => rfl) (fun h hr => rd_top hr) rfl (fun r240 c240 ca => ?_)
    exact wf_ireturn dL_turn_243 ⟨_, rfl, rfl⟩
  refine wf_ite (fun e1_11 => ?_) (fun e1_11 => ?_)
  · refine wf_tsK 11 244 dL_turn_1 e1_11 ?_
    refine wf_aload_n dL_turn_244 rfl ?_
    refine wf_iconst dL_turn_245 ?_
    refine wf_iload_n dL_turn_246 rfl ?_
    refine wf_iload_n dL_turn_247 rfl ?_
    refine wf_bipush dL_turn_248 ?_
    refine wf_iand dL_turn_250 ?_
    refine wf_gd (fun g251 => ?_)
    refine wf_if_ne 259 dL_turn_251 g251 (fun h251 => ?_) (fun h251 => ?_)
    · refine wf_bipush dL_turn_259 ?_
      exact wf_at (pL_turn_b261 (n := n) hE  1 x2 9 _ _) trivial
    · refine wf_bipush dL_turn_254 ?_
      refine wf_goto 261 dL_turn_256 ?_
      exact wf_at (pL_turn_b261 (n := n) hE  1 x2 90 _ _) trivial
  refine wf_ite (fun e1_12 => ?_) (fun e1_12 => ?_)
  · refine wf_tsK 12 244 dL_turn_1 e1_12 ?_
    refine wf_aload_n dL_turn_244 rfl ?_
    refine wf_iconst dL_turn_245 ?_
    refine wf_iload_n dL_turn_246 rfl ?_
    refine wf_iload_n dL_turn_247 rfl ?_
    refine wf_bipush dL_turn_248 ?_
    refine wf_iand dL_turn_250 ?_
    refine wf_gd (fun g251 => ?_)
    refine wf_if_ne 259 dL_turn_251 g251 (fun h251 => ?_) (fun h251 => ?_)
    · refine wf_bipush dL_turn_259 ?_
      exact wf_at (pL_turn_b261 (n := n) hE  1 x2 9 _ _) trivial
    · refine wf_bipush dL_turn_254 ?_
      refine wf_goto 261 dL_turn_256 ?_
      exact wf_at (pL_turn_b261 (n := n) hE  1 x2 90 _ _) trivial
  refine wf_ite (fun e1_13 => ?_) (fun e1_13 => ?_)
  · refine wf_tsK 13 244 dL_turn_1 e1_13 ?_
    refine wf_aload_n dL_turn_244 rfl ?_
    refine wf_iconst dL_turn_245 ?_
    refine wf_iload_n dL_turn_246 rfl ?_
    refine wf_iload_n dL_turn_247 rfl ?_
    refine wf_bipush dL_turn_248 ?_
    refine wf_iand dL_turn_250 ?_
    refine wf_gd (fun g251 => ?_)
    refine wf_if_ne 259 dL_turn_251 g251 (fun h251 => ?_) (fun h251 => ?_)
    · refine wf_bipush dL_turn_259 ?_
      exact wf_at (pL_turn_b261 (n := n) hE  1 x2 9 _ _) trivial
    · refine wf_bipush dL_turn_254 ?_
      refine wf_goto 261 dL_turn_256 ?_
      exact wf_at (pL_turn_b261 (n := n) hE  1 x2 90 _ _) trivial
  refine wf_tsOut (z := x1) 269 dL_turn_1 g1 (by omega) ?_
  refine wf_aload_n dL_turn_269 rfl ?_
  refine wf_iload_n dL_turn_270 rfl ?_
  refine wf_iload_n dL_turn_271 rfl ?_
  refine wf_cS (put := fun q => q) dL_turn_272 k_RL_83 b_yL_any x_yL_any (pL_any (n := n) hE x2 x3 _ _) rfl (fun _ => rfl) (fun r272 c272 ca => ?_)
  exact wf_ireturn dL_turn_275 ⟨_, rfl, rfl⟩
set_option maxRecDepth 100000 in
set_option maxHeartbeats 4000000 in
theorem pL_isSaved {E : wE} {n : Nat} (hE : wGE E) {M : mR} (x1 : Int) (x2 : Int)  (c : cR) (ca : caT) : WF E (n + 10) yL_isSaved cL_isSaved 6 (some .boolean) vI (fun c : cR => (c, M)) ca 0 (wArgs [.ref (aTop E), .int (iI x1), .int (iI x2)]) [] c (fL_isSaved x1 x2 c) := by
  unfold fL_isSaved
  refine wf_aload_n dL_isSaved_0 rfl ?_
  refine wf_cS (put := fun q => q) dL_isSaved_1 k_RL_90 b_yL_view x_yL_view (pL_view (n := n + 3) hE _ _) rfl (fun _ => rfl) (fun r1 c1 ca => ?_)
  refine wf_lstore_n dL_isSaved_4 ?_
  refine wf_aload_n dL_isSaved_5 rfl ?_
  refine wf_bipush dL_isSaved_6 ?_
  refine wf_rV dL_isSaved_8 k_RL_13 b_yX6_count x_yX6_count (fun h hr => pX6_count (n := n + 6) hE hr 10) (fun h hr => rd_top hr) rfl (fun r8 => ?_)
  refine wf_istore dL_isSaved_11 ?_
  refine wf_aload_n dL_isSaved_13 rfl ?_
  refine wf_iload_n dL_isSaved_14 rfl ?_
  refine wf_iconst dL_isSaved_15 ?_
  refine wf_iand dL_isSaved_16 ?_
  refine wf_cV (put := fun q => q) dL_isSaved_17 k_RL_98 b_yX6_save x_yX6_save (pX6_save (n := n + 3) hE (andI x1 1) _ _) rfl (fun _ => rfl) (fun h hr => rd_top hr) rfl (fun r17 c17 ca => ?_)
  refine wf_aload_n dL_isSaved_20 rfl ?_
  refine wf_iconst dL_isSaved_21 ?_
  refine wf_rV dL_isSaved_22 k_RL_13 b_yX6_count x_yX6_count (fun h hr => pX6_count (n := n + 6) hE hr 0) (fun h hr => rd_top hr) rfl (fun r22 => ?_)
  refine wf_gd (fun g25 => ?_)
  refine wf_icmp_ne 39 dL_isSaved_25 g25.1 g25.2 (fun h25 => ?_) (fun h25 => ?_)
  · refine wf_iconst dL_isSaved_39 ?_
    exact wf_ireturn dL_isSaved_40 ⟨_, rfl, rfl⟩
  · refine wf_aload_n dL_isSaved_28 rfl ?_
    refine wf_bipush dL_isSaved_29 ?_
    refine wf_rV dL_isSaved_31 k_RL_13 b_yX6_count x_yX6_count (fun h hr => pX6_count (n := n + 6) hE hr 10) (fun h hr => rd_top hr) rfl (fun r31 => ?_)
    refine wf_iload dL_isSaved_34 rfl ?_
    refine wf_gd (fun g36 => ?_)
    refine wf_icmp_eq 41 dL_isSaved_36 g36.1 g36.2 (fun h36 => ?_) (fun h36 => ?_)
    · refine wf_aload_n dL_isSaved_41 rfl ?_
      refine wf_iload_n dL_isSaved_42 rfl ?_
      refine wf_bipush dL_isSaved_43 ?_
      refine wf_rS dL_isSaved_45 k_RL_37 b_yL_up x_yL_up (fun h hr => pL_up (n := n + 9) hE x2 14) (fun r45 => ?_)
      refine wf_iload_n dL_isSaved_48 rfl ?_
      refine wf_iload_n dL_isSaved_49 rfl ?_
      refine wf_cS (put := fun q => q) dL_isSaved_50 k_RL_94 b_yL_turn x_yL_turn (pL_turn (n := n) hE r45 x2 x1 _ _) rfl (fun _ => rfl) (fun r50 c50 ca => ?_)
      refine wf_pop dL_isSaved_53 ?_
      refine wf_aload_n dL_isSaved_54 rfl ?_
      refine wf_iload_n dL_isSaved_55 rfl ?_
      refine wf_iconst dL_isSaved_56 ?_
      refine wf_iand dL_isSaved_57 ?_
      refine wf_cV (put := fun q => q) dL_isSaved_58 k_RL_101 b_yX6_restore x_yX6_restore (pX6_restore (n := n + 2) hE (andI x1 1) _ _) rfl (fun _ => rfl) (fun h hr => rd_top hr) rfl (fun r58 c58 ca => ?_)
      refine wf_aload_n dL_isSaved_61 rfl ?_
      refine wf_iconst dL_isSaved_62 ?_
      refine wf_rV dL_isSaved_63 k_RL_13 b_yX6_count x_yX6_count (fun h hr => pX6_count (n := n + 6) hE hr 0) (fun h hr => rd_top hr) rfl (fun r63 => ?_)
      refine wf_gd (fun g66 => ?_)
      refine wf_icmp_ne 82 dL_isSaved_66 g66.1 g66.2 (fun h66 => ?_) (fun h66 => ?_)
      · refine wf_iconst dL_isSaved_82 ?_
        exact wf_ireturn dL_isSaved_83 ⟨_, rfl, rfl⟩
      · refine wf_aload_n dL_isSaved_69 rfl ?_
        refine wf_cS (put := fun q => q) dL_isSaved_70 k_RL_90 b_yL_view x_yL_view (pL_view (n := n + 3) hE _ _) rfl (fun _ => rfl) (fun r70 c70 ca => ?_)
        refine wf_lload_n dL_isSaved_73 rfl ?_
        refine wf_jcmpR_ne 82 dL_isSaved_74 dL_isSaved_75 (fun h74 => ?_) (fun h74 => ?_)
        · refine wf_iconst dL_isSaved_82 ?_
          exact wf_ireturn dL_isSaved_83 ⟨_, rfl, rfl⟩
        · refine wf_iconst dL_isSaved_78 ?_
          refine wf_goto 83 dL_isSaved_79 ?_
          exact wf_ireturn dL_isSaved_83 ⟨_, rfl, rfl⟩
    · refine wf_iconst dL_isSaved_39 ?_
      exact wf_ireturn dL_isSaved_40 ⟨_, rfl, rfl⟩

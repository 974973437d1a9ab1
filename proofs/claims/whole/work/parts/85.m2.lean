/-! ===== the methods meet their functions (by program: wip/whole/gen.py) ===== -/
set_option maxRecDepth 100000 in
set_option maxHeartbeats 4000000 in
theorem pX7_sweeps_b64 {E : wE} {n : Nat} (hE : wGE E) {C : cR} (x1 : Int) (x2 : Int) (t0 : Int)  (m : mR) (ca : caT) : WF E (n + 3) yX7_sweeps cX7_sweeps 9 (none) vV (fun m : mR => (C, m)) ca 64 (wLs [some (.ref (aM E 0)), some (.int (iI x1)), some (.int (iI x2))]) [.long (jL t0)] m (fX7_sweeps_b64 x1 x2 t0 m) := by
  unfold fX7_sweeps_b64
  refine wf_lstore dX7_sweeps_64 ?_
  refine wf_lload dX7_sweeps_66 rfl ?_
  refine wf_lconst0 dX7_sweeps_68 ?_
  refine wf_gd (fun g69 => ?_)
  refine wf_jcmp_le 106 dX7_sweeps_69 dX7_sweeps_70 g69 (by decide) (fun h69 => ?_) (fun h69 => ?_)
  · exact wf_return dX7_sweeps_106 rfl
  · refine wf_aload_n dX7_sweeps_73 rfl ?_
    refine wf_iload_n dX7_sweeps_74 rfl ?_
    refine wf_iconst dX7_sweeps_75 ?_
    refine wf_lload dX7_sweeps_76 rfl ?_
    refine wf_lneg dX7_sweeps_78 ?_
    refine wf_cV (put := fun q => q) dX7_sweeps_79 k_RX7_137 b_yX7_moves x_yX7_moves (pX7_moves (n := n + 2) hE x2 0 (-t0) _ _) rfl (fun _ => rfl) (fun h hr => rd_mod hr) rfl (fun r79 m79 ca => ?_)
    refine wf_aload_n dX7_sweeps_82 rfl ?_
    refine wf_iload_n dX7_sweeps_83 rfl ?_
    refine wf_iconst dX7_sweeps_84 ?_
    refine wf_lload dX7_sweeps_85 rfl ?_
    refine wf_cV (put := fun q => q) dX7_sweeps_87 k_RX7_137 b_yX7_moves x_yX7_moves (pX7_moves (n := n + 2) hE x2 5 t0 _ _) rfl (fun _ => rfl) (fun h hr => rd_mod hr) rfl (fun r87 m87 ca => ?_)
    refine wf_aload_n dX7_sweeps_90 rfl ?_
    refine wf_iload_n dX7_sweeps_91 rfl ?_
    refine wf_iconst dX7_sweeps_92 ?_
    refine wf_lload dX7_sweeps_93 rfl ?_
    refine wf_cV (put := fun q => q) dX7_sweeps_95 k_RX7_137 b_yX7_moves x_yX7_moves (pX7_moves (n := n + 2) hE x1 0 t0 _ _) rfl (fun _ => rfl) (fun h hr => rd_mod hr) rfl (fun r95 m95 ca => ?_)
    refine wf_aload_n dX7_sweeps_98 rfl ?_
    refine wf_iload_n dX7_sweeps_99 rfl ?_
    refine wf_iconst dX7_sweeps_100 ?_
    refine wf_lload dX7_sweeps_101 rfl ?_
    refine wf_cV (put := fun q => q) dX7_sweeps_103 k_RX7_137 b_yX7_moves x_yX7_moves (pX7_moves (n := n + 2) hE x1 4 t0 _ _) rfl (fun _ => rfl) (fun h hr => rd_mod hr) rfl (fun r103 m103 ca => ?_)
    exact wf_return dX7_sweeps_106 rfl
set_option maxRecDepth 100000 in
set_option maxHeartbeats 4000000 in
theorem pX7_sweeps {E : wE} {n : Nat} (hE : wGE E) {C : cR} (x1 : Int)  (m : mR) (ca : caT) : WF E (n + 3) yX7_sweeps cX7_sweeps 9 (none) vV (fun m : mR => (C, m)) ca 0 (wArgs [.ref (aM E 0), .int (iI x1)]) [] m (fX7_sweeps x1 m) := by
  unfold fX7_sweeps
  refine wf_aload_n dX7_sweeps_0 rfl ?_
  refine wf_iload_n dX7_sweeps_1 rfl ?_
  refine wf_iconst dX7_sweeps_2 ?_
  refine wf_rV dX7_sweeps_3 k_RX7_132 b_yX7_ofA x_yX7_ofA (fun h hr => pX7_ofA (n := n + 1) hE hr x1 2) (fun h hr => rd_mod hr) rfl (fun r3 => ?_)
  refine wf_istore_n dX7_sweeps_6 ?_
  refine wf_iload_n dX7_sweeps_7 rfl ?_
  refine wf_bipush dX7_sweeps_8 ?_
  refine wf_gd (fun g10 => ?_)
  refine wf_icmp_ne 14 dX7_sweeps_10 g10 (by decide) (fun h10 => ?_) (fun h10 => ?_)
  · refine wf_aload_n dX7_sweeps_14 rfl ?_
    refine wf_iload_n dX7_sweeps_15 rfl ?_
    refine wf_rV dX7_sweeps_16 k_RX7_234 b_yX7_waitsFor x_yX7_waitsFor (fun h hr => pX7_waitsFor (n := n) hE hr x1) (fun h hr => rd_mod hr) rfl (fun r16 => ?_)
    refine wf_aload_n dX7_sweeps_19 rfl ?_
    refine wf_iload_n dX7_sweeps_20 rfl ?_
    refine wf_iconst dX7_sweeps_21 ?_
    refine wf_rV dX7_sweeps_22 k_RX7_141 b_yX7_moneyOf x_yX7_moneyOf (fun h hr => pX7_moneyOf (n := n + 2) hE hr x1 0) (fun h hr => rd_mod hr) rfl (fun r22 => ?_)
    refine wf_lsub dX7_sweeps_25 ?_
    refine wf_aload_n dX7_sweeps_26 rfl ?_
    refine wf_iload_n dX7_sweeps_27 rfl ?_
    refine wf_iconst dX7_sweeps_28 ?_
    refine wf_rV dX7_sweeps_29 k_RX7_132 b_yX7_ofA x_yX7_ofA (fun h hr => pX7_ofA (n := n + 1) hE hr x1 0) (fun h hr => rd_mod hr) rfl (fun r29 => ?_)
    refine wf_gd (fun g32 => ?_)
    refine wf_i2l dX7_sweeps_32 g32 ?_
    refine wf_lsub dX7_sweeps_33 ?_
    refine wf_lstore_n dX7_sweeps_34 ?_
    refine wf_aload_n dX7_sweeps_35 rfl ?_
    refine wf_iload_n dX7_sweeps_36 rfl ?_
    refine wf_iconst dX7_sweeps_37 ?_
    refine wf_rV dX7_sweeps_38 k_RX7_141 b_yX7_moneyOf x_yX7_moneyOf (fun h hr => pX7_moneyOf (n := n + 2) hE hr r3 0) (fun h hr => rd_mod hr) rfl (fun r38 => ?_)
    refine wf_aload_n dX7_sweeps_41 rfl ?_
    refine wf_iload_n dX7_sweeps_42 rfl ?_
    refine wf_iconst dX7_sweeps_43 ?_
    refine wf_rV dX7_sweeps_44 k_RX7_132 b_yX7_ofA x_yX7_ofA (fun h hr => pX7_ofA (n := n + 1) hE hr r3 1) (fun h hr => rd_mod hr) rfl (fun r44 => ?_)
    refine wf_gd (fun g47 => ?_)
    refine wf_i2l dX7_sweeps_47 g47 ?_
    refine wf_lsub dX7_sweeps_48 ?_
    refine wf_lstore dX7_sweeps_49 ?_
    refine wf_lload_n dX7_sweeps_51 rfl ?_
    refine wf_lload dX7_sweeps_52 rfl ?_
    refine wf_gd (fun g54 => ?_)
    refine wf_jcmp_ge 62 dX7_sweeps_54 dX7_sweeps_55 g54.1 g54.2 (fun h54 => ?_) (fun h54 => ?_)
    · refine wf_lload dX7_sweeps_62 rfl ?_
      exact wf_at (pX7_sweeps_b64 (n := n) hE  x1 r3 (r38 - r44) _ _) ⟨rfl, rfl, rfl, trivial⟩
    · refine wf_lload_n dX7_sweeps_58 rfl ?_
      refine wf_goto 64 dX7_sweeps_59 ?_
      exact wf_at (pX7_sweeps_b64 (n := n) hE  x1 r3 ((r16 - r22) - r29) _ _) ⟨rfl, rfl, rfl, trivial⟩
  · exact wf_return dX7_sweeps_13 rfl
set_option maxRecDepth 100000 in
set_option maxHeartbeats 4000000 in
theorem pX7_passesDay_b82 {E : wE} {n : Nat} (hE : wGE E) {C : cR} : ∀ (fuel : Nat) (x1 : Int)  (m : mR) (ca : caT), WF E (n + 8) yX7_passesDay cX7_passesDay 2 (none) vV (fun m : mR => (C, m)) ca 82 (wLs [some (.ref (aM E 0)), some (.int (iI x1))]) [] m (fX7_passesDay_b82 fuel x1 m) := by
  intro fuel
  induction fuel with
  | zero =>
    intro x1 m ca
    exact wf_none
  | succ fuel ih =>
    intro x1 m ca
    unfold fX7_passesDay_b82
    refine wf_iload_n dX7_passesDay_82 rfl ?_
    refine wf_gd (fun g83 => ?_)
    refine wf_i2l dX7_passesDay_83 g83 ?_
    refine wf_aload_n dX7_passesDay_84 rfl ?_
    refine wf_get dX7_passesDay_85 f_RX7_7 (fun h hr => rd_mod hr) ?_
    refine wf_iconst dX7_passesDay_88 ?_
    refine wf_lald dX7_passesDay_89 (g := fun j => m.1 0 j) (by decide) (fun h hr => rd_now hr) ?_
    refine wf_gd (fun g90 => ?_)
    refine wf_jcmp_ge 105 dX7_passesDay_90 dX7_passesDay_91 g90.1 g90.2 (fun h90 => ?_) (fun h90 => ?_)
    · refine wf_aload_n dX7_passesDay_105 rfl ?_
      refine wf_get dX7_passesDay_106 f_RX7_7 (fun h hr => rd_mod hr) ?_
      refine wf_iconst dX7_passesDay_109 ?_
      refine wf_dup2 dX7_passesDay_110 ?_
      refine wf_lald dX7_passesDay_111 (g := fun j => m.1 0 j) (by decide) (fun h hr => rd_now hr) ?_
      refine wf_lconst1 dX7_passesDay_112 ?_
      refine wf_ladd dX7_passesDay_113 ?_
      refine wf_s_now dX7_passesDay_114 (by decide) (fun m114 => ?_)
      exact wf_return dX7_passesDay_115 rfl
    · refine wf_aload_n dX7_passesDay_94 rfl ?_
      refine wf_iload_n dX7_passesDay_95 rfl ?_
      refine wf_cV (put := fun q => q) dX7_passesDay_96 k_RX7_264 b_yX7_owes x_yX7_owes (pX7_owes (n := n + 4) hE x1 _ _) rfl (fun _ => rfl) (fun h hr => rd_mod hr) rfl (fun r96 m96 ca => ?_)
      refine wf_iinc dX7_passesDay_99 rfl ?_
      refine wf_goto 82 dX7_passesDay_102 ?_
      exact wf_at (ih (x1 + 1) _ _) ⟨rfl, rfl, trivial⟩
set_option maxRecDepth 100000 in
set_option maxHeartbeats 4000000 in
theorem pX7_passesDay_b42 {E : wE} {n : Nat} (hE : wGE E) {C : cR} : ∀ (fuel : Nat) (x1 : Int)  (m : mR) (ca : caT), WF E (n + 8) yX7_passesDay cX7_passesDay 2 (none) vV (fun m : mR => (C, m)) ca 42 (wLs [some (.ref (aM E 0)), some (.int (iI x1))]) [] m (fX7_passesDay_b42 fuel x1 m) := by
  intro fuel
  induction fuel with
  | zero =>
    intro x1 m ca
    exact wf_none
  | succ fuel ih =>
    intro x1 m ca
    unfold fX7_passesDay_b42
    refine wf_iload_n dX7_passesDay_42 rfl ?_
    refine wf_gd (fun g43 => ?_)
    refine wf_i2l dX7_passesDay_43 g43 ?_
    refine wf_aload_n dX7_passesDay_44 rfl ?_
    refine wf_get dX7_passesDay_45 f_RX7_7 (fun h hr => rd_mod hr) ?_
    refine wf_iconst dX7_passesDay_48 ?_
    refine wf_lald dX7_passesDay_49 (g := fun j => m.1 0 j) (by decide) (fun h hr => rd_now hr) ?_
    refine wf_gd (fun g50 => ?_)
    refine wf_jcmp_ge 65 dX7_passesDay_50 dX7_passesDay_51 g50.1 g50.2 (fun h50 => ?_) (fun h50 => ?_)
    · refine wf_aload_n dX7_passesDay_65 rfl ?_
      refine wf_aload_n dX7_passesDay_66 rfl ?_
      refine wf_rV dX7_passesDay_67 k_RX7_66 b_yX7_today x_yX7_today (fun h hr => pX7_today (n := n + 6) hE hr) (fun h hr => rd_mod hr) rfl (fun r67 => ?_)
      refine wf_rV dX7_passesDay_70 k_RX7_88 b_yX7_isBusiness x_yX7_isBusiness (fun h hr => pX7_isBusiness (n := n + 5) hE hr r67) (fun h hr => rd_mod hr) rfl (fun r70 => ?_)
      refine wf_gd (fun g73 => ?_)
      refine wf_if_eq 80 dX7_passesDay_73 g73 (fun h73 => ?_) (fun h73 => ?_)
      · refine wf_iconst dX7_passesDay_80 ?_
        refine wf_istore_n dX7_passesDay_81 ?_
        exact wf_at (pX7_passesDay_b82 (n := n) hE  fuel0 0 _ _) ⟨rfl, rfl, trivial⟩
      · refine wf_aload_n dX7_passesDay_76 rfl ?_
        refine wf_cV (put := fun q => q) dX7_passesDay_77 k_RX7_261 b_yX7_paysAll x_yX7_paysAll (pX7_paysAll (n := n + 3) hE _ _) rfl (fun _ => rfl) (fun h hr => rd_mod hr) rfl (fun r77 m77 ca => ?_)
        refine wf_iconst dX7_passesDay_80 ?_
        refine wf_istore_n dX7_passesDay_81 ?_
        exact wf_at (pX7_passesDay_b82 (n := n) hE  fuel0 0 _ _) ⟨rfl, rfl, trivial⟩
    · refine wf_aload_n dX7_passesDay_54 rfl ?_
      refine wf_iload_n dX7_passesDay_55 rfl ?_
      refine wf_cV (put := fun q => q) dX7_passesDay_56 k_RX7_258 b_yX7_sweeps x_yX7_sweeps (pX7_sweeps (n := n + 4) hE x1 _ _) rfl (fun _ => rfl) (fun h hr => rd_mod hr) rfl (fun r56 m56 ca => ?_)
      refine wf_iinc dX7_passesDay_59 rfl ?_
      refine wf_goto 42 dX7_passesDay_62 ?_
      exact wf_at (ih (x1 + 1) _ _) ⟨rfl, rfl, trivial⟩
set_option maxRecDepth 100000 in
set_option maxHeartbeats 4000000 in
theorem pX7_passesDay_b7 {E : wE} {n : Nat} (hE : wGE E) {C : cR} : ∀ (fuel : Nat) (x1 : Int)  (m : mR) (ca : caT), WF E (n + 8) yX7_passesDay cX7_passesDay 2 (none) vV (fun m : mR => (C, m)) ca 7 (wLs [some (.ref (aM E 0)), some (.int (iI x1))]) [] m (fX7_passesDay_b7 fuel x1 m) := by
  intro fuel
  induction fuel with
  | zero =>
    intro x1 m ca
    exact wf_none
  | succ fuel ih =>
    intro x1 m ca
    unfold fX7_passesDay_b7
    refine wf_iload_n dX7_passesDay_7 rfl ?_
    refine wf_gd (fun g8 => ?_)
    refine wf_i2l dX7_passesDay_8 g8 ?_
    refine wf_aload_n dX7_passesDay_9 rfl ?_
    refine wf_get dX7_passesDay_10 f_RX7_7 (fun h hr => rd_mod hr) ?_
    refine wf_iconst dX7_passesDay_13 ?_
    refine wf_lald dX7_passesDay_14 (g := fun j => m.1 0 j) (by decide) (fun h hr => rd_now hr) ?_
    refine wf_gd (fun g15 => ?_)
    refine wf_jcmp_ge 40 dX7_passesDay_15 dX7_passesDay_16 g15.1 g15.2 (fun h15 => ?_) (fun h15 => ?_)
    · refine wf_iconst dX7_passesDay_40 ?_
      refine wf_istore_n dX7_passesDay_41 ?_
      exact wf_at (pX7_passesDay_b42 (n := n) hE  fuel0 0 _ _) ⟨rfl, rfl, trivial⟩
    · refine wf_aload_n dX7_passesDay_19 rfl ?_
      refine wf_iload_n dX7_passesDay_20 rfl ?_
      refine wf_bipush dX7_passesDay_21 ?_
      refine wf_rV dX7_passesDay_23 k_RX7_151 b_yX7_ofO x_yX7_ofO (fun h hr => pX7_ofO (n := n + 6) hE hr x1 10) (fun h hr => rd_mod hr) rfl (fun r23 => ?_)
      refine wf_gd (fun g26 => ?_)
      refine wf_if_ne 34 dX7_passesDay_26 g26 (fun h26 => ?_) (fun h26 => ?_)
      · refine wf_iinc dX7_passesDay_34 rfl ?_
        refine wf_goto 7 dX7_passesDay_37 ?_
        exact wf_at (ih (x1 + 1) _ _) ⟨rfl, rfl, trivial⟩
      · refine wf_aload_n dX7_passesDay_29 rfl ?_
        refine wf_iload_n dX7_passesDay_30 rfl ?_
        refine wf_cV (put := fun q => q) dX7_passesDay_31 k_RX7_255 b_yX7_comesDue x_yX7_comesDue (pX7_comesDue (n := n) hE x1 _ _) rfl (fun _ => rfl) (fun h hr => rd_mod hr) rfl (fun r31 m31 ca => ?_)
        refine wf_iinc dX7_passesDay_34 rfl ?_
        refine wf_goto 7 dX7_passesDay_37 ?_
        exact wf_at (ih (x1 + 1) _ _) ⟨rfl, rfl, trivial⟩
set_option maxRecDepth 100000 in
set_option maxHeartbeats 4000000 in
theorem pX7_passesDay {E : wE} {n : Nat} (hE : wGE E) {C : cR}   (m : mR) (ca : caT) : WF E (n + 8) yX7_passesDay cX7_passesDay 2 (none) vV (fun m : mR => (C, m)) ca 0 (wArgs [.ref (aM E 0)]) [] m (fX7_passesDay  m) := by
  unfold fX7_passesDay
  refine wf_aload_n dX7_passesDay_0 rfl ?_
  refine wf_iconst dX7_passesDay_1 ?_
  refine wf_p_modf (f := 8) dX7_passesDay_2 p_RX7_241 (fun m2 => ?_)
  refine wf_iconst dX7_passesDay_5 ?_
  refine wf_istore_n dX7_passesDay_6 ?_
  exact wf_at (pX7_passesDay_b7 (n := n) hE  fuel0 0 _ _) ⟨rfl, rfl, trivial⟩
set_option maxRecDepth 100000 in
set_option maxHeartbeats 4000000 in
theorem pX7_passesDays_b27 {E : wE} {n : Nat} (hE : wGE E) {C : cR}   (m : mR) (ca : caT) : WF E (n + 9) yX7_passesDays cX7_passesDays 3 (some .int) vI (fun m : mR => (C, m)) ca 27 (wLs [some (.ref (aM E 0))]) [] m (fX7_passesDays_b27  m) := by
  unfold fX7_passesDays_b27
  refine wf_aload_n dX7_passesDays_27 rfl ?_
  refine wf_rV dX7_passesDays_28 k_RX7_66 b_yX7_today x_yX7_today (fun h hr => pX7_today (n := n + 7) hE hr) (fun h hr => rd_mod hr) rfl (fun r28 => ?_)
  exact wf_ireturn dX7_passesDays_31 ⟨_, rfl, rfl⟩
set_option maxRecDepth 100000 in
set_option maxHeartbeats 4000000 in
theorem pX7_passesDays_b2 {E : wE} {n : Nat} (hE : wGE E) {C : cR} : ∀ (fuel : Nat) (x1 : Int) (x2 : Int)  (m : mR) (ca : caT), WF E (n + 9) yX7_passesDays cX7_passesDays 3 (some .int) vI (fun m : mR => (C, m)) ca 2 (wLs [some (.ref (aM E 0)), some (.int (iI x1)), some (.int (iI x2))]) [] m (fX7_passesDays_b2 fuel x1 x2 m) := by
  intro fuel
  induction fuel with
  | zero =>
    intro x1 x2 m ca
    exact wf_none
  | succ fuel ih =>
    intro x1 x2 m ca
    unfold fX7_passesDays_b2
    refine wf_iload_n dX7_passesDays_2 rfl ?_
    refine wf_iload_n dX7_passesDays_3 rfl ?_
    refine wf_gd (fun g4 => ?_)
    refine wf_icmp_ge 27 dX7_passesDays_4 g4.1 g4.2 (fun h4 => ?_) (fun h4 => ?_)
    · exact wf_at (pX7_passesDays_b27 (n := n) hE   _ _) ⟨rfl, trivial⟩
    · refine wf_aload_n dX7_passesDays_7 rfl ?_
      refine wf_rV dX7_passesDays_8 k_RX7_66 b_yX7_today x_yX7_today (fun h hr => pX7_today (n := n + 7) hE hr) (fun h hr => rd_mod hr) rfl (fun r8 => ?_)
      refine wf_sipush dX7_passesDays_11 ?_
      refine wf_gd (fun g14 => ?_)
      refine wf_icmp_ge 27 dX7_passesDays_14 g14 (by decide) (fun h14 => ?_) (fun h14 => ?_)
      · exact wf_at (pX7_passesDays_b27 (n := n) hE   _ _) ⟨rfl, trivial⟩
      · refine wf_aload_n dX7_passesDays_17 rfl ?_
        refine wf_cV (put := fun q => q) dX7_passesDays_18 k_RX7_269 b_yX7_passesDay x_yX7_passesDay (pX7_passesDay (n := n) hE _ _) rfl (fun _ => rfl) (fun h hr => rd_mod hr) rfl (fun r18 m18 ca => ?_)
        refine wf_iinc dX7_passesDays_21 rfl ?_
        refine wf_goto 2 dX7_passesDays_24 ?_
        exact wf_at (ih x1 (x2 + 1) _ _) ⟨rfl, rfl, rfl, trivial⟩
set_option maxRecDepth 100000 in
set_option maxHeartbeats 4000000 in
theorem pX7_passesDays {E : wE} {n : Nat} (hE : wGE E) {C : cR} (x1 : Int)  (m : mR) (ca : caT) : WF E (n + 9) yX7_passesDays cX7_passesDays 3 (some .int) vI (fun m : mR => (C, m)) ca 0 (wArgs [.ref (aM E 0), .int (iI x1)]) [] m (fX7_passesDays x1 m) := by
  unfold fX7_passesDays
  refine wf_iconst dX7_passesDays_0 ?_
  refine wf_istore_n dX7_passesDays_1 ?_
  exact wf_at (pX7_passesDays_b2 (n := n) hE  fuel0 x1 0 _ _) ⟨rfl, rfl, rfl, trivial⟩
set_option maxRecDepth 100000 in
set_option maxHeartbeats 4000000 in
theorem pX7_waitsOf_b32 {E : wE} {n : Nat} (hE : wGE E) {C : cR} {m : mR} {ca : caT} {h : hW} (hr : rep E (C, m) ca h) {rec4 : Int → Int → Int → Option Int} (hrec4 : ∀ (x1 : Int) (x2 : Int) (x3 : Int) , WR E (n + 1) yX7_waitsOf cX7_waitsOf 4 (some .int) vI h 4 (wLs [some (.ref (aM E 0)), some (.int (iI x1)), some (.int (iI x2)), some (.int (iI x3))]) [] (rec4 x1 x2 x3)) (x1 : Int) (x3 : Int) (t0 : Int) (t1 : Int)  : WR E (n + 1) yX7_waitsOf cX7_waitsOf 4 (some .int) vI h 32 (wLs [some (.ref (aM E 0)), some (.int (iI x1)), none, some (.int (iI x3))]) [.int (iI t1), .int (iI t0)] (fX7_waitsOf_b32 m rec4 x1 x3 t0 t1) := by
  unfold fX7_waitsOf_b32
  refine wr_iadd dX7_waitsOf_32 ?_
  refine wr_istore_n dX7_waitsOf_33 ?_
  refine wr_iinc dX7_waitsOf_34 rfl ?_
  refine wr_goto 4 dX7_waitsOf_37 ?_
  exact wr_at (hrec4 x1 (t0 + t1) (x3 + 1)) ⟨rfl, rfl, rfl, rfl, trivial⟩
set_option maxRecDepth 100000 in
set_option maxHeartbeats 4000000 in
theorem pX7_waitsOf_b4 {E : wE} {n : Nat} (hE : wGE E) {C : cR} {m : mR} {ca : caT} {h : hW} (hr : rep E (C, m) ca h) : ∀ (fuel : Nat) (x1 : Int) (x2 : Int) (x3 : Int) , WR E (n + 1) yX7_waitsOf cX7_waitsOf 4 (some .int) vI h 4 (wLs [some (.ref (aM E 0)), some (.int (iI x1)), some (.int (iI x2)), some (.int (iI x3))]) [] (fX7_waitsOf_b4 m fuel x1 x2 x3) := by
  intro fuel
  induction fuel with
  | zero =>
    intro x1 x2 x3
    exact wr_none
  | succ fuel ih =>
    intro x1 x2 x3
    unfold fX7_waitsOf_b4
    refine wr_iload_n dX7_waitsOf_4 rfl ?_
    refine wr_gd (fun g5 => ?_)
    refine wr_i2l dX7_waitsOf_5 g5 ?_
    refine wr_aload_n dX7_waitsOf_6 rfl ?_
    refine wr_get dX7_waitsOf_7 f_RX7_7 (rd_mod hr) ?_
    refine wr_iconst dX7_waitsOf_10 ?_
    refine wr_lald dX7_waitsOf_11 (g := fun j => m.1 0 j) (by decide) (rd_now hr) ?_
    refine wr_gd (fun g12 => ?_)
    refine wr_jcmp_ge 40 dX7_waitsOf_12 dX7_waitsOf_13 g12.1 g12.2 (fun h12 => ?_) (fun h12 => ?_)
    · refine wr_iload_n dX7_waitsOf_40 rfl ?_
      exact wr_ireturn dX7_waitsOf_41 ⟨_, rfl, rfl⟩
    · refine wr_iload_n dX7_waitsOf_16 rfl ?_
      refine wr_aload_n dX7_waitsOf_17 rfl ?_
      refine wr_iload_n dX7_waitsOf_18 rfl ?_
      refine wr_iconst dX7_waitsOf_19 ?_
      refine wr_cV dX7_waitsOf_20 k_RX7_210 b_yX7_partOf x_yX7_partOf (pX7_partOf (n := n) hE hr x3 0) (rd_mod hr) rfl (fun r20 => ?_)
      refine wr_iload_n dX7_waitsOf_23 rfl ?_
      refine wr_gd (fun g24 => ?_)
      refine wr_icmp_ne 31 dX7_waitsOf_24 g24.1 g24.2 (fun h24 => ?_) (fun h24 => ?_)
      · refine wr_iconst dX7_waitsOf_31 ?_
        exact wr_at (pX7_waitsOf_b32 (n := n) hE hr ih x1 x3 x2 0) ⟨rfl, rfl, rfl, trivial⟩
      · refine wr_iconst dX7_waitsOf_27 ?_
        refine wr_goto 32 dX7_waitsOf_28 ?_
        exact wr_at (pX7_waitsOf_b32 (n := n) hE hr ih x1 x3 x2 1) ⟨rfl, rfl, rfl, trivial⟩
set_option maxRecDepth 100000 in
set_option maxHeartbeats 4000000 in
theorem pX7_waitsOf {E : wE} {n : Nat} (hE : wGE E) {C : cR} {m : mR} {ca : caT} {h : hW} (hr : rep E (C, m) ca h) (x1 : Int)  : WR E (n + 1) yX7_waitsOf cX7_waitsOf 4 (some .int) vI h 0 (wArgs [.ref (aM E 0), .int (iI x1)]) [] (fX7_waitsOf x1 m) := by
  unfold fX7_waitsOf
  refine wr_iconst dX7_waitsOf_0 ?_
  refine wr_istore_n dX7_waitsOf_1 ?_
  refine wr_iconst dX7_waitsOf_2 ?_
  refine wr_istore_n dX7_waitsOf_3 ?_
  exact wr_at (pX7_waitsOf_b4 (n := n) hE hr  fuel0 x1 0 0) ⟨rfl, rfl, rfl, rfl, trivial⟩
set_option maxRecDepth 100000 in
set_option maxHeartbeats 4000000 in
theorem pX7_ahead_b91 {E : wE} {n : Nat} (hE : wGE E) {C : cR} (x4 : Int) (t0 : Int)  (m : mR) (ca : caT) : WF E (n + 10) yX7_ahead cX7_ahead 6 (some .int) vI (fun m : mR => (C, m)) ca 91 (wLs [some (.ref (aM E 0)), none, none, none, some (.int (iI x4))]) [.int (iI t0)] m (fX7_ahead_b91 x4 t0 m) := by
  unfold fX7_ahead_b91
  refine wf_istore dX7_ahead_91 ?_
  refine wf_aload_n dX7_ahead_93 rfl ?_
  refine wf_bipush dX7_ahead_94 ?_
  refine wf_cV (put := fun q => q) dX7_ahead_96 k_RX7_63 b_yX7_brings x_yX7_brings (pX7_brings (n := n + 9) hE 8 _ _) rfl (fun _ => rfl) (fun h hr => rd_mod hr) rfl (fun r96 m96 ca => ?_)
  refine wf_iload dX7_ahead_99 rfl ?_
  refine wf_iload dX7_ahead_101 rfl ?_
  refine wf_isub dX7_ahead_103 ?_
  exact wf_ireturn dX7_ahead_104 ⟨_, rfl, rfl⟩
set_option maxRecDepth 100000 in
set_option maxHeartbeats 4000000 in
theorem pX7_ahead_b61 {E : wE} {n : Nat} (hE : wGE E) {C : cR} (x1 : Int) (x2 : Int) (x3 : Int) (t0 : Int)  (m : mR) (ca : caT) : WF E (n + 10) yX7_ahead cX7_ahead 6 (some .int) vI (fun m : mR => (C, m)) ca 61 (wLs [some (.ref (aM E 0)), some (.int (iI x1)), some (.int (iI x2)), some (.int (iI x3))]) [.int (iI t0)] m (fX7_ahead_b61 x1 x2 x3 t0 m) := by
  unfold fX7_ahead_b61
  refine wf_istore dX7_ahead_61 ?_
  refine wf_aload_n dX7_ahead_63 rfl ?_
  refine wf_iload_n dX7_ahead_64 rfl ?_
  refine wf_cV (put := fun q => q) dX7_ahead_65 k_RX7_275 b_yX7_passesDays x_yX7_passesDays (pX7_passesDays (n := n) hE x2 _ _) rfl (fun _ => rfl) (fun h hr => rd_mod hr) rfl (fun r65 m65 ca => ?_)
  refine wf_pop dX7_ahead_68 ?_
  refine wf_iload_n dX7_ahead_69 rfl ?_
  refine wf_iconst dX7_ahead_70 ?_
  refine wf_gd (fun g71 => ?_)
  refine wf_icmp_ne 82 dX7_ahead_71 g71 (by decide) (fun h71 => ?_) (fun h71 => ?_)
  · refine wf_aload_n dX7_ahead_82 rfl ?_
    refine wf_iload_n dX7_ahead_83 rfl ?_
    refine wf_bipush dX7_ahead_84 ?_
    refine wf_iload_n dX7_ahead_86 rfl ?_
    refine wf_iadd dX7_ahead_87 ?_
    refine wf_rV dX7_ahead_88 k_RX7_151 b_yX7_ofO x_yX7_ofO (fun h hr => pX7_ofO (n := n + 8) hE hr x1 (11 + x3)) (fun h hr => rd_mod hr) rfl (fun r88 => ?_)
    exact wf_at (pX7_ahead_b91 (n := n) hE  t0 r88 _ _) ⟨rfl, rfl, trivial⟩
  · refine wf_aload_n dX7_ahead_74 rfl ?_
    refine wf_iload_n dX7_ahead_75 rfl ?_
    refine wf_rV dX7_ahead_76 k_RX7_213 b_yX7_waitsOf x_yX7_waitsOf (fun h hr => pX7_waitsOf (n := n + 8) hE hr x1) (fun h hr => rd_mod hr) rfl (fun r76 => ?_)
    refine wf_goto 91 dX7_ahead_79 ?_
    exact wf_at (pX7_ahead_b91 (n := n) hE  t0 r76 _ _) ⟨rfl, rfl, trivial⟩
set_option maxRecDepth 100000 in
set_option maxHeartbeats 4000000 in
theorem pX7_ahead {E : wE} {n : Nat} (hE : wGE E) {C : cR} (x1 : Int) (x2 : Int) (x3 : Int)  (m : mR) (ca : caT) : WF E (n + 10) yX7_ahead cX7_ahead 6 (some .int) vI (fun m : mR => (C, m)) ca 0 (wArgs [.ref (aM E 0), .int (iI x1), .int (iI x2), .int (iI x3)]) [] m (fX7_ahead x1 x2 x3 m) := by
  unfold fX7_ahead
  refine wf_aload_n dX7_ahead_0 rfl ?_
  refine wf_iload_n dX7_ahead_1 rfl ?_
  refine wf_rV dX7_ahead_2 k_RX7_173 b_yX7_isOrder x_yX7_isOrder (fun h hr => pX7_isOrder (n := n + 8) hE hr x1) (fun h hr => rd_mod hr) rfl (fun r2 => ?_)
  refine wf_gd (fun g5 => ?_)
  refine wf_if_ne 10 dX7_ahead_5 g5 (fun h5 => ?_) (fun h5 => ?_)
  · refine wf_iload_n dX7_ahead_10 rfl ?_
    refine wf_gd (fun g11 => ?_)
    refine wf_i2l dX7_ahead_11 g11 ?_
    refine wf_lconst1 dX7_ahead_12 ?_
    refine wf_ldc2 dX7_ahead_13 c_RX7_267 ?_
    refine wf_rS dX7_ahead_16 k_RX7_47 b_yX7_isIn x_yX7_isIn (fun h hr => pX7_isIn (n := n + 9) hE x2 1 400) (fun r16 => ?_)
    refine wf_gd (fun g19 => ?_)
    refine wf_if_eq 34 dX7_ahead_19 g19 (fun h19 => ?_) (fun h19 => ?_)
    · refine wf_bipush dX7_ahead_34 ?_
      exact wf_ireturn dX7_ahead_36 ⟨_, rfl, rfl⟩
    · refine wf_iload_n dX7_ahead_22 rfl ?_
      refine wf_gd (fun g23 => ?_)
      refine wf_i2l dX7_ahead_23 g23 ?_
      refine wf_lconst0 dX7_ahead_24 ?_
      refine wf_ldc2 dX7_ahead_25 c_RX7_37 ?_
      refine wf_rS dX7_ahead_28 k_RX7_47 b_yX7_isIn x_yX7_isIn (fun h hr => pX7_isIn (n := n + 9) hE x3 0 3) (fun r28 => ?_)
      refine wf_gd (fun g31 => ?_)
      refine wf_if_ne 37 dX7_ahead_31 g31 (fun h31 => ?_) (fun h31 => ?_)
      · refine wf_aload_n dX7_ahead_37 rfl ?_
        refine wf_bipush dX7_ahead_38 ?_
        refine wf_cV (put := fun q => q) dX7_ahead_40 k_RX7_59 b_yX7_keeps x_yX7_keeps (pX7_keeps (n := n + 9) hE 8 _ _) rfl (fun _ => rfl) (fun h hr => rd_mod hr) rfl (fun r40 m40 ca => ?_)
        refine wf_iload_n dX7_ahead_43 rfl ?_
        refine wf_iconst dX7_ahead_44 ?_
        refine wf_gd (fun g45 => ?_)
        refine wf_icmp_ne 52 dX7_ahead_45 g45 (by decide) (fun h45 => ?_) (fun h45 => ?_)
        · refine wf_aload_n dX7_ahead_52 rfl ?_
          refine wf_iload_n dX7_ahead_53 rfl ?_
          refine wf_bipush dX7_ahead_54 ?_
          refine wf_iload_n dX7_ahead_56 rfl ?_
          refine wf_iadd dX7_ahead_57 ?_
          refine wf_rV dX7_ahead_58 k_RX7_151 b_yX7_ofO x_yX7_ofO (fun h hr => pX7_ofO (n := n + 8) hE hr x1 (11 + x3)) (fun h hr => rd_mod hr) rfl (fun r58 => ?_)
          exact wf_at (pX7_ahead_b61 (n := n) hE  x1 x2 x3 r58 _ _) ⟨rfl, rfl, rfl, rfl, trivial⟩
        · refine wf_iconst dX7_ahead_48 ?_
          refine wf_goto 61 dX7_ahead_49 ?_
          exact wf_at (pX7_ahead_b61 (n := n) hE  x1 x2 x3 0 _ _) ⟨rfl, rfl, rfl, rfl, trivial⟩
      · refine wf_bipush dX7_ahead_34 ?_
        exact wf_ireturn dX7_ahead_36 ⟨_, rfl, rfl⟩
  · refine wf_iconst dX7_ahead_8 ?_
    exact wf_ireturn dX7_ahead_9 ⟨_, rfl, rfl⟩
set_option maxRecDepth 100000 in
set_option maxHeartbeats 4000000 in
theorem pX7_isAccount {E : wE} {n : Nat} (hE : wGE E) {C : cR} {m : mR} {ca : caT} {h : hW} (hr : rep E (C, m) ca h) (x1 : Int)  : WR E (n + 1) yX7_isAccount cX7_isAccount 2 (some .boolean) vI h 0 (wArgs [.ref (aM E 0), .int (iI x1)]) [] (fX7_isAccount x1 m) := by
  unfold fX7_isAccount
  refine wr_iload_n dX7_isAccount_0 rfl ?_
  refine wr_gd (fun g1 => ?_)
  refine wr_i2l dX7_isAccount_1 g1 ?_
  refine wr_lconst0 dX7_isAccount_2 ?_
  refine wr_aload_n dX7_isAccount_3 rfl ?_
  refine wr_get dX7_isAccount_4 f_RX7_7 (rd_mod hr) ?_
  refine wr_iconst dX7_isAccount_7 ?_
  refine wr_lald dX7_isAccount_8 (g := fun j => m.1 0 j) (by decide) (rd_now hr) ?_
  refine wr_lconst1 dX7_isAccount_9 ?_
  refine wr_lsub dX7_isAccount_10 ?_
  refine wr_cS dX7_isAccount_11 k_RX7_47 b_yX7_isIn x_yX7_isIn (pX7_isIn (n := n) hE x1 0 ((m.1 0 1) - 1)) (fun r11 => ?_)
  refine wr_gd (fun g14 => ?_)
  exact wr_ireturn dX7_isAccount_14 ⟨_, rfl, nar_z g14⟩
set_option maxRecDepth 100000 in
set_option maxHeartbeats 4000000 in
theorem pX7_balanceIn {E : wE} {n : Nat} (hE : wGE E) {C : cR} (x1 : Int) (x2 : Int)  (m : mR) (ca : caT) : WF E (n + 10) yX7_balanceIn cX7_balanceIn 5 (some .long) vJ (fun m : mR => (C, m)) ca 0 (wArgs [.ref (aM E 0), .int (iI x1), .int (iI x2)]) [] m (fX7_balanceIn x1 x2 m) := by
  unfold fX7_balanceIn
  refine wf_aload_n dX7_balanceIn_0 rfl ?_
  refine wf_iload_n dX7_balanceIn_1 rfl ?_
  refine wf_rV dX7_balanceIn_2 k_RX7_129 b_yX7_isAccount x_yX7_isAccount (fun h hr => pX7_isAccount (n := n + 8) hE hr x1) (fun h hr => rd_mod hr) rfl (fun r2 => ?_)
  refine wf_gd (fun g5 => ?_)
  refine wf_if_ne 12 dX7_balanceIn_5 g5 (fun h5 => ?_) (fun h5 => ?_)
  · refine wf_iload_n dX7_balanceIn_12 rfl ?_
    refine wf_gd (fun g13 => ?_)
    refine wf_i2l dX7_balanceIn_13 g13 ?_
    refine wf_lconst1 dX7_balanceIn_14 ?_
    refine wf_ldc2 dX7_balanceIn_15 c_RX7_267 ?_
    refine wf_rS dX7_balanceIn_18 k_RX7_47 b_yX7_isIn x_yX7_isIn (fun h hr => pX7_isIn (n := n + 9) hE x2 1 400) (fun r18 => ?_)
    refine wf_gd (fun g21 => ?_)
    refine wf_if_ne 28 dX7_balanceIn_21 g21 (fun h21 => ?_) (fun h21 => ?_)
    · refine wf_aload_n dX7_balanceIn_28 rfl ?_
      refine wf_bipush dX7_balanceIn_29 ?_
      refine wf_cV (put := fun q => q) dX7_balanceIn_31 k_RX7_59 b_yX7_keeps x_yX7_keeps (pX7_keeps (n := n + 9) hE 8 _ _) rfl (fun _ => rfl) (fun h hr => rd_mod hr) rfl (fun r31 m31 ca => ?_)
      refine wf_aload_n dX7_balanceIn_34 rfl ?_
      refine wf_iload_n dX7_balanceIn_35 rfl ?_
      refine wf_cV (put := fun q => q) dX7_balanceIn_36 k_RX7_275 b_yX7_passesDays x_yX7_passesDays (pX7_passesDays (n := n) hE x2 _ _) rfl (fun _ => rfl) (fun h hr => rd_mod hr) rfl (fun r36 m36 ca => ?_)
      refine wf_pop dX7_balanceIn_39 ?_
      refine wf_aload_n dX7_balanceIn_40 rfl ?_
      refine wf_iload_n dX7_balanceIn_41 rfl ?_
      refine wf_iconst dX7_balanceIn_42 ?_
      refine wf_rV dX7_balanceIn_43 k_RX7_141 b_yX7_moneyOf x_yX7_moneyOf (fun h hr => pX7_moneyOf (n := n + 9) hE hr x1 0) (fun h hr => rd_mod hr) rfl (fun r43 => ?_)
      refine wf_lstore_n dX7_balanceIn_46 ?_
      refine wf_aload_n dX7_balanceIn_47 rfl ?_
      refine wf_bipush dX7_balanceIn_48 ?_
      refine wf_cV (put := fun q => q) dX7_balanceIn_50 k_RX7_63 b_yX7_brings x_yX7_brings (pX7_brings (n := n + 9) hE 8 _ _) rfl (fun _ => rfl) (fun h hr => rd_mod hr) rfl (fun r50 m50 ca => ?_)
      refine wf_lload_n dX7_balanceIn_53 rfl ?_
      exact wf_lreturn dX7_balanceIn_54 rfl
    · refine wf_ldc2 dX7_balanceIn_24 c_RX7_280 ?_
      exact wf_lreturn dX7_balanceIn_27 rfl
  · refine wf_ldc2 dX7_balanceIn_8 c_RX7_278 ?_
    exact wf_lreturn dX7_balanceIn_11 rfl
set_option maxRecDepth 100000 in
set_option maxHeartbeats 4000000 in
theorem pX7_bitsOf_b39 {E : wE} {n : Nat} (hE : wGE E) {h : hW} : ∀ (fuel : Nat) (x2 : Int) (x4 : UInt64) , WR E n yX7_bitsOf cX7_bitsOf 6 (some .long) vJ h 39 (wLs [none, none, some (.long (jL x2)), none, some (.double x4)]) [] (fX7_bitsOf_b39 fuel x2 x4) := by
  intro fuel
  induction fuel with
  | zero =>
    intro x2 x4
    exact wr_none
  | succ fuel ih =>
    intro x2 x4
    unfold fX7_bitsOf_b39
    refine wr_dload dX7_bitsOf_39 rfl ?_
    refine wr_dconst1 dX7_bitsOf_41 ?_
    refine wr_dcmp dX7_bitsOf_42 ?_
    refine wr_gd (fun g43 => ?_)
    refine wr_if_ge 61 dX7_bitsOf_43 g43 (fun h43 => ?_) (fun h43 => ?_)
    · refine wr_lload_n dX7_bitsOf_61 rfl ?_
      refine wr_bipush dX7_bitsOf_62 ?_
      refine wr_lshl dX7_bitsOf_64 ?_
      refine wr_dload dX7_bitsOf_65 rfl ?_
      refine wr_dconst1 dX7_bitsOf_67 ?_
      refine wr_gd (fun g68 => ?_)
      refine wr_dsub dX7_bitsOf_68 g68 ?_
      refine wr_ldc2d dX7_bitsOf_69 c_RX7_286 ?_
      refine wr_gd (fun g72 => ?_)
      refine wr_dmul dX7_bitsOf_72 g72 ?_
      refine wr_d2l dX7_bitsOf_73 ?_
      refine wr_ladd dX7_bitsOf_74 ?_
      exact wr_lreturn dX7_bitsOf_75 rfl
    · refine wr_dload dX7_bitsOf_46 rfl ?_
      refine wr_ldc2d dX7_bitsOf_48 c_RX7_284 ?_
      refine wr_gd (fun g51 => ?_)
      refine wr_dmul dX7_bitsOf_51 g51 ?_
      refine wr_dstore dX7_bitsOf_52 ?_
      refine wr_lload_n dX7_bitsOf_54 rfl ?_
      refine wr_lconst1 dX7_bitsOf_55 ?_
      refine wr_lsub dX7_bitsOf_56 ?_
      refine wr_lstore_n dX7_bitsOf_57 ?_
      refine wr_goto 39 dX7_bitsOf_58 ?_
      exact wr_at (ih (x2 - 1) (FP.dmul x4 4611686018427387904)) ⟨rfl, rfl, trivial⟩
set_option maxRecDepth 100000 in
set_option maxHeartbeats 4000000 in
theorem pX7_bitsOf_b15 {E : wE} {n : Nat} (hE : wGE E) {h : hW} : ∀ (fuel : Nat) (x2 : Int) (x4 : UInt64) , WR E n yX7_bitsOf cX7_bitsOf 6 (some .long) vJ h 15 (wLs [none, none, some (.long (jL x2)), none, some (.double x4)]) [] (fX7_bitsOf_b15 fuel x2 x4) := by
  intro fuel
  induction fuel with
  | zero =>
    intro x2 x4
    exact wr_none
  | succ fuel ih =>
    intro x2 x4
    unfold fX7_bitsOf_b15
    refine wr_dload dX7_bitsOf_15 rfl ?_
    refine wr_ldc2d dX7_bitsOf_17 c_RX7_284 ?_
    refine wr_dcmp dX7_bitsOf_20 ?_
    refine wr_gd (fun g21 => ?_)
    refine wr_if_lt 39 dX7_bitsOf_21 g21 (fun h21 => ?_) (fun h21 => ?_)
    · exact wr_at (pX7_bitsOf_b39 (n := n) hE  fuel0 x2 x4) ⟨rfl, rfl, trivial⟩
    · refine wr_dload dX7_bitsOf_24 rfl ?_
      refine wr_ldc2d dX7_bitsOf_26 c_RX7_284 ?_
      refine wr_gd (fun g29 => ?_)
      refine wr_ddiv dX7_bitsOf_29 g29 ?_
      refine wr_dstore dX7_bitsOf_30 ?_
      refine wr_lload_n dX7_bitsOf_32 rfl ?_
      refine wr_lconst1 dX7_bitsOf_33 ?_
      refine wr_ladd dX7_bitsOf_34 ?_
      refine wr_lstore_n dX7_bitsOf_35 ?_
      refine wr_goto 15 dX7_bitsOf_36 ?_
      exact wr_at (ih (x2 + 1) (FP.ddiv x4 4611686018427387904)) ⟨rfl, rfl, trivial⟩
set_option maxRecDepth 100000 in
set_option maxHeartbeats 4000000 in
theorem pX7_bitsOf {E : wE} {n : Nat} (hE : wGE E) {h : hW} (x0 : UInt64)  : WR E n yX7_bitsOf cX7_bitsOf 6 (some .long) vJ h 0 (wArgs [.double x0]) [] (fX7_bitsOf x0) := by
  unfold fX7_bitsOf
  refine wr_dload_n dX7_bitsOf_0 rfl ?_
  refine wr_dconst0 dX7_bitsOf_1 ?_
  refine wr_dcmp dX7_bitsOf_2 ?_
  refine wr_gd (fun g3 => ?_)
  refine wr_if_ne 8 dX7_bitsOf_3 g3 (fun h3 => ?_) (fun h3 => ?_)
  · refine wr_ldc2 dX7_bitsOf_8 c_RX7_282 ?_
    refine wr_lstore_n dX7_bitsOf_11 ?_
    refine wr_dload_n dX7_bitsOf_12 rfl ?_
    refine wr_dstore dX7_bitsOf_13 ?_
    exact wr_at (pX7_bitsOf_b15 (n := n) hE  fuel0 1023 x0) ⟨rfl, rfl, trivial⟩
  · refine wr_lconst0 dX7_bitsOf_6 ?_
    exact wr_lreturn dX7_bitsOf_7 rfl
set_option maxRecDepth 100000 in
set_option maxHeartbeats 4000000 in
theorem pX7_checksDays {E : wE} {n : Nat} (hE : wGE E) {C : cR} {m : mR} {ca : caT} {h : hW} (hr : rep E (C, m) ca h) (x1 : Int)  : WR E (n + 2) yX7_checksDays cX7_checksDays 2 (some .int) vI h 0 (wArgs [.ref (aM E 0), .int (iI x1)]) [] (fX7_checksDays x1 m) := by
  unfold fX7_checksDays
  refine wr_iload_n dX7_checksDays_0 rfl ?_
  refine wr_gd (fun g1 => ?_)
  refine wr_i2l dX7_checksDays_1 g1 ?_
  refine wr_lconst1 dX7_checksDays_2 ?_
  refine wr_ldc2 dX7_checksDays_3 c_RX7_267 ?_
  refine wr_cS dX7_checksDays_6 k_RX7_47 b_yX7_isIn x_yX7_isIn (pX7_isIn (n := n + 1) hE x1 1 400) (fun r6 => ?_)
  refine wr_gd (fun g9 => ?_)
  refine wr_if_ne 15 dX7_checksDays_9 g9 (fun h9 => ?_) (fun h9 => ?_)
  · refine wr_aload_n dX7_checksDays_15 rfl ?_
    refine wr_cV dX7_checksDays_16 k_RX7_66 b_yX7_today x_yX7_today (pX7_today (n := n) hE hr) (rd_mod hr) rfl (fun r16 => ?_)
    refine wr_iload_n dX7_checksDays_19 rfl ?_
    refine wr_iadd dX7_checksDays_20 ?_
    refine wr_sipush dX7_checksDays_21 ?_
    refine wr_gd (fun g24 => ?_)
    refine wr_icmp_le 32 dX7_checksDays_24 g24 (by decide) (fun h24 => ?_) (fun h24 => ?_)
    · refine wr_iconst dX7_checksDays_32 ?_
      exact wr_ireturn dX7_checksDays_33 ⟨_, rfl, rfl⟩
    · refine wr_bipush dX7_checksDays_27 ?_
      refine wr_goto 33 dX7_checksDays_29 ?_
      exact wr_ireturn dX7_checksDays_33 ⟨_, rfl, rfl⟩
  · refine wr_bipush dX7_checksDays_12 ?_
    exact wr_ireturn dX7_checksDays_14 ⟨_, rfl, rfl⟩
set_option maxRecDepth 100000 in
set_option maxHeartbeats 4000000 in
theorem pX7_checksDeposit {E : wE} {n : Nat} (hE : wGE E) {C : cR} {m : mR} {ca : caT} {h : hW} (hr : rep E (C, m) ca h) (x1 : Int) (x2 : Int)  : WR E (n + 2) yX7_checksDeposit cX7_checksDeposit 3 (some .int) vI h 0 (wArgs [.ref (aM E 0), .int (iI x1), .int (iI x2)]) [] (fX7_checksDeposit x1 x2 m) := by
  unfold fX7_checksDeposit
  refine wr_aload_n dX7_checksDeposit_0 rfl ?_
  refine wr_iload_n dX7_checksDeposit_1 rfl ?_
  refine wr_cV dX7_checksDeposit_2 k_RX7_129 b_yX7_isAccount x_yX7_isAccount (pX7_isAccount (n := n) hE hr x1) (rd_mod hr) rfl (fun r2 => ?_)
  refine wr_gd (fun g5 => ?_)
  refine wr_if_ne 10 dX7_checksDeposit_5 g5 (fun h5 => ?_) (fun h5 => ?_)
  · refine wr_iload_n dX7_checksDeposit_10 rfl ?_
    refine wr_gd (fun g11 => ?_)
    refine wr_i2l dX7_checksDeposit_11 g11 ?_
    refine wr_lconst1 dX7_checksDeposit_12 ?_
    refine wr_ldc2 dX7_checksDeposit_13 c_RX7_135 ?_
    refine wr_cS dX7_checksDeposit_16 k_RX7_47 b_yX7_isIn x_yX7_isIn (pX7_isIn (n := n + 1) hE x2 1 100000000) (fun r16 => ?_)
    refine wr_gd (fun g19 => ?_)
    refine wr_if_eq 26 dX7_checksDeposit_19 g19 (fun h19 => ?_) (fun h19 => ?_)
    · refine wr_bipush dX7_checksDeposit_26 ?_
      exact wr_ireturn dX7_checksDeposit_28 ⟨_, rfl, rfl⟩
    · refine wr_iconst dX7_checksDeposit_22 ?_
      refine wr_goto 28 dX7_checksDeposit_23 ?_
      exact wr_ireturn dX7_checksDeposit_28 ⟨_, rfl, rfl⟩
  · refine wr_iconst dX7_checksDeposit_8 ?_
    exact wr_ireturn dX7_checksDeposit_9 ⟨_, rfl, rfl⟩
set_option maxRecDepth 100000 in
set_option maxHeartbeats 4000000 in
theorem pX7_checksState {E : wE} {n : Nat} (hE : wGE E) {C : cR} {m : mR} {ca : caT} {h : hW} (hr : rep E (C, m) ca h) (x1 : Int) (x2 : Int)  : WR E (n + 2) yX7_checksState cX7_checksState 3 (some .int) vI h 0 (wArgs [.ref (aM E 0), .int (iI x1), .int (iI x2)]) [] (fX7_checksState x1 x2 m) := by
  unfold fX7_checksState
  refine wr_aload_n dX7_checksState_0 rfl ?_
  refine wr_iload_n dX7_checksState_1 rfl ?_
  refine wr_cV dX7_checksState_2 k_RX7_173 b_yX7_isOrder x_yX7_isOrder (pX7_isOrder (n := n) hE hr x1) (rd_mod hr) rfl (fun r2 => ?_)
  refine wr_gd (fun g5 => ?_)
  refine wr_if_ne 10 dX7_checksState_5 g5 (fun h5 => ?_) (fun h5 => ?_)
  · refine wr_aload_n dX7_checksState_10 rfl ?_
    refine wr_iload_n dX7_checksState_11 rfl ?_
    refine wr_bipush dX7_checksState_12 ?_
    refine wr_cV dX7_checksState_14 k_RX7_151 b_yX7_ofO x_yX7_ofO (pX7_ofO (n := n) hE hr x1 10) (rd_mod hr) rfl (fun r14 => ?_)
    refine wr_iload_n dX7_checksState_17 rfl ?_
    refine wr_gd (fun g18 => ?_)
    refine wr_icmp_ne 25 dX7_checksState_18 g18.1 g18.2 (fun h18 => ?_) (fun h18 => ?_)
    · refine wr_bipush dX7_checksState_25 ?_
      exact wr_ireturn dX7_checksState_27 ⟨_, rfl, rfl⟩
    · refine wr_iconst dX7_checksState_21 ?_
      refine wr_goto 27 dX7_checksState_22 ?_
      exact wr_ireturn dX7_checksState_27 ⟨_, rfl, rfl⟩
  · refine wr_iconst dX7_checksState_8 ?_
    exact wr_ireturn dX7_checksState_9 ⟨_, rfl, rfl⟩
set_option maxRecDepth 100000 in
set_option maxHeartbeats 4000000 in
theorem pX7_deposits {E : wE} {n : Nat} (hE : wGE E) {C : cR} (x1 : Int) (x2 : Int)  (m : mR) (ca : caT) : WF E (n + 1) yX7_deposits cX7_deposits 3 (some .int) vI (fun m : mR => (C, m)) ca 0 (wArgs [.ref (aM E 0), .int (iI x1), .int (iI x2)]) [] m (fX7_deposits x1 x2 m) := by
  unfold fX7_deposits
  refine wf_aload_n dX7_deposits_0 rfl ?_
  refine wf_iload_n dX7_deposits_1 rfl ?_
  refine wf_iconst dX7_deposits_2 ?_
  refine wf_iload_n dX7_deposits_3 rfl ?_
  refine wf_gd (fun g4 => ?_)
  refine wf_i2l dX7_deposits_4 g4 ?_
  refine wf_cV (put := fun q => q) dX7_deposits_5 k_RX7_137 b_yX7_moves x_yX7_moves (pX7_moves (n := n) hE x1 0 x2 _ _) rfl (fun _ => rfl) (fun h hr => rd_mod hr) rfl (fun r5 m5 ca => ?_)
  refine wf_aload_n dX7_deposits_8 rfl ?_
  refine wf_iload_n dX7_deposits_9 rfl ?_
  refine wf_iconst dX7_deposits_10 ?_
  refine wf_iload_n dX7_deposits_11 rfl ?_
  refine wf_gd (fun g12 => ?_)
  refine wf_i2l dX7_deposits_12 g12 ?_
  refine wf_cV (put := fun q => q) dX7_deposits_13 k_RX7_137 b_yX7_moves x_yX7_moves (pX7_moves (n := n) hE x1 1 x2 _ _) rfl (fun _ => rfl) (fun h hr => rd_mod hr) rfl (fun r13 m13 ca => ?_)
  refine wf_aload_n dX7_deposits_16 rfl ?_
  refine wf_iload_n dX7_deposits_17 rfl ?_
  refine wf_iconst dX7_deposits_18 ?_
  refine wf_rV dX7_deposits_19 k_RX7_141 b_yX7_moneyOf x_yX7_moneyOf (fun h hr => pX7_moneyOf (n := n) hE hr x1 0) (fun h hr => rd_mod hr) rfl (fun r19 => ?_)
  refine wf_lconst0 dX7_deposits_22 ?_
  refine wf_gd (fun g23 => ?_)
  refine wf_jcmp_lt 31 dX7_deposits_23 dX7_deposits_24 g23 (by decide) (fun h23 => ?_) (fun h23 => ?_)
  · refine wf_iconst dX7_deposits_31 ?_
    exact wf_ireturn dX7_deposits_32 ⟨_, rfl, rfl⟩
  · refine wf_iconst dX7_deposits_27 ?_
    refine wf_goto 32 dX7_deposits_28 ?_
    exact wf_ireturn dX7_deposits_32 ⟨_, rfl, rfl⟩
set_option maxRecDepth 100000 in
set_option maxHeartbeats 4000000 in
theorem pX7_checksOrder_b100 {E : wE} {n : Nat} (hE : wGE E) {C : cR} {m : mR} {ca : caT} {h : hW} (hr : rep E (C, m) ca h) (x2 : Int) (x4 : Int) (x5 : Int) (x6 : Int) (t0 : Int)  : WR E (n + 2) yX7_checksOrder cX7_checksOrder 10 (some .int) vI h 100 (wLs [some (.ref (aM E 0)), none, some (.int (iI x2)), none, some (.int (iI x4)), some (.int (iI x5)), some (.int (iI x6))]) [.int (iI t0)] (fX7_checksOrder_b100 m x2 x4 x5 x6 t0) := by
  unfold fX7_checksOrder_b100
  refine wr_istore dX7_checksOrder_100 ?_
  refine wr_iload_n dX7_checksOrder_102 rfl ?_
  refine wr_gd (fun g103 => ?_)
  refine wr_i2l dX7_checksOrder_103 g103 ?_
  refine wr_lconst1 dX7_checksOrder_104 ?_
  refine wr_ldc2 dX7_checksOrder_105 c_RX7_123 ?_
  refine wr_cS dX7_checksOrder_108 k_RX7_47 b_yX7_isIn x_yX7_isIn (pX7_isIn (n := n + 1) hE x2 1 1000000) (fun r108 => ?_)
  refine wr_gd (fun g111 => ?_)
  refine wr_if_eq 162 dX7_checksOrder_111 g111 (fun h111 => ?_) (fun h111 => ?_)
  · refine wr_bipush dX7_checksOrder_162 ?_
    exact wr_ireturn dX7_checksOrder_164 ⟨_, rfl, rfl⟩
  · refine wr_iload dX7_checksOrder_114 rfl ?_
    refine wr_gd (fun g116 => ?_)
    refine wr_if_eq 162 dX7_checksOrder_116 g116 (fun h116 => ?_) (fun h116 => ?_)
    · refine wr_bipush dX7_checksOrder_162 ?_
      exact wr_ireturn dX7_checksOrder_164 ⟨_, rfl, rfl⟩
    · refine wr_iload dX7_checksOrder_119 rfl ?_
      refine wr_gd (fun g121 => ?_)
      refine wr_i2l dX7_checksOrder_121 g121 ?_
      refine wr_aload_n dX7_checksOrder_122 rfl ?_
      refine wr_cV dX7_checksOrder_123 k_RX7_66 b_yX7_today x_yX7_today (pX7_today (n := n) hE hr) (rd_mod hr) rfl (fun r123 => ?_)
      refine wr_gd (fun g126 => ?_)
      refine wr_i2l dX7_checksOrder_126 g126 ?_
      refine wr_ldc2 dX7_checksOrder_127 c_RX7_73 ?_
      refine wr_cS dX7_checksOrder_130 k_RX7_47 b_yX7_isIn x_yX7_isIn (pX7_isIn (n := n + 1) hE x4 r123 1094) (fun r130 => ?_)
      refine wr_gd (fun g133 => ?_)
      refine wr_if_eq 162 dX7_checksOrder_133 g133 (fun h133 => ?_) (fun h133 => ?_)
      · refine wr_bipush dX7_checksOrder_162 ?_
        exact wr_ireturn dX7_checksOrder_164 ⟨_, rfl, rfl⟩
      · refine wr_iload dX7_checksOrder_136 rfl ?_
        refine wr_gd (fun g138 => ?_)
        refine wr_i2l dX7_checksOrder_138 g138 ?_
        refine wr_lconst0 dX7_checksOrder_139 ?_
        refine wr_ldc2 dX7_checksOrder_140 c_RX7_184 ?_
        refine wr_cS dX7_checksOrder_143 k_RX7_47 b_yX7_isIn x_yX7_isIn (pX7_isIn (n := n + 1) hE x5 0 49) (fun r143 => ?_)
        refine wr_gd (fun g146 => ?_)
        refine wr_if_eq 162 dX7_checksOrder_146 g146 (fun h146 => ?_) (fun h146 => ?_)
        · refine wr_bipush dX7_checksOrder_162 ?_
          exact wr_ireturn dX7_checksOrder_164 ⟨_, rfl, rfl⟩
        · refine wr_iload dX7_checksOrder_149 rfl ?_
          refine wr_gd (fun g151 => ?_)
          refine wr_i2l dX7_checksOrder_151 g151 ?_
          refine wr_lconst0 dX7_checksOrder_152 ?_
          refine wr_ldc2 dX7_checksOrder_153 c_RX7_176 ?_
          refine wr_cS dX7_checksOrder_156 k_RX7_47 b_yX7_isIn x_yX7_isIn (pX7_isIn (n := n + 1) hE x6 0 99) (fun r156 => ?_)
          refine wr_gd (fun g159 => ?_)
          refine wr_if_ne 165 dX7_checksOrder_159 g159 (fun h159 => ?_) (fun h159 => ?_)
          · refine wr_aload_n dX7_checksOrder_165 rfl ?_
            refine wr_get dX7_checksOrder_166 f_RX7_7 (rd_mod hr) ?_
            refine wr_iconst dX7_checksOrder_169 ?_
            refine wr_lald dX7_checksOrder_170 (g := fun j => m.1 0 j) (by decide) (rd_now hr) ?_
            refine wr_ldc2 dX7_checksOrder_171 c_RX7_186 ?_
            refine wr_gd (fun g174 => ?_)
            refine wr_jcmp_ne 183 dX7_checksOrder_174 dX7_checksOrder_175 g174 (by decide) (fun h174 => ?_) (fun h174 => ?_)
            · refine wr_iconst dX7_checksOrder_183 ?_
              exact wr_ireturn dX7_checksOrder_184 ⟨_, rfl, rfl⟩
            · refine wr_bipush dX7_checksOrder_178 ?_
              refine wr_goto 184 dX7_checksOrder_180 ?_
              exact wr_ireturn dX7_checksOrder_184 ⟨_, rfl, rfl⟩
          · refine wr_bipush dX7_checksOrder_162 ?_
            exact wr_ireturn dX7_checksOrder_164 ⟨_, rfl, rfl⟩
set_option maxRecDepth 100000 in
set_option maxHeartbeats 4000000 in
theorem pX7_checksOrder_b41 {E : wE} {n : Nat} (hE : wGE E) {C : cR} {m : mR} {ca : caT} {h : hW} (hr : rep E (C, m) ca h) (x2 : Int) (x3 : Int) (x4 : Int) (x5 : Int) (x6 : Int) (x7 : Int) (x8 : Int)  : WR E (n + 2) yX7_checksOrder cX7_checksOrder 10 (some .int) vI h 41 (wLs [some (.ref (aM E 0)), none, some (.int (iI x2)), some (.int (iI x3)), some (.int (iI x4)), some (.int (iI x5)), some (.int (iI x6)), some (.int (iI x7)), some (.int (iI x8))]) [] (fX7_checksOrder_b41 m x2 x3 x4 x5 x6 x7 x8) := by
  unfold fX7_checksOrder_b41
  refine wr_iload dX7_checksOrder_41 rfl ?_
  refine wr_iload dX7_checksOrder_43 rfl ?_
  refine wr_gd (fun g45 => ?_)
  refine wr_icmp_ne 50 dX7_checksOrder_45 g45.1 g45.2 (fun h45 => ?_) (fun h45 => ?_)
  · refine wr_iload_n dX7_checksOrder_50 rfl ?_
    refine wr_gd (fun g51 => ?_)
    refine wr_i2l dX7_checksOrder_51 g51 ?_
    refine wr_lconst0 dX7_checksOrder_52 ?_
    refine wr_ldc2 dX7_checksOrder_53 c_RX7_178 ?_
    refine wr_cS dX7_checksOrder_56 k_RX7_47 b_yX7_isIn x_yX7_isIn (pX7_isIn (n := n + 1) hE x3 0 39999) (fun r56 => ?_)
    refine wr_gd (fun g59 => ?_)
    refine wr_if_eq 99 dX7_checksOrder_59 g59 (fun h59 => ?_) (fun h59 => ?_)
    · refine wr_iconst dX7_checksOrder_99 ?_
      exact wr_at (pX7_checksOrder_b100 (n := n) hE hr  x2 x4 x5 x6 0) ⟨rfl, rfl, rfl, rfl, rfl, trivial⟩
    · refine wr_iload_n dX7_checksOrder_62 rfl ?_
      refine wr_bipush dX7_checksOrder_63 ?_
      refine wr_gd (fun g65 => ?_)
      refine wr_idiv dX7_checksOrder_65 g65 (by decide) ?_
      refine wr_bipush dX7_checksOrder_66 ?_
      refine wr_gd (fun g68 => ?_)
      refine wr_irem dX7_checksOrder_68 g68 (by decide) ?_
      refine wr_gd (fun g69 => ?_)
      refine wr_i2l dX7_checksOrder_69 g69 ?_
      refine wr_lconst1 dX7_checksOrder_70 ?_
      refine wr_ldc2 dX7_checksOrder_71 c_RX7_180 ?_
      refine wr_cS dX7_checksOrder_74 k_RX7_47 b_yX7_isIn x_yX7_isIn (pX7_isIn (n := n + 1) hE (rmI (dvI x3 100) 100) 1 12) (fun r74 => ?_)
      refine wr_gd (fun g77 => ?_)
      refine wr_if_eq 99 dX7_checksOrder_77 g77 (fun h77 => ?_) (fun h77 => ?_)
      · refine wr_iconst dX7_checksOrder_99 ?_
        exact wr_at (pX7_checksOrder_b100 (n := n) hE hr  x2 x4 x5 x6 0) ⟨rfl, rfl, rfl, rfl, rfl, trivial⟩
      · refine wr_iload_n dX7_checksOrder_80 rfl ?_
        refine wr_bipush dX7_checksOrder_81 ?_
        refine wr_gd (fun g83 => ?_)
        refine wr_irem dX7_checksOrder_83 g83 (by decide) ?_
        refine wr_gd (fun g84 => ?_)
        refine wr_i2l dX7_checksOrder_84 g84 ?_
        refine wr_lconst1 dX7_checksOrder_85 ?_
        refine wr_ldc2 dX7_checksOrder_86 c_RX7_182 ?_
        refine wr_cS dX7_checksOrder_89 k_RX7_47 b_yX7_isIn x_yX7_isIn (pX7_isIn (n := n + 1) hE (rmI x3 100) 1 31) (fun r89 => ?_)
        refine wr_gd (fun g92 => ?_)
        refine wr_if_eq 99 dX7_checksOrder_92 g92 (fun h92 => ?_) (fun h92 => ?_)
        · refine wr_iconst dX7_checksOrder_99 ?_
          exact wr_at (pX7_checksOrder_b100 (n := n) hE hr  x2 x4 x5 x6 0) ⟨rfl, rfl, rfl, rfl, rfl, trivial⟩
        · refine wr_iconst dX7_checksOrder_95 ?_
          refine wr_goto 100 dX7_checksOrder_96 ?_
          exact wr_at (pX7_checksOrder_b100 (n := n) hE hr  x2 x4 x5 x6 1) ⟨rfl, rfl, rfl, rfl, rfl, trivial⟩
  · refine wr_iconst dX7_checksOrder_48 ?_
    exact wr_ireturn dX7_checksOrder_49 ⟨_, rfl, rfl⟩
set_option maxRecDepth 100000 in
set_option maxHeartbeats 4000000 in
theorem pX7_checksOrder {E : wE} {n : Nat} (hE : wGE E) {C : cR} {m : mR} {ca : caT} {h : hW} (hr : rep E (C, m) ca h) (x1 : Int) (x2 : Int) (x3 : Int) (x4 : Int) (x5 : Int) (x6 : Int)  : WR E (n + 2) yX7_checksOrder cX7_checksOrder 10 (some .int) vI h 0 (wArgs [.ref (aM E 0), .int (iI x1), .int (iI x2), .int (iI x3), .int (iI x4), .int (iI x5), .int (iI x6)]) [] (fX7_checksOrder x1 x2 x3 x4 x5 x6 m) := by
  unfold fX7_checksOrder
  refine wr_iload_n dX7_checksOrder_0 rfl ?_
  refine wr_bipush dX7_checksOrder_1 ?_
  refine wr_gd (fun g3 => ?_)
  refine wr_idiv dX7_checksOrder_3 g3 (by decide) ?_
  refine wr_istore dX7_checksOrder_4 ?_
  refine wr_iload_n dX7_checksOrder_6 rfl ?_
  refine wr_bipush dX7_checksOrder_7 ?_
  refine wr_gd (fun g9 => ?_)
  refine wr_irem dX7_checksOrder_9 g9 (by decide) ?_
  refine wr_istore dX7_checksOrder_10 ?_
  refine wr_iload_n dX7_checksOrder_12 rfl ?_
  refine wr_gd (fun g13 => ?_)
  refine wr_if_lt 48 dX7_checksOrder_13 g13 (fun h13 => ?_) (fun h13 => ?_)
  · refine wr_iconst dX7_checksOrder_48 ?_
    exact wr_ireturn dX7_checksOrder_49 ⟨_, rfl, rfl⟩
  · refine wr_aload_n dX7_checksOrder_16 rfl ?_
    refine wr_iload dX7_checksOrder_17 rfl ?_
    refine wr_cV dX7_checksOrder_19 k_RX7_129 b_yX7_isAccount x_yX7_isAccount (pX7_isAccount (n := n) hE hr (dvI x1 9)) (rd_mod hr) rfl (fun r19 => ?_)
    refine wr_gd (fun g22 => ?_)
    refine wr_if_eq 48 dX7_checksOrder_22 g22 (fun h22 => ?_) (fun h22 => ?_)
    · refine wr_iconst dX7_checksOrder_48 ?_
      exact wr_ireturn dX7_checksOrder_49 ⟨_, rfl, rfl⟩
    · refine wr_iload dX7_checksOrder_25 rfl ?_
      refine wr_bipush dX7_checksOrder_27 ?_
      refine wr_gd (fun g29 => ?_)
      refine wr_icmp_eq 41 dX7_checksOrder_29 g29 (by decide) (fun h29 => ?_) (fun h29 => ?_)
      · exact wr_at (pX7_checksOrder_b41 (n := n) hE hr  x2 x3 x4 x5 x6 (dvI x1 9) (rmI x1 9)) ⟨rfl, rfl, rfl, rfl, rfl, rfl, rfl, rfl, trivial⟩
      · refine wr_aload_n dX7_checksOrder_32 rfl ?_
        refine wr_iload dX7_checksOrder_33 rfl ?_
        refine wr_cV dX7_checksOrder_35 k_RX7_129 b_yX7_isAccount x_yX7_isAccount (pX7_isAccount (n := n) hE hr (rmI x1 9)) (rd_mod hr) rfl (fun r35 => ?_)
        refine wr_gd (fun g38 => ?_)
        refine wr_if_eq 48 dX7_checksOrder_38 g38 (fun h38 => ?_) (fun h38 => ?_)
        · refine wr_iconst dX7_checksOrder_48 ?_
          exact wr_ireturn dX7_checksOrder_49 ⟨_, rfl, rfl⟩
        · exact wr_at (pX7_checksOrder_b41 (n := n) hE hr  x2 x3 x4 x5 x6 (dvI x1 9) (rmI x1 9)) ⟨rfl, rfl, rfl, rfl, rfl, rfl, rfl, rfl, trivial⟩
set_option maxRecDepth 100000 in
set_option maxHeartbeats 4000000 in
theorem pX7_leavesOut_b15 {E : wE} {n : Nat} (hE : wGE E) {C : cR} : ∀ (fuel : Nat) (x1 : Int) (x2 : Int) (x3 : Int)  (m : mR) (ca : caT), WF E (n + 7) yX7_leavesOut cX7_leavesOut 4 (some .int) vI (fun m : mR => (C, m)) ca 15 (wLs [some (.ref (aM E 0)), some (.int (iI x1)), some (.int (iI x2)), some (.int (iI x3))]) [] m (fX7_leavesOut_b15 fuel x1 x2 x3 m) := by
  intro fuel
  induction fuel with
  | zero =>
    intro x1 x2 x3 m ca
    exact wf_none
  | succ fuel ih =>
    intro x1 x2 x3 m ca
    unfold fX7_leavesOut_b15
    refine wf_iload_n dX7_leavesOut_15 rfl ?_
    refine wf_bipush dX7_leavesOut_16 ?_
    refine wf_gd (fun g18 => ?_)
    refine wf_icmp_eq 59 dX7_leavesOut_18 g18 (by decide) (fun h18 => ?_) (fun h18 => ?_)
    · refine wf_iload_n dX7_leavesOut_59 rfl ?_
      exact wf_ireturn dX7_leavesOut_60 ⟨_, rfl, rfl⟩
    · refine wf_aload_n dX7_leavesOut_21 rfl ?_
      refine wf_iload_n dX7_leavesOut_22 rfl ?_
      refine wf_iload_n dX7_leavesOut_23 rfl ?_
      refine wf_rV dX7_leavesOut_24 k_RX7_166 b_yX7_dateBy x_yX7_dateBy (fun h hr => pX7_dateBy (n := n) hE hr x1 x3) (fun h hr => rd_mod hr) rfl (fun r24 => ?_)
      refine wf_aload_n dX7_leavesOut_27 rfl ?_
      refine wf_rV dX7_leavesOut_28 k_RX7_66 b_yX7_today x_yX7_today (fun h hr => pX7_today (n := n + 5) hE hr) (fun h hr => rd_mod hr) rfl (fun r28 => ?_)
      refine wf_gd (fun g31 => ?_)
      refine wf_icmp_ge 59 dX7_leavesOut_31 g31.1 g31.2 (fun h31 => ?_) (fun h31 => ?_)
      · refine wf_iload_n dX7_leavesOut_59 rfl ?_
        exact wf_ireturn dX7_leavesOut_60 ⟨_, rfl, rfl⟩
      · refine wf_iinc dX7_leavesOut_34 rfl ?_
        refine wf_aload_n dX7_leavesOut_37 rfl ?_
        refine wf_iload_n dX7_leavesOut_38 rfl ?_
        refine wf_bipush dX7_leavesOut_39 ?_
        refine wf_iload_n dX7_leavesOut_41 rfl ?_
        refine wf_iconst dX7_leavesOut_42 ?_
        refine wf_iadd dX7_leavesOut_43 ?_
        refine wf_cV (put := fun q => q) dX7_leavesOut_44 k_RX7_169 b_yX7_becomes x_yX7_becomes (pX7_becomes (n := n + 6) hE x1 14 (x3 + 1) _ _) rfl (fun _ => rfl) (fun h hr => rd_mod hr) rfl (fun r44 m44 ca => ?_)
        refine wf_aload_n dX7_leavesOut_47 rfl ?_
        refine wf_iload_n dX7_leavesOut_48 rfl ?_
        refine wf_iload_n dX7_leavesOut_49 rfl ?_
        refine wf_iconst dX7_leavesOut_50 ?_
        refine wf_iadd dX7_leavesOut_51 ?_
        refine wf_rV dX7_leavesOut_52 k_RX7_163 b_yX7_occurrence x_yX7_occurrence (fun h hr => pX7_occurrence (n := n) hE hr x1 (x3 + 1)) (fun h hr => rd_mod hr) rfl (fun r52 => ?_)
        refine wf_istore_n dX7_leavesOut_55 ?_
        refine wf_goto 15 dX7_leavesOut_56 ?_
        exact wf_at (ih x1 (x2 + 1) r52 _ _) ⟨rfl, rfl, rfl, rfl, trivial⟩
set_option maxRecDepth 100000 in
set_option maxHeartbeats 4000000 in
theorem pX7_leavesOut {E : wE} {n : Nat} (hE : wGE E) {C : cR} (x1 : Int)  (m : mR) (ca : caT) : WF E (n + 7) yX7_leavesOut cX7_leavesOut 4 (some .int) vI (fun m : mR => (C, m)) ca 0 (wArgs [.ref (aM E 0), .int (iI x1)]) [] m (fX7_leavesOut x1 m) := by
  unfold fX7_leavesOut
  refine wf_iconst dX7_leavesOut_0 ?_
  refine wf_istore_n dX7_leavesOut_1 ?_
  refine wf_aload_n dX7_leavesOut_2 rfl ?_
  refine wf_iload_n dX7_leavesOut_3 rfl ?_
  refine wf_aload_n dX7_leavesOut_4 rfl ?_
  refine wf_iload_n dX7_leavesOut_5 rfl ?_
  refine wf_bipush dX7_leavesOut_6 ?_
  refine wf_rV dX7_leavesOut_8 k_RX7_151 b_yX7_ofO x_yX7_ofO (fun h hr => pX7_ofO (n := n + 5) hE hr x1 14) (fun h hr => rd_mod hr) rfl (fun r8 => ?_)
  refine wf_rV dX7_leavesOut_11 k_RX7_163 b_yX7_occurrence x_yX7_occurrence (fun h hr => pX7_occurrence (n := n) hE hr x1 r8) (fun h hr => rd_mod hr) rfl (fun r11 => ?_)
  refine wf_istore_n dX7_leavesOut_14 ?_
  exact wf_at (pX7_leavesOut_b15 (n := n) hE  fuel0 x1 0 r11 _ _) ⟨rfl, rfl, rfl, rfl, trivial⟩
set_option maxRecDepth 100000 in
set_option maxHeartbeats 4000000 in
theorem pX7_makes_b170 {E : wE} {n : Nat} (hE : wGE E) {C : cR} (x7 : Int) (t1 : Int) (t2 : Int) (t3 : Int)  (m : mR) (ca : caT) : WF E (n + 8) yX7_makes cX7_makes 9 (some .int) vI (fun m : mR => (C, m)) ca 170 (wLs [some (.ref (aM E 0)), none, none, none, none, none, none, some (.int (iI x7))]) [.int (iI t3), .int (iI t2), .int (iI t1), .ref (aM E 0)] m (fX7_makes_b170 x7 t1 t2 t3 m) := by
  unfold fX7_makes_b170
  refine wf_cV (put := fun q => q) dX7_makes_170 k_RX7_169 b_yX7_becomes x_yX7_becomes (pX7_becomes (n := n + 7) hE t1 t2 t3 _ _) rfl (fun _ => rfl) (fun h hr => rd_mod hr) rfl (fun r170 m170 ca => ?_)
  refine wf_aload_n dX7_makes_173 rfl ?_
  refine wf_iload dX7_makes_174 rfl ?_
  refine wf_cV (put := fun q => q) dX7_makes_176 k_RX7_188 b_yX7_leavesOut x_yX7_leavesOut (pX7_leavesOut (n := n) hE x7 _ _) rfl (fun _ => rfl) (fun h hr => rd_mod hr) rfl (fun r176 m176 ca => ?_)
  refine wf_pop dX7_makes_179 ?_
  refine wf_iload dX7_makes_180 rfl ?_
  exact wf_ireturn dX7_makes_182 ⟨_, rfl, rfl⟩
set_option maxRecDepth 100000 in
set_option maxHeartbeats 4000000 in
theorem pX7_makes_b20 {E : wE} {n : Nat} (hE : wGE E) {C : cR} : ∀ (fuel : Nat) (x1 : Int) (x2 : Int) (x3 : Int) (x4 : Int) (x5 : Int) (x6 : Int) (x7 : Int) (x8 : Int)  (m : mR) (ca : caT), WF E (n + 8) yX7_makes cX7_makes 9 (some .int) vI (fun m : mR => (C, m)) ca 20 (wLs [some (.ref (aM E 0)), some (.int (iI x1)), some (.int (iI x2)), some (.int (iI x3)), some (.int (iI x4)), some (.int (iI x5)), some (.int (iI x6)), some (.int (iI x7)), some (.int (iI x8))]) [] m (fX7_makes_b20 fuel x1 x2 x3 x4 x5 x6 x7 x8 m) := by
  intro fuel
  induction fuel with
  | zero =>
    intro x1 x2 x3 x4 x5 x6 x7 x8 m ca
    exact wf_none
  | succ fuel ih =>
    intro x1 x2 x3 x4 x5 x6 x7 x8 m ca
    unfold fX7_makes_b20
    refine wf_iload dX7_makes_20 rfl ?_
    refine wf_bipush dX7_makes_22 ?_
    refine wf_gd (fun g24 => ?_)
    refine wf_icmp_ge 42 dX7_makes_24 g24 (by decide) (fun h24 => ?_) (fun h24 => ?_)
    · refine wf_aload_n dX7_makes_42 rfl ?_
      refine wf_iload dX7_makes_43 rfl ?_
      refine wf_iconst dX7_makes_45 ?_
      refine wf_iload_n dX7_makes_46 rfl ?_
      refine wf_bipush dX7_makes_47 ?_
      refine wf_gd (fun g49 => ?_)
      refine wf_idiv dX7_makes_49 g49 (by decide) ?_
      refine wf_cV (put := fun q => q) dX7_makes_50 k_RX7_169 b_yX7_becomes x_yX7_becomes (pX7_becomes (n := n + 7) hE x7 0 (dvI x1 9) _ _) rfl (fun _ => rfl) (fun h hr => rd_mod hr) rfl (fun r50 m50 ca => ?_)
      refine wf_aload_n dX7_makes_53 rfl ?_
      refine wf_iload dX7_makes_54 rfl ?_
      refine wf_iconst dX7_makes_56 ?_
      refine wf_iload_n dX7_makes_57 rfl ?_
      refine wf_bipush dX7_makes_58 ?_
      refine wf_gd (fun g60 => ?_)
      refine wf_irem dX7_makes_60 g60 (by decide) ?_
      refine wf_cV (put := fun q => q) dX7_makes_61 k_RX7_169 b_yX7_becomes x_yX7_becomes (pX7_becomes (n := n + 7) hE x7 1 (rmI x1 9) _ _) rfl (fun _ => rfl) (fun h hr => rd_mod hr) rfl (fun r61 m61 ca => ?_)
      refine wf_aload_n dX7_makes_64 rfl ?_
      refine wf_iload dX7_makes_65 rfl ?_
      refine wf_iconst dX7_makes_67 ?_
      refine wf_iload_n dX7_makes_68 rfl ?_
      refine wf_cV (put := fun q => q) dX7_makes_69 k_RX7_169 b_yX7_becomes x_yX7_becomes (pX7_becomes (n := n + 7) hE x7 2 x2 _ _) rfl (fun _ => rfl) (fun h hr => rd_mod hr) rfl (fun r69 m69 ca => ?_)
      refine wf_aload_n dX7_makes_72 rfl ?_
      refine wf_iload dX7_makes_73 rfl ?_
      refine wf_iconst dX7_makes_75 ?_
      refine wf_iload_n dX7_makes_76 rfl ?_
      refine wf_sipush dX7_makes_77 ?_
      refine wf_gd (fun g80 => ?_)
      refine wf_idiv dX7_makes_80 g80 (by decide) ?_
      refine wf_cV (put := fun q => q) dX7_makes_81 k_RX7_169 b_yX7_becomes x_yX7_becomes (pX7_becomes (n := n + 7) hE x7 3 (dvI x3 10000) _ _) rfl (fun _ => rfl) (fun h hr => rd_mod hr) rfl (fun r81 m81 ca => ?_)
      refine wf_aload_n dX7_makes_84 rfl ?_
      refine wf_iload dX7_makes_85 rfl ?_
      refine wf_iconst dX7_makes_87 ?_
      refine wf_iload_n dX7_makes_88 rfl ?_
      refine wf_bipush dX7_makes_89 ?_
      refine wf_gd (fun g91 => ?_)
      refine wf_idiv dX7_makes_91 g91 (by decide) ?_
      refine wf_bipush dX7_makes_92 ?_
      refine wf_gd (fun g94 => ?_)
      refine wf_irem dX7_makes_94 g94 (by decide) ?_
      refine wf_cV (put := fun q => q) dX7_makes_95 k_RX7_169 b_yX7_becomes x_yX7_becomes (pX7_becomes (n := n + 7) hE x7 4 (rmI (dvI x3 100) 100) _ _) rfl (fun _ => rfl) (fun h hr => rd_mod hr) rfl (fun r95 m95 ca => ?_)
      refine wf_aload_n dX7_makes_98 rfl ?_
      refine wf_iload dX7_makes_99 rfl ?_
      refine wf_iconst dX7_makes_101 ?_
      refine wf_iload_n dX7_makes_102 rfl ?_
      refine wf_bipush dX7_makes_103 ?_
      refine wf_gd (fun g105 => ?_)
      refine wf_irem dX7_makes_105 g105 (by decide) ?_
      refine wf_cV (put := fun q => q) dX7_makes_106 k_RX7_169 b_yX7_becomes x_yX7_becomes (pX7_becomes (n := n + 7) hE x7 5 (rmI x3 100) _ _) rfl (fun _ => rfl) (fun h hr => rd_mod hr) rfl (fun r106 m106 ca => ?_)
      refine wf_aload_n dX7_makes_109 rfl ?_
      refine wf_iload dX7_makes_110 rfl ?_
      refine wf_bipush dX7_makes_112 ?_
      refine wf_iload dX7_makes_114 rfl ?_
      refine wf_cV (put := fun q => q) dX7_makes_116 k_RX7_169 b_yX7_becomes x_yX7_becomes (pX7_becomes (n := n + 7) hE x7 6 x4 _ _) rfl (fun _ => rfl) (fun h hr => rd_mod hr) rfl (fun r116 m116 ca => ?_)
      refine wf_aload_n dX7_makes_119 rfl ?_
      refine wf_iload dX7_makes_120 rfl ?_
      refine wf_bipush dX7_makes_122 ?_
      refine wf_iload dX7_makes_124 rfl ?_
      refine wf_bipush dX7_makes_126 ?_
      refine wf_gd (fun g128 => ?_)
      refine wf_idiv dX7_makes_128 g128 (by decide) ?_
      refine wf_cV (put := fun q => q) dX7_makes_129 k_RX7_169 b_yX7_becomes x_yX7_becomes (pX7_becomes (n := n + 7) hE x7 7 (dvI x5 10) _ _) rfl (fun _ => rfl) (fun h hr => rd_mod hr) rfl (fun r129 m129 ca => ?_)
      refine wf_aload_n dX7_makes_132 rfl ?_
      refine wf_iload dX7_makes_133 rfl ?_
      refine wf_bipush dX7_makes_135 ?_
      refine wf_iload dX7_makes_137 rfl ?_
      refine wf_bipush dX7_makes_139 ?_
      refine wf_gd (fun g141 => ?_)
      refine wf_irem dX7_makes_141 g141 (by decide) ?_
      refine wf_cV (put := fun q => q) dX7_makes_142 k_RX7_169 b_yX7_becomes x_yX7_becomes (pX7_becomes (n := n + 7) hE x7 8 (rmI x5 10) _ _) rfl (fun _ => rfl) (fun h hr => rd_mod hr) rfl (fun r142 m142 ca => ?_)
      refine wf_aload_n dX7_makes_145 rfl ?_
      refine wf_iload dX7_makes_146 rfl ?_
      refine wf_bipush dX7_makes_148 ?_
      refine wf_iload dX7_makes_150 rfl ?_
      refine wf_cV (put := fun q => q) dX7_makes_152 k_RX7_169 b_yX7_becomes x_yX7_becomes (pX7_becomes (n := n + 7) hE x7 9 x6 _ _) rfl (fun _ => rfl) (fun h hr => rd_mod hr) rfl (fun r152 m152 ca => ?_)
      refine wf_aload_n dX7_makes_155 rfl ?_
      refine wf_iload dX7_makes_156 rfl ?_
      refine wf_bipush dX7_makes_158 ?_
      refine wf_iload dX7_makes_160 rfl ?_
      refine wf_gd (fun g162 => ?_)
      refine wf_if_ne 169 dX7_makes_162 g162 (fun h162 => ?_) (fun h162 => ?_)
      · refine wf_iconst dX7_makes_169 ?_
        exact wf_at (pX7_makes_b170 (n := n) hE  x7 x7 15 0 _ _) ⟨rfl, rfl, trivial⟩
      · refine wf_iconst dX7_makes_165 ?_
        refine wf_goto 170 dX7_makes_166 ?_
        exact wf_at (pX7_makes_b170 (n := n) hE  x7 x7 15 1 _ _) ⟨rfl, rfl, trivial⟩
    · refine wf_aload_n dX7_makes_27 rfl ?_
      refine wf_iload dX7_makes_28 rfl ?_
      refine wf_iload dX7_makes_30 rfl ?_
      refine wf_iconst dX7_makes_32 ?_
      refine wf_cV (put := fun q => q) dX7_makes_33 k_RX7_169 b_yX7_becomes x_yX7_becomes (pX7_becomes (n := n + 7) hE x7 x8 0 _ _) rfl (fun _ => rfl) (fun h hr => rd_mod hr) rfl (fun r33 m33 ca => ?_)
      refine wf_iinc dX7_makes_36 rfl ?_
      refine wf_goto 20 dX7_makes_39 ?_
      exact wf_at (ih x1 x2 x3 x4 x5 x6 x7 (x8 + 1) _ _) ⟨rfl, rfl, rfl, rfl, rfl, rfl, rfl, rfl, rfl, trivial⟩
set_option maxRecDepth 100000 in
set_option maxHeartbeats 4000000 in
theorem pX7_makes {E : wE} {n : Nat} (hE : wGE E) {C : cR} (x1 : Int) (x2 : Int) (x3 : Int) (x4 : Int) (x5 : Int) (x6 : Int)  (m : mR) (ca : caT) : WF E (n + 8) yX7_makes cX7_makes 9 (some .int) vI (fun m : mR => (C, m)) ca 0 (wArgs [.ref (aM E 0), .int (iI x1), .int (iI x2), .int (iI x3), .int (iI x4), .int (iI x5), .int (iI x6)]) [] m (fX7_makes x1 x2 x3 x4 x5 x6 m) := by
  unfold fX7_makes
  refine wf_aload_n dX7_makes_0 rfl ?_
  refine wf_iconst dX7_makes_1 ?_
  refine wf_rV dX7_makes_2 k_RX7_43 b_yX7_of x_yX7_of (fun h hr => pX7_of (n := n + 7) hE hr 2) (fun h hr => rd_mod hr) rfl (fun r2 => ?_)
  refine wf_istore dX7_makes_5 ?_
  refine wf_aload_n dX7_makes_7 rfl ?_
  refine wf_get dX7_makes_8 f_RX7_7 (fun h hr => rd_mod hr) ?_
  refine wf_iconst dX7_makes_11 ?_
  refine wf_dup2 dX7_makes_12 ?_
  refine wf_lald dX7_makes_13 (g := fun j => m.1 0 j) (by decide) (fun h hr => rd_now hr) ?_
  refine wf_lconst1 dX7_makes_14 ?_
  refine wf_ladd dX7_makes_15 ?_
  refine wf_s_now dX7_makes_16 (by decide) (fun m16 => ?_)
  refine wf_iconst dX7_makes_17 ?_
  refine wf_istore dX7_makes_18 ?_
  exact wf_at (pX7_makes_b20 (n := n) hE  fuel0 x1 x2 x3 x4 x5 x6 r2 0 _ _) ⟨rfl, rfl, rfl, rfl, rfl, rfl, rfl, rfl, rfl, trivial⟩

/-! ===== the methods meet their functions (by program: wip/p33/gen.py) ===== -/
set_option maxRecDepth 100000 in
set_option maxHeartbeats 4000000 in
theorem pL_isUndone {E : wE} {n : Nat} (hE : wGE E) {M : mR} (x1 : Int) (x2 : Int) (x3 : Int) (x4 : Int) (x5 : Int)  (c : cR) (ca : caT) : WF E (n + 10) yL_isUndone cL_isUndone 8 (some .boolean) vI (fun c : cR => (c, M)) ca 0 (wArgs [.ref (aTop E), .int (iI x1), .int (iI x2), .int (iI x3), .int (iI x4), .long (jL x5)]) [] c (fL_isUndone x1 x2 x3 x4 x5 c) := by
  unfold fL_isUndone
  refine wf_aload_n dL_isUndone_0 rfl ?_
  refine wf_bipush dL_isUndone_1 ?_
  refine wf_rV dL_isUndone_3 k_RL_13 b_yX6_count x_yX6_count (fun h hr => pX6_count (n := n + 6) hE hr 10) (fun h hr => rd_top hr) rfl (fun r3 => ?_)
  refine wf_istore dL_isUndone_6 ?_
  refine wf_aload_n dL_isUndone_8 rfl ?_
  refine wf_cV (put := fun q => q) dL_isUndone_9 k_RL_86 b_yX6_undo x_yX6_undo (pX6_undo (n := n + 3) hE _ _) rfl (fun _ => rfl) (fun h hr => rd_top hr) rfl (fun r9 c9 ca => ?_)
  refine wf_iload dL_isUndone_12 rfl ?_
  refine wf_iconst dL_isUndone_14 ?_
  refine wf_isub dL_isUndone_15 ?_
  refine wf_gd (fun g16 => ?_)
  refine wf_icmp_ne 69 dL_isUndone_16 g16.1 g16.2 (fun h16 => ?_) (fun h16 => ?_)
  · refine wf_iconst dL_isUndone_69 ?_
    exact wf_ireturn dL_isUndone_70 ⟨_, rfl, rfl⟩
  · refine wf_aload_n dL_isUndone_19 rfl ?_
    refine wf_bipush dL_isUndone_20 ?_
    refine wf_rV dL_isUndone_22 k_RL_13 b_yX6_count x_yX6_count (fun h hr => pX6_count (n := n + 6) hE hr 10) (fun h hr => rd_top hr) rfl (fun r22 => ?_)
    refine wf_iload dL_isUndone_25 rfl ?_
    refine wf_iconst dL_isUndone_27 ?_
    refine wf_isub dL_isUndone_28 ?_
    refine wf_gd (fun g29 => ?_)
    refine wf_icmp_ne 69 dL_isUndone_29 g29.1 g29.2 (fun h29 => ?_) (fun h29 => ?_)
    · refine wf_iconst dL_isUndone_69 ?_
      exact wf_ireturn dL_isUndone_70 ⟨_, rfl, rfl⟩
    · refine wf_aload_n dL_isUndone_32 rfl ?_
      refine wf_cS (put := fun q => q) dL_isUndone_33 k_RL_90 b_yL_view x_yL_view (pL_view (n := n + 3) hE _ _) rfl (fun _ => rfl) (fun r33 c33 ca => ?_)
      refine wf_lload dL_isUndone_36 rfl ?_
      refine wf_jcmpR_ne 69 dL_isUndone_38 dL_isUndone_39 (fun h38 => ?_) (fun h38 => ?_)
      · refine wf_iconst dL_isUndone_69 ?_
        exact wf_ireturn dL_isUndone_70 ⟨_, rfl, rfl⟩
      · refine wf_aload_n dL_isUndone_42 rfl ?_
        refine wf_iload_n dL_isUndone_43 rfl ?_
        refine wf_iload_n dL_isUndone_44 rfl ?_
        refine wf_iload_n dL_isUndone_45 rfl ?_
        refine wf_cS (put := fun q => q) dL_isUndone_46 k_RL_94 b_yL_turn x_yL_turn (pL_turn (n := n) hE x1 x2 x3 _ _) rfl (fun _ => rfl) (fun r46 c46 ca => ?_)
        refine wf_iload dL_isUndone_49 rfl ?_
        refine wf_gd (fun g51 => ?_)
        refine wf_icmp_ne 69 dL_isUndone_51 g51.1 g51.2 (fun h51 => ?_) (fun h51 => ?_)
        · refine wf_iconst dL_isUndone_69 ?_
          exact wf_ireturn dL_isUndone_70 ⟨_, rfl, rfl⟩
        · refine wf_aload_n dL_isUndone_54 rfl ?_
          refine wf_bipush dL_isUndone_55 ?_
          refine wf_rV dL_isUndone_57 k_RL_13 b_yX6_count x_yX6_count (fun h hr => pX6_count (n := n + 6) hE hr 10) (fun h hr => rd_top hr) rfl (fun r57 => ?_)
          refine wf_iload dL_isUndone_60 rfl ?_
          refine wf_gd (fun g62 => ?_)
          refine wf_icmp_ne 69 dL_isUndone_62 g62.1 g62.2 (fun h62 => ?_) (fun h62 => ?_)
          · refine wf_iconst dL_isUndone_69 ?_
            exact wf_ireturn dL_isUndone_70 ⟨_, rfl, rfl⟩
          · refine wf_iconst dL_isUndone_65 ?_
            refine wf_goto 70 dL_isUndone_66 ?_
            exact wf_ireturn dL_isUndone_70 ⟨_, rfl, rfl⟩

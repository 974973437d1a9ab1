/-! ===== the methods meet their functions (by program: wip/whole/gen.py) ===== -/
set_option maxRecDepth 100000 in
set_option maxHeartbeats 4000000 in
theorem pX7_hasLeft {E : wE} {n : Nat} (hE : wGE E) {C : cR} {m : mR} {ca : caT} {h : hW} (hr : rep E (C, m) ca h) (x1 : Int)  : WR E (n + 2) yX7_hasLeft cX7_hasLeft 2 (some .boolean) vI h 0 (wArgs [.ref (aM E 0), .int (iI x1)]) [] (fX7_hasLeft x1 m) := by
  unfold fX7_hasLeft
  refine wr_aload_n dX7_hasLeft_0 rfl ?_
  refine wr_iload_n dX7_hasLeft_1 rfl ?_
  refine wr_bipush dX7_hasLeft_2 ?_
  refine wr_cV dX7_hasLeft_4 k_RX7_151 b_yX7_ofO x_yX7_ofO (pX7_ofO (n := n) hE hr x1 15) (rd_mod hr) rfl (fun r4 => ?_)
  refine wr_iconst dX7_hasLeft_7 ?_
  refine wr_gd (fun g8 => ?_)
  refine wr_icmp_eq 21 dX7_hasLeft_8 g8 (by decide) (fun h8 => ?_) (fun h8 => ?_)
  · refine wr_iconst dX7_hasLeft_21 ?_
    refine wr_goto 26 dX7_hasLeft_22 ?_
    exact wr_ireturn dX7_hasLeft_26 ⟨_, rfl, rfl⟩
  · refine wr_aload_n dX7_hasLeft_11 rfl ?_
    refine wr_iload_n dX7_hasLeft_12 rfl ?_
    refine wr_bipush dX7_hasLeft_13 ?_
    refine wr_cV dX7_hasLeft_15 k_RX7_151 b_yX7_ofO x_yX7_ofO (pX7_ofO (n := n) hE hr x1 9) (rd_mod hr) rfl (fun r15 => ?_)
    refine wr_gd (fun g18 => ?_)
    refine wr_if_le 25 dX7_hasLeft_18 g18 (fun h18 => ?_) (fun h18 => ?_)
    · refine wr_iconst dX7_hasLeft_25 ?_
      exact wr_ireturn dX7_hasLeft_26 ⟨_, rfl, rfl⟩
    · refine wr_iconst dX7_hasLeft_21 ?_
      refine wr_goto 26 dX7_hasLeft_22 ?_
      exact wr_ireturn dX7_hasLeft_26 ⟨_, rfl, rfl⟩
set_option maxRecDepth 100000 in
set_option maxHeartbeats 4000000 in
theorem pX7_occurrence_b2 {E : wE} {n : Nat} (hE : wGE E) {C : cR} {m : mR} {ca : caT} {h : hW} (hr : rep E (C, m) ca h) : ∀ (fuel : Nat) (x1 : Int) (x3 : Int) , WR E (n + 6) yX7_occurrence cX7_occurrence 4 (some .int) vI h 2 (wLs [some (.ref (aM E 0)), some (.int (iI x1)), none, some (.int (iI x3))]) [] (fX7_occurrence_b2 m fuel x1 x3) := by
  intro fuel
  induction fuel with
  | zero =>
    intro x1 x3
    exact wr_none
  | succ fuel ih =>
    intro x1 x3
    unfold fX7_occurrence_b2
    refine wr_aload_n dX7_occurrence_2 rfl ?_
    refine wr_iload_n dX7_occurrence_3 rfl ?_
    refine wr_iload_n dX7_occurrence_4 rfl ?_
    refine wr_cV dX7_occurrence_5 k_RX7_160 b_yX7_nominal x_yX7_nominal (pX7_nominal (n := n) hE hr x1 x3) (rd_mod hr) rfl (fun r5 => ?_)
    refine wr_bipush dX7_occurrence_8 ?_
    refine wr_gd (fun g10 => ?_)
    refine wr_icmp_ne 19 dX7_occurrence_10 g10 (by decide) (fun h10 => ?_) (fun h10 => ?_)
    · refine wr_aload_n dX7_occurrence_19 rfl ?_
      refine wr_iload_n dX7_occurrence_20 rfl ?_
      refine wr_iload_n dX7_occurrence_21 rfl ?_
      refine wr_cV dX7_occurrence_22 k_RX7_160 b_yX7_nominal x_yX7_nominal (pX7_nominal (n := n) hE hr x1 x3) (rd_mod hr) rfl (fun r22 => ?_)
      refine wr_sipush dX7_occurrence_25 ?_
      refine wr_gd (fun g28 => ?_)
      refine wr_icmp_ne 36 dX7_occurrence_28 g28 (by decide) (fun h28 => ?_) (fun h28 => ?_)
      · refine wr_iload_n dX7_occurrence_36 rfl ?_
        exact wr_ireturn dX7_occurrence_37 ⟨_, rfl, rfl⟩
      · refine wr_bipush dX7_occurrence_31 ?_
        refine wr_goto 37 dX7_occurrence_33 ?_
        exact wr_ireturn dX7_occurrence_37 ⟨_, rfl, rfl⟩
    · refine wr_iinc dX7_occurrence_13 rfl ?_
      refine wr_goto 2 dX7_occurrence_16 ?_
      exact wr_at (ih x1 (x3 + 1)) ⟨rfl, rfl, rfl, trivial⟩
set_option maxRecDepth 100000 in
set_option maxHeartbeats 4000000 in
theorem pX7_occurrence {E : wE} {n : Nat} (hE : wGE E) {C : cR} {m : mR} {ca : caT} {h : hW} (hr : rep E (C, m) ca h) (x1 : Int) (x2 : Int)  : WR E (n + 6) yX7_occurrence cX7_occurrence 4 (some .int) vI h 0 (wArgs [.ref (aM E 0), .int (iI x1), .int (iI x2)]) [] (fX7_occurrence x1 x2 m) := by
  unfold fX7_occurrence
  refine wr_iload_n dX7_occurrence_0 rfl ?_
  refine wr_istore_n dX7_occurrence_1 ?_
  exact wr_at (pX7_occurrence_b2 (n := n) hE hr  fuel0 x1 x2) ⟨rfl, rfl, rfl, trivial⟩
set_option maxRecDepth 100000 in
set_option maxHeartbeats 4000000 in
theorem pX7_today {E : wE} {n : Nat} (hE : wGE E) {C : cR} {m : mR} {ca : caT} {h : hW} (hr : rep E (C, m) ca h)   : WR E (n + 1) yX7_today cX7_today 1 (some .int) vI h 0 (wArgs [.ref (aM E 0)]) [] (fX7_today  m) := by
  unfold fX7_today
  refine wr_aload_n dX7_today_0 rfl ?_
  refine wr_iconst dX7_today_1 ?_
  refine wr_cV dX7_today_2 k_RX7_43 b_yX7_of x_yX7_of (pX7_of (n := n) hE hr 0) (rd_mod hr) rfl (fun r2 => ?_)
  exact wr_ireturn dX7_today_5 ⟨_, rfl, rfl⟩
set_option maxRecDepth 100000 in
set_option maxHeartbeats 4000000 in
theorem pX7_comesDue_b221 {E : wE} {n : Nat} (hE : wGE E) {C : cR} (x1 : Int)  (m : mR) (ca : caT) : WF E (n + 7) yX7_comesDue cX7_comesDue 6 (none) vV (fun m : mR => (C, m)) ca 221 (wLs [some (.ref (aM E 0)), some (.int (iI x1))]) [] m (fX7_comesDue_b221 x1 m) := by
  unfold fX7_comesDue_b221
  refine wf_aload_n dX7_comesDue_221 rfl ?_
  refine wf_iload_n dX7_comesDue_222 rfl ?_
  refine wf_bipush dX7_comesDue_223 ?_
  refine wf_iconst dX7_comesDue_225 ?_
  refine wf_cV (put := fun q => q) dX7_comesDue_226 k_RX7_169 b_yX7_becomes x_yX7_becomes (pX7_becomes (n := n + 6) hE x1 10 2 _ _) rfl (fun _ => rfl) (fun h hr => rd_mod hr) rfl (fun r226 m226 ca => ?_)
  refine wf_aload_n dX7_comesDue_229 rfl ?_
  refine wf_iload_n dX7_comesDue_230 rfl ?_
  refine wf_bipush dX7_comesDue_231 ?_
  refine wf_iconst dX7_comesDue_233 ?_
  refine wf_cV (put := fun q => q) dX7_comesDue_234 k_RX7_169 b_yX7_becomes x_yX7_becomes (pX7_becomes (n := n + 6) hE x1 9 0 _ _) rfl (fun _ => rfl) (fun h hr => rd_mod hr) rfl (fun r234 m234 ca => ?_)
  exact wf_return dX7_comesDue_237 rfl
set_option maxRecDepth 100000 in
set_option maxHeartbeats 4000000 in
theorem pX7_comesDue_b207 {E : wE} {n : Nat} (hE : wGE E) {C : cR} (x1 : Int) (x2 : Int)  (m : mR) (ca : caT) : WF E (n + 7) yX7_comesDue cX7_comesDue 6 (none) vV (fun m : mR => (C, m)) ca 207 (wLs [some (.ref (aM E 0)), some (.int (iI x1)), some (.int (iI x2))]) [] m (fX7_comesDue_b207 x1 x2 m) := by
  unfold fX7_comesDue_b207
  refine wf_iload_n dX7_comesDue_207 rfl ?_
  refine wf_bipush dX7_comesDue_208 ?_
  refine wf_gd (fun g210 => ?_)
  refine wf_icmp_eq 221 dX7_comesDue_210 g210 (by decide) (fun h210 => ?_) (fun h210 => ?_)
  · exact wf_at (pX7_comesDue_b221 (n := n) hE  x1 _ _) ⟨rfl, rfl, trivial⟩
  · refine wf_aload_n dX7_comesDue_213 rfl ?_
    refine wf_iload_n dX7_comesDue_214 rfl ?_
    refine wf_rV dX7_comesDue_215 k_RX7_231 b_yX7_hasLeft x_yX7_hasLeft (fun h hr => pX7_hasLeft (n := n + 4) hE hr x1) (fun h hr => rd_mod hr) rfl (fun r215 => ?_)
    refine wf_gd (fun g218 => ?_)
    refine wf_if_ne 237 dX7_comesDue_218 g218 (fun h218 => ?_) (fun h218 => ?_)
    · exact wf_return dX7_comesDue_237 rfl
    · exact wf_at (pX7_comesDue_b221 (n := n) hE  x1 _ _) ⟨rfl, rfl, trivial⟩
set_option maxRecDepth 100000 in
set_option maxHeartbeats 4000000 in
theorem pX7_comesDue_b182 {E : wE} {n : Nat} (hE : wGE E) {C : cR} {rec13 : Int → Int → mR → Option (Unit × mR)} (hrec13 : ∀ (x1 : Int) (x2 : Int)  (m : mR) (ca : caT), WF E (n + 7) yX7_comesDue cX7_comesDue 6 (none) vV (fun m : mR => (C, m)) ca 13 (wLs [some (.ref (aM E 0)), some (.int (iI x1)), some (.int (iI x2))]) [] m (rec13 x1 x2 m)) (x1 : Int) (x2 : Int) (t1 : Int) (t2 : Int) (t3 : Int)  (m : mR) (ca : caT) : WF E (n + 7) yX7_comesDue cX7_comesDue 6 (none) vV (fun m : mR => (C, m)) ca 182 (wLs [some (.ref (aM E 0)), some (.int (iI x1)), some (.int (iI x2))]) [.int (iI t3), .int (iI t2), .int (iI t1), .ref (aM E 0)] m (fX7_comesDue_b182 rec13 x1 x2 t1 t2 t3 m) := by
  unfold fX7_comesDue_b182
  refine wf_cV (put := fun q => q) dX7_comesDue_182 k_RX7_169 b_yX7_becomes x_yX7_becomes (pX7_becomes (n := n + 6) hE t1 t2 t3 _ _) rfl (fun _ => rfl) (fun h hr => rd_mod hr) rfl (fun r182 m182 ca => ?_)
  refine wf_aload_n dX7_comesDue_185 rfl ?_
  refine wf_iload_n dX7_comesDue_186 rfl ?_
  refine wf_bipush dX7_comesDue_187 ?_
  refine wf_iload_n dX7_comesDue_189 rfl ?_
  refine wf_iconst dX7_comesDue_190 ?_
  refine wf_iadd dX7_comesDue_191 ?_
  refine wf_cV (put := fun q => q) dX7_comesDue_192 k_RX7_169 b_yX7_becomes x_yX7_becomes (pX7_becomes (n := n + 6) hE x1 14 (x2 + 1) _ _) rfl (fun _ => rfl) (fun h hr => rd_mod hr) rfl (fun r192 m192 ca => ?_)
  refine wf_aload_n dX7_comesDue_195 rfl ?_
  refine wf_iload_n dX7_comesDue_196 rfl ?_
  refine wf_iload_n dX7_comesDue_197 rfl ?_
  refine wf_iconst dX7_comesDue_198 ?_
  refine wf_iadd dX7_comesDue_199 ?_
  refine wf_rV dX7_comesDue_200 k_RX7_163 b_yX7_occurrence x_yX7_occurrence (fun h hr => pX7_occurrence (n := n) hE hr x1 (x2 + 1)) (fun h hr => rd_mod hr) rfl (fun r200 => ?_)
  refine wf_istore_n dX7_comesDue_203 ?_
  refine wf_goto 13 dX7_comesDue_204 ?_
  exact wf_at (hrec13 x1 r200 _ _) ⟨rfl, rfl, rfl, trivial⟩
set_option maxRecDepth 100000 in
set_option maxHeartbeats 4000000 in
theorem pX7_comesDue_b154 {E : wE} {n : Nat} (hE : wGE E) {C : cR} {rec13 : Int → Int → mR → Option (Unit × mR)} (hrec13 : ∀ (x1 : Int) (x2 : Int)  (m : mR) (ca : caT), WF E (n + 7) yX7_comesDue cX7_comesDue 6 (none) vV (fun m : mR => (C, m)) ca 13 (wLs [some (.ref (aM E 0)), some (.int (iI x1)), some (.int (iI x2))]) [] m (rec13 x1 x2 m)) (x1 : Int) (x2 : Int)  (m : mR) (ca : caT) : WF E (n + 7) yX7_comesDue cX7_comesDue 6 (none) vV (fun m : mR => (C, m)) ca 154 (wLs [some (.ref (aM E 0)), some (.int (iI x1)), some (.int (iI x2))]) [] m (fX7_comesDue_b154 rec13 x1 x2 m) := by
  unfold fX7_comesDue_b154
  refine wf_aload_n dX7_comesDue_154 rfl ?_
  refine wf_iload_n dX7_comesDue_155 rfl ?_
  refine wf_bipush dX7_comesDue_156 ?_
  refine wf_aload_n dX7_comesDue_158 rfl ?_
  refine wf_iload_n dX7_comesDue_159 rfl ?_
  refine wf_bipush dX7_comesDue_160 ?_
  refine wf_rV dX7_comesDue_162 k_RX7_151 b_yX7_ofO x_yX7_ofO (fun h hr => pX7_ofO (n := n + 5) hE hr x1 15) (fun h hr => rd_mod hr) rfl (fun r162 => ?_)
  refine wf_iconst dX7_comesDue_165 ?_
  refine wf_gd (fun g166 => ?_)
  refine wf_icmp_ne 173 dX7_comesDue_166 g166 (by decide) (fun h166 => ?_) (fun h166 => ?_)
  · refine wf_aload_n dX7_comesDue_173 rfl ?_
    refine wf_iload_n dX7_comesDue_174 rfl ?_
    refine wf_bipush dX7_comesDue_175 ?_
    refine wf_rV dX7_comesDue_177 k_RX7_151 b_yX7_ofO x_yX7_ofO (fun h hr => pX7_ofO (n := n + 5) hE hr x1 9) (fun h hr => rd_mod hr) rfl (fun r177 => ?_)
    refine wf_iconst dX7_comesDue_180 ?_
    refine wf_isub dX7_comesDue_181 ?_
    exact wf_at (pX7_comesDue_b182 (n := n) hE hrec13 x1 x2 x1 9 (r177 - 1) _ _) ⟨rfl, rfl, rfl, trivial⟩
  · refine wf_iconst dX7_comesDue_169 ?_
    refine wf_goto 182 dX7_comesDue_170 ?_
    exact wf_at (pX7_comesDue_b182 (n := n) hE hrec13 x1 x2 x1 9 0 _ _) ⟨rfl, rfl, rfl, trivial⟩
set_option maxRecDepth 100000 in
set_option maxHeartbeats 4000000 in
theorem pX7_comesDue_b99 {E : wE} {n : Nat} (hE : wGE E) {C : cR} {rec13 : Int → Int → mR → Option (Unit × mR)} (hrec13 : ∀ (x1 : Int) (x2 : Int)  (m : mR) (ca : caT), WF E (n + 7) yX7_comesDue cX7_comesDue 6 (none) vV (fun m : mR => (C, m)) ca 13 (wLs [some (.ref (aM E 0)), some (.int (iI x1)), some (.int (iI x2))]) [] m (rec13 x1 x2 m)) (x1 : Int) (x2 : Int) (x3 : Int)  (m : mR) (ca : caT) : WF E (n + 7) yX7_comesDue cX7_comesDue 6 (none) vV (fun m : mR => (C, m)) ca 99 (wLs [some (.ref (aM E 0)), some (.int (iI x1)), some (.int (iI x2)), some (.int (iI x3))]) [] m (fX7_comesDue_b99 rec13 x1 x2 x3 m) := by
  unfold fX7_comesDue_b99
  refine wf_iload_n dX7_comesDue_99 rfl ?_
  refine wf_gd (fun g100 => ?_)
  refine wf_i2l dX7_comesDue_100 g100 ?_
  refine wf_ldc2 dX7_comesDue_101 c_RX7_202 ?_
  refine wf_aload_n dX7_comesDue_104 rfl ?_
  refine wf_rV dX7_comesDue_105 k_RX7_66 b_yX7_today x_yX7_today (fun h hr => pX7_today (n := n + 5) hE hr) (fun h hr => rd_mod hr) rfl (fun r105 => ?_)
  refine wf_gd (fun g108 => ?_)
  refine wf_i2l dX7_comesDue_108 g108 ?_
  refine wf_lmul dX7_comesDue_109 ?_
  refine wf_ladd dX7_comesDue_110 ?_
  refine wf_lstore dX7_comesDue_111 ?_
  refine wf_aload_n dX7_comesDue_113 rfl ?_
  refine wf_get dX7_comesDue_114 f_RX7_17 (fun h hr => rd_mod hr) ?_
  refine wf_aload_n dX7_comesDue_117 rfl ?_
  refine wf_iconst dX7_comesDue_118 ?_
  refine wf_rV dX7_comesDue_119 k_RX7_43 b_yX7_of x_yX7_of (fun h hr => pX7_of (n := n + 6) hE hr 4) (fun h hr => rd_mod hr) rfl (fun r119 => ?_)
  refine wf_iload_n dX7_comesDue_122 rfl ?_
  refine wf_gd (fun g123 => ?_)
  refine wf_i2l dX7_comesDue_123 g123 ?_
  refine wf_ldc2 dX7_comesDue_124 c_RX7_186 ?_
  refine wf_aload_n dX7_comesDue_127 rfl ?_
  refine wf_iload_n dX7_comesDue_128 rfl ?_
  refine wf_iconst dX7_comesDue_129 ?_
  refine wf_rV dX7_comesDue_130 k_RX7_151 b_yX7_ofO x_yX7_ofO (fun h hr => pX7_ofO (n := n + 5) hE hr x1 2) (fun h hr => rd_mod hr) rfl (fun r130 => ?_)
  refine wf_gd (fun g133 => ?_)
  refine wf_i2l dX7_comesDue_133 g133 ?_
  refine wf_ldc2 dX7_comesDue_134 c_RX7_198 ?_
  refine wf_lload dX7_comesDue_137 rfl ?_
  refine wf_lmul dX7_comesDue_139 ?_
  refine wf_ladd dX7_comesDue_140 ?_
  refine wf_lmul dX7_comesDue_141 ?_
  refine wf_ladd dX7_comesDue_142 ?_
  refine wf_gd (fun g143 => ?_)
  refine wf_s_waits dX7_comesDue_143 g143 (fun m143 => ?_)
  refine wf_aload_n dX7_comesDue_144 rfl ?_
  refine wf_get dX7_comesDue_145 f_RX7_7 (fun h hr => rd_mod hr) ?_
  refine wf_iconst dX7_comesDue_148 ?_
  refine wf_dup2 dX7_comesDue_149 ?_
  refine wf_lald dX7_comesDue_150 (g := fun j => m143.1 0 j) (by decide) (fun h hr => rd_now hr) ?_
  refine wf_lconst1 dX7_comesDue_151 ?_
  refine wf_ladd dX7_comesDue_152 ?_
  refine wf_s_now dX7_comesDue_153 (by decide) (fun m153 => ?_)
  exact wf_at (pX7_comesDue_b154 (n := n) hE hrec13 x1 x2 _ _) ⟨rfl, rfl, rfl, trivial⟩
set_option maxRecDepth 100000 in
set_option maxHeartbeats 4000000 in
theorem pX7_comesDue_b13 {E : wE} {n : Nat} (hE : wGE E) {C : cR} : ∀ (fuel : Nat) (x1 : Int) (x2 : Int)  (m : mR) (ca : caT), WF E (n + 7) yX7_comesDue cX7_comesDue 6 (none) vV (fun m : mR => (C, m)) ca 13 (wLs [some (.ref (aM E 0)), some (.int (iI x1)), some (.int (iI x2))]) [] m (fX7_comesDue_b13 fuel x1 x2 m) := by
  intro fuel
  induction fuel with
  | zero =>
    intro x1 x2 m ca
    exact wf_none
  | succ fuel ih =>
    intro x1 x2 m ca
    unfold fX7_comesDue_b13
    refine wf_iload_n dX7_comesDue_13 rfl ?_
    refine wf_bipush dX7_comesDue_14 ?_
    refine wf_gd (fun g16 => ?_)
    refine wf_icmp_eq 207 dX7_comesDue_16 g16 (by decide) (fun h16 => ?_) (fun h16 => ?_)
    · exact wf_at (pX7_comesDue_b207 (n := n) hE  x1 x2 _ _) ⟨rfl, rfl, rfl, trivial⟩
    · refine wf_aload_n dX7_comesDue_19 rfl ?_
      refine wf_iload_n dX7_comesDue_20 rfl ?_
      refine wf_rV dX7_comesDue_21 k_RX7_231 b_yX7_hasLeft x_yX7_hasLeft (fun h hr => pX7_hasLeft (n := n + 4) hE hr x1) (fun h hr => rd_mod hr) rfl (fun r21 => ?_)
      refine wf_gd (fun g24 => ?_)
      refine wf_if_eq 207 dX7_comesDue_24 g24 (fun h24 => ?_) (fun h24 => ?_)
      · exact wf_at (pX7_comesDue_b207 (n := n) hE  x1 x2 _ _) ⟨rfl, rfl, rfl, trivial⟩
      · refine wf_aload_n dX7_comesDue_27 rfl ?_
        refine wf_iload_n dX7_comesDue_28 rfl ?_
        refine wf_iload_n dX7_comesDue_29 rfl ?_
        refine wf_rV dX7_comesDue_30 k_RX7_166 b_yX7_dateBy x_yX7_dateBy (fun h hr => pX7_dateBy (n := n) hE hr x1 x2) (fun h hr => rd_mod hr) rfl (fun r30 => ?_)
        refine wf_aload_n dX7_comesDue_33 rfl ?_
        refine wf_rV dX7_comesDue_34 k_RX7_66 b_yX7_today x_yX7_today (fun h hr => pX7_today (n := n + 5) hE hr) (fun h hr => rd_mod hr) rfl (fun r34 => ?_)
        refine wf_gd (fun g37 => ?_)
        refine wf_icmp_gt 207 dX7_comesDue_37 g37.1 g37.2 (fun h37 => ?_) (fun h37 => ?_)
        · exact wf_at (pX7_comesDue_b207 (n := n) hE  x1 x2 _ _) ⟨rfl, rfl, rfl, trivial⟩
        · refine wf_aload_n dX7_comesDue_40 rfl ?_
          refine wf_iload_n dX7_comesDue_41 rfl ?_
          refine wf_iload_n dX7_comesDue_42 rfl ?_
          refine wf_rV dX7_comesDue_43 k_RX7_160 b_yX7_nominal x_yX7_nominal (fun h hr => pX7_nominal (n := n + 1) hE hr x1 x2) (fun h hr => rd_mod hr) rfl (fun r43 => ?_)
          refine wf_istore_n dX7_comesDue_46 ?_
          refine wf_aload_n dX7_comesDue_47 rfl ?_
          refine wf_iload_n dX7_comesDue_48 rfl ?_
          refine wf_bipush dX7_comesDue_49 ?_
          refine wf_rV dX7_comesDue_51 k_RX7_151 b_yX7_ofO x_yX7_ofO (fun h hr => pX7_ofO (n := n + 5) hE hr x1 7) (fun h hr => rd_mod hr) rfl (fun r51 => ?_)
          refine wf_iconst dX7_comesDue_54 ?_
          refine wf_gd (fun g55 => ?_)
          refine wf_icmp_ne 99 dX7_comesDue_55 g55 (by decide) (fun h55 => ?_) (fun h55 => ?_)
          · exact wf_at (pX7_comesDue_b99 (n := n) hE ih x1 x2 r43 _ _) ⟨rfl, rfl, rfl, rfl, trivial⟩
          · refine wf_aload_n dX7_comesDue_58 rfl ?_
            refine wf_iload_n dX7_comesDue_59 rfl ?_
            refine wf_rV dX7_comesDue_60 k_RX7_88 b_yX7_isBusiness x_yX7_isBusiness (fun h hr => pX7_isBusiness (n := n + 4) hE hr r43) (fun h hr => rd_mod hr) rfl (fun r60 => ?_)
            refine wf_gd (fun g63 => ?_)
            refine wf_if_ne 99 dX7_comesDue_63 g63 (fun h63 => ?_) (fun h63 => ?_)
            · exact wf_at (pX7_comesDue_b99 (n := n) hE ih x1 x2 r43 _ _) ⟨rfl, rfl, rfl, rfl, trivial⟩
            · refine wf_aload_n dX7_comesDue_66 rfl ?_
              refine wf_get dX7_comesDue_67 f_RX7_7 (fun h hr => rd_mod hr) ?_
              refine wf_bipush dX7_comesDue_70 ?_
              refine wf_bipush dX7_comesDue_72 ?_
              refine wf_iload_n dX7_comesDue_74 rfl ?_
              refine wf_imul dX7_comesDue_75 ?_
              refine wf_iadd dX7_comesDue_76 ?_
              refine wf_bipush dX7_comesDue_77 ?_
              refine wf_iadd dX7_comesDue_79 ?_
              refine wf_dup2 dX7_comesDue_80 ?_
              refine wf_gd (fun g81 => ?_)
              refine wf_lald dX7_comesDue_81 (g := fun j => m.1 0 j) g81 (fun h hr => rd_now hr) ?_
              refine wf_lconst1 dX7_comesDue_82 ?_
              refine wf_ladd dX7_comesDue_83 ?_
              refine wf_gd (fun g84 => ?_)
              refine wf_s_now dX7_comesDue_84 g84 (fun m84 => ?_)
              refine wf_aload_n dX7_comesDue_85 rfl ?_
              refine wf_get dX7_comesDue_86 f_RX7_7 (fun h hr => rd_mod hr) ?_
              refine wf_bipush dX7_comesDue_89 ?_
              refine wf_dup2 dX7_comesDue_91 ?_
              refine wf_lald dX7_comesDue_92 (g := fun j => m84.1 0 j) (by decide) (fun h hr => rd_now hr) ?_
              refine wf_lconst1 dX7_comesDue_93 ?_
              refine wf_ladd dX7_comesDue_94 ?_
              refine wf_s_now dX7_comesDue_95 (by decide) (fun m95 => ?_)
              refine wf_goto 154 dX7_comesDue_96 ?_
              exact wf_at (pX7_comesDue_b154 (n := n) hE ih x1 x2 _ _) ⟨rfl, rfl, rfl, trivial⟩
set_option maxRecDepth 100000 in
set_option maxHeartbeats 4000000 in
theorem pX7_comesDue {E : wE} {n : Nat} (hE : wGE E) {C : cR} (x1 : Int)  (m : mR) (ca : caT) : WF E (n + 7) yX7_comesDue cX7_comesDue 6 (none) vV (fun m : mR => (C, m)) ca 0 (wArgs [.ref (aM E 0), .int (iI x1)]) [] m (fX7_comesDue x1 m) := by
  unfold fX7_comesDue
  refine wf_aload_n dX7_comesDue_0 rfl ?_
  refine wf_iload_n dX7_comesDue_1 rfl ?_
  refine wf_aload_n dX7_comesDue_2 rfl ?_
  refine wf_iload_n dX7_comesDue_3 rfl ?_
  refine wf_bipush dX7_comesDue_4 ?_
  refine wf_rV dX7_comesDue_6 k_RX7_151 b_yX7_ofO x_yX7_ofO (fun h hr => pX7_ofO (n := n + 5) hE hr x1 14) (fun h hr => rd_mod hr) rfl (fun r6 => ?_)
  refine wf_rV dX7_comesDue_9 k_RX7_163 b_yX7_occurrence x_yX7_occurrence (fun h hr => pX7_occurrence (n := n) hE hr x1 r6) (fun h hr => rd_mod hr) rfl (fun r9 => ?_)
  refine wf_istore_n dX7_comesDue_12 ?_
  exact wf_at (pX7_comesDue_b13 (n := n) hE  fuel0 x1 r9 _ _) ⟨rfl, rfl, rfl, trivial⟩
set_option maxRecDepth 100000 in
set_option maxHeartbeats 4000000 in
theorem pX7_moneyOf {E : wE} {n : Nat} (hE : wGE E) {C : cR} {m : mR} {ca : caT} {h : hW} (hr : rep E (C, m) ca h) (x1 : Int) (x2 : Int)  : WR E n yX7_moneyOf cX7_moneyOf 3 (some .long) vJ h 0 (wArgs [.ref (aM E 0), .int (iI x1), .int (iI x2)]) [] (fX7_moneyOf x1 x2 m) := by
  unfold fX7_moneyOf
  refine wr_aload_n dX7_moneyOf_0 rfl ?_
  refine wr_get dX7_moneyOf_1 f_RX7_7 (rd_mod hr) ?_
  refine wr_bipush dX7_moneyOf_4 ?_
  refine wr_bipush dX7_moneyOf_6 ?_
  refine wr_iload_n dX7_moneyOf_8 rfl ?_
  refine wr_imul dX7_moneyOf_9 ?_
  refine wr_iadd dX7_moneyOf_10 ?_
  refine wr_iconst dX7_moneyOf_11 ?_
  refine wr_iadd dX7_moneyOf_12 ?_
  refine wr_iload_n dX7_moneyOf_13 rfl ?_
  refine wr_iadd dX7_moneyOf_14 ?_
  refine wr_gd (fun g15 => ?_)
  refine wr_lald dX7_moneyOf_15 (g := fun j => m.1 0 j) g15 (rd_now hr) ?_
  exact wr_lreturn dX7_moneyOf_16 rfl
set_option maxRecDepth 100000 in
set_option maxHeartbeats 4000000 in
theorem pX7_moves {E : wE} {n : Nat} (hE : wGE E) {C : cR} (x1 : Int) (x2 : Int) (x3 : Int)  (m : mR) (ca : caT) : WF E n yX7_moves cX7_moves 5 (none) vV (fun m : mR => (C, m)) ca 0 (wArgs [.ref (aM E 0), .int (iI x1), .int (iI x2), .long (jL x3)]) [] m (fX7_moves x1 x2 x3 m) := by
  unfold fX7_moves
  refine wf_aload_n dX7_moves_0 rfl ?_
  refine wf_get dX7_moves_1 f_RX7_7 (fun h hr => rd_mod hr) ?_
  refine wf_bipush dX7_moves_4 ?_
  refine wf_bipush dX7_moves_6 ?_
  refine wf_iload_n dX7_moves_8 rfl ?_
  refine wf_imul dX7_moves_9 ?_
  refine wf_iadd dX7_moves_10 ?_
  refine wf_iconst dX7_moves_11 ?_
  refine wf_iadd dX7_moves_12 ?_
  refine wf_iload_n dX7_moves_13 rfl ?_
  refine wf_iadd dX7_moves_14 ?_
  refine wf_dup2 dX7_moves_15 ?_
  refine wf_gd (fun g16 => ?_)
  refine wf_lald dX7_moves_16 (g := fun j => m.1 0 j) g16 (fun h hr => rd_now hr) ?_
  refine wf_lload_n dX7_moves_17 rfl ?_
  refine wf_ladd dX7_moves_18 ?_
  refine wf_gd (fun g19 => ?_)
  refine wf_s_now dX7_moves_19 g19 (fun m19 => ?_)
  exact wf_return dX7_moves_20 rfl
set_option maxRecDepth 100000 in
set_option maxHeartbeats 4000000 in
theorem pX7_owes_b46 {E : wE} {n : Nat} (hE : wGE E) {C : cR} (x1 : Int)  (m : mR) (ca : caT) : WF E (n + 3) yX7_owes cX7_owes 8 (none) vV (fun m : mR => (C, m)) ca 46 (wLs [some (.ref (aM E 0)), some (.int (iI x1))]) [] m (fX7_owes_b46 x1 m) := by
  unfold fX7_owes_b46
  refine wf_aload_n dX7_owes_46 rfl ?_
  refine wf_rV dX7_owes_47 k_RX7_66 b_yX7_today x_yX7_today (fun h hr => pX7_today (n := n + 1) hE hr) (fun h hr => rd_mod hr) rfl (fun r47 => ?_)
  refine wf_rS dX7_owes_50 k_RX7_94 b_yX7_monthOf x_yX7_monthOf (fun h hr => pX7_monthOf (n := n) hE r47) (fun r50 => ?_)
  refine wf_istore dX7_owes_53 ?_
  refine wf_aload_n dX7_owes_55 rfl ?_
  refine wf_rV dX7_owes_56 k_RX7_66 b_yX7_today x_yX7_today (fun h hr => pX7_today (n := n + 1) hE hr) (fun h hr => rd_mod hr) rfl (fun r56 => ?_)
  refine wf_iload dX7_owes_59 rfl ?_
  refine wf_rS dX7_owes_61 k_RX7_78 b_yX7_monthStart x_yX7_monthStart (fun h hr => pX7_monthStart (n := n + 1) hE r50) (fun r61 => ?_)
  refine wf_iload dX7_owes_64 rfl ?_
  refine wf_rS dX7_owes_66 k_RX7_75 b_yX7_monthLength x_yX7_monthLength (fun h hr => pX7_monthLength (n := n + 2) hE r50) (fun r66 => ?_)
  refine wf_iadd dX7_owes_69 ?_
  refine wf_iconst dX7_owes_70 ?_
  refine wf_isub dX7_owes_71 ?_
  refine wf_gd (fun g72 => ?_)
  refine wf_icmp_ne 114 dX7_owes_72 g72.1 g72.2 (fun h72 => ?_) (fun h72 => ?_)
  · exact wf_return dX7_owes_114 rfl
  · refine wf_aload_n dX7_owes_75 rfl ?_
    refine wf_get dX7_owes_76 f_RX7_13 (fun h hr => rd_mod hr) ?_
    refine wf_iload_n dX7_owes_79 rfl ?_
    refine wf_gd (fun g80 => ?_)
    refine wf_dald dX7_owes_80 (g := fun j => m.2 0 j) g80 (fun h hr => rd_owed hr) ?_
    refine wf_d2l dX7_owes_81 ?_
    refine wf_lstore dX7_owes_82 ?_
    refine wf_aload_n dX7_owes_84 rfl ?_
    refine wf_iload_n dX7_owes_85 rfl ?_
    refine wf_iconst dX7_owes_86 ?_
    refine wf_lload dX7_owes_87 rfl ?_
    refine wf_lneg dX7_owes_89 ?_
    refine wf_cV (put := fun q => q) dX7_owes_90 k_RX7_137 b_yX7_moves x_yX7_moves (pX7_moves (n := n + 2) hE x1 0 (-(d2lI (m.2 0 x1))) _ _) rfl (fun _ => rfl) (fun h hr => rd_mod hr) rfl (fun r90 m90 ca => ?_)
    refine wf_aload_n dX7_owes_93 rfl ?_
    refine wf_iload_n dX7_owes_94 rfl ?_
    refine wf_bipush dX7_owes_95 ?_
    refine wf_lload dX7_owes_97 rfl ?_
    refine wf_cV (put := fun q => q) dX7_owes_99 k_RX7_137 b_yX7_moves x_yX7_moves (pX7_moves (n := n + 2) hE x1 7 (d2lI (m.2 0 x1)) _ _) rfl (fun _ => rfl) (fun h hr => rd_mod hr) rfl (fun r99 m99 ca => ?_)
    refine wf_aload_n dX7_owes_102 rfl ?_
    refine wf_get dX7_owes_103 f_RX7_13 (fun h hr => rd_mod hr) ?_
    refine wf_iload_n dX7_owes_106 rfl ?_
    refine wf_dup2 dX7_owes_107 ?_
    refine wf_gd (fun g108 => ?_)
    refine wf_dald dX7_owes_108 (g := fun j => m99.2 0 j) g108 (fun h hr => rd_owed hr) ?_
    refine wf_lload dX7_owes_109 rfl ?_
    refine wf_l2d dX7_owes_111 ?_
    refine wf_gd (fun g112 => ?_)
    refine wf_dsub dX7_owes_112 g112 ?_
    refine wf_gd (fun g113 => ?_)
    refine wf_s_owed dX7_owes_113 g113 (fun m113 => ?_)
    exact wf_return dX7_owes_114 rfl
set_option maxRecDepth 100000 in
set_option maxHeartbeats 4000000 in
theorem pX7_owes {E : wE} {n : Nat} (hE : wGE E) {C : cR} (x1 : Int)  (m : mR) (ca : caT) : WF E (n + 3) yX7_owes cX7_owes 8 (none) vV (fun m : mR => (C, m)) ca 0 (wArgs [.ref (aM E 0), .int (iI x1)]) [] m (fX7_owes x1 m) := by
  unfold fX7_owes
  refine wf_aload_n dX7_owes_0 rfl ?_
  refine wf_iload_n dX7_owes_1 rfl ?_
  refine wf_iconst dX7_owes_2 ?_
  refine wf_rV dX7_owes_3 k_RX7_141 b_yX7_moneyOf x_yX7_moneyOf (fun h hr => pX7_moneyOf (n := n + 2) hE hr x1 0) (fun h hr => rd_mod hr) rfl (fun r3 => ?_)
  refine wf_lstore_n dX7_owes_6 ?_
  refine wf_aload_n dX7_owes_7 rfl ?_
  refine wf_get dX7_owes_8 f_RX7_7 (fun h hr => rd_mod hr) ?_
  refine wf_bipush dX7_owes_11 ?_
  refine wf_lald dX7_owes_13 (g := fun j => m.1 0 j) (by decide) (fun h hr => rd_now hr) ?_
  refine wf_l2f dX7_owes_14 ?_
  refine wf_ldcf dX7_owes_15 c_RX7_252 ?_
  refine wf_gd (fun g17 => ?_)
  refine wf_fdiv dX7_owes_17 g17 ?_
  refine wf_fstore dX7_owes_18 ?_
  refine wf_lload_n dX7_owes_20 rfl ?_
  refine wf_lconst0 dX7_owes_21 ?_
  refine wf_gd (fun g22 => ?_)
  refine wf_jcmp_ge 46 dX7_owes_22 dX7_owes_23 g22 (by decide) (fun h22 => ?_) (fun h22 => ?_)
  · exact wf_at (pX7_owes_b46 (n := n) hE  x1 _ _) ⟨rfl, rfl, trivial⟩
  · refine wf_aload_n dX7_owes_26 rfl ?_
    refine wf_get dX7_owes_27 f_RX7_13 (fun h hr => rd_mod hr) ?_
    refine wf_iload_n dX7_owes_30 rfl ?_
    refine wf_dup2 dX7_owes_31 ?_
    refine wf_gd (fun g32 => ?_)
    refine wf_dald dX7_owes_32 (g := fun j => m.2 0 j) g32 (fun h hr => rd_owed hr) ?_
    refine wf_lload_n dX7_owes_33 rfl ?_
    refine wf_lneg dX7_owes_34 ?_
    refine wf_l2d dX7_owes_35 ?_
    refine wf_fload dX7_owes_36 rfl ?_
    refine wf_gd (fun g38 => ?_)
    refine wf_f2d dX7_owes_38 g38 ?_
    refine wf_gd (fun g39 => ?_)
    refine wf_dmul dX7_owes_39 g39 ?_
    refine wf_ldc2d dX7_owes_40 c_RX7_253 ?_
    refine wf_gd (fun g43 => ?_)
    refine wf_ddiv dX7_owes_43 g43 ?_
    refine wf_gd (fun g44 => ?_)
    refine wf_dadd dX7_owes_44 g44 ?_
    refine wf_gd (fun g45 => ?_)
    refine wf_s_owed dX7_owes_45 g45 (fun m45 => ?_)
    exact wf_at (pX7_owes_b46 (n := n) hE  x1 _ _) ⟨rfl, rfl, trivial⟩
set_option maxRecDepth 100000 in
set_option maxHeartbeats 4000000 in
theorem pX7_partOf {E : wE} {n : Nat} (hE : wGE E) {C : cR} {m : mR} {ca : caT} {h : hW} (hr : rep E (C, m) ca h) (x1 : Int) (x2 : Int)  : WR E n yX7_partOf cX7_partOf 5 (some .int) vI h 0 (wArgs [.ref (aM E 0), .int (iI x1), .int (iI x2)]) [] (fX7_partOf x1 x2 m) := by
  unfold fX7_partOf
  refine wr_aload_n dX7_partOf_0 rfl ?_
  refine wr_get dX7_partOf_1 f_RX7_17 (rd_mod hr) ?_
  refine wr_iload_n dX7_partOf_4 rfl ?_
  refine wr_gd (fun g5 => ?_)
  refine wr_lald dX7_partOf_5 (g := fun j => m.1 1 j) g5 (rd_waits hr) ?_
  refine wr_lstore_n dX7_partOf_6 ?_
  refine wr_iload_n dX7_partOf_7 rfl ?_
  refine wr_gd (fun g8 => ?_)
  refine wr_ite (fun e8_0 => ?_) (fun e8_0 => ?_)
  · refine wr_tsK 0 44 dX7_partOf_8 e8_0 ?_
    refine wr_lload_n dX7_partOf_44 rfl ?_
    refine wr_ldc2 dX7_partOf_45 c_RX7_186 ?_
    refine wr_gd (fun g48 => ?_)
    refine wr_lrem dX7_partOf_48 g48 (by decide) ?_
    refine wr_l2i dX7_partOf_49 ?_
    exact wr_ireturn dX7_partOf_50 ⟨_, rfl, rfl⟩
  refine wr_ite (fun e8_1 => ?_) (fun e8_1 => ?_)
  · refine wr_tsK 1 51 dX7_partOf_8 e8_1 ?_
    refine wr_lload_n dX7_partOf_51 rfl ?_
    refine wr_ldc2 dX7_partOf_52 c_RX7_186 ?_
    refine wr_gd (fun g55 => ?_)
    refine wr_ldiv dX7_partOf_55 g55 (by decide) ?_
    refine wr_ldc2 dX7_partOf_56 c_RX7_198 ?_
    refine wr_gd (fun g59 => ?_)
    refine wr_lrem dX7_partOf_59 g59 (by decide) ?_
    refine wr_l2i dX7_partOf_60 ?_
    exact wr_ireturn dX7_partOf_61 ⟨_, rfl, rfl⟩
  refine wr_ite (fun e8_2 => ?_) (fun e8_2 => ?_)
  · refine wr_tsK 2 62 dX7_partOf_8 e8_2 ?_
    refine wr_lload_n dX7_partOf_62 rfl ?_
    refine wr_ldc2 dX7_partOf_63 c_RX7_200 ?_
    refine wr_gd (fun g66 => ?_)
    refine wr_ldiv dX7_partOf_66 g66 (by decide) ?_
    refine wr_ldc2 dX7_partOf_67 c_RX7_202 ?_
    refine wr_gd (fun g70 => ?_)
    refine wr_lrem dX7_partOf_70 g70 (by decide) ?_
    refine wr_l2i dX7_partOf_71 ?_
    exact wr_ireturn dX7_partOf_72 ⟨_, rfl, rfl⟩
  refine wr_ite (fun e8_3 => ?_) (fun e8_3 => ?_)
  · refine wr_tsK 3 73 dX7_partOf_8 e8_3 ?_
    refine wr_lload_n dX7_partOf_73 rfl ?_
    refine wr_ldc2 dX7_partOf_74 c_RX7_204 ?_
    refine wr_gd (fun g77 => ?_)
    refine wr_ldiv dX7_partOf_77 g77 (by decide) ?_
    refine wr_ldc2 dX7_partOf_78 c_RX7_202 ?_
    refine wr_gd (fun g81 => ?_)
    refine wr_lrem dX7_partOf_81 g81 (by decide) ?_
    refine wr_l2i dX7_partOf_82 ?_
    exact wr_ireturn dX7_partOf_83 ⟨_, rfl, rfl⟩
  refine wr_ite (fun e8_4 => ?_) (fun e8_4 => ?_)
  · refine wr_tsK 4 84 dX7_partOf_8 e8_4 ?_
    refine wr_lload_n dX7_partOf_84 rfl ?_
    refine wr_ldc2 dX7_partOf_85 c_RX7_206 ?_
    refine wr_gd (fun g88 => ?_)
    refine wr_ldiv dX7_partOf_88 g88 (by decide) ?_
    refine wr_ldc2 dX7_partOf_89 c_RX7_186 ?_
    refine wr_gd (fun g92 => ?_)
    refine wr_lrem dX7_partOf_92 g92 (by decide) ?_
    refine wr_l2i dX7_partOf_93 ?_
    exact wr_ireturn dX7_partOf_94 ⟨_, rfl, rfl⟩
  refine wr_tsOut (z := x2) 95 dX7_partOf_8 g8 (by omega) ?_
  refine wr_lload_n dX7_partOf_95 rfl ?_
  refine wr_ldc2 dX7_partOf_96 c_RX7_208 ?_
  refine wr_gd (fun g99 => ?_)
  refine wr_ldiv dX7_partOf_99 g99 (by decide) ?_
  refine wr_l2i dX7_partOf_100 ?_
  exact wr_ireturn dX7_partOf_101 ⟨_, rfl, rfl⟩
set_option maxRecDepth 100000 in
set_option maxHeartbeats 4000000 in
theorem pX7_isAhead {E : wE} {n : Nat} (hE : wGE E) {C : cR} {m : mR} {ca : caT} {h : hW} (hr : rep E (C, m) ca h) (x1 : Int) (x2 : Int)  : WR E (n + 2) yX7_isAhead cX7_isAhead 6 (some .boolean) vI h 0 (wArgs [.ref (aM E 0), .int (iI x1), .int (iI x2)]) [] (fX7_isAhead x1 x2 m) := by
  unfold fX7_isAhead
  refine wr_aload_n dX7_isAhead_0 rfl ?_
  refine wr_aload_n dX7_isAhead_1 rfl ?_
  refine wr_iload_n dX7_isAhead_2 rfl ?_
  refine wr_iconst dX7_isAhead_3 ?_
  refine wr_cV dX7_isAhead_4 k_RX7_210 b_yX7_partOf x_yX7_partOf (pX7_partOf (n := n + 1) hE hr x1 0) (rd_mod hr) rfl (fun r4 => ?_)
  refine wr_bipush dX7_isAhead_7 ?_
  refine wr_cV dX7_isAhead_9 k_RX7_151 b_yX7_ofO x_yX7_ofO (pX7_ofO (n := n) hE hr r4 8) (rd_mod hr) rfl (fun r9 => ?_)
  refine wr_istore_n dX7_isAhead_12 ?_
  refine wr_aload_n dX7_isAhead_13 rfl ?_
  refine wr_aload_n dX7_isAhead_14 rfl ?_
  refine wr_iload_n dX7_isAhead_15 rfl ?_
  refine wr_iconst dX7_isAhead_16 ?_
  refine wr_cV dX7_isAhead_17 k_RX7_210 b_yX7_partOf x_yX7_partOf (pX7_partOf (n := n + 1) hE hr x2 0) (rd_mod hr) rfl (fun r17 => ?_)
  refine wr_bipush dX7_isAhead_20 ?_
  refine wr_cV dX7_isAhead_22 k_RX7_151 b_yX7_ofO x_yX7_ofO (pX7_ofO (n := n) hE hr r17 8) (rd_mod hr) rfl (fun r22 => ?_)
  refine wr_istore dX7_isAhead_25 ?_
  refine wr_iload_n dX7_isAhead_27 rfl ?_
  refine wr_iload dX7_isAhead_28 rfl ?_
  refine wr_gd (fun g30 => ?_)
  refine wr_icmp_eq 45 dX7_isAhead_30 g30.1 g30.2 (fun h30 => ?_) (fun h30 => ?_)
  · refine wr_aload_n dX7_isAhead_45 rfl ?_
    refine wr_iload_n dX7_isAhead_46 rfl ?_
    refine wr_iconst dX7_isAhead_47 ?_
    refine wr_cV dX7_isAhead_48 k_RX7_210 b_yX7_partOf x_yX7_partOf (pX7_partOf (n := n + 1) hE hr x1 3) (rd_mod hr) rfl (fun r48 => ?_)
    refine wr_istore dX7_isAhead_51 ?_
    refine wr_iload dX7_isAhead_53 rfl ?_
    refine wr_aload_n dX7_isAhead_55 rfl ?_
    refine wr_iload_n dX7_isAhead_56 rfl ?_
    refine wr_iconst dX7_isAhead_57 ?_
    refine wr_cV dX7_isAhead_58 k_RX7_210 b_yX7_partOf x_yX7_partOf (pX7_partOf (n := n + 1) hE hr x2 3) (rd_mod hr) rfl (fun r58 => ?_)
    refine wr_gd (fun g61 => ?_)
    refine wr_icmp_eq 83 dX7_isAhead_61 g61.1 g61.2 (fun h61 => ?_) (fun h61 => ?_)
    · refine wr_aload_n dX7_isAhead_83 rfl ?_
      refine wr_iload_n dX7_isAhead_84 rfl ?_
      refine wr_iconst dX7_isAhead_85 ?_
      refine wr_cV dX7_isAhead_86 k_RX7_210 b_yX7_partOf x_yX7_partOf (pX7_partOf (n := n + 1) hE hr x1 0) (rd_mod hr) rfl (fun r86 => ?_)
      refine wr_aload_n dX7_isAhead_89 rfl ?_
      refine wr_iload_n dX7_isAhead_90 rfl ?_
      refine wr_iconst dX7_isAhead_91 ?_
      refine wr_cV dX7_isAhead_92 k_RX7_210 b_yX7_partOf x_yX7_partOf (pX7_partOf (n := n + 1) hE hr x2 0) (rd_mod hr) rfl (fun r92 => ?_)
      refine wr_gd (fun g95 => ?_)
      refine wr_icmp_ge 102 dX7_isAhead_95 g95.1 g95.2 (fun h95 => ?_) (fun h95 => ?_)
      · refine wr_iconst dX7_isAhead_102 ?_
        exact wr_ireturn dX7_isAhead_103 ⟨_, rfl, rfl⟩
      · refine wr_iconst dX7_isAhead_98 ?_
        refine wr_goto 103 dX7_isAhead_99 ?_
        exact wr_ireturn dX7_isAhead_103 ⟨_, rfl, rfl⟩
    · refine wr_iload dX7_isAhead_64 rfl ?_
      refine wr_aload_n dX7_isAhead_66 rfl ?_
      refine wr_iload_n dX7_isAhead_67 rfl ?_
      refine wr_iconst dX7_isAhead_68 ?_
      refine wr_cV dX7_isAhead_69 k_RX7_210 b_yX7_partOf x_yX7_partOf (pX7_partOf (n := n + 1) hE hr x2 3) (rd_mod hr) rfl (fun r69 => ?_)
      refine wr_gd (fun g72 => ?_)
      refine wr_icmp_ge 79 dX7_isAhead_72 g72.1 g72.2 (fun h72 => ?_) (fun h72 => ?_)
      · refine wr_iconst dX7_isAhead_79 ?_
        refine wr_goto 103 dX7_isAhead_80 ?_
        exact wr_ireturn dX7_isAhead_103 ⟨_, rfl, rfl⟩
      · refine wr_iconst dX7_isAhead_75 ?_
        refine wr_goto 103 dX7_isAhead_76 ?_
        exact wr_ireturn dX7_isAhead_103 ⟨_, rfl, rfl⟩
  · refine wr_iload_n dX7_isAhead_33 rfl ?_
    refine wr_iload dX7_isAhead_34 rfl ?_
    refine wr_gd (fun g36 => ?_)
    refine wr_icmp_le 43 dX7_isAhead_36 g36.1 g36.2 (fun h36 => ?_) (fun h36 => ?_)
    · refine wr_iconst dX7_isAhead_43 ?_
      exact wr_ireturn dX7_isAhead_44 ⟨_, rfl, rfl⟩
    · refine wr_iconst dX7_isAhead_39 ?_
      refine wr_goto 44 dX7_isAhead_40 ?_
      exact wr_ireturn dX7_isAhead_44 ⟨_, rfl, rfl⟩
set_option maxRecDepth 100000 in
set_option maxHeartbeats 4000000 in
theorem pX7_nextToTry_b5 {E : wE} {n : Nat} (hE : wGE E) {C : cR} {m : mR} {ca : caT} {h : hW} (hr : rep E (C, m) ca h) : ∀ (fuel : Nat) (x1 : Int) (x2 : Int) , WR E (n + 3) yX7_nextToTry cX7_nextToTry 3 (some .int) vI h 5 (wLs [some (.ref (aM E 0)), some (.int (iI x1)), some (.int (iI x2))]) [] (fX7_nextToTry_b5 m fuel x1 x2) := by
  intro fuel
  induction fuel with
  | zero =>
    intro x1 x2
    exact wr_none
  | succ fuel ih =>
    intro x1 x2
    unfold fX7_nextToTry_b5
    refine wr_iload_n dX7_nextToTry_5 rfl ?_
    refine wr_gd (fun g6 => ?_)
    refine wr_i2l dX7_nextToTry_6 g6 ?_
    refine wr_aload_n dX7_nextToTry_7 rfl ?_
    refine wr_get dX7_nextToTry_8 f_RX7_7 (rd_mod hr) ?_
    refine wr_iconst dX7_nextToTry_11 ?_
    refine wr_lald dX7_nextToTry_12 (g := fun j => m.1 0 j) (by decide) (rd_now hr) ?_
    refine wr_gd (fun g13 => ?_)
    refine wr_jcmp_ge 53 dX7_nextToTry_13 dX7_nextToTry_14 g13.1 g13.2 (fun h13 => ?_) (fun h13 => ?_)
    · refine wr_iload_n dX7_nextToTry_53 rfl ?_
      exact wr_ireturn dX7_nextToTry_54 ⟨_, rfl, rfl⟩
    · refine wr_aload_n dX7_nextToTry_17 rfl ?_
      refine wr_iload_n dX7_nextToTry_18 rfl ?_
      refine wr_iconst dX7_nextToTry_19 ?_
      refine wr_cV dX7_nextToTry_20 k_RX7_210 b_yX7_partOf x_yX7_partOf (pX7_partOf (n := n + 2) hE hr x2 5) (rd_mod hr) rfl (fun r20 => ?_)
      refine wr_gd (fun g23 => ?_)
      refine wr_if_ne 45 dX7_nextToTry_23 g23 (fun h23 => ?_) (fun h23 => ?_)
      · refine wr_iload_n dX7_nextToTry_45 rfl ?_
        refine wr_istore_n dX7_nextToTry_46 ?_
        refine wr_iinc dX7_nextToTry_47 rfl ?_
        refine wr_goto 5 dX7_nextToTry_50 ?_
        exact wr_at (ih x1 (x2 + 1)) ⟨rfl, rfl, rfl, trivial⟩
      · refine wr_iload_n dX7_nextToTry_26 rfl ?_
        refine wr_bipush dX7_nextToTry_27 ?_
        refine wr_gd (fun g29 => ?_)
        refine wr_icmp_eq 41 dX7_nextToTry_29 g29 (by decide) (fun h29 => ?_) (fun h29 => ?_)
        · refine wr_iload_n dX7_nextToTry_41 rfl ?_
          refine wr_goto 46 dX7_nextToTry_42 ?_
          refine wr_istore_n dX7_nextToTry_46 ?_
          refine wr_iinc dX7_nextToTry_47 rfl ?_
          refine wr_goto 5 dX7_nextToTry_50 ?_
          exact wr_at (ih x2 (x2 + 1)) ⟨rfl, rfl, rfl, trivial⟩
        · refine wr_aload_n dX7_nextToTry_32 rfl ?_
          refine wr_iload_n dX7_nextToTry_33 rfl ?_
          refine wr_iload_n dX7_nextToTry_34 rfl ?_
          refine wr_cV dX7_nextToTry_35 k_RX7_238 b_yX7_isAhead x_yX7_isAhead (pX7_isAhead (n := n) hE hr x2 x1) (rd_mod hr) rfl (fun r35 => ?_)
          refine wr_gd (fun g38 => ?_)
          refine wr_if_eq 45 dX7_nextToTry_38 g38 (fun h38 => ?_) (fun h38 => ?_)
          · refine wr_iload_n dX7_nextToTry_45 rfl ?_
            refine wr_istore_n dX7_nextToTry_46 ?_
            refine wr_iinc dX7_nextToTry_47 rfl ?_
            refine wr_goto 5 dX7_nextToTry_50 ?_
            exact wr_at (ih x1 (x2 + 1)) ⟨rfl, rfl, rfl, trivial⟩
          · refine wr_iload_n dX7_nextToTry_41 rfl ?_
            refine wr_goto 46 dX7_nextToTry_42 ?_
            refine wr_istore_n dX7_nextToTry_46 ?_
            refine wr_iinc dX7_nextToTry_47 rfl ?_
            refine wr_goto 5 dX7_nextToTry_50 ?_
            exact wr_at (ih x2 (x2 + 1)) ⟨rfl, rfl, rfl, trivial⟩
set_option maxRecDepth 100000 in
set_option maxHeartbeats 4000000 in
theorem pX7_nextToTry {E : wE} {n : Nat} (hE : wGE E) {C : cR} {m : mR} {ca : caT} {h : hW} (hr : rep E (C, m) ca h)   : WR E (n + 3) yX7_nextToTry cX7_nextToTry 3 (some .int) vI h 0 (wArgs [.ref (aM E 0)]) [] (fX7_nextToTry  m) := by
  unfold fX7_nextToTry
  refine wr_bipush dX7_nextToTry_0 ?_
  refine wr_istore_n dX7_nextToTry_2 ?_
  refine wr_iconst dX7_nextToTry_3 ?_
  refine wr_istore_n dX7_nextToTry_4 ?_
  exact wr_at (pX7_nextToTry_b5 (n := n) hE hr  fuel0 (-6) 0) ⟨rfl, rfl, rfl, trivial⟩
set_option maxRecDepth 100000 in
set_option maxHeartbeats 4000000 in
theorem pX7_removes_b12 {E : wE} {n : Nat} (hE : wGE E) {C : cR} : ∀ (fuel : Nat) (x2 : Int)  (m : mR) (ca : caT), WF E n yX7_removes cX7_removes 3 (none) vV (fun m : mR => (C, m)) ca 12 (wLs [some (.ref (aM E 0)), none, some (.int (iI x2))]) [] m (fX7_removes_b12 fuel x2 m) := by
  intro fuel
  induction fuel with
  | zero =>
    intro x2 m ca
    exact wf_none
  | succ fuel ih =>
    intro x2 m ca
    unfold fX7_removes_b12
    refine wf_iload_n dX7_removes_12 rfl ?_
    refine wf_gd (fun g13 => ?_)
    refine wf_i2l dX7_removes_13 g13 ?_
    refine wf_aload_n dX7_removes_14 rfl ?_
    refine wf_get dX7_removes_15 f_RX7_7 (fun h hr => rd_mod hr) ?_
    refine wf_iconst dX7_removes_18 ?_
    refine wf_lald dX7_removes_19 (g := fun j => m.1 0 j) (by decide) (fun h hr => rd_now hr) ?_
    refine wf_gd (fun g20 => ?_)
    refine wf_jcmp_ge 44 dX7_removes_20 dX7_removes_21 g20.1 g20.2 (fun h20 => ?_) (fun h20 => ?_)
    · exact wf_return dX7_removes_44 rfl
    · refine wf_aload_n dX7_removes_24 rfl ?_
      refine wf_get dX7_removes_25 f_RX7_17 (fun h hr => rd_mod hr) ?_
      refine wf_iload_n dX7_removes_28 rfl ?_
      refine wf_aload_n dX7_removes_29 rfl ?_
      refine wf_get dX7_removes_30 f_RX7_17 (fun h hr => rd_mod hr) ?_
      refine wf_iload_n dX7_removes_33 rfl ?_
      refine wf_iconst dX7_removes_34 ?_
      refine wf_iadd dX7_removes_35 ?_
      refine wf_gd (fun g36 => ?_)
      refine wf_lald dX7_removes_36 (g := fun j => m.1 1 j) g36 (fun h hr => rd_waits hr) ?_
      refine wf_gd (fun g37 => ?_)
      refine wf_s_waits dX7_removes_37 g37 (fun m37 => ?_)
      refine wf_iinc dX7_removes_38 rfl ?_
      refine wf_goto 12 dX7_removes_41 ?_
      exact wf_at (ih (x2 + 1) _ _) ⟨rfl, rfl, trivial⟩
set_option maxRecDepth 100000 in
set_option maxHeartbeats 4000000 in
theorem pX7_removes {E : wE} {n : Nat} (hE : wGE E) {C : cR} (x1 : Int)  (m : mR) (ca : caT) : WF E n yX7_removes cX7_removes 3 (none) vV (fun m : mR => (C, m)) ca 0 (wArgs [.ref (aM E 0), .int (iI x1)]) [] m (fX7_removes x1 m) := by
  unfold fX7_removes
  refine wf_aload_n dX7_removes_0 rfl ?_
  refine wf_get dX7_removes_1 f_RX7_7 (fun h hr => rd_mod hr) ?_
  refine wf_iconst dX7_removes_4 ?_
  refine wf_dup2 dX7_removes_5 ?_
  refine wf_lald dX7_removes_6 (g := fun j => m.1 0 j) (by decide) (fun h hr => rd_now hr) ?_
  refine wf_lconst1 dX7_removes_7 ?_
  refine wf_lsub dX7_removes_8 ?_
  refine wf_s_now dX7_removes_9 (by decide) (fun m9 => ?_)
  refine wf_iload_n dX7_removes_10 rfl ?_
  refine wf_istore_n dX7_removes_11 ?_
  exact wf_at (pX7_removes_b12 (n := n) hE  fuel0 x1 _ _) ⟨rfl, rfl, trivial⟩
set_option maxRecDepth 100000 in
set_option maxHeartbeats 4000000 in
theorem pX7_misses {E : wE} {n : Nat} (hE : wGE E) {C : cR} (x1 : Int)  (m : mR) (ca : caT) : WF E (n + 1) yX7_misses cX7_misses 2 (none) vV (fun m : mR => (C, m)) ca 0 (wArgs [.ref (aM E 0), .int (iI x1)]) [] m (fX7_misses x1 m) := by
  unfold fX7_misses
  refine wf_aload_n dX7_misses_0 rfl ?_
  refine wf_get dX7_misses_1 f_RX7_7 (fun h hr => rd_mod hr) ?_
  refine wf_bipush dX7_misses_4 ?_
  refine wf_bipush dX7_misses_6 ?_
  refine wf_aload_n dX7_misses_8 rfl ?_
  refine wf_iload_n dX7_misses_9 rfl ?_
  refine wf_iconst dX7_misses_10 ?_
  refine wf_rV dX7_misses_11 k_RX7_210 b_yX7_partOf x_yX7_partOf (fun h hr => pX7_partOf (n := n) hE hr x1 0) (fun h hr => rd_mod hr) rfl (fun r11 => ?_)
  refine wf_imul dX7_misses_14 ?_
  refine wf_iadd dX7_misses_15 ?_
  refine wf_bipush dX7_misses_16 ?_
  refine wf_iadd dX7_misses_18 ?_
  refine wf_dup2 dX7_misses_19 ?_
  refine wf_gd (fun g20 => ?_)
  refine wf_lald dX7_misses_20 (g := fun j => m.1 0 j) g20 (fun h hr => rd_now hr) ?_
  refine wf_lconst1 dX7_misses_21 ?_
  refine wf_ladd dX7_misses_22 ?_
  refine wf_gd (fun g23 => ?_)
  refine wf_s_now dX7_misses_23 g23 (fun m23 => ?_)
  refine wf_aload_n dX7_misses_24 rfl ?_
  refine wf_get dX7_misses_25 f_RX7_7 (fun h hr => rd_mod hr) ?_
  refine wf_bipush dX7_misses_28 ?_
  refine wf_dup2 dX7_misses_30 ?_
  refine wf_lald dX7_misses_31 (g := fun j => m23.1 0 j) (by decide) (fun h hr => rd_now hr) ?_
  refine wf_lconst1 dX7_misses_32 ?_
  refine wf_ladd dX7_misses_33 ?_
  refine wf_s_now dX7_misses_34 (by decide) (fun m34 => ?_)
  refine wf_aload_n dX7_misses_35 rfl ?_
  refine wf_iload_n dX7_misses_36 rfl ?_
  refine wf_cV (put := fun q => q) dX7_misses_37 k_RX7_225 b_yX7_removes x_yX7_removes (pX7_removes (n := n) hE x1 _ _) rfl (fun _ => rfl) (fun h hr => rd_mod hr) rfl (fun r37 m37 ca => ?_)
  exact wf_return dX7_misses_40 rfl
set_option maxRecDepth 100000 in
set_option maxHeartbeats 4000000 in
theorem pX7_ofA {E : wE} {n : Nat} (hE : wGE E) {C : cR} {m : mR} {ca : caT} {h : hW} (hr : rep E (C, m) ca h) (x1 : Int) (x2 : Int)  : WR E (n + 1) yX7_ofA cX7_ofA 3 (some .int) vI h 0 (wArgs [.ref (aM E 0), .int (iI x1), .int (iI x2)]) [] (fX7_ofA x1 x2 m) := by
  unfold fX7_ofA
  refine wr_aload_n dX7_ofA_0 rfl ?_
  refine wr_bipush dX7_ofA_1 ?_
  refine wr_bipush dX7_ofA_3 ?_
  refine wr_iload_n dX7_ofA_5 rfl ?_
  refine wr_imul dX7_ofA_6 ?_
  refine wr_iadd dX7_ofA_7 ?_
  refine wr_iload_n dX7_ofA_8 rfl ?_
  refine wr_iadd dX7_ofA_9 ?_
  refine wr_cV dX7_ofA_10 k_RX7_43 b_yX7_of x_yX7_of (pX7_of (n := n) hE hr ((33 + (11 * x1)) + x2)) (rd_mod hr) rfl (fun r10 => ?_)
  exact wr_ireturn dX7_ofA_13 ⟨_, rfl, rfl⟩
set_option maxRecDepth 100000 in
set_option maxHeartbeats 4000000 in
theorem pX7_tries_b93 {E : wE} {n : Nat} (hE : wGE E) {C : cR} (x1 : Int) (x2 : Int)  (m : mR) (ca : caT) : WF E (n + 2) yX7_tries cX7_tries 7 (none) vV (fun m : mR => (C, m)) ca 93 (wLs [some (.ref (aM E 0)), some (.int (iI x1)), some (.int (iI x2))]) [] m (fX7_tries_b93 x1 x2 m) := by
  unfold fX7_tries_b93
  refine wf_aload_n dX7_tries_93 rfl ?_
  refine wf_get dX7_tries_94 f_RX7_7 (fun h hr => rd_mod hr) ?_
  refine wf_bipush dX7_tries_97 ?_
  refine wf_bipush dX7_tries_99 ?_
  refine wf_iload_n dX7_tries_101 rfl ?_
  refine wf_imul dX7_tries_102 ?_
  refine wf_iadd dX7_tries_103 ?_
  refine wf_bipush dX7_tries_104 ?_
  refine wf_iadd dX7_tries_106 ?_
  refine wf_dup2 dX7_tries_107 ?_
  refine wf_gd (fun g108 => ?_)
  refine wf_lald dX7_tries_108 (g := fun j => m.1 0 j) g108 (fun h hr => rd_now hr) ?_
  refine wf_lconst1 dX7_tries_109 ?_
  refine wf_ladd dX7_tries_110 ?_
  refine wf_gd (fun g111 => ?_)
  refine wf_s_now dX7_tries_111 g111 (fun m111 => ?_)
  refine wf_aload_n dX7_tries_112 rfl ?_
  refine wf_get dX7_tries_113 f_RX7_7 (fun h hr => rd_mod hr) ?_
  refine wf_iconst dX7_tries_116 ?_
  refine wf_dup2 dX7_tries_117 ?_
  refine wf_lald dX7_tries_118 (g := fun j => m111.1 0 j) (by decide) (fun h hr => rd_now hr) ?_
  refine wf_lconst1 dX7_tries_119 ?_
  refine wf_ladd dX7_tries_120 ?_
  refine wf_s_now dX7_tries_121 (by decide) (fun m121 => ?_)
  refine wf_aload_n dX7_tries_122 rfl ?_
  refine wf_iload_n dX7_tries_123 rfl ?_
  refine wf_cV (put := fun q => q) dX7_tries_124 k_RX7_225 b_yX7_removes x_yX7_removes (pX7_removes (n := n + 1) hE x1 _ _) rfl (fun _ => rfl) (fun h hr => rd_mod hr) rfl (fun r124 m124 ca => ?_)
  exact wf_return dX7_tries_127 rfl
set_option maxRecDepth 100000 in
set_option maxHeartbeats 4000000 in
theorem pX7_tries {E : wE} {n : Nat} (hE : wGE E) {C : cR} (x1 : Int)  (m : mR) (ca : caT) : WF E (n + 2) yX7_tries cX7_tries 7 (none) vV (fun m : mR => (C, m)) ca 0 (wArgs [.ref (aM E 0), .int (iI x1)]) [] m (fX7_tries x1 m) := by
  unfold fX7_tries
  refine wf_aload_n dX7_tries_0 rfl ?_
  refine wf_iload_n dX7_tries_1 rfl ?_
  refine wf_iconst dX7_tries_2 ?_
  refine wf_rV dX7_tries_3 k_RX7_210 b_yX7_partOf x_yX7_partOf (fun h hr => pX7_partOf (n := n + 1) hE hr x1 0) (fun h hr => rd_mod hr) rfl (fun r3 => ?_)
  refine wf_istore_n dX7_tries_6 ?_
  refine wf_aload_n dX7_tries_7 rfl ?_
  refine wf_iload_n dX7_tries_8 rfl ?_
  refine wf_iconst dX7_tries_9 ?_
  refine wf_rV dX7_tries_10 k_RX7_151 b_yX7_ofO x_yX7_ofO (fun h hr => pX7_ofO (n := n) hE hr r3 0) (fun h hr => rd_mod hr) rfl (fun r10 => ?_)
  refine wf_istore_n dX7_tries_13 ?_
  refine wf_aload_n dX7_tries_14 rfl ?_
  refine wf_iload_n dX7_tries_15 rfl ?_
  refine wf_iconst dX7_tries_16 ?_
  refine wf_rV dX7_tries_17 k_RX7_151 b_yX7_ofO x_yX7_ofO (fun h hr => pX7_ofO (n := n) hE hr r3 1) (fun h hr => rd_mod hr) rfl (fun r17 => ?_)
  refine wf_istore dX7_tries_20 ?_
  refine wf_aload_n dX7_tries_22 rfl ?_
  refine wf_iload_n dX7_tries_23 rfl ?_
  refine wf_iconst dX7_tries_24 ?_
  refine wf_rV dX7_tries_25 k_RX7_210 b_yX7_partOf x_yX7_partOf (fun h hr => pX7_partOf (n := n + 1) hE hr x1 1) (fun h hr => rd_mod hr) rfl (fun r25 => ?_)
  refine wf_gd (fun g28 => ?_)
  refine wf_i2l dX7_tries_28 g28 ?_
  refine wf_lstore dX7_tries_29 ?_
  refine wf_aload_n dX7_tries_31 rfl ?_
  refine wf_iload_n dX7_tries_32 rfl ?_
  refine wf_iconst dX7_tries_33 ?_
  refine wf_rV dX7_tries_34 k_RX7_141 b_yX7_moneyOf x_yX7_moneyOf (fun h hr => pX7_moneyOf (n := n + 1) hE hr r10 0) (fun h hr => rd_mod hr) rfl (fun r34 => ?_)
  refine wf_aload_n dX7_tries_37 rfl ?_
  refine wf_iload_n dX7_tries_38 rfl ?_
  refine wf_iconst dX7_tries_39 ?_
  refine wf_rV dX7_tries_40 k_RX7_132 b_yX7_ofA x_yX7_ofA (fun h hr => pX7_ofA (n := n) hE hr r10 0) (fun h hr => rd_mod hr) rfl (fun r40 => ?_)
  refine wf_gd (fun g43 => ?_)
  refine wf_i2l dX7_tries_43 g43 ?_
  refine wf_ladd dX7_tries_44 ?_
  refine wf_lload dX7_tries_45 rfl ?_
  refine wf_gd (fun g47 => ?_)
  refine wf_jcmp_lt 128 dX7_tries_47 dX7_tries_48 g47.1 g47.2 (fun h47 => ?_) (fun h47 => ?_)
  · refine wf_aload_n dX7_tries_128 rfl ?_
    refine wf_iload_n dX7_tries_129 rfl ?_
    refine wf_iconst dX7_tries_130 ?_
    refine wf_aload_n dX7_tries_131 rfl ?_
    refine wf_get dX7_tries_132 f_RX7_7 (fun h hr => rd_mod hr) ?_
    refine wf_bipush dX7_tries_135 ?_
    refine wf_lald dX7_tries_137 (g := fun j => m.1 0 j) (by decide) (fun h hr => rd_now hr) ?_
    refine wf_lneg dX7_tries_138 ?_
    refine wf_cV (put := fun q => q) dX7_tries_139 k_RX7_137 b_yX7_moves x_yX7_moves (pX7_moves (n := n + 1) hE r10 0 (-(m.1 0 10)) _ _) rfl (fun _ => rfl) (fun h hr => rd_mod hr) rfl (fun r139 m139 ca => ?_)
    refine wf_aload_n dX7_tries_142 rfl ?_
    refine wf_iload_n dX7_tries_143 rfl ?_
    refine wf_bipush dX7_tries_144 ?_
    refine wf_aload_n dX7_tries_146 rfl ?_
    refine wf_get dX7_tries_147 f_RX7_7 (fun h hr => rd_mod hr) ?_
    refine wf_bipush dX7_tries_150 ?_
    refine wf_lald dX7_tries_152 (g := fun j => m139.1 0 j) (by decide) (fun h hr => rd_now hr) ?_
    refine wf_cV (put := fun q => q) dX7_tries_153 k_RX7_137 b_yX7_moves x_yX7_moves (pX7_moves (n := n + 1) hE r10 6 (m139.1 0 10) _ _) rfl (fun _ => rfl) (fun h hr => rd_mod hr) rfl (fun r153 m153 ca => ?_)
    refine wf_aload_n dX7_tries_156 rfl ?_
    refine wf_get dX7_tries_157 f_RX7_7 (fun h hr => rd_mod hr) ?_
    refine wf_bipush dX7_tries_160 ?_
    refine wf_dup2 dX7_tries_162 ?_
    refine wf_lald dX7_tries_163 (g := fun j => m153.1 0 j) (by decide) (fun h hr => rd_now hr) ?_
    refine wf_lconst1 dX7_tries_164 ?_
    refine wf_ladd dX7_tries_165 ?_
    refine wf_s_now dX7_tries_166 (by decide) (fun m166 => ?_)
    refine wf_aload_n dX7_tries_167 rfl ?_
    refine wf_dup dX7_tries_168 ?_
    refine wf_get dX7_tries_169 f_RX7_241 (fun h hr => rd_mod hr) ?_
    refine wf_iconst dX7_tries_172 ?_
    refine wf_iload_n dX7_tries_173 rfl ?_
    refine wf_ishl dX7_tries_174 ?_
    refine wf_ior dX7_tries_175 ?_
    refine wf_p_modf (f := 8) dX7_tries_176 p_RX7_241 (fun m176 => ?_)
    refine wf_aload_n dX7_tries_179 rfl ?_
    refine wf_iload_n dX7_tries_180 rfl ?_
    refine wf_iconst dX7_tries_181 ?_
    refine wf_rV dX7_tries_182 k_RX7_210 b_yX7_partOf x_yX7_partOf (fun h hr => pX7_partOf (n := n + 1) hE hr x1 4) (fun h hr => rd_mod hr) rfl (fun r182 => ?_)
    refine wf_iconst dX7_tries_185 ?_
    refine wf_iadd dX7_tries_186 ?_
    refine wf_gd (fun g187 => ?_)
    refine wf_i2l dX7_tries_187 g187 ?_
    refine wf_aload_n dX7_tries_188 rfl ?_
    refine wf_get dX7_tries_189 f_RX7_7 (fun h hr => rd_mod hr) ?_
    refine wf_bipush dX7_tries_192 ?_
    refine wf_lald dX7_tries_194 (g := fun j => m176.1 0 j) (by decide) (fun h hr => rd_now hr) ?_
    refine wf_gd (fun g195 => ?_)
    refine wf_jcmp_lt 207 dX7_tries_195 dX7_tries_196 g195.1 g195.2 (fun h195 => ?_) (fun h195 => ?_)
    · refine wf_aload_n dX7_tries_207 rfl ?_
      refine wf_get dX7_tries_208 f_RX7_17 (fun h hr => rd_mod hr) ?_
      refine wf_iload_n dX7_tries_211 rfl ?_
      refine wf_dup2 dX7_tries_212 ?_
      refine wf_gd (fun g213 => ?_)
      refine wf_lald dX7_tries_213 (g := fun j => m176.1 1 j) g213 (fun h hr => rd_waits hr) ?_
      refine wf_ldc2 dX7_tries_214 c_RX7_244 ?_
      refine wf_ladd dX7_tries_217 ?_
      refine wf_gd (fun g218 => ?_)
      refine wf_s_waits dX7_tries_218 g218 (fun m218 => ?_)
      exact wf_return dX7_tries_219 rfl
    · refine wf_aload_n dX7_tries_199 rfl ?_
      refine wf_iload_n dX7_tries_200 rfl ?_
      refine wf_cV (put := fun q => q) dX7_tries_201 k_RX7_228 b_yX7_misses x_yX7_misses (pX7_misses (n := n) hE x1 _ _) rfl (fun _ => rfl) (fun h hr => rd_mod hr) rfl (fun r201 m201 ca => ?_)
      refine wf_goto 219 dX7_tries_204 ?_
      exact wf_return dX7_tries_219 rfl
  · refine wf_aload_n dX7_tries_51 rfl ?_
    refine wf_iload_n dX7_tries_52 rfl ?_
    refine wf_iconst dX7_tries_53 ?_
    refine wf_lload dX7_tries_54 rfl ?_
    refine wf_lneg dX7_tries_56 ?_
    refine wf_cV (put := fun q => q) dX7_tries_57 k_RX7_137 b_yX7_moves x_yX7_moves (pX7_moves (n := n + 1) hE r10 0 (-r25) _ _) rfl (fun _ => rfl) (fun h hr => rd_mod hr) rfl (fun r57 m57 ca => ?_)
    refine wf_aload_n dX7_tries_60 rfl ?_
    refine wf_iload_n dX7_tries_61 rfl ?_
    refine wf_iconst dX7_tries_62 ?_
    refine wf_lload dX7_tries_63 rfl ?_
    refine wf_cV (put := fun q => q) dX7_tries_65 k_RX7_137 b_yX7_moves x_yX7_moves (pX7_moves (n := n + 1) hE r10 2 r25 _ _) rfl (fun _ => rfl) (fun h hr => rd_mod hr) rfl (fun r65 m65 ca => ?_)
    refine wf_iload dX7_tries_68 rfl ?_
    refine wf_bipush dX7_tries_70 ?_
    refine wf_gd (fun g72 => ?_)
    refine wf_icmp_eq 93 dX7_tries_72 g72 (by decide) (fun h72 => ?_) (fun h72 => ?_)
    · exact wf_at (pX7_tries_b93 (n := n) hE  x1 r3 _ _) ⟨rfl, rfl, rfl, trivial⟩
    · refine wf_aload_n dX7_tries_75 rfl ?_
      refine wf_iload dX7_tries_76 rfl ?_
      refine wf_iconst dX7_tries_78 ?_
      refine wf_lload dX7_tries_79 rfl ?_
      refine wf_cV (put := fun q => q) dX7_tries_81 k_RX7_137 b_yX7_moves x_yX7_moves (pX7_moves (n := n + 1) hE r17 0 r25 _ _) rfl (fun _ => rfl) (fun h hr => rd_mod hr) rfl (fun r81 m81 ca => ?_)
      refine wf_aload_n dX7_tries_84 rfl ?_
      refine wf_iload dX7_tries_85 rfl ?_
      refine wf_iconst dX7_tries_87 ?_
      refine wf_lload dX7_tries_88 rfl ?_
      refine wf_cV (put := fun q => q) dX7_tries_90 k_RX7_137 b_yX7_moves x_yX7_moves (pX7_moves (n := n + 1) hE r17 3 r25 _ _) rfl (fun _ => rfl) (fun h hr => rd_mod hr) rfl (fun r90 m90 ca => ?_)
      exact wf_at (pX7_tries_b93 (n := n) hE  x1 r3 _ _) ⟨rfl, rfl, rfl, trivial⟩
set_option maxRecDepth 100000 in
set_option maxHeartbeats 4000000 in
theorem pX7_paysAll_b26 {E : wE} {n : Nat} (hE : wGE E) {C : cR} : ∀ (fuel : Nat) (x2 : Int)  (m : mR) (ca : caT), WF E (n + 4) yX7_paysAll cX7_paysAll 3 (none) vV (fun m : mR => (C, m)) ca 26 (wLs [some (.ref (aM E 0)), none, some (.int (iI x2))]) [] m (fX7_paysAll_b26 fuel x2 m) := by
  intro fuel
  induction fuel with
  | zero =>
    intro x2 m ca
    exact wf_none
  | succ fuel ih =>
    intro x2 m ca
    unfold fX7_paysAll_b26
    refine wf_iload_n dX7_paysAll_26 rfl ?_
    refine wf_gd (fun g27 => ?_)
    refine wf_i2l dX7_paysAll_27 g27 ?_
    refine wf_aload_n dX7_paysAll_28 rfl ?_
    refine wf_get dX7_paysAll_29 f_RX7_7 (fun h hr => rd_mod hr) ?_
    refine wf_iconst dX7_paysAll_32 ?_
    refine wf_lald dX7_paysAll_33 (g := fun j => m.1 0 j) (by decide) (fun h hr => rd_now hr) ?_
    refine wf_gd (fun g34 => ?_)
    refine wf_jcmp_ge 56 dX7_paysAll_34 dX7_paysAll_35 g34.1 g34.2 (fun h34 => ?_) (fun h34 => ?_)
    · exact wf_return dX7_paysAll_56 rfl
    · refine wf_aload_n dX7_paysAll_38 rfl ?_
      refine wf_get dX7_paysAll_39 f_RX7_17 (fun h hr => rd_mod hr) ?_
      refine wf_iload_n dX7_paysAll_42 rfl ?_
      refine wf_dup2 dX7_paysAll_43 ?_
      refine wf_gd (fun g44 => ?_)
      refine wf_lald dX7_paysAll_44 (g := fun j => m.1 1 j) g44 (fun h hr => rd_waits hr) ?_
      refine wf_ldc2 dX7_paysAll_45 c_RX7_208 ?_
      refine wf_gd (fun g48 => ?_)
      refine wf_lrem dX7_paysAll_48 g48 (by decide) ?_
      refine wf_gd (fun g49 => ?_)
      refine wf_s_waits dX7_paysAll_49 g49 (fun m49 => ?_)
      refine wf_iinc dX7_paysAll_50 rfl ?_
      refine wf_goto 26 dX7_paysAll_53 ?_
      exact wf_at (ih (x2 + 1) _ _) ⟨rfl, rfl, trivial⟩
set_option maxRecDepth 100000 in
set_option maxHeartbeats 4000000 in
theorem pX7_paysAll_b5 {E : wE} {n : Nat} (hE : wGE E) {C : cR} : ∀ (fuel : Nat) (x1 : Int)  (m : mR) (ca : caT), WF E (n + 4) yX7_paysAll cX7_paysAll 3 (none) vV (fun m : mR => (C, m)) ca 5 (wLs [some (.ref (aM E 0)), some (.int (iI x1))]) [] m (fX7_paysAll_b5 fuel x1 m) := by
  intro fuel
  induction fuel with
  | zero =>
    intro x1 m ca
    exact wf_none
  | succ fuel ih =>
    intro x1 m ca
    unfold fX7_paysAll_b5
    refine wf_iload_n dX7_paysAll_5 rfl ?_
    refine wf_bipush dX7_paysAll_6 ?_
    refine wf_gd (fun g8 => ?_)
    refine wf_icmp_eq 24 dX7_paysAll_8 g8 (by decide) (fun h8 => ?_) (fun h8 => ?_)
    · refine wf_iconst dX7_paysAll_24 ?_
      refine wf_istore_n dX7_paysAll_25 ?_
      exact wf_at (pX7_paysAll_b26 (n := n) hE  fuel0 0 _ _) ⟨rfl, rfl, trivial⟩
    · refine wf_aload_n dX7_paysAll_11 rfl ?_
      refine wf_iload_n dX7_paysAll_12 rfl ?_
      refine wf_cV (put := fun q => q) dX7_paysAll_13 k_RX7_249 b_yX7_tries x_yX7_tries (pX7_tries (n := n + 1) hE x1 _ _) rfl (fun _ => rfl) (fun h hr => rd_mod hr) rfl (fun r13 m13 ca => ?_)
      refine wf_aload_n dX7_paysAll_16 rfl ?_
      refine wf_rV dX7_paysAll_17 k_RX7_246 b_yX7_nextToTry x_yX7_nextToTry (fun h hr => pX7_nextToTry (n := n) hE hr) (fun h hr => rd_mod hr) rfl (fun r17 => ?_)
      refine wf_istore_n dX7_paysAll_20 ?_
      refine wf_goto 5 dX7_paysAll_21 ?_
      exact wf_at (ih r17 _ _) ⟨rfl, rfl, trivial⟩
set_option maxRecDepth 100000 in
set_option maxHeartbeats 4000000 in
theorem pX7_paysAll {E : wE} {n : Nat} (hE : wGE E) {C : cR}   (m : mR) (ca : caT) : WF E (n + 4) yX7_paysAll cX7_paysAll 3 (none) vV (fun m : mR => (C, m)) ca 0 (wArgs [.ref (aM E 0)]) [] m (fX7_paysAll  m) := by
  unfold fX7_paysAll
  refine wf_aload_n dX7_paysAll_0 rfl ?_
  refine wf_rV dX7_paysAll_1 k_RX7_246 b_yX7_nextToTry x_yX7_nextToTry (fun h hr => pX7_nextToTry (n := n) hE hr) (fun h hr => rd_mod hr) rfl (fun r1 => ?_)
  refine wf_istore_n dX7_paysAll_4 ?_
  exact wf_at (pX7_paysAll_b5 (n := n) hE  fuel0 r1 _ _) ⟨rfl, rfl, trivial⟩
set_option maxRecDepth 100000 in
set_option maxHeartbeats 4000000 in
theorem pX7_waitsFor_b47 {E : wE} {n : Nat} (hE : wGE E) {C : cR} {m : mR} {ca : caT} {h : hW} (hr : rep E (C, m) ca h) {rec5 : Int → Int → Int → Option Int} (hrec5 : ∀ (x1 : Int) (x2 : Int) (x4 : Int) , WR E (n + 2) yX7_waitsFor cX7_waitsFor 5 (some .long) vJ h 5 (wLs [some (.ref (aM E 0)), some (.int (iI x1)), some (.long (jL x2)), none, some (.int (iI x4))]) [] (rec5 x1 x2 x4)) (x1 : Int) (x4 : Int) (t0 : Int) (t1 : Int)  : WR E (n + 2) yX7_waitsFor cX7_waitsFor 5 (some .long) vJ h 47 (wLs [some (.ref (aM E 0)), some (.int (iI x1)), none, none, some (.int (iI x4))]) [.long (jL t1), .long (jL t0)] (fX7_waitsFor_b47 m rec5 x1 x4 t0 t1) := by
  unfold fX7_waitsFor_b47
  refine wr_ladd dX7_waitsFor_47 ?_
  refine wr_lstore_n dX7_waitsFor_48 ?_
  refine wr_iinc dX7_waitsFor_49 rfl ?_
  refine wr_goto 5 dX7_waitsFor_52 ?_
  exact wr_at (hrec5 x1 (t0 + t1) (x4 + 1)) ⟨rfl, rfl, rfl, rfl, trivial⟩
set_option maxRecDepth 100000 in
set_option maxHeartbeats 4000000 in
theorem pX7_waitsFor_b5 {E : wE} {n : Nat} (hE : wGE E) {C : cR} {m : mR} {ca : caT} {h : hW} (hr : rep E (C, m) ca h) : ∀ (fuel : Nat) (x1 : Int) (x2 : Int) (x4 : Int) , WR E (n + 2) yX7_waitsFor cX7_waitsFor 5 (some .long) vJ h 5 (wLs [some (.ref (aM E 0)), some (.int (iI x1)), some (.long (jL x2)), none, some (.int (iI x4))]) [] (fX7_waitsFor_b5 m fuel x1 x2 x4) := by
  intro fuel
  induction fuel with
  | zero =>
    intro x1 x2 x4
    exact wr_none
  | succ fuel ih =>
    intro x1 x2 x4
    unfold fX7_waitsFor_b5
    refine wr_iload dX7_waitsFor_5 rfl ?_
    refine wr_gd (fun g7 => ?_)
    refine wr_i2l dX7_waitsFor_7 g7 ?_
    refine wr_aload_n dX7_waitsFor_8 rfl ?_
    refine wr_get dX7_waitsFor_9 f_RX7_7 (rd_mod hr) ?_
    refine wr_iconst dX7_waitsFor_12 ?_
    refine wr_lald dX7_waitsFor_13 (g := fun j => m.1 0 j) (by decide) (rd_now hr) ?_
    refine wr_gd (fun g14 => ?_)
    refine wr_jcmp_ge 55 dX7_waitsFor_14 dX7_waitsFor_15 g14.1 g14.2 (fun h14 => ?_) (fun h14 => ?_)
    · refine wr_lload_n dX7_waitsFor_55 rfl ?_
      exact wr_lreturn dX7_waitsFor_56 rfl
    · refine wr_lload_n dX7_waitsFor_18 rfl ?_
      refine wr_aload_n dX7_waitsFor_19 rfl ?_
      refine wr_aload_n dX7_waitsFor_20 rfl ?_
      refine wr_iload dX7_waitsFor_21 rfl ?_
      refine wr_iconst dX7_waitsFor_23 ?_
      refine wr_cV dX7_waitsFor_24 k_RX7_210 b_yX7_partOf x_yX7_partOf (pX7_partOf (n := n + 1) hE hr x4 0) (rd_mod hr) rfl (fun r24 => ?_)
      refine wr_iconst dX7_waitsFor_27 ?_
      refine wr_cV dX7_waitsFor_28 k_RX7_151 b_yX7_ofO x_yX7_ofO (pX7_ofO (n := n) hE hr r24 0) (rd_mod hr) rfl (fun r28 => ?_)
      refine wr_iload_n dX7_waitsFor_31 rfl ?_
      refine wr_gd (fun g32 => ?_)
      refine wr_icmp_ne 46 dX7_waitsFor_32 g32.1 g32.2 (fun h32 => ?_) (fun h32 => ?_)
      · refine wr_lconst0 dX7_waitsFor_46 ?_
        exact wr_at (pX7_waitsFor_b47 (n := n) hE hr ih x1 x4 x2 0) ⟨rfl, rfl, rfl, trivial⟩
      · refine wr_aload_n dX7_waitsFor_35 rfl ?_
        refine wr_iload dX7_waitsFor_36 rfl ?_
        refine wr_iconst dX7_waitsFor_38 ?_
        refine wr_cV dX7_waitsFor_39 k_RX7_210 b_yX7_partOf x_yX7_partOf (pX7_partOf (n := n + 1) hE hr x4 1) (rd_mod hr) rfl (fun r39 => ?_)
        refine wr_gd (fun g42 => ?_)
        refine wr_i2l dX7_waitsFor_42 g42 ?_
        refine wr_goto 47 dX7_waitsFor_43 ?_
        exact wr_at (pX7_waitsFor_b47 (n := n) hE hr ih x1 x4 x2 r39) ⟨rfl, rfl, rfl, trivial⟩
set_option maxRecDepth 100000 in
set_option maxHeartbeats 4000000 in
theorem pX7_waitsFor {E : wE} {n : Nat} (hE : wGE E) {C : cR} {m : mR} {ca : caT} {h : hW} (hr : rep E (C, m) ca h) (x1 : Int)  : WR E (n + 2) yX7_waitsFor cX7_waitsFor 5 (some .long) vJ h 0 (wArgs [.ref (aM E 0), .int (iI x1)]) [] (fX7_waitsFor x1 m) := by
  unfold fX7_waitsFor
  refine wr_lconst0 dX7_waitsFor_0 ?_
  refine wr_lstore_n dX7_waitsFor_1 ?_
  refine wr_iconst dX7_waitsFor_2 ?_
  refine wr_istore dX7_waitsFor_3 ?_
  exact wr_at (pX7_waitsFor_b5 (n := n) hE hr  fuel0 x1 0 0) ⟨rfl, rfl, rfl, rfl, trivial⟩

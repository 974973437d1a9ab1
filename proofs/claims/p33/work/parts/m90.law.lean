/-! ===== the law meets its function (by program: wip/p33/gen.py) ===== -/
set_option maxRecDepth 100000 in
set_option maxHeartbeats 4000000 in
theorem pL_law_b246 {E : wE} {n : Nat} (hE : wGE E) {a0 : Nat} {ln : Nat} {xs : Int → Int} (hro : wro E a0 = some (.int, ln, fun j : Nat => .int (iI (xs j)))) (hln : ln ≤ 260) {M : mR} {rec29 : Int → Int → cR → Option (Int × cR)} (hrec29 : ∀ (x2 : Int) (x3 : Int)  (c : cR) (ca : caT), WF E (n + 11) x cL_law 13 (some .boolean) vI (fun c : cR => (c, M)) ca 29 (wLs [some (.ref a0), some (.ref (aTop E)), some (.int (iI x2)), some (.int (iI x3))]) [] c (rec29 x2 x3 c)) (x2 : Int) (x3 : Int)  (c : cR) (ca : caT) : WF E (n + 11) x cL_law 13 (some .boolean) vI (fun c : cR => (c, M)) ca 246 (wLs [some (.ref a0), some (.ref (aTop E)), some (.int (iI x2)), some (.int (iI x3))]) [] c (fL_law_b246 ln xs rec29 x2 x3 c) := by
  unfold fL_law_b246
  refine wf_aload_n dL_law_246 rfl ?_
  refine wf_rS dL_law_247 k_RL_129 b_yL_isBalanced x_yL_isBalanced (fun h hr => pL_isBalanced (n := n + 6) hE hr) (fun r247 => ?_)
  refine wf_gd (fun g250 => ?_)
  refine wf_if_eq 260 dL_law_250 g250 (fun h250 => ?_) (fun h250 => ?_)
  · refine wf_iconst dL_law_260 ?_
    exact wf_ireturn dL_law_261 ⟨_, rfl, rfl⟩
  · refine wf_aload_n dL_law_253 rfl ?_
    refine wf_cS (put := fun q => q) dL_law_254 k_RL_133 b_yL_areInOrder x_yL_areInOrder (pL_areInOrder (n := n + 4) hE _ _) rfl (fun _ => rfl) (fun r254 c254 ca => ?_)
    refine wf_gd (fun g257 => ?_)
    refine wf_if_ne 262 dL_law_257 g257 (fun h257 => ?_) (fun h257 => ?_)
    · refine wf_iinc dL_law_262 rfl ?_
      refine wf_goto 29 dL_law_265 ?_
      exact wf_at (hrec29 x2 (x3 + 1) _ _) ⟨rfl, rfl, rfl, rfl, trivial⟩
    · refine wf_iconst dL_law_260 ?_
      exact wf_ireturn dL_law_261 ⟨_, rfl, rfl⟩
set_option maxRecDepth 100000 in
set_option maxHeartbeats 4000000 in
theorem pL_law_b225 {E : wE} {n : Nat} (hE : wGE E) {a0 : Nat} {ln : Nat} {xs : Int → Int} (hro : wro E a0 = some (.int, ln, fun j : Nat => .int (iI (xs j)))) (hln : ln ≤ 260) {M : mR} {rec29 : Int → Int → cR → Option (Int × cR)} (hrec29 : ∀ (x2 : Int) (x3 : Int)  (c : cR) (ca : caT), WF E (n + 11) x cL_law 13 (some .boolean) vI (fun c : cR => (c, M)) ca 29 (wLs [some (.ref a0), some (.ref (aTop E)), some (.int (iI x2)), some (.int (iI x3))]) [] c (rec29 x2 x3 c)) (x2 : Int) (x3 : Int) (x4 : Int) (x5 : Int) (x6 : Int)  (c : cR) (ca : caT) : WF E (n + 11) x cL_law 13 (some .boolean) vI (fun c : cR => (c, M)) ca 225 (wLs [some (.ref a0), some (.ref (aTop E)), some (.int (iI x2)), some (.int (iI x3)), some (.int (iI x4)), some (.int (iI x5)), some (.int (iI x6))]) [] c (fL_law_b225 ln xs rec29 x2 x3 x4 x5 x6 c) := by
  unfold fL_law_b225
  refine wf_iload dL_law_225 rfl ?_
  refine wf_bipush dL_law_227 ?_
  refine wf_iand dL_law_229 ?_
  refine wf_bipush dL_law_230 ?_
  refine wf_gd (fun g232 => ?_)
  refine wf_icmp_ne 246 dL_law_232 g232 (by decide) (fun h232 => ?_) (fun h232 => ?_)
  · exact wf_at (pL_law_b246 (n := n) hE hro hln hrec29 x2 x3 _ _) ⟨rfl, rfl, rfl, rfl, trivial⟩
  · refine wf_aload_n dL_law_235 rfl ?_
    refine wf_iload dL_law_236 rfl ?_
    refine wf_iload dL_law_238 rfl ?_
    refine wf_cS (put := fun q => q) dL_law_240 k_RL_126 b_yL_asks x_yL_asks (pL_asks (n := n + 1) hE x5 x6 _ _) rfl (fun _ => rfl) (fun r240 c240 ca => ?_)
    refine wf_gd (fun g243 => ?_)
    refine wf_if_eq 260 dL_law_243 g243 (fun h243 => ?_) (fun h243 => ?_)
    · refine wf_iconst dL_law_260 ?_
      exact wf_ireturn dL_law_261 ⟨_, rfl, rfl⟩
    · exact wf_at (pL_law_b246 (n := n) hE hro hln hrec29 x2 x3 _ _) ⟨rfl, rfl, rfl, rfl, trivial⟩
set_option maxRecDepth 100000 in
set_option maxHeartbeats 4000000 in
theorem pL_law_b206 {E : wE} {n : Nat} (hE : wGE E) {a0 : Nat} {ln : Nat} {xs : Int → Int} (hro : wro E a0 = some (.int, ln, fun j : Nat => .int (iI (xs j)))) (hln : ln ≤ 260) {M : mR} {rec29 : Int → Int → cR → Option (Int × cR)} (hrec29 : ∀ (x2 : Int) (x3 : Int)  (c : cR) (ca : caT), WF E (n + 11) x cL_law 13 (some .boolean) vI (fun c : cR => (c, M)) ca 29 (wLs [some (.ref a0), some (.ref (aTop E)), some (.int (iI x2)), some (.int (iI x3))]) [] c (rec29 x2 x3 c)) (x2 : Int) (x3 : Int) (x4 : Int) (x5 : Int) (x6 : Int)  (c : cR) (ca : caT) : WF E (n + 11) x cL_law 13 (some .boolean) vI (fun c : cR => (c, M)) ca 206 (wLs [some (.ref a0), some (.ref (aTop E)), some (.int (iI x2)), some (.int (iI x3)), some (.int (iI x4)), some (.int (iI x5)), some (.int (iI x6))]) [] c (fL_law_b206 ln xs rec29 x2 x3 x4 x5 x6 c) := by
  unfold fL_law_b206
  refine wf_iload dL_law_206 rfl ?_
  refine wf_bipush dL_law_208 ?_
  refine wf_iand dL_law_210 ?_
  refine wf_gd (fun g211 => ?_)
  refine wf_if_ne 225 dL_law_211 g211 (fun h211 => ?_) (fun h211 => ?_)
  · exact wf_at (pL_law_b225 (n := n) hE hro hln hrec29 x2 x3 x4 x5 x6 _ _) ⟨rfl, rfl, rfl, rfl, rfl, rfl, rfl, trivial⟩
  · refine wf_aload_n dL_law_214 rfl ?_
    refine wf_iload dL_law_215 rfl ?_
    refine wf_iload dL_law_217 rfl ?_
    refine wf_cS (put := fun q => q) dL_law_219 k_RL_122 b_yL_isSaved x_yL_isSaved (pL_isSaved (n := n) hE x5 x6 _ _) rfl (fun _ => rfl) (fun r219 c219 ca => ?_)
    refine wf_gd (fun g222 => ?_)
    refine wf_if_eq 260 dL_law_222 g222 (fun h222 => ?_) (fun h222 => ?_)
    · refine wf_iconst dL_law_260 ?_
      exact wf_ireturn dL_law_261 ⟨_, rfl, rfl⟩
    · exact wf_at (pL_law_b225 (n := n) hE hro hln hrec29 x2 x3 x4 x5 x6 _ _) ⟨rfl, rfl, rfl, rfl, rfl, rfl, rfl, trivial⟩
set_option maxRecDepth 100000 in
set_option maxHeartbeats 4000000 in
theorem pL_law_b176 {E : wE} {n : Nat} (hE : wGE E) {a0 : Nat} {ln : Nat} {xs : Int → Int} (hro : wro E a0 = some (.int, ln, fun j : Nat => .int (iI (xs j)))) (hln : ln ≤ 260) {M : mR} {rec29 : Int → Int → cR → Option (Int × cR)} (hrec29 : ∀ (x2 : Int) (x3 : Int)  (c : cR) (ca : caT), WF E (n + 11) x cL_law 13 (some .boolean) vI (fun c : cR => (c, M)) ca 29 (wLs [some (.ref a0), some (.ref (aTop E)), some (.int (iI x2)), some (.int (iI x3))]) [] c (rec29 x2 x3 c)) (x2 : Int) (x3 : Int) (x4 : Int) (x5 : Int) (x6 : Int) (x7 : Int) (x8 : Int) (x11 : Int) (t0 : Int) (t1 : Int)  (c : cR) (ca : caT) : WF E (n + 11) x cL_law 13 (some .boolean) vI (fun c : cR => (c, M)) ca 176 (wLs [some (.ref a0), some (.ref (aTop E)), some (.int (iI x2)), some (.int (iI x3)), some (.int (iI x4)), some (.int (iI x5)), some (.int (iI x6)), some (.int (iI x7)), some (.long (jL x8)), none, none, some (.int (iI x11))]) [.int (iI t1), .int (iI t0)] c (fL_law_b176 ln xs rec29 x2 x3 x4 x5 x6 x7 x8 x11 t0 t1 c) := by
  unfold fL_law_b176
  refine wf_gd (fun g176 => ?_)
  refine wf_icmp_ne 204 dL_law_176 g176.1 g176.2 (fun h176 => ?_) (fun h176 => ?_)
  · refine wf_iconst dL_law_204 ?_
    exact wf_ireturn dL_law_205 ⟨_, rfl, rfl⟩
  · refine wf_iload dL_law_179 rfl ?_
    refine wf_bipush dL_law_181 ?_
    refine wf_iand dL_law_183 ?_
    refine wf_gd (fun g184 => ?_)
    refine wf_if_ne 206 dL_law_184 g184 (fun h184 => ?_) (fun h184 => ?_)
    · exact wf_at (pL_law_b206 (n := n) hE hro hln hrec29 x2 x3 x4 x5 x6 _ _) ⟨rfl, rfl, rfl, rfl, rfl, rfl, rfl, trivial⟩
    · refine wf_aload_n dL_law_187 rfl ?_
      refine wf_iload dL_law_188 rfl ?_
      refine wf_iload dL_law_190 rfl ?_
      refine wf_iload dL_law_192 rfl ?_
      refine wf_iload dL_law_194 rfl ?_
      refine wf_lload dL_law_196 rfl ?_
      refine wf_cS (put := fun q => q) dL_law_198 k_RL_118 b_yL_isUndone x_yL_isUndone (pL_isUndone (n := n) hE x7 x5 x6 x11 x8 _ _) rfl (fun _ => rfl) (fun r198 c198 ca => ?_)
      refine wf_gd (fun g201 => ?_)
      refine wf_if_ne 206 dL_law_201 g201 (fun h201 => ?_) (fun h201 => ?_)
      · exact wf_at (pL_law_b206 (n := n) hE hro hln hrec29 x2 x3 x4 x5 x6 _ _) ⟨rfl, rfl, rfl, rfl, rfl, rfl, rfl, trivial⟩
      · refine wf_iconst dL_law_204 ?_
        exact wf_ireturn dL_law_205 ⟨_, rfl, rfl⟩
set_option maxRecDepth 100000 in
set_option maxHeartbeats 4000000 in
theorem pL_law_b154 {E : wE} {n : Nat} (hE : wGE E) {a0 : Nat} {ln : Nat} {xs : Int → Int} (hro : wro E a0 = some (.int, ln, fun j : Nat => .int (iI (xs j)))) (hln : ln ≤ 260) {M : mR} {rec29 : Int → Int → cR → Option (Int × cR)} (hrec29 : ∀ (x2 : Int) (x3 : Int)  (c : cR) (ca : caT), WF E (n + 11) x cL_law 13 (some .boolean) vI (fun c : cR => (c, M)) ca 29 (wLs [some (.ref a0), some (.ref (aTop E)), some (.int (iI x2)), some (.int (iI x3))]) [] c (rec29 x2 x3 c)) (x2 : Int) (x3 : Int) (x4 : Int) (x5 : Int) (x6 : Int) (x7 : Int) (x8 : Int) (x10 : Int) (x11 : Int)  (c : cR) (ca : caT) : WF E (n + 11) x cL_law 13 (some .boolean) vI (fun c : cR => (c, M)) ca 154 (wLs [some (.ref a0), some (.ref (aTop E)), some (.int (iI x2)), some (.int (iI x3)), some (.int (iI x4)), some (.int (iI x5)), some (.int (iI x6)), some (.int (iI x7)), some (.long (jL x8)), none, some (.int (iI x10)), some (.int (iI x11))]) [] c (fL_law_b154 ln xs rec29 x2 x3 x4 x5 x6 x7 x8 x10 x11 c) := by
  unfold fL_law_b154
  refine wf_aload_n dL_law_154 rfl ?_
  refine wf_bipush dL_law_155 ?_
  refine wf_rV dL_law_157 k_RL_13 b_yX6_count x_yX6_count (fun h hr => pX6_count (n := n + 7) hE hr 10) (fun h hr => rd_top hr) rfl (fun r157 => ?_)
  refine wf_iload dL_law_160 rfl ?_
  refine wf_bipush dL_law_162 ?_
  refine wf_gd (fun g164 => ?_)
  refine wf_icmp_ge 174 dL_law_164 g164 (by decide) (fun h164 => ?_) (fun h164 => ?_)
  · refine wf_bipush dL_law_174 ?_
    exact wf_at (pL_law_b176 (n := n) hE hro hln hrec29 x2 x3 x4 x5 x6 x7 x8 x11 r157 6 _ _) ⟨rfl, rfl, rfl, rfl, rfl, rfl, rfl, rfl, rfl, rfl, trivial⟩
  · refine wf_iload dL_law_167 rfl ?_
    refine wf_iconst dL_law_169 ?_
    refine wf_iadd dL_law_170 ?_
    refine wf_goto 176 dL_law_171 ?_
    exact wf_at (pL_law_b176 (n := n) hE hro hln hrec29 x2 x3 x4 x5 x6 x7 x8 x11 r157 (x10 + 1) _ _) ⟨rfl, rfl, rfl, rfl, rfl, rfl, rfl, rfl, rfl, rfl, trivial⟩
set_option maxRecDepth 100000 in
set_option maxHeartbeats 4000000 in
theorem pL_law_b119 {E : wE} {n : Nat} (hE : wGE E) {a0 : Nat} {ln : Nat} {xs : Int → Int} (hro : wro E a0 = some (.int, ln, fun j : Nat => .int (iI (xs j)))) (hln : ln ≤ 260) {M : mR} {rec29 : Int → Int → cR → Option (Int × cR)} (hrec29 : ∀ (x2 : Int) (x3 : Int)  (c : cR) (ca : caT), WF E (n + 11) x cL_law 13 (some .boolean) vI (fun c : cR => (c, M)) ca 29 (wLs [some (.ref a0), some (.ref (aTop E)), some (.int (iI x2)), some (.int (iI x3))]) [] c (rec29 x2 x3 c)) (x2 : Int) (x3 : Int) (x4 : Int) (x5 : Int) (x6 : Int) (x7 : Int) (x8 : Int) (x10 : Int) (x11 : Int) (t0 : Int)  (c : cR) (ca : caT) : WF E (n + 11) x cL_law 13 (some .boolean) vI (fun c : cR => (c, M)) ca 119 (wLs [some (.ref a0), some (.ref (aTop E)), some (.int (iI x2)), some (.int (iI x3)), some (.int (iI x4)), some (.int (iI x5)), some (.int (iI x6)), some (.int (iI x7)), some (.long (jL x8)), none, some (.int (iI x10)), some (.int (iI x11))]) [.int (iI t0)] c (fL_law_b119 ln xs rec29 x2 x3 x4 x5 x6 x7 x8 x10 x11 t0 c) := by
  unfold fL_law_b119
  refine wf_istore dL_law_119 ?_
  refine wf_iload dL_law_121 rfl ?_
  refine wf_gd (fun g123 => ?_)
  refine wf_if_ge 154 dL_law_123 g123 (fun h123 => ?_) (fun h123 => ?_)
  · exact wf_at (pL_law_b154 (n := n) hE hro hln hrec29 x2 x3 x4 x5 x6 x7 x8 x10 x11 _ _) ⟨rfl, rfl, rfl, rfl, rfl, rfl, rfl, rfl, rfl, rfl, rfl, trivial⟩
  · refine wf_iload dL_law_126 rfl ?_
    refine wf_gd (fun g128 => ?_)
    refine wf_if_ne 154 dL_law_128 g128 (fun h128 => ?_) (fun h128 => ?_)
    · exact wf_at (pL_law_b154 (n := n) hE hro hln hrec29 x2 x3 x4 x5 x6 x7 x8 x10 x11 _ _) ⟨rfl, rfl, rfl, rfl, rfl, rfl, rfl, rfl, rfl, rfl, rfl, trivial⟩
    · refine wf_aload_n dL_law_131 rfl ?_
      refine wf_cS (put := fun q => q) dL_law_132 k_RL_90 b_yL_view x_yL_view (pL_view (n := n + 4) hE _ _) rfl (fun _ => rfl) (fun r132 c132 ca => ?_)
      refine wf_lload dL_law_135 rfl ?_
      refine wf_jcmpR_ne 152 dL_law_137 dL_law_138 (fun h137 => ?_) (fun h137 => ?_)
      · refine wf_iconst dL_law_152 ?_
        exact wf_ireturn dL_law_153 ⟨_, rfl, rfl⟩
      · refine wf_aload_n dL_law_141 rfl ?_
        refine wf_bipush dL_law_142 ?_
        refine wf_rV dL_law_144 k_RL_13 b_yX6_count x_yX6_count (fun h hr => pX6_count (n := n + 7) hE hr 10) (fun h hr => rd_top hr) rfl (fun r144 => ?_)
        refine wf_iload dL_law_147 rfl ?_
        refine wf_gd (fun g149 => ?_)
        refine wf_icmp_eq 206 dL_law_149 g149.1 g149.2 (fun h149 => ?_) (fun h149 => ?_)
        · exact wf_at (pL_law_b206 (n := n) hE hro hln hrec29 x2 x3 x4 x5 x6 _ _) ⟨rfl, rfl, rfl, rfl, rfl, rfl, rfl, trivial⟩
        · refine wf_iconst dL_law_152 ?_
          exact wf_ireturn dL_law_153 ⟨_, rfl, rfl⟩
set_option maxRecDepth 100000 in
set_option maxHeartbeats 4000000 in
theorem pL_law_b79 {E : wE} {n : Nat} (hE : wGE E) {a0 : Nat} {ln : Nat} {xs : Int → Int} (hro : wro E a0 = some (.int, ln, fun j : Nat => .int (iI (xs j)))) (hln : ln ≤ 260) {M : mR} {rec29 : Int → Int → cR → Option (Int × cR)} (hrec29 : ∀ (x2 : Int) (x3 : Int)  (c : cR) (ca : caT), WF E (n + 11) x cL_law 13 (some .boolean) vI (fun c : cR => (c, M)) ca 29 (wLs [some (.ref a0), some (.ref (aTop E)), some (.int (iI x2)), some (.int (iI x3))]) [] c (rec29 x2 x3 c)) (x2 : Int) (x3 : Int) (x4 : Int) (x5 : Int) (x6 : Int) (t0 : Int)  (c : cR) (ca : caT) : WF E (n + 11) x cL_law 13 (some .boolean) vI (fun c : cR => (c, M)) ca 79 (wLs [some (.ref a0), some (.ref (aTop E)), some (.int (iI x2)), some (.int (iI x3)), some (.int (iI x4)), some (.int (iI x5)), some (.int (iI x6))]) [.int (iI t0)] c (fL_law_b79 ln xs rec29 x2 x3 x4 x5 x6 t0 c) := by
  unfold fL_law_b79
  refine wf_istore dL_law_79 ?_
  refine wf_aload_n dL_law_81 rfl ?_
  refine wf_cS (put := fun q => q) dL_law_82 k_RL_90 b_yL_view x_yL_view (pL_view (n := n + 4) hE _ _) rfl (fun _ => rfl) (fun r82 c82 ca => ?_)
  refine wf_lstore dL_law_85 ?_
  refine wf_aload_n dL_law_87 rfl ?_
  refine wf_bipush dL_law_88 ?_
  refine wf_rV dL_law_90 k_RL_13 b_yX6_count x_yX6_count (fun h hr => pX6_count (n := n + 7) hE hr 10) (fun h hr => rd_top hr) rfl (fun r90 => ?_)
  refine wf_istore dL_law_93 ?_
  refine wf_aload_n dL_law_95 rfl ?_
  refine wf_iload dL_law_96 rfl ?_
  refine wf_iload dL_law_98 rfl ?_
  refine wf_iload dL_law_100 rfl ?_
  refine wf_cS (put := fun q => q) dL_law_102 k_RL_94 b_yL_turn x_yL_turn (pL_turn (n := n + 1) hE t0 x5 x6 _ _) rfl (fun _ => rfl) (fun r102 c102 ca => ?_)
  refine wf_istore dL_law_105 ?_
  refine wf_iload dL_law_107 rfl ?_
  refine wf_bipush dL_law_109 ?_
  refine wf_gd (fun g111 => ?_)
  refine wf_icmp_ne 118 dL_law_111 g111 (by decide) (fun h111 => ?_) (fun h111 => ?_)
  · refine wf_iconst dL_law_118 ?_
    exact wf_at (pL_law_b119 (n := n) hE hro hln hrec29 x2 x3 x4 x5 x6 t0 r82 r90 r102 0 _ _) ⟨rfl, rfl, rfl, rfl, rfl, rfl, rfl, rfl, rfl, rfl, rfl, trivial⟩
  · refine wf_iconst dL_law_114 ?_
    refine wf_goto 119 dL_law_115 ?_
    exact wf_at (pL_law_b119 (n := n) hE hro hln hrec29 x2 x3 x4 x5 x6 t0 r82 r90 r102 1 _ _) ⟨rfl, rfl, rfl, rfl, rfl, rfl, rfl, rfl, rfl, rfl, rfl, trivial⟩
set_option maxRecDepth 100000 in
set_option maxHeartbeats 4000000 in
theorem pL_law_b29 {E : wE} {n : Nat} (hE : wGE E) {a0 : Nat} {ln : Nat} {xs : Int → Int} (hro : wro E a0 = some (.int, ln, fun j : Nat => .int (iI (xs j)))) (hln : ln ≤ 260) {M : mR} : ∀ (fuel : Nat) (x2 : Int) (x3 : Int)  (c : cR) (ca : caT), WF E (n + 11) x cL_law 13 (some .boolean) vI (fun c : cR => (c, M)) ca 29 (wLs [some (.ref a0), some (.ref (aTop E)), some (.int (iI x2)), some (.int (iI x3))]) [] c (fL_law_b29 ln xs fuel x2 x3 c) := by
  intro fuel
  induction fuel with
  | zero =>
    intro x2 x3 c ca
    exact wf_none
  | succ fuel ih =>
    intro x2 x3 c ca
    unfold fL_law_b29
    refine wf_iload_n dL_law_29 rfl ?_
    refine wf_iload_n dL_law_30 rfl ?_
    refine wf_gd (fun g31 => ?_)
    refine wf_icmp_ge 268 dL_law_31 g31.1 g31.2 (fun h31 => ?_) (fun h31 => ?_)
    · refine wf_iconst dL_law_268 ?_
      exact wf_ireturn dL_law_269 ⟨_, rfl, rfl⟩
    · refine wf_aload_n dL_law_34 rfl ?_
      refine wf_iconst dL_law_35 ?_
      refine wf_iload_n dL_law_36 rfl ?_
      refine wf_imul dL_law_37 ?_
      refine wf_rS dL_law_38 k_RL_114 b_yL_cell x_yL_cell (fun h hr => pL_cell (n := n + 10) hE hro hln (3 * x3)) (fun r38 => ?_)
      refine wf_istore dL_law_41 ?_
      refine wf_aload_n dL_law_43 rfl ?_
      refine wf_iconst dL_law_44 ?_
      refine wf_iload_n dL_law_45 rfl ?_
      refine wf_imul dL_law_46 ?_
      refine wf_iconst dL_law_47 ?_
      refine wf_iadd dL_law_48 ?_
      refine wf_rS dL_law_49 k_RL_114 b_yL_cell x_yL_cell (fun h hr => pL_cell (n := n + 10) hE hro hln ((3 * x3) + 1)) (fun r49 => ?_)
      refine wf_istore dL_law_52 ?_
      refine wf_aload_n dL_law_54 rfl ?_
      refine wf_iconst dL_law_55 ?_
      refine wf_iload_n dL_law_56 rfl ?_
      refine wf_imul dL_law_57 ?_
      refine wf_iconst dL_law_58 ?_
      refine wf_iadd dL_law_59 ?_
      refine wf_rS dL_law_60 k_RL_114 b_yL_cell x_yL_cell (fun h hr => pL_cell (n := n + 10) hE hro hln ((3 * x3) + 2)) (fun r60 => ?_)
      refine wf_istore dL_law_63 ?_
      refine wf_iload_n dL_law_65 rfl ?_
      refine wf_iconst dL_law_66 ?_
      refine wf_gd (fun g67 => ?_)
      refine wf_icmp_ge 74 dL_law_67 g67 (by decide) (fun h67 => ?_) (fun h67 => ?_)
      · refine wf_iload dL_law_74 rfl ?_
        refine wf_bipush dL_law_76 ?_
        refine wf_iand dL_law_78 ?_
        exact wf_at (pL_law_b79 (n := n) hE hro hln ih x2 x3 r38 r49 r60 (andI r38 15) _ _) ⟨rfl, rfl, rfl, rfl, rfl, rfl, rfl, trivial⟩
      · refine wf_iconst dL_law_70 ?_
        refine wf_goto 79 dL_law_71 ?_
        exact wf_at (pL_law_b79 (n := n) hE hro hln ih x2 x3 r38 r49 r60 2 _ _) ⟨rfl, rfl, rfl, rfl, rfl, rfl, rfl, trivial⟩
set_option maxRecDepth 100000 in
set_option maxHeartbeats 4000000 in
theorem pL_law_b8 {E : wE} {n : Nat} (hE : wGE E) {a0 : Nat} {ln : Nat} {xs : Int → Int} (hro : wro E a0 = some (.int, ln, fun j : Nat => .int (iI (xs j)))) (hln : ln ≤ 260) {M : mR}   (c : cR) (ca : caT) : WF E (n + 11) x cL_law 13 (some .boolean) vI (fun c : cR => (c, M)) ca 8 (wLs [some (.ref a0), some (.ref (aTop E))]) [] c (fL_law_b8 ln xs  c) := by
  unfold fL_law_b8
  refine wf_aload_n dL_law_8 rfl ?_
  refine wf_rolen dL_law_9 hro ?_
  refine wf_iconst dL_law_10 ?_
  refine wf_gd (fun g11 => ?_)
  refine wf_idiv dL_law_11 g11 (by decide) ?_
  refine wf_bipush dL_law_12 ?_
  refine wf_gd (fun g14 => ?_)
  refine wf_icmp_ge 24 dL_law_14 g14 (by decide) (fun h14 => ?_) (fun h14 => ?_)
  · refine wf_bipush dL_law_24 ?_
    refine wf_istore_n dL_law_26 ?_
    refine wf_iconst dL_law_27 ?_
    refine wf_istore_n dL_law_28 ?_
    exact wf_at (pL_law_b29 (n := n) hE hro hln  fuel0 32 0 _ _) ⟨rfl, rfl, rfl, rfl, trivial⟩
  · refine wf_aload_n dL_law_17 rfl ?_
    refine wf_rolen dL_law_18 hro ?_
    refine wf_iconst dL_law_19 ?_
    refine wf_gd (fun g20 => ?_)
    refine wf_idiv dL_law_20 g20 (by decide) ?_
    refine wf_goto 26 dL_law_21 ?_
    refine wf_istore_n dL_law_26 ?_
    refine wf_iconst dL_law_27 ?_
    refine wf_istore_n dL_law_28 ?_
    exact wf_at (pL_law_b29 (n := n) hE hro hln  fuel0 (dvI (ln : Int) 3) 0 _ _) ⟨rfl, rfl, rfl, rfl, trivial⟩

/-! ===== which sign of a text constant: the JDK's indexOf over the three constants ===== -/
def i2bI (a : Int) : Int := ((iI a).toInt8.toInt32).toInt
def sB (w : Nat) (j : Nat) : Int := ((wByt.getD w []).getD j 0).toInt
def fnd (w : Nat) (b : Int) : Nat → Nat → Int
  | 0, _ => -1
  | m + 1, j => if sB w j = b then (j : Int) else fnd w b m (j + 1)
section JR
variable {E : wE} {n : Nat} {y : MethodName} {cc : ByteArray} {ml : Nat} {rt : Option FieldType} {R : Type} {vt : R → Option Value} {h : hW} {pc : Nat} {ls : wLoc} {st : List Value} {u : Option R}
theorem wr_i2b {a : Int} (hdg : decode cc pc = .ok (.i2b, 1)) (kk : WR E n y cc ml rt vt h (pc + 1) ls (.int (iI (i2bI a)) :: st) u) : WR E n y cc ml rt vt h pc ls (.int (iI a) :: st) u := fun x ho => wq_i2b hdg (by rw [iI_of ((iI a).toInt8.toInt32)]; exact kk x ho)
theorem wr_compact {idx : Nat} (hdg : decode cc pc = .ok (.getstatic idx, 3)) (hE : wGE E) (hl : Cond.fieldLink y.cls idx "java/lang/String" "COMPACT_STRINGS" "Z" ∈ wAll) (kk : WR E n y cc ml rt vt h (pc + 3) ls (.int (iI 1) :: st) u) : WR E n y cc ml rt vt h pc ls st u := fun x ho => wq_gets (k := 3) hdg rfl hl (by rw [hE.2.2.2]; exact kk x ho)
theorem wr_strcoder {idx i : Nat} (hdg : decode cc pc = .ok (.getfield idx, 3)) (hi : i < 3) (hl : Cond.fieldLink y.cls idx "java/lang/String" "coder" "B" ∈ wAll) (kk : WR E n y cc ml rt vt h (pc + 3) ls (.int (iI 0) :: st) u) : WR E n y cc ml rt vt h pc ls (.ref (waK E i) :: st) u := by
  intro x ho p l e R s m args below meth c H locs cells slots lsa Z C hr hs hl' hc1 hc2 hz
  have hts := C.2.2.2.2.2.1
  exact vk_getf C.1 C.2.1 (C.2.2.2.2.2.2.2.2.2.1.2.2.2.1.1 i hi).2.1 hs C.2.2.2.2.1 (hts _ hl) (fun _ q => q) hdg (kk x ho p l e R s m args below meth c H locs cells slots lsa Z C hr hs hl' hc1 hc2 hz)
theorem wr_strval {idx i : Nat} (hdg : decode cc pc = .ok (.getfield idx, 3)) (hi : i < 3) (hl : Cond.fieldLink y.cls idx "java/lang/String" "value" "[B" ∈ wAll) (kk : WR E n y cc ml rt vt h (pc + 3) ls (.ref (waV E i) :: st) u) : WR E n y cc ml rt vt h pc ls (.ref (waK E i) :: st) u := by
  intro x ho p l e R s m args below meth c H locs cells slots lsa Z C hr hs hl' hc1 hc2 hz
  have hts := C.2.2.2.2.2.1
  exact vk_getf C.1 C.2.1 (C.2.2.2.2.2.2.2.2.2.1.2.2.2.1.1 i hi).2.2.1 hs C.2.2.2.2.1 (hts _ hl) (fun _ q => q) hdg (kk x ho p l e R s m args below meth c H locs cells slots lsa Z C hr hs hl' hc1 hc2 hz)
theorem wr_strlen {i : Nat} (hdg : decode cc pc = .ok (.arraylength, 1)) (hi : i < 3) (kk : WR E n y cc ml rt vt h (pc + 1) ls (.int (iI (wLen.getD i 0 : Nat)) :: st) u) : WR E n y cc ml rt vt h pc ls (.ref (waV E i) :: st) u := by
  intro x ho p l e R s m args below meth c H locs cells slots lsa Z C hr hs hl' hc1 hc2 hz
  exact va_tlen C.1 C.2.1 (C.2.2.2.2.2.2.2.2.2.1.2.2.2.1.1 i hi).2.2.2 hs rfl hdg (kk x ho p l e R s m args below meth c H locs cells slots lsa Z C hr hs hl' hc1 hc2 hz)
theorem wr_strb {i j : Nat} (hdg : decode cc pc = .ok (.baload, 1)) (hi : i < 3) (hj : j < wLen.getD i 0) (kk : WR E n y cc ml rt vt h (pc + 1) ls (.int (iI (sB i j)) :: st) u) (hL : wLen.getD i 0 ≤ 2147483647) : WR E n y cc ml rt vt h pc ls (.int (iI (j : Int)) :: .ref (waV E i) :: st) u := by
  intro x ho p l e R s m args below meth c H locs cells slots lsa Z C hr hs hl' hc1 hc2 hz
  refine va_tb C.1 C.2.1 (C.2.2.2.2.2.2.2.2.2.1.2.2.2.1.1 i hi).2.2.2 hs (w_in (z := (j : Int)) ⟨by omega, by omega⟩ hL) (v := .int (iI (sB i j))) ?_ hdg (kk x ho p l e R s m args below meth c H locs cells slots lsa Z C hr hs hl' hc1 hc2 hz)
  rw [iI_nat (by omega)]
  unfold sB
  rw [← iI_of]
  rfl
end JR
theorem sB_rng : ∀ i, i < 3 → ∀ j, j < 8 → 0 ≤ sB i j ∧ sB i j ≤ 127 := by decide +kernel
theorem wLen_rng : ∀ i, i < 3 → wLen.getD i 0 ≤ 8 ∧ 1 ≤ wLen.getD i 0 := by decide
set_option maxRecDepth 100000 in
theorem pJ0_isLatin1 {E : wE} {n : Nat} (hE : wGE E) {h : hW} {i : Nat} (hi : i < 3) : WR E n yJ0_isLatin1_aae02 cJ0_isLatin1_aae02 1 (some .boolean) vI h 0 (wArgs [.ref (waK E i)]) [] (some 1) := by
  refine wr_compact dJ0_isLatin1_aae02_0 hE g_RJ0_38 ?_
  rw [show (some (1 : Int)) = if (1 : Int) = 0 then none else some 1 from rfl]
  refine wr_if_eq 17 dJ0_isLatin1_aae02_3 (by decide) (fun h3 => wr_none) (fun h3 => ?_)
  refine wr_aload_n dJ0_isLatin1_aae02_6 rfl ?_
  refine wr_strcoder dJ0_isLatin1_aae02_7 hi g_RJ0_15 ?_
  rw [show (some (1 : Int)) = if (0 : Int) = 0 then some 1 else none from rfl]
  refine wr_if_ne 17 dJ0_isLatin1_aae02_10 (by decide) (fun h3 => wr_none) (fun h3 => ?_)
  refine wr_iconst dJ0_isLatin1_aae02_13 ?_
  refine wr_goto 18 dJ0_isLatin1_aae02_14 ?_
  exact wr_ireturn dJ0_isLatin1_aae02_18 ⟨_, rfl, rfl⟩
set_option maxRecDepth 100000 in
theorem pJ0_coder {E : wE} {n : Nat} (hE : wGE E) {h : hW} {i : Nat} (hi : i < 3) : WR E n yJ0_coder_7d493 cJ0_coder_7d493 1 (some .byte) vI h 0 (wArgs [.ref (waK E i)]) [] (some 0) := by
  refine wr_compact dJ0_coder_7d493_0 hE g_RJ0_38 ?_
  rw [show (some (0 : Int)) = if (1 : Int) = 0 then none else some 0 from rfl]
  refine wr_if_eq 13 dJ0_coder_7d493_3 (by decide) (fun h3 => wr_none) (fun h3 => ?_)
  refine wr_aload_n dJ0_coder_7d493_6 rfl ?_
  refine wr_strcoder dJ0_coder_7d493_7 hi g_RJ0_15 ?_
  refine wr_goto 14 dJ0_coder_7d493_10 ?_
  exact wr_ireturn dJ0_coder_7d493_14 ⟨_, rfl, rfl⟩
theorem canE {c : Int} : (if c < 0 then some (0 : Int) else if 255 < c then some 0 else some 1) = some (if 0 ≤ c ∧ c ≤ 255 then 1 else 0) := by
  by_cases h1 : c < 0
  · rw [if_pos h1, if_neg (by omega)]
  · rw [if_neg h1]
    by_cases h2 : 255 < c
    · rw [if_pos h2, if_neg (by omega)]
    · rw [if_neg h2, if_pos (by omega)]
set_option maxRecDepth 100000 in
theorem pJ1_canEncode {E : wE} {n : Nat} {h : hW} (c : Int) (hc : wR c) : WR E n yJ1_canEncode_9a6ad cJ1_canEncode_9a6ad 1 (some .boolean) vI h 0 (wArgs [.int (iI c)]) [] (some (if 0 ≤ c ∧ c ≤ 255 then 1 else 0)) := by
  rw [← canE]
  refine wr_iload_n dJ1_canEncode_9a6ad_0 rfl ?_
  refine wr_if_lt 15 dJ1_canEncode_9a6ad_1 hc (fun h3 => ?_) (fun h3 => ?_)
  · refine wr_iconst dJ1_canEncode_9a6ad_15 ?_
    exact wr_ireturn dJ1_canEncode_9a6ad_16 ⟨_, rfl, rfl⟩
  · refine wr_iload_n dJ1_canEncode_9a6ad_4 rfl ?_
    refine wr_sipush dJ1_canEncode_9a6ad_5 ?_
    refine wr_icmp_gt 15 dJ1_canEncode_9a6ad_8 hc (by decide) (fun h4 => ?_) (fun h4 => ?_)
    · refine wr_iconst dJ1_canEncode_9a6ad_15 ?_
      exact wr_ireturn dJ1_canEncode_9a6ad_16 ⟨_, rfl, rfl⟩
    · refine wr_iconst dJ1_canEncode_9a6ad_11 ?_
      refine wr_goto 16 dJ1_canEncode_9a6ad_12 ?_
      exact wr_ireturn dJ1_canEncode_9a6ad_16 ⟨_, rfl, rfl⟩
set_option maxRecDepth 100000 in
theorem pJ1_indexOfChar_loop {E : wE} {n : Nat} {h : hW} {i : Nat} (hi : i < 3) (c b f : Int) (hb : wR b) : ∀ (m j : Nat), j + m = wLen.getD i 0 → WR E n yJ1_indexOfChar_4cfef cJ1_indexOfChar_4cfef 6 (some .int) vI h 7 (wLs [some (.ref (waV E i)), some (.int (iI c)), some (.int (iI f)), some (.int (iI (wLen.getD i 0 : Nat))), some (.int (iI b)), some (.int (iI (j : Int)))]) [] (some (fnd i b m j)) := by
  have hL := wLen_rng i hi
  intro m
  induction m with
  | zero =>
    intro j hj
    rw [show (some (fnd i b 0 j)) = if ((wLen.getD i 0 : Nat) : Int) ≤ (j : Int) then some (-1) else none by rw [if_pos (by omega)]; rfl]
    refine wr_iload dJ1_indexOfChar_4cfef_7 rfl ?_
    refine wr_iload_n dJ1_indexOfChar_4cfef_9 rfl ?_
    refine wr_icmp_ge 31 dJ1_indexOfChar_4cfef_10 (by omega) (by omega) (fun h4 => ?_) (fun h4 => wr_none)
    refine wr_iconst dJ1_indexOfChar_4cfef_31 ?_
    exact wr_ireturn dJ1_indexOfChar_4cfef_32 ⟨_, rfl, rfl⟩
  | succ m ih =>
    intro j hj
    have hs := sB_rng i hi j (by omega)
    rw [show (some (fnd i b (m + 1) j)) = if ((wLen.getD i 0 : Nat) : Int) ≤ (j : Int) then none else (if sB i j = b then some (j : Int) else some (fnd i b m (j + 1))) by
      rw [if_neg (by omega)]
      show some (if sB i j = b then (j : Int) else fnd i b m (j + 1)) = _
      split <;> rfl]
    refine wr_iload dJ1_indexOfChar_4cfef_7 rfl ?_
    refine wr_iload_n dJ1_indexOfChar_4cfef_9 rfl ?_
    refine wr_icmp_ge 31 dJ1_indexOfChar_4cfef_10 (by omega) (by omega) (fun h4 => wr_none) (fun h4 => ?_)
    refine wr_aload_n dJ1_indexOfChar_4cfef_13 rfl ?_
    refine wr_iload dJ1_indexOfChar_4cfef_14 rfl ?_
    refine wr_strb dJ1_indexOfChar_4cfef_16 hi (by omega) ?_ (by omega)
    refine wr_iload dJ1_indexOfChar_4cfef_17 rfl ?_
    refine wr_icmp_ne 25 dJ1_indexOfChar_4cfef_19 (by omega) hb (fun h4 => ?_) (fun h4 => ?_)
    · refine wr_iinc dJ1_indexOfChar_4cfef_25 rfl ?_
      refine wr_goto 7 dJ1_indexOfChar_4cfef_28 ?_
      exact wr_at (ih (j + 1) (by omega)) ⟨rfl, rfl, rfl, rfl, rfl, rfl, trivial⟩
    · refine wr_iload dJ1_indexOfChar_4cfef_22 rfl ?_
      exact wr_ireturn dJ1_indexOfChar_4cfef_24 ⟨_, rfl, rfl⟩
theorem i2bI_wR (a : Int) : wR (i2bI a) := iI_wR _
set_option maxRecDepth 100000 in
theorem pJ1_indexOfChar {E : wE} {n : Nat} {h : hW} {i : Nat} (hi : i < 3) (c : Int) : WR E n yJ1_indexOfChar_4cfef cJ1_indexOfChar_4cfef 6 (some .int) vI h 0 (wArgs [.ref (waV E i), .int (iI c), .int (iI 0), .int (iI (wLen.getD i 0 : Nat))]) [] (some (fnd i (i2bI c) (wLen.getD i 0) 0)) := by
  refine wr_iload_n dJ1_indexOfChar_4cfef_0 rfl ?_
  refine wr_i2b dJ1_indexOfChar_4cfef_1 ?_
  refine wr_istore dJ1_indexOfChar_4cfef_2 ?_
  refine wr_iload_n dJ1_indexOfChar_4cfef_4 rfl ?_
  refine wr_istore dJ1_indexOfChar_4cfef_5 ?_
  exact wr_at (pJ1_indexOfChar_loop hi c (i2bI c) 0 (i2bI_wR c) _ 0 (by omega)) ⟨rfl, rfl, rfl, rfl, rfl, rfl, trivial⟩
section JC
variable {E : wE} {n : Nat} {y : MethodName} {cc : ByteArray} {ml : Nat} {rt : Option FieldType} {pc : Nat} {ls : wLoc} {st : List Value} {h : hW} {bc bs : Nat} {Q : Option Value → hW → Prop}
theorem wq_callVS {idx na mc ms : Nat} {y' : MethodName} {cc' : ByteArray} {ml' : Nat} {rt' : Option FieldType} {As rest : List Value} {Q1 : Option Value → hW → Prop} {i : Nat} (hdg : decode cc pc = .ok (.invokevirtual idx, 3)) (hlk : wLk y.cls idx y') (hb : wLB y' cc' ml' rt' na) (hx : wLV y') (hM : WM E n y' cc' ml' rt' (.ref (waK E i) :: As) h mc ms Q1) (hi : i < 3) (hy' : y'.cls = "java/lang/String") (hst : st = As.reverse ++ .ref (waK E i) :: rest) (kk : ∀ v h1, Q1 v h1 → WP E (n + 1) y cc ml rt (pc + 3) ls (v.toList ++ rest) h1 bc bs Q) (hna : As.length = na := by rfl) (hsl : (lg_sl (.ref (waK E i) :: As)).length ≤ ml' := by exact Nat.le_of_ble_eq_true rfl) (hW : (rest.map fun v => v.category).sum ≤ 8 := by exact Nat.le_of_ble_eq_true rfl) : WP E (n + 1) y cc ml rt pc ls st h (mc + bc) (ms + bs) Q := by
  intro p l e0 R s m args below meth c H locs cells slots lsa Z C hr hs hl hc1 hc2 hz
  obtain ⟨k1, k2, k3, k4, k5, k6, k7⟩ := hb
  have hts := C.2.2.2.2.2.1
  have hmet := wMet k7 hsl hM l
  have hfr := C.2.2.2.2.2.2.2.1
  have hlo := C.2.2.2.2.2.2.2.2.1
  subst hst
  have hxi := hx.1
  have hxs := hx.2
  have hlk' : Cond.methodLink y.cls idx y' ∈ wAll := hlk
  have hrun := va_runV (l := l) (e := e0) (below := below) (meth := meth) (locs := locs) (cells := cells) (slots := slots) (g := F0 m pc lsa (As.reverse ++ .ref (waK E i) :: rest)) ⟨C.1, C.2.1, C.2.2.1, C.2.2.2.2.1, hts⟩ hmet (cwV na hts (fun w hw => by
    rcases List.mem_append.mp hw with hw | hw
    · exact wAll_good _ (by simp at hw; rcases hw with rfl | rfl | rfl | rfl <;> assumption)
    · exact wWs_good k2 w hw) rfl rfl rfl ⟨rfl, k3, k4, k5⟩ ⟨by show n + 1 ≤ _; omega, by show 8 + (ml' + 11) + 38 * n ≤ _; omega⟩) ⟨wPc_blind, (by
    rw [hy']
    exact vk_recv C.2.2.2.2.2.2.2.2.2.1.2.2.2.1 hi hs), fun U hU hW => ⟨rfl, C.2.2.2.2.2.2.2.2.2.1.on hs hU hW, by rw [hU]; exact hr⟩⟩ rfl hna hl.1 rfl (by show 2 * 0 + _ ≤ 8; omega) hdg ⟨by omega, by omega⟩
  refine w_fin (mc := mc) (ms := ms) hrun hs (fun v h1 H1 locs1 hq1 hr1 hs1 => ?_)
  exact kk v h1 hq1 p l e0 R s m args below meth c H1 locs1 (cells + mc) (slots + ms) lsa Z C hr1 hs1 hl (by omega) (by omega) (fun v2 h2 q2 => by
    have h9 := hz v2 h2 q2
    rw [show cells + (mc + bc) = cells + mc + bc by omega, show slots + (ms + bs) = slots + ms + bs by omega] at h9
    exact h9)
section JC2
variable {S R R1 : Type} {vt : R → Option Value} {vt' : R1 → Option Value} {L : S → gR} {ca : caT} {s : S} {fc : Option R1} {u : R1 → Option R} {o : R1 → Option (R × S)} {idx na i : Nat} {y' : MethodName} {cc' : ByteArray} {ml' : Nat} {rt' : Option FieldType} {As rest : List Value}
theorem wr_cVS (hdg : decode cc pc = .ok (.invokevirtual idx, 3)) (hlk : wLk y.cls idx y') (hb : wLB y' cc' ml' rt' na) (hx : wLV y') (hM : WR E n y' cc' ml' rt' vt' h 0 (wArgs (.ref (waK E i) :: As)) [] fc) (hi : i < 3) (hy' : y'.cls = "java/lang/String") (kk : ∀ r, fc = some r → WR E (n + 1) y cc ml rt vt h (pc + 3) ls ((vt' r).toList ++ rest) (u r)) (hst : st = As.reverse ++ .ref (waK E i) :: rest := by rfl) (hna : As.length = na := by rfl) (hsl : (lg_sl (.ref (waK E i) :: As)).length ≤ ml' := by exact Nat.le_of_ble_eq_true rfl) (hW : (rest.map fun v => v.category).sum ≤ 8 := by exact Nat.le_of_ble_eq_true rfl) : WR E (n + 1) y cc ml rt vt h pc ls st (cr fc u) := fun x ho => by
  obtain ⟨r, h1, h2⟩ := cr_inv ho
  exact WP.room (by omega) (by omega) (wq_callVS (mc := 0) (ms := 0) (bc := 0) (bs := 0) hdg hlk hb hx (hM r h1) hi hy' hst (fun v h' q => by obtain ⟨rfl, rfl⟩ := q; exact kk r h1 x h2) hna hsl hW)
theorem wf_rVS (hdg : decode cc pc = .ok (.invokevirtual idx, 3)) (hlk : wLk y.cls idx y') (hb : wLB y' cc' ml' rt' na) (hx : wLV y') (hM : ∀ h, rep E (L s) ca h → WR E n y' cc' ml' rt' vt' h 0 (wArgs (.ref (waK E i) :: As)) [] fc) (hi : i < 3) (hy' : y'.cls = "java/lang/String") (kk : ∀ r, fc = some r → WF E (n + 1) y cc ml rt vt L ca (pc + 3) ls ((vt' r).toList ++ rest) s (o r)) (hst : st = As.reverse ++ .ref (waK E i) :: rest := by rfl) (hna : As.length = na := by rfl) (hsl : (lg_sl (.ref (waK E i) :: As)).length ≤ ml' := by exact Nat.le_of_ble_eq_true rfl) (hW : (rest.map fun v => v.category).sum ≤ 8 := by exact Nat.le_of_ble_eq_true rfl) : WF E (n + 1) y cc ml rt vt L ca pc ls st s (cr fc o) := fun x s' ho => by
  obtain ⟨r, h1, h2⟩ := cr_inv ho
  refine ⟨(kk r h1 x s' h2).1, fun h hr => WP.room (by omega) (by omega) (wq_callVS (mc := 0) (ms := 0) (bc := phi (L s') - phi (L s)) (bs := 10 * (phi (L s') - phi (L s))) hdg hlk hb hx (hM h hr r h1) hi hy' hst (fun v h' q => by obtain ⟨e1, e2⟩ := q; subst e1; rw [e2]; exact (kk r h1 x s' h2).2 h hr) hna hsl hW)⟩
theorem wr_cSe (hdg : decode cc pc = .ok (.invokestatic idx, 3)) (hlk : wLk y.cls idx y') (hb : wLB y' cc' ml' rt' na) (hx : wLS y') (hM : WR E n y' cc' ml' rt' vt' h 0 (wArgs As) [] fc) (kk : ∀ r, fc = some r → WR E (n + 1) y cc ml rt vt h (pc + 3) ls ((vt' r).toList ++ rest) (u r)) (hst : st = As.reverse ++ rest := by rfl) (hna : As.length = na := by rfl) (hsl : (lg_sl As).length ≤ ml' := by exact Nat.le_of_ble_eq_true rfl) (hW : (rest.map fun v => v.category).sum ≤ 8 := by exact Nat.le_of_ble_eq_true rfl) : WR E (n + 1) y cc ml rt vt h pc ls st (cr fc u) := fun x ho => by
  obtain ⟨r, h1, h2⟩ := cr_inv ho
  exact WP.room (by omega) (by omega) (wq_callS (mc := 0) (ms := 0) (bc := 0) (bs := 0) hdg hlk hb hx (hM r h1) hst (fun v h' q => by obtain ⟨rfl, rfl⟩ := q; exact kk r h1 x h2) hna hsl hW)
theorem wr_mmax {a b : Int} (hdg : decode cc pc = .ok (.invokestatic idx, 3)) (hw : Cond.methodLink y.cls idx Lib.Math.max.name ∈ wAll) (ha : wR a) (hb : wR b) {u : Option R} (kk : WR E (n + 1) y cc ml rt vt h (pc + 3) ls (.int (iI (max a b)) :: st) u) (hst : (st.map fun v => v.category).sum ≤ 8 := by exact Nat.le_of_ble_eq_true rfl) : WR E (n + 1) y cc ml rt vt h pc ls (.int (iI b) :: .int (iI a) :: st) u := fun x ho => wq_mmax hdg hw (kk x ho) ha hb hst
end JC2
end JC
theorem i2b_low : ∀ c : Nat, c < 256 → i2bI (c : Int) = if c < 128 then (c : Int) else (c : Int) - 256 := by decide +kernel
theorem fnd_idx (w : Nat) (hw : w < 3) (c : Int) (hc : 0 ≤ c ∧ c ≤ 255) : fnd w (i2bI c) (wLen.getD w 0) 0 = idxS w c := by
  obtain ⟨m, rfl⟩ := Int.eq_ofNat_of_zero_le hc.1
  have hm : m < 256 := by omega
  have h : ∀ w, w < 3 → ∀ m : Nat, m < 256 → fnd w (i2bI (m : Int)) (wLen.getD w 0) 0 = idxS (w : Int) (m : Int) := by decide +kernel
  exact h w hw m hm
theorem idxS_out {w c : Int} (hc : 255 < c) : idxS w c = -1 := by
  unfold idxS
  split
  · rw [if_neg (by omega)]
  · split
    · rw [if_neg (by omega), if_neg (by omega), if_neg (by omega), if_neg (by omega)]
    · rw [if_neg (by omega), if_neg (by omega), if_neg (by omega), if_neg (by omega), if_neg (by omega)]
set_option maxRecDepth 100000 in
set_option maxHeartbeats 4000000 in
theorem pJ1_indexOf {E : wE} {n : Nat} {h : hW} {i : Nat} (hi : i < 3) (c : Int) (hc : 0 ≤ c ∧ c ≤ 65535) : WR E (n + 2) yJ1_indexOf_4cfef cJ1_indexOf_4cfef 4 (some .int) vI h 0 (wArgs [.ref (waV E i), .int (iI c), .int (iI 0), .int (iI (wLen.getD i 0 : Nat))]) [] (some (idxS i c)) := by
  have hL := wLen_rng i hi
  rw [show (some (idxS (i : Int) c)) = cr (some (if 0 ≤ c ∧ c ≤ 255 then (1 : Int) else 0)) (fun r => if r = 0 then some (-1) else if (0 : Int) < ((wLen.getD i 0 : Nat) : Int) then cr (some (fnd i (i2bI c) (wLen.getD i 0) 0)) (fun r => some r) else none) by
    rw [cr_some]
    by_cases h1 : c ≤ 255
    · have e : (if 0 ≤ c ∧ c ≤ 255 then (1 : Int) else 0) = 1 := if_pos ⟨hc.1, h1⟩
      rw [e, if_neg (by decide), if_pos (by omega), cr_some, fnd_idx i hi c ⟨hc.1, h1⟩]
    · have e : (if 0 ≤ c ∧ c ≤ 255 then (1 : Int) else 0) = 0 := if_neg (by omega)
      rw [e, if_pos rfl, idxS_out (by omega)]]
  refine wr_iload_n dJ1_indexOf_4cfef_0 rfl ?_
  refine wr_cSe dJ1_indexOf_4cfef_1 k_RJ1_88 b_yJ1_canEncode_9a6ad x_yJ1_canEncode_9a6ad (As := [.int (iI c)]) (pJ1_canEncode c (by omega)) (fun r hr => ?_)
  have hr0 : wR r := by
    cases hr
    split <;> decide
  · refine wr_if_ne 9 dJ1_indexOf_4cfef_4 hr0 (fun h4 => ?_) (fun h4 => ?_)
    · refine wr_iload_n dJ1_indexOf_4cfef_9 rfl ?_
      refine wr_iconst dJ1_indexOf_4cfef_10 ?_
      refine wr_mmax dJ1_indexOf_4cfef_11 k_RJ1_92 (by decide) (by decide) ?_
      refine wr_istore_n dJ1_indexOf_4cfef_14 ?_
      refine wr_iload_n dJ1_indexOf_4cfef_15 rfl ?_
      refine wr_aload_n dJ1_indexOf_4cfef_16 rfl ?_
      refine wr_strlen dJ1_indexOf_4cfef_17 hi ?_
      refine wr_mmin dJ1_indexOf_4cfef_18 k_RJ1_38 (by omega) (by omega) ?_
      rw [Int.min_self]
      refine wr_istore_n dJ1_indexOf_4cfef_21 ?_
      refine wr_iload_n dJ1_indexOf_4cfef_22 rfl ?_
      refine wr_iload_n dJ1_indexOf_4cfef_23 rfl ?_
      refine wr_icmp_lt 29 (a := 0) dJ1_indexOf_4cfef_24 (by decide) (by omega) (fun h5 => ?_) (fun h5 => wr_none)
      refine wr_aload_n dJ1_indexOf_4cfef_29 rfl ?_
      refine wr_iload_n dJ1_indexOf_4cfef_30 rfl ?_
      refine wr_iload_n dJ1_indexOf_4cfef_31 rfl ?_
      refine wr_iload_n dJ1_indexOf_4cfef_32 rfl ?_
      refine wr_cS dJ1_indexOf_4cfef_33 k_RJ1_95 b_yJ1_indexOfChar_4cfef x_yJ1_indexOfChar_4cfef (As := [.ref (waV E i), .int (iI c), .int (iI 0), .int (iI (wLen.getD i 0 : Nat))]) (pJ1_indexOfChar hi c) (fun r => ?_)
      exact wr_ireturn dJ1_indexOf_4cfef_36 ⟨_, rfl, rfl⟩
    · refine wr_iconst dJ1_indexOf_4cfef_7 ?_
      exact wr_ireturn dJ1_indexOf_4cfef_8 ⟨_, rfl, rfl⟩
set_option maxRecDepth 100000 in
set_option maxHeartbeats 4000000 in
theorem pJ0_length {E : wE} {n : Nat} (hE : wGE E) {h : hW} {i : Nat} (hi : i < 3) : WR E (n + 1) yJ0_length_8abf5 cJ0_length_8abf5 1 (some .int) vI h 0 (wArgs [.ref (waK E i)]) [] (some (wLen.getD i 0 : Nat)) := by
  have hL := wLen_rng i hi
  have e9 : shrI ((wLen.getD i 0 : Nat) : Int) 0 = ((wLen.getD i 0 : Nat) : Int) := by
    have : ∀ m : Nat, m < 9 → shrI (m : Int) 0 = (m : Int) := by decide +kernel
    exact this _ (by omega)
  rw [show (some ((wLen.getD i 0 : Nat) : Int)) = cr (some (0 : Int)) (fun r => some (shrI ((wLen.getD i 0 : Nat) : Int) r)) by rw [cr_some, e9]]
  refine wr_aload_n dJ0_length_8abf5_0 rfl ?_
  refine wr_strval dJ0_length_8abf5_1 hi g_RJ0_9 ?_
  refine wr_strlen dJ0_length_8abf5_4 hi ?_
  refine wr_aload_n dJ0_length_8abf5_5 rfl ?_
  refine wr_cVS (As := []) dJ0_length_8abf5_6 k_RJ0_335 b_yJ0_coder_7d493 x_yJ0_coder_7d493 (pJ0_coder hE hi) hi rfl (fun r _ => ?_)
  refine wr_ishr dJ0_length_8abf5_9 ?_
  exact wr_ireturn dJ0_length_8abf5_10 ⟨_, rfl, rfl⟩
set_option maxRecDepth 100000 in
set_option maxHeartbeats 4000000 in
theorem pJ0_indexOf2 {E : wE} {n : Nat} (hE : wGE E) {h : hW} {i : Nat} (hi : i < 3) (c : Int) (hc : 0 ≤ c ∧ c ≤ 65535) : WR E (n + 3) yJ0_indexOf_7cf53 cJ0_indexOf_7cf53 3 (some .int) vI h 0 (wArgs [.ref (waK E i), .int (iI c), .int (iI 0)]) [] (some (idxS i c)) := by
  rw [show (some (idxS (i : Int) c)) = cr (some (1 : Int)) (fun r => if r = 0 then none else cr (some ((wLen.getD i 0 : Nat) : Int)) (fun r => cr (some (idxS (i : Int) c)) (fun r => some r))) from rfl]
  refine wr_aload_n dJ0_indexOf_7cf53_0 rfl ?_
  refine wr_cVS (As := []) dJ0_indexOf_7cf53_1 k_RJ0_492 b_yJ0_isLatin1_aae02 x_yJ0_isLatin1_aae02 (pJ0_isLatin1 hE hi) hi rfl (fun r hr => ?_)
  cases hr
  refine wr_if_eq 23 dJ0_indexOf_7cf53_4 (by decide) (fun h4 => wr_none) (fun h4 => ?_)
  refine wr_aload_n dJ0_indexOf_7cf53_7 rfl ?_
  refine wr_strval dJ0_indexOf_7cf53_8 hi g_RJ0_9 ?_
  refine wr_iload_n dJ0_indexOf_7cf53_11 rfl ?_
  refine wr_iload_n dJ0_indexOf_7cf53_12 rfl ?_
  refine wr_aload_n dJ0_indexOf_7cf53_13 rfl ?_
  refine wr_cVS (As := []) dJ0_indexOf_7cf53_14 k_RJ0_505 b_yJ0_length_8abf5 x_yJ0_length_8abf5 (pJ0_length (n := n + 1) hE hi) hi rfl (fun r hr => ?_)
  cases hr
  refine wr_cS (n := n + 2) dJ0_indexOf_7cf53_17 k_RJ0_637 b_yJ1_indexOf_4cfef x_yJ1_indexOf_4cfef (As := [.ref (waV E i), .int (iI c), .int (iI 0), .int (iI (wLen.getD i 0 : Nat))]) (pJ1_indexOf hi c hc) (fun r => ?_)
  refine wr_goto 36 dJ0_indexOf_7cf53_20 ?_
  exact wr_ireturn dJ0_indexOf_7cf53_36 ⟨_, rfl, rfl⟩
set_option maxRecDepth 100000 in
set_option maxHeartbeats 4000000 in
theorem pJ0_indexOf1 {E : wE} {n : Nat} (hE : wGE E) {h : hW} {i : Nat} (hi : i < 3) (c : Int) (hc : 0 ≤ c ∧ c ≤ 65535) : WR E (n + 4) yJ0_indexOf_0f7a4 cJ0_indexOf_0f7a4 2 (some .int) vI h 0 (wArgs [.ref (waK E i), .int (iI c)]) [] (some (idxS i c)) := by
  rw [show (some (idxS (i : Int) c)) = cr (some (idxS (i : Int) c)) (fun r => some r) from rfl]
  refine wr_aload_n dJ0_indexOf_0f7a4_0 rfl ?_
  refine wr_iload_n dJ0_indexOf_0f7a4_1 rfl ?_
  refine wr_iconst dJ0_indexOf_0f7a4_2 ?_
  refine wr_cVS (n := n + 3) (As := [.int (iI c), .int (iI 0)]) dJ0_indexOf_0f7a4_3 k_RJ0_633 b_yJ0_indexOf_7cf53 x_yJ0_indexOf_7cf53 (pJ0_indexOf2 hE hi c hc) hi rfl (fun r hr => ?_)
  exact wr_ireturn dJ0_indexOf_0f7a4_6 ⟨_, rfl, rfl⟩

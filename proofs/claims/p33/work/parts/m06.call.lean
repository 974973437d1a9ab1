/-! ===== calls ===== -/
theorem wWs_good {y' : MethodName} {cc' : ByteArray} {ml' : Nat} {rt' : Option FieldType} (h : Cond.code y' cc' ml' rt' ∈ wAll) : GoodIn wAll (wWs y' cc' ml' rt') := by
  intro w hw
  rcases List.mem_cons.mp hw with rfl | hw
  · exact wAll_good _ h
  · exact wAll_good _ hw
section WQC
variable {E : wE} {n : Nat} {y : MethodName} {cc : ByteArray} {ml : Nat} {rt : Option FieldType} {pc : Nat} {ls : wLoc} {st : List Value} {h : hW} {bc bs : Nat} {Q : Option Value → hW → Prop}
section WFIN
variable {p : Program} {l : Launch} {e0 : Env} {R : Room} {s : State} {m : MethodId} {args : Array Value} {below : List Frame} {meth : Method} {c : Code} {H : Heap} {locs : List Loc} {cells slots mc ms : Nat} {lsa : Array Slot} {Z : State → Prop} {rest : List Value} {a : Array Value} {Q1 : Option Value → hW → Prop}
theorem w_fin (hrun : va_Run p l e0 R s m args below meth c H locs cells slots mc ms (F0 m pc lsa st) rest (wQc E Q1 a) (wA E)) (hS : va_S (wA E) s.heap H locs)
    (kk : ∀ (v : Option Value) (h1 : hW) (H1 : Heap) (locs1 : List Loc), Q1 v h1 → wRep E h1 H1 → va_S (wA E) s.heap H1 locs1 → W p l e0 R s m args below meth c H1 locs1 (cells + mc) (slots + ms) Z (F0 m (pc + 3) lsa (v.toList ++ rest))) : W p l e0 R s m args below meth c H locs cells slots Z (F0 m pc lsa st) := by
  intro T hT X
  obtain ⟨v, st₀, t, T', L, h0, X', hL, e1, e2, ⟨⟨v', h1, hv, hq, hrep⟩, hz, hk⟩, st'⟩ := hrun T hT X
  cases hv
  rw [h0] at hz hk
  obtain ⟨t2, a1, b1⟩ := kk v h1 T'.heap (locs ++ L) hq (by rw [e1]; exact hrep) ⟨Nat.le_trans hS.1 (by rw [e1]; exact hz), fun q g1 g2 => by rw [e1, hk q (Nat.lt_of_lt_of_le g1 hS.1) g2]; exact hS.2.1 q g1 g2, fun q hq => (List.mem_append.mp hq).elim (hS.2.2 q) (hL q)⟩ T' rfl X'
  exact ⟨t2, st' t2 a1, b1⟩
end WFIN
theorem wPc_blind {As : List Value} : FrameBlind (wPc E As h) := fun _ U g mk q => ⟨q.1, q.2.1.calling g mk _, q.2.2⟩
theorem wq_callV {idx na mc ms : Nat} {y' : MethodName} {cc' : ByteArray} {ml' : Nat} {rt' : Option FieldType} {As rest : List Value} {Q1 : Option Value → hW → Prop} {b ci : Nat} {fs : List Value} {T : u_T} {N : Nat} (hdg : decode cc pc = .ok (.invokevirtual idx, 3)) (hlk : wLk y.cls idx y') (hb : wLB y' cc' ml' rt' na) (hx : wLV y') (hM : WM E n y' cc' ml' rt' (.ref b :: As) h mc ms Q1) (hrv : h.1 b = some (.inr (ci, fs))) (hci : vwCl[ci]? = some (y'.cls, T, N)) (hst : st = As.reverse ++ .ref b :: rest) (kk : ∀ v h1, Q1 v h1 → WP E (n + 1) y cc ml rt (pc + 3) ls (v.toList ++ rest) h1 bc bs Q) (hna : As.length = na := by rfl) (hsl : (lg_sl (.ref b :: As)).length ≤ ml' := by decide) (hW : (rest.map fun v => v.category).sum ≤ 8 := by decide) : WP E (n + 1) y cc ml rt pc ls st h (mc + bc) (ms + bs) Q := by
  intro p l e0 R s m args below meth c H locs cells slots lsa Z C hr hs hl hc1 hc2 hz
  obtain ⟨k1, k2, k3, k4, k5, k6, k7⟩ := hb
  have hts := C.2.2.2.2.2.1
  have hmet := wMet k7 hsl hM l
  have hfr := C.2.2.2.2.2.2.2.1
  have hlo := C.2.2.2.2.2.2.2.2.1
  subst hst
  have hxi := hx.1
  have hxs := hx.2
  have hlk' : Cond.methodLink y.cls idx y' ∈ wAll := hlk
  have hrun := va_runV (l := l) (e := e0) (below := below) (meth := meth) (locs := locs) (cells := cells) (slots := slots) (g := F0 m pc lsa (As.reverse ++ .ref b :: rest)) ⟨C.1, C.2.1, C.2.2.1, C.2.2.2.2.1, hts⟩ hmet (cwV na hts (fun w hw => by
    rcases List.mem_append.mp hw with hw | hw
    · exact wAll_good _ (by simp at hw; rcases hw with rfl | rfl | rfl | rfl <;> assumption)
    · exact wWs_good k2 w hw) rfl rfl rfl ⟨rfl, k3, k4, k5⟩ ⟨by show n + 1 ≤ _; omega, by show 8 + (ml' + 11) + 38 * n ≤ _; omega⟩) ⟨wPc_blind, (by
    obtain ⟨q, hq, cell, g1, g2, g3, -⟩ := (hr.2 b _ hrv).2
    have hcl := (C.2.2.2.2.2.2.2.2.2.1.1.1 ci q hq).2.1
    rw [hci] at hq
    cases hq
    exact ⟨cell, g1, by rw [g3]; rfl, by rw [g2]; exact hcl⟩), fun U hU hW => ⟨rfl, C.2.2.2.2.2.2.2.2.2.1.on hs hU hW, by rw [hU]; exact hr⟩⟩ rfl hna hl.1 rfl (by show 2 * 0 + _ ≤ 8; omega) hdg ⟨by omega, by omega⟩
  refine w_fin (mc := mc) (ms := ms) hrun hs (fun v h1 H1 locs1 hq1 hr1 hs1 => ?_)
  exact kk v h1 hq1 p l e0 R s m args below meth c H1 locs1 (cells + mc) (slots + ms) lsa Z C hr1 hs1 hl (by omega) (by omega) (fun v2 h2 q2 => by
    have h9 := hz v2 h2 q2
    rw [show cells + (mc + bc) = cells + mc + bc by omega, show slots + (ms + bs) = slots + ms + bs by omega] at h9
    exact h9)
theorem wq_callS {idx na mc ms : Nat} {y' : MethodName} {cc' : ByteArray} {ml' : Nat} {rt' : Option FieldType} {As rest : List Value} {Q1 : Option Value → hW → Prop} (hdg : decode cc pc = .ok (.invokestatic idx, 3)) (hlk : wLk y.cls idx y') (hb : wLB y' cc' ml' rt' na) (hx : wLS y') (hM : WM E n y' cc' ml' rt' (As) h mc ms Q1) (hst : st = As.reverse ++ rest) (kk : ∀ v h1, Q1 v h1 → WP E (n + 1) y cc ml rt (pc + 3) ls (v.toList ++ rest) h1 bc bs Q) (hna : As.length = na := by rfl) (hsl : (lg_sl (As)).length ≤ ml' := by decide) (hW : (rest.map fun v => v.category).sum ≤ 8 := by decide) : WP E (n + 1) y cc ml rt pc ls st h (mc + bc) (ms + bs) Q := by
  intro p l e0 R s m args below meth c H locs cells slots lsa Z C hr hs hl hc1 hc2 hz
  obtain ⟨k1, k2, k3, k4, k5, k6, k7⟩ := hb
  have hts := C.2.2.2.2.2.1
  have hmet := wMet k7 hsl hM l
  have hfr := C.2.2.2.2.2.2.2.1
  have hlo := C.2.2.2.2.2.2.2.2.1
  subst hst
  have hlk' : Cond.methodLink y.cls idx y' ∈ wAll := hlk
  have hx' : Cond.static y' ∈ wAll := hx
  have hrun := va_runS (l := l) (e := e0) (below := below) (meth := meth) (locs := locs) (cells := cells) (slots := slots) (g := F0 m pc lsa (As.reverse ++ rest)) ⟨C.1, C.2.1, C.2.2.1, C.2.2.2.2.1, hts⟩ hmet (va_cwS na hts (fun w hw => by
    rcases List.mem_append.mp hw with hw | hw
    · exact wAll_good _ (by simp at hw; rcases hw with rfl | rfl | rfl <;> assumption)
    · exact wWs_good k2 w hw) rfl rfl rfl ⟨k3, k4, k5⟩ ⟨by show n + 1 ≤ _; omega, by show 8 + (ml' + 11) + 38 * n ≤ _; omega⟩) ⟨wPc_blind, fun U hU hW => ⟨rfl, C.2.2.2.2.2.2.2.2.2.1.on hs hU hW, by rw [hU]; exact hr⟩⟩ rfl hna hl.1 rfl (by show 2 * 0 + _ ≤ 8; omega) hdg ⟨by omega, by omega⟩
  refine w_fin (mc := mc) (ms := ms) hrun hs (fun v h1 H1 locs1 hq1 hr1 hs1 => ?_)
  exact kk v h1 hq1 p l e0 R s m args below meth c H1 locs1 (cells + mc) (slots + ms) lsa Z C hr1 hs1 hl (by omega) (by omega) (fun v2 h2 q2 => by
    have h9 := hz v2 h2 q2
    rw [show cells + (mc + bc) = cells + mc + bc by omega, show slots + (ms + bs) = slots + ms + bs by omega] at h9
    exact h9)
theorem wq_callSN {idx na mc ms : Nat} {y' : MethodName} {cc' : ByteArray} {ml' : Nat} {rt' : Option FieldType} {As rest : List Value} {Q1 : Option Value → hW → Prop} (hdg : decode cc pc = .ok (.invokestatic idx, 3)) (hlk : wLN y.cls idx y') (hb : wLB y' cc' ml' rt' na) (hx : wLS y') (hM : WM E n y' cc' ml' rt' (As) h mc ms Q1) (hst : st = As.reverse ++ rest) (kk : ∀ v h1, Q1 v h1 → WP E (n + 1) y cc ml rt (pc + 3) ls (v.toList ++ rest) h1 bc bs Q) (hna : As.length = na := by rfl) (hsl : (lg_sl (As)).length ≤ ml' := by decide) (hW : (rest.map fun v => v.category).sum ≤ 8 := by decide) : WP E (n + 1) y cc ml rt pc ls st h (mc + bc) (ms + bs) Q := by
  intro p l e0 R s m args below meth c H locs cells slots lsa Z C hr hs hl hc1 hc2 hz
  obtain ⟨k1, k2, k3, k4, k5, k6, k7⟩ := hb
  have hts := C.2.2.2.2.2.1
  have hmet := wMet k7 hsl hM l
  have hfr := C.2.2.2.2.2.2.2.1
  have hlo := C.2.2.2.2.2.2.2.2.1
  subst hst
  obtain ⟨host, hlk'⟩ := hlk
  have hx' : Cond.static y' ∈ wAll := hx
  have hrun := va_runSN (l := l) (e := e0) (below := below) (meth := meth) (locs := locs) (cells := cells) (slots := slots) (g := F0 m pc lsa (As.reverse ++ rest)) ⟨C.1, C.2.1, C.2.2.1, C.2.2.2.2.1, hts⟩ hmet ⟨va_cnB na hts (wWs_good k2) rfl rfl rfl (C.2.2.2.2.2.2.2.2.2.1.2.2.2.2.2.1 _ hlk') (hts _ k1) ⟨k3, k4, k5⟩ ⟨by show n + 1 ≤ _; omega, by show 8 + (ml' + 11) + 38 * n ≤ _; omega⟩, hts _ hx', trivial⟩ ⟨wPc_blind, fun U hU hW => ⟨rfl, C.2.2.2.2.2.2.2.2.2.1.on hs hU hW, by rw [hU]; exact hr⟩⟩ rfl hna hl.1 rfl (by show 2 * 0 + _ ≤ 8; omega) hdg ⟨by omega, by omega⟩
  refine w_fin (mc := mc) (ms := ms) hrun hs (fun v h1 H1 locs1 hq1 hr1 hs1 => ?_)
  exact kk v h1 hq1 p l e0 R s m args below meth c H1 locs1 (cells + mc) (slots + ms) lsa Z C hr1 hs1 hl (by omega) (by omega) (fun v2 h2 q2 => by
    have h9 := hz v2 h2 q2
    rw [show cells + (mc + bc) = cells + mc + bc by omega, show slots + (ms + bs) = slots + ms + bs by omega] at h9
    exact h9)
theorem wq_callI {idx na mc ms : Nat} {y' : MethodName} {cc' : ByteArray} {ml' : Nat} {rt' : Option FieldType} {As rest : List Value} {Q1 : Option Value → hW → Prop} {b : Nat} (hdg : decode cc pc = .ok (.invokespecial idx, 3)) (hlk : wLk y.cls idx y') (hb : wLB y' cc' ml' rt' na) (hx : wLI y') (hM : WM E n y' cc' ml' rt' (.ref b :: As) h mc ms Q1) (hrt : rt' = none) (hst : st = As.reverse ++ .ref b :: rest) (kk : ∀ v h1, Q1 v h1 → WP E (n + 1) y cc ml rt (pc + 3) ls (v.toList ++ rest) h1 bc bs Q) (hna : As.length = na := by rfl) (hsl : (lg_sl (.ref b :: As)).length ≤ ml' := by decide) (hW : (rest.map fun v => v.category).sum ≤ 8 := by decide) : WP E (n + 1) y cc ml rt pc ls st h (mc + bc) (ms + bs) Q := by
  intro p l e0 R s m args below meth c H locs cells slots lsa Z C hr hs hl hc1 hc2 hz
  obtain ⟨k1, k2, k3, k4, k5, k6, k7⟩ := hb
  have hts := C.2.2.2.2.2.1
  have hmet := wMet k7 hsl hM l
  have hfr := C.2.2.2.2.2.2.2.1
  have hlo := C.2.2.2.2.2.2.2.2.1
  subst hst
  subst hrt
  have hlk' : Cond.methodLink y.cls idx y' ∈ wAll := hlk
  have hrun := va_runI (l := l) (e := e0) (below := below) (meth := meth) (locs := locs) (cells := cells) (slots := slots) (g := F0 m pc lsa (As.reverse ++ .ref b :: rest)) ⟨C.1, C.2.1, C.2.2.1, C.2.2.2.2.1, hts⟩ hmet (cwI na hts (wWs_good k2) rfl rfl rfl (hts _ k1) (hts _ hlk') (hts _ hx.2) hx.1 ⟨k3, k4, k5⟩ ⟨by show n + 1 ≤ _; omega, by show 8 + (ml' + 11) + 38 * n ≤ _; omega⟩) ⟨wPc_blind, fun U hU hW => ⟨rfl, C.2.2.2.2.2.2.2.2.2.1.on hs hU hW, by rw [hU]; exact hr⟩⟩ rfl hna hl.1 rfl (by show 2 * 0 + _ ≤ 8; omega) hdg ⟨by omega, by omega⟩
  refine w_fin (mc := mc) (ms := ms) hrun hs (fun v h1 H1 locs1 hq1 hr1 hs1 => ?_)
  exact kk v h1 hq1 p l e0 R s m args below meth c H1 locs1 (cells + mc) (slots + ms) lsa Z C hr1 hs1 hl (by omega) (by omega) (fun v2 h2 q2 => by
    have h9 := hz v2 h2 q2
    rw [show cells + (mc + bc) = cells + mc + bc by omega, show slots + (ms + bs) = slots + ms + bs by omega] at h9
    exact h9)
theorem wq_callIN {idx na mc ms : Nat} {y' : MethodName} {cc' : ByteArray} {ml' : Nat} {rt' : Option FieldType} {As rest : List Value} {Q1 : Option Value → hW → Prop} {b : Nat} (hdg : decode cc pc = .ok (.invokespecial idx, 3)) (hlk : wLN y.cls idx y') (hb : wLB y' cc' ml' rt' na) (hx : wLI y') (hM : WM E n y' cc' ml' rt' (.ref b :: As) h mc ms Q1) (hrt : rt' = none) (hst : st = As.reverse ++ .ref b :: rest) (kk : ∀ v h1, Q1 v h1 → WP E (n + 1) y cc ml rt (pc + 3) ls (v.toList ++ rest) h1 bc bs Q) (hna : As.length = na := by rfl) (hsl : (lg_sl (.ref b :: As)).length ≤ ml' := by decide) (hW : (rest.map fun v => v.category).sum ≤ 8 := by decide) : WP E (n + 1) y cc ml rt pc ls st h (mc + bc) (ms + bs) Q := by
  intro p l e0 R s m args below meth c H locs cells slots lsa Z C hr hs hl hc1 hc2 hz
  obtain ⟨k1, k2, k3, k4, k5, k6, k7⟩ := hb
  have hts := C.2.2.2.2.2.1
  have hmet := wMet k7 hsl hM l
  have hfr := C.2.2.2.2.2.2.2.1
  have hlo := C.2.2.2.2.2.2.2.2.1
  subst hst
  subst hrt
  obtain ⟨host, hlk'⟩ := hlk
  have hrun := va_runIN (l := l) (e := e0) (below := below) (meth := meth) (locs := locs) (cells := cells) (slots := slots) (g := F0 m pc lsa (As.reverse ++ .ref b :: rest)) ⟨C.1, C.2.1, C.2.2.1, C.2.2.2.2.1, hts⟩ hmet ⟨va_cnB na hts (wWs_good k2) rfl rfl rfl (C.2.2.2.2.2.2.2.2.2.1.2.2.2.2.2.1 _ hlk') (hts _ k1) ⟨k3, k4, k5⟩ ⟨by show n + 1 ≤ _; omega, by show 8 + (ml' + 11) + 38 * n ≤ _; omega⟩, hx.1, hts _ hx.2⟩ ⟨wPc_blind, fun U hU hW => ⟨rfl, C.2.2.2.2.2.2.2.2.2.1.on hs hU hW, by rw [hU]; exact hr⟩⟩ rfl hna hl.1 rfl (by show 2 * 0 + _ ≤ 8; omega) hdg ⟨by omega, by omega⟩
  refine w_fin (mc := mc) (ms := ms) hrun hs (fun v h1 H1 locs1 hq1 hr1 hs1 => ?_)
  exact kk v h1 hq1 p l e0 R s m args below meth c H1 locs1 (cells + mc) (slots + ms) lsa Z C hr1 hs1 hl (by omega) (by omega) (fun v2 h2 q2 => by
    have h9 := hz v2 h2 q2
    rw [show cells + (mc + bc) = cells + mc + bc by omega, show slots + (ms + bs) = slots + ms + bs by omega] at h9
    exact h9)
end WQC

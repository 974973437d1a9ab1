/-! ===== the constructors: rows of cells behind a base ===== -/
def Reg (h0 : hW) (b : Nat) (cs : List va_E) (h : hW) : Prop := h.2 = b + cs.length ∧ (∀ q, q < b → h.1 q = h0.1 q) ∧ ∀ (r : Nat) (e : va_E), cs[r]? = some e → h.1 (b + r) = some e
theorem Reg.push {h0 h : hW} {b : Nat} {cs : List va_E} {e : va_E} (hr : Reg h0 b cs h) : Reg h0 b (cs ++ [e]) (wPush h e) := by
  obtain ⟨r1, r2, r3⟩ := hr
  refine ⟨?_, fun q hq => ?_, fun r e' h => ?_⟩
  · show h.2 + 1 = _
    rw [r1, List.length_append]
    rfl
  · rw [push_old (by omega)]
    exact r2 q hq
  · rcases Nat.lt_or_ge r cs.length with q | q
    · rw [List.getElem?_append_left q] at h
      rw [push_old (by omega)]
      exact r3 r e' h
    · rw [List.getElem?_append_right q] at h
      have h0 : r - cs.length = 0 := by
        have := (List.getElem?_eq_some_iff.mp h).1
        simp at this
        omega
      rw [h0] at h
      cases h
      rw [show b + r = h.2 by omega]
      exact push_new
theorem Reg.up {h0 h : hW} {b : Nat} {cs : List va_E} {e : va_E} {r : Nat} (hr : Reg h0 b cs h) (hl : r < cs.length) : Reg h0 b (cs.set r e) (wUp h (b + r) e) := by
  obtain ⟨r1, r2, r3⟩ := hr
  refine ⟨?_, fun q hq => ?_, fun r' e' h => ?_⟩
  · show h.2 = _
    rw [r1, List.length_set]
  · rw [w_up_ne (by omega)]
    exact r2 q hq
  · by_cases q : r' = r
    · subst q
      rw [List.getElem?_set_self hl] at h
      cases h
      exact w_up_eq
    · rw [List.getElem?_set_ne (Ne.symm q)] at h
      rw [w_up_ne (by omega)]
      exact r3 r' e' h
/-- a callee's row behind what stands -/
theorem Reg.glue {h0 h h1 : hW} {b : Nat} {pre cs : List va_E} {x : va_E} (hr : Reg h0 b (pre ++ [x]) h) (h2 : Reg h (b + pre.length) cs h1) : Reg h0 b (pre ++ cs) h1 := by
  obtain ⟨r1, r2, r3⟩ := hr
  obtain ⟨s1, s2, s3⟩ := h2
  refine ⟨?_, fun q hq => ?_, fun r e h => ?_⟩
  · rw [s1, List.length_append]
    omega
  · rw [s2 q (by omega)]
    exact r2 q hq
  · rcases Nat.lt_or_ge r pre.length with q | q
    · rw [s2 _ (by omega)]
      refine r3 r e ?_
      rw [List.getElem?_append_left q] at h ⊢
      exact h
    · rw [List.getElem?_append_right q] at h
      have := s3 _ e h
      rw [show b + pre.length + (r - pre.length) = b + r by omega] at this
      exact this
theorem Reg.last {h0 h : hW} {b : Nat} {pre : List va_E} {x : va_E} (hr : Reg h0 b (pre ++ [x]) h) : Reg h (b + pre.length) [x] h := by
  obtain ⟨r1, r2, r3⟩ := hr
  refine ⟨?_, fun q hq => rfl, fun r e h => ?_⟩
  · rw [r1, List.length_append]
    simp
    omega
  · have h0 : r = 0 := by
      have := (List.getElem?_eq_some_iff.mp h).1
      simp at this
      omega
    subst h0
    refine r3 pre.length e ?_
    rw [List.getElem?_append_right (Nat.le_refl _)]
    simpa using h
section MK
variable {E : wE} {n : Nat} {y : MethodName} {cc : ByteArray} {ml : Nat} {rt : Option FieldType} {pc : Nat} {ls : wLoc} {st : List Value} {h h0 : hW} {bc bs b : Nat} {Q : Option Value → hW → Prop} {cs : List va_E}
theorem wz_new {idx ci N : Nat} {fs : List Value} (hdg : decode cc pc = .ok (.new idx, 3)) (hw : wNew y.cls idx ci N fs) (hr : Reg h0 b cs h) (hb : wb E ≤ b) (kk : ∀ h1, Reg h0 b (cs ++ [.inr (ci, fs)]) h1 → WP E n y cc ml rt (pc + 3) ls (.ref (b + cs.length) :: st) h1 bc bs Q) : WP E n y cc ml rt pc ls st h (bc + 1) (bs + N) Q :=
  wq_new hdg hw (by rw [hr.1]; omega) (by rw [hr.1]; exact kk _ hr.push)
theorem wz_newI {N : Nat} (hdg : decode cc pc = .ok (.newarray .int, 2)) (hr : Reg h0 b cs h) (hb : wb E ≤ b) (kk : ∀ h1, Reg h0 b (cs ++ [eI E N (fun _ => 0)]) h1 → WP E n y cc ml rt (pc + 2) ls (.ref (b + cs.length) :: st) h1 bc bs Q) (hN : N ≤ 60000000) : WP E n y cc ml rt pc ls (.int (iI (N : Int)) :: st) h (bc + 1) (bs + N) Q :=
  wq_newI N hdg ac_int (by rw [hr.1]; omega) rfl (by rw [hr.1]; exact kk _ hr.push) hN
theorem wz_newL {N : Nat} (hdg : decode cc pc = .ok (.newarray .long, 2)) (hr : Reg h0 b cs h) (hb : wb E ≤ b) (kk : ∀ h1, Reg h0 b (cs ++ [eL E N (fun _ => 0)]) h1 → WP E n y cc ml rt (pc + 2) ls (.ref (b + cs.length) :: st) h1 bc bs Q) (hN : N ≤ 60000000) : WP E n y cc ml rt pc ls (.int (iI (N : Int)) :: st) h (bc + 1) (bs + N) Q :=
  wq_newL N hdg ac_long (by rw [hr.1]; omega) rfl (by rw [hr.1]; exact kk _ hr.push) hN
theorem wz_newC {N : Nat} (hdg : decode cc pc = .ok (.newarray .char, 2)) (hr : Reg h0 b cs h) (hb : wb E ≤ b) (kk : ∀ h1, Reg h0 b (cs ++ [eC E N (fun _ => 0)]) h1 → WP E n y cc ml rt (pc + 2) ls (.ref (b + cs.length) :: st) h1 bc bs Q) (hN : N ≤ 60000000) : WP E n y cc ml rt pc ls (.int (iI (N : Int)) :: st) h (bc + 1) (bs + N) Q :=
  wq_newC N hdg ac_char (by rw [hr.1]; omega) rfl (by rw [hr.1]; exact kk _ hr.push) hN
theorem wz_newZ {N : Nat} (hdg : decode cc pc = .ok (.newarray .boolean, 2)) (hr : Reg h0 b cs h) (hb : wb E ≤ b) (kk : ∀ h1, Reg h0 b (cs ++ [eZ E N (fun _ => 0)]) h1 → WP E n y cc ml rt (pc + 2) ls (.ref (b + cs.length) :: st) h1 bc bs Q) (hN : N ≤ 60000000) : WP E n y cc ml rt pc ls (.int (iI (N : Int)) :: st) h (bc + 1) (bs + N) Q :=
  wq_newZ N hdg ac_boolean (by rw [hr.1]; omega) rfl (by rw [hr.1]; exact kk _ hr.push) hN
theorem wz_newQ {idx t : Nat} {Cn : String} {N : Nat} (hdg : decode cc pc = .ok (.anewarray idx, 3)) (hw : Cond.classLink y.cls idx Cn ∈ wAll) (ht : (wTys E)[t]? = some (wcA E t, .object Cn)) (hAO : ∀ s : State, wK E s → va_AO Cn s) (hr : Reg h0 b cs h) (hb : wb E ≤ b) (kk : ∀ h1, Reg h0 b (cs ++ [eQ E t N (fun _ => none)]) h1 → WP E n y cc ml rt (pc + 3) ls (.ref (b + cs.length) :: st) h1 bc bs Q) (hN : N ≤ 60000000) : WP E n y cc ml rt pc ls (.int (iI (N : Int)) :: st) h (bc + 1) (bs + N) Q :=
  wq_newQ N hdg hw ht hAO (by rw [hr.1]; omega) rfl (by rw [hr.1]; exact kk _ hr.push) hN
theorem Reg.at_ {r : Nat} {e : va_E} {ad : Nat} (hr : Reg h0 b cs h) (hc : cs[r]? = some e) (had : ad = b + r) : h.1 ad = some e := by
  rw [had]
  exact hr.2.2 r e hc
theorem wz_putF {idx ci k r ad : Nat} {fs : List Value} {v : Value} {ty : FieldType} (hdg : decode cc pc = .ok (.putfield idx, 3)) (hf : wFP y.cls idx ci k true ty) (hyn : y.name = "<init>") (hr : Reg h0 b cs h) (hc : cs[r]? = some (.inr (ci, fs))) (had : ad = b + r) (hlen : k < fs.length) (hn : narrow ty v = v) (hfit : fits ty v = true) (kk : ∀ h1, Reg h0 b (cs.set r (.inr (ci, fs.set k v))) h1 → WP E n y cc ml rt (pc + 3) ls st h1 bc bs Q) : WP E n y cc ml rt pc ls (v :: .ref ad :: st) h bc bs Q :=
  wq_putF hdg hf hyn (hr.at_ hc had) hlen hn hfit (by subst had; exact kk _ (hr.up (List.getElem?_eq_some_iff.mp hc).1))
theorem wz_put {idx ci k r ad : Nat} {fs : List Value} {v : Value} {ty : FieldType} (hdg : decode cc pc = .ok (.putfield idx, 3)) (hf : wFP y.cls idx ci k false ty) (hr : Reg h0 b cs h) (hc : cs[r]? = some (.inr (ci, fs))) (had : ad = b + r) (hlen : k < fs.length) (hn : narrow ty v = v) (hfit : fits ty v = true) (kk : ∀ h1, Reg h0 b (cs.set r (.inr (ci, fs.set k v))) h1 → WP E n y cc ml rt (pc + 3) ls st h1 bc bs Q) : WP E n y cc ml rt pc ls (v :: .ref ad :: st) h bc bs Q :=
  wq_put hdg hf (hr.at_ hc had) hlen hn hfit (by subst had; exact kk _ (hr.up (List.getElem?_eq_some_iff.mp hc).1))
theorem wz_last {N r ad : Nat} {z : Int} {v : Int64} {f : Nat → Int64} (hdg : decode cc pc = .ok (.lastore, 1)) (hr : Reg h0 b cs h) (hc : cs[r]? = some (eL E N f)) (had : ad = b + r) (hi : 0 ≤ z ∧ z < N) (hN : N ≤ 2147483647) (kk : ∀ h1, Reg h0 b (cs.set r (eL E N (va_up f z.toNat v))) h1 → WP E n y cc ml rt (pc + 1) ls st h1 bc bs Q) : WP E n y cc ml rt pc ls (.long v :: .int (iI z) :: .ref ad :: st) h bc bs Q :=
  wq_last hdg (hr.at_ hc had) hi (by subst had; exact kk _ (hr.up (List.getElem?_eq_some_iff.mp hc).1)) hN
theorem wz_aast {N r ad t ci r2 ad2 : Nat} {z : Int} {f : Nat → Option Nat} {q : vw_C} {vs : List Value} (hdg : decode cc pc = .ok (.aastore, 1)) (hr : Reg h0 b cs h) (hc : cs[r]? = some (eQ E t N f)) (had : ad = b + r) (ht : (wTys E)[t]? = some (wcA E t, .object q.1)) (hc2 : cs[r2]? = some (.inr (ci, vs))) (had2 : ad2 = b + r2) (hq : vwCl[ci]? = some q) (hi : 0 ≤ z ∧ z < N) (hN : N ≤ 2147483647) (kk : ∀ h1, Reg h0 b (cs.set r (eQ E t N (va_up f z.toNat (some ad2)))) h1 → WP E n y cc ml rt (pc + 1) ls st h1 bc bs Q) : WP E n y cc ml rt pc ls (.ref ad2 :: .int (iI z) :: .ref ad :: st) h bc bs Q :=
  wq_aast hdg (hr.at_ hc had) ht (hr.at_ hc2 had2) hq hi (by subst had; exact kk _ (hr.up (List.getElem?_eq_some_iff.mp hc).1)) hN
end MK
set_option maxRecDepth 100000 in
theorem cX0_make {E : wE} {n : Nat} {h : hW} {a : Nat} : WM E (n + 1) yX0_init cX0_init 1 none [.ref a] h 0 0 (fun v h' => v = none ∧ h' = h) := by
  refine wq_aload_n dX0_init_0 rfl ?_
  refine wq_obj dX0_init_1 k_RX0_3 ob_i ob_c (by decide) ?_
  exact wq_return dX0_init_4 ⟨rfl, rfl⟩ rfl
set_option maxRecDepth 100000 in
theorem cX3_make {E : wE} {n : Nat} {h : hW} {a : Nat} : WM E (n + 1) yX3_init cX3_init 1 none [.ref a] h 0 0 (fun v h' => v = none ∧ h' = h) := by
  refine wq_aload_n dX3_init_0 rfl ?_
  refine wq_obj dX3_init_1 k_RX3_3 ob_i ob_c (by decide) ?_
  exact wq_return dX3_init_4 ⟨rfl, rfl⟩ rfl
set_option maxRecDepth 100000 in
theorem cX1_make {E : wE} {n : Nat} {h h0 : hW} {a : Nat} (ha : wb E ≤ a) (hr : Reg h0 a [.inr (1, fs0_1)] h) : WM E (n + 1) yX1_init cX1_init 1 none [.ref a] h 1 18 (fun v h' => v = none ∧ Reg h0 a [.inr (1, [.ref (a + 1), .int (iI 0), .int (iI 0)]), eL E 18 (fun _ => 0)] h') := by
  refine wq_aload_n dX1_init_0 rfl ?_
  refine wq_obj dX1_init_1 k_RX1_3 ob_i ob_c (by decide) ?_
  refine wq_aload_n dX1_init_4 rfl ?_
  refine wq_bipush dX1_init_5 ?_
  refine WP.room (bc' := 0 + 1) (bs' := 0 + 18) (by omega) (by omega) (wz_newL (bc := 0) (bs := 0) (N := 18) dX1_init_7 hr ha (fun h1 r1 => ?_) (by omega))
  refine wz_putF (r := 0) dX1_init_9 p_RX1_9 rfl r1 rfl rfl (by decide) rfl rfl (fun h2 r2 => ?_)
  exact wq_return dX1_init_12 ⟨rfl, r2⟩ rfl
set_option maxRecDepth 100000 in
theorem cX4_make {E : wE} {n : Nat} {h h0 : hW} {a : Nat} (ha : wb E ≤ a) (hr : Reg h0 a [.inr (4, fs0_4)] h) : WM E (n + 1) yX4_init cX4_init 1 none [.ref a] h 1 80 (fun v h' => v = none ∧ Reg h0 a [.inr (4, fs0_4.set 0 (.ref (a + 1))), eC E 80 (fun _ => 0)] h') := by
  refine wq_aload_n dX4_init_0 rfl ?_
  refine wq_obj dX4_init_1 k_RX4_3 ob_i ob_c (by decide) ?_
  refine wq_aload_n dX4_init_4 rfl ?_
  refine wq_bipush dX4_init_5 ?_
  refine WP.room (bc' := 0 + 1) (bs' := 0 + 80) (by omega) (by omega) (wz_newC (bc := 0) (bs := 0) (N := 80) dX4_init_7 hr ha (fun h1 r1 => ?_) (by omega))
  refine wz_putF (r := 0) dX4_init_9 p_RX4_11 rfl r1 rfl rfl (by decide) rfl rfl (fun h2 r2 => ?_)
  exact wq_return dX4_init_12 ⟨rfl, r2⟩ rfl

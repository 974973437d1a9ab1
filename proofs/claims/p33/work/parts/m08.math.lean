/-! ===== Math.min, Math.max ===== -/
section WQX
variable {E : wE} {n : Nat} {y : MethodName} {cc : ByteArray} {ml : Nat} {rt : Option FieldType} {pc : Nat} {ls : wLoc} {st : List Value} {h : hW} {bc bs : Nat} {Q : Option Value → hW → Prop}
theorem wq_mmin {idx : Nat} {a b : Int} (hdg : decode cc pc = .ok (.invokestatic idx, 3)) (hw : Cond.methodLink y.cls idx Lib.Math.min.name ∈ wAll) (kk : WP E (n + 1) y cc ml rt (pc + 3) ls (.int (iI (min a b)) :: st) h bc bs Q) (ha : -2147483648 ≤ a ∧ a ≤ 2147483647 := by omega) (hb : -2147483648 ≤ b ∧ b ≤ 2147483647 := by omega) (hst : (st.map fun v => v.category).sum ≤ 8 := by decide) : WP E (n + 1) y cc ml rt pc ls (.int (iI b) :: .int (iI a) :: st) h bc bs Q := by
  intro p l e0 R s m args below meth c H locs cells slots lsa Z C hr hs hl hc1 hc2 hz
  have hts := C.2.2.2.2.2.1
  refine va_mmin C.1 C.2.1 (C.2.2.1.trans hl.1.symm) C.2.2.2.2.1 (hts _ hw) (hts _ mt_min_s) (hts _ mt_i) (hts _ mt_min_c) (by have := C.2.2.2.2.2.2.2.1; omega) (by have := C.2.2.2.2.2.2.2.2.1; omega) (by omega) (by omega) hdg ?_
  rw [show (if iI b < iI a then iI b else iI a) = iI (min a b) by
    by_cases q : b < a
    · rw [if_pos ((iI_lt hb ha).mpr q), Int.min_eq_right (by omega)]
    · rw [if_neg (fun e => q ((iI_lt hb ha).mp e)), Int.min_eq_left (by omega)]]
  exact kk p l e0 R s m args below meth c H locs cells slots lsa Z C hr hs hl hc1 hc2 hz
theorem wq_mminL {idx : Nat} {v w : Int64} (hdg : decode cc pc = .ok (.invokestatic idx, 3)) (hw : Cond.methodLink y.cls idx Lib.MathLoose.min_long.x ∈ wAll) (kk : WP E (n + 1) y cc ml rt (pc + 3) ls (.long (if w < v then w else v) :: st) h bc bs Q) (hst : (st.map fun v => v.category).sum ≤ 8 := by decide) : WP E (n + 1) y cc ml rt pc ls (.long w :: .long v :: st) h bc bs Q := by
  intro p l e0 R s m args below meth c H locs cells slots lsa Z C hr hs hl hc1 hc2 hz
  have hts := C.2.2.2.2.2.1
  exact va_mmin_long C.1 C.2.1 (C.2.2.1.trans hl.1.symm) C.2.2.2.2.1 (hts _ hw) (hts _ mt_minL_s) (hts _ mt_i) (hts _ mt_minL_c) (by have := C.2.2.2.2.2.2.2.1; omega) (by have := C.2.2.2.2.2.2.2.2.1; omega) (by omega) (by omega) hdg (kk p l e0 R s m args below meth c H locs cells slots lsa Z C hr hs hl hc1 hc2 hz)
end WQX

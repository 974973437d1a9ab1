/-! ===== the constructors of those that wait, of a house ===== -/
theorem arrV_ext {c : ClassId} {N : Nat} {f g : Nat → Value} (h : ∀ j, j < N → f j = g j) : arrV c N f = arrV c N g := by
  unfold arrV
  congr 1
  congr 1
  funext j
  exact h j.val j.isLt
def grH (E : wE) (h : hW) : hW := (fun q => if q < h.2 then h.1 q else if q = h.2 then some (eQ E 5 5 (fun j => some (h.2 + 1 + j))) else if q < h.2 + 6 then some (eI E 64 (fun _ => 0)) else none, h.2 + 6)
theorem Reg.grid {E : wE} {h0 h : hW} {b : Nat} {cs : List va_E} (hr : Reg h0 b cs h) : Reg h0 b (cs ++ [eQ E 5 5 (fun j => some (b + cs.length + 1 + j)), eI E 64 (fun _ => 0), eI E 64 (fun _ => 0), eI E 64 (fun _ => 0), eI E 64 (fun _ => 0), eI E 64 (fun _ => 0)]) (grH E h) := by
  obtain ⟨r1, r2, r3⟩ := hr
  refine ⟨?_, fun q hq => ?_, fun r e he => ?_⟩
  · show h.2 + 6 = _
    rw [r1, List.length_append]
    rfl
  · show (if q < h.2 then _ else _) = _
    rw [if_pos (by omega)]
    exact r2 q hq
  · show (if b + r < h.2 then _ else _) = _
    rcases Nat.lt_or_ge r cs.length with q | q
    · rw [List.getElem?_append_left q] at he
      rw [if_pos (by omega)]
      exact r3 r e he
    · rw [List.getElem?_append_right q] at he
      rw [if_neg (by omega)]
      have hl := (List.getElem?_eq_some_iff.mp he).1
      simp only [List.length_cons, List.length_nil] at hl
      generalize hk : r - cs.length = k at he hl
      have hk6 : k = 0 ∨ k = 1 ∨ k = 2 ∨ k = 3 ∨ k = 4 ∨ k = 5 := by omega
      rcases hk6 with rfl | rfl | rfl | rfl | rfl | rfl <;> cases he
      · rw [if_pos (by omega), r1]
      all_goals rw [if_neg (by omega), if_pos (by omega)]
theorem i64_lit : iI 64 = (64 : Int32) := by decide
theorem i5_lit : iI 5 = (5 : Int32) := by decide
section GQ
variable {E : wE} {n : Nat} {y : MethodName} {cc : ByteArray} {ml : Nat} {rt : Option FieldType} {pc : Nat} {ls : wLoc} {st : List Value} {h h0 : hW} {bc bs b : Nat} {Q : Option Value → hW → Prop} {cs : List va_E}
theorem stk_lit {st : List Value} : (Value.int (iI 64) :: Value.int (iI 5) :: st) = Value.int 64 :: Value.int 5 :: st := by rw [i64_lit, i5_lit]
set_option maxRecDepth 100000 in
theorem wq_grid {idx : Nat} (hdg : decode cc pc = .ok (.multianewarray idx 2, 4)) (hw : Cond.classLink y.cls idx "[[I" ∈ wAll) (hb : wb E ≤ h.2) (kk : WP E n y cc ml rt (pc + 4) ls (.ref h.2 :: st) (grH E h) bc bs Q) : WP E n y cc ml rt pc ls (.int (iI 64) :: .int (iI 5) :: st) h (bc + 6) (bs + 325) Q := by
  intro p l e R s m args below meth c H locs cells slots lsa Z C hr hs hl hc1 hc2 hz T hT X
  have hts := C.2.2.2.2.2.1
  have hK := C.2.2.2.2.2.2.2.2.2.1
  have k4 : s.vm.findClass "[[I" = some (wcA E 5) := (hK.1.2 5 _ rfl).2
  obtain ⟨-, kA, hkA, hkindA⟩ := hK.2.2.2.2.2.2.2.2.2.2
  obtain ⟨-, kC, hkC, cc', hkindC⟩ := (hK.1.2 0 _ rfl).1 0 (fun j => .int 0)
  obtain ⟨vm₁, hw1, X1, step⟩ := gd_step X C.1 C.2.2.2.2.1 (hts _ hw) k4 hkA hkindA hkC hkindC (g := F0 m pc lsa (.int (iI 64) :: .int (iI 5) :: st)) rfl (by rw [C.2.1]; exact hdg) (rest := st) stk_lit (by omega) (by omega)
  obtain ⟨f1, f2, f3, f4, f5, f6⟩ := gdS_facts (T.setVm vm₁) (wcA E 5) (wcA E 0) 5
  have hTh : (T.setVm vm₁).heap = H := hT
  rw [hTh] at f1 f2 f5 f6
  have hsz := hr.1
  have hrep : wRep E (grH E h) (gdS (T.setVm vm₁) (wcA E 5) (wcA E 0) 5).heap := by
    refine ⟨by rw [f1, hsz]; rfl, fun a e' ha => ?_⟩
    have ha : (if a < h.2 then h.1 a else if a = h.2 then some (eQ E 5 5 (fun j => some (h.2 + 1 + j))) else if a < h.2 + 6 then some (eI E 64 (fun _ => 0)) else none) = some e' := ha
    by_cases q1 : a < h.2
    · rw [if_pos q1] at ha
      obtain ⟨g1, g2⟩ := hr.2 a e' ha
      exact ⟨g1, g2.kept (f5 a (by omega))⟩
    · rw [if_neg q1] at ha
      by_cases q2 : a = h.2
      · rw [if_pos q2] at ha
        cases ha
        subst q2
        refine ⟨hb, ?_⟩
        show (gdS (T.setVm vm₁) (wcA E 5) (wcA E 0) 5).heap[h.2]? = some (vp_cell _ _)
        rw [← hsz, f2, vp_cell_q]
        congr 1
        skip
      · rw [if_neg q2] at ha
        by_cases q3 : a < h.2 + 6
        · rw [if_pos q3] at ha
          cases ha
          refine ⟨by omega, ?_⟩
          show (gdS (T.setVm vm₁) (wcA E 5) (wcA E 0) 5).heap[a]? = some (vp_cell _ _)
          have h9 := f6 (a - h.2 - 1) (by omega)
          rw [show H.size + 1 + (a - h.2 - 1) = a by omega] at h9
          rw [h9, vp_cell_i]
          rfl
        · rw [if_neg q3] at ha
          cases ha
  have hS1 : va_S (wA E) s.heap (gdS (T.setVm vm₁) (wcA E 5) (wcA E 0) 5).heap (locs ++ (List.range 5).map fun j => (⟨T.heap.size, j⟩ : Loc)) := by
    refine ⟨by rw [f1]; have := hs.1; omega, fun q g1 g2 => ?_, fun q hq => ?_⟩
    · rw [f5 q (Nat.lt_of_lt_of_le g1 hs.1)]
      exact hs.2.1 q g1 g2
    · rcases List.mem_append.mp hq with q1 | q1
      · exact hs.2.2 q q1
      · obtain ⟨j, -, rfl⟩ := List.mem_map.mp q1
        show wb E ≤ T.heap.size
        rw [hT, hsz]
        exact hb
  obtain ⟨t, a1, b1⟩ := kk p l e R s m args below meth c _ _ (cells + 1 + 5) (slots + 5 + 5 * 64) lsa Z C hrep hS1 hl (by omega) (by omega) (fun v h3 q => by
    have h9 := hz v h3 q
    rw [show cells + (bc + 6) = cells + 1 + 5 + bc by omega, show slots + (bs + 325) = slots + 5 + 5 * 64 + bs by omega] at h9
    exact h9) _ rfl X1
  rw [← hsz, ← hT] at a1
  exact ⟨t, step t a1, b1⟩
theorem wz_grid {idx : Nat} (hdg : decode cc pc = .ok (.multianewarray idx 2, 4)) (hw : Cond.classLink y.cls idx "[[I" ∈ wAll) (hr : Reg h0 b cs h) (hb : wb E ≤ b) (kk : ∀ h1, Reg h0 b (cs ++ [eQ E 5 5 (fun j => some (b + cs.length + 1 + j)), eI E 64 (fun _ => 0), eI E 64 (fun _ => 0), eI E 64 (fun _ => 0), eI E 64 (fun _ => 0), eI E 64 (fun _ => 0)]) h1 → WP E n y cc ml rt (pc + 4) ls (.ref (b + cs.length) :: st) h1 bc bs Q) : WP E n y cc ml rt pc ls (.int (iI 64) :: .int (iI 5) :: st) h (bc + 6) (bs + 325) Q :=
  wq_grid hdg hw (by rw [hr.1]; omega) (by rw [hr.1]; exact kk _ hr.grid)
end GQ
set_option maxRecDepth 100000 in
theorem cX5_make {E : wE} {n : Nat} {h h0 : hW} {a : Nat} (ha : wb E ≤ a) (hr : Reg h0 a [.inr (5, fs0_5)] h) : WM E (n + 1) yX5_init cX5_init 1 none [.ref a] h 6 325 (fun v h' => v = none ∧ Reg h0 a [.inr (5, [.ref (a + 1), .int (iI 64), .int (iI 0)]), eQ E 5 5 (fun j => some (a + 2 + j)), eI E 64 (fun _ => 0), eI E 64 (fun _ => 0), eI E 64 (fun _ => 0), eI E 64 (fun _ => 0), eI E 64 (fun _ => 0)] h') := by
  refine wq_aload_n dX5_init_0 rfl ?_
  refine wq_obj dX5_init_1 k_RX5_3 ob_i ob_c (by decide) ?_
  refine wq_aload_n dX5_init_4 rfl ?_
  refine wq_iconst dX5_init_5 ?_
  refine wq_bipush dX5_init_6 ?_
  refine WP.room (bc' := 0 + 6) (bs' := 0 + 325) (by omega) (by omega) (wz_grid (bc := 0) (bs := 0) dX5_init_8 l_RX5_11 hr ha (fun h1 r1 => ?_))
  refine wz_putF (r := 0) dX5_init_12 p_RX5_13 rfl r1 rfl rfl (by decide) rfl rfl (fun h2 r2 => ?_)
  refine wq_aload_n dX5_init_15 rfl ?_
  refine wq_bipush dX5_init_16 ?_
  refine wz_put (r := 0) dX5_init_18 p_RX5_16 r2 rfl rfl (by show 1 < 3; omega) rfl rfl (fun h3 r3 => ?_)
  exact wq_return dX5_init_21 ⟨rfl, r3⟩ rfl

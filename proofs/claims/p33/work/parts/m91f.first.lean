/-! ===== the first heap ===== -/
def ca0 (E : wE) : caT := fun k c => wb E + hO k + 7 + c
def veq (e0 e : va_E) : Prop := ∀ (D : va_G) (cl : List vw_C) (a : Nat) (H : Heap), va_at D cl (a, e0) H → va_at D cl (a, e) H
theorem veq.rf {e : va_E} : veq e e := fun _ _ _ _ h => h
theorem veq_Q {E : wE} {t N : Nat} {f g : Nat → Option Nat} (h : ∀ j, j < N → f j = g j) : veq (eQ E t N f) (eQ E t N g) := by
  intro D cl a H hv
  have hv : H[a]? = some (vp_cell (wcA E t) (N, .inr (.inr (.inr (.inr f))))) := hv
  show H[a]? = some (vp_cell (wcA E t) (N, .inr (.inr (.inr (.inr g)))))
  rw [hv, vp_cell_q, vp_cell_q]
  congr 1
  exact arrV_ext (fun j hj => by rw [h j hj])
theorem colE0 {E : wE} {c : Nat} : colE E H0 c = eI E 64 (fun _ => 0) := by
  unfold colE
  have e1 : rmN H0 = 64 := rfl
  rw [e1]
  have e2 : (fun i : Nat => iI (H0.1 5 c i)) = fun _ : Nat => (0 : Int32) := by
    funext i
    simp [H0]
    rfl
  rw [e2]
theorem locH_lo {k r : Nat} (h : r < 7) : locH k r = (r, k, 0) := if_pos h
theorem locH_7 {k r : Nat} (h : 7 ≤ r) (h2 : r < 12) : locH k r = (7, k, r) := by
  unfold locH
  rw [if_neg (by omega), if_pos h2]
theorem locH_a {k r : Nat} (h : 12 ≤ r) (h2 : r < 20) : locH k r = (8, k, r - 12) := by
  unfold locH
  rw [if_neg (by omega), if_neg (by omega), if_pos h2]
theorem locH_o {k r : Nat} (h : 20 ≤ r) : locH k r = (9, k, r - 20) := by
  unfold locH
  rw [if_neg (by omega), if_neg (by omega), if_neg (by omega)]
theorem hcell {E : wE} {k r : Nat} (hr : r < 36) : ∃ e0, (hL2 E (wb E + hO k) 16)[r]? = some e0 ∧ ((locH k r).1 ≠ 7 → ∃ e, cellH E H0 (ca0 E k) (locH k r).1 k (locH k r).2.2 = some e ∧ veq e0 e) ∧ ((locH k r).1 = 7 → e0 = colE E H0 0) := by
  have ek : ((k : Int)).toNat = k := Int.toNat_natCast k
  rcases Nat.lt_or_ge r 12 with q | q
  · match r, q with
    | 0, _ => exact ⟨_, rfl, fun _ => ⟨_, rfl, by rw [locH_lo (by omega)] at *; simp [cHouse, aCal, aAccs, aOrds, aWait, off, H0, Nat.add_assoc, veq]⟩, fun h => by rw [locH_lo (by omega)] at h; cases h⟩
    | 1, _ => exact ⟨_, rfl, fun _ => ⟨_, rfl, by simp [cCal, aBits, off, H0, Nat.add_assoc, veq]⟩, fun h => by rw [locH_lo (by omega)] at h; cases h⟩
    | 2, _ => exact ⟨_, rfl, fun _ => ⟨_, rfl, fun _ _ _ _ h => h⟩, fun h => by rw [locH_lo (by omega)] at h; cases h⟩
    | 3, _ => exact ⟨_, rfl, fun _ => ⟨_, rfl, veq_Q (fun j hj => by simp [upto, hj, aAcc, off, Nat.add_assoc])⟩, fun h => by rw [locH_lo (by omega)] at h; cases h⟩
    | 4, _ => exact ⟨_, rfl, fun _ => ⟨_, rfl, veq_Q (fun j hj => by simp [upto, hj, aOrd, off, Nat.add_assoc])⟩, fun h => by rw [locH_lo (by omega)] at h; cases h⟩
    | 5, _ => exact ⟨_, rfl, fun _ => ⟨_, rfl, by simp [cWait, aCols, off, H0, Nat.add_assoc, veq]⟩, fun h => by rw [locH_lo (by omega)] at h; cases h⟩
    | 6, _ => exact ⟨_, rfl, fun _ => ⟨_, rfl, veq_Q (fun j hj => by simp [ca0, Nat.add_assoc])⟩, fun h => by rw [locH_lo (by omega)] at h; cases h⟩
    | 7, _ => exact ⟨_, rfl, fun h => absurd (by rw [locH_7 (by omega) (by omega)]) h, fun _ => colE0.symm⟩
    | 8, _ => exact ⟨_, rfl, fun h => absurd (by rw [locH_7 (by omega) (by omega)]) h, fun _ => colE0.symm⟩
    | 9, _ => exact ⟨_, rfl, fun h => absurd (by rw [locH_7 (by omega) (by omega)]) h, fun _ => colE0.symm⟩
    | 10, _ => exact ⟨_, rfl, fun h => absurd (by rw [locH_7 (by omega) (by omega)]) h, fun _ => colE0.symm⟩
    | 11, _ => exact ⟨_, rfl, fun h => absurd (by rw [locH_7 (by omega) (by omega)]) h, fun _ => colE0.symm⟩
    | r + 12, q => omega
  · have hlen : (hB E (wb E + hO k) (upto (wb E + hO k + 12) 8) (upto (wb E + hO k + 20) 16)).length = 12 := rfl
    rcases Nat.lt_or_ge r 20 with q2 | q2
    · refine ⟨acc0, ?_, fun _ => ⟨.inr (0, cAcc H0 ((r - 12 : Nat) : Int)), ?_, ?_⟩, fun h => ?_⟩
      · unfold hL2
        rw [List.getElem?_append_right (by omega), hlen, List.getElem?_append_left (by rw [List.length_replicate]; omega), List.getElem?_replicate, if_pos (by omega)]
      · rw [locH_a q q2]
        rfl
      · simp [acc0, cAcc, H0, veq]
      · rw [locH_a q q2] at h
        cases h
    · refine ⟨ord0, ?_, fun _ => ⟨.inr (3, cOrd H0 ((r - 20 : Nat) : Int)), ?_, ?_⟩, fun h => ?_⟩
      · unfold hL2
        rw [List.getElem?_append_right (by omega), hlen, List.getElem?_append_right (by rw [List.length_replicate]; omega), List.length_replicate, List.getElem?_replicate, if_pos (by omega)]
      · rw [locH_o q2]
        rfl
      · simp [ord0, cOrd, H0, veq]
      · rw [locH_o q2] at h
        cases h
theorem blk_get {E : wE} {b r : Nat} (hr : r < 36) : ∀ {i j : Nat}, j < i → (blk E b i)[36 * j + r]? = (hL2 E (b + 36 * j) 16)[r]?
  | i + 1, j, h => by
    rw [blk_succ]
    rcases Nat.lt_or_ge j i with q | q
    · rw [List.getElem?_append_left (by rw [blk_len]; omega)]
      exact blk_get hr q
    · have hj : j = i := by omega
      subst hj
      rw [List.getElem?_append_right (by rw [blk_len]; omega), blk_len, Nat.add_sub_cancel_left]
/-- all cells, in a row -/
def aL (E : wE) (b : Nat) : List va_E := tL2 E b 2
theorem aL_len (E : wE) (b : Nat) : (aL E b).length = 402 := by
  unfold aL
  rw [tL2_len]
theorem aL_h {E : wE} {b k r : Nat} (hk : k < 11) (hr : r < 36) : (aL E b)[hO k + r]? = (hL2 E (b + hO k) 16)[r]? := by
  unfold aL
  have hO' : hO k = if k < 2 then 36 * k + 1 else 36 * k + 6 := rfl
  unfold tL2
  rcases Nat.lt_or_ge k 2 with q | q
  · rw [if_pos q] at hO'
    rw [List.getElem?_append_left (by rw [tB_len]; omega)]
    unfold tB
    rw [show hO k + r = (36 * k + r) + 1 by omega, List.getElem?_cons_succ]
    have h01 : k = 0 ∨ k = 1 := by omega
    rcases h01 with rfl | rfl
    · rw [List.getElem?_append_left (by rw [hL2_16]; omega), Nat.mul_zero, Nat.zero_add]
      rfl
    · rw [List.getElem?_append_right (by rw [hL2_16]; omega), hL2_16, List.getElem?_append_left (by rw [hL2_16]; omega), show 36 * 1 + r - 36 = r by omega]
      rfl
  · rw [if_neg (by omega)] at hO'
    rw [List.getElem?_append_right (by rw [tB_len]; omega), tB_len]
    rcases Nat.lt_or_ge k 9 with q2 | q2
    · rw [List.getElem?_append_left (by rw [blk_len]; omega), show hO k + r - 78 = 36 * (k - 2) + r by omega, blk_get hr (by omega), show b + 78 + 36 * (k - 2) = b + hO k by omega]
    · rw [List.getElem?_append_right (by rw [blk_len]; omega), blk_len, show hO k + r - 78 - 36 * 7 = 36 * (k - 9) + r by omega, blk_get hr (by omega), show b + 330 + 36 * (k - 9) = b + hO k by omega]
theorem aL_t {E : wE} {b j : Nat} (hj : j < 5) : (aL E b)[73 + j]? = ([eQ E 8 7 (upb (b + 78) 7), eQ E 8 2 (upb (b + 330) 2), eZ E 2 (fun _ => 0), .inr (4, fs0_4.set 0 (.ref (b + 77))), eC E 80 (fun _ => 0)] : List va_E)[j]? := by
  unfold aL tL2
  rw [List.getElem?_append_left (by rw [tB_len]; omega)]
  unfold tB
  rw [show 73 + j = (72 + j) + 1 by omega, List.getElem?_cons_succ, List.getElem?_append_right (by rw [hL2_16]; omega), hL2_16, List.getElem?_append_right (by rw [hL2_16]; omega), hL2_16, show 72 + j - 36 - 36 = j by omega]
theorem tcell {E : wE} {t : Nat} (h1 : 10 ≤ t) (h2 : t < 16) : ∃ e0 e, (aL E (wb E))[off t 0 0]? = some e0 ∧ cellT E G0 t = some e ∧ veq e0 e := by
  have ht : t = 10 ∨ t = 11 ∨ t = 12 ∨ t = 13 ∨ t = 14 ∨ t = 15 := by omega
  rcases ht with rfl | rfl | rfl | rfl | rfl | rfl
  · exact ⟨_, _, rfl, rfl, by simp [tT, cTop, G0, C0, aH, aHist, aSlots, aSaved, aPad, off, hO, veq]⟩
  · exact ⟨_, _, aL_t (j := 0) (by omega), rfl, veq_Q (fun j hj => by
      simp [upb, hj, aH, off, hO]
      split <;> omega)⟩
  · exact ⟨_, _, aL_t (j := 1) (by omega), rfl, veq_Q (fun j hj => by
      simp [upb, hj, aH, off, hO]
      split <;> omega)⟩
  · exact ⟨_, _, aL_t (j := 2) (by omega), rfl, veq.rf⟩
  · exact ⟨_, _, aL_t (j := 3) (by omega), rfl, by simp [cPad, G0, C0, aSigns, off, veq, List.set]⟩
  · exact ⟨_, _, aL_t (j := 4) (by omega), rfl, veq.rf⟩
/-- the first heap, laid -/
def hI (E : wE) : hW := (fun q => if wb E ≤ q ∧ q < wb E + 402 then (if (loc (q - wb E)).1 = 7 then some (colE E H0 0) else if (loc (q - wb E)).1 < 10 then cellH E H0 (ca0 E (loc (q - wb E)).2.1) (loc (q - wb E)).1 (loc (q - wb E)).2.1 (loc (q - wb E)).2.2 else cellT E G0 (loc (q - wb E)).1) else none, wb E + 402)
theorem hI_at {E : wE} {o t k i : Nat} (ho : o < 402) (h : loc o = (t, k, i)) : (hI E).1 (wb E + o) = (if t = 7 then some (colE E H0 0) else if t < 10 then cellH E H0 (ca0 E k) t k i else cellT E G0 t) := by
  show (if _ then _ else _) = _
  rw [if_pos (by omega), Nat.add_sub_cancel_left, h]
theorem off_lt {t k i : Nat} (h : loc (off t k i) = (t, k, i)) (h7 : t ≠ 7) : off t k i < 402 := by
  rcases Nat.lt_or_ge (off t k i) 402 with q | q
  · exact q
  · exfalso
    have : loc (off t k i) = (7, 0, 0) := by
      unfold loc
      rw [if_neg (by omega), if_neg (by omega), if_neg (by omega), if_neg (by omega)]
    rw [this] at h
    simp only [Prod.mk.injEq] at h
    exact h7 h.1.symm
theorem hO_lt {k : Nat} (hk : k < 11) : hO k + 36 ≤ 402 ∧ 1 ≤ hO k := by
  unfold hO
  split <;> omega
theorem loc_ca {k c : Nat} (hk : k < 11) (hc : c < 5) : loc (hO k + (7 + c)) = (7, k, 7 + c) := by
  rw [loc_h hk (by omega), locH_7 (by omega) (by omega)]
theorem rep0 (E : wE) : rep E G0 (ca0 E) (hI E) := by
  have hca : ∀ k c, ca0 E k c = wb E + (hO k + (7 + c)) := fun k c => by unfold ca0; omega
  refine ⟨⟨fun k c hk hc => ?_, fun k c k' c' hk hc hk' hc' h => ?_, ?_⟩, fun t k i h1 h2 h3 h4 => ?_, fun t h1 h2 => ?_, fun k c hk hc => ?_⟩
  · have := hO_lt hk
    rw [hca]
    refine ⟨by omega, by show _ < wb E + 402; omega, ?_⟩
    rw [Nat.add_sub_cancel_left, loc_ca hk hc]
  · rw [hca, hca] at h
    have h9 := loc_ca hk hc
    rw [show hO k + (7 + c) = hO k' + (7 + c') by omega, loc_ca hk' hc'] at h9
    simp only [Prod.mk.injEq] at h9
    omega
  · show wb E + 402 ≤ wb E + 402
    exact Nat.le_refl _
  · rw [hI_at (off_lt h3 h4) h3, if_neg h4, if_pos h1]
    rfl
  · rw [hI_at (off_lt (lc_t h1 h2) (by omega)) (lc_t h1 h2), if_neg (by omega), if_neg (by omega)]
  · have := hO_lt hk
    rw [hca, hI_at (by omega) (loc_ca hk hc), if_pos rfl]
    show some (colE E H0 0) = some (colE E H0 c)
    rw [colE0, colE0]
theorem loc_cover {o : Nat} (ho : o < 402) : (∃ k r, k < 11 ∧ r < 36 ∧ o = hO k + r) ∨ ∃ t, 10 ≤ t ∧ t < 16 ∧ o = off t 0 0 := by
  by_cases h0 : o = 0
  · exact Or.inr ⟨10, by omega, by omega, by subst h0; rfl⟩
  · by_cases h1 : o < 73
    · refine Or.inl ⟨(o - 1) / 36, (o - 1) % 36, by omega, by omega, ?_⟩
      unfold hO
      rw [if_pos (by omega)]
      omega
    · by_cases h2 : o < 78
      · refine Or.inr ⟨o - 62, by omega, by omega, ?_⟩
        unfold off
        rw [if_neg (by omega), if_neg (by omega), if_neg (by omega), if_neg (by omega), if_pos (by omega)]
        omega
      · refine Or.inl ⟨(o - 6) / 36, (o - 6) % 36, by omega, by omega, ?_⟩
        unfold hO
        rw [if_neg (by omega)]
        omega
theorem made_rep {E : wE} {h0 h : hW} (hr : Reg h0 (wb E) (aL E (wb E)) h) {H : Heap} (hw : wRep E h H) : wRep E (hI E) H := by
  obtain ⟨r1, r2, r3⟩ := hr
  rw [aL_len] at r1
  refine ⟨by rw [hw.1, r1]; rfl, fun q e hq => ?_⟩
  have hq' := hq
  have hq : (if wb E ≤ q ∧ q < wb E + 402 then (if (loc (q - wb E)).1 = 7 then some (colE E H0 0) else if (loc (q - wb E)).1 < 10 then cellH E H0 (ca0 E (loc (q - wb E)).2.1) (loc (q - wb E)).1 (loc (q - wb E)).2.1 (loc (q - wb E)).2.2 else cellT E G0 (loc (q - wb E)).1) else none) = some e := hq
  by_cases hin : wb E ≤ q ∧ q < wb E + 402
  · obtain ⟨o, rfl⟩ : ∃ o, q = wb E + o := ⟨q - wb E, by omega⟩
    have ho : o < 402 := by omega
    rw [if_pos hin, Nat.add_sub_cancel_left] at hq
    refine ⟨by omega, ?_⟩
    rcases loc_cover ho with ⟨k, r, hk, hr36, rfl⟩ | ⟨t, h1, h2, rfl⟩
    · rw [loc_h hk hr36] at hq
      obtain ⟨e0, g1, g2, g3⟩ := hcell (E := E) (k := k) hr36
      have g4 := r3 (hO k + r) e0 (by rw [aL_h hk hr36]; exact g1)
      have g5 := (hw.2 _ _ g4).2
      by_cases h7 : (locH k r).1 = 7
      · rw [if_pos h7] at hq
        cases hq
        rw [g3 h7] at g5
        exact g5
      · obtain ⟨l1, l2⟩ := locH_k h7
        rw [if_neg h7, if_pos l1, l2] at hq
        obtain ⟨e1, g6, g7⟩ := g2 h7
        rw [g6] at hq
        cases hq
        exact g7 _ _ _ _ g5
    · rw [lc_t h1 h2, if_neg (show ¬ t = 7 by omega), if_neg (show ¬ t < 10 by omega)] at hq
      obtain ⟨e0, e1, g1, g2, g3⟩ := tcell (E := E) h1 h2
      have g4 := r3 (off t 0 0) e0 g1
      have g5 := (hw.2 _ _ g4).2
      rw [g2] at hq
      cases hq
      exact g3 _ _ _ _ g5
  · rw [if_neg hin] at hq
    cases hq

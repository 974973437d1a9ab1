/-! ===== the law's numbers, and the call of a turn ===== -/
theorem andI_rng {a b : Int} (hb : 0 ≤ b ∧ b ≤ 2147483647) : 0 ≤ andI a b ∧ andI a b ≤ b := by
  have hB : (iI b).toBitVec.toInt = b := iI_toInt (a := b) (by omega)
  have hm : (iI b).toBitVec.msb = false := by
    rw [BitVec.msb_eq_toInt]
    exact decide_eq_false (by omega)
  have hn : ((iI b).toBitVec.toNat : Int) = b := by
    rw [BitVec.toInt_eq_toNat_of_msb hm] at hB
    exact hB
  have hm2 : ((iI a).toBitVec &&& (iI b).toBitVec).msb = false := by
    rw [BitVec.msb_and, hm, Bool.and_false]
  have e : andI a b = (((iI a).toBitVec &&& (iI b).toBitVec).toNat : Int) := by
    show ((iI a).toBitVec &&& (iI b).toBitVec).toInt = _
    exact BitVec.toInt_eq_toNat_of_msb hm2
  have l : ((iI a).toBitVec &&& (iI b).toBitVec).toNat ≤ (iI b).toBitVec.toNat := by
    rw [BitVec.toNat_and]
    exact Nat.and_le_right
  omega
theorem andI_wR (a b : Int) : wR (andI a b) := iI_wR _
theorem shrI_wR (a b : Int) : wR (shrI a b) := iI_wR _
theorem up_ok (x : Int) {n : Int} (hn : 1 ≤ n ∧ n ≤ 2147483647) : ∃ r, fL_up x n = some r ∧ 0 ≤ r ∧ r < n := by
  have h := andI_rng (a := x) (b := 2147483647) (by omega)
  refine ⟨rmI (andI x 2147483647) n, ?_, ?_⟩
  · unfold fL_up
    rw [gd_pos (by omega)]
  · rw [rmI_pos h.1]
    exact ⟨Int.emod_nonneg _ (by omega), Int.emod_lt_of_pos _ (by omega)⟩
theorem cl_id {S : Type} {o : Option (Int × S)} : cl o (fun r c => some (r, c)) = o := by
  cases o <;> rfl
/-- what a turn's call is, for all states of one day -/
def TO (t : Int) (A : cR → Option (Int × cR)) : Prop := ∃ f g F, OP f g F ∧ ∀ c : cR, (c.1 0).1 0 6 0 = t → A c = f c
theorem TO.of {t : Int} {A f : cR → Option (Int × cR)} {g : mR → Option (Int × mR)} {F : hR → Option (Int × hR)} (o : OP f g F) (h : ∀ c : cR, (c.1 0).1 0 6 0 = t → A c = f c) : TO t A := ⟨f, g, F, o, h⟩
theorem TO.congr {t : Int} {A B : cR → Option (Int × cR)} (h : TO t B) (e : ∀ c : cR, (c.1 0).1 0 6 0 = t → A c = B c) : TO t A := by
  obtain ⟨f, g, F, o, k⟩ := h
  exact ⟨f, g, F, o, fun c q => (e c q).trans (k c q)⟩
theorem to_any {t a b : Int} (ha : wR a) (hb : wR b) : TO t (fL_any a b) := by
  have w7 := andI_wR b 7
  have w3 := shrI_wR b 3
  by_cases q0 : andI b 7 = 0
  · exact TO.of (op_set ha hb) (fun c _ => by rw [fL_any, gd_pos w7, if_pos q0, cl_id])
  by_cases q1 : andI b 7 = 1
  · exact TO.of (op_holiday ha w3) (fun c _ => by rw [fL_any, gd_pos w7, if_neg q0, if_pos q1, cl_id])
  by_cases q2 : andI b 7 = 2
  · exact TO.of (op_account ha hb) (fun c _ => by rw [fL_any, gd_pos w7, if_neg q0, if_neg q1, if_pos q2, cl_id])
  by_cases q3 : andI b 7 = 3
  · exact TO.of (op_deposit ha hb) (fun c _ => by rw [fL_any, gd_pos w7, if_neg q0, if_neg q1, if_neg q2, if_pos q3, cl_id])
  by_cases q4 : andI b 7 = 4
  · exact TO.of (op_order ha hb ha hb ha hb) (fun c _ => by rw [fL_any, gd_pos w7, if_neg q0, if_neg q1, if_neg q2, if_neg q3, if_pos q4, cl_id])
  by_cases q5 : andI b 7 = 5
  · exact TO.of (op_change ha hb hb) (fun c _ => by rw [fL_any, gd_pos w7, if_neg q0, if_neg q1, if_neg q2, if_neg q3, if_neg q4, if_pos q5, cl_id])
  by_cases q6 : andI b 7 = 6
  · exact TO.of (op_giveUp ha) (fun c _ => by rw [fL_any, gd_pos w7, if_neg q0, if_neg q1, if_neg q2, if_neg q3, if_neg q4, if_neg q5, if_pos q6, cl_id])
  · exact TO.of (op_stop ha) (fun c _ => by rw [fL_any, gd_pos w7, if_neg q0, if_neg q1, if_neg q2, if_neg q3, if_neg q4, if_neg q5, if_neg q6, cl_id])
theorem to_ord46 {t a b x3 x4 y n : Int} (ht : 0 ≤ t ∧ t ≤ 1094) (h3 : 0 ≤ x3 ∧ x3 ≤ 8) (h4 : 0 ≤ x4 ∧ x4 ≤ 3) (hn : 1 ≤ n ∧ n ≤ 12) : TO t (fL_order_b46 a b x3 x4 1 y n) := by
  obtain ⟨r46, e46, b46⟩ := up_ok y (n := n) (by omega)
  obtain ⟨r63, e63, b63⟩ := up_ok (shrI b 8) (n := 20) (by omega)
  obtain ⟨r74, e74, b74⟩ := up_ok a (n := 3) (by omega)
  obtain ⟨r87, e87, b87⟩ := up_ok (shrI a 6) (n := 60000) (by omega)
  obtain ⟨r111, e111, b111⟩ := up_ok (shrI b 12) (n := 31) (by omega)
  obtain ⟨r123, e123, b123⟩ := up_ok (shrI a 8) (n := 50) (by omega)
  obtain ⟨r131, e131, b131⟩ := up_ok (shrI b 16) (n := 4) (by omega)
  refine TO.of (op_order (x1 := (9 * r74) + x3) (x2 := 1 + r87) (x3 := (((10000 * x4) + (100 * (1 + r46))) + 1) + r111) (x4 := t + r63) (x5 := r123) (x6 := r131) (by omega) (by omega) (by omega) (by omega) (by omega) (by omega)) (fun c q => ?_)
  rw [fL_order_b46, e46, cr_some, cnt_0, q, cr_some, e63, cr_some, e74, cr_some, e87, cr_some, e111, cr_some, e123, cr_some, e131, cr_some, cl_id]
theorem to_ord23 {t a b x : Int} (ht : 0 ≤ t ∧ t ≤ 1094) (h3 : 0 ≤ x ∧ x ≤ 8) : TO t (fL_order_b23 a b x) := by
  obtain ⟨r26, e26, b26⟩ := up_ok b (n := 4) (by omega)
  by_cases g : r26 = 0
  · exact (to_ord46 (t := t) (a := a) (b := b) (x3 := x) (x4 := r26) (y := shrI b 4) (n := 12) ht h3 (by omega) (by omega)).congr (fun c q => by rw [fL_order_b23, e26, cr_some, gd_pos (by omega), if_pos g])
  · exact (to_ord46 (t := t) (a := a) (b := b) (x3 := x) (x4 := r26) (y := shrI b 4) (n := 2) ht h3 (by omega) (by omega)).congr (fun c q => by rw [fL_order_b23, e26, cr_some, gd_pos (by omega), if_neg g])
theorem to_ord {t a b : Int} (ht : 0 ≤ t ∧ t ≤ 1094) : TO t (fL_order a b) := by
  obtain ⟨r4, e4, b4⟩ := up_ok (shrI a 2) (n := 4) (by omega)
  obtain ⟨r20, e20, b20⟩ := up_ok (shrI a 4) (n := 4) (by omega)
  by_cases g : r4 = 3
  · exact (to_ord23 (t := t) (a := a) (b := b) (x := 8) ht (by omega)).congr (fun c q => by rw [fL_order, e4, cr_some, gd_pos (by omega), if_pos g])
  · exact (to_ord23 (t := t) (a := a) (b := b) (x := r20) ht (by omega)).congr (fun c q => by rw [fL_order, e4, cr_some, gd_pos (by omega), if_neg g, e20, cr_some])
theorem to_days {t a n : Int} (hn : 1 ≤ n ∧ n ≤ 400) : TO t (fL_turn_b261 1 a n) := by
  obtain ⟨r, e, b⟩ := up_ok a (n := n) (by omega)
  exact TO.of (op_days (n := 1 + r) (by omega)) (fun c q => by rw [fL_turn_b261, e, cr_some, cl_id])
theorem to_turn {t w a b : Int} (hw : wR w) (ha : wR a) (hb : wR b) (ht : 0 ≤ t ∧ t ≤ 1094) : TO t (fL_turn w a b) := by
  obtain ⟨a4, ea4, ba4⟩ := up_ok a (n := 4) (by omega)
  obtain ⟨a6, ea6, ba6⟩ := up_ok a (n := 6) (by omega)
  obtain ⟨a30, ea30, ba30⟩ := up_ok a (n := 30) (by omega)
  obtain ⟨aK, eaK, baK⟩ := up_ok a (n := 50000) (by omega)
  obtain ⟨b4, eb4, bb4⟩ := up_ok b (n := 4) (by omega)
  obtain ⟨b7, eb7, bb7⟩ := up_ok b (n := 7) (by omega)
  obtain ⟨bH, ebH, bbH⟩ := up_ok b (n := 400) (by omega)
  obtain ⟨bK, ebK, bbK⟩ := up_ok b (n := 30000) (by omega)
  obtain ⟨bL, ebL, bbL⟩ := up_ok b (n := 90000) (by omega)
  obtain ⟨bM, ebM, bbM⟩ := up_ok b (n := 60000) (by omega)
  obtain ⟨s10, es10, bs10⟩ := up_ok (shrI a 4) (n := 10) (by omega)
  have days : TO t (fun c => gd (wR (andI b 7)) (if andI b 7 = 0 then fL_turn_b261 1 a 90 c else fL_turn_b261 1 a 9 c)) := by
    by_cases g : andI b 7 = 0
    · exact (to_days (t := t) (a := a) (n := 90) (by omega)).congr (fun c _ => by
        show gd (wR (andI b 7)) (if andI b 7 = 0 then fL_turn_b261 1 a 90 c else fL_turn_b261 1 a 9 c) = _
        rw [gd_pos (andI_wR b 7), if_pos g])
    · exact (to_days (t := t) (a := a) (n := 9) (by omega)).congr (fun c _ => by
        show gd (wR (andI b 7)) (if andI b 7 = 0 then fL_turn_b261 1 a 90 c else fL_turn_b261 1 a 9 c) = _
        rw [gd_pos (andI_wR b 7), if_neg g])
  have dep := op_deposit (s := a4) (v := 1 + bL) (by omega) (by omega)
  have hc : w = 0 ∨ w = 1 ∨ w = 2 ∨ w = 3 ∨ w = 4 ∨ w = 5 ∨ w = 6 ∨ w = 7 ∨ w = 8 ∨ w = 9 ∨ w = 10 ∨ w = 11 ∨ w = 12 ∨ w = 13 ∨ (w < 0 ∨ 13 < w) := by omega
  rcases hc with rfl | rfl | rfl | rfl | rfl | rfl | rfl | rfl | rfl | rfl | rfl | rfl | rfl | rfl | hc
  · by_cases g : andI a 4 = 0
    · exact TO.of (op_set (s := a4) (v := b7) (by omega) (by omega)) (fun c _ => by rw [fL_turn, gd_pos hw, if_pos rfl, ea4, cr_some, gd_pos (andI_wR a 4), if_pos g, fL_turn_b93, eb7, cr_some, cl_id])
    · exact TO.of (op_set (s := a4) (v := bH) (by omega) (by omega)) (fun c _ => by rw [fL_turn, gd_pos hw, if_pos rfl, ea4, cr_some, gd_pos (andI_wR a 4), if_neg g, fL_turn_b93, ebH, cr_some, cl_id])
  · exact TO.of (op_holiday (s := t + a30) (v := andI b 1) (by omega) (andI_wR b 1)) (fun c q => by rw [fL_turn, gd_pos hw, if_neg (by omega), if_pos rfl, cnt_0, q, cr_some, ea30, cr_some, cl_id])
  · exact TO.of (op_account (s := aK) (v := bK) (by omega) (by omega)) (fun c _ => by rw [fL_turn, gd_pos hw, if_neg (by omega), if_neg (by omega), if_pos rfl, eaK, cr_some, ebK, cr_some, cl_id])
  · exact TO.of (op_feed (s := a4) (v := b4) (by omega) (by omega)) (fun c _ => by rw [fL_turn, gd_pos hw, if_neg (by omega), if_neg (by omega), if_neg (by omega), if_pos rfl, ea4, cr_some, eb4, cr_some, cl_id])
  · exact TO.of dep (fun c _ => by rw [fL_turn, gd_pos hw, if_neg (by omega), if_neg (by omega), if_neg (by omega), if_neg (by omega), if_pos rfl, ea4, cr_some, ebL, cr_some, cl_id])
  · exact TO.of dep (fun c _ => by rw [fL_turn, gd_pos hw, if_neg (by omega), if_neg (by omega), if_neg (by omega), if_neg (by omega), if_neg (by omega), if_pos rfl, ea4, cr_some, ebL, cr_some, cl_id])
  · exact (to_ord (t := t) (a := a) (b := b) ht).congr (fun c _ => by rw [fL_turn, gd_pos hw, if_neg (by omega), if_neg (by omega), if_neg (by omega), if_neg (by omega), if_neg (by omega), if_neg (by omega), if_pos rfl, cl_id])
  · exact (to_ord (t := t) (a := a) (b := b) ht).congr (fun c _ => by rw [fL_turn, gd_pos hw, if_neg (by omega), if_neg (by omega), if_neg (by omega), if_neg (by omega), if_neg (by omega), if_neg (by omega), if_neg (by omega), if_pos rfl, cl_id])
  · exact TO.of (op_change (o := a4) (a := 1 + bM) (p := s10) (by omega) (by omega) (by omega)) (fun c _ => by rw [fL_turn, gd_pos hw, if_neg (by omega), if_neg (by omega), if_neg (by omega), if_neg (by omega), if_neg (by omega), if_neg (by omega), if_neg (by omega), if_neg (by omega), if_pos rfl, ea4, cr_some, ebM, cr_some, es10, cr_some, cl_id])
  · by_cases g : andI a 16 = 0
    · exact TO.of (op_stop (o := a4) (by omega)) (fun c _ => by rw [fL_turn, gd_pos hw, if_neg (by omega), if_neg (by omega), if_neg (by omega), if_neg (by omega), if_neg (by omega), if_neg (by omega), if_neg (by omega), if_neg (by omega), if_neg (by omega), if_pos rfl, gd_pos (andI_wR a 16), if_pos g, ea4, cr_some, cl_id])
    · exact TO.of (op_goOn (o := a4) (by omega)) (fun c _ => by rw [fL_turn, gd_pos hw, if_neg (by omega), if_neg (by omega), if_neg (by omega), if_neg (by omega), if_neg (by omega), if_neg (by omega), if_neg (by omega), if_neg (by omega), if_neg (by omega), if_pos rfl, gd_pos (andI_wR a 16), if_neg g, ea4, cr_some, cl_id])
  · exact TO.of (op_giveUp (p := a6) (by omega)) (fun c _ => by rw [fL_turn, gd_pos hw, if_neg (by omega), if_neg (by omega), if_neg (by omega), if_neg (by omega), if_neg (by omega), if_neg (by omega), if_neg (by omega), if_neg (by omega), if_neg (by omega), if_neg (by omega), if_pos rfl, ea6, cr_some, cl_id])
  · exact days.congr (fun c _ => by rw [fL_turn, gd_pos hw, if_neg (by omega), if_neg (by omega), if_neg (by omega), if_neg (by omega), if_neg (by omega), if_neg (by omega), if_neg (by omega), if_neg (by omega), if_neg (by omega), if_neg (by omega), if_neg (by omega), if_pos rfl])
  · exact days.congr (fun c _ => by rw [fL_turn, gd_pos hw, if_neg (by omega), if_neg (by omega), if_neg (by omega), if_neg (by omega), if_neg (by omega), if_neg (by omega), if_neg (by omega), if_neg (by omega), if_neg (by omega), if_neg (by omega), if_neg (by omega), if_neg (by omega), if_pos rfl])
  · exact days.congr (fun c _ => by rw [fL_turn, gd_pos hw, if_neg (by omega), if_neg (by omega), if_neg (by omega), if_neg (by omega), if_neg (by omega), if_neg (by omega), if_neg (by omega), if_neg (by omega), if_neg (by omega), if_neg (by omega), if_neg (by omega), if_neg (by omega), if_neg (by omega), if_pos rfl])
  · exact (to_any (t := t) ha hb).congr (fun c _ => by rw [fL_turn, gd_pos hw, if_neg (by omega), if_neg (by omega), if_neg (by omega), if_neg (by omega), if_neg (by omega), if_neg (by omega), if_neg (by omega), if_neg (by omega), if_neg (by omega), if_neg (by omega), if_neg (by omega), if_neg (by omega), if_neg (by omega), if_neg (by omega), cl_id])

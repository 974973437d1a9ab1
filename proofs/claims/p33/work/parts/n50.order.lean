/-! ===== the accounts balance; those that wait stand in order and are as many as told ===== -/
theorem qv_sum {H : hR} {a w f : Int} (hw : 0 ≤ w ∧ w ≤ 7) (hf : f = w + 3) : fX0_sumOf a w H = some (H.1 2 a f) := by
  subst hf
  have : w = 0 ∨ w = 1 ∨ w = 2 ∨ w = 3 ∨ w = 4 ∨ w = 5 ∨ w = 6 ∨ w = 7 := by omega
  refine po_eq ?_
  unfold fX0_sumOf
  rcases this with rfl | rfl | rfl | rfl | rfl | rfl | rfl | rfl
  all_goals
    (repeat (first | (with_reducible refine po_gd ?_ ?_; · omega) | (with_reducible refine po_bnd ?_) | (with_reducible refine po_ift ?_ ?_; · omega) | (with_reducible refine po_iff ?_ ?_; · omega) | (with_reducible refine po_crs ?_) | (with_reducible refine po_cls ?_)))
    exact po_some rfl
theorem qv_money {c : cR} {a w f : Int} (h8 : (c.1 0).1 0 4 0 ≤ 8) (ha : 0 ≤ a ∧ a < (c.1 0).1 0 4 0) (hw : 0 ≤ w ∧ w ≤ 7) (hf : f = w + 3) : fX6_money a w c = some ((c.1 0).1 2 a f) := by
  unfold fX6_money
  rw [ev_hasA (by omega), bI_t (decide_eq_true ha), cr_some, gd_pos (by omega), if_neg (by omega), gd_pos (by omega), qv_sum hw hf, cr_some]
theorem bl_4 {c : cR} (h8 : 0 ≤ (c.1 0).1 0 4 0 ∧ (c.1 0).1 0 4 0 ≤ 8) (hb : Bal (c.1 0)) : ∀ (n fuel : Nat) (a : Int), a + n = (c.1 0).1 0 4 0 → 0 ≤ a → n < fuel → fL_isBalanced_b4 c fuel 1 a = some 1
  | n, 0, _, _, _, h => by omega
  | 0, fuel + 1, a, h1, h2, _ => by
    rw [fL_isBalanced_b4, cnt_1, cr_some, gd_pos (by omega), if_pos (by omega), gd_pos (by omega)]
  | n + 1, fuel + 1, a, h1, h2, h3 => by
    have ha : 0 ≤ a ∧ a < (c.1 0).1 0 4 0 := by omega
    have hd := hb a ha
    unfold dfc at hd
    rw [fL_isBalanced_b4, cnt_1, cr_some, gd_pos (by omega), if_neg (by omega), gd_pos (by omega), if_neg (by omega), qv_money (w := 1) (f := 4) h8.2 ha (by omega) (by omega), cr_some, qv_money (w := 3) (f := 6) h8.2 ha (by omega) (by omega), cr_some, qv_money (w := 4) (f := 7) h8.2 ha (by omega) (by omega), cr_some, qv_money (w := 2) (f := 5) h8.2 ha (by omega) (by omega), cr_some, qv_money (w := 5) (f := 8) h8.2 ha (by omega) (by omega), cr_some, qv_money (w := 6) (f := 9) h8.2 ha (by omega) (by omega), cr_some, qv_money (w := 7) (f := 10) h8.2 ha (by omega) (by omega), cr_some, qv_money (w := 0) (f := 3) h8.2 ha (by omega) (by omega), cr_some, if_pos (congrArg jL (by omega))]
    exact bl_4 h8 hb n fuel (a + 1) (by omega) (by omega) (by omega)
theorem bl_ok {T : Int} {c : cR} (hk : Ok T (c.1 0)) (hb : Bal (c.1 0)) : fL_isBalanced c = some 1 := by
  have k1 := hk.1
  unfold okN at k1
  unfold fL_isBalanced
  exact bl_4 k1.1 hb ((c.1 0).1 0 4 0).toNat fuel0 0 (by omega) (by omega) (by show _ < 1000000; omega)
/-- how many wait, summed over the first k orders -/
def sumCt (H : hR) (n : Nat) : Nat → Int
  | 0 => 0
  | k + 1 => sumCt H n k + cntW H k n
theorem sumCt_0 {H : hR} : ∀ k : Nat, sumCt H 0 k = 0
  | 0 => rfl
  | k + 1 => by
    unfold sumCt
    rw [sumCt_0 k]
    rfl
theorem sumCt_1 {H : hR} {n : Nat} : ∀ k : Nat, sumCt H (n + 1) k = sumCt H n k + (if 0 ≤ H.1 5 0 n ∧ H.1 5 0 n < k then 1 else 0)
  | 0 => by
    rw [if_neg (by omega)]
    rfl
  | k + 1 => by
    have e : cntW H k (n + 1) = cntW H k n + (if H.1 5 0 n = k then 1 else 0) := rfl
    show sumCt H (n + 1) k + cntW H k (n + 1) = sumCt H n k + cntW H k n + _
    rw [sumCt_1 k, e]
    by_cases g : H.1 5 0 n = k
    · rw [if_pos g, if_neg (by omega), if_pos (by omega)]
      omega
    · rw [if_neg g]
      by_cases g2 : 0 ≤ H.1 5 0 n ∧ H.1 5 0 n < k
      · rw [if_pos g2, if_pos (by omega)]
        omega
      · rw [if_neg g2, if_neg (by omega)]
        omega
theorem sumCt_all {H : hR} {N : Nat} : ∀ n : Nat, (∀ i : Int, 0 ≤ i ∧ i < n → 0 ≤ H.1 5 0 i ∧ H.1 5 0 i < N) → sumCt H n N = n
  | 0, _ => sumCt_0 N
  | n + 1, h => by
    rw [sumCt_1, sumCt_all n (fun i hi => h i (by omega)), if_pos (h n (by omega))]
    omega
theorem sumF_Ct {H : hR} (hu : okU H) : ∀ k : Nat, (k : Int) ≤ H.1 0 5 0 → sumF H 15 k = sumCt H (H.1 4 2 0).toNat k
  | 0, _ => rfl
  | k + 1, h => by
    show sumF H 15 k + H.1 3 k 15 = sumCt H (H.1 4 2 0).toNat k + cntW H k (H.1 4 2 0).toNat
    rw [sumF_Ct hu k (by omega), hu.2 k (by omega)]
theorem qv_sum15 {T : Int} {H : hR} (hk : Ok T H) : sumF H 15 (H.1 0 5 0).toNat = H.1 4 2 0 := by
  have k1 := hk.1
  unfold okN at k1
  rw [sumF_Ct hk.2.2.2.2.2.1 _ (by omega), sumCt_all _ (fun i hi => by
    have := (hk.2.2.2.2.1.1 i (by omega)).1
    omega)]
  omega
theorem qv_numO {H : hR} {o w f : Int} (hw : 11 ≤ w ∧ w ≤ 14) (hf : f = w + 1) : fX3_numberOf o w H = some (H.1 3 o f) := by
  subst hf
  have : w = 11 ∨ w = 12 ∨ w = 13 ∨ w = 14 := by omega
  refine po_eq ?_
  unfold fX3_numberOf
  rcases this with rfl | rfl | rfl | rfl
  all_goals
    (repeat (first | (with_reducible refine po_gd ?_ ?_; · omega) | (with_reducible refine po_bnd ?_) | (with_reducible refine po_ift ?_ ?_; · omega) | (with_reducible refine po_iff ?_ ?_; · omega) | (with_reducible refine po_crs ?_) | (with_reducible refine po_cls ?_)))
    exact po_some rfl
theorem qv_ofO {c : cR} {o w f : Int} (h16 : (c.1 0).1 0 5 0 ≤ 16) (ho : 0 ≤ o ∧ o < (c.1 0).1 0 5 0) (hw : 11 ≤ w ∧ w ≤ 14) (hf : f = w + 1) : fX6_ofOrder o w c = some ((c.1 0).1 3 o f, c) := by
  unfold fX6_ofOrder
  rw [ev_hasO (by omega), bI_t (decide_eq_true ho), cr_some, gd_pos (by omega), if_neg (by omega), gd_pos (by omega), if_neg (by omega), gd_pos (by omega), qv_numO hw hf, cr_some]
theorem qv_sumO {T : Int} {H : hR} (hk : Ok T H) {w f : Int} (hf : 12 ≤ f ∧ f ≤ 14) (hw : f = w + 1) : fX2_sumOverOrders w H = some (sumF H f (H.1 0 5 0).toNat) := by
  have k1 := hk.1
  unfold okN at k1
  exact ec_sumO (j := 0) k1.2.1 (fun o ho => qv_numO (by omega) hw) (H.1 0 5 0).toNat fuel0 (by omega) (by show _ < 1000000; omega)
theorem cnt_5 {T : Int} {c : cR} (hk : Ok T (c.1 0)) : fX6_count 5 c = some (sumF (c.1 0) 12 ((c.1 0).1 0 5 0).toNat) := by
  rw [cnt_plain (by omega) (by omega) (by omega)]
  unfold fX2_numberOf
  rw [gd_pos (by omega), if_neg (by omega), if_neg (by omega), if_neg (by omega), if_neg (by omega), if_neg (by omega), if_pos rfl, qv_sumO hk (f := 12) (by omega) (by omega)]
  rfl
theorem cnt_6 {T : Int} {c : cR} (hk : Ok T (c.1 0)) : fX6_count 6 c = some (sumF (c.1 0) 13 ((c.1 0).1 0 5 0).toNat) := by
  rw [cnt_plain (by omega) (by omega) (by omega)]
  unfold fX2_numberOf
  rw [gd_pos (by omega), if_neg (by omega), if_neg (by omega), if_neg (by omega), if_neg (by omega), if_neg (by omega), if_neg (by omega), if_pos rfl, qv_sumO hk (f := 13) (by omega) (by omega)]
  rfl
theorem cnt_7 {T : Int} {c : cR} (hk : Ok T (c.1 0)) : fX6_count 7 c = some (sumF (c.1 0) 14 ((c.1 0).1 0 5 0).toNat) := by
  rw [cnt_plain (by omega) (by omega) (by omega)]
  unfold fX2_numberOf
  rw [gd_pos (by omega), if_neg (by omega), if_neg (by omega), if_neg (by omega), if_neg (by omega), if_neg (by omega), if_neg (by omega), if_neg (by omega), if_pos rfl, qv_sumO hk (f := 14) (by omega) (by omega)]
  rfl
theorem qv_ofPay {T : Int} {c : cR} (hk : Ok T (c.1 0)) {i w : Int} (hi : 0 ≤ i ∧ i < (c.1 0).1 4 2 0) (hw : 0 ≤ w ∧ w ≤ 4) : fX6_ofPayment i w c = some ((c.1 0).1 5 w i) := by
  have k1 := hk.1
  unfold okN at k1
  have kr := roomOK_rng k1.2.2.2.2
  unfold fX6_ofPayment
  rw [ev_btT (by omega), cr_some, gd_pos (by omega), if_neg (by omega), ev_btT (by omega), cr_some, gd_pos (by omega), if_neg (by omega), gd_pos (by omega), gd_pos (by omega)]
theorem io_123 {T : Int} {c : cR} (hk : Ok T (c.1 0)) : ∀ (n fuel : Nat) (p : Int), ((c.1 0).1 4 2 0 - p).toNat = n → 1 ≤ p ∧ p ≤ 8401 → n < fuel → fL_areInOrder_b123 fuel ((c.1 0).1 4 2 0) 1 p c = some (1, c)
  | n, 0, _, _, _, h => by omega
  | n, fuel + 1, p, h1, h2, h3 => by
    have k1 := hk.1
    unfold okN at k1
    by_cases g : (c.1 0).1 4 2 0 ≤ p
    · rw [fL_areInOrder_b123, gd_pos (by omega), if_pos g, gd_pos (by omega)]
    · have ih := io_123 hk (n - 1) fuel (p + 1) (by omega) (by omega) (by omega)
      have w1 := (hk.2.2.2.2.1.1 p (by omega))
      have w2 := (hk.2.2.2.2.1.1 (p - 1) (by omega))
      have w3 := hk.2.2.2.2.1.2 (p - 1) p (by omega) (by omega) (by omega)
      rw [fL_areInOrder_b123, gd_pos (by omega), if_neg g, gd_pos (by omega), if_neg (by omega), qv_ofPay hk (i := p) (w := 3) (by omega) (by omega), cr_some, qv_ofPay hk (i := p - 1) (w := 3) (by omega) (by omega), cr_some, gd_pos (by omega)]
      by_cases q : 0 < (c.1 0).1 5 3 p - (c.1 0).1 5 3 (p - 1)
      · rw [if_pos q]
        exact ih
      · rw [if_neg q, gd_pos (by omega), if_pos (by omega), qv_ofPay hk (i := p) (w := 0) (by omega) (by omega), cr_some, qv_ofPay hk (i := p - 1) (w := 0) (by omega) (by omega), cr_some, gd_pos (by omega), if_neg (by omega)]
        exact ih
theorem io_12 {T : Int} {c : cR} (hk : Ok T (c.1 0)) : ∀ (n fuel j : Nat), j + n = ((c.1 0).1 0 5 0).toNat → n < fuel → fL_areInOrder_b12 fuel (sumF (c.1 0) 15 j) (sumF (c.1 0) 12 j) (sumF (c.1 0) 13 j) (sumF (c.1 0) 14 j) j c = some (1, c)
  | n, 0, _, _, h => by omega
  | 0, fuel + 1, j, h1, _ => by
    have k1 := hk.1
    unfold okN at k1
    have hj : j = ((c.1 0).1 0 5 0).toNat := by omega
    subst hj
    have e := qv_sum15 hk
    rw [fL_areInOrder_b12, cnt_2, cr_some, gd_pos (by omega), if_pos (by omega), cnt_4, cr_some, e, if_pos rfl, cnt_5 hk, cr_some, if_pos rfl, cnt_6 hk, cr_some, if_pos rfl, cnt_7 hk, cr_some, if_pos rfl]
    exact io_123 hk _ fuel0 1 rfl (by omega) (by show _ < 1000000; omega)
  | n + 1, fuel + 1, j, h1, h2 => by
    have k1 := hk.1
    unfold okN at k1
    have ih := io_12 hk n fuel (j + 1) (by omega) (by omega)
    rw [fL_areInOrder_b12, cnt_2, cr_some, gd_pos (by omega), if_neg (by omega), qv_ofO (w := 14) (f := 15) k1.2.1.2 (by omega) (by omega) (by omega), cl_some, qv_ofO (w := 11) (f := 12) k1.2.1.2 (by omega) (by omega) (by omega), cl_some, qv_ofO (w := 12) (f := 13) k1.2.1.2 (by omega) (by omega) (by omega), cl_some, qv_ofO (w := 13) (f := 14) k1.2.1.2 (by omega) (by omega) (by omega), cl_some]
    exact ih
theorem io_ok {T : Int} {c : cR} (hk : Ok T (c.1 0)) : fL_areInOrder c = some (1, c) := by
  have k1 := hk.1
  unfold okN at k1
  unfold fL_areInOrder
  exact io_12 hk ((c.1 0).1 0 5 0).toNat fuel0 0 (by omega) (by show _ < 1000000; omega)

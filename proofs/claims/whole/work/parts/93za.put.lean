/-! ===== put in step ===== -/
theorem byte_rng (x : Int) (k : Nat) : 0 ≤ byteX x k ∧ byteX x k ≤ 255 := by unfold byteX; omega
theorem pS_p (p : Int → Int → Int) (t a v : Int) : pS p t a v t a = v := if_pos ⟨rfl, rfl⟩
theorem pS_n (p : Int → Int → Int) {t a v t' a' : Int} (h : ¬ (t' = t ∧ a' = a)) : pS p t a v t' a' = p t' a' := if_neg h
theorem ec_putW {x L : Int} (hx : wR64 x) {n : Nat} (hn : n ≤ 8) (hL : 0 ≤ L ∧ L + n ≤ 80) : ∀ (k fuel i : Nat) (p : Int → Int → Int), i + k = n → k < fuel → p 0 1 = L →
    ∃ p', fX4_append_b79 fuel x n i p = some (L + n, p') ∧ p' 0 1 = L + n ∧ (∀ j : Nat, i ≤ j → j < n → p' 1 (L + j) = byteX x (n - 1 - j)) ∧ ∀ j : Int, ¬ (L + i ≤ j ∧ j < L + n) → p' 1 j = p 1 j
  | k, 0, _, _, _, h, _ => by omega
  | 0, fuel + 1, i, p, h1, _, h3 => by
    unfold fX4_append_b79
    refine ⟨pS p 0 1 (L + n), po_eq (po_gd (by omega) (po_ift (by omega) (po_bnd ?_))), ?_, fun j h4 h5 => by omega, fun j _ => ?_⟩
    · rw [h3]
      refine po_some ?_
      rw [pS_p]
    · exact pS_p _ _ _ _
    · exact pS_n p (by omega)
  | k + 1, fuel + 1, i, p, h1, h2, h3 => by
    have e1 := byte_c hx (i := n - 1 - i) (by omega)
    have e2 : (n : Int) - 1 - i = ((n - 1 - i : Nat) : Int) := by omega
    have hb := byte_rng x (n - 1 - i)
    obtain ⟨p', q1, q2, q3, q4⟩ := ec_putW hx hn hL k fuel (i + 1) (pS p 1 (L + i) (byteX x (n - 1 - i))) (by omega) (by omega) ((pS_n p (by omega)).trans h3)
    refine ⟨p', ?_, q2, fun j h4 h5 => ?_, fun j h4 => ?_⟩
    · unfold fX4_append_b79
      rw [e2, e1, i2c_id hb, h3, gd_pos (by omega), if_neg (by omega), gd_pos (by omega), bnd_eq]
      exact q1
    · by_cases g : j = i
      · subst g
        rw [q4 _ (by omega)]
        exact pS_p _ _ _ _
      · exact q3 j (by omega) h5
    · rw [q4 j (by omega)]
      exact pS_n p (by omega)
theorem em_putW {x L : Int} (hx : wR64 x) {n : Nat} (hn : n ≤ 8) (hL : 0 ≤ L ∧ L + n ≤ 80) : ∀ (k fuel i : Nat) (m : mR), i + k = n → k < fuel → m.1 6 10 = L + i →
    ∃ m', fX7_put_b103 fuel x ((k : Int) - 1) m = some (L + n, m') ∧ m'.1 6 10 = L + n ∧ (∀ j : Nat, i ≤ j → j < n → m'.1 5 (L + j) = byteX x (n - 1 - j)) ∧ (∀ j : Int, ¬ (L + i ≤ j ∧ j < L + n) → m'.1 5 j = m.1 5 j) ∧ (∀ t : Int, ¬ t = 5 → ¬ t = 6 → m'.1 t = m.1 t) ∧ m'.2 = m.2 ∧ ∀ j : Int, ¬ j = 10 → m'.1 6 j = m.1 6 j
  | k, 0, _, _, _, h, _ => by omega
  | 0, fuel + 1, i, m, h1, _, h3 => by
    unfold fX7_put_b103
    refine ⟨m, po_eq (po_gd (by omega) (po_ift (by omega) (po_some ?_))), by omega, fun j h4 h5 => by omega, fun j _ => rfl, fun t _ _ => rfl, rfl, fun j _ => rfl⟩
    rw [h3, show L + (i : Int) = L + n by omega]
  | k + 1, fuel + 1, i, m, h1, h2, h3 => by
    have e1 := (byte_m hx (k := k) (by omega)).1
    have e2 : ((k + 1 : Nat) : Int) - 1 = k := by omega
    have hb := byte_rng x k
    obtain ⟨m', q1, q2, q3, q4, q5, q6, q7⟩ := em_putW hx hn hL k fuel (i + 1) (mS (mS m 5 (L + i) (byteX x k)) 6 10 (L + i + 1)) (by omega) (by omega) (by rw [mS_p]; omega)
    refine ⟨m', ?_, q2, fun j h4 h5 => ?_, fun j h4 => ?_, fun t a b => ?_, q6, fun j h4 => ?_⟩
    · unfold fX7_put_b103
      rw [e2, e1, h3, gd_pos (by omega), if_neg (by omega), gd_pos (by omega), bnd_eq, mS_n m (by omega), h3, bnd_eq]
      exact q1
    · by_cases g : j = i
      · subst g
        rw [q4 _ (by omega), mS_n _ (by omega), mS_p, show n - 1 - j = k by omega]
      · exact q3 j (by omega) h5
    · rw [q4 j (by omega), mS_n _ (by omega), mS_n _ (by omega)]
    · rw [q5 t a b, mS_t _ _ _ b, mS_t _ _ _ a]
    · rw [q7 j h4, mS_n _ (by omega), mS_n _ (by omega)]
def putR (x : Int) (p : Int → Int → Int) (m : mR) (a : Option (Int × (Int → Int → Int))) (b : Option (Int × mR)) : Prop :=
  ∃ r p' m', a = some (r, p') ∧ b = some (r, m') ∧ wR r ∧ (p' 0 1 = m'.1 6 10 ∧ (0 ≤ m'.1 6 10 ∧ m'.1 6 10 ≤ 80) ∧ ∀ j : Int, 0 ≤ j ∧ j < m'.1 6 10 → p' 1 j = m'.1 5 j ∧ 33 ≤ m'.1 5 j ∧ m'.1 5 j ≤ 126) ∧ (∀ t : Int, ¬ t = 5 → ¬ t = 6 → m'.1 t = m.1 t) ∧ m'.2 = m.2 ∧ ∀ k : Int, ¬ k = 10 → m'.1 6 k = m.1 6 k
theorem ls_putE {x : Int} {p : Int → Int → Int} {m : mR} (h : p 0 1 = m.1 6 10 ∧ (0 ≤ m.1 6 10 ∧ m.1 6 10 ≤ 80) ∧ ∀ j : Int, 0 ≤ j ∧ j < m.1 6 10 → p 1 j = m.1 5 j ∧ 33 ≤ m.1 5 j ∧ m.1 5 j ≤ 126) (r : Int) (hr : wR r) {a : Option (Int × (Int → Int → Int))} {b : Option (Int × mR)} (ha : a = some (r, p)) (hb : b = some (r, m)) : putR x p m a b :=
  ⟨r, p, m, ha, hb, hr, h, fun _ _ _ => rfl, rfl, fun _ _ => rfl⟩
theorem ls_putN {x : Int} {p : Int → Int → Int} {m : mR} (hx : wR64 x) (h : p 0 1 = m.1 6 10 ∧ (0 ≤ m.1 6 10 ∧ m.1 6 10 ≤ 80) ∧ ∀ j : Int, 0 ≤ j ∧ j < m.1 6 10 → p 1 j = m.1 5 j ∧ 33 ≤ m.1 5 j ∧ m.1 5 j ≤ 126) {n : Nat} (hn : 1 ≤ n ∧ n ≤ 8) (hb : ∀ j : Nat, j < n → 33 ≤ byteX x j ∧ byteX x j ≤ 126) : putR x p m (fX4_append_b55 x n p) (fX7_put_b84 x n m) := by
  unfold fX4_append_b55 fX7_put_b84
  obtain ⟨h1, h2, h3⟩ := h
  rw [h1]
  by_cases g : m.1 6 10 + n ≤ 80
  · obtain ⟨p', q1, q2, q3, q4⟩ := ec_putW hx (n := n) (by omega) (L := m.1 6 10) (by omega) n fuel0 0 p (by omega) (by show _ < 1000000; omega) h1
    obtain ⟨m', r1, r2, r3, r4, r5, r6, r7⟩ := em_putW hx (n := n) (by omega) (L := m.1 6 10) (by omega) n fuel0 0 m (by omega) (by show _ < 1000000; omega) (by omega)
    refine ⟨_, p', m', po_eq (po_gd (by omega) (po_iff (by omega) (po_gd (by omega) (po_ift g (po_of q1 rfl))))), po_eq (po_gd (by omega) (po_ift g (po_of r1 rfl))), by omega, ⟨q2.trans r2.symm, by omega, fun j hj => ?_⟩, r5, r6, r7⟩
    by_cases gj : j < m.1 6 10
    · rw [q4 j (by omega), r4 j (by omega)]
      exact h3 j ⟨hj.1, gj⟩
    · obtain ⟨i, hi⟩ := Int.eq_ofNat_of_zero_le (show 0 ≤ j - m.1 6 10 by omega)
      have e : j = m.1 6 10 + (i : Int) := by omega
      rw [e, q3 i (by omega) (by omega), r3 i (by omega) (by omega)]
      exact ⟨rfl, hb _ (by omega)⟩
  · exact ls_putE ⟨h1, h2, h3⟩ (-4) (by decide) (po_eq (po_gd (by omega) (po_iff (by omega) (po_gd (by omega) (po_iff g (po_some rfl)))))) (po_eq (po_gd (by omega) (po_iff g (po_some rfl))))
theorem ls_putL {x : Int} {p : Int → Int → Int} {m : mR} (hx : wR64 x) (h : p 0 1 = m.1 6 10 ∧ (0 ≤ m.1 6 10 ∧ m.1 6 10 ≤ 80) ∧ ∀ j : Int, 0 ≤ j ∧ j < m.1 6 10 → p 1 j = m.1 5 j ∧ 33 ≤ m.1 5 j ∧ m.1 5 j ≤ 126) : ∀ (k fC fM n : Nat), n + k = 8 → k < fC → k < fM → (∀ j : Nat, j < n → 33 ≤ byteX x j ∧ byteX x j ≤ 126) → putR x p m (fX4_append_b5 fC x n (restX x n) p) (fX7_put_b2 fM x n m)
  | k, 0, _, _, _, h, _, _ => by omega
  | k, _ + 1, 0, _, _, _, h, _ => by omega
  | 0, fC + 1, fM + 1, n, h1, _, _, hb => by
    have e : fX7_put_b60 x n m = fX7_put_b84 x n m := by
      unfold fX7_put_b60
      rw [gd_pos (by omega), if_neg (by omega), gd_pos (by omega), if_pos (by omega)]
    unfold fX4_append_b5 fX7_put_b2
    rw [gd_pos (by omega), if_pos (by omega), gd_pos (by omega), if_pos (by omega), e]
    exact ls_putN hx h (by omega) hb
  | k + 1, fC + 1, fM + 1, n, h1, h2, h3, hb => by
    obtain ⟨e1, e2⟩ := byte_m hx (k := n) (by omega)
    have e3 := rest_b (x := x) (k := n) (by omega)
    have e4 := rest_s (x := x) (k := n) (by omega)
    have e5 := rest_0 hx (k := n) (by omega)
    have hr := byte_rng x n
    have ew : wR64 (x / p256 n) := by
      have : n = 0 ∨ n = 1 ∨ n = 2 ∨ n = 3 ∨ n = 4 ∨ n = 5 ∨ n = 6 ∨ n = 7 := by omega
      rcases this with rfl | rfl | rfl | rfl | rfl | rfl | rfl | rfl <;> simp only [p256] <;> omega
    have er : wR64 (restX x n) := by
      have : n = 0 ∨ n = 1 ∨ n = 2 ∨ n = 3 ∨ n = 4 ∨ n = 5 ∨ n = 6 ∨ n = 7 := by omega
      rcases this with rfl | rfl | rfl | rfl | rfl | rfl | rfl | rfl <;> simp only [p256, restX] <;> (try simp) <;> omega
    unfold fX4_append_b5 fX7_put_b2
    rw [e1, e3, e4, gd_pos (by omega), if_neg (by omega), gd_pos er]
    by_cases g0 : restX x n = 0
    · have z1 := e5.mp g0
      have z2 : byteX x n = 0 := by
        rw [← e3, g0, land255]
        rfl
      rw [if_pos g0, gd_pos (by omega), if_neg (by omega), gd_pos (by omega), if_pos z2]
      unfold fX7_put_b60
      rw [e2, z1]
      by_cases gn : n = 0
      · subst gn
        refine ls_putE h (-2) (by decide) ?_ ?_
        · unfold fX4_append_b55
          rw [gd_pos (by omega), if_pos (by omega)]
        · rw [gd_pos (by omega), if_pos (by omega)]
      · rw [gd_pos (by omega), if_neg (by omega), gd_pos (by omega), if_neg (by omega), gd_pos (by decide), if_pos rfl]
        exact ls_putN hx h (by omega) hb
    · rw [if_neg g0, gd_pos (by omega), if_neg (by omega), gd_pos (by omega)]
      by_cases gb : byteX x n = 0
      · rw [if_pos gb, gb]
        refine ls_putE h (-2) (by decide) ?_ ?_
        · rw [ev_btF (by decide), cr_some, gd_pos (by decide), if_pos rfl]
        · unfold fX7_put_b60
          rw [e2]
          by_cases gn : n = 0
          · rw [gd_pos (by omega), if_pos (by omega)]
          · rw [gd_pos (by omega), if_neg (by omega), gd_pos (by omega), if_neg (by omega), gd_pos ew, if_neg (fun q => g0 (e5.mpr q))]
      · rw [if_neg gb, gd_pos (by omega)]
        by_cases g : 33 ≤ byteX x n ∧ byteX x n ≤ 126
        · rw [ev_btT (by omega), ev_inT (by omega), cr_some, cr_some, gd_pos (by decide), gd_pos (by decide), if_neg (by decide), if_neg (by decide)]
          exact ls_putL hx h k fC fM (n + 1) (by omega) (by omega) (by omega) (fun j hj => by
            by_cases q : j = n
            · rw [q]; exact g
            · exact hb j (by omega))
        · rw [ev_btF (by omega), ev_inF (by omega), cr_some, cr_some, gd_pos (by decide), gd_pos (by decide), if_pos rfl, if_pos rfl]
          exact ls_putE h (-2) (by decide) rfl rfl
theorem ls_put {c : cR} {m : mR} (h : padR c m) {x : Int} (hx : wR64 x) : ∃ r c' m', fX6_put x c = some (r, c') ∧ fX7_put x m = some (r, m') ∧ wR r ∧ c'.1 = c.1 ∧ c'.2.1 = c.2.1 ∧ padR c' m' ∧ (∀ t : Int, ¬ t = 5 → ¬ t = 6 → m'.1 t = m.1 t) ∧ m'.2 = m.2 ∧ ∀ k : Int, ¬ k = 10 → m'.1 6 k = m.1 6 k := by
  obtain ⟨r, p', m', h1, h2, h3, h4, h5, h6, h7⟩ := ls_putL hx h 8 fuel0 fuel0 0 (by decide) (by decide) (by decide) (fun j hj => by omega)
  refine ⟨r, cP c p', m', po_eq ?_, h2, h3, rfl, rfl, h4, h5, h6, h7⟩
  unfold fX6_put fX4_append
  exact po_cle h1 (po_bnd (po_some rfl))

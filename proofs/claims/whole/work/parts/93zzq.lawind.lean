/-! ===== over every script ===== -/
theorem law_ind (hOw : ∀ {T : Int} {c : cR} {m : mR}, Sim T (c.1 0) m → 0 ≤ T ∧ T ≤ 100000 → ∀ {a : Int}, wR a → ∃ r : Int, fX6_owedBits a c = some r ∧ fX7_owedBits a m = some r) (hA : ∀ v : Int, wR v → wR (andI v 31)) (hp : ∀ v w : Int, wR64 (lorI (lshlI v 32) (landI w 4294967295))) {ln : Nat} {xs : Int → Int} (hln : ln ≤ 3584) (hx : ∀ j, wR (xs j)) : ∀ (n fuel : Nat) (x k C To : Int) (c : cR) (m : mR), n < fuel → 0 ≤ x → (ln : Int) ≤ x + 7 * n + 6 → x ≤ ln → 0 ≤ k → k + n ≤ 512 → 0 ≤ C → 0 ≤ To → C + To ≤ k → Inv (100 * k) C To c m → ∃ G', fL_law_b18 ln xs fuel x (c, m) = some (1, G') ∧ phi G' ≤ 180224
  | n, 0, _, _, _, _, _, _, h, _, _, _, _, _, _, _, _, _ => by omega
  | n, fuel + 1, x, k, C, To, c, m, hf, hx0, hxn, hxl, hk, hkn, hC, hTo, hCT, I => by
    have hw := hA _ (hx x)
    by_cases g : (ln : Int) - 7 < x
    · refine ⟨(c, m), ?_, phi_le (fun k hk => I.room hk)⟩
      rw [fL_law_b18, gd_pos (by omega), if_pos g]
    · have hn : 1 ≤ n := by omega
      have next : ∀ (C' To' : Int) (c' : cR) (m' : mR), 0 ≤ C' → 0 ≤ To' → C' + To' ≤ C + To + 1 → Inv (100 * k + 100) C' To' c' m' → ∃ G', fL_law_b18 ln xs fuel (x + 7) (c', m') = some (1, G') ∧ phi G' ≤ 180224 := fun C' To' c' m' h1 h2 h3 h4 =>
        law_ind hOw hA hp hln hx (n - 1) fuel (x + 7) (k + 1) C' To' c' m' (by omega) (by omega) (by omega) (by omega) (by omega) (by omega) h1 h2 (by omega) (by rw [show 100 * (k + 1) = 100 * k + 100 by omega]; exact h4)
      rw [fL_law_b18, gd_pos (by omega), if_neg g, gd_pos (by omega), gd_pos hw]
      generalize andI (xs x) 31 = q at hw
      by_cases q0 : q = 0
      · rw [if_pos q0]
        obtain ⟨r, c', m', e1, e2, -, C', To', h1, h2⟩ := iv_set I (hx _) (hx _)
        repeat rw [gd_pos (by omega)]
        rw [e1, cl_some, bnd_eq]
        repeat rw [gd_pos (by omega)]
        rw [e2, cl_some, bnd_eq, gd_pos rfl]
        exact next C' To' c' m' (by omega) (by omega) (by omega) h2
      rw [if_neg q0]
      by_cases q1 : q = 1
      · rw [if_pos q1]
        obtain ⟨r, c', m', e1, e2, -, C', To', h1, h2⟩ := iv_holiday I (hx _) (hx _)
        repeat rw [gd_pos (by omega)]
        rw [e1, cl_some, bnd_eq]
        repeat rw [gd_pos (by omega)]
        rw [e2, cl_some, bnd_eq, gd_pos rfl]
        exact next C' To' c' m' (by omega) (by omega) (by omega) h2
      rw [if_neg q1]
      by_cases q2 : q = 2
      · rw [if_pos q2]
        obtain ⟨r, c', m', e1, e2, -, C', To', h1, h2⟩ := iv_account (by omega) I (hx _) (hx _)
        repeat rw [gd_pos (by omega)]
        rw [e1, cl_some, bnd_eq]
        repeat rw [gd_pos (by omega)]
        rw [e2, cl_some, bnd_eq, gd_pos rfl]
        exact next C' To' c' m' (by omega) (by omega) (by omega) h2
      rw [if_neg q2]
      by_cases q3 : q = 3
      · rw [if_pos q3]
        obtain ⟨r, c', m', e1, e2, -, C', To', h1, h2⟩ := iv_feed I (hx _) (hx _)
        repeat rw [gd_pos (by omega)]
        rw [e1, cl_some, bnd_eq]
        repeat rw [gd_pos (by omega)]
        rw [e2, cl_some, bnd_eq, gd_pos rfl]
        exact next C' To' c' m' (by omega) (by omega) (by omega) h2
      rw [if_neg q3]
      by_cases q4 : q = 4
      · rw [if_pos q4]
        obtain ⟨r, c', m', e1, e2, -, C', To', h1, h2⟩ := iv_deposit (by omega) I (hx _) (hx _)
        repeat rw [gd_pos (by omega)]
        rw [e1, cl_some, bnd_eq]
        repeat rw [gd_pos (by omega)]
        rw [e2, cl_some, bnd_eq, gd_pos rfl]
        exact next C' To' c' m' (by omega) (by omega) (by omega) h2
      rw [if_neg q4]
      by_cases q5 : q = 5
      · rw [if_pos q5]
        obtain ⟨r, c', m', e1, e2, -, C', To', h1, h2⟩ := iv_order I (hx _) (hx _) (hx _) (hx _) (hx _) (hx _)
        repeat rw [gd_pos (by omega)]
        rw [e1, cl_some, bnd_eq]
        repeat rw [gd_pos (by omega)]
        rw [e2, cl_some, bnd_eq, gd_pos rfl]
        exact next C' To' c' m' (by omega) (by omega) (by omega) h2
      rw [if_neg q5]
      by_cases q6 : q = 6
      · rw [if_pos q6]
        obtain ⟨r, c', m', e1, e2, -, C', To', h1, h2⟩ := iv_change I (hx _) (hx _) (hx _)
        repeat rw [gd_pos (by omega)]
        rw [e1, cl_some, bnd_eq]
        repeat rw [gd_pos (by omega)]
        rw [e2, cl_some, bnd_eq, gd_pos rfl]
        exact next C' To' c' m' (by omega) (by omega) (by omega) h2
      rw [if_neg q6]
      by_cases q7 : q = 7
      · rw [if_pos q7]
        obtain ⟨r, c', m', e1, e2, -, C', To', h1, h2⟩ := iv_stop I (hx _)
        repeat rw [gd_pos (by omega)]
        rw [e1, cl_some, bnd_eq]
        repeat rw [gd_pos (by omega)]
        rw [e2, cl_some, bnd_eq, gd_pos rfl]
        exact next C' To' c' m' (by omega) (by omega) (by omega) h2
      rw [if_neg q7]
      by_cases q8 : q = 8
      · rw [if_pos q8]
        obtain ⟨r, c', m', e1, e2, -, C', To', h1, h2⟩ := iv_goOn I (hx _)
        repeat rw [gd_pos (by omega)]
        rw [e1, cl_some, bnd_eq]
        repeat rw [gd_pos (by omega)]
        rw [e2, cl_some, bnd_eq, gd_pos rfl]
        exact next C' To' c' m' (by omega) (by omega) (by omega) h2
      rw [if_neg q8]
      by_cases q9 : q = 9
      · rw [if_pos q9]
        obtain ⟨r, c', m', e1, e2, -, C', To', h1, h2⟩ := iv_giveUp I (hx _)
        repeat rw [gd_pos (by omega)]
        rw [e1, cl_some, bnd_eq]
        repeat rw [gd_pos (by omega)]
        rw [e2, cl_some, bnd_eq, gd_pos rfl]
        exact next C' To' c' m' (by omega) (by omega) (by omega) h2
      rw [if_neg q9]
      by_cases q10 : q = 10
      · rw [if_pos q10]
        obtain ⟨r, c', m', e1, e2, -, C', To', h1, h2⟩ := iv_days (by omega) (by omega) I (hx _)
        repeat rw [gd_pos (by omega)]
        rw [e1, cl_some, bnd_eq]
        repeat rw [gd_pos (by omega)]
        rw [e2, cl_some, bnd_eq, gd_pos rfl]
        exact next C' To' c' m' (by omega) (by omega) (by omega) h2
      rw [if_neg q10]
      by_cases q11 : q = 11
      · rw [if_pos q11]
        obtain ⟨r, e1, e2, -⟩ := ask_ofDay I.1 (hx _) (hx _)
        repeat rw [gd_pos (by omega)]
        rw [e1, cr_some]
        repeat rw [gd_pos (by omega)]
        rw [e2, cr_some, gd_pos rfl]
        exact next C To c m (by omega) (by omega) (by omega) (I.mono (by omega) (Int.le_refl _) (Int.le_refl _))
      rw [if_neg q11]
      by_cases q12 : q = 12
      · rw [if_pos q12]
        obtain ⟨r, e1, e2, -⟩ := ask_money (by omega) I.1 (hx _) (hx _)
        repeat rw [gd_pos (by omega)]
        rw [e1, cr_some]
        repeat rw [gd_pos (by omega)]
        rw [e2, cr_some, gd_pos rfl]
        exact next C To c m (by omega) (by omega) (by omega) (I.mono (by omega) (Int.le_refl _) (Int.le_refl _))
      rw [if_neg q12]
      by_cases q13 : q = 13
      · rw [if_pos q13]
        obtain ⟨r, e1, e2⟩ := hOw I.1 (by omega) (hx _)
        repeat rw [gd_pos (by omega)]
        rw [e1, cr_some]
        repeat rw [gd_pos (by omega)]
        rw [e2, cr_some, gd_pos rfl]
        exact next C To c m (by omega) (by omega) (by omega) (I.mono (by omega) (Int.le_refl _) (Int.le_refl _))
      rw [if_neg q13]
      by_cases q14 : q = 14
      · rw [if_pos q14]
        obtain ⟨r, c', e1, e2, -, h1, h2, h3⟩ := ask_ofOrder I.1 (hx _) (hx _)
        repeat rw [gd_pos (by omega)]
        rw [e1, cl_some, bnd_eq]
        repeat rw [gd_pos (by omega)]
        rw [e2, cr_some, gd_pos rfl]
        exact next C To c' m (by omega) (by omega) (by omega) ((I.aims h1 h2 h3).mono (by omega) (Int.le_refl _) (Int.le_refl _))
      rw [if_neg q14]
      by_cases q15 : q = 15
      · rw [if_pos q15]
        obtain ⟨r, e1, e2, -⟩ := ask_ofPayment I.1 (hx _) (hx _)
        repeat rw [gd_pos (by omega)]
        rw [e1, cr_some]
        repeat rw [gd_pos (by omega)]
        rw [e2, cr_some, gd_pos rfl]
        exact next C To c m (by omega) (by omega) (by omega) (I.mono (by omega) (Int.le_refl _) (Int.le_refl _))
      rw [if_neg q15]
      by_cases q16 : q = 16
      · rw [if_pos q16]
        obtain ⟨r, e1, e2, -⟩ := ask_count I.1 ⟨I.2.2.1.1, by have := I.2.2.1.2.1; omega⟩ ⟨I.2.2.2.2.2.1, by have := I.2.2.2.2.2.2.1; omega⟩ (hx _)
        repeat rw [gd_pos (by omega)]
        rw [e1, cr_some]
        repeat rw [gd_pos (by omega)]
        rw [e2, cr_some, gd_pos rfl]
        exact next C To c m (by omega) (by omega) (by omega) (I.mono (by omega) (Int.le_refl _) (Int.le_refl _))
      rw [if_neg q16]
      by_cases q17 : q = 17
      · rw [if_pos q17]
        obtain ⟨r, c', e1, e2, -, h1, h2, h3⟩ := ask_dateOf I.1 (hx _) (hx _)
        repeat rw [gd_pos (by omega)]
        rw [e1, cl_some, bnd_eq]
        repeat rw [gd_pos (by omega)]
        rw [e2, cr_some, gd_pos rfl]
        exact next C To c' m (by omega) (by omega) (by omega) ((I.aims h1 h2 h3).mono (by omega) (Int.le_refl _) (Int.le_refl _))
      rw [if_neg q17]
      by_cases q18 : q = 18
      · rw [if_pos q18]
        obtain ⟨r, e1, e2, -⟩ := ask_shift I.1 (hx _) (hx _)
        repeat rw [gd_pos (by omega)]
        rw [e1, cr_some]
        repeat rw [gd_pos (by omega)]
        rw [e2, cr_some, gd_pos rfl]
        exact next C To c m (by omega) (by omega) (by omega) (I.mono (by omega) (Int.le_refl _) (Int.le_refl _))
      rw [if_neg q18]
      by_cases q19 : q = 19
      · rw [if_pos q19]
        obtain ⟨r, c', m', e1, e2, -, h2⟩ := iv_balanceIn (by omega) (by omega) I (hx _) (hx _)
        repeat rw [gd_pos (by omega)]
        rw [e1, cl_some, bnd_eq]
        repeat rw [gd_pos (by omega)]
        rw [e2, cl_some, bnd_eq, gd_pos rfl]
        exact next C To c' m' (by omega) (by omega) (by omega) (h2.mono (by omega) (Int.le_refl _) (Int.le_refl _))
      rw [if_neg q19]
      by_cases q20 : q = 20
      · rw [if_pos q20]
        obtain ⟨r, c', m', e1, e2, -, h2⟩ := iv_firstFailure (by omega) (by omega) I (hx _)
        repeat rw [gd_pos (by omega)]
        rw [e1, cl_some, bnd_eq]
        repeat rw [gd_pos (by omega)]
        rw [e2, cl_some, bnd_eq, gd_pos rfl]
        exact next C To c' m' (by omega) (by omega) (by omega) (h2.mono (by omega) (Int.le_refl _) (Int.le_refl _))
      rw [if_neg q20]
      by_cases q21 : q = 21
      · rw [if_pos q21]
        obtain ⟨r, c', m', e1, e2, -, h2⟩ := iv_leastDeposit (by omega) (by omega) I (hx _) (hx _)
        repeat rw [gd_pos (by omega)]
        rw [e1, cl_some, bnd_eq]
        repeat rw [gd_pos (by omega)]
        rw [e2, cl_some, bnd_eq, gd_pos rfl]
        exact next C To c' m' (by omega) (by omega) (by omega) (h2.mono (by omega) (Int.le_refl _) (Int.le_refl _))
      rw [if_neg q21]
      by_cases q22 : q = 22
      · rw [if_pos q22]
        obtain ⟨r, c', m', e1, e2, -, h2⟩ := iv_ahead (by omega) (by omega) I (hx _) (hx _) (hx _)
        repeat rw [gd_pos (by omega)]
        rw [e1, cl_some, bnd_eq]
        repeat rw [gd_pos (by omega)]
        rw [e2, cl_some, bnd_eq, gd_pos rfl]
        exact next C To c' m' (by omega) (by omega) (by omega) (h2.mono (by omega) (Int.le_refl _) (Int.le_refl _))
      rw [if_neg q22]
      by_cases q23 : q = 23
      · rw [if_pos q23]
        obtain ⟨r, c', m', e1, e2, -, C', To', h1, h2⟩ := iv_put I (x := lorI (lshlI (xs (x + 1)) 32) (landI (xs (x + 2)) 4294967295)) (hp _ _)
        repeat rw [gd_pos (by omega)]
        rw [gd_pos (hx _)]
        repeat rw [gd_pos (by omega)]
        rw [gd_pos (hx _)]
        rw [e1, cl_some, bnd_eq]
        repeat rw [gd_pos (by omega)]
        rw [gd_pos (hx _)]
        repeat rw [gd_pos (by omega)]
        rw [gd_pos (hx _)]
        rw [e2, cl_some, bnd_eq, gd_pos rfl]
        exact next C' To' c' m' (by omega) (by omega) (by omega) h2
      rw [if_neg q23]
      by_cases q24 : q = 24
      · rw [if_pos q24]
        obtain ⟨r, c', m', e1, e2, -, C', To', h1, h2⟩ := iv_wipe I
        repeat rw [gd_pos (by omega)]
        rw [e1, cl_some, bnd_eq]
        repeat rw [gd_pos (by omega)]
        rw [e2, cl_some, bnd_eq, gd_pos rfl]
        exact next C' To' c' m' (by omega) (by omega) (by omega) h2
      rw [if_neg q24]
      by_cases q25 : q = 25
      · rw [if_pos q25]
        obtain ⟨r, c', m', e1, e2, -, C', To', h1, h2⟩ := iv_fault I
        repeat rw [gd_pos (by omega)]
        rw [e1, cl_some, bnd_eq]
        repeat rw [gd_pos (by omega)]
        rw [e2, cl_some, bnd_eq, gd_pos rfl]
        exact next C' To' c' m' (by omega) (by omega) (by omega) h2
      rw [if_neg q25]
      by_cases q26 : q = 26
      · rw [if_pos q26]
        obtain ⟨r, c', m', e1, e2, -, C', To', h1, h2⟩ := iv_carryOut (by omega) (by omega) I
        repeat rw [gd_pos (by omega)]
        rw [e1, cl_some, bnd_eq]
        repeat rw [gd_pos (by omega)]
        rw [e2, cl_some, bnd_eq, gd_pos rfl]
        exact next C' To' c' m' (by omega) (by omega) (by omega) h2
      rw [if_neg q26]
      by_cases q27 : q = 27
      · rw [if_pos q27]
        obtain ⟨r, c', m', e1, e2, -, C', To', h1, h2⟩ := iv_undo I
        repeat rw [gd_pos (by omega)]
        rw [e1, cl_some, bnd_eq]
        repeat rw [gd_pos (by omega)]
        rw [e2, cl_some, bnd_eq, gd_pos rfl]
        exact next C' To' c' m' (by omega) (by omega) (by omega) h2
      rw [if_neg q27]
      by_cases q28 : q = 28
      · rw [if_pos q28]
        obtain ⟨r, c', m', e1, e2, -, C', To', h1, h2⟩ := iv_save I (hx _)
        repeat rw [gd_pos (by omega)]
        rw [e1, cl_some, bnd_eq]
        repeat rw [gd_pos (by omega)]
        rw [e2, cl_some, bnd_eq, gd_pos rfl]
        exact next C' To' c' m' (by omega) (by omega) (by omega) h2
      rw [if_neg q28]
      by_cases q29 : q = 29
      · rw [if_pos q29]
        obtain ⟨r, c', m', e1, e2, -, C', To', h1, h2⟩ := iv_restore I (hx _)
        repeat rw [gd_pos (by omega)]
        rw [e1, cl_some, bnd_eq]
        repeat rw [gd_pos (by omega)]
        rw [e2, cl_some, bnd_eq, gd_pos rfl]
        exact next C' To' c' m' (by omega) (by omega) (by omega) h2
      rw [if_neg q29]
      exact next C To c m (by omega) (by omega) (by omega) (I.mono (by omega) (Int.le_refl _) (Int.le_refl _))

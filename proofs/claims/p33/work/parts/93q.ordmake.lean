/-! ===== a new order ===== -/
theorem ec_begin {H : hR} {o x1 x2 x3 x4 x5 x6 : Int} (h1 : 0 ≤ x1 ∧ x1 ≤ 2147483647) (h3 : 0 ≤ x3 ∧ x3 ≤ 2147483647) (h5 : 0 ≤ x5 ∧ x5 ≤ 2147483647) (h6 : wR x6) : po (fX3_begin o x1 x2 x3 x4 x5 x6 H) (fun p => (∀ t x y : Int, ¬ (t = 3 ∧ x = o) → p.2.1 t x y = H.1 t x y) ∧ p.2.2 = H.2 ∧ p.2.1 3 o 0 = x1 / 9 ∧ p.2.1 3 o 1 = (if x1 % 9 = 8 then -6 else x1 % 9) ∧ p.2.1 3 o 2 = x2 ∧ p.2.1 3 o 3 = x3 / 10000 ∧ p.2.1 3 o 4 = x3 / 100 % 100 ∧ p.2.1 3 o 5 = x3 % 100 ∧ p.2.1 3 o 6 = x4 ∧ p.2.1 3 o 7 = x5 / 10 ∧ p.2.1 3 o 8 = x5 % 10 ∧ p.2.1 3 o 9 = (if x6 = 0 then 1 else 0) ∧ p.2.1 3 o 10 = x6 ∧ ∀ f : Int, 11 ≤ f ∧ f ≤ 16 → p.2.1 3 o f = 0) := by
  have e1 : dvI x1 9 = x1 / 9 := dvI_pos h1.1
  have e2 : rmI x1 9 = x1 % 9 := rmI_pos h1.1
  have e3 : dvI x3 10000 = x3 / 10000 := dvI_pos h3.1
  have e4 : dvI x3 100 = x3 / 100 := dvI_pos h3.1
  have e5 : rmI (x3 / 100) 100 = x3 / 100 % 100 := rmI_pos (by omega)
  have e6 : rmI x3 100 = x3 % 100 := rmI_pos h3.1
  have e7 : dvI x5 10 = x5 / 10 := dvI_pos h5.1
  have e8 : rmI x5 10 = x5 % 10 := rmI_pos h5.1
  have fin : ∀ (g z : Int) (H' : hR), H' = hS (hS (hS (hS (hS (hS (hS (hS (hS (hS (hS (hS (hS (hS (hS (hS (hS H 3 o 0 (x1 / 9)) 3 o 1 g) 3 o 2 x2) 3 o 3 (x3 / 10000)) 3 o 4 (x3 / 100 % 100)) 3 o 5 (x3 % 100)) 3 o 6 x4) 3 o 7 (x5 / 10)) 3 o 8 (x5 % 10)) 3 o 9 z) 3 o 10 x6) 3 o 11 0) 3 o 12 0) 3 o 13 0) 3 o 14 0) 3 o 15 0) 3 o 16 0 → (∀ t x y : Int, ¬ (t = 3 ∧ x = o) → H'.1 t x y = H.1 t x y) ∧ H'.2 = H.2 ∧ H'.1 3 o 0 = x1 / 9 ∧ H'.1 3 o 1 = g ∧ H'.1 3 o 2 = x2 ∧ H'.1 3 o 3 = x3 / 10000 ∧ H'.1 3 o 4 = x3 / 100 % 100 ∧ H'.1 3 o 5 = x3 % 100 ∧ H'.1 3 o 6 = x4 ∧ H'.1 3 o 7 = x5 / 10 ∧ H'.1 3 o 8 = x5 % 10 ∧ H'.1 3 o 9 = z ∧ H'.1 3 o 10 = x6 ∧ (∀ f : Int, 11 ≤ f ∧ f ≤ 16 → H'.1 3 o f = 0) := by
    intro g z H' e
    subst e
    refine ⟨fun t x y q => ?_, rfl, by simp [hS_1], by simp [hS_1], by simp [hS_1], by simp [hS_1], by simp [hS_1], by simp [hS_1], by simp [hS_1], by simp [hS_1], by simp [hS_1], by simp [hS_1], by simp [hS_1], fun f q => ?_⟩
    · have q3 : ∀ k : Int, ¬ (t = 3 ∧ x = o ∧ y = k) := fun k w => q ⟨w.1, w.2.1⟩
      simp only [hS_1, q3, if_false]
    · have : f = 11 ∨ f = 12 ∨ f = 13 ∨ f = 14 ∨ f = 15 ∨ f = 16 := by omega
      rcases this with rfl | rfl | rfl | rfl | rfl | rfl <;> simp [hS_1]
  unfold fX3_begin fX3_begin_b27 fX3_begin_b98
  rw [e1, e2, e3, e4, e5, e6, e7, e8]
  by_cases g : x1 % 9 = 8
  · by_cases z : x6 = 0
    · (repeat (first | (with_reducible refine po_gd ?_ ?_; · omega) | (with_reducible refine po_bnd ?_) | (with_reducible refine po_ift ?_ ?_; · omega) | (with_reducible refine po_iff ?_ ?_; · omega) | (with_reducible refine po_crs ?_) | (with_reducible refine po_cls ?_)))
      refine po_some ?_
      obtain ⟨a, b, c0, c1, c2, c3, c4, c5, c6, c7, c8, c9, c10, d⟩ := fin (-6) 1 _ rfl
      exact ⟨a, b, c0, by rw [if_pos g]; exact c1, c2, c3, c4, c5, c6, c7, c8, by rw [if_pos z]; exact c9, c10, d⟩
    · (repeat (first | (with_reducible refine po_gd ?_ ?_; · omega) | (with_reducible refine po_bnd ?_) | (with_reducible refine po_ift ?_ ?_; · omega) | (with_reducible refine po_iff ?_ ?_; · omega) | (with_reducible refine po_crs ?_) | (with_reducible refine po_cls ?_)))
      refine po_some ?_
      obtain ⟨a, b, c0, c1, c2, c3, c4, c5, c6, c7, c8, c9, c10, d⟩ := fin (-6) 0 _ rfl
      exact ⟨a, b, c0, by rw [if_pos g]; exact c1, c2, c3, c4, c5, c6, c7, c8, by rw [if_neg z]; exact c9, c10, d⟩
  · by_cases z : x6 = 0
    · (repeat (first | (with_reducible refine po_gd ?_ ?_; · omega) | (with_reducible refine po_bnd ?_) | (with_reducible refine po_ift ?_ ?_; · omega) | (with_reducible refine po_iff ?_ ?_; · omega) | (with_reducible refine po_crs ?_) | (with_reducible refine po_cls ?_)))
      refine po_some ?_
      obtain ⟨a, b, c0, c1, c2, c3, c4, c5, c6, c7, c8, c9, c10, d⟩ := fin (x1 % 9) 1 _ rfl
      exact ⟨a, b, c0, by rw [if_neg g]; exact c1, c2, c3, c4, c5, c6, c7, c8, by rw [if_pos z]; exact c9, c10, d⟩
    · (repeat (first | (with_reducible refine po_gd ?_ ?_; · omega) | (with_reducible refine po_bnd ?_) | (with_reducible refine po_ift ?_ ?_; · omega) | (with_reducible refine po_iff ?_ ?_; · omega) | (with_reducible refine po_crs ?_) | (with_reducible refine po_cls ?_)))
      refine po_some ?_
      obtain ⟨a, b, c0, c1, c2, c3, c4, c5, c6, c7, c8, c9, c10, d⟩ := fin (x1 % 9) 0 _ rfl
      exact ⟨a, b, c0, by rw [if_neg g]; exact c1, c2, c3, c4, c5, c6, c7, c8, by rw [if_neg z]; exact c9, c10, d⟩
/-- the reference's fields of a new order -/
def newN (x1 x2 x3 x4 x5 x6 f : Int) : Int :=
  if f = 0 then x1 / 9 else if f = 1 then x1 % 9 else if f = 2 then x2 else if f = 3 then x3 / 10000 else if f = 4 then x3 / 100 % 100 else if f = 5 then x3 % 100 else if f = 6 then x4 else if f = 7 then x5 / 10 else if f = 8 then x5 % 10 else if f = 9 then x6 else if f = 15 then (if x6 = 0 then 1 else 0) else 0
theorem em_make16 {o x1 x2 x3 x4 x5 x6 : Int} (ho : 0 ≤ o ∧ o < 16) (h1 : 0 ≤ x1 ∧ x1 ≤ 2147483647) (h2 : wR x2) (h3 : 0 ≤ x3 ∧ x3 ≤ 2147483647) (h4 : wR x4) (h5 : 0 ≤ x5 ∧ x5 ≤ 2147483647) (h6 : wR x6) (Q : Int × mR → Prop) : ∀ (n fuel : Nat) (k : Int) (m : mR), k + n = 16 → 0 ≤ k → n < fuel → (∀ m' : mR, (∀ j : Int, m'.1 0 j = if 121 + 16 * o ≤ j ∧ j ≤ 136 + 16 * o then (if k ≤ j - (121 + 16 * o) ∨ j - (121 + 16 * o) ≤ 9 ∨ j - (121 + 16 * o) = 15 then newN x1 x2 x3 x4 x5 x6 (j - (121 + 16 * o)) else m.1 0 j) else m.1 0 j) → m'.1 1 = m.1 1 → m'.2 = m.2 → keptEq m m' → po (cl (fX7_leavesOut o m') fun _ m2 => some (o, m2)) Q) → po (fX7_makes_b20 fuel x1 x2 x3 x4 x5 x6 o k m) Q
  | n, 0, k, m, _, _, h, _ => by omega
  | 0, fuel + 1, k, m, hk, _, _, hQ => by
    have e1 : dvI x1 9 = x1 / 9 := dvI_pos h1.1
    have e2 : rmI x1 9 = x1 % 9 := rmI_pos h1.1
    have e3 : dvI x3 10000 = x3 / 10000 := dvI_pos h3.1
    have e4 : dvI x3 100 = x3 / 100 := dvI_pos h3.1
    have e5 : rmI (x3 / 100) 100 = x3 / 100 % 100 := rmI_pos (by omega)
    have e6 : rmI x3 100 = x3 % 100 := rmI_pos h3.1
    have e7 : dvI x5 10 = x5 / 10 := dvI_pos h5.1
    have e8 : rmI x5 10 = x5 % 10 := rmI_pos h5.1
    have fin : ∀ z : Int, z = (if x6 = 0 then 1 else 0) → po (cl (fX7_leavesOut o (mS (mS (mS (mS (mS (mS (mS (mS (mS (mS (mS m 0 (121 + 16 * o + 0) (x1 / 9)) 0 (121 + 16 * o + 1) (x1 % 9)) 0 (121 + 16 * o + 2) x2) 0 (121 + 16 * o + 3) (x3 / 10000)) 0 (121 + 16 * o + 4) (x3 / 100 % 100)) 0 (121 + 16 * o + 5) (x3 % 100)) 0 (121 + 16 * o + 6) x4) 0 (121 + 16 * o + 7) (x5 / 10)) 0 (121 + 16 * o + 8) (x5 % 10)) 0 (121 + 16 * o + 9) x6) 0 (121 + 16 * o + 15) z)) fun _ m2 => some (o, m2)) Q := by
      intro z hz
      refine hQ _ (fun j => ?_) ?_ ?_ ?_
      rotate_left
      · simp only [mS_t _ _ _ (show ¬ (1 : Int) = 0 by decide)]
      · rfl
      · exact (((((((((((keptEq.rf m).s (Or.inl rfl)).s (Or.inl rfl)).s (Or.inl rfl)).s (Or.inl rfl)).s (Or.inl rfl)).s (Or.inl rfl)).s (Or.inl rfl)).s (Or.inl rfl)).s (Or.inl rfl)).s (Or.inl rfl)).s (Or.inl rfl)
      by_cases c : 121 + 16 * o ≤ j ∧ j ≤ 136 + 16 * o
      · rw [if_pos c]
        obtain ⟨f, hf, rfl⟩ : ∃ f : Int, (0 ≤ f ∧ f ≤ 15) ∧ j = 121 + 16 * o + f := ⟨j - (121 + 16 * o), by omega, by omega⟩
        rw [show 121 + 16 * o + f - (121 + 16 * o) = f by omega]
        by_cases d : f ≤ 9 ∨ f = 15
        · rw [if_pos (Or.inr d)]
          have : f = 0 ∨ f = 1 ∨ f = 2 ∨ f = 3 ∨ f = 4 ∨ f = 5 ∨ f = 6 ∨ f = 7 ∨ f = 8 ∨ f = 9 ∨ f = 15 := by omega
          rcases this with rfl | rfl | rfl | rfl | rfl | rfl | rfl | rfl | rfl | rfl | rfl
          · iterate 10 rw [mS_n _ (by omega)]
            rw [mS_p]; rfl
          · iterate 9 rw [mS_n _ (by omega)]
            rw [mS_p]; rfl
          · iterate 8 rw [mS_n _ (by omega)]
            rw [mS_p]; rfl
          · iterate 7 rw [mS_n _ (by omega)]
            rw [mS_p]; rfl
          · iterate 6 rw [mS_n _ (by omega)]
            rw [mS_p]; rfl
          · iterate 5 rw [mS_n _ (by omega)]
            rw [mS_p]; rfl
          · iterate 4 rw [mS_n _ (by omega)]
            rw [mS_p]; rfl
          · iterate 3 rw [mS_n _ (by omega)]
            rw [mS_p]; rfl
          · iterate 2 rw [mS_n _ (by omega)]
            rw [mS_p]; rfl
          · rw [mS_n _ (by omega), mS_p]; rfl
          · rw [mS_p, hz]; rfl
        · rw [if_neg (show ¬ (k ≤ f ∨ f ≤ 9 ∨ f = 15) by omega)]
          iterate 11 rw [mS_n _ (by omega)]
      · rw [if_neg c]
        iterate 11 rw [mS_n _ (by omega)]
    unfold fX7_makes_b20 fX7_makes_b170
    rw [e1, e2, e3, e4, e5, e6, e7, e8]
    by_cases z : x6 = 0
    · (repeat (first | (with_reducible refine po_gd ?_ ?_; · omega) | (with_reducible refine po_bnd ?_) | (with_reducible refine po_ift ?_ ?_; · omega) | (with_reducible refine po_iff ?_ ?_; · omega) | (with_reducible refine po_crs ?_) | (with_reducible refine po_cls ?_) | (with_reducible refine po_cle (ev_becomes ?_ ?_ ?_) ?_; (· omega); (· omega); (· omega))))
      exact fin 1 (by rw [if_pos z])
    · (repeat (first | (with_reducible refine po_gd ?_ ?_; · omega) | (with_reducible refine po_bnd ?_) | (with_reducible refine po_ift ?_ ?_; · omega) | (with_reducible refine po_iff ?_ ?_; · omega) | (with_reducible refine po_crs ?_) | (with_reducible refine po_cls ?_) | (with_reducible refine po_cle (ev_becomes ?_ ?_ ?_) ?_; (· omega); (· omega); (· omega))))
      exact fin 0 (by rw [if_neg z])
  | n + 1, fuel + 1, k, m, hk, hk0, hn, hQ => by
    unfold fX7_makes_b20
    refine po_gd (by omega) (po_iff (by omega) (po_cle (ev_becomes ho (by omega) (by decide)) (em_make16 ho h1 h2 h3 h4 h5 h6 Q n fuel (k + 1) _ (by omega) (by omega) (by omega) (fun m' a b c d => hQ m' (fun j => ?_) (b.trans (mS_t m _ _ (by decide))) c (((keptEq.rf m).s (by decide)).tr d)))))
    rw [a j]
    by_cases c1 : 121 + 16 * o ≤ j ∧ j ≤ 136 + 16 * o
    · rw [if_pos c1, if_pos c1]
      by_cases c2 : k + 1 ≤ j - (121 + 16 * o) ∨ j - (121 + 16 * o) ≤ 9 ∨ j - (121 + 16 * o) = 15
      · rw [if_pos c2, if_pos (by omega)]
      · rw [if_neg c2]
        by_cases c3 : j = 121 + 16 * o + k
        · subst c3
          rw [mS_p, if_pos (by omega)]
          rw [show 121 + 16 * o + k - (121 + 16 * o) = k by omega] at c2 ⊢
          unfold newN
          rw [if_neg (by omega), if_neg (by omega), if_neg (by omega), if_neg (by omega), if_neg (by omega), if_neg (by omega), if_neg (by omega), if_neg (by omega), if_neg (by omega), if_neg (by omega), if_neg (by omega)]
        · rw [mS_n _ (by omega), if_neg (by omega)]
    · rw [if_neg c1, if_neg c1, mS_n _ (by omega)]

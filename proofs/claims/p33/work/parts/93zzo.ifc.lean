/-! ===== forecasts and questions keep it ===== -/
theorem Inv.fc {T C To : Int} {c c' : cR} {m m' : mR} (I : Inv T C To c m) (h : fcR T c c' m m') : Inv T C To c' m' := by
  obtain ⟨i1, i2, i3, i4, i5⟩ := I
  obtain ⟨h1, h2, h3, h4, h5, h6, h7, h8, h9⟩ := h
  have e10 := h6 10 (by omega)
  have c0 := h1 0 (by omega)
  have hh : HistR T C (9 * To - m.1 6 10) c' m' := i5.fr (fun k hk => h1 k (by omega)) (by rw [c0]; exact fc_room i1.2.2) h3 (by rw [h2]) (fun l hl => ⟨fun j hj => by
      unfold rowN
      exact h7 _ (by omega), fun j hj => by
      unfold rowO
      exact h9 _ (by omega), fun j hj => by
      unfold rowW
      exact h8 _ (by omega)⟩) (h5 4 (by omega)) (h6 7 (by omega))
  exact ⟨by rw [c0]; exact h4, by rw [c0]; exact i2, i3.fr (by rw [h2]) (h5 5 (by omega)) e10, by rw [c0, e10]; exact i4, by rw [e10]; exact hh⟩
theorem okXf.aims {C T : Int} {H H' : hR} (h : okXf C H) (hk : Ok T H) (g : onlyAims H H') : okXf C H' := h.of3 (fun P h1 h2 => ⟨h2.fr hk.2.2.2.2.1 (g.1 _ _ _ (by omega)) (g.1 _ _ _ (by omega)) (by
    have : holB H' = holB H := by
      funext d
      unfold holB
      rw [g.1 6 _ 0 (by omega)]
    rw [this]) (g.1 _ _ _ (by omega)) (g.1 _ _ _ (by omega)) (fun c i _ _ => g.1 _ _ _ (by omega)) (fun o f _ q => g.1 _ _ _ (by omega)), g.1 _ _ _ (by omega), g.1 _ _ _ (by omega), g.1 _ _ _ (by omega)⟩)
theorem Inv.aims {T C To : Int} {c c' : cR} {m : mR} (I : Inv T C To c m) (h2 : c'.2 = c.2) (h1 : ∀ k : Int, ¬ k = 0 → c'.1 k = c.1 k) (g : onlyAims (c.1 0) (c'.1 0)) : Inv T C To c' m := by
  obtain ⟨i1, i2, i3, i4, i5⟩ := I
  have hs := i1.aims g
  have hh : HistR T C (9 * To - m.1 6 10) c' m := i5.fr (fun k hk => h1 k (by omega)) (fc_room hs.2.2) (by rw [h1 1 (by omega)]; exact i5.2.2.2.2.2 1 (by omega)) (by rw [h2]) (fun l hl => rowEq.of rfl rfl rfl) rfl rfl
  exact ⟨hs, i2.aims i1.2.2 g, i3.fr (by rw [h2]) rfl rfl, by rw [g.1 0 5 0 (by omega)]; exact i4, hh⟩
def stepL (T C To : Int) (A : Option (Int × cR)) (B : Option (Int × mR)) : Prop := ∃ r c' m', A = some (r, c') ∧ B = some (r, m') ∧ wR64 r ∧ Inv T C To c' m'
theorem stepL.of {T C To : Int} {c : cR} {m : mR} {A : Option (Int × cR)} {B : Option (Int × mR)} (I : Inv T C To c m) (h : fcOK T c m A B) : stepL T C To A B := by
  obtain ⟨r, c', m', h1, h2, h3, h4⟩ := h
  exact ⟨r, c', m', h1, h2, h3, I.fc h4⟩
theorem Inv.ord {T C To : Int} {c : cR} {m : mR} (I : Inv T C To c m) : 0 ≤ (c.1 0).1 0 5 0 ∧ (c.1 0).1 0 5 0 ≤ To := by
  have k1 := I.1.2.2.1
  unfold okN at k1
  have h1 := I.2.2.2.1
  have h2 := I.2.2.1.2.1
  omega
theorem Inv.room {T C To : Int} {c : cR} {m : mR} (I : Inv T C To c m) {k : Int} (hk : 0 ≤ k ∧ k ≤ 10) : roomOK ((c.1 k).1 4 1 0) := I.2.2.2.2.2.2.2.2.2 k hk
theorem iv_balanceIn {T C To a n : Int} {c : cR} {m : mR} (hT : 0 ≤ T ∧ T ≤ 99900) (hC : 0 ≤ C ∧ C + 1 + To ≤ 512) (I : Inv T C To c m) (ha : wR a) (hn : wR n) : stepL T C To (fX6_balanceIn a n c) (fX7_balanceIn a n m) := by
  have := I.ord
  exact stepL.of I (ls_balanceIn (C := C) (by omega) (by omega) I.1 I.2.1 (I.room (by omega)) ha hn)
theorem iv_firstFailure {T C To a : Int} {c : cR} {m : mR} (hT : 0 ≤ T ∧ T ≤ 99900) (hC : 0 ≤ C ∧ C + 1 + To ≤ 512) (I : Inv T C To c m) (ha : wR a) : stepL T C To (fX6_firstFailure a c) (fX7_firstFailure a m) := by
  have := I.ord
  exact stepL.of I (ls_firstFailure (C := C) (by omega) (by omega) I.1 I.2.1 (I.room (by omega)) ha)
theorem iv_leastDeposit {T C To a n : Int} {c : cR} {m : mR} (hT : 0 ≤ T ∧ T ≤ 99900) (hC : 0 ≤ C ∧ C + 1 + To ≤ 512) (I : Inv T C To c m) (ha : wR a) (hn : wR n) : stepL T C To (fX6_leastDeposit a n c) (fX7_leastDeposit a n m) := by
  have := I.ord
  exact stepL.of I (ls_leastDeposit (C := C) (by omega) (by omega) I.1 I.2.1 (I.room (by omega)) ha hn)
theorem iv_ahead {T C To o n w : Int} {c : cR} {m : mR} (hT : 0 ≤ T ∧ T ≤ 99900) (hC : 0 ≤ C ∧ C + 1 + To ≤ 512) (I : Inv T C To c m) (ho : wR o) (hn : wR n) (hw : wR w) : stepL T C To (fX6_ahead o n w c) (fX7_ahead o n w m) := by
  have := I.ord
  exact stepL.of I (ls_ahead (C := C) (by omega) (by omega) I.1 I.2.1 (I.room (by omega)) ho hn hw)

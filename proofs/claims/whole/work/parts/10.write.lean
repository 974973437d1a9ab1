/-! ===== writes: the heap of the state with one thing changed (by program: wip/whole/gen_write.py) ===== -/
theorem loc_v {o t a b : Nat} (h : loc o = (t, a, b)) (h7 : t ≠ 7) : (t < 7 → b = 0) ∧ (10 ≤ t → a = 0 ∧ b = 0) := by
  unfold loc locH at h
  split at h
  · simp only [Prod.mk.injEq] at h; obtain ⟨rfl, rfl, rfl⟩ := h; exact ⟨fun _ => rfl, fun _ => ⟨rfl, rfl⟩⟩
  · split at h
    · repeat' split at h
      all_goals (simp only [Prod.mk.injEq] at h; obtain ⟨rfl, rfl, rfl⟩ := h; exact ⟨fun q => by omega, fun q => by omega⟩)
    · split at h
      · simp only [Prod.mk.injEq] at h; obtain ⟨rfl, rfl, rfl⟩ := h; exact ⟨fun _ => rfl, fun _ => ⟨rfl, rfl⟩⟩
      · split at h
        · repeat' split at h
          all_goals (simp only [Prod.mk.injEq] at h; obtain ⟨rfl, rfl, rfl⟩ := h; exact ⟨fun q => by omega, fun q => by omega⟩)
        · split at h
          · simp only [Prod.mk.injEq] at h; obtain ⟨rfl, rfl, rfl⟩ := h; exact ⟨fun _ => rfl, fun _ => ⟨rfl, rfl⟩⟩
          · simp only [Prod.mk.injEq] at h; obtain ⟨rfl, rfl, rfl⟩ := h; exact absurd rfl h7
theorem lay_up {E : wE} {G G' : gW} {t k i : Nat} {e : va_E} (h7 : t ≠ 7) (hcell : cell E G' t k i = some e) (hrest : ∀ t' k' i', t' ≠ 7 → (t' < 7 → i' = 0) ∧ (10 ≤ t' → k' = 0 ∧ i' = 0) → ¬ (t' = t ∧ k' = k ∧ i' = i) → cell E G' t' k' i' = cell E G t' k' i') (hdyn : ∀ q, dyn E G' q = dyn E G q) (hnx : G'.nx = G.nx) (hloc : loc (off t k i) = (t, k, i)) : wUp (lay E G) (wb E + off t k i) e = lay E G' := by
  refine Prod.ext (funext fun q => ?_) hnx.symm
  show (bif Nat.beq q (wb E + off t k i) then some e else (lay E G).1 q) = (lay E G').1 q
  by_cases hq : q = wb E + off t k i
  · subst hq
    rw [Nat.beq_refl, cond_true, lay_at hloc h7, hcell]
  · rw [w_bF hq, cond_false]
    show (if wb E ≤ q then _ else _) = (if wb E ≤ q then _ else _)
    by_cases hb : wb E ≤ q
    · rw [if_pos hb, if_pos hb]
      by_cases hd : (loc (q - wb E)).1 = 7
      · rw [if_pos hd, if_pos hd, hdyn]
      · rw [if_neg hd, if_neg hd]
        refine (hrest _ _ _ hd (loc_v (o := q - wb E) rfl hd) ?_).symm
        rintro ⟨q1, q2, q3⟩
        have h9 : loc (q - wb E) = (t, k, i) := Prod.ext q1 (Prod.ext q2 q3)
        have := loc_off h9 h7
        omega
    · rw [if_neg hb, if_neg hb]
theorem wr_h {E : wE} {G : gW} {k i f : Nat} {v : Int} (hk : k < 11) (hf : f = 4 ∨ f = 5 ∨ f = 6 ∨ f = 7 ∨ f = 8 ∨ f = 9 ∨ f = 10 ∨ f = 11) : wUp (lay E G) (aH E k) (.inr (2, (cHouse E G.i k).set f (.int (iI v)))) = lay E (setI G 0 k f 0 v) := by
  refine lay_up (t := 0) (k := k) (i := 0) (by decide) ?_ ?_ (fun q => ?_) rfl (lc_h hk (by decide))
  · rcases hf with rfl | rfl | rfl | rfl | rfl | rfl | rfl | rfl <;> simp [cell, cHouse, setI, up4, List.set, gW.i, gW.l, gW.d]
  · intro t' k' i' h7 hv hne
    unfold cell
    split
    all_goals first | rfl | skip
    all_goals (
      have hk9 : ¬ (k' = k) := fun q => hne (by first | exact ⟨rfl, q.1, q.2⟩ | exact ⟨rfl, q, hv.1 (by decide)⟩)
      have e : ∀ a b, up4 G.i 0 k f 0 v 0 k' a b = G.i 0 k' a b := fun a b => up4_ne (fun q => hk9 q.2.1)
      simp only [cHouse, setI, gW.i, gW.l, gW.d] at e ⊢
      simp only [e])
  · rfl
theorem wr_cal {E : wE} {G : gW} {k i f : Nat} {v : Int} (hk : k < 11) (hf : f = 1 ∨ f = 2) : wUp (lay E G) (aCal E k) (.inr (1, (cCal E G.i k).set f (.int (iI v)))) = lay E (setI G 1 k f 0 v) := by
  refine lay_up (t := 1) (k := k) (i := 0) (by decide) ?_ ?_ (fun q => ?_) rfl (lc_h hk (by decide))
  · rcases hf with rfl | rfl <;> simp [cell, cCal, setI, up4, List.set, gW.i, gW.l, gW.d]
  · intro t' k' i' h7 hv hne
    unfold cell
    split
    all_goals first | rfl | skip
    all_goals (
      have hk9 : ¬ (k' = k) := fun q => hne (by first | exact ⟨rfl, q.1, q.2⟩ | exact ⟨rfl, q, hv.1 (by decide)⟩)
      have e : ∀ a b, up4 G.i 1 k f 0 v 1 k' a b = G.i 1 k' a b := fun a b => up4_ne (fun q => hk9 q.2.1)
      simp only [cCal, setI, gW.i, gW.l, gW.d] at e ⊢
      simp only [e])
  · rfl
theorem wr_wait {E : wE} {G : gW} {k i f : Nat} {v : Int} (hk : k < 11) (hf : f = 2) : wUp (lay E G) (aWait E k) (.inr (5, (cWait E G.i k).set f (.int (iI v)))) = lay E (setI G 4 k f 0 v) := by
  refine lay_up (t := 5) (k := k) (i := 0) (by decide) ?_ ?_ (fun q => ?_) rfl (lc_h hk (by decide))
  · subst hf
    simp [cell, cWait, setI, up4, List.set, gW.i, gW.l, gW.d]
  · intro t' k' i' h7 hv hne
    unfold cell
    split
    all_goals first | rfl | skip
    all_goals (
      have hk9 : ¬ (k' = k) := fun q => hne (by first | exact ⟨rfl, q.1, q.2⟩ | exact ⟨rfl, q, hv.1 (by decide)⟩)
      have e : ∀ a b, up4 G.i 4 k f 0 v 4 k' a b = G.i 4 k' a b := fun a b => up4_ne (fun q => hk9 q.2.1)
      simp only [cWait, setI, gW.i, gW.l, gW.d] at e ⊢
      simp only [e])
  · unfold dyn setI
    subst hf
    congr 1
    · funext p
      simp [up4, gW.i]
theorem wr_acci {E : wE} {G : gW} {k i f : Nat} {v : Int} (hk : k < 11) (hi : i < 8) (hf : f = 0 ∨ f = 1 ∨ f = 2) : wUp (lay E G) (aAcc E k i) (.inr (0, (cAcc G.i G.l G.d k i).set f (.int (iI v)))) = lay E (setI G 2 k i f v) := by
  refine lay_up (t := 8) (k := k) (i := i) (by decide) ?_ ?_ (fun q => ?_) rfl (lc_a hk hi)
  · rcases hf with rfl | rfl | rfl <;> simp [cell, cAcc, setI, up4, List.set, gW.i, gW.l, gW.d]
  · intro t' k' i' h7 hv hne
    unfold cell
    split
    all_goals first | rfl | skip
    all_goals (
      have hk9 : ¬ (k' = k ∧ i' = i) := fun q => hne (by first | exact ⟨rfl, q.1, q.2⟩ | exact ⟨rfl, q, hv.1 (by decide)⟩)
      have e : ∀ a, up4 G.i 2 k i f v 2 k' i' a = G.i 2 k' i' a := fun a => up4_ne (fun q => hk9 ⟨q.2.1, q.2.2.1⟩)
      simp only [cAcc, setI, gW.i, gW.l, gW.d] at e ⊢
      simp only [e])
  · rfl
theorem wr_accl {E : wE} {G : gW} {k i f : Nat} {v : Int64} (hk : k < 11) (hi : i < 8) (hf : f = 3 ∨ f = 4 ∨ f = 5 ∨ f = 6 ∨ f = 7 ∨ f = 8 ∨ f = 9 ∨ f = 10 ∨ f = 11) : wUp (lay E G) (aAcc E k i) (.inr (0, (cAcc G.i G.l G.d k i).set f (.long v))) = lay E (setL G 1 k i f v) := by
  refine lay_up (t := 8) (k := k) (i := i) (by decide) ?_ ?_ (fun q => ?_) rfl (lc_a hk hi)
  · rcases hf with rfl | rfl | rfl | rfl | rfl | rfl | rfl | rfl | rfl <;> simp [cell, cAcc, setL, up4, List.set, gW.i, gW.l, gW.d]
  · intro t' k' i' h7 hv hne
    unfold cell
    split
    all_goals first | rfl | skip
    all_goals (
      have hk9 : ¬ (k' = k ∧ i' = i) := fun q => hne (by first | exact ⟨rfl, q.1, q.2⟩ | exact ⟨rfl, q, hv.1 (by decide)⟩)
      have e : ∀ a, up4 G.l 1 k i f v 1 k' i' a = G.l 1 k' i' a := fun a => up4_ne (fun q => hk9 ⟨q.2.1, q.2.2.1⟩)
      simp only [cAcc, setL, gW.i, gW.l, gW.d] at e ⊢
      simp only [e])
  · rfl
theorem wr_accd {E : wE} {G : gW} {k i f : Nat} {v : UInt64} (hk : k < 11) (hi : i < 8) (hf : f = 12) : wUp (lay E G) (aAcc E k i) (.inr (0, (cAcc G.i G.l G.d k i).set f (.double v))) = lay E (setD G 0 k i 0 v) := by
  refine lay_up (t := 8) (k := k) (i := i) (by decide) ?_ ?_ (fun q => ?_) rfl (lc_a hk hi)
  · subst hf
    simp [cell, cAcc, setD, up4, List.set, gW.i, gW.l, gW.d]
  · intro t' k' i' h7 hv hne
    unfold cell
    split
    all_goals first | rfl | skip
    all_goals (
      have hk9 : ¬ (k' = k ∧ i' = i) := fun q => hne (by first | exact ⟨rfl, q.1, q.2⟩ | exact ⟨rfl, q, hv.1 (by decide)⟩)
      have e : ∀ a, up4 G.d 0 k i 0 v 0 k' i' a = G.d 0 k' i' a := fun a => up4_ne (fun q => hk9 ⟨q.2.1, q.2.2.1⟩)
      simp only [cAcc, setD, gW.i, gW.l, gW.d] at e ⊢
      simp only [e])
  · rfl
theorem wr_ord {E : wE} {G : gW} {k i f : Nat} {v : Int} (hk : k < 11) (hi : i < 16) (hf : f = 0 ∨ f = 1 ∨ f = 2 ∨ f = 3 ∨ f = 4 ∨ f = 5 ∨ f = 6 ∨ f = 7 ∨ f = 8 ∨ f = 9 ∨ f = 10 ∨ f = 11 ∨ f = 12 ∨ f = 13 ∨ f = 14 ∨ f = 15 ∨ f = 16 ∨ f = 17 ∨ f = 18 ∨ f = 19) : wUp (lay E G) (aOrd E k i) (.inr (3, (cOrd G.i k i).set f (.int (iI v)))) = lay E (setI G 3 k i f v) := by
  refine lay_up (t := 9) (k := k) (i := i) (by decide) ?_ ?_ (fun q => ?_) rfl (lc_o hk hi)
  · rcases hf with rfl | rfl | rfl | rfl | rfl | rfl | rfl | rfl | rfl | rfl | rfl | rfl | rfl | rfl | rfl | rfl | rfl | rfl | rfl | rfl <;> simp [cell, cOrd, setI, up4, List.set, gW.i, gW.l, gW.d]
  · intro t' k' i' h7 hv hne
    unfold cell
    split
    all_goals first | rfl | skip
    all_goals (
      have hk9 : ¬ (k' = k ∧ i' = i) := fun q => hne (by first | exact ⟨rfl, q.1, q.2⟩ | exact ⟨rfl, q, hv.1 (by decide)⟩)
      have e : ∀ a, up4 G.i 3 k i f v 3 k' i' a = G.i 3 k' i' a := fun a => up4_ne (fun q => hk9 ⟨q.2.1, q.2.2.1⟩)
      simp only [cOrd, setI, gW.i, gW.l, gW.d] at e ⊢
      simp only [e])
  · rfl
theorem wr_top {E : wE} {G : gW} {k i f : Nat} {v : Int} (hf : f = 3 ∨ f = 4) : wUp (lay E G) (aTop E) (.inr (6, (cTop E G.i).set f (.int (iI v)))) = lay E (setI G 6 f 0 0 v) := by
  refine lay_up (t := 10) (k := 0) (i := 0) (by decide) ?_ ?_ (fun q => ?_) rfl (rfl)
  · rcases hf with rfl | rfl <;> simp [cell, cTop, setI, up4, List.set, gW.i, gW.l, gW.d]
  · intro t' k' i' h7 hv hne
    unfold cell
    split
    all_goals first | rfl | skip
    all_goals (exfalso; exact hne ⟨rfl, (hv.2 (by decide)).1, (hv.2 (by decide)).2⟩)
  · rfl
theorem wr_pad {E : wE} {G : gW} {k i f : Nat} {v : Int} (hf : f = 1 ∨ f = 2 ∨ f = 3 ∨ f = 4 ∨ f = 5 ∨ f = 6 ∨ f = 7 ∨ f = 8 ∨ f = 9 ∨ f = 10) : wUp (lay E G) (aPad E) (.inr (4, (cPad E G.i).set f (.int (iI v)))) = lay E (setI G 8 f 0 0 v) := by
  refine lay_up (t := 14) (k := 0) (i := 0) (by decide) ?_ ?_ (fun q => ?_) rfl (rfl)
  · rcases hf with rfl | rfl | rfl | rfl | rfl | rfl | rfl | rfl | rfl | rfl <;> simp [cell, cPad, setI, up4, List.set, gW.i, gW.l, gW.d]
  · intro t' k' i' h7 hv hne
    unfold cell
    split
    all_goals first | rfl | skip
    all_goals (exfalso; exact hne ⟨rfl, (hv.2 (by decide)).1, (hv.2 (by decide)).2⟩)
  · rfl
theorem wr_mod {E : wE} {G : gW} {k i f : Nat} {v : Int} (hf : f = 7 ∨ f = 8 ∨ f = 10 ∨ f = 11 ∨ f = 12 ∨ f = 13 ∨ f = 14 ∨ f = 15 ∨ f = 16 ∨ f = 17 ∨ f = 18 ∨ f = 19 ∨ f = 20) : wUp (lay E G) (aM E 0) (.inr (7, (cMod E G.i).set f (.int (iI v)))) = lay E (setI G 10 f 0 0 v) := by
  refine lay_up (t := 16) (k := 0) (i := 0) (by decide) ?_ ?_ (fun q => ?_) rfl (rfl)
  · rcases hf with rfl | rfl | rfl | rfl | rfl | rfl | rfl | rfl | rfl | rfl | rfl | rfl | rfl <;> simp [cell, cMod, setI, up4, List.set, gW.i, gW.l, gW.d]
  · intro t' k' i' h7 hv hne
    unfold cell
    split
    all_goals first | rfl | skip
    all_goals (exfalso; exact hne ⟨rfl, (hv.2 (by decide)).1, (hv.2 (by decide)).2⟩)
  · rfl
theorem wr_bits {E : wE} {G : gW} {k z : Nat} {v : Int64} (hk : k < 11) : wUp (lay E G) (aBits E k) (eL E 18 (va_up (fun j => G.l 0 k j 0) z v)) = lay E (setL G 0 k z 0 v) := by
  refine lay_up (t := 2) (k := k) (i := 0) (by decide) ?_ ?_ (fun q => rfl) rfl (lc_h hk (by decide))
  · show some (eL E 18 _) = some (eL E 18 _)
    refine congrArg some (congrArg (eL E 18) (funext fun j => ?_))
    by_cases hj : j = z
    · subst hj
      simp [va_up, setL, up4, gW.i, gW.l, gW.d]
    · simp [va_up, setL, up4, hj, gW.i, gW.l, gW.d]
  · intro t' k' i' h7 hv hne
    unfold cell
    split
    all_goals first | rfl | skip
    all_goals (
      have hk9 : ¬ k' = k := fun q => hne (by first | exact ⟨rfl, q, hv.1 (by decide)⟩)
      have e : ∀ a b, up4 G.l 0 k z 0 v 0 k' a b = G.l 0 k' a b := fun a b => up4_ne (fun q => hk9 q.2.1)
      simp only [setL, gW.i, gW.l, gW.d] at e ⊢
      simp only [e])
theorem wr_saved {E : wE} {G : gW} {k z : Nat} {v : Int} : wUp (lay E G) (aSaved E) (eZ E 2 (va_up (fun j => iI (G.i 7 j 0 0)) z (iI v))) = lay E (setI G 7 z 0 0 v) := by
  refine lay_up (t := 13) (k := 0) (i := 0) (by decide) ?_ ?_ (fun q => rfl) rfl (rfl)
  · show some (eZ E 2 _) = some (eZ E 2 _)
    refine congrArg some (congrArg (eZ E 2) (funext fun j => ?_))
    by_cases hj : j = z
    · subst hj
      simp [va_up, setI, up4, gW.i, gW.l, gW.d]
    · simp [va_up, setI, up4, hj, gW.i, gW.l, gW.d]
  · intro t' k' i' h7 hv hne
    unfold cell
    split
    all_goals first | rfl | skip
    all_goals (exfalso; exact hne ⟨rfl, (hv.2 (by decide)).1, (hv.2 (by decide)).2⟩)
theorem wr_signs {E : wE} {G : gW} {k z : Nat} {v : Int} : wUp (lay E G) (aSigns E) (eC E 80 (va_up (fun j => iI (G.i 9 j 0 0)) z (iI v))) = lay E (setI G 9 z 0 0 v) := by
  refine lay_up (t := 15) (k := 0) (i := 0) (by decide) ?_ ?_ (fun q => rfl) rfl (rfl)
  · show some (eC E 80 _) = some (eC E 80 _)
    refine congrArg some (congrArg (eC E 80) (funext fun j => ?_))
    by_cases hj : j = z
    · subst hj
      simp [va_up, setI, up4, gW.i, gW.l, gW.d]
    · simp [va_up, setI, up4, hj, gW.i, gW.l, gW.d]
  · intro t' k' i' h7 hv hne
    unfold cell
    split
    all_goals first | rfl | skip
    all_goals (exfalso; exact hne ⟨rfl, (hv.2 (by decide)).1, (hv.2 (by decide)).2⟩)
theorem wr_now {E : wE} {G : gW} {k z : Nat} {v : Int64} : wUp (lay E G) (aM E 1) (eL E 377 (va_up (fun j => G.l 2 j 0 0) z v)) = lay E (setL G 2 z 0 0 v) := by
  refine lay_up (t := 17) (k := 0) (i := 0) (by decide) ?_ ?_ (fun q => rfl) rfl (rfl)
  · show some (eL E 377 _) = some (eL E 377 _)
    refine congrArg some (congrArg (eL E 377) (funext fun j => ?_))
    by_cases hj : j = z
    · subst hj
      simp [va_up, setL, up4, gW.i, gW.l, gW.d]
    · simp [va_up, setL, up4, hj, gW.i, gW.l, gW.d]
  · intro t' k' i' h7 hv hne
    unfold cell
    split
    all_goals first | rfl | skip
    all_goals (exfalso; exact hne ⟨rfl, (hv.2 (by decide)).1, (hv.2 (by decide)).2⟩)
theorem wr_owed {E : wE} {G : gW} {k z : Nat} {v : UInt64} : wUp (lay E G) (aM E 2) (eD E 8 (va_up (fun j => G.d 1 j 0 0) z v)) = lay E (setD G 1 z 0 0 v) := by
  refine lay_up (t := 18) (k := 0) (i := 0) (by decide) ?_ ?_ (fun q => rfl) rfl (rfl)
  · show some (eD E 8 _) = some (eD E 8 _)
    refine congrArg some (congrArg (eD E 8) (funext fun j => ?_))
    by_cases hj : j = z
    · subst hj
      simp [va_up, setD, up4, gW.i, gW.l, gW.d]
    · simp [va_up, setD, up4, hj, gW.i, gW.l, gW.d]
  · intro t' k' i' h7 hv hne
    unfold cell
    split
    all_goals first | rfl | skip
    all_goals (exfalso; exact hne ⟨rfl, (hv.2 (by decide)).1, (hv.2 (by decide)).2⟩)
theorem wr_waits {E : wE} {G : gW} {k z : Nat} {v : Int64} : wUp (lay E G) (aM E 3) (eL E 8400 (va_up (fun j => G.l 3 j 0 0) z v)) = lay E (setL G 3 z 0 0 v) := by
  refine lay_up (t := 19) (k := 0) (i := 0) (by decide) ?_ ?_ (fun q => rfl) rfl (rfl)
  · show some (eL E 8400 _) = some (eL E 8400 _)
    refine congrArg some (congrArg (eL E 8400) (funext fun j => ?_))
    by_cases hj : j = z
    · subst hj
      simp [va_up, setL, up4, gW.i, gW.l, gW.d]
    · simp [va_up, setL, up4, hj, gW.i, gW.l, gW.d]
  · intro t' k' i' h7 hv hne
    unfold cell
    split
    all_goals first | rfl | skip
    all_goals (exfalso; exact hne ⟨rfl, (hv.2 (by decide)).1, (hv.2 (by decide)).2⟩)
theorem wr_kept {E : wE} {G : gW} {k z : Nat} {v : Int64} : wUp (lay E G) (aM E 4) (eL E 3393 (va_up (fun j => G.l 4 j 0 0) z v)) = lay E (setL G 4 z 0 0 v) := by
  refine lay_up (t := 20) (k := 0) (i := 0) (by decide) ?_ ?_ (fun q => rfl) rfl (rfl)
  · show some (eL E 3393 _) = some (eL E 3393 _)
    refine congrArg some (congrArg (eL E 3393) (funext fun j => ?_))
    by_cases hj : j = z
    · subst hj
      simp [va_up, setL, up4, gW.i, gW.l, gW.d]
    · simp [va_up, setL, up4, hj, gW.i, gW.l, gW.d]
  · intro t' k' i' h7 hv hne
    unfold cell
    split
    all_goals first | rfl | skip
    all_goals (exfalso; exact hne ⟨rfl, (hv.2 (by decide)).1, (hv.2 (by decide)).2⟩)
theorem wr_keptO {E : wE} {G : gW} {k z : Nat} {v : UInt64} : wUp (lay E G) (aM E 5) (eD E 72 (va_up (fun j => G.d 2 j 0 0) z v)) = lay E (setD G 2 z 0 0 v) := by
  refine lay_up (t := 21) (k := 0) (i := 0) (by decide) ?_ ?_ (fun q => rfl) rfl (rfl)
  · show some (eD E 72 _) = some (eD E 72 _)
    refine congrArg some (congrArg (eD E 72) (funext fun j => ?_))
    by_cases hj : j = z
    · subst hj
      simp [va_up, setD, up4, gW.i, gW.l, gW.d]
    · simp [va_up, setD, up4, hj, gW.i, gW.l, gW.d]
  · intro t' k' i' h7 hv hne
    unfold cell
    split
    all_goals first | rfl | skip
    all_goals (exfalso; exact hne ⟨rfl, (hv.2 (by decide)).1, (hv.2 (by decide)).2⟩)
theorem wr_keptW {E : wE} {G : gW} {k z : Nat} {v : Int64} : wUp (lay E G) (aM E 6) (eL E 75600 (va_up (fun j => G.l 5 j 0 0) z v)) = lay E (setL G 5 z 0 0 v) := by
  refine lay_up (t := 22) (k := 0) (i := 0) (by decide) ?_ ?_ (fun q => rfl) rfl (rfl)
  · show some (eL E 75600 _) = some (eL E 75600 _)
    refine congrArg some (congrArg (eL E 75600) (funext fun j => ?_))
    by_cases hj : j = z
    · subst hj
      simp [va_up, setL, up4, gW.i, gW.l, gW.d]
    · simp [va_up, setL, up4, hj, gW.i, gW.l, gW.d]
  · intro t' k' i' h7 hv hne
    unfold cell
    split
    all_goals first | rfl | skip
    all_goals (exfalso; exact hne ⟨rfl, (hv.2 (by decide)).1, (hv.2 (by decide)).2⟩)
theorem wr_ms {E : wE} {G : gW} {k z : Nat} {v : Int} : wUp (lay E G) (aM E 7) (eI E 2 (va_up (fun j => iI (G.i 11 j 0 0)) z (iI v))) = lay E (setI G 11 z 0 0 v) := by
  refine lay_up (t := 23) (k := 0) (i := 0) (by decide) ?_ ?_ (fun q => rfl) rfl (rfl)
  · show some (eI E 2 _) = some (eI E 2 _)
    refine congrArg some (congrArg (eI E 2) (funext fun j => ?_))
    by_cases hj : j = z
    · subst hj
      simp [va_up, setI, up4, gW.i, gW.l, gW.d]
    · simp [va_up, setI, up4, hj, gW.i, gW.l, gW.d]
  · intro t' k' i' h7 hv hne
    unfold cell
    split
    all_goals first | rfl | skip
    all_goals (exfalso; exact hne ⟨rfl, (hv.2 (by decide)).1, (hv.2 (by decide)).2⟩)
theorem wr_mp {E : wE} {G : gW} {k z : Nat} {v : Int} : wUp (lay E G) (aM E 8) (eI E 80 (va_up (fun j => iI (G.i 12 j 0 0)) z (iI v))) = lay E (setI G 12 z 0 0 v) := by
  refine lay_up (t := 24) (k := 0) (i := 0) (by decide) ?_ ?_ (fun q => rfl) rfl (rfl)
  · show some (eI E 80 _) = some (eI E 80 _)
    refine congrArg some (congrArg (eI E 80) (funext fun j => ?_))
    by_cases hj : j = z
    · subst hj
      simp [va_up, setI, up4, gW.i, gW.l, gW.d]
    · simp [va_up, setI, up4, hj, gW.i, gW.l, gW.d]
  · intro t' k' i' h7 hv hne
    unfold cell
    split
    all_goals first | rfl | skip
    all_goals (exfalso; exact hne ⟨rfl, (hv.2 (by decide)).1, (hv.2 (by decide)).2⟩)

/-! ===== what bounds the waiting list: the calls that leave it alone ===== -/
def Pst {α : Type} (Q : α → Prop) (o : Option α) : Prop := ∀ x, o = some x → Q x
theorem pst_gd {α : Type} {Q : α → Prop} {p : Prop} [Decidable p] {k : Option α} (h : p → Pst Q k) : Pst Q (gd p k) := fun x e => by
  obtain ⟨h1, h2⟩ := gd_inv e
  exact h h1 x h2
theorem pst_cr {α β : Type} {Q : α → Prop} {o : Option β} {k : β → Option α} (h : ∀ y, o = some y → Pst Q (k y)) : Pst Q (cr o k) := fun x e => by
  obtain ⟨y, h1, h2⟩ := cr_inv e
  exact h y h1 x h2
theorem pst_cl {α β S : Type} {Q : α → Prop} {o : Option (β × S)} {k : β → S → Option α} (h : ∀ y s, o = some (y, s) → Pst Q (k y s)) : Pst Q (cl o k) := fun x e => by
  obtain ⟨y, s, h1, h2⟩ := cl_inv e
  exact h y s h1 x h2
theorem pst_if {α : Type} {Q : α → Prop} {p : Prop} [Decidable p] {a b : Option α} (h1 : p → Pst Q a) (h2 : ¬ p → Pst Q b) : Pst Q (if p then a else b) := by
  by_cases g : p
  · rw [if_pos g]
    exact h1 g
  · rw [if_neg g]
    exact h2 g
theorem pst_bnd {α β : Type} {Q : α → Prop} {x : β} {k : β → Option α} (h : Pst Q (k x)) : Pst Q (bnd x k) := h
theorem pst_clb {α β γ S : Type} {Q : α → Prop} {x : γ} {k1 : γ → Option (β × S)} {k : β → S → Option α} (h : Pst Q (cl (k1 x) k)) : Pst Q (cl (bnd x k1) k) := h
theorem pst_cls {α β S : Type} {Q : α → Prop} {y : β} {s : S} {k : β → S → Option α} (h : Pst Q (k y s)) : Pst Q (cl (some (y, s)) k) := h
theorem pst_some {α : Type} {Q : α → Prop} {x : α} (h : Q x) : Pst Q (some x) := fun y e => by
  cases e
  exact h
def frX (H H' : hR) : Prop := ∀ t x y : Int, ¬ t = 2 → ¬ (t = 0 ∧ (x = 4 ∨ x = 7 ∨ x = 8 ∨ x = 9)) → ¬ (t = 1 ∧ x = 2) → ¬ (t = 3 ∧ (y = 2 ∨ y = 8)) → H'.1 t x y = H.1 t x y
theorem frX.rf (H : hR) : frX H H := fun _ _ _ _ _ _ _ => rfl
theorem frX.s {H H' : hR} (h : frX H H') {t x y v : Int} (g : t = 2 ∨ (t = 0 ∧ (x = 4 ∨ x = 7 ∨ x = 8 ∨ x = 9)) ∨ (t = 1 ∧ x = 2) ∨ (t = 3 ∧ (y = 2 ∨ y = 8))) : frX H (hS H' t x y v) := fun t' x' y' a b c d => by
  rw [hS_n H' (by omega)]
  exact h t' x' y' a b c d
theorem frX.d {H H' : hR} (h : frX H H') {i : Int} {v : UInt64} : frX H (hD H' i v) := h
theorem okXp.gen {P P' C C' : Int} {H H' : hR} (h : okXp P C H) (hw : okW H) (h1 : H'.1 1 1 0 ≤ C') (h6 : H'.1 0 6 0 = H.1 0 6 0) (hZ : zP P C H ≤ zP P' C' H') (hU : uX C H ≤ uX C' H') (h2' : H'.1 4 2 0 = H.1 4 2 0) (h5' : H'.1 0 5 0 = H.1 0 5 0) (hc : ∀ c i : Int, H'.1 5 c i = H.1 5 c i) (hf : ∀ o f : Int, f = 3 ∨ f = 4 ∨ f = 6 ∨ f = 9 ∨ f = 10 ∨ f = 11 ∨ f = 16 → H'.1 3 o f = H.1 3 o f) : okXp P' C' H' := by
  obtain ⟨a1, a2, a3⟩ := h
  rw [← h6] at a2 a3
  exact ⟨h1, (a2.mono hZ hU).fr hw h2' h5' (fun c i _ => hc c i) (fun o f _ q => hf o f q), a3.fr h2' (fun i _ => hc 3 i)⟩
theorem okXf.up {C T : Int} {H H' : hR} (h : okXf C H) (hk : Ok T H) (f : frX H H') : okXf (C + 1) H' := by
  obtain ⟨P, h1, h2⟩ := h
  have hp := phW_rng (w := (H.1 0 6 0 + H.1 1 2 0) % 7) (by omega)
  have e1 : H'.1 1 1 0 = H.1 1 1 0 := f 1 1 0 (by omega) (by omega) (by omega) (by omega)
  have e6 : H'.1 0 6 0 = H.1 0 6 0 := f 0 6 0 (by omega) (by omega) (by omega) (by omega)
  have eh : futH (holB H') (H.1 0 6 0) = futH (holB H) (H.1 0 6 0) := cntB_fr _ (fun j _ _ => by
    unfold holB
    rw [f 6 _ 0 (by omega) (by omega) (by omega) (by omega)])
  have ha := h2.1
  refine ⟨5, Or.inl ⟨rfl, by omega⟩, h2.gen hk.2.2.2.2.1 (by omega) e6 ?_ ?_ (f 4 2 0 (by omega) (by omega) (by omega) (by omega)) (f 0 5 0 (by omega) (by omega) (by omega) (by omega)) (fun c i => f 5 c i (by omega) (by omega) (by omega) (by omega)) (fun o f' q => f 3 o f' (by omega) (by omega) (by omega) (by omega))⟩
  · unfold zP
    rw [e1, e6, eh]
    omega
  · unfold uX
    rw [e1]
    omega
theorem x_set {s v : Int} {H : hR} : Pst (fun p => frX H p.2) (fX2_replaceSetting s v H) := by
  unfold fX2_replaceSetting
  repeat' (first | (with_reducible refine pst_gd (fun _ => ?_)) | (with_reducible refine pst_cr (fun _ _ => ?_)) | (with_reducible refine pst_if (fun _ => ?_) (fun _ => ?_)) | (with_reducible refine pst_bnd ?_) | (with_reducible refine pst_some ?_))
  all_goals (first | exact frX.rf _ | exact (frX.rf _).s (by omega))
theorem x_account {v w : Int} {H : hR} : Pst (fun p => frX H p.2) (fX2_addAccount v w H) := by
  unfold fX2_addAccount fX0_open
  repeat' (first | (with_reducible refine pst_gd (fun _ => ?_)) | (with_reducible refine pst_cr (fun _ _ => ?_)) | (with_reducible refine pst_if (fun _ => ?_) (fun _ => ?_)) | (with_reducible refine pst_clb ?_) | (with_reducible refine pst_cls ?_) | (with_reducible refine pst_bnd ?_) | (with_reducible refine pst_some ?_))
  all_goals (repeat' (first | exact frX.rf _ | (refine frX.s ?_ (by omega)) | refine frX.d ?_))
theorem x_feed {a b : Int} {H : hR} : Pst (fun p => frX H p.2) (fX2_nameFeeder a b H) := by
  unfold fX2_nameFeeder fX2_nameFeeder_b31
  repeat' (first | (with_reducible refine pst_gd (fun _ => ?_)) | (with_reducible refine pst_cr (fun _ _ => ?_)) | (with_reducible refine pst_if (fun _ => ?_) (fun _ => ?_)) | (with_reducible refine pst_bnd ?_) | (with_reducible refine pst_some ?_))
  all_goals (repeat' (first | exact frX.rf _ | (refine frX.s ?_ (by omega))))
theorem x_deposit {a c : Int} {H : hR} : Pst (fun p => frX H p.2) (fX2_payIn a c H) := by
  unfold fX2_payIn
  repeat' (first | (with_reducible refine pst_gd (fun _ => ?_)) | (with_reducible refine pst_cr (fun _ _ => ?_)) | (with_reducible refine pst_if (fun _ => ?_) (fun _ => ?_)) | (with_reducible refine pst_bnd ?_) | (with_reducible refine pst_some ?_))
  all_goals (repeat' (first | exact frX.rf _ | (refine frX.s ?_ (by omega))))
theorem x_change {o a p : Int} {H : hR} : Pst (fun p => frX H p.2) (fX2_alterOrder o a p H) := by
  unfold fX2_alterOrder
  repeat' (first | (with_reducible refine pst_gd (fun _ => ?_)) | (with_reducible refine pst_cr (fun _ _ => ?_)) | (with_reducible refine pst_if (fun _ => ?_) (fun _ => ?_)) | (with_reducible refine pst_bnd ?_) | (with_reducible refine pst_some ?_))
  all_goals (repeat' (first | exact frX.rf _ | (refine frX.s ?_ (by omega))))
/-- an order stops -/
theorem okXp.stop {P C o : Int} {H : hR} (h : okXp P C H) (hw : okW H) : okXp P C (hS H 3 o 11 1) := by
  have x : ∀ t a f : Int, ¬ (t = 3 ∧ f = 11) → (hS H 3 o 11 1).1 t a f = H.1 t a f := fun t a f q => hS_n H (by omega)
  obtain ⟨a1, ⟨b1, b2, b3⟩, a3⟩ := h
  have qK : ∀ i j : Int, nomK (hS H 3 o 11 1) i j = nomK H i j := fun i j => nomK_fr (fun f q => x _ _ _ (by omega)) j
  refine ⟨by rw [x _ _ _ (by omega)]; exact a1, ⟨fun i hi hk => ?_, fun i hi => ?_, fun i j a b c d e => ?_⟩, fun i hi => ?_⟩
  · rw [x 4 2 0 (by omega)] at hi
    rw [x 5 0 i (by omega), x 3 _ 3 (by omega)] at hk
    rw [x 5 0 i (by omega), x 5 2 i (by omega), x 5 4 i (by omega), x 3 _ 16 (by omega), qK, x 0 6 0 (by omega)]
    exact b1 i hi hk
  · rw [x 0 5 0 (by omega)] at hi
    obtain ⟨c1, c2, c3⟩ := b2 i hi
    rw [x 3 i 3 (by omega), x 3 i 16 (by omega), x 3 i 9 (by omega), x 3 i 10 (by omega), qK, x 0 6 0 (by omega)]
    refine ⟨fun d1 d2 => c1 d1 ?_, c2, c3⟩
    by_cases g : i = o
    · subst g
      rw [hS_p] at d2
      omega
    · rw [hS_n H (by omega)] at d2
      exact d2
  · rw [x 4 2 0 (by omega)] at c
    rw [x 5 0 i (by omega), x 5 0 j (by omega)] at d
    rw [x 5 0 i (by omega), x 3 _ 3 (by omega)] at e
    rw [x 5 2 i (by omega), x 5 2 j (by omega), x 5 4 i (by omega)]
    exact b3 i j a b c d e
  · rw [x 4 2 0 (by omega)] at hi
    rw [x 5 3 i (by omega), x 0 6 0 (by omega)]
    exact a3 i hi
theorem x_stop {C T o : Int} {H : hR} (h : okXf C H) (hk : Ok T H) : Pst (fun p => okXf (C + 1) p.2) (fX2_stopOrder o H) := by
  unfold fX2_stopOrder
  repeat' (first | (with_reducible refine pst_gd (fun _ => ?_)) | (with_reducible refine pst_cr (fun _ _ => ?_)) | (with_reducible refine pst_if (fun _ => ?_) (fun _ => ?_)) | (with_reducible refine pst_bnd ?_) | (with_reducible refine pst_some ?_))
  · exact h.mono (by omega)
  · obtain ⟨P, h1, h2⟩ := h
    refine okXf.mono (C := C) ⟨P, ?_, h2.stop hk.2.2.2.2.1⟩ (by omega)
    rw [hS_n H (by omega), hS_n H (by omega), hS_n H (by omega)]
    exact h1
  · exact h.mono (by omega)
/-! a day's mark -/
theorem cntB_le {b b' : Int → Bool} {lo : Int} : ∀ n : Nat, (∀ j : Int, lo ≤ j → j < lo + n → bI (b' j) ≤ bI (b j)) → cntB b' lo n ≤ cntB b lo n
  | 0, _ => Int.le_refl _
  | n + 1, h => by
    have h1 := cntB_le n (fun j h1 h2 => h j h1 (by omega))
    have h2 := h (lo + n) (by omega) (by omega)
    unfold cntB
    omega
theorem okXp.mark {P C d v : Int} {H : hR} (h : okXp P C H) (hw : okW H) (hd : 0 ≤ d ∧ d ≤ 1094) (ht : 0 ≤ H.1 0 6 0 ∧ H.1 0 6 0 ≤ 1094) (hv : (v = H.1 1 1 0 + 1 ∧ holB H d = false) ∨ (v = H.1 1 1 0 - 1 ∧ holB H d = true)) : okXp P (C + 1) (hS (flipH H d) 1 1 0 v) := by
  have x : ∀ t a f : Int, ¬ t = 6 → ¬ (t = 1 ∧ a = 1) → (hS (flipH H d) 1 1 0 v).1 t a f = H.1 t a f := fun t a f q1 q2 => by
    unfold flipH
    rw [hS_n _ (by omega), hS_n _ (by omega)]
  have hh : ∀ e : Int, 0 ≤ e ∧ e ≤ 1094 → holB (hS (flipH H d) 1 1 0 v) e = if e = d then !holB H e else holB H e := fun e he => by
    rw [← holB_flip hd he]
    unfold holB
    rw [hS_n _ (by omega)]
  have e1 : (hS (flipH H d) 1 1 0 v).1 1 1 0 = v := hS_p _ _ _ _ _
  have e6 : (hS (flipH H d) 1 1 0 v).1 0 6 0 = H.1 0 6 0 := x _ _ _ (by omega) (by omega)
  have a1 := h.1
  have key : 7 * futH (holB (hS (flipH H d) 1 1 0 v)) (H.1 0 6 0) ≤ 7 * futH (holB H) (H.1 0 6 0) + (if holB H d then 0 else 7) := by
    unfold futH
    cases hb : holB H d
    · have c1 := cntB_or (b := holB H) (x := d) (lo := H.1 0 6 0) (1095 - H.1 0 6 0).toNat
      rw [cntB_fr (b := fun e => holB H e || decide (d = e)) (b' := holB (hS (flipH H d) 1 1 0 v)) _ (fun j j1 j2 => by
        rw [hh j (by omega)]
        by_cases g : j = d
        · subst g
          rw [if_pos rfl, hb, decide_eq_true rfl]
          rfl
        · rw [if_neg g, decide_eq_false (by omega), Bool.or_false])]
      rw [if_neg (by decide)]
      split at c1 <;> omega
    · have c1 := cntB_le (b := holB H) (b' := holB (hS (flipH H d) 1 1 0 v)) (lo := H.1 0 6 0) (1095 - H.1 0 6 0).toNat (fun j j1 j2 => by
        rw [hh j (by omega)]
        by_cases g : j = d
        · subst g
          rw [if_pos rfl, hb]
          decide
        · rw [if_neg g]
          exact Int.le_refl _)
      rw [if_pos rfl]
      omega
  refine h.gen hw (by rw [e1]; omega) e6 ?_ ?_ (x _ _ _ (by omega) (by omega)) (x _ _ _ (by omega) (by omega)) (fun c i => x _ _ _ (by omega) (by omega)) (fun o f' q => x _ _ _ (by omega) (by omega))
  · unfold zP
    rw [e1, e6]
    rcases hv with ⟨v1, v2⟩ | ⟨v1, v2⟩
    · rw [v2, if_neg (by decide)] at key
      omega
    · rw [v2, if_pos rfl] at key
      omega
  · unfold uX
    rw [e1]
    omega
theorem bt_inv {v a b y : Int} (h : fX6_isBetween v a b = some y) (n : ¬ y = 0) : a ≤ v ∧ v ≤ b := by
  have : Pst (fun y => ¬ y = 0 → a ≤ v ∧ v ≤ b) (fX6_isBetween v a b) := by
    unfold fX6_isBetween
    exact pst_gd (fun _ => pst_if (fun _ => pst_some (fun q => absurd rfl q)) (fun g1 => pst_gd (fun _ => pst_if (fun _ => pst_some (fun q => absurd rfl q)) (fun g2 => pst_some (fun _ => by omega)))))
  exact this y h n
theorem x_mark {C T d s : Int} {H : hR} (h : okXf C H) (hk : Ok T H) : Pst (fun p => okXf (C + 1) p.2) (fX1_mark d s H) := by
  have ks := hk.2.1
  unfold okS at ks
  obtain ⟨P, h1, h2⟩ := h
  have same : okXf (C + 1) H := okXf.mono (C := C) ⟨P, h1, h2⟩ (by omega)
  have fl : ∀ v : Int, (0 ≤ d ∧ d ≤ 1094) → ((v = H.1 1 1 0 + 1 ∧ holB H d = false) ∨ (v = H.1 1 1 0 - 1 ∧ holB H d = true)) → okXf (C + 1) (hS (flipH H d) 1 1 0 v) := fun v hd hv => by
    refine ⟨P, ?_, h2.mark hk.2.2.2.2.1 hd (by omega) hv⟩
    have z1 : (hS (flipH H d) 1 1 0 v).1 1 1 0 = v := hS_p _ _ _ _ _
    have z2 : (hS (flipH H d) 1 1 0 v).1 0 6 0 = H.1 0 6 0 := by
      unfold flipH
      rw [hS_n _ (by omega), hS_n _ (by omega)]
    have z3 : (hS (flipH H d) 1 1 0 v).1 1 2 0 = H.1 1 2 0 := by
      unfold flipH
      rw [hS_n _ (by omega), hS_n _ (by omega)]
    rw [z1, z2, z3]
    omega
  unfold fX1_mark
  refine pst_cr (fun y1 q1 => pst_gd (fun _ => pst_if (fun _ => pst_some same) (fun n1 => ?_)))
  have g1 := bt_inv q1 n1
  refine pst_cr (fun y2 q2 => pst_gd (fun _ => pst_if (fun _ => pst_some same) (fun n2 => pst_cr (fun y3 q3 => ?_))))
  have g2 := bt_inv q2 n2
  rw [ec_isHol g1] at q3
  cases q3
  refine pst_gd (fun hs => ?_)
  unfold fX1_mark_b38 fX1_mark_b63 fX1_mark_b96
  refine pst_if (fun c1 => ?_) (fun c1 => ?_)
  · refine pst_gd (fun _ => pst_if (fun _ => pst_some same) (fun n3 => ?_))
    refine pst_gd (fun _ => pst_if (fun _ => ?_) (fun n4 => absurd c1 n4))
    refine pst_gd (fun _ => pst_if (fun _ => ?_) (fun _ => pst_some same))
    refine pst_gd (fun _ => pst_gd (fun _ => pst_bnd (pst_gd (fun _ => pst_if (fun _ => ?_) (fun n4 => absurd c1 n4)))))
    refine pst_bnd (pst_some (fl _ g1 (Or.inl ⟨?_, ?_⟩)))
    · rw [hS_n _ (by omega)]
    · cases hb : holB H d
      · rfl
      · rw [hb, bI_t rfl] at n3
        exact absurd rfl n3
  · refine pst_gd (fun _ => pst_if (fun _ => pst_some same) (fun n3 => ?_))
    refine pst_gd (fun _ => pst_if (fun n4 => absurd n4 c1) (fun _ => ?_))
    refine pst_gd (fun _ => pst_gd (fun _ => pst_bnd (pst_gd (fun _ => pst_if (fun n4 => absurd n4 c1) (fun _ => ?_)))))
    refine pst_bnd (pst_some (fl _ g1 (Or.inr ⟨?_, ?_⟩)))
    · rw [hS_n _ (by omega)]
      omega
    · cases hb : holB H d
      · rw [hb, bI_f rfl] at n3
        exact absurd rfl n3
      · rfl

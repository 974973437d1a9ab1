/-! ===== a payment that becomes due: the class's side ===== -/
theorem roomOK_dbl {r : Int} (h : roomOK r) (h8 : r ≤ 8400) : roomOK (2 * r) ∧ 2 * r ≤ 16384 := by
  obtain ⟨k, hk, rfl⟩ := h
  have : k = 0 ∨ k = 1 ∨ k = 2 ∨ k = 3 ∨ k = 4 ∨ k = 5 ∨ k = 6 ∨ k = 7 ∨ k = 8 := by omega
  rcases this with rfl | rfl | rfl | rfl | rfl | rfl | rfl | rfl | rfl
  · exact ⟨⟨1, by decide, by decide⟩, by decide⟩
  · exact ⟨⟨2, by decide, by decide⟩, by decide⟩
  · exact ⟨⟨3, by decide, by decide⟩, by decide⟩
  · exact ⟨⟨4, by decide, by decide⟩, by decide⟩
  · exact ⟨⟨5, by decide, by decide⟩, by decide⟩
  · exact ⟨⟨6, by decide, by decide⟩, by decide⟩
  · exact ⟨⟨7, by decide, by decide⟩, by decide⟩
  · exact ⟨⟨8, by decide, by decide⟩, by decide⟩
  · omega
def addedR (o a d t : Int) (H H1 : hR) : Prop := (∀ t' x f : Int, ¬ t' = 4 → ¬ t' = 5 → H1.1 t' x f = H.1 t' x f) ∧ H1.2 = H.2 ∧ H1.1 4 2 0 = H.1 4 2 0 + 1 ∧ (H.1 4 2 0 + 1 ≤ H1.1 4 1 0 ∧ roomOK (H1.1 4 1 0)) ∧ (∀ c i : Int, i < H.1 4 2 0 → H1.1 5 c i = H.1 5 c i) ∧ H1.1 5 0 (H.1 4 2 0) = o ∧ H1.1 5 1 (H.1 4 2 0) = a ∧ H1.1 5 2 (H.1 4 2 0) = d ∧ H1.1 5 3 (H.1 4 2 0) = t ∧ H1.1 5 4 (H.1 4 2 0) = 0
theorem ec_add39 {o a d t s : Int} {H : hR} (hs : H.1 4 2 0 = s) (h0 : 0 ≤ s ∧ s < H.1 4 1 0) (hr : roomOK (H.1 4 1 0)) : ∃ H1, fX5_add_b39 o a d t H = some (1, H1) ∧ addedR o a d t H H1 := by
  have hr' := roomOK_rng hr
  refine ⟨hS (hS (hS (hS (hS (hS H 5 0 s o) 5 1 s a) 5 2 s d) 5 3 s t) 5 4 s 0) 4 2 0 (s + 1), po_eq ?_, ?_⟩
  · unfold fX5_add_b39
    rw [hs]
    refine po_gd (by omega) (po_bnd ?_)
    rw [hS_n H (show ¬ ((4 : Int) = 5 ∧ (2 : Int) = 0 ∧ (0 : Int) = s) by omega), hs, hS_n H (show ¬ ((4 : Int) = 5 ∧ (1 : Int) = 0 ∧ (0 : Int) = s) by omega)]
    refine po_gd (by omega) (po_bnd ?_)
    rw [hS_n _ (show ¬ ((4 : Int) = 5 ∧ (2 : Int) = 1 ∧ (0 : Int) = s) by omega), hS_n _ (show ¬ ((4 : Int) = 5 ∧ (1 : Int) = 1 ∧ (0 : Int) = s) by omega), hS_n H (show ¬ ((4 : Int) = 5 ∧ (2 : Int) = 0 ∧ (0 : Int) = s) by omega), hs, hS_n H (show ¬ ((4 : Int) = 5 ∧ (1 : Int) = 0 ∧ (0 : Int) = s) by omega)]
    have e : ∀ (G : hR) (c v : Int), G.1 4 2 0 = s → (hS G 5 c s v).1 4 2 0 = s := fun G c v h => (hS_n G (by omega)).trans h
    have e1 : ∀ (G : hR) (c v : Int), G.1 4 1 0 = H.1 4 1 0 → (hS G 5 c s v).1 4 1 0 = H.1 4 1 0 := fun G c v h => (hS_n G (by omega)).trans h
    have a1 := e (hS H 5 0 s o) 1 a (e H 0 o hs)
    have a2 := e _ 2 d a1
    have a3 := e _ 3 t a2
    have a4 := e _ 4 0 a3
    have b1 := e1 (hS H 5 0 s o) 1 a (e1 H 0 o rfl)
    have b2 := e1 _ 2 d b1
    have b3 := e1 _ 3 t b2
    refine po_gd (by omega) (po_bnd ?_)
    rw [a2, b2]
    refine po_gd (by omega) (po_bnd ?_)
    rw [a3, b3]
    refine po_gd (by omega) (po_bnd ?_)
    rw [a4]
    exact po_bnd (po_some rfl)
  · unfold addedR
    rw [hs]
    refine ⟨fun t' x f h4 h5 => ?_, rfl, hS_p _ _ _ _ _, ⟨?_, ?_⟩, fun c i hi => ?_, ?_, ?_, ?_, ?_, ?_⟩
    · rw [hS_n _ (by omega), hS_n _ (by omega), hS_n _ (by omega), hS_n _ (by omega), hS_n _ (by omega), hS_n _ (by omega)]
    · rw [hS_n _ (by omega), hS_n _ (by omega), hS_n _ (by omega), hS_n _ (by omega), hS_n _ (by omega), hS_n _ (by omega)]
      omega
    · rw [hS_n _ (by omega), hS_n _ (by omega), hS_n _ (by omega), hS_n _ (by omega), hS_n _ (by omega), hS_n _ (by omega)]
      exact hr
    · rw [hS_n _ (by omega), hS_n _ (by omega), hS_n _ (by omega), hS_n _ (by omega), hS_n _ (by omega), hS_n _ (by omega)]
    · rw [hS_n _ (by omega), hS_n _ (by omega), hS_n _ (by omega), hS_n _ (by omega), hS_n _ (by omega), hS_p]
    · rw [hS_n _ (by omega), hS_n _ (by omega), hS_n _ (by omega), hS_n _ (by omega), hS_p]
    · rw [hS_n _ (by omega), hS_n _ (by omega), hS_n _ (by omega), hS_p]
    · rw [hS_n _ (by omega), hS_n _ (by omega), hS_p]
    · rw [hS_n _ (by omega), hS_p]
theorem ec_add {o a d t : Int} {H : hR} (hk : okN H) (h8 : H.1 4 2 0 ≤ 8399) : ∃ H1, fX5_add o a d t H = some (1, H1) ∧ addedR o a d t H H1 := by
  unfold okN at hk
  obtain ⟨k1, k2, k3, k4, k5⟩ := hk
  have hr := roomOK_rng k5
  by_cases g : H.1 4 2 0 < H.1 4 1 0
  · obtain ⟨H1, e1, e2⟩ := ec_add39 (o := o) (a := a) (d := d) (t := t) (H := H) rfl ⟨k3.1, g⟩ k5
    refine ⟨H1, po_eq ?_, e2⟩
    unfold fX5_add
    exact po_gd (by omega) (po_ift (by omega) (po_gd (by omega) (po_ift g (po_of e1 rfl))))
  · obtain ⟨d1, d2⟩ := roomOK_dbl k5 (by omega)
    have g1 : (hGrow H (2 * H.1 4 1 0)).1 4 1 0 = 2 * H.1 4 1 0 := by simp [hGrow]
    have gx : ∀ t' x f : Int, ¬ (t' = 4 ∧ x = 1 ∧ f = 0) → ¬ (t' = 5 ∧ H.1 4 1 0 ≤ f) → (hGrow H (2 * H.1 4 1 0)).1 t' x f = H.1 t' x f := fun t' x f a b => (if_neg a).trans (if_neg b)
    have g2 : (hGrow H (2 * H.1 4 1 0)).1 4 2 0 = H.1 4 2 0 := gx _ _ _ (by omega) (by omega)
    obtain ⟨H1, e1, ⟨q1, q2, q3, q4, q5, q6⟩⟩ := ec_add39 (o := o) (a := a) (d := d) (t := t) (H := hGrow H (2 * H.1 4 1 0)) g2 ⟨k3.1, by omega⟩ (by rw [g1]; exact d1)
    rw [g2] at q3 q4 q5 q6
    refine ⟨H1, po_eq ?_, ⟨fun t' x f h4 h5 => (q1 t' x f h4 h5).trans (gx _ _ _ (by omega) (by omega)), q2, q3, q4, fun c i hi => (q5 c i hi).trans (gx _ _ _ (by omega) (by omega)), q6⟩⟩
    have em : fX5_makeRoom (min (2 * H.1 4 1 0) 17520) H = some ((), hGrow H (2 * H.1 4 1 0)) := by
      rw [show min (2 * H.1 4 1 0) 17520 = 2 * H.1 4 1 0 by omega]
      unfold fX5_makeRoom
      rw [gd_pos (by omega), if_neg (by omega), gd_pos (by omega)]
    unfold fX5_add
    exact po_gd (by omega) (po_ift (by omega) (po_gd (by omega) (po_iff g (po_gd (by omega) (po_cle em (po_of e1 rfl))))))
/-! an order's next occurrence is taken -/
def leftN (H : hR) (o : Int) : Int := if H.1 3 o 9 = 0 then H.1 3 o 10 - 1 else H.1 3 o 10
def skipR (o k : Int) (H H2 : hR) : Prop := (∀ t a f : Int, ¬ (t = 3 ∧ a = o ∧ (f = 10 ∨ f = 14 ∨ f = 16 ∨ f = 17 ∨ f = 18 ∨ f = 19)) → H2.1 t a f = H.1 t a f) ∧ H2.2 = H.2 ∧ H2.1 3 o 10 = leftN H o ∧ H2.1 3 o 14 = H.1 3 o 14 + 1 ∧ H2.1 3 o 16 = k + 1
def takeR (o k d t : Int) (H H2 : hR) : Prop := (∀ t a f : Int, ¬ (t = 3 ∧ a = o ∧ (f = 10 ∨ f = 15 ∨ f = 16 ∨ f = 17 ∨ f = 18 ∨ f = 19)) → ¬ (t = 2 ∧ a = H.1 3 o 0 ∧ f = 11) → ¬ t = 4 → ¬ t = 5 → H2.1 t a f = H.1 t a f) ∧ H2.2 = H.2 ∧ H2.1 3 o 10 = leftN H o ∧ H2.1 3 o 15 = H.1 3 o 15 + 1 ∧ H2.1 3 o 16 = k + 1 ∧ H2.1 2 (H.1 3 o 0) 11 = H.1 2 (H.1 3 o 0) 11 + H.1 3 o 2 ∧ H2.1 4 2 0 = H.1 4 2 0 + 1 ∧ (H.1 4 2 0 + 1 ≤ H2.1 4 1 0 ∧ roomOK (H2.1 4 1 0)) ∧ (∀ c i : Int, i < H.1 4 2 0 → H2.1 5 c i = H.1 5 c i) ∧ H2.1 5 0 (H.1 4 2 0) = o ∧ H2.1 5 1 (H.1 4 2 0) = H.1 3 o 2 ∧ H2.1 5 2 (H.1 4 2 0) = d ∧ H2.1 5 3 (H.1 4 2 0) = t ∧ H2.1 5 4 (H.1 4 2 0) = 0
theorem ec_take {b : Int → Bool} {H : hR} {o k d t : Int} {α : Type} {kk : hR → Option α} {R : α → Prop} (hb : calC H b) (hk : okOrd H o) (hp : okP H o) (hN : okN H) (ho : 0 ≤ o ∧ o < H.1 0 5 0) (h8 : H.1 4 2 0 ≤ 8399) (h0 : H.1 0 6 0 = t) (ht : 0 ≤ t ∧ t ≤ 1094) (h17 : H.1 3 o 17 = k) (h18 : H.1 3 o 18 = d) (hkr : 0 ≤ k ∧ k ≤ 1094) (hd : 0 ≤ d ∧ d ≤ 1094)
    (hs : (H.1 3 o 7 = 4 ∧ b d = false) → ∀ H2, skipR o k H H2 → aimed b H2 o → po (kk H2) R) (ha : ¬ (H.1 3 o 7 = 4 ∧ b d = false) → ∀ H2, takeR o k d t H H2 → aimed b H2 o → po (kk H2) R) :
    po (cl (fX2_takeNextOccurrence o H) fun _ H56 => bnd (hS H56 3 o 16 ((H56.1 3 o 17) + 1)) fun H66 => cl (fX3_aim o H66) fun _ H74 => kk H74) R := by
  have hN' := hN
  unfold okN at hN
  have hp' := hp
  unfold okP at hp'
  have hk' := hk
  unfold okOrd at hk'
  -- the left
  have hl : ∃ HL, fX2_takeNextOccurrence o H = fX2_takeNextOccurrence_b24 o o HL ∧ (∀ t a f : Int, ¬ (t = 3 ∧ a = o ∧ f = 10) → HL.1 t a f = H.1 t a f) ∧ HL.2 = H.2 ∧ HL.1 3 o 10 = leftN H o := by
    unfold fX2_takeNextOccurrence
    by_cases g : H.1 3 o 9 = 0
    · refine ⟨hS H 3 o 10 (H.1 3 o 10 - 1), ?_, fun t a f q => hS_n H q, rfl, ?_⟩
      · rw [gd_pos (by omega), gd_pos (by omega), if_pos g, bnd_eq]
      · rw [hS_p]
        unfold leftN
        rw [if_pos g]
    · refine ⟨H, ?_, fun _ _ _ _ => rfl, rfl, ?_⟩
      · rw [gd_pos (by omega), gd_pos (by omega), if_neg g]
      · unfold leftN
        rw [if_neg g]
  obtain ⟨HL, l1, l2, l3, l4⟩ := hl
  -- behind it: from, aim
  have fin : ∀ H1 : hR, (∀ f : Int, 3 ≤ f ∧ f ≤ 7 → H1.1 3 o f = H.1 3 o f) → (∀ a : Int, H1.1 6 a 0 = H.1 6 a 0) → H1.1 1 2 0 = H.1 1 2 0 → H1.1 3 o 17 = k → (∀ H2, onlyNext o H1 H2 → H2.1 3 o 16 = k + 1 → aimed b H2 o → po (kk H2) R) →
      po (bnd (hS H1 3 o 16 ((H1.1 3 o 17) + 1)) fun H66 => cl (fX3_aim o H66) fun _ H74 => kk H74) R := by
    intro H1 e1 e2 e3 e4 hq
    rw [e4]
    have b1 : calC (hS H1 3 o 16 (k + 1)) b := hb.fr (fun a => by rw [hS_n H1 (by omega)]; exact e2 a) (by rw [hS_n H1 (by omega)]; exact e3)
    have k1 : okOrd (hS H1 3 o 16 (k + 1)) o := hk.fr (fun f hf => by rw [hS_n H1 (by omega)]; exact e1 f hf)
    obtain ⟨⟨u, H2⟩, a1, a2, a3⟩ := ec_aim (o := o) b1 k1 (by rw [hS_p]; omega)
    refine po_bnd (po_cle a1 (hq H2 ⟨fun t a f q => (a2.1 t a f (by omega)).trans (hS_n H1 (by omega)), a2.2⟩ ((a2.1 3 o 16 (by omega)).trans (hS_p _ _ _ _ _)) a3))
  have f2 : HL.1 3 o 2 = H.1 3 o 2 := l2 _ _ _ (by omega)
  have f18 : HL.1 3 o 18 = d := (l2 _ _ _ (by omega)).trans h18
  have f7 : HL.1 3 o 7 = H.1 3 o 7 := l2 _ _ _ (by omega)
  have bL : calC HL b := hb.fr (fun a => l2 _ _ _ (by omega)) (l2 _ _ _ (by omega))
  have nL : okN HL := hN'.fr (l2 _ _ _ (by omega)) (l2 _ _ _ (by omega)) (l2 _ _ _ (by omega)) (l2 _ _ _ (by omega))
  have e42 : HL.1 4 2 0 = H.1 4 2 0 := l2 _ _ _ (by omega)
  have e06 : HL.1 0 6 0 = t := (l2 _ _ _ (by omega)).trans h0
  have e30 : HL.1 3 o 0 = H.1 3 o 0 := l2 _ _ _ (by omega)
  rw [l1]
  -- taken
  have tk : ¬ (H.1 3 o 7 = 4 ∧ b d = false) → po (cl (fX2_takeNextOccurrence_b57 o o HL) fun _ H56 => bnd (hS H56 3 o 16 ((H56.1 3 o 17) + 1)) fun H66 => cl (fX3_aim o H66) fun _ H74 => kk H74) R := by
    intro g
    obtain ⟨H1, a1, a2, a3, a4, a5, a6, a7, a8, a9, a10, a11⟩ := ec_add (o := o) (a := H.1 3 o 2) (d := d) (t := t) nL (by omega)
    rw [e42] at a4 a5 a6 a7 a8 a9 a10 a11
    have g30 : H1.1 3 o 0 = H.1 3 o 0 := (a2 _ _ _ (by omega) (by omega)).trans e30
    have g32 : H1.1 3 o 2 = H.1 3 o 2 := (a2 _ _ _ (by omega) (by omega)).trans f2
    have g15 : H1.1 3 o 15 = H.1 3 o 15 := (a2 _ _ _ (by omega) (by omega)).trans (l2 _ _ _ (by omega))
    have g11 : H1.1 2 (H.1 3 o 0) 11 = H.1 2 (H.1 3 o 0) 11 := (a2 _ _ _ (by omega) (by omega)).trans (l2 _ _ _ (by omega))
    have e57 : fX2_takeNextOccurrence_b57 o o HL = some ((), hS (hS H1 3 o 15 (H.1 3 o 15 + 1)) 2 (H.1 3 o 0) 11 (H.1 2 (H.1 3 o 0) 11 + H.1 3 o 2)) := by
      refine po_eq ?_
      unfold fX2_takeNextOccurrence_b57
      rw [f2, f18, e06]
      refine po_cle a1 (po_gd (by omega) (po_iff (by omega) (po_bnd ?_)))
      rw [g15, hS_n H1 (show ¬ ((3 : Int) = 3 ∧ o = o ∧ (0 : Int) = 15) by omega), hS_n H1 (show ¬ ((3 : Int) = 3 ∧ o = o ∧ (2 : Int) = 15) by omega), g30, g32, hS_n H1 (show ¬ ((2 : Int) = 3 ∧ H.1 3 o 0 = o ∧ (11 : Int) = 15) by omega), g11]
      exact po_gd (by omega) (po_gd (by omega) (po_bnd (po_some rfl)))
    have c : ∀ t a f : Int, ¬ (t = 3 ∧ a = o ∧ f = 15) → ¬ (t = 2 ∧ a = H.1 3 o 0 ∧ f = 11) → (hS (hS H1 3 o 15 (H.1 3 o 15 + 1)) 2 (H.1 3 o 0) 11 (H.1 2 (H.1 3 o 0) 11 + H.1 3 o 2)).1 t a f = H1.1 t a f := fun t a f q1 q2 => by rw [hS_n _ q2, hS_n _ q1]
    refine po_cle e57 (fin _ (fun f hf => ?_) (fun a => ?_) ?_ ?_ (fun H2 n1 n2 n3 => ha g H2 ⟨fun t a f q1 q2 q3 q4 => ?_, ?_, ?_, ?_, n2, ?_, ?_, ?_, fun c' i hi => ?_, ?_, ?_, ?_, ?_, ?_⟩ n3))
    · rw [c _ _ _ (by omega) (by omega), a2 _ _ _ (by omega) (by omega)]
      exact l2 _ _ _ (by omega)
    · rw [c _ _ _ (by omega) (by omega), a2 _ _ _ (by omega) (by omega)]
      exact l2 _ _ _ (by omega)
    · rw [c _ _ _ (by omega) (by omega), a2 _ _ _ (by omega) (by omega)]
      exact l2 _ _ _ (by omega)
    · rw [c _ _ _ (by omega) (by omega), a2 _ _ _ (by omega) (by omega), l2 _ _ _ (by omega)]
      exact h17
    · rw [n1.1 t a f (by omega), c _ _ _ (by omega) (by omega), a2 _ _ _ q3 q4]
      exact l2 _ _ _ (by omega)
    · rw [n1.2]
      exact a3.trans l3
    · rw [n1.1 3 o 10 (by omega), c _ _ _ (by omega) (by omega), a2 _ _ _ (by omega) (by omega)]
      exact l4
    · rw [n1.1 3 o 15 (by omega), hS_n _ (by omega), hS_p]
    · rw [n1.1 _ _ _ (by omega), hS_p]
    · rw [n1.1 _ _ _ (by omega), c _ _ _ (by omega) (by omega)]
      exact a4
    · rw [n1.1 4 1 0 (by omega), c _ _ _ (by omega) (by omega)]
      exact a5
    · rw [n1.1 _ _ _ (by omega), c _ _ _ (by omega) (by omega), a6 c' i hi]
      exact l2 _ _ _ (by omega)
    · rw [n1.1 _ _ _ (by omega), c _ _ _ (by omega) (by omega)]
      exact a7
    · rw [n1.1 _ _ _ (by omega), c _ _ _ (by omega) (by omega)]
      exact a8
    · rw [n1.1 _ _ _ (by omega), c _ _ _ (by omega) (by omega)]
      exact a9
    · rw [n1.1 _ _ _ (by omega), c _ _ _ (by omega) (by omega)]
      exact a10
    · rw [n1.1 _ _ _ (by omega), c _ _ _ (by omega) (by omega)]
      exact a11
  by_cases g : H.1 3 o 7 = 4
  · have hz := bL d hd
    have e24 : fX2_takeNextOccurrence_b24 o o HL = if bI (b d) = 0 then some ((), hS HL 3 o 14 (HL.1 3 o 14 + 1)) else fX2_takeNextOccurrence_b57 o o HL := by
      have := bI_rng (b d)
      unfold fX2_takeNextOccurrence_b24
      rw [f7, g, gd_pos (by omega), if_pos rfl, f18, hz, cr_some, gd_pos (by omega)]
      rfl
    rw [e24]
    cases hbd : b d
    · rw [bI_f rfl, if_pos rfl]
      have c : ∀ t a f : Int, ¬ (t = 3 ∧ a = o ∧ f = 14) → (hS HL 3 o 14 (HL.1 3 o 14 + 1)).1 t a f = HL.1 t a f := fun t a f q => hS_n HL q
      refine po_cls (fin _ (fun f hf => ?_) (fun a => ?_) ?_ ?_ (fun H2 n1 n2 n3 => hs ⟨g, hbd⟩ H2 ⟨fun t a f q => ?_, ?_, ?_, ?_, n2⟩ n3))
      · rw [c _ _ _ (by omega)]
        exact l2 _ _ _ (by omega)
      · rw [c _ _ _ (by omega)]
        exact l2 _ _ _ (by omega)
      · rw [c _ _ _ (by omega)]
        exact l2 _ _ _ (by omega)
      · rw [c _ _ _ (by omega), l2 _ _ _ (by omega)]
        exact h17
      · rw [n1.1 t a f (by omega), c _ _ _ (by omega)]
        exact l2 _ _ _ (by omega)
      · rw [n1.2]
        exact l3
      · rw [n1.1 3 o 10 (by omega), c _ _ _ (by omega)]
        exact l4
      · rw [n1.1 3 o 14 (by omega), hS_p, l2 _ _ _ (by omega)]
    · rw [bI_t rfl, if_neg (by omega)]
      exact tk (fun q => by rw [hbd] at q; exact absurd q.2 (by decide))
  · have e24 : fX2_takeNextOccurrence_b24 o o HL = fX2_takeNextOccurrence_b57 o o HL := by
      unfold fX2_takeNextOccurrence_b24
      rw [f7, gd_pos (by omega), if_neg g]
    rw [e24]
    exact tk (fun q => g q.1)

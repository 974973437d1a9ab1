/-! ===== order in step ===== -/
theorem Cor.addO {H H' : hR} {m m' : mR} {o : Int} (h : CorM H m) (hk : okN H) (ho : H.1 0 5 0 = o) (h16 : o < 16)
    (hH : ∀ t x y : Int, ¬ (t = 0 ∧ x = 5 ∧ y = 0) → ¬ (t = 3 ∧ x = o) → H'.1 t x y = H.1 t x y) (hD : H'.2 = H.2) (h5 : H'.1 0 5 0 = o + 1)
    (hN : ∀ j : Int, ¬ j = 2 → ¬ (121 + 16 * o ≤ j ∧ j ≤ 136 + 16 * o) → m'.1 0 j = m.1 0 j) (hN2 : m'.1 0 2 = o + 1) (hW : m'.1 1 = m.1 1) (hO : m'.2 0 = m.2 0) (hr : corR H' (m'.1 0) o) : CorM H' m' := by
  obtain ⟨h1, h2, h3, h4, h5'⟩ := h
  unfold okN at hk
  have e1 := h1.2.1
  obtain ⟨g1, g2, g3, g4, g5, g6, g7, g8, g9, g10⟩ := h1
  refine ⟨⟨?_, ?_, ?_, ?_, ?_, ?_, ?_, ?_, ?_, ?_⟩, h2.fr (fun x => hH _ _ _ (by omega) (by omega)) (fun k q => hN _ (by omega) (by omega)), h3.fr (fun a f q => hH _ _ _ (by omega) (by omega)) (fun a => by rw [hD]) (fun k q => hN _ (by omega) (by omega)) (fun a => by rw [hO]) (by omega), ?_, ?_⟩
  · rw [hN _ (by omega) (by omega), hH _ _ _ (by omega) (by omega)]; exact g1
  · rw [hN _ (by omega) (by omega), hH _ _ _ (by omega) (by omega)]; exact g2
  · rw [hN2, h5]
  · rw [hN _ (by omega) (by omega), hH _ _ _ (by omega) (by omega)]; exact g4
  · rw [hN _ (by omega) (by omega), hH _ _ _ (by omega) (by omega)]; exact g5
  · rw [hN _ (by omega) (by omega), hH _ _ _ (by omega) (by omega)]; exact g6
  · rw [hN _ (by omega) (by omega), hH _ _ _ (by omega) (by omega)]; exact g7
  · rw [hN _ (by omega) (by omega), hH _ _ _ (by omega) (by omega)]; exact g8
  · rw [hN _ (by omega) (by omega), hH _ _ _ (by omega) (by omega)]; exact g9
  · rw [hN _ (by omega) (by omega), hH _ _ _ (by omega) (by omega)]; exact g10
  · intro x hx f hf
    rw [hN2] at hx
    by_cases q : x = o
    · subst q
      exact hr f hf
    · rw [hN _ (by omega) (by omega), ordN_fr (H := H) (fun f _ => hH _ _ _ (by omega) (by omega)) hf]
      exact h4 x (by omega) f hf
  · rw [hN _ (by omega) (by omega), hW]
    exact h5'.fr (fun c i q => hH _ _ _ (by omega) (by omega)) (fun i q => rfl) (Int.le_refl _)
theorem cntW_0 {H : hR} {o : Int} : ∀ n : Nat, (∀ i : Int, 0 ≤ i ∧ i < n → ¬ H.1 5 0 i = o) → cntW H o n = 0
  | 0, _ => rfl
  | n + 1, h => by
    unfold cntW
    rw [cntW_0 n (fun i hi => h i (by omega)), if_neg (h n (by omega))]
    rfl
theorem Ok.addO {T T' : Int} {H H' : hR} {o : Int} (h : Ok T H) (hT : T ≤ T') (ho : H.1 0 5 0 = o) (h16 : o < 16)
    (hH : ∀ t x y : Int, ¬ (t = 0 ∧ x = 5 ∧ y = 0) → ¬ (t = 3 ∧ x = o) → H'.1 t x y = H.1 t x y) (hD : H'.2 = H.2) (h5 : H'.1 0 5 0 = o + 1) (q1 : okOrd H' o) (q2 : okP H' o) (q3 : okC H' o) (h15 : H'.1 3 o 15 = 0) : Ok T' H' := by
  obtain ⟨k1, k2, k3, k4, k5, k6, k7, k8⟩ := h
  have g : ∀ t x y : Int, ¬ t = 3 → ¬ (t = 0 ∧ x = 5) → H'.1 t x y = H.1 t x y := fun t x y a b => hH t x y (by omega) (by omega)
  have k1' := k1
  unfold okN at k1'
  refine ⟨?_, k2.fr (fun t x q => g _ _ _ (by omega) (by omega)), k3.fr (g _ _ _ (by omega) (by omega)) (fun a f q => g _ _ _ (by omega) (by omega)), ?_, ⟨fun i hi => ?_, fun i j hi hij hj => ?_⟩, ⟨fun a ha => ?_, fun x hx => ?_⟩, k7.fr hT (g _ _ _ (by omega) (by omega)) (g _ _ _ (by omega) (by omega)) (fun a f q => g _ _ _ (by omega) (by omega)), k8.fr (g _ _ _ (by omega) (by omega)) (g _ _ _ (by omega) (by omega)) (fun a => g _ _ _ (by omega) (by omega)) hD⟩
  · unfold okN
    rw [h5, g 0 4 0 (by omega) (by omega), g 4 2 0 (by omega) (by omega), g 4 1 0 (by omega) (by omega)]
    exact ⟨k1'.1, by omega, k1'.2.2⟩
  · intro x hx
    rw [h5] at hx
    by_cases q : x = o
    · subst q
      exact ⟨q1, q2, q3⟩
    · obtain ⟨w1, w2, w3⟩ := k4 x (by omega)
      have e : ∀ f : Int, H'.1 3 x f = H.1 3 x f := fun f => hH _ _ _ (by omega) (by omega)
      refine ⟨w1.fr (fun f _ => e f), ?_, ?_⟩
      · unfold okP at *
        rw [e, e, e, e, e, e, e, g 0 4 0 (by omega) (by omega)]
        exact w2
      · unfold okC at *
        rw [e, e, e, e, e]
        exact w3
  · rw [g 4 2 0 (by omega) (by omega)] at hi
    rw [g 5 0 i (by omega) (by omega), g 5 1 i (by omega) (by omega), g 5 2 i (by omega) (by omega), g 5 3 i (by omega) (by omega), g 5 4 i (by omega) (by omega), h5]
    have := k5.1 i hi
    omega
  · rw [g 4 2 0 (by omega) (by omega)] at hj
    rw [g 5 3 i (by omega) (by omega), g 5 3 j (by omega) (by omega), g 5 0 i (by omega) (by omega), g 5 0 j (by omega) (by omega)]
    exact k5.2 i j hi hij hj
  · rw [g 0 4 0 (by omega) (by omega)] at ha
    rw [g 2 a 11 (by omega) (by omega), g 4 2 0 (by omega) (by omega), sumW_fr (H := H) _ (fun c i _ => g _ _ _ (by omega) (by omega)) (fun i hi => ?_)]
    · exact k6.1 a ha
    · have := (k5.1 i (by omega)).1
      exact hH _ _ _ (by omega) (by omega)
  · rw [h5] at hx
    rw [g 4 2 0 (by omega) (by omega), cntW_fr (H := H) _ (fun i _ => g _ _ _ (by omega) (by omega))]
    by_cases q : x = o
    · subst q
      rw [h15, cntW_0]
      intro i hi
      have := (k5.1 i (by omega)).1
      omega
    · rw [hH 3 x 15 (by omega) (by omega)]
      exact k6.2 x (by omega)
theorem Tot.addO {H H' : hR} {N N' : Int → Int} {o : Int} (h : Tot H N) (ho : H.1 0 5 0 = o) (h0 : 0 ≤ o) (hH : ∀ x f : Int, ¬ x = o → H'.1 3 x f = H.1 3 x f) (h5 : H'.1 0 5 0 = o + 1) (hz : ∀ f : Int, 12 ≤ f ∧ f ≤ 14 → H'.1 3 o f = 0) (hN : ∀ k : Int, 5 ≤ k ∧ k ≤ 7 → N' k = N k) : Tot H' N' := by
  have e : ∀ f : Int, 12 ≤ f ∧ f ≤ 14 → sumF H' f (H'.1 0 5 0).toNat = sumF H f (H.1 0 5 0).toNat := by
    intro f hf
    rw [h5, ho, show (o + 1).toNat = o.toNat + 1 by omega]
    show sumF H' f o.toNat + H'.1 3 (o.toNat : Nat) f = _
    rw [show ((o.toNat : Nat) : Int) = o by omega, hz f hf, sumF_fr (H := H) _ (fun i hi => hH i f (by omega))]
    omega
  unfold Tot at *
  rw [hN 5 (by decide), hN 6 (by decide), hN 7 (by decide), e 12 (by decide), e 13 (by decide), e 14 (by decide)]
  exact h
theorem ls_order {T : Int} {H : hR} {m : mR} (h : Sim T H m) {x1 x2 x3 x4 x5 x6 : Int} (h1 : wR x1) (h2 : wR x2) (h3 : wR x3) (h4 : wR x4) (h5 : wR x5) (h6 : wR x6) : coreOK T H m (fX2_addOrder x1 x2 x3 x4 x5 x6 H) (fX7_checksOrder x1 x2 x3 x4 x5 x6 m) (fX7_makes x1 x2 x3 x4 x5 x6 m) := by
  rcases ls_ordchk h h1 h2 h3 h4 h5 h6 with ⟨r, r1, r2, r3, r4⟩ | ⟨⟨⟨a1, a2, a3, a4⟩, b2, b3, b4, b5, b6, b7⟩, c1, c2⟩
  · exact ⟨r, H, r3, by omega, Or.inl ⟨r1, r2, rfl, r4⟩⟩
  · have k1 := h.2.2.1
    have k1' := k1
    unfold okN at k1'
    have ks := h.2.2.2.1
    have ks' := ks
    unfold okS at ks'
    have hd := ec_dates h3
    rw [b3, bI_t rfl] at hd
    have b3' : (0 ≤ x3 ∧ x3 ≤ 39999) ∧ (1 ≤ x3 / 100 % 100 ∧ x3 / 100 % 100 ≤ 12) ∧ 1 ≤ x3 % 100 ∧ x3 % 100 ≤ 31 := of_decide_eq_true b3
    have e0 : m.1 0 0 = H.1 0 6 0 := h.1.1.1
    have e2 : m.1 0 2 = H.1 0 5 0 := h.1.1.2.2.1
    have e12 : m.1 0 12 = H.1 1 2 0 := h.1.1.2.2.2.2.2.2.2.2.2
    obtain ⟨bc, bm⟩ := cal_both h.1 ks.2.1
    obtain ⟨⟨u, H1⟩, f1, f2, f3, p0, p1, p2, p3, p4, p5, p6, p7, p8, p9, p10, p11⟩ := ec_begin (H := H) (o := H.1 0 5 0) (x1 := x1) (x2 := x2) (x3 := x3) (x4 := x4) (x5 := x5) (x6 := x6) (by omega) (by omega) (by omega) h6
    have f2 : ∀ t x y : Int, ¬ (t = 3 ∧ x = H.1 0 5 0) → H1.1 t x y = H.1 t x y := f2
    have f3 : H1.2 = H.2 := f3
    have p0 : H1.1 3 (H.1 0 5 0) 0 = x1 / 9 := p0
    have p1 : H1.1 3 (H.1 0 5 0) 1 = if x1 % 9 = 8 then -6 else x1 % 9 := p1
    have p2 : H1.1 3 (H.1 0 5 0) 2 = x2 := p2
    have p3 : H1.1 3 (H.1 0 5 0) 3 = x3 / 10000 := p3
    have p4 : H1.1 3 (H.1 0 5 0) 4 = x3 / 100 % 100 := p4
    have p5 : H1.1 3 (H.1 0 5 0) 5 = x3 % 100 := p5
    have p6 : H1.1 3 (H.1 0 5 0) 6 = x4 := p6
    have p7 : H1.1 3 (H.1 0 5 0) 7 = x5 / 10 := p7
    have p8 : H1.1 3 (H.1 0 5 0) 8 = x5 % 10 := p8
    have p9 : H1.1 3 (H.1 0 5 0) 9 = if x6 = 0 then 1 else 0 := p9
    have p10 : H1.1 3 (H.1 0 5 0) 10 = x6 := p10
    have p11 : ∀ f : Int, 11 ≤ f ∧ f ≤ 16 → H1.1 3 (H.1 0 5 0) f = 0 := p11
    have ko : okOrd H1 (H.1 0 5 0) := by
      unfold okOrd
      rw [p3, p4, p5, p6, p7]
      omega
    have key : po (fX7_makes x1 x2 x3 x4 x5 x6 m) (fun q => ∃ H2, fX2_addOrder_b50 x1 x2 x3 x4 x5 x6 H = some (H.1 0 5 0, H2) ∧ q.1 = H.1 0 5 0 ∧ Sim (T + 1) H2 q.2 ∧ keptEq m q.2) := by
      unfold fX7_makes
      refine po_cre (ev_of (by decide)) (po_bnd ?_)
      rw [e2]
      refine em_make16 (by omega) (by omega) h2 (by omega) h4 (by omega) h6 _ 16 fuel0 0 _ (by decide) (by decide) (by decide) (fun m2 w1 w2 w3 w4 => ?_)
      have rd : ∀ j : Int, ¬ (121 + 16 * H.1 0 5 0 ≤ j ∧ j ≤ 136 + 16 * H.1 0 5 0) → ¬ j = 2 → m2.1 0 j = m.1 0 j := fun j q1 q2 => by
        rw [w1 j, if_neg q1, mS_n m (by omega)]
      have rn : ∀ f : Int, 0 ≤ f ∧ f ≤ 15 → m2.1 0 (121 + 16 * H.1 0 5 0 + f) = newN x1 x2 x3 x4 x5 x6 f := fun f hf => by
        rw [w1, if_pos (by omega), if_pos (by omega), show 121 + 16 * H.1 0 5 0 + f - (121 + 16 * H.1 0 5 0) = f by omega]
      have r2 : m2.1 0 2 = H.1 0 5 0 + 1 := by rw [w1, if_neg (by omega), mS_p]
      have hcr : corR H1 (m2.1 0) (H.1 0 5 0) := fun f hf => by
        rw [rn f hf]
        have : f = 0 ∨ f = 1 ∨ f = 2 ∨ f = 3 ∨ f = 4 ∨ f = 5 ∨ f = 6 ∨ f = 7 ∨ f = 8 ∨ f = 9 ∨ (10 ≤ f ∧ f ≤ 13) ∨ f = 14 ∨ f = 15 := by omega
        rcases this with rfl | rfl | rfl | rfl | rfl | rfl | rfl | rfl | rfl | rfl | hq | rfl | rfl
        · exact p0.symm
        · show x1 % 9 = if H1.1 3 (H.1 0 5 0) 1 = -6 then 8 else H1.1 3 (H.1 0 5 0) 1
          rw [p1]
          by_cases c : x1 % 9 = 8
          · rw [if_pos c, if_pos rfl]; exact c
          · rw [if_neg c, if_neg (by omega)]
        · exact p2.symm
        · exact p3.symm
        · exact p4.symm
        · exact p5.symm
        · exact p6.symm
        · exact p7.symm
        · exact p8.symm
        · show x6 = if H1.1 3 (H.1 0 5 0) 11 = 2 then 0 else H1.1 3 (H.1 0 5 0) 10
          rw [p11 11 (by decide), if_neg (by decide), p10]
        · have : f = 10 ∨ f = 11 ∨ f = 12 ∨ f = 13 := by omega
          rcases this with rfl | rfl | rfl | rfl
          · exact (p11 11 (by decide)).symm
          · exact (p11 12 (by decide)).symm
          · exact (p11 13 (by decide)).symm
          · exact (p11 14 (by decide)).symm
        · exact (p11 16 (by decide)).symm
        · exact p9.symm
      have b1' : calC H1 (cB H) := bc.fr (fun a => f2 _ _ _ (by omega)) (f2 _ _ _ (by omega))
      have b2' : calM m2 (cB H) := calM.fr h.1.2.1.1 (by rw [e12]; exact ks.2.1) bm (fun k q => rd k (by omega) (by omega))
      obtain ⟨r, H2, m3, v1, v2, v3, v4, v5, v6, v7, v8, v9, v10, v11⟩ := ls_leaveOut (o := H.1 0 5 0) (t := H.1 0 6 0) (by omega) (by omega) b1' b2' (h.1.2.1.1.fr (fun k q => rd k (by omega) (by omega))) (by rw [rd 12 (by omega) (by omega), e12]; exact ks.2.1) (by rw [rd 0 (by omega) (by omega), e0]) ko hcr (by rw [p11 16 (by decide)]; decide)
      have gx : ∀ t x y : Int, ¬ (t = 0 ∧ x = 5 ∧ y = 0) → ¬ (t = 3 ∧ x = H.1 0 5 0) → (hS H2 0 5 0 (H.1 0 5 0 + 1)).1 t x y = H.1 t x y := fun t x y q1 q2 => by
        rw [hS_n _ (by omega), v3.1 t x y (by omega), f2 t x y q2]
      have gf : ∀ f : Int, ¬ f = 16 → ¬ f = 17 → ¬ f = 18 → ¬ f = 19 → (hS H2 0 5 0 (H.1 0 5 0 + 1)).1 3 (H.1 0 5 0) f = H1.1 3 (H.1 0 5 0) f := fun f q1 q2 q3 q4 => by
        rw [hS_n _ (by omega), v3.1 _ _ _ (by omega)]
      have g16 : (hS H2 0 5 0 (H.1 0 5 0 + 1)).1 3 (H.1 0 5 0) 16 = H2.1 3 (H.1 0 5 0) 16 := hS_n _ (by omega)
      have gn : ∀ j : Int, ¬ j = 2 → ¬ (121 + 16 * H.1 0 5 0 ≤ j ∧ j ≤ 136 + 16 * H.1 0 5 0) → m3.1 0 j = m.1 0 j := fun j q1 q2 => by rw [v4.1 0 j (by omega), rd j q2 q1]
      have gt : ∀ t : Int, ¬ t = 0 → m3.1 t = m2.1 t := fun t q => by
        funext j
        exact v4.1 t j (by omega)
      have g5 : (hS H2 0 5 0 (H.1 0 5 0 + 1)).1 0 5 0 = H.1 0 5 0 + 1 := hS_p _ _ _ _ _
      rw [p11 16 (by decide)] at v7
      refine po_cle v2 (po_some ⟨hS H2 0 5 0 (H.1 0 5 0 + 1), po_eq ?_, rfl, ⟨h.1.addO k1 rfl b7 gx (v3.2.trans f3) g5 gn (by rw [v4.1 0 2 (by omega), r2]) ((gt 1 (by decide)).trans (w2.trans (mS_t m _ _ (by decide)))) (by rw [v4.2, w3]; rfl) (fun f hf => ?_), h.2.1.addO rfl k1'.2.1.1 (fun x f q => gx _ _ _ (by omega) (by omega)) g5 (fun f hf => by rw [gf f (by omega) (by omega) (by omega) (by omega), p11 f (by omega)]) (fun k q => gn k (by omega) (by omega)), h.2.2.addO (by omega) rfl b7 gx (v3.2.trans f3) g5 (ko.fr (fun f hf => gf f (by omega) (by omega) (by omega) (by omega))) ?_ ?_ (by rw [gf 15 (by decide) (by decide) (by decide) (by decide), p11 15 (by decide)])⟩, ?_⟩)
      · have i5 : H1.1 0 5 0 = H.1 0 5 0 := f2 _ _ _ (by omega)
        have i6 : H1.1 0 6 0 = H.1 0 6 0 := f2 _ _ _ (by omega)
        have j5 : H2.1 0 5 0 = H.1 0 5 0 := (v3.1 0 5 0 (by omega)).trans i5
        unfold fX2_addOrder_b50
        (repeat (first | (with_reducible refine po_gd ?_ ?_; · omega) | (with_reducible refine po_bnd ?_) | (with_reducible refine po_ift ?_ ?_; · omega) | (with_reducible refine po_iff ?_ ?_; · omega) | (with_reducible refine po_crs ?_) | (with_reducible refine po_cls ?_) | (with_reducible refine po_cre (ev_btT ?_) ?_; (· omega)) | (with_reducible refine po_cre hd ?_) | (with_reducible refine po_cle f1 ?_)))
        rw [i5, i6]
        (repeat (first | (with_reducible refine po_gd ?_ ?_; · omega) | (with_reducible refine po_bnd ?_) | (with_reducible refine po_ift ?_ ?_; · omega) | (with_reducible refine po_iff ?_ ?_; · omega) | (with_reducible refine po_crs ?_) | (with_reducible refine po_cls ?_) | (with_reducible refine po_cle v1 ?_)))
        rw [j5, g5]
        refine po_some ?_
        rw [show H.1 0 5 0 + 1 - 1 = H.1 0 5 0 by omega]
      · rw [v5 f hf]
        exact (ordN_fr (fun f q => hS_n _ (by omega)) hf).symm
      · unfold okP
        rw [gf 0 (by decide) (by decide) (by decide) (by decide), gf 1 (by decide) (by decide) (by decide) (by decide), gf 2 (by decide) (by decide) (by decide) (by decide), gf 8 (by decide) (by decide) (by decide) (by decide), gf 9 (by decide) (by decide) (by decide) (by decide), gf 10 (by decide) (by decide) (by decide) (by decide), gf 11 (by decide) (by decide) (by decide) (by decide), gx 0 4 0 (by omega) (by omega), p0, p1, p2, p8, p9, p10, p11 11 (by decide)]
        refine ⟨by omega, ?_, b2, by omega, by split <;> omega, b6, by decide⟩
        by_cases c : x1 % 9 = 8
        · rw [if_pos c]; exact Or.inl rfl
        · rw [if_neg c]; exact Or.inr (by omega)
      · unfold okC
        rw [gf 12 (by decide) (by decide) (by decide) (by decide), gf 13 (by decide) (by decide) (by decide) (by decide), gf 14 (by decide) (by decide) (by decide) (by decide), gf 15 (by decide) (by decide) (by decide) (by decide), g16, p11 12 (by decide), p11 13 (by decide), p11 14 (by decide), p11 15 (by decide)]
        omega
      · exact (((keptEq.rf m).s (Or.inl rfl)).tr w4).tr ⟨gt 2 (by decide), gt 3 (by decide), by rw [v4.2], gt 4 (by decide), gt 5 (by decide), fun k q => by rw [gt 6 (by decide)]⟩
    obtain ⟨⟨q1, q2⟩, g1, H2, g2, g3, g4, g5⟩ := key
    have g3 : q1 = H.1 0 5 0 := g3
    subst g3
    exact ⟨_, H2, c1.trans g2, by omega, Or.inr ⟨by omega, c2, q2, g1, g4, g5⟩⟩
theorem ls_orderC {T : Int} {H : hR} {m : mR} (h : Sim T H m) {x1 x2 x3 x4 x5 x6 : Int} (h1 : wR x1) (h2 : wR x2) (h3 : wR x3) (h4 : wR x4) (h5 : wR x5) (h6 : wR x6) : callOK T H m (fX2_addOrder x1 x2 x3 x4 x5 x6 H) (fX7_order x1 x2 x3 x4 x5 x6 m) := by
  refine callOf (chk := fX7_checksOrder x1 x2 x3 x4 x5 x6) (core := fX7_makes x1 x2 x3 x4 x5 x6) (ref := fX7_order x1 x2 x3 x4 x5 x6) h (fun m1 g => ls_order g h1 h2 h3 h4 h5 h6) (fun r hr hw e => po_eq ?_) (fun m1 r m' e1 e2 e3 => po_eq ?_)
  · unfold fX7_order
    (repeat (first | (with_reducible refine po_gd ?_ ?_; · omega) | (with_reducible refine po_bnd ?_) | (with_reducible refine po_ift ?_ ?_; · omega) | (with_reducible refine po_iff ?_ ?_; · omega) | (with_reducible refine po_crs ?_) | (with_reducible refine po_cls ?_) | (with_reducible refine po_cre e ?_)))
    exact po_some rfl
  · unfold fX7_order
    (repeat (first | (with_reducible refine po_gd ?_ ?_; · omega) | (with_reducible refine po_bnd ?_) | (with_reducible refine po_ift ?_ ?_; · omega) | (with_reducible refine po_iff ?_ ?_; · omega) | (with_reducible refine po_crs ?_) | (with_reducible refine po_cls ?_) | (with_reducible refine po_cre e1 ?_) | (with_reducible refine po_cle e2 ?_) | (with_reducible refine po_cle e3 ?_)))
    exact po_some rfl

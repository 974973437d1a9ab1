/-! ===== what bounds the waiting list: order, giveUp ===== -/
theorem xp_order {P C T : Int} {H : hR} {m : mR} (h : Sim T H m) (hP : okPh P C H) (hd : okXp P C H) {x1 x2 x3 x4 x5 x6 : Int} (h1 : wR x1) (h2 : wR x2) (h3 : wR x3) (h4 : wR x4) (h5 : wR x5) (h6 : wR x6) : Pst (fun p => (okXp P C p.2 ∧ same3 H p.2) ∧ -5 ≤ p.1 ∧ p.2.1 0 5 0 ≤ H.1 0 5 0 + 1) (fX2_addOrder x1 x2 x3 x4 x5 x6 H) := by
  have same : ∀ r : Int, -5 ≤ r → (okXp P C H ∧ same3 H H) ∧ -5 ≤ r ∧ H.1 0 5 0 ≤ H.1 0 5 0 + 1 := fun r hr => ⟨⟨hd, rfl, rfl, rfl⟩, hr, by omega⟩
  rcases ls_ordchk h h1 h2 h3 h4 h5 h6 with ⟨r, r1, r2, r3, r4⟩ | ⟨⟨⟨a1, a2, a3, a4⟩, b2, b3, b4, b5, b6, b7⟩, c1, c2⟩
  · rw [r3]
    exact pst_some (same r r1)
  · have k1 := h.2.2.1
    unfold okN at k1
    have ks := h.2.2.2.1
    unfold okS at ks
    have b3' : (0 ≤ x3 ∧ x3 ≤ 39999) ∧ (1 ≤ x3 / 100 % 100 ∧ x3 / 100 % 100 ≤ 12) ∧ 1 ≤ x3 % 100 ∧ x3 % 100 ≤ 31 := of_decide_eq_true b3
    obtain ⟨bc, bm⟩ := cal_both h.1 ks.2.1
    obtain ⟨⟨u, H1⟩, f1, f2, f3, p0, p1, p2, p3, p4, p5, p6, p7, p8, p9, p10, p11⟩ := ec_begin (H := H) (o := H.1 0 5 0) (x1 := x1) (x2 := x2) (x3 := x3) (x4 := x4) (x5 := x5) (x6 := x6) (by omega) (by omega) (by omega) h6
    have f2 : ∀ t x y : Int, ¬ (t = 3 ∧ x = H.1 0 5 0) → H1.1 t x y = H.1 t x y := f2
    have p3 : H1.1 3 (H.1 0 5 0) 3 = x3 / 10000 := p3
    have p4 : H1.1 3 (H.1 0 5 0) 4 = x3 / 100 % 100 := p4
    have p5 : H1.1 3 (H.1 0 5 0) 5 = x3 % 100 := p5
    have p6 : H1.1 3 (H.1 0 5 0) 6 = x4 := p6
    have p7 : H1.1 3 (H.1 0 5 0) 7 = x5 / 10 := p7
    have p9 : H1.1 3 (H.1 0 5 0) 9 = if x6 = 0 then 1 else 0 := p9
    have p10 : H1.1 3 (H.1 0 5 0) 10 = x6 := p10
    have p16 : H1.1 3 (H.1 0 5 0) 16 = 0 := p11 16 (by decide)
    have ko : okOrd H1 (H.1 0 5 0) := by
      unfold okOrd
      rw [p3, p4, p5, p6, p7]
      omega
    have b1' : calC H1 (cB H) := bc.fr (fun a => f2 _ _ _ (by omega)) (f2 _ _ _ (by omega))
    rw [c1]
    unfold fX2_addOrder_b50
    refine pst_cr (fun _ _ => pst_gd (fun _ => pst_if (fun _ => pst_some (same (-2) (by decide))) (fun _ => pst_cr (fun _ _ => pst_gd (fun _ => pst_if (fun _ => pst_some (same (-2) (by decide))) (fun _ => pst_cr (fun _ _ => pst_gd (fun _ => pst_if (fun _ => pst_some (same (-2) (by decide))) (fun _ => pst_cr (fun _ _ => pst_gd (fun _ => pst_if (fun _ => pst_some (same (-2) (by decide))) (fun _ => pst_cr (fun _ _ => pst_gd (fun _ => pst_if (fun _ => pst_some (same (-2) (by decide))) (fun _ => ?_)))))))))))))))
    refine pst_gd (fun _ => pst_if (fun _ => pst_gd (fun _ => pst_cl (fun y H2 q => ?_))) (fun _ => pst_some (same (-4) (by decide))))
    have hy : H2 = H1 := by
      rw [f1] at q
      cases q
      rfl
    subst hy
    refine pst_gd (fun _ => pst_cl (fun y3 H3 q3 => pst_bnd (pst_some ?_)))
    have i5 : H2.1 0 5 0 = H.1 0 5 0 := f2 _ _ _ (by omega)
    have i6 : H2.1 0 6 0 = H.1 0 6 0 := f2 _ _ _ (by omega)
    rw [i5, i6] at q3
    obtain ⟨v1, v2, v3, v4, v5, v6⟩ := x_leaveOut (b := cB H) (t := H.1 0 6 0) (by omega) b1' ko (by rw [p16]; omega) _ q3
    have v1 : onlyNext (H.1 0 5 0) H2 H3 := v1
    have v2 : aimed (cB H) H3 (H.1 0 5 0) := v2
    have v3 : H2.1 3 (H.1 0 5 0) 16 ≤ H3.1 3 (H.1 0 5 0) 16 := v3
    have v5 : H.1 0 6 0 ≤ H3.1 3 (H.1 0 5 0) 19 := v5
    have v6 : H3.1 3 (H.1 0 5 0) 16 = H2.1 3 (H.1 0 5 0) 16 ∨ ¬ nomO (cB H) H2 (H.1 0 5 0) (H3.1 3 (H.1 0 5 0) 16 - 1) = -6 := v6
    rw [p16] at v3 v6
    have j5 : H3.1 0 5 0 = H.1 0 5 0 := (v1.1 _ _ _ (by omega)).trans i5
    have e : ∀ t a f : Int, ¬ (t = 3 ∧ a = H.1 0 5 0) → ¬ (t = 0 ∧ a = 5) → (hS H3 0 5 0 (H3.1 0 5 0 + 1)).1 t a f = H.1 t a f := fun t a f q1 q2 => by
      rw [hS_n _ (by omega), v1.1 t a f (by omega), f2 t a f q1]
    have e2 : ∀ f : Int, ¬ f = 16 → ¬ f = 17 → ¬ f = 18 → ¬ f = 19 → (hS H3 0 5 0 (H3.1 0 5 0 + 1)).1 3 (H.1 0 5 0) f = H2.1 3 (H.1 0 5 0) f := fun f q1 q2 q3 q4 => by
      rw [hS_n _ (by omega), v1.1 _ _ _ (by omega)]
    have e3 : ∀ f : Int, (hS H3 0 5 0 (H3.1 0 5 0 + 1)).1 3 (H.1 0 5 0) f = H3.1 3 (H.1 0 5 0) f := fun f => hS_n _ (by omega)
    have hlast : (hS H3 0 5 0 (H3.1 0 5 0 + 1)).1 0 5 0 = H.1 0 5 0 + 1 := by rw [hS_p, j5]
    show (okXp P C (hS H3 0 5 0 (H3.1 0 5 0 + 1)) ∧ same3 H (hS H3 0 5 0 (H3.1 0 5 0 + 1))) ∧ -5 ≤ (hS H3 0 5 0 (H3.1 0 5 0 + 1)).1 0 5 0 - 1 ∧ (hS H3 0 5 0 (H3.1 0 5 0 + 1)).1 0 5 0 ≤ H.1 0 5 0 + 1
    refine ⟨⟨hd.left (o := H.1 0 5 0) hP h.2.2.2.2.2.2.1 h.cnt (by omega) e (fun i i1 i2 => ?_) (ko.fr (fun f hf => e2 f (by omega) (by omega) (by omega) (by omega))) (v2.fr e3) (by rw [e3]; exact v3) (by rw [e3]; exact v5) (fun c3 => ?_) (fun c3 => ?_) (fun i hi c3 => ?_), e _ _ _ (by omega) (by omega), e _ _ _ (by omega) (by omega), e _ _ _ (by omega) (by omega)⟩, by rw [hlast]; omega, by rw [hlast]; omega⟩
    · rw [hlast] at i2
      omega
    · rw [e2 3 (by decide) (by decide) (by decide) (by decide)] at c3
      rw [e3]
      rcases v6 with v6 | v6
      · omega
      · by_cases z : H3.1 3 (H.1 0 5 0) 16 = 0
        · omega
        · have := nomO_36 ko (by omega) c3 v6
          omega
    · rw [e2 9 (by decide) (by decide) (by decide) (by decide), p9] at c3
      rw [e2 10 (by decide) (by decide) (by decide) (by decide), p10]
      by_cases z : x6 = 0
      · exact z
      · rw [if_neg z] at c3
        omega
    · have := (h.2.2.2.2.2.2.1.1 i hi).1
      omega
theorem x_order {C T : Int} {H : hR} {m : mR} (h : Sim T H m) (hx : okXf C H) {x1 x2 x3 x4 x5 x6 : Int} (h1 : wR x1) (h2 : wR x2) (h3 : wR x3) (h4 : wR x4) (h5 : wR x5) (h6 : wR x6) : Pst (fun p => okXf C p.2) (fX2_addOrder x1 x2 x3 x4 x5 x6 H) := fun p e => hx.of3 (fun P g1 g2 => (xp_order h g1 g2 h1 h2 h3 h4 h5 h6 p e).1)
theorem xd_order {C T : Int} {H : hR} {m : mR} (h : Sim T H m) (hx : okXd C H) {x1 x2 x3 x4 x5 x6 : Int} (h1 : wR x1) (h2 : wR x2) (h3 : wR x3) (h4 : wR x4) (h5 : wR x5) (h6 : wR x6) : Pst (fun p => okXd C p.2) (fX2_addOrder x1 x2 x3 x4 x5 x6 H) := fun p e => hx.of3 (fun P g1 g2 => (xp_order h g1 g2 h1 h2 h3 h4 h5 h6 p e).1)
/-- fewer entries wait -/
theorem okXp.sub {P C : Int} {H H' : hR} (h : okXp P C H) (h0 : ∀ t a f : Int, t = 0 ∨ t = 1 ∨ t = 6 → H'.1 t a f = H.1 t a f) (hf : ∀ o f : Int, f = 3 ∨ f = 4 ∨ f = 6 ∨ f = 9 ∨ f = 10 ∨ f = 11 ∨ f = 16 → H'.1 3 o f = H.1 3 o f)
    (he : ∀ j k : Int, 0 ≤ j → j ≤ k → k < H'.1 4 2 0 → ∃ i l : Int, (0 ≤ i ∧ i ≤ l ∧ l < H.1 4 2 0) ∧ (j < k → i < l) ∧ (∀ c : Int, c = 0 ∨ c = 2 ∨ c = 3 ∨ c = 4 → H'.1 5 c j = H.1 5 c i) ∧ ∀ c : Int, c = 0 ∨ c = 2 ∨ c = 3 ∨ c = 4 → H'.1 5 c k = H.1 5 c l) : okXp P C H' := by
  obtain ⟨a1, ⟨b1, b2, b3⟩, a3⟩ := h
  have eh : holB H' = holB H := by
    funext d
    unfold holB
    rw [h0 6 _ 0 (by omega)]
  have eZ : zP P C H' = zP P C H := by
    unfold zP
    rw [h0 1 1 0 (by omega), h0 0 6 0 (by omega), eh]
  have eU : uX C H' = uX C H := by
    unfold uX
    rw [h0 1 1 0 (by omega)]
  have qK : ∀ i j : Int, nomK H' i j = nomK H i j := fun i j => nomK_fr (fun f q => hf _ _ (by omega)) j
  refine ⟨by rw [h0 1 1 0 (by omega)]; exact a1, ⟨fun j hj c1 => ?_, fun o ho => ?_, fun j k a b c d e => ?_⟩, fun j hj => ?_⟩
  · obtain ⟨i, l, i1, i2, i3, i4⟩ := he j j hj.1 (Int.le_refl _) hj.2
    rw [i3 0 (by omega), hf _ 3 (by omega)] at c1
    rw [i3 0 (by omega), i3 2 (by omega), i3 4 (by omega), hf _ 16 (by omega), qK, h0 0 6 0 (by omega), eZ]
    exact b1 i (by omega) c1
  · rw [h0 0 5 0 (by omega)] at ho
    rw [hf o 3 (by omega), hf o 9 (by omega), hf o 10 (by omega), hf o 11 (by omega), hf o 16 (by omega), qK, h0 0 6 0 (by omega), eZ]
    exact b2 o ho
  · obtain ⟨i, l, i1, i2, i3, i4⟩ := he j k a b c
    rw [i3 0 (by omega), i4 0 (by omega)] at d
    rw [i3 0 (by omega), hf _ 3 (by omega)] at e
    rw [i3 2 (by omega), i4 2 (by omega), i3 4 (by omega), eU]
    have := b3 i l i1.1 i1.2.1 i1.2.2 d e
    exact ⟨this.1, fun q => this.2 (i2 q)⟩
  · obtain ⟨i, l, i1, i2, i3, i4⟩ := he j j hj.1 (Int.le_refl _) hj.2
    rw [i3 3 (by omega), h0 0 6 0 (by omega)]
    exact a3 i (by omega)
theorem dropR.src {H H' : hR} (h : dropR H H') (hs : 0 ≤ H.1 4 2 0) {j k : Int} (h0 : 0 ≤ j) (hjk : j ≤ k) (hk : k < H'.1 4 2 0) : ∃ i l : Int, (0 ≤ i ∧ i ≤ l ∧ l < H.1 4 2 0) ∧ (j < k → i < l) ∧ (∀ c : Int, 0 ≤ c ∧ c < 5 → H'.1 5 c j = H.1 5 c i) ∧ ∀ c : Int, 0 ≤ c ∧ c < 5 → H'.1 5 c k = H.1 5 c l := by
  obtain ⟨h1, h2, h3, h4⟩ := h
  have key : ∀ j : Int, 0 ≤ j ∧ j < H'.1 4 2 0 → ∃ i : Nat, (i : Int) < H.1 4 2 0 ∧ ¬ H.1 5 1 i = 0 ∧ rk (H.1 5 1) i = j ∧ ∀ c : Int, 0 ≤ c ∧ c < 5 → H'.1 5 c j = H.1 5 c i := fun j hj => by
    rw [h3] at hj
    obtain ⟨i, q1, q2, q3⟩ := rk_sur _ j hj.1 hj.2
    exact ⟨i, by omega, q2, q3, fun c hc => by rw [← q3]; exact h4 i (by omega) q2 c hc⟩
  obtain ⟨i, q1, q2, q3, q4⟩ := key j (by omega)
  obtain ⟨l, r1, r2, r3, r4⟩ := key k (by omega)
  have hil : i ≤ l := by
    by_cases g : i ≤ l
    · exact g
    · have := rk_lt (A := H.1 5 1) (n := l) (k := i) (by omega) r2
      omega
  refine ⟨i, l, by omega, fun q => ?_, q4, r4⟩
  by_cases g : i = l
  · subst g
    omega
  · omega
theorem x_giveUp {C T p : Int} {H : hR} (hk : Ok T H) (hx : okXf C H) : Pst (fun r => okXf (C + 1) r.2 ∧ r.2.1 0 5 0 = H.1 0 5 0) (fX2_dropPayment p H) := by
  have k1 := hk.1
  have k1' := k1
  unfold okN at k1'
  have hroom := roomOK_rng k1'.2.2.2.2
  have same : okXf (C + 1) H := hx.mono (by omega)
  unfold fX2_dropPayment
  refine pst_cr (fun y q => pst_gd (fun _ => pst_if (fun _ => pst_some ⟨same, rfl⟩) (fun n => ?_)))
  have g1 := bt_inv q n
  have hw := hk.2.2.2.2.1.1 p (by omega)
  have hp := (hk.2.2.2.1 (H.1 5 0 p) hw.1).2.1
  unfold okP at hp
  refine pst_gd (fun g2 => pst_gd (fun g3 => pst_bnd (pst_cl (fun y2 s2 q2 => pst_cl (fun y3 H' q3 => pst_some ?_)))))
  have x : ∀ t a f : Int, ¬ (t = 3 ∧ f = 13) → (hS H 3 (H.1 5 0 p) 13 (H.1 3 (H.1 5 0 p) 13 + 1)).1 t a f = H.1 t a f := fun t a f q => hS_n H (by omega)
  have es : fX2_settle p (hS H 3 (H.1 5 0 p) 13 (H.1 3 (H.1 5 0 p) 13 + 1)) = some ((), stl (hS H 3 (H.1 5 0 p) 13 (H.1 3 (H.1 5 0 p) 13 + 1)) p) := ec_settle (by rw [x 4 1 0 (by omega)]; omega) (by rw [x 5 0 p (by omega)]; omega) (by rw [x 5 0 p (by omega), x 3 _ 0 (by omega)]; omega) (by rw [x 5 1 p (by omega)]; omega)
  have hy : s2 = stl (hS H 3 (H.1 5 0 p) 13 (H.1 3 (H.1 5 0 p) 13 + 1)) p := by
    rw [es] at q2
    cases q2
    rfl
  have y : ∀ t a f : Int, ¬ (t = 2 ∧ f = 11) → ¬ (t = 3 ∧ (f = 13 ∨ f = 15)) → ¬ (t = 5 ∧ a = 1) → s2.1 t a f = H.1 t a f := fun t a f h1 h2 h3 => by
    rw [hy]
    unfold stl
    rw [hS_n _ (by omega), hS_n _ (by omega), hS_n _ (by omega), hS_n _ (by omega)]
  have hA : ∀ i : Int, 0 ≤ i ∧ i < s2.1 4 2 0 → wR (s2.1 5 1 i) := fun i hi => by
    rw [y 4 2 0 (by omega) (by omega) (by omega)] at hi
    have := hk.2.2.2.2.1.1 i hi
    rw [hy]
    unfold stl
    by_cases g : i = p
    · subst g
      rw [hS_p]
      omega
    · rw [hS_n _ (by omega), hS_n _ (by omega), hS_n _ (by omega), hS_n _ (by omega)]
      omega
  obtain ⟨H3, ed, hd⟩ := ec_drop (H := s2) (k1.fr (y _ _ _ (by omega) (by omega) (by omega)) (y _ _ _ (by omega) (by omega) (by omega)) (y _ _ _ (by omega) (by omega) (by omega)) (y _ _ _ (by omega) (by omega) (by omega))) hA
  have hz : H' = H3 := by
    rw [ed] at q3
    cases q3
    rfl
  subst hz
  have e42 : s2.1 4 2 0 = H.1 4 2 0 := y _ _ _ (by omega) (by omega) (by omega)
  have z : ∀ t a f : Int, ¬ (t = 2 ∧ f = 11) → ¬ (t = 3 ∧ (f = 13 ∨ f = 15)) → ¬ t = 5 → ¬ (t = 4 ∧ a = 2 ∧ f = 0) → H'.1 t a f = H.1 t a f := fun t a f h1 h2 h3 h4 => (hd.1 t a f h3 h4).trans (y t a f h1 h2 (by omega))
  obtain ⟨P, hP, hX⟩ := hx
  refine ⟨okXf.mono (C := C) ⟨P, ?_, hX.sub (fun t a f q => z _ _ _ (by omega) (by omega) (by omega) (by omega)) (fun o f q => z _ _ _ (by omega) (by omega) (by omega) (by omega)) (fun j k a b c => ?_)⟩ (by omega), z _ _ _ (by omega) (by omega) (by omega) (by omega)⟩
  · show (P = 5 ∧ H'.1 1 1 0 + 1 ≤ C) ∨ P = phW ((H'.1 0 6 0 + H'.1 1 2 0) % 7)
    rw [z 1 1 0 (by omega) (by omega) (by omega) (by omega), z 0 6 0 (by omega) (by omega) (by omega) (by omega), z 1 2 0 (by omega) (by omega) (by omega) (by omega)]
    exact hP
  · obtain ⟨i, l, i1, i2, i3, i4⟩ := hd.src (by omega) a b c
    exact ⟨i, l, by omega, i2, fun c' q => by rw [i3 c' (by omega), y 5 c' i (by omega) (by omega) (by omega)], fun c' q => by rw [i4 c' (by omega), y 5 c' l (by omega) (by omega) (by omega)]⟩

/-! ===== a house within a day, and the reference's rows ===== -/
def corS4 (H : hR) (N : Int → Int) : Prop := N 0 = H.1 0 6 0 ∧ N 1 = H.1 0 4 0 ∧ N 2 = H.1 0 5 0 ∧ N 3 = H.1 1 1 0 ∧ N 8 = H.1 0 10 0 ∧ N 9 = H.1 0 7 0 ∧ N 10 = H.1 0 8 0 ∧ N 11 = H.1 0 9 0 ∧ N 12 = H.1 1 2 0
theorem corS4.fr {H H' : hR} {N N' : Int → Int} (h : corS4 H N) (hH : ∀ t a : Int, (t = 0 ∧ ¬ a = 11) ∨ t = 1 → H'.1 t a 0 = H.1 t a 0) (hN : ∀ k : Int, (0 ≤ k ∧ k ≤ 3) ∨ (8 ≤ k ∧ k ≤ 12) → N' k = N k) : corS4 H' N' := by
  obtain ⟨h1, h2, h3, h4, h6, h7, h8, h9, h10⟩ := h
  refine ⟨?_, ?_, ?_, ?_, ?_, ?_, ?_, ?_, ?_⟩ <;> rw [hN _ (by decide), hH _ _ (by decide)] <;> assumption
def okS4 (F : Int) (H : hR) : Prop := (0 ≤ H.1 0 6 0 ∧ H.1 0 6 0 ≤ 1094) ∧ (0 ≤ H.1 1 2 0 ∧ H.1 1 2 0 ≤ 6) ∧ (1 ≤ H.1 0 7 0 ∧ H.1 0 7 0 ≤ 9) ∧ (0 ≤ H.1 0 8 0 ∧ H.1 0 8 0 ≤ 10000) ∧ (0 ≤ H.1 0 9 0 ∧ H.1 0 9 0 ≤ 1000) ∧ (0 ≤ H.1 0 10 0 ∧ H.1 0 10 0 ≤ F)
theorem okS4.fr {F : Int} {H H' : hR} (h : okS4 F H) (hH : ∀ t a : Int, (t = 0 ∧ (6 ≤ a ∧ a ≤ 10)) ∨ (t = 1 ∧ a = 2) → H'.1 t a 0 = H.1 t a 0) : okS4 F H' := by
  unfold okS4 at *
  rw [hH 0 6 (by omega), hH 1 2 (by omega), hH 0 7 (by omega), hH 0 8 (by omega), hH 0 9 (by omega), hH 0 10 (by omega)]
  exact h
def okUV (H : hR) : Prop := (∀ a : Int, 0 ≤ a ∧ a < H.1 0 4 0 → H.1 2 a 11 = sumW H a (H.1 4 2 0).toNat) ∧ ∀ o : Int, 0 ≤ o ∧ o < H.1 0 5 0 → H.1 3 o 15 = cntV H o (H.1 4 2 0).toNat
def MC (H : hR) (m : mR) (x : Int → Int) : Prop := corS4 H (m.1 0) ∧ corH H (m.1 0) ∧ corA H (m.1 0) (m.2 0) ∧ corO H (m.1 0) ∧ corV H (m.1 1) (m.1 0 4) x
def MK (F : Int) (H : hR) : Prop := okN H ∧ okS4 F H ∧ okA H ∧ okO H ∧ okV H ∧ okUV H
def Mid (F : Int) (x : Int → Int) (H : hR) (m : mR) : Prop := MC H m x ∧ Tot H (m.1 0) ∧ MK F H
theorem Sim.mid {T : Int} {H : hR} {m : mR} (h : Sim T H m) : Mid (8400 * H.1 0 6 0) (fun _ => 0) H m := by
  obtain ⟨⟨c1, c2, c3, c4, c5⟩, t, k1, k2, k3, k4, k5, k6, k7, k8⟩ := h
  obtain ⟨g1, g2, g3, g4, g5, g6, g7, g8, g9, g10⟩ := c1
  have k1' := k1
  unfold okN at k1'
  have hA : ∀ i : Int, 0 ≤ i ∧ i < H.1 4 2 0 → ¬ H.1 5 1 i = 0 := fun i hi => by
    have := (k5.1 i hi).2.1
    omega
  refine ⟨⟨⟨g1, g2, g3, g4, g6, g7, g8, g9, g10⟩, c2, c3, c4, corV_of c5 g5 (by omega) (fun i hi => hA i (by omega))⟩, t, k1, k2, k3, k4, okV_of k5, k6.1, fun o ho => ?_⟩
  rw [cntV_of _ (fun i hi => hA i (by omega))]
  exact k6.2 o ho
/-- behind the day's payments -/
theorem Mid.sim {T F : Int} {H H' : hR} {m : mR} (h : Mid F (fun _ => 0) H m) (d : dropR H H') (hF : F ≤ 8400 * H.1 0 6 0) (hM : okM T H') (hQ : okQ H') : Sim T H' m := by
  obtain ⟨⟨c1, c2, c3, c4, c5⟩, t, k1, k2, k3, k4, k5, k6⟩ := h
  obtain ⟨d1, d2, d3, d4⟩ := d
  have d : dropR H H' := ⟨d1, d2, d3, d4⟩
  have k1' := k1
  unfold okN at k1'
  obtain ⟨v1, v2⟩ := d.corW (by omega) c5
  have e : ∀ a f : Int, (H'.1 2 a f = H.1 2 a f) ∧ (H'.1 3 a f = H.1 3 a f) := fun a f => ⟨d1 _ _ _ (by omega) (by omega), d1 _ _ _ (by omega) (by omega)⟩
  have e0 : ∀ a : Int, H'.1 0 a 0 = H.1 0 a 0 := fun a => d1 _ _ _ (by omega) (by omega)
  have e1 : ∀ a : Int, H'.1 1 a 0 = H.1 1 a 0 := fun a => d1 _ _ _ (by omega) (by omega)
  have hr := rk_rng (A := H.1 5 1) (H.1 4 2 0).toNat
  have hs := fun a => d.sum (a := a) (n := (H.1 4 2 0).toNat)
  have hc := fun o => d.cnt (o := o) (n := (H.1 4 2 0).toNat)
  obtain ⟨g1, g2, g3, g4, g6, g7, g8, g9, g10⟩ := c1
  refine ⟨⟨⟨?_, ?_, ?_, ?_, v2, ?_, ?_, ?_, ?_, ?_⟩, c2.fr (fun a => d1 _ _ _ (by omega) (by omega)) (fun _ _ => rfl), c3.fr (fun a f _ => (e a f).1) (fun a => by rw [d2]) (fun _ _ => rfl) (fun _ => rfl) (by rw [g2]; omega), c4.fr (fun o f _ => (e o f).2) (fun _ _ => rfl) (by rw [g3]; omega), v1⟩, t.fr (e0 5) (fun o f _ => (e o f).2) (fun _ _ => rfl), ?_, ?_, k3.fr (e0 4) (fun a f _ => (e a f).1), k4.fr (e0 4) (e0 5) (fun o f _ => (e o f).2), d.okW (by omega) k5, ⟨fun a ha => ?_, fun o ho => ?_⟩, hM, hQ⟩
  · rw [e0]; exact g1
  · rw [e0]; exact g2
  · rw [e0]; exact g3
  · rw [e1]; exact g4
  · rw [e0]; exact g6
  · rw [e0]; exact g7
  · rw [e0]; exact g8
  · rw [e0]; exact g9
  · rw [e1]; exact g10
  · unfold okN
    rw [e0, e0, d3, d1 4 1 0 (by omega) (by omega)]
    exact ⟨k1'.1, k1'.2.1, by omega, by omega, k1'.2.2.2.2⟩
  · unfold okS4 at k2
    unfold okS
    rw [e0, e0, e0, e0, e0, e1]
    omega
  · rw [e0] at ha
    rw [(e a 11).1, d3, hs a (by omega)]
    exact k6.1 a ha
  · rw [e0] at ho
    rw [(e o 15).2, d3, hc o (by omega)]
    exact k6.2 o ho
/-! settling an entry -/
def stl (H : hR) (p : Int) : hR := hS (hS (hS H 3 (H.1 5 0 p) 15 (H.1 3 (H.1 5 0 p) 15 - 1)) 2 (H.1 3 (H.1 5 0 p) 0) 11 (H.1 2 (H.1 3 (H.1 5 0 p) 0) 11 - H.1 5 1 p)) 5 1 p 0
theorem ec_settle {H : hR} {p : Int} (hp : 0 ≤ p ∧ p < H.1 4 1 0 ∧ H.1 4 1 0 ≤ 16384) (ho : 0 ≤ H.1 5 0 p ∧ H.1 5 0 p < 16) (ha : 0 ≤ H.1 3 (H.1 5 0 p) 0 ∧ H.1 3 (H.1 5 0 p) 0 < 8) (hw : wR (H.1 5 1 p)) : fX2_settle p H = some ((), stl H p) := by
  have e1 : ∀ v : Int, (hS H 3 (H.1 5 0 p) 15 v).1 3 (H.1 5 0 p) 0 = H.1 3 (H.1 5 0 p) 0 := fun v => hS_n H (by omega)
  have e2 : ∀ v : Int, (hS H 3 (H.1 5 0 p) 15 v).1 4 1 0 = H.1 4 1 0 := fun v => hS_n H (by omega)
  have e3 : ∀ v : Int, (hS H 3 (H.1 5 0 p) 15 v).1 5 1 p = H.1 5 1 p := fun v => hS_n H (by omega)
  have e4 : ∀ v a : Int, (hS H 3 (H.1 5 0 p) 15 v).1 2 a 11 = H.1 2 a 11 := fun v a => hS_n H (by omega)
  have e5 : ∀ v a w : Int, (hS (hS H 3 (H.1 5 0 p) 15 v) 2 a 11 w).1 4 1 0 = H.1 4 1 0 := fun v a w => by rw [hS_n _ (by omega)]; exact e2 v
  unfold fX2_settle
  rw [gd_pos (by omega), gd_pos ho, bnd_eq, e1, gd_pos ha, e2, gd_pos (by omega), e3, gd_pos hw, e4, bnd_eq, e5, gd_pos (by omega), bnd_eq]
  rfl
theorem sumF_up {H H' : hR} {f o d : Int} (ho : 0 ≤ o) (h : H'.1 3 o f = H.1 3 o f + d) (hn : ∀ i : Int, ¬ i = o → H'.1 3 i f = H.1 3 i f) : ∀ n : Nat, sumF H' f n = sumF H f n + (if o < n then d else 0)
  | 0 => by
    unfold sumF
    rw [if_neg (by omega)]
    rfl
  | n + 1 => by
    have ih := sumF_up ho h hn n
    show sumF H' f n + _ = sumF H f n + _ + _
    rw [ih]
    by_cases g : (n : Int) = o
    · rw [g, h, if_neg (by omega), if_pos (by omega)]
      omega
    · rw [hn n g]
      by_cases g2 : o < n
      · rw [if_pos g2, if_pos (by omega)]
        omega
      · rw [if_neg g2, if_neg (by omega)]
        omega
theorem cntV_rng {H : hR} {o : Int} : ∀ n : Nat, 0 ≤ cntV H o n ∧ cntV H o n ≤ n
  | 0 => by unfold cntV; omega
  | n + 1 => by
    have := cntV_rng (H := H) (o := o) n
    unfold cntV
    split <;> omega
theorem Mid.settle {F : Int} {x : Int → Int} {H : hR} {m : mR} {f o : Int} {p : Nat} (hf : f = 12 ∨ f = 13) (h : Mid F x H m) (hp : (p : Int) < H.1 4 2 0) (hA : ¬ H.1 5 1 p = 0) (ho : H.1 5 0 p = o) :
    ∃ m', fX2_settle p (hS H 3 o f (H.1 3 o f + 1)) = some ((), stl (hS H 3 o f (H.1 3 o f + 1)) p) ∧ fX7_removes (rk (H.1 5 1) p) (mS (mS m 0 (121 + 16 * o + (f - 1)) (H.1 3 o f + 1)) 0 (f - 7) (m.1 0 (f - 7) + 1)) = some ((), m') ∧ Mid F x (stl (hS H 3 o f (H.1 3 o f + 1)) p) m' ∧ (∀ t : Int, ¬ t = 0 → ¬ t = 1 → m'.1 t = m.1 t) ∧ m'.2 = m.2 := by
  obtain ⟨⟨c1, c2, c3, c4, c5⟩, t, k1, k2, k3, k4, k5, k6⟩ := h
  have k1' := k1
  unfold okN at k1'
  have hroom := roomOK_rng k1'.2.2.2.2
  obtain ⟨w1, w2, w3, w4, w5⟩ := k5.1 p (by omega)
  rw [ho] at w1
  obtain ⟨q1, q2, q3⟩ := k4 o w1
  have q2' := q2
  unfold okP at q2'
  have g2 : m.1 0 1 = H.1 0 4 0 := c1.2.1
  have g3 : m.1 0 2 = H.1 0 5 0 := c1.2.2.1
  -- cells behind it
  have x5 : ∀ c i : Int, ¬ c = 1 → (stl (hS H 3 o f (H.1 3 o f + 1)) p).1 5 c i = H.1 5 c i := fun c i hc => by
    unfold stl
    rw [hS_n _ (by omega), hS_n _ (by omega), hS_n _ (by omega), hS_n _ (by omega)]
  have x51 : (stl (hS H 3 o f (H.1 3 o f + 1)) p).1 5 1 = up1 (H.1 5 1) p 0 := by
    funext i
    unfold stl
    rw [hS_1]
    unfold up1
    by_cases g : i = (p : Int)
    · rw [if_pos ⟨rfl, rfl, g⟩, if_pos g]
    · rw [if_neg (by omega), if_neg g, hS_n _ (by omega), hS_n _ (by omega), hS_n _ (by omega)]
  have eo : (hS H 3 o f (H.1 3 o f + 1)).1 5 0 p = o := by rw [hS_n H (by omega)]; exact ho
  have ea : (hS H 3 o f (H.1 3 o f + 1)).1 3 o 0 = H.1 3 o 0 := hS_n H (by omega)
  have x2 : ∀ a y : Int, ¬ (a = H.1 3 o 0 ∧ y = 11) → (stl (hS H 3 o f (H.1 3 o f + 1)) p).1 2 a y = H.1 2 a y := fun a y hc => by
    unfold stl
    rw [eo, ea, hS_n _ (by omega), hS_n _ (by omega), hS_n _ (by omega), hS_n _ (by omega)]
  have x211 : (stl (hS H 3 o f (H.1 3 o f + 1)) p).1 2 (H.1 3 o 0) 11 = H.1 2 (H.1 3 o 0) 11 - H.1 5 1 p := by
    unfold stl
    rw [eo, ea, hS_n _ (by omega), hS_p, hS_n _ (by omega), hS_n _ (by omega)]
  have x3 : ∀ i y : Int, ¬ (i = o ∧ (y = f ∨ y = 15)) → (stl (hS H 3 o f (H.1 3 o f + 1)) p).1 3 i y = H.1 3 i y := fun i y hc => by
    unfold stl
    rw [eo, ea, hS_n _ (by omega), hS_n _ (by omega), hS_n _ (by omega), hS_n _ (by omega)]
  have x3f : (stl (hS H 3 o f (H.1 3 o f + 1)) p).1 3 o f = H.1 3 o f + 1 := by
    unfold stl
    rw [eo, ea, hS_n _ (by omega), hS_n _ (by omega), hS_n _ (by omega), hS_p]
  have x315 : (stl (hS H 3 o f (H.1 3 o f + 1)) p).1 3 o 15 = H.1 3 o 15 - 1 := by
    unfold stl
    rw [eo, ea, hS_n _ (by omega), hS_n _ (by omega), hS_p, hS_n _ (by omega)]
  have xx : ∀ t a b : Int, ¬ t = 2 → ¬ t = 3 → ¬ t = 5 → (stl (hS H 3 o f (H.1 3 o f + 1)) p).1 t a b = H.1 t a b := fun t a b h1 h2 h3 => by
    unfold stl
    rw [hS_n _ (by omega), hS_n _ (by omega), hS_n _ (by omega), hS_n _ (by omega)]
  have xD : (stl (hS H 3 o f (H.1 3 o f + 1)) p).2 = H.2 := rfl
  have es := ec_settle (H := hS H 3 o f (H.1 3 o f + 1)) (p := p) (by rw [hS_n H (by omega)]; omega) (by rw [eo]; omega) (by rw [eo, ea]; omega) (by rw [hS_n H (by omega)]; omega)
  generalize stl (hS H 3 o f (H.1 3 o f + 1)) p = H2 at *
  -- the reference's
  have hv1 := c5.1
  have hlt := rk_lt (A := H.1 5 1) (n := p) (k := (H.1 4 2 0).toNat) (by omega) hA
  have hr := rk_rng (A := H.1 5 1) p
  have hrn := rk_rng (A := H.1 5 1) (H.1 4 2 0).toNat
  have n4 : (mS (mS m 0 (121 + 16 * o + (f - 1)) (H.1 3 o f + 1)) 0 (f - 7) (m.1 0 (f - 7) + 1)).1 0 4 = m.1 0 4 := by rw [mS_n _ (by omega), mS_n _ (by omega)]
  obtain ⟨m', r1, r2, r3, r4, r5⟩ := em_removes (m := mS (mS m 0 (121 + 16 * o + (f - 1)) (H.1 3 o f + 1)) 0 (f - 7) (m.1 0 (f - 7) + 1)) (p := rk (H.1 5 1) p) (by rw [n4]; omega) (by rw [n4]; omega)
  rw [n4] at r2 r3
  have nn : ∀ j : Int, ¬ j = 4 → ¬ j = 121 + 16 * o + (f - 1) → ¬ j = f - 7 → m'.1 0 j = m.1 0 j := fun j h1 h2 h3 => by
    rw [r3, up1_n _ _ h1, mS_n _ (by omega), mS_n _ (by omega)]
  have nf : m'.1 0 (121 + 16 * o + (f - 1)) = H.1 3 o f + 1 := by rw [r3, up1_n _ _ (by omega), mS_n _ (by omega), mS_p]
  have nt : m'.1 0 (f - 7) = m.1 0 (f - 7) + 1 := by rw [r3, up1_n _ _ (by omega), mS_p]
  have nW : ∀ j : Int, m'.1 1 j = if rk (H.1 5 1) p ≤ j ∧ j < m.1 0 4 - 1 then m.1 1 (j + 1) else m.1 1 j := fun j => by
    rw [r2]
    rw [mS_n _ (by omega), mS_n _ (by omega), mS_n _ (by omega), mS_n _ (by omega)]
  have hcu := cntV_up (H' := H2) (p := p) (o := o) hA (fun i => x5 0 i (by omega)) x51 (H.1 4 2 0).toNat
  rw [if_pos ⟨by omega, ho⟩] at hcu
  have hcr := cntV_rng (H := H2) (o := o) (H.1 4 2 0).toNat
  have e42 : H2.1 4 2 0 = H.1 4 2 0 := xx _ _ _ (by omega) (by omega) (by omega)
  have e05 : H2.1 0 5 0 = H.1 0 5 0 := xx _ _ _ (by omega) (by omega) (by omega)
  have e04 : H2.1 0 4 0 = H.1 0 4 0 := xx _ _ _ (by omega) (by omega) (by omega)
  have h15 := k6.2 o w1
  refine ⟨m', es, r1, ⟨⟨c1.fr (fun t a q => xx _ _ _ (by omega) (by omega) (by omega)) (fun k q => nn k (by omega) (by omega) (by omega)), c2.fr (fun a => xx _ _ _ (by omega) (by omega) (by omega)) (fun k q => nn k (by omega) (by omega) (by omega)), c3.fr (fun a y q => x2 a y (by omega)) (fun a => by rw [xD]) (fun k q => nn k (by omega) (by omega) (by omega)) (fun a => by rw [r5]; rfl) (by omega), ?_, ?_⟩, ?_, k1.fr e04 e05 e42 (xx _ _ _ (by omega) (by omega) (by omega)), k2.fr (fun t a q => xx _ _ _ (by omega) (by omega) (by omega)), k3.fr e04 (fun a y q => x2 a y (by omega)), ?_, ?_, ?_⟩, fun t h0 h1 => ?_, ?_⟩
  · -- corO
    intro i hi y hy
    rw [nn 2 (by omega) (by omega) (by omega)] at hi
    by_cases g : i = o
    · subst g
      by_cases g2 : y = f - 1
      · subst g2
        rw [nf]
        unfold ordN
        rw [if_neg (by omega), if_neg (by omega), if_neg (by omega), if_pos (by omega), show f - 1 + 1 = f by omega, x3f]
      · rw [nn _ (by omega) (by omega) (by omega), c4 i hi y hy]
        exact (ordN_at (fun f' q => x3 i f' (by omega))).symm
    · rw [nn _ (by omega) (by omega) (by omega), c4 i hi y hy, ordN_fr (H := H) (fun f' _ => x3 i f' (by omega)) hy]
  · -- corV
    refine ⟨?_, fun i hi hA' => ?_⟩
    · rw [r3, up1_p, e42, x51, rk_up hA, if_pos (by omega), hv1]
    · rw [e42] at hi
      rw [x51] at hA' ⊢
      have hip : ¬ (i : Int) = p := fun q => hA' (by rw [q, up1_p])
      rw [up1_n _ _ hip] at hA' ⊢
      have hv := c5.2 i hi hA'
      rw [rk_up hA, x5 0 i (by omega), x5 2 i (by omega), x5 3 i (by omega), x5 4 i (by omega), nW]
      by_cases g : p < i
      · have h1 := rk_lt (A := H.1 5 1) g hA
        have h2 := rk_lt (A := H.1 5 1) (n := i) (k := (H.1 4 2 0).toNat) (by omega) hA'
        rw [if_pos g, if_pos (by omega), show rk (H.1 5 1) i - 1 + 1 = rk (H.1 5 1) i by omega]
        exact hv
      · have h1 := rk_lt (A := H.1 5 1) (n := i) (k := p) (by omega) hA'
        rw [if_neg g, if_neg (by omega), Int.sub_zero]
        exact hv
  · -- Tot
    obtain ⟨t5, t6, t7⟩ := t
    have ht : ∀ y : Int, ¬ y = f → 12 ≤ y ∧ y ≤ 14 → sumF H2 y (H2.1 0 5 0).toNat = sumF H y (H.1 0 5 0).toNat := fun y hy hy2 => by
      rw [e05]
      exact sumF_fr _ (fun i _ => x3 i y (by omega))
    have ht2 : sumF H2 f (H2.1 0 5 0).toNat = sumF H f (H.1 0 5 0).toNat + 1 := by
      rw [e05, sumF_up (H := H) (f := f) (o := o) (d := 1) w1.1 x3f (fun i hi => x3 i f (by omega)), if_pos (by omega)]
    rcases hf with rfl | rfl
    · exact ⟨by rw [ht2, show (5 : Int) = 12 - 7 from rfl, nt, show (12 : Int) - 7 = 5 from rfl, t5], by rw [ht 13 (by omega) (by omega), nn 6 (by omega) (by omega) (by omega), t6], by rw [ht 14 (by omega) (by omega), nn 7 (by omega) (by omega) (by omega), t7]⟩
    · exact ⟨by rw [ht 12 (by omega) (by omega), nn 5 (by omega) (by omega) (by omega), t5], by rw [ht2, show (6 : Int) = 13 - 7 from rfl, nt, show (13 : Int) - 7 = 6 from rfl, t6], by rw [ht 14 (by omega) (by omega), nn 7 (by omega) (by omega) (by omega), t7]⟩
  · -- okO
    intro i hi
    rw [e05] at hi
    obtain ⟨s1, s2, s3⟩ := k4 i hi
    refine ⟨s1.fr (fun y hy => x3 i y (by omega)), ?_, ?_⟩
    · unfold okP at *
      rw [x3 i 0 (by omega), x3 i 1 (by omega), x3 i 2 (by omega), x3 i 8 (by omega), x3 i 9 (by omega), x3 i 10 (by omega), x3 i 11 (by omega), e04]
      exact s2
    · by_cases g : i = o
      · subst g
        unfold okC at *
        rw [x3 i 14 (by omega), x315, x3 i 16 (by omega)]
        rcases hf with rfl | rfl
        · rw [x3f, x3 i 13 (by omega)]
          omega
        · rw [x3f, x3 i 12 (by omega)]
          omega
      · unfold okC at *
        rw [x3 i 12 (by omega), x3 i 13 (by omega), x3 i 14 (by omega), x3 i 15 (by omega), x3 i 16 (by omega)]
        exact s3
  · -- okV
    refine ⟨fun i hi => ?_, fun i j hi hij hj => ?_⟩
    · rw [e42] at hi
      have := k5.1 i hi
      rw [x5 0 i (by omega), x5 2 i (by omega), x5 3 i (by omega), x5 4 i (by omega), x51, e05]
      unfold up1
      split <;> omega
    · rw [e42] at hj
      rw [x5 0 i (by omega), x5 3 i (by omega), x5 0 j (by omega), x5 3 j (by omega)]
      exact k5.2 i j hi hij hj
  · -- okUV
    refine ⟨fun a ha => ?_, fun i hi => ?_⟩
    · rw [e04] at ha
      rw [e42, sumW_up (H := H) (p := p) (fun i => x5 0 i (by omega)) (fun i => x3 i 0 (by omega)) x51, ho]
      by_cases g : H.1 3 o 0 = a
      · rw [if_pos ⟨by omega, g⟩, ← g, x211, k6.1 _ q2'.1]
      · rw [if_neg (fun q => g q.2), x2 a 11 (by omega), k6.1 a ha]
        omega
    · rw [e05] at hi
      rw [e42]
      by_cases g : i = o
      · subst g
        rw [x315, hcu, h15]
      · rw [x3 i 15 (by omega), cntV_up (H := H) (p := p) hA (fun j => x5 0 j (by omega)) x51, if_neg (fun q => g (by rw [← q.2]; exact ho)), k6.2 i hi]
        omega
  · rw [r4 t h0 h1, mS_t _ _ _ h0, mS_t _ _ _ h0]
  · rw [r5]
    rfl

/-! ===== the day's sweeps, in step ===== -/
theorem corV.fr {H H' : hR} {W W' : Int → Int} {n n' : Int} {x : Int → Int} (h : corV H W n x) (h2 : H'.1 4 2 0 = H.1 4 2 0) (hc : ∀ c i : Int, H'.1 5 c i = H.1 5 c i) (hW : W' = W) (hn : n' = n) : corV H' W' n' x := by
  have e : H'.1 5 1 = H.1 5 1 := funext (fun i => hc 1 i)
  obtain ⟨v1, v2⟩ := h
  refine ⟨?_, fun i hi hA => ?_⟩
  · rw [e, h2, hn]; exact v1
  · rw [h2] at hi
    rw [e] at hA ⊢
    rw [hW, hc, hc, hc, hc]
    exact v2 i hi hA
theorem okV.fr {H H' : hR} (h : okV H) (h2 : H'.1 4 2 0 = H.1 4 2 0) (h5 : H'.1 0 5 0 = H.1 0 5 0) (hc : ∀ c i : Int, H'.1 5 c i = H.1 5 c i) : okV H' := by
  refine ⟨fun i hi => ?_, fun i j a b c => ?_⟩
  · rw [h2] at hi
    rw [hc, hc, hc, hc, hc, h5]
    exact h.1 i hi
  · rw [h2] at c
    rw [hc, hc, hc, hc]
    exact h.2 i j a b c
theorem okUV.fr {H H' : hR} (h : okUV H) (h2 : H'.1 4 2 0 = H.1 4 2 0) (h4 : H'.1 0 4 0 = H.1 0 4 0) (h5 : H'.1 0 5 0 = H.1 0 5 0) (hc : ∀ c i : Int, H'.1 5 c i = H.1 5 c i) (ha : ∀ a : Int, H'.1 2 a 11 = H.1 2 a 11) (ho : ∀ o f : Int, H'.1 3 o f = H.1 3 o f) : okUV H' := by
  refine ⟨fun a q => ?_, fun o q => ?_⟩
  · rw [h4] at q
    rw [ha, h2, sumW_fr (H := H) _ (fun c i _ => hc c i) (fun i _ => ho _ _)]
    exact h.1 a q
  · rw [h5] at q
    rw [ho, h2, cntV_fr (H := H) _ (fun i _ => ⟨hc _ _, hc _ _⟩)]
    exact h.2 o q
theorem Mid.acc {F : Int} {x : Int → Int} {H : hR} {m : mR} (h : Mid F x H m) {a f v : Int} (ha : 0 ≤ a ∧ a < H.1 0 4 0) (hf : 3 ≤ f ∧ f ≤ 10) : Mid F x (hS H 2 a f v) (mS m 0 (33 + 11 * a + f) v) := by
  obtain ⟨⟨c1, c2, c3, c4, c5⟩, t, k1, k2, k3, k4, k5, k6⟩ := h
  have k1' := k1
  unfold okN at k1'
  have g2 := c1.2.1
  have g3 := c1.2.2.1
  have n : ∀ k : Int, ¬ (33 ≤ k ∧ k ≤ 120) → (mS m 0 (33 + 11 * a + f) v).1 0 k = m.1 0 k := fun k q => mS_n m (by omega)
  have e : ∀ t x y : Int, ¬ (t = 2 ∧ x = a ∧ y = f) → (hS H 2 a f v).1 t x y = H.1 t x y := fun t x y q => hS_n H q
  refine ⟨⟨c1.fr (fun t x q => e _ _ _ (by omega)) (fun k q => n k (by omega)), c2.fr (fun x => e _ _ _ (by omega)) (fun k q => n k (by omega)), ?_, c4.fr (fun o y q => e _ _ _ (by omega)) (fun k q => n k (by omega)) (by omega), c5.fr (e _ _ _ (by omega)) (fun c i => e _ _ _ (by omega)) (mS_t m _ _ (by omega)) (n 4 (by omega))⟩, t.fr (e _ _ _ (by omega)) (fun o y q => e _ _ _ (by omega)) (fun k q => n k (by omega)), k1.fr (e _ _ _ (by omega)) (e _ _ _ (by omega)) (e _ _ _ (by omega)) (e _ _ _ (by omega)), k2.fr (fun t x q => e _ _ _ (by omega)), k3.fr (e _ _ _ (by omega)) (fun x y q => e _ _ _ (by omega)), k4.fr (e _ _ _ (by omega)) (e _ _ _ (by omega)) (fun o y q => e _ _ _ (by omega)), k5.fr (e _ _ _ (by omega)) (e _ _ _ (by omega)) (fun c i => e _ _ _ (by omega)), k6.fr (e _ _ _ (by omega)) (e _ _ _ (by omega)) (e _ _ _ (by omega)) (fun c i => e _ _ _ (by omega)) (fun x => e _ _ _ (by omega)) (fun o y => e _ _ _ (by omega))⟩
  intro x hx
  rw [n 1 (by omega)] at hx
  obtain ⟨q1, q2⟩ := c3 x hx
  refine ⟨fun y hy => ?_, q2⟩
  rw [hS_1, mS_1]
  by_cases q : x = a ∧ y = f
  · obtain ⟨r1, r2⟩ := q
    rw [if_pos ⟨rfl, by omega⟩, if_pos ⟨rfl, r1, r2⟩]
  · rw [if_neg (by omega), if_neg (by omega)]
    exact q1 y hy
theorem MC.at {F : Int} {x : Int → Int} {H : hR} {m : mR} (h : Mid F x H m) {a f : Int} (ha : 0 ≤ a ∧ a < H.1 0 4 0) (hf : 0 ≤ f ∧ f ≤ 10) : m.1 0 (33 + 11 * a + f) = H.1 2 a f := (h.1.2.2.1 a (by rw [h.1.1.2.1]; exact ha)).1 f hf
theorem MC.atO {F : Int} {x : Int → Int} {H : hR} {m : mR} (h : Mid F x H m) {o : Int} (ho : 0 ≤ o ∧ o < H.1 0 5 0) : corR H (m.1 0) o := h.1.2.2.2.1 o (by rw [h.1.1.2.2.1]; exact ho)
theorem Mid.waitsFor {F : Int} {H : hR} {m : mR} (h : Mid F (fun _ => 0) H m) (hA : ∀ i : Int, 0 ≤ i ∧ i < H.1 4 2 0 → ¬ H.1 5 1 i = 0) {a : Int} (ha : wR a) : fX7_waitsFor a m = some (sumW H a (H.1 4 2 0).toNat) := by
  have k1 := h.2.2.1
  unfold okN at k1
  have hr : ∀ k : Nat, (k : Int) ≤ H.1 4 2 0 → rk (H.1 5 1) k = k := fun k hk => rk_all k (fun j hj => hA j (by omega))
  have e4 : m.1 0 4 = H.1 4 2 0 := by
    rw [h.1.2.2.2.2.1, hr _ (by omega)]
    omega
  refine em_waitsFor_b5 (j := 0) ha (n := (H.1 4 2 0).toNat) (by omega) (by omega) (fun i hi => ?_) (H.1 4 2 0).toNat fuel0 (by omega) (by show _ < 1000000; omega)
  obtain ⟨k, hk⟩ := Int.eq_ofNat_of_zero_le hi.1
  have hk : i = (k : Int) := hk
  subst hk
  obtain ⟨p0, p1, -⟩ := MC.part h (fun _ => by omega) (i := k) (by omega) (hA k (by omega))
  rw [hr k (by omega)] at p0 p1
  obtain ⟨w1, w2, -, -, -⟩ := h.2.2.2.2.2.2.1.1 k (by omega)
  have q0 : m.1 0 (121 + 16 * H.1 5 0 k + 0) = H.1 3 (H.1 5 0 k) 0 := MC.atO h w1 0 (by omega)
  have q1 := (h.2.2.2.2.2.1 _ w1).2.1.1
  exact ⟨p0, by rw [ev_ofO (by omega), q0], by omega, p1, by omega⟩
def MB (B K1 K : Int) (H : hR) : Prop := (∀ a : Int, 0 ≤ a ∧ a < H.1 0 4 0 → ∀ f : Int, 3 ≤ f ∧ f ≤ 10 → -B ≤ H.1 2 a f ∧ H.1 2 a f ≤ B) ∧ ∀ a : Int, 0 ≤ a ∧ a < H.1 0 4 0 → ∃ n : Int, owV (H.2 a) n ∧ n ≤ K1 * 2 ^ 80 ∧ -H.1 2 a 3 * 2 ^ 80 + n ≤ K * 2 ^ 80
theorem MB.debt {B K1 K : Int} {H : hR} (h : MB B K1 K H) {a : Int} (ha : 0 ≤ a ∧ a < H.1 0 4 0) : -H.1 2 a 3 ≤ K := by
  obtain ⟨n, h1, h2, h3⟩ := h.2 a ha
  have := h1.1
  omega
def moneyF (H H' : hR) : Prop := (∀ t x y : Int, ¬ (t = 2 ∧ 3 ≤ y ∧ y ≤ 10) → H'.1 t x y = H.1 t x y) ∧ H'.2 = H.2
def rows0F (m m' : mR) : Prop := (∀ t : Int, ¬ t = 0 → m'.1 t = m.1 t) ∧ m'.2 = m.2
theorem ls_sweep1 {F B K1 K a : Int} {H : hR} {m : mR} (h : Mid F (fun _ => 0) H m) (hA : ∀ i : Int, 0 ≤ i ∧ i < H.1 4 2 0 → ¬ H.1 5 1 i = 0) (hM : MB B K1 K H) (hB : 0 ≤ B ∧ B ≤ 4611686018427387904) (hK : 0 ≤ K1 ∧ K1 ≤ K ∧ K ≤ 1125899906842624) (ha : 0 ≤ a ∧ a < H.1 0 4 0) :
    ∃ H' m', (∀ fuel : Nat, fX2_sweep_b2 (fuel + 1) a H = fX2_sweep_b2 fuel (a + 1) H') ∧ fX7_sweeps a m = some ((), m') ∧ Mid F (fun _ => 0) H' m' ∧ MB (B + 8400000000 + K) K1 K H' ∧ moneyF H H' ∧ rows0F m m' := by
  have k1 := h.2.2.1
  unfold okN at k1
  obtain ⟨o1, o2, o3⟩ := h.2.2.2.2.1 a ha
  have ca0 := MC.at h ha (f := 0) (by omega)
  have ca2 := MC.at h ha (f := 2) (by omega)
  have ca3 := MC.at h ha (f := 3) (by omega)
  have ca7 := MC.at h ha (f := 7) (by omega)
  have same : MB (B + 8400000000 + K) K1 K H := ⟨fun x hx f hf => by
    have := hM.1 x hx f hf
    omega, hM.2⟩
  by_cases g : H.1 2 a 2 = -6
  · refine ⟨H, m, fun fuel => ?_, ?_, h, same, ⟨fun _ _ _ _ => rfl, rfl⟩, ⟨fun _ _ => rfl, rfl⟩⟩
    · rw [fX2_sweep_b2, gd_pos (by omega), if_neg (by omega), gd_pos (by omega), g, ev_hasA (by omega), bI_f (decide_eq_false (by omega)), cr_some, gd_pos (by omega), if_pos rfl]
    · unfold fX7_sweeps
      rw [ev_ofA (by omega), ca2, g, cr_some, gd_pos (by omega), if_pos rfl]
  · have hfd : 0 ≤ H.1 2 a 2 ∧ H.1 2 a 2 < H.1 0 4 0 ∧ ¬ H.1 2 a 2 = a := by omega
    obtain ⟨f1, f2, -⟩ := h.2.2.2.2.1 (H.1 2 a 2) (by omega)
    have cf1 := MC.at h (a := H.1 2 a 2) (f := 1) (by omega) (by omega)
    have cf3 := MC.at h (a := H.1 2 a 2) (f := 3) (by omega) (by omega)
    have cf8 := MC.at h (a := H.1 2 a 2) (f := 8) (by omega) (by omega)
    have hw := h.waitsFor hA (a := a) (by omega)
    have hu := h.2.2.2.2.2.2.2.1 a ha
    rw [← hu] at hw
    have hsr := sumW_rng (H := H) (a := a) (H.1 4 2 0).toNat (fun i hi => by
      have := (h.2.2.2.2.2.2.1.1 i (by omega)).2.1
      have := hA i (by omega)
      omega)
    rw [← hu] at hsr
    have mA3 := hM.1 a ha 3 (by omega)
    have mA7 := hM.1 a ha 7 (by omega)
    have mF3 := hM.1 (H.1 2 a 2) (by omega) 3 (by omega)
    have mF8 := hM.1 (H.1 2 a 2) (by omega) 8 (by omega)
    have hdebt := hM.debt ha
    generalize hfe : H.1 2 a 2 = fe at *
    have emin : (if (H.1 2 fe 3 - H.1 2 fe 1) ≤ ((H.1 2 a 11 - H.1 2 a 3) - H.1 2 a 0) then fX7_sweeps_b64 a fe (H.1 2 fe 3 - H.1 2 fe 1) m else fX7_sweeps_b64 a fe ((H.1 2 a 11 - H.1 2 a 3) - H.1 2 a 0) m) = fX7_sweeps_b64 a fe (min ((H.1 2 a 11 - H.1 2 a 3) - H.1 2 a 0) (H.1 2 fe 3 - H.1 2 fe 1)) m := by
      by_cases q : (H.1 2 fe 3 - H.1 2 fe 1) ≤ ((H.1 2 a 11 - H.1 2 a 3) - H.1 2 a 0)
      · rw [if_pos q, show min ((H.1 2 a 11 - H.1 2 a 3) - H.1 2 a 0) (H.1 2 fe 3 - H.1 2 fe 1) = H.1 2 fe 3 - H.1 2 fe 1 by omega]
      · rw [if_neg q, show min ((H.1 2 a 11 - H.1 2 a 3) - H.1 2 a 0) (H.1 2 fe 3 - H.1 2 fe 1) = (H.1 2 a 11 - H.1 2 a 3) - H.1 2 a 0 by omega]
    have em0 : fX7_sweeps a m = fX7_sweeps_b64 a fe (min ((H.1 2 a 11 - H.1 2 a 3) - H.1 2 a 0) (H.1 2 fe 3 - H.1 2 fe 1)) m := by
      unfold fX7_sweeps
      rw [ev_ofA (by omega), ca2, cr_some, gd_pos (by omega), if_neg g, hw, cr_some, ev_money (by omega), cr_some, ev_ofA (by omega), cr_some, ca0, gd_pos (by omega), ev_money (by omega), cr_some, ev_ofA (by omega), cr_some, cf1, gd_pos (by omega), Int.add_zero, Int.add_zero, ca3, cf3, gd_pos (by omega), emin]
    have ehas : fX2_hasAccount fe H = some 1 := by rw [ev_hasA (by omega), bI_t (decide_eq_true (by omega))]
    generalize hmv : min ((H.1 2 a 11 - H.1 2 a 3) - H.1 2 a 0) (H.1 2 fe 3 - H.1 2 fe 1) = mv at *
    by_cases q : 0 < mv
    · have c1 : (hS H 2 fe 3 (H.1 2 fe 3 - mv)).1 2 fe 8 = H.1 2 fe 8 := hS_n H (by omega)
      have c2 : (hS (hS H 2 fe 3 (H.1 2 fe 3 - mv)) 2 fe 8 (H.1 2 fe 8 + mv)).1 2 a 3 = H.1 2 a 3 := by rw [hS_n _ (by omega), hS_n _ (by omega)]
      have c3 : (hS (hS (hS H 2 fe 3 (H.1 2 fe 3 - mv)) 2 fe 8 (H.1 2 fe 8 + mv)) 2 a 3 (H.1 2 a 3 + mv)).1 2 a 7 = H.1 2 a 7 := by rw [hS_n _ (by omega), hS_n _ (by omega), hS_n _ (by omega)]
      have d1 := h.acc (a := fe) (f := 3) (v := H.1 2 fe 3 - mv) (by omega) (by omega)
      have d2 := d1.acc (a := fe) (f := 8) (v := H.1 2 fe 8 + mv) (by rw [hS_n H (by omega)]; omega) (by omega)
      have d3 := d2.acc (a := a) (f := 3) (v := H.1 2 a 3 + mv) (by rw [hS_n _ (by omega), hS_n H (by omega)]; omega) (by omega)
      have d4 := d3.acc (a := a) (f := 7) (v := H.1 2 a 7 + mv) (by rw [hS_n _ (by omega), hS_n _ (by omega), hS_n H (by omega)]; omega) (by omega)
      refine ⟨_, _, fun fuel => ?_, ?_, d4, ⟨fun x hx f hf => ?_, fun x hx => ?_⟩, ⟨fun t x y r => by rw [hS_n _ (by omega), hS_n _ (by omega), hS_n _ (by omega), hS_n _ (by omega)], rfl⟩, ⟨fun t r => by rw [mS_t _ _ _ r, mS_t _ _ _ r, mS_t _ _ _ r, mS_t _ _ _ r], rfl⟩⟩
      · rw [fX2_sweep_b2, gd_pos (by omega), if_neg (by omega), gd_pos (by omega), hfe, ehas, cr_some, gd_pos (by omega), if_neg (by omega), gd_pos (by omega), gd_pos (by omega), gd_pos (by omega), gd_pos (by omega), hmv, gd_pos (by omega), if_pos q, bnd_eq, c1, bnd_eq, c2, bnd_eq, c3, bnd_eq]
      · rw [em0]
        unfold fX7_sweeps_b64
        rw [gd_pos (by omega), if_neg (by omega), ev_moves (by omega) (by omega), cl_some, ev_moves (by omega) (by omega), cl_some, ev_moves (by omega) (by omega), cl_some, ev_moves (by omega) (by omega), cl_some, show (3 : Int) + 0 = 3 from rfl, show (3 : Int) + 5 = 8 from rfl, show (3 : Int) + 4 = 7 from rfl, cf3, show H.1 2 fe 3 + -mv = H.1 2 fe 3 - mv by omega, mS_n m (show ¬ ((0 : Int) = 0 ∧ 33 + 11 * fe + 8 = 33 + 11 * fe + 3) by omega), cf8, mS_n _ (show ¬ ((0 : Int) = 0 ∧ 33 + 11 * a + 3 = 33 + 11 * fe + 8) by omega), mS_n _ (show ¬ ((0 : Int) = 0 ∧ 33 + 11 * a + 3 = 33 + 11 * fe + 3) by omega), ca3, mS_n _ (show ¬ ((0 : Int) = 0 ∧ 33 + 11 * a + 7 = 33 + 11 * a + 3) by omega), mS_n _ (show ¬ ((0 : Int) = 0 ∧ 33 + 11 * a + 7 = 33 + 11 * fe + 8) by omega), mS_n _ (show ¬ ((0 : Int) = 0 ∧ 33 + 11 * a + 7 = 33 + 11 * fe + 3) by omega), ca7]
      · rw [hS_n _ (by omega), hS_n _ (by omega), hS_n _ (by omega), hS_n _ (by omega)] at hx
        have := hM.1 x hx f hf
        rw [hS_1, hS_1, hS_1, hS_1]
        by_cases r1 : x = a ∧ f = 7
        · rw [if_pos ⟨rfl, r1.1, r1.2⟩]
          omega
        · rw [if_neg (by omega)]
          by_cases r2 : x = a ∧ f = 3
          · rw [if_pos ⟨rfl, r2.1, r2.2⟩]
            omega
          · rw [if_neg (by omega)]
            by_cases r3 : x = fe ∧ f = 8
            · rw [if_pos ⟨rfl, r3.1, r3.2⟩]
              omega
            · rw [if_neg (by omega)]
              by_cases r4 : x = fe ∧ f = 3
              · rw [if_pos ⟨rfl, r4.1, r4.2⟩]
                omega
              · rw [if_neg (by omega)]
                omega
      · rw [hS_n _ (by omega), hS_n _ (by omega), hS_n _ (by omega), hS_n _ (by omega)] at hx
        obtain ⟨n, n1, n2, n3⟩ := hM.2 x hx
        refine ⟨n, n1, n2, ?_⟩
        rw [hS_n _ (by omega), hS_1, hS_n _ (by omega), hS_1]
        by_cases r2 : x = a
        · rw [if_pos ⟨rfl, r2, rfl⟩]
          rw [r2] at n3
          omega
        · rw [if_neg (by omega)]
          by_cases r4 : x = fe
          · rw [if_pos ⟨rfl, r4, rfl⟩]
            omega
          · rw [if_neg (by omega)]
            exact n3
    · refine ⟨H, m, fun fuel => ?_, ?_, h, same, ⟨fun _ _ _ _ => rfl, rfl⟩, ⟨fun _ _ => rfl, rfl⟩⟩
      · rw [fX2_sweep_b2, gd_pos (by omega), if_neg (by omega), gd_pos (by omega), hfe, ehas, cr_some, gd_pos (by omega), if_neg (by omega), gd_pos (by omega), gd_pos (by omega), gd_pos (by omega), gd_pos (by omega), hmv, gd_pos (by omega), if_neg q]
      · rw [em0]
        unfold fX7_sweeps_b64
        rw [gd_pos (by omega), if_pos (by omega)]
/-- what comes behind the sweeps in a day of the reference -/
noncomputable def restM (m : mR) : Option (Unit × mR) :=
  cr (fX7_today m) fun r67 =>
  cr (fX7_isBusiness r67 m) fun r70 =>
  gd (wR r70) <|
  if r70 = 0 then (
    fX7_passesDay_b82 fuel0 0 m)
  else (
    cl (fX7_paysAll m) fun r77 m77 =>
    fX7_passesDay_b82 fuel0 0 m77)
theorem ls_sweeps {F K1 K : Int} (hK : 0 ≤ K1 ∧ K1 ≤ K ∧ K ≤ 1125899906842624) : ∀ (k fC fM : Nat) (a B : Int) (H : hR) (m : mR), a + k = H.1 0 4 0 → 0 ≤ a → k < fC → k < fM → Mid F (fun _ => 0) H m → (∀ i : Int, 0 ≤ i ∧ i < H.1 4 2 0 → ¬ H.1 5 1 i = 0) → MB B K1 K H → (0 ≤ B ∧ B + k * (8400000000 + K) ≤ 4611686018427387904) →
    ∃ H' m', fX2_sweep_b2 fC a H = some ((), H') ∧ fX7_passesDay_b42 fM a m = restM m' ∧ Mid F (fun _ => 0) H' m' ∧ MB (B + k * (8400000000 + K)) K1 K H' ∧ moneyF H H' ∧ rows0F m m'
  | k, 0, _, _, _, _, _, _, _, h, _, _, _, _, _ => by omega
  | k, _ + 1, 0, _, _, _, _, _, _, _, h, _, _, _, _ => by omega
  | 0, fC + 1, fM + 1, a, B, H, m, hk, ha0, _, _, h, hA, hM, hB => by
    have k1 := h.2.2.1
    unfold okN at k1
    have e1 : m.1 0 1 = H.1 0 4 0 := h.1.1.2.1
    refine ⟨H, m, ?_, ?_, h, ?_, ⟨fun _ _ _ _ => rfl, rfl⟩, ⟨fun _ _ => rfl, rfl⟩⟩
    · rw [fX2_sweep_b2, gd_pos (by omega), if_pos (by omega)]
    · rw [fX7_passesDay_b42, gd_pos (by omega), gd_pos (by omega), if_pos (by omega)]
      rfl
    · rw [show B + ((0 : Nat) : Int) * (8400000000 + K) = B by simp]
      exact hM
  | k + 1, fC + 1, fM + 1, a, B, H, m, hk, ha0, hfC, hfM, h, hA, hM, hB => by
    have k1 := h.2.2.1
    unfold okN at k1
    have e1 : m.1 0 1 = H.1 0 4 0 := h.1.1.2.1
    have ek : B + ((k + 1 : Nat) : Int) * (8400000000 + K) = (B + 8400000000 + K) + k * (8400000000 + K) := by
      rw [show ((k + 1 : Nat) : Int) = k + 1 by omega, Int.add_mul, Int.one_mul]
      omega
    have hkp : 0 ≤ (k : Int) * (8400000000 + K) := Int.mul_nonneg (by omega) (by omega)
    obtain ⟨H1, m1, y1, y2, y3, y4, y5, y6⟩ := ls_sweep1 h hA hM (by omega) hK (a := a) (by omega)
    have e04 : H1.1 0 4 0 = H.1 0 4 0 := y5.1 _ _ _ (by omega)
    obtain ⟨H', m', z1, z2, z3, z4, z5, z6⟩ := ls_sweeps hK k fC fM (a + 1) (B + 8400000000 + K) H1 m1 (by omega) (by omega) (by omega) (by omega) y3 (fun i hi => by
      rw [y5.1 4 2 0 (by omega)] at hi
      rw [y5.1 5 1 i (by omega)]
      exact hA i hi) y4 (by omega)
    refine ⟨H', m', ?_, ?_, z3, ?_, ⟨fun t x y q => (z5.1 t x y q).trans (y5.1 t x y q), z5.2.trans y5.2⟩, ⟨fun t q => (z6.1 t q).trans (y6.1 t q), z6.2.trans y6.2⟩⟩
    · rw [y1, z1]
    · rw [fX7_passesDay_b42, gd_pos (by omega), gd_pos (by omega), if_neg (by omega), y2, cl_some, z2]
    · rw [ek]
      exact z4

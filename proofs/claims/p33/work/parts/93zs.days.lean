/-! ===== days go by ===== -/
theorem ec_aimAll {x1 x2 : Int} : ∀ (k fuel : Nat) (o : Int) (H : hR), o + k = H.1 0 5 0 → 0 ≤ o → k < fuel → okN H → okO H → calC H (cB H) → (∀ i : Int, 0 ≤ i ∧ i < o → aimed (cB H) H i) → ∃ H', fX2_passDays_b2 fuel x1 x2 o H = fX2_passDays_b31 fuel0 x1 x2 0 H' ∧ onlyAims H H' ∧ ∀ i : Int, 0 ≤ i ∧ i < H'.1 0 5 0 → aimed (cB H') H' i
  | k, 0, _, _, _, _, h, _, _, _, _ => by omega
  | 0, fuel + 1, o, H, h1, h2, _, hN, hO, hb, ha => by
    unfold okN at hN
    refine ⟨H, ?_, onlyAims.rf H, fun i hi => ha i (by omega)⟩
    rw [fX2_passDays_b2, gd_pos (by omega), if_pos (by omega)]
  | k + 1, fuel + 1, o, H, h1, h2, h3, hN, hO, hb, ha => by
    have hN' := hN
    unfold okN at hN'
    obtain ⟨w1, w2, w3⟩ := hO o (by omega)
    unfold okC at w3
    obtain ⟨⟨u, H1⟩, e1, e2, e3⟩ := ec_aim (o := o) hb w1 (by omega)
    have e2 : onlyAim o H H1 := e2
    have e3 : aimed (cB H) H1 o := e3
    have cb : cB H1 = cB H := cB_fr (e2.1 _ _ _ (by omega)) (fun a => e2.1 _ _ _ (by omega))
    obtain ⟨H', z1, z2, z3⟩ := ec_aimAll k fuel (o + 1) H1 (by rw [e2.1 0 5 0 (by omega)]; omega) (by omega) (by omega) (hN.fr (e2.1 _ _ _ (by omega)) (e2.1 _ _ _ (by omega)) (e2.1 _ _ _ (by omega)) (e2.1 _ _ _ (by omega))) (hO.fr (e2.1 _ _ _ (by omega)) (e2.1 _ _ _ (by omega)) (fun i f q => e2.1 _ _ _ (by omega))) (by rw [cb]; exact hb.fr (fun a => e2.1 _ _ _ (by omega)) (e2.1 _ _ _ (by omega))) (fun i hi => by
      rw [cb]
      by_cases q : i = o
      · rw [q]; exact e3
      · exact (ha i (by omega)).fr (fun f => e2.1 _ _ _ (by omega)))
    refine ⟨H', ?_, ⟨fun t a f q => (z2.1 t a f q).trans (e2.1 t a f (by omega)), z2.2.trans e2.2⟩, z3⟩
    rw [fX2_passDays_b2, gd_pos (by omega), if_neg (by omega), gd_pos (by omega), e1, cl_some, z1]
theorem okXd.aims {C : Int} {H H' : hR} (h : okXd C H) (hw : okW H) (g : onlyAims H H') : okXd C H' := by
  obtain ⟨h1, h2, h3⟩ := h
  have e : ∀ t x y : Int, ¬ t = 3 → H'.1 t x y = H.1 t x y := fun t x y q => g.1 t x y (by omega)
  have hb : holB H' = holB H := by
    funext d
    unfold holB
    rw [e _ _ _ (by omega)]
  have hz : zX C H' = zX C H := by
    unfold zX
    rw [hb, e 0 6 0 (by omega), e 1 1 0 (by omega), e 1 2 0 (by omega)]
  have hu : uX C H' = uX C H := by
    unfold uX
    rw [e 1 1 0 (by omega)]
  refine ⟨by rw [e 1 1 0 (by omega)]; exact h1, ?_, ?_⟩
  · rw [hz, hu, e 0 6 0 (by omega)]
    exact h2.fr hw (e _ _ _ (by omega)) (e _ _ _ (by omega)) (fun c i _ => e _ _ _ (by omega)) (fun o f _ q => g.1 _ _ _ (by omega))
  · rw [e 0 6 0 (by omega)]
    exact h3.fr (e _ _ _ (by omega)) (fun i _ => e _ _ _ (by omega))
theorem rows6.tr {m m1 m2 : mR} (h : rows6 m m1) (g : rows6 m1 m2) : rows6 m m2 :=
  ⟨fun t a b c => (g.1 t a b c).trans (h.1 t a b c), g.2.1.trans h.2.1, fun k hk => (g.2.2 k hk).trans (h.2.2 k hk)⟩
theorem rows6.rf (m : mR) : rows6 m m := ⟨fun _ _ _ _ => rfl, rfl, fun _ _ => rfl⟩
theorem and0 (x : Int) : andI x 0 = 0 := by
  show (iI x &&& iI 0).toInt = 0
  have : iI x &&& iI 0 = 0 := by
    show iI x &&& 0 = 0
    exact Int32.and_zero
  rw [this]
  rfl
/-- days without a watch -/
theorem ls_daysLoop {T C n : Int} (hT : 0 ≤ T ∧ T ≤ 100000) (hC : 0 ≤ C) (hn : 0 ≤ n ∧ n ≤ 400) : ∀ (k fC fM : Nat) (x : Int) (H : hR) (m : mR), x + k = n → 0 ≤ x → k < fC → k < fM → Sim T H m → okXd C H → C + H.1 0 5 0 ≤ 512 → (∀ o : Int, 0 ≤ o ∧ o < H.1 0 5 0 → aimed (cB H) H o) →
    ∃ H' m', fX2_passDays_b31 fC n 0 x H = some (-6, H') ∧ fX7_passesDays_b2 fM n x m = some (H'.1 0 6 0, m') ∧ Sim T H' m' ∧ okXd C H' ∧ H'.1 0 5 0 = H.1 0 5 0 ∧ H'.1 0 4 0 = H.1 0 4 0 ∧ rows6 m m'
  | k, 0, _, _, _, _, _, _, h, _, _, _, _, _ => by omega
  | k, _ + 1, 0, _, _, _, _, _, _, h, _, _, _, _ => by omega
  | 0, fC + 1, fM + 1, x, H, m, h1, h2, _, _, h, hX, hCo, ha => by
    have e0 : m.1 0 0 = H.1 0 6 0 := h.1.1.1
    refine ⟨H, m, ?_, ?_, h, hX, rfl, rfl, rows6.rf m⟩
    · rw [fX2_passDays_b31, gd_pos (by omega), if_pos (by omega)]
    · rw [fX7_passesDays_b2, gd_pos (by omega), if_pos (by omega)]
      unfold fX7_passesDays_b27
      rw [ev_today, cr_some, e0]
  | k + 1, fC + 1, fM + 1, x, H, m, h1, h2, h3, h4, h, hX, hCo, ha => by
    have e0 : m.1 0 0 = H.1 0 6 0 := h.1.1.1
    have ks := h.2.2.2.1
    unfold okS at ks
    by_cases g : 1094 ≤ H.1 0 6 0
    · refine ⟨H, m, ?_, ?_, h, hX, rfl, rfl, rows6.rf m⟩
      · rw [fX2_passDays_b31, gd_pos (by omega), if_neg (by omega), gd_pos (by omega), if_pos g]
      · rw [fX7_passesDays_b2, gd_pos (by omega), if_neg (by omega), ev_today, cr_some, e0, gd_pos (by omega), if_pos g]
        unfold fX7_passesDays_b27
        rw [ev_today, cr_some, e0]
    · obtain ⟨H1, m1, d1, d2, d3, d4, d5, d6, d7, d8, d9, d10⟩ := ls_day hT h hX ⟨hC, hCo⟩ ha (by omega)
      obtain ⟨H', m', z1, z2, z3, z4, z5, z6, z7⟩ := ls_daysLoop hT hC hn k fC fM (x + 1) H1 m1 (by omega) (by omega) (by omega) (by omega) d3 d4 (by omega) d5
      refine ⟨H', m', ?_, ?_, z3, z4, z5.trans d8, z6.trans d9, d10.tr z7⟩
      · rw [d1 fC n 0 x (by omega) (by omega) (by omega) (by rw [and0]; omega), and0, if_pos rfl, z1]
      · rw [fX7_passesDays_b2, gd_pos (by omega), if_neg (by omega), ev_today, cr_some, e0, gd_pos (by omega), if_neg g, d2, cl_some, z2]
theorem ls_days {T C n : Int} {H : hR} {m : mR} (hT : 0 ≤ T ∧ T ≤ 100000) (hC : 0 ≤ C ∧ C + H.1 0 5 0 ≤ 512) (hn : 0 ≤ n ∧ n ≤ 400) (h : Sim T H m) (hX : okXd C H) :
    ∃ H' m', fX2_passDays n 0 H = some (-6, H') ∧ fX7_passesDays n m = some (H'.1 0 6 0, m') ∧ Sim T H' m' ∧ okXd C H' ∧ H'.1 0 5 0 = H.1 0 5 0 ∧ H'.1 0 4 0 = H.1 0 4 0 ∧ rows6 m m' := by
  have k1 := h.2.2.1
  have k1' := k1
  unfold okN at k1'
  obtain ⟨b1, b2⟩ := cal_both h.1 h.2.2.2.1.2.1
  obtain ⟨H1, e1, e2, e3⟩ := ec_aimAll (x1 := n) (x2 := 0) (H.1 0 5 0).toNat fuel0 0 H (by omega) (by omega) (by show _ < 1000000; omega) k1 h.2.2.2.2.2.1 b1 (fun i hi => by omega)
  have f5 : H1.1 0 5 0 = H.1 0 5 0 := e2.1 _ _ _ (by omega)
  obtain ⟨H', m', z1, z2, z3, z4, z5, z6, z7⟩ := ls_daysLoop hT hC.1 hn n.toNat fuel0 fuel0 0 H1 m (by omega) (by omega) (by show _ < 1000000; omega) (by show _ < 1000000; omega) (h.aims e2) (hX.aims h.2.2.2.2.2.2.1 e2) (by omega) e3
  refine ⟨H', m', ?_, z2, z3, z4, z5.trans f5, z6.trans (e2.1 _ _ _ (by omega)), z7⟩
  unfold fX2_passDays
  rw [e1, z1]
/-- days until a watched try fails -/
theorem ls_failsLoop {T C n w w' : Int} (hT : 0 ≤ T ∧ T ≤ 100000) (hC : 0 ≤ C) (hn : 0 ≤ n ∧ n ≤ 400) (hw : ∀ f : Int, 0 ≤ f ∧ f ≤ 255 → (andI f w = 0 ↔ andI f w' = 0)) : ∀ (k fC fM : Nat) (x : Int) (H : hR) (m : mR), x + k = n → 0 ≤ x → k < fC → k < fM → Sim T H m → okXd C H → C + H.1 0 5 0 ≤ 512 → (∀ o : Int, 0 ≤ o ∧ o < H.1 0 5 0 → aimed (cB H) H o) →
    ∃ r H' m', fX2_passDays_b31 fC n w x H = some (r, H') ∧ fX7_failsIn_b2 fM w' n x m = some (r, m') ∧ wR r ∧ Sim T H' m' ∧ rows6 m m'
  | k, 0, _, _, _, _, _, _, h, _, _, _, _, _ => by omega
  | k, _ + 1, 0, _, _, _, _, _, _, h, _, _, _, _ => by omega
  | 0, fC + 1, fM + 1, x, H, m, h1, h2, _, _, h, hX, hCo, ha => by
    refine ⟨-6, H, m, ?_, ?_, by omega, h, rows6.rf m⟩
    · rw [fX2_passDays_b31, gd_pos (by omega), if_pos (by omega)]
    · rw [fX7_failsIn_b2, gd_pos (by omega), if_pos (by omega)]
  | k + 1, fC + 1, fM + 1, x, H, m, h1, h2, h3, h4, h, hX, hCo, ha => by
    have e0 : m.1 0 0 = H.1 0 6 0 := h.1.1.1
    have ks := h.2.2.2.1
    unfold okS at ks
    by_cases g : 1094 ≤ H.1 0 6 0
    · refine ⟨-6, H, m, ?_, ?_, by omega, h, rows6.rf m⟩
      · rw [fX2_passDays_b31, gd_pos (by omega), if_neg (by omega), gd_pos (by omega), if_pos g]
      · rw [fX7_failsIn_b2, gd_pos (by omega), if_neg (by omega), ev_today, cr_some, e0, gd_pos (by omega), if_pos g]
    · obtain ⟨H1, m1, d1, d2, d3, d4, d5, d6, d7, d8, d9, d10⟩ := ls_day hT h hX ⟨hC, hCo⟩ ha (by omega)
      have wa : wR (andI (H1.1 0 11 0) w) := iI_wR _
      have wb : wR (andI (m1.1 6 8) w') := iI_wR _
      have hww := hw (H1.1 0 11 0) d7.2
      have em : fX7_failsIn_b2 (fM + 1) w' n x m = if andI (m1.1 6 8) w' = 0 then fX7_failsIn_b2 fM w' n (x + 1) m1 else some (H.1 0 6 0, m1) := by
        rw [fX7_failsIn_b2, gd_pos (by omega), if_neg (by omega), ev_today, cr_some, e0, gd_pos (by omega), if_neg g, cr_some, d2, cl_some, gd_pos wb]
      rw [← d7.1] at em
      by_cases g2 : andI (H1.1 0 11 0) w = 0
      · obtain ⟨r, H', m', z1, z2, z3, z4, z5⟩ := ls_failsLoop hT hC hn hw k fC fM (x + 1) H1 m1 (by omega) (by omega) (by omega) (by omega) d3 d4 (by omega) d5
        refine ⟨r, H', m', ?_, ?_, z3, z4, d10.tr z5⟩
        · rw [d1 fC n w x (by omega) (by omega) (by omega) wa, if_pos g2, z1]
        · rw [em, if_pos (hww.mp g2), z2]
      · refine ⟨H.1 0 6 0, H1, m1, ?_, ?_, by omega, d3, d10⟩
        · rw [d1 fC n w x (by omega) (by omega) (by omega) wa, if_neg g2]
        · rw [em, if_neg (fun q => g2 (hww.mpr q))]
theorem ls_fails {T C n w w' : Int} {H : hR} {m : mR} (hT : 0 ≤ T ∧ T ≤ 100000) (hC : 0 ≤ C ∧ C + H.1 0 5 0 ≤ 512) (hn : 0 ≤ n ∧ n ≤ 400) (hw : ∀ f : Int, 0 ≤ f ∧ f ≤ 255 → (andI f w = 0 ↔ andI f w' = 0)) (h : Sim T H m) (hX : okXd C H) :
    ∃ r H' m', fX2_passDays n w H = some (r, H') ∧ fX7_failsIn w' n m = some (r, m') ∧ wR r ∧ Sim T H' m' ∧ rows6 m m' := by
  have k1 := h.2.2.1
  have k1' := k1
  unfold okN at k1'
  obtain ⟨b1, b2⟩ := cal_both h.1 h.2.2.2.1.2.1
  obtain ⟨H1, e1, e2, e3⟩ := ec_aimAll (x1 := n) (x2 := w) (H.1 0 5 0).toNat fuel0 0 H (by omega) (by omega) (by show _ < 1000000; omega) k1 h.2.2.2.2.2.1 b1 (fun i hi => by omega)
  have f5 : H1.1 0 5 0 = H.1 0 5 0 := e2.1 _ _ _ (by omega)
  obtain ⟨r, H', m', z1, z2, z3, z4, z5⟩ := ls_failsLoop hT hC.1 hn hw n.toNat fuel0 fuel0 0 H1 m (by omega) (by omega) (by show _ < 1000000; omega) (by show _ < 1000000; omega) (h.aims e2) (hX.aims h.2.2.2.2.2.2.1 e2) (by omega) e3
  refine ⟨r, H', m', ?_, z2, z3, z4, z5⟩
  unfold fX2_passDays
  rw [e1, z1]
theorem watch_c : ∀ f : Nat, f < 256 → andI f (-1) = andI f 255 := by decide +kernel
theorem watch_all {f : Int} (h : 0 ≤ f ∧ f ≤ 255) : andI f (-1) = 0 ↔ andI f 255 = 0 := by
  obtain ⟨k, hk, rfl⟩ := toN (n := 256) (d := f) (by omega)
  rw [watch_c k (by omega)]

/-! ===== texts: dates, acts ===== -/
noncomputable def dayC (p : Int → Int → Int) : Option (Int × (Int → Int → Int)) :=
  cl (fX4_takes 47 p) fun r57 p57 => gd (wR r57) <| if r57 = 0 then (fX4_readAmountAndDates_b71 1 p57) else (cl (fX4_readNumber p57) fun r64 p64 => fX4_readAmountAndDates_b71 r64 p64)
noncomputable def dayM (m : mR) : Option (Int × mR) :=
  cl (fX7_passes 47 47 m) fun r76 m76 => gd (wR r76) <| if r76 = 0 then (fX7_passesNewOrder_b99 m76) else (cl (fX7_passesNumber m76) fun r83 m83 => gd (wR r83) <| if r83 = 0 then (some (0, m83)) else (bnd (mS m83 6 19 (m83.1 6 12)) fun m96 => fX7_passesNewOrder_b99 m96))
theorem tx_day {s : Int → Int} {L a : Int} (hs : okT s L) (ha : 0 ≤ a ∧ a ≤ L) :
    ∃ r b x y : Int, ((r = 0 ∧ a ≤ b ∧ b ≤ L) ∨ (r = 1 ∧ a + 1 ≤ b ∧ b ≤ L ∧ (0 ≤ x ∧ x ≤ 99999) ∧ 0 ≤ y ∧ y ≤ 4)) ∧ (dig s L a → r = 0 ∧ b = a) ∧
      (∀ p : Int → Int → Int, pT s L a p → ∃ p', dayC p = some (r, p') ∧ pT s L b p' ∧ (∀ j : Int, 3 ≤ j ∧ j ≤ 8 → p' 0 j = p 0 j) ∧ (r = 1 → p' 0 9 = x ∧ p' 0 10 = y)) ∧
      ∀ m : mR, mT s L a m → m.1 6 19 = 1 → ∃ m', dayM m = some (r, m') ∧ mT s L b m' ∧ mF6 m m' ∧ (∀ j : Int, 13 ≤ j ∧ j ≤ 18 → m'.1 6 j = m.1 6 j) ∧ (r = 1 → m'.1 6 19 = x ∧ m'.1 6 20 = y) := by
  have hL := hs.1
  have hr := sgT_rng hs ha.1
  by_cases g : sgT s L a = 47
  · have ha1 : 0 ≤ a + 1 ∧ a + 1 ≤ L := by omega
    obtain ⟨vC, rM, b, n1, n2, n3⟩ := tx_num hs ha1
    have eC : ∀ p : Int → Int → Int, pT s L a p → dayC p = cl (fX4_readNumber (pS p 0 2 (a + 1))) fun r64 p64 => fX4_readAmountAndDates_b71 r64 p64 := fun p hp => by
      unfold dayC
      rw [ec_takesT hs hp ha (by omega) g, cl_some, gd_pos (by omega), if_neg (by omega)]
    have eM : ∀ m : mR, mT s L a m → dayM m = cl (fX7_passesNumber (advM s L a m)) fun r83 m83 => gd (wR r83) <| if r83 = 0 then (some (0, m83)) else (bnd (mS m83 6 19 (m83.1 6 12)) fun m96 => fX7_passesNewOrder_b99 m96) := fun m hm => by
      unfold dayM
      rw [em_passT hs hm ha (by omega) (by omega), cl_some, gd_pos (by omega), if_neg (by omega)]
      rfl
    have nd : dig s L a → ((0 : Int) = 0 ∧ b = a) := fun q => by
      unfold dig at q
      omega
    rcases n1 with ⟨z1, z2, z3⟩ | ⟨z1, z2, z3⟩
    · -- no number
      refine ⟨0, b, 0, 0, Or.inl (by omega), nd, fun p hp => ?_, fun m hm h19 => ?_⟩
      · obtain ⟨p', c1, c2, c3⟩ := n2 _ (hp.a (b := a + 1))
        refine ⟨pS p' 0 9 (-1), ?_, c2.f (by omega), fun j hj => by rw [pS_n _ (by omega), c3 j (by omega), pS_n _ (by omega)], fun q => by omega⟩
        rw [eC p hp, c1, cl_some, z1]
        unfold fX4_readAmountAndDates_b71
        rw [bnd_eq, pS_p, gd_pos (by omega), if_neg (by omega)]
      · obtain ⟨m', c1, c2, c3, c4, c5⟩ := n3 _ (advM.t hm)
        refine ⟨m', ?_, c2, (advM.f _ _ _ _).tr c3, fun j hj => by rw [c4 j (by omega) (by omega), advM.k _ _ _ _ (by omega) (by omega)], fun q => by omega⟩
        rw [eM m hm, c1, cl_some, z2, gd_pos (by omega), if_pos rfl]
    · obtain ⟨r, b2, x, f1, f2, f3, f4⟩ := tx_rule (t1 := vC) hs (a := b) (by omega) z1
      rcases z3 with z3 | ⟨z3, z4, z5⟩
      · refine ⟨r, b2, vC, x, by omega, fun q => by unfold dig at q; omega, fun p hp => ?_, fun m hm h19 => ?_⟩
        · obtain ⟨p', c1, c2, c3⟩ := n2 _ (hp.a (b := a + 1))
          obtain ⟨p'', d1, d2, d3, d4, d5⟩ := f3 p' c2
          refine ⟨p'', ?_, d2, fun j hj => by rw [d3 j hj, c3 j (by omega), pS_n _ (by omega)], fun q => ⟨d4, d5 q⟩⟩
          rw [eC p hp, c1, cl_some, d1]
        · obtain ⟨m', c1, c2, c3, c4, c5⟩ := n3 _ (advM.t hm)
          obtain ⟨m'', d1, d2, d3, d4, d5⟩ := f4 (mS m' 6 19 vC) (c2.f (by omega))
          refine ⟨m'', ?_, d2, (((advM.f _ _ _ _).tr c3).tr (mF6.s _ (by omega))).tr d3, fun j hj => by rw [d4 j (by omega), mS_n _ (by omega), c4 j (by omega) (by omega), advM.k _ _ _ _ (by omega) (by omega)], fun q => ⟨by rw [d4 19 (by omega), mS_p], d5 q⟩⟩
          rw [eM m hm, c1, cl_some, gd_pos (by omega), if_neg (by omega), c5 z3, bnd_eq, d1]
      · have hr0 := f2 z5
        subst hr0
        refine ⟨0, b, 0, 0, Or.inl (by omega), fun q => by unfold dig at q; omega, fun p hp => ?_, fun m hm h19 => ?_⟩
        · obtain ⟨p', c1, c2, c3⟩ := n2 _ (hp.a (b := a + 1))
          obtain ⟨p'', d1, d2, d3, d4, d5⟩ := f3 p' c2
          have hb2 : b2 = b := by omega
          rw [hb2] at d2
          refine ⟨p'', ?_, d2, fun j hj => by rw [d3 j hj, c3 j (by omega), pS_n _ (by omega)], fun q => by omega⟩
          rw [eC p hp, c1, cl_some, d1]
        · obtain ⟨m', c1, c2, c3, c4, c5⟩ := n3 _ (advM.t hm)
          refine ⟨m', ?_, c2, (advM.f _ _ _ _).tr c3, fun j hj => by rw [c4 j (by omega) (by omega), advM.k _ _ _ _ (by omega) (by omega)], fun q => by omega⟩
          rw [eM m hm, c1, cl_some, z3, gd_pos (by omega), if_pos rfl]
  · obtain ⟨r, b2, x, f1, f2, f3, f4⟩ := tx_rule (t1 := 1) hs ha (by omega)
    refine ⟨r, b2, 1, x, by omega, fun q => by have := f2 q; omega, fun p hp => ?_, fun m hm h19 => ?_⟩
    · obtain ⟨p'', d1, d2, d3, d4, d5⟩ := f3 p hp
      refine ⟨p'', ?_, d2, d3, fun q => ⟨d4, d5 q⟩⟩
      unfold dayC
      rw [ec_takesF hs hp ha (by omega) g, cl_some, gd_pos (by omega), if_pos rfl, d1]
    · obtain ⟨m'', d1, d2, d3, d4, d5⟩ := f4 m hm
      refine ⟨m'', ?_, d2, d3, fun j hj => d4 j (by omega), fun q => ⟨by rw [d4 19 (by omega), h19], d5 q⟩⟩
      unfold dayM
      rw [em_passF hs hm ha (by omega) (by omega), cl_some, gd_pos (by omega), if_pos rfl, d1]
noncomputable def restN (m1 : mR) : Option (Int × mR) :=
  cl (fX7_passesNumber m1) fun r8 m8 => gd (wR r8) <| if r8 = 0 then (some (0, m8)) else (bnd (mS m8 6 16 (m8.1 6 12)) fun m21 => cl (fX7_passesOne 100 119 109 101 m21) fun r34 m34 => bnd (mS m34 6 17 r34) fun m37 => gd (wR (m37.1 6 17)) <| if (m37.1 6 17) = (-6) then (some (0, m37)) else (cl (fX7_passesNumber m37) fun r50 m50 => gd (wR r50) <| if r50 = 0 then (some (0, m50)) else (bnd (mS m50 6 18 (m50.1 6 12)) fun m63 => bnd (mS m63 6 19 1) fun m68 => dayM m68)))
theorem newO_eq (m : mR) : fX7_passesNewOrder m = cl (fX7_passesParties m) fun r1 m1 => gd (wR r1) <| if r1 = 0 then (some (0, m1)) else restN m1 := rfl
theorem tx_amt {s : Int → Int} {L a : Int} (hs : okT s L) (ha : 0 ≤ a ∧ a ≤ L) :
    ∃ r b f6 f7 f8 f9 f10 : Int, ((r = 0 ∧ a ≤ b ∧ b ≤ L) ∨ (r = 1 ∧ a + 4 ≤ b ∧ b ≤ L ∧ (0 ≤ f6 ∧ f6 ≤ 99999) ∧ (0 ≤ f7 ∧ f7 ≤ 3) ∧ (0 ≤ f8 ∧ f8 ≤ 99999) ∧ (0 ≤ f9 ∧ f9 ≤ 99999) ∧ 0 ≤ f10 ∧ f10 ≤ 4)) ∧
      (∀ p : Int → Int → Int, pT s L a p → ∃ p', fX4_readAmountAndDates p = some (r, p') ∧ pT s L b p' ∧ (∀ j : Int, 3 ≤ j ∧ j ≤ 5 → p' 0 j = p 0 j) ∧ (r = 1 → p' 0 6 = f6 ∧ p' 0 7 = f7 ∧ p' 0 8 = f8 ∧ p' 0 9 = f9 ∧ p' 0 10 = f10)) ∧
      ∀ m : mR, mT s L a m → ∃ m', restN m = some (r, m') ∧ mT s L b m' ∧ mF6 m m' ∧ (∀ j : Int, 13 ≤ j ∧ j ≤ 15 → m'.1 6 j = m.1 6 j) ∧ (r = 1 → m'.1 6 16 = f6 ∧ m'.1 6 17 = f7 ∧ m'.1 6 18 = f8 ∧ m'.1 6 19 = f9 ∧ m'.1 6 20 = f10) := by
  have hL := hs.1
  obtain ⟨vC, rM, b, n1, n2, n3⟩ := tx_num hs ha
  rcases n1 with ⟨z1, z2, z3⟩ | ⟨z1, z2, z3⟩
  · refine ⟨0, b, 0, 0, 0, 0, 0, Or.inl (by omega), fun p hp => ?_, fun m hm => ?_⟩
    · obtain ⟨p', c1, c2, c3⟩ := n2 p hp
      refine ⟨pS p' 0 6 (-1), ?_, c2.f (by omega), fun j hj => by rw [pS_n _ (by omega), c3 j (by omega)], fun q => by omega⟩
      unfold fX4_readAmountAndDates
      rw [c1, cl_some, z1, bnd_eq, pS_p, gd_pos (by omega), if_neg (by omega)]
    · obtain ⟨m', c1, c2, c3, c4, c5⟩ := n3 m hm
      refine ⟨m', ?_, c2, c3, fun j hj => c4 j (by omega) (by omega), fun q => by omega⟩
      unfold restN
      rw [c1, cl_some, z2, gd_pos (by omega), if_pos rfl]
  · have hb : 0 ≤ b ∧ b ≤ L := by omega
    have hr := sgT_rng hs hb.1
    -- behind the number
    have eC : ∀ p : Int → Int → Int, pT s L a p → ∃ p', pT s L b p' ∧ (∀ j : Int, 3 ≤ j ∧ j ≤ 5 → p' 0 j = p 0 j) ∧ p' 0 6 = vC ∧ fX4_readAmountAndDates p = cl (fX4_readOneOf 1 p') fun r21 p21 => bnd (pS p21 0 7 r21) fun p24 => gd (wR (p24 0 7)) <| if 0 ≤ (p24 0 7) then (cl (fX4_readNumber p24) fun r38 p38 => bnd (pS p38 0 8 r38) fun p41 => gd (wR (p41 0 8)) <| if 0 ≤ (p41 0 8) then (dayC p41) else (some (0, p41))) else (some (0, p24)) := fun p hp => by
      obtain ⟨p', c1, c2, c3⟩ := n2 p hp
      refine ⟨pS p' 0 6 vC, c2.f (by omega), fun j hj => by rw [pS_n _ (by omega), c3 j (by omega)], pS_p _ _ _ _, ?_⟩
      unfold fX4_readAmountAndDates
      rw [c1, cl_some, bnd_eq, pS_p, gd_pos (by omega), if_pos (by omega)]
      rfl
    by_cases gk : sgT s L b = 100 ∨ sgT s L b = 119 ∨ sgT s L b = 109 ∨ sgT s L b = 101
    · have z3 : rM = 1 := by
        rcases z3 with z3 | ⟨z3, z4, z5⟩
        · exact z3
        · unfold dig at z5
          omega
      have hb1 : 0 ≤ b + 1 ∧ b + 1 ≤ L := by omega
      have hk : ∃ k : Int, (0 ≤ k ∧ k ≤ 3) ∧ idxS 1 (sgT s L b) = k ∧ ∀ m : mR, mT s L b m → fX7_passesOne 100 119 109 101 m = some (k, advM s L b m) := by
        rcases gk with g | g | g | g
        · exact ⟨0, by omega, by rw [g]; rfl, fun m hm => by rw [em_one hs hm hb (by omega) (by omega) (by omega) (by omega), if_pos g]⟩
        · exact ⟨1, by omega, by rw [g]; rfl, fun m hm => by rw [em_one hs hm hb (by omega) (by omega) (by omega) (by omega), if_neg (by omega), if_pos g]⟩
        · exact ⟨2, by omega, by rw [g]; rfl, fun m hm => by rw [em_one hs hm hb (by omega) (by omega) (by omega) (by omega), if_neg (by omega), if_neg (by omega), if_pos g]⟩
        · exact ⟨3, by omega, by rw [g]; rfl, fun m hm => by rw [em_one hs hm hb (by omega) (by omega) (by omega) (by omega), if_neg (by omega), if_neg (by omega), if_neg (by omega), if_pos g]⟩
      obtain ⟨k, k1, k2, k3⟩ := hk
      have eC2 : ∀ p : Int → Int → Int, pT s L a p → ∃ p', pT s L (b + 1) p' ∧ (∀ j : Int, 3 ≤ j ∧ j ≤ 5 → p' 0 j = p 0 j) ∧ p' 0 6 = vC ∧ p' 0 7 = k ∧ fX4_readAmountAndDates p = cl (fX4_readNumber p') fun r38 p38 => bnd (pS p38 0 8 r38) fun p41 => gd (wR (p41 0 8)) <| if 0 ≤ (p41 0 8) then (dayC p41) else (some (0, p41)) := fun p hp => by
        obtain ⟨p', c1, c2, c3, c4⟩ := eC p hp
        refine ⟨pS (pS p' 0 2 (b + 1)) 0 7 k, (c1.a).f (by omega), fun j hj => by rw [pS_n _ (by omega), pS_n _ (by omega), c2 j hj], by rw [pS_n _ (by omega), pS_n _ (by omega), c3], pS_p _ _ _ _, ?_⟩
        rw [c4, ec_oneOf hs c1 hb, k2, if_pos k1.1, cl_some, bnd_eq, pS_p, gd_pos (by omega), if_pos k1.1]
      have eM2 : ∀ m : mR, mT s L a m → ∃ m', mT s L (b + 1) m' ∧ mF6 m m' ∧ (∀ j : Int, 13 ≤ j ∧ j ≤ 15 → m'.1 6 j = m.1 6 j) ∧ m'.1 6 16 = vC ∧ m'.1 6 17 = k ∧ restN m = cl (fX7_passesNumber m') fun r50 m50 => gd (wR r50) <| if r50 = 0 then (some (0, m50)) else (bnd (mS m50 6 18 (m50.1 6 12)) fun m63 => bnd (mS m63 6 19 1) fun m68 => dayM m68) := fun m hm => by
        obtain ⟨m', c1, c2, c3, c4, c5⟩ := n3 m hm
        refine ⟨mS (advM s L b (mS m' 6 16 vC)) 6 17 k, (advM.t (c2.f (by omega))).f (by omega), ((c3.tr (mF6.s _ (by omega))).tr (advM.f _ _ _ _)).tr (mF6.s _ (by omega)), fun j hj => by rw [mS_n _ (by omega), advM.k _ _ _ _ (by omega) (by omega), mS_n _ (by omega), c4 j (by omega) (by omega)], by rw [mS_n _ (by omega), advM.k _ _ _ _ (by omega) (by omega), mS_p], mS_p _ _ _ _, ?_⟩
        unfold restN
        rw [c1, cl_some, gd_pos (by omega), if_neg (by omega), c5 z3, bnd_eq, k3 _ (c2.f (by omega)), cl_some, bnd_eq, mS_p, gd_pos (by omega), if_neg (by omega)]
      obtain ⟨vC2, rM2, b2, o1, o2, o3⟩ := tx_num hs hb1
      rcases o1 with ⟨y1, y2, y3⟩ | ⟨y1, y2, y3⟩
      · refine ⟨0, b2, 0, 0, 0, 0, 0, Or.inl (by omega), fun p hp => ?_, fun m hm => ?_⟩
        · obtain ⟨p1, d1, d2, d3, d4, d5⟩ := eC2 p hp
          obtain ⟨p', c1, c2, c3⟩ := o2 p1 d1
          refine ⟨pS p' 0 8 (-1), ?_, c2.f (by omega), fun j hj => by rw [pS_n _ (by omega), c3 j (by omega), d2 j hj], fun q => by omega⟩
          rw [d5, c1, cl_some, y1, bnd_eq, pS_p, gd_pos (by omega), if_neg (by omega)]
        · obtain ⟨m1, d1, d2, d3, d4, d5, d6⟩ := eM2 m hm
          obtain ⟨m', c1, c2, c3, c4, c5⟩ := o3 m1 d1
          refine ⟨m', ?_, c2, d2.tr c3, fun j hj => by rw [c4 j (by omega) (by omega), d3 j hj], fun q => by omega⟩
          rw [d6, c1, cl_some, y2, gd_pos (by omega), if_pos rfl]
      · obtain ⟨r, b3, x, y, f1, f2, f3, f4⟩ := tx_day hs (a := b2) (by omega)
        rcases y3 with y3 | ⟨y3, y4, y5⟩
        · refine ⟨r, b3, vC, k, vC2, x, y, by omega, fun p hp => ?_, fun m hm => ?_⟩
          · obtain ⟨p1, d1, d2, d3, d4, d5⟩ := eC2 p hp
            obtain ⟨p', c1, c2, c3⟩ := o2 p1 d1
            obtain ⟨p'', e1, e2, e3, e4⟩ := f3 (pS p' 0 8 vC2) (c2.f (by omega))
            refine ⟨p'', ?_, e2, fun j hj => by rw [e3 j (by omega), pS_n _ (by omega), c3 j (by omega), d2 j hj], fun q => ⟨?_, ?_, ?_, (e4 q).1, (e4 q).2⟩⟩
            · rw [d5, c1, cl_some, bnd_eq, pS_p, gd_pos (by omega), if_pos y1.1, e1]
            · rw [e3 6 (by omega), pS_n _ (by omega), c3 6 (by omega), d3]
            · rw [e3 7 (by omega), pS_n _ (by omega), c3 7 (by omega), d4]
            · rw [e3 8 (by omega), pS_p]
          · obtain ⟨m1, d1, d2, d3, d4, d5, d6⟩ := eM2 m hm
            obtain ⟨m', c1, c2, c3, c4, c5⟩ := o3 m1 d1
            obtain ⟨m'', e1, e2, e3, e4, e5⟩ := f4 (mS (mS m' 6 18 vC2) 6 19 1) ((c2.f (by omega)).f (by omega)) (mS_p _ _ _ _)
            refine ⟨m'', ?_, e2, (((d2.tr c3).tr (mF6.s _ (by omega))).tr (mF6.s _ (by omega))).tr e3, fun j hj => by rw [e4 j (by omega), mS_n _ (by omega), mS_n _ (by omega), c4 j (by omega) (by omega), d3 j hj], fun q => ⟨?_, ?_, ?_, (e5 q).1, (e5 q).2⟩⟩
            · rw [d6, c1, cl_some, gd_pos (by omega), if_neg (by omega), c5 y3, bnd_eq, bnd_eq, e1]
            · rw [e4 16 (by omega), mS_n _ (by omega), mS_n _ (by omega), c4 16 (by omega) (by omega), d4]
            · rw [e4 17 (by omega), mS_n _ (by omega), mS_n _ (by omega), c4 17 (by omega) (by omega), d5]
            · rw [e4 18 (by omega), mS_n _ (by omega), mS_p]
        · obtain ⟨w1, w2⟩ := f2 y5
          subst w1 w2
          refine ⟨0, b3, 0, 0, 0, 0, 0, Or.inl (by omega), fun p hp => ?_, fun m hm => ?_⟩
          · obtain ⟨p1, d1, d2, d3, d4, d5⟩ := eC2 p hp
            obtain ⟨p', c1, c2, c3⟩ := o2 p1 d1
            obtain ⟨p'', e1, e2, e3, e4⟩ := f3 (pS p' 0 8 vC2) (c2.f (by omega))
            refine ⟨p'', ?_, e2, fun j hj => by rw [e3 j (by omega), pS_n _ (by omega), c3 j (by omega), d2 j hj], fun q => by omega⟩
            rw [d5, c1, cl_some, bnd_eq, pS_p, gd_pos (by omega), if_pos y1.1, e1]
          · obtain ⟨m1, d1, d2, d3, d4, d5, d6⟩ := eM2 m hm
            obtain ⟨m', c1, c2, c3, c4, c5⟩ := o3 m1 d1
            refine ⟨m', ?_, c2, d2.tr c3, fun j hj => by rw [c4 j (by omega) (by omega), d3 j hj], fun q => by omega⟩
            rw [d6, c1, cl_some, y3, gd_pos (by omega), if_pos rfl]
    · have ei : idxS 1 (sgT s L b) = -1 := by
        unfold idxS
        rw [if_neg (by omega), if_pos rfl, if_neg (by omega), if_neg (by omega), if_neg (by omega), if_neg (by omega)]
      refine ⟨0, b, 0, 0, 0, 0, 0, Or.inl (by omega), fun p hp => ?_, fun m hm => ?_⟩
      · obtain ⟨p', c1, c2, c3, c4⟩ := eC p hp
        refine ⟨pS p' 0 7 (-1), ?_, c1.f (by omega), fun j hj => by rw [pS_n _ (by omega), c2 j hj], fun q => by omega⟩
        rw [c4, ec_oneOf hs c1 hb, ei, if_neg (by omega), cl_some, bnd_eq, pS_p, gd_pos (by omega), if_neg (by omega)]
      · obtain ⟨m', c1, c2, c3, c4, c5⟩ := n3 m hm
        rcases z3 with z3 | ⟨z3, z4, z5⟩
        · refine ⟨mS (mS m' 6 16 vC) 6 17 (-6), ?_, (c2.f (by omega)).f (by omega), (c3.tr (mF6.s _ (by omega))).tr (mF6.s _ (by omega)), fun j hj => by rw [mS_n _ (by omega), mS_n _ (by omega), c4 j (by omega) (by omega)], fun q => by omega⟩
          unfold restN
          rw [c1, cl_some, gd_pos (by omega), if_neg (by omega), c5 z3, bnd_eq, em_one hs (c2.f (by omega)) hb (by omega) (by omega) (by omega) (by omega), if_neg (by omega), if_neg (by omega), if_neg (by omega), if_neg (by omega), cl_some, bnd_eq, mS_p, gd_pos (by omega), if_pos rfl]
        · refine ⟨m', ?_, c2, c3, fun j hj => c4 j (by omega) (by omega), fun q => by omega⟩
          unfold restN
          rw [c1, cl_some, z3, gd_pos (by omega), if_pos rfl]

/-! ===== texts: which act ===== -/
def verbOf (v : Int) : Int := if v = 0 then 112 else if v = 1 then 100 else if v = 2 then 115 else if v = 3 then 103 else 110
def actR (rC rM v : Int) (f : Int → Int) (g : Int → Int) (k0 k3 : Int) : Prop := rC = 1 → rM = 1 → g (k0 + 3) = k3 ∧ (v = 0 → ∀ j : Int, 4 ≤ j ∧ j ≤ 10 → g (k0 + j) = f j) ∧ (v = 1 → g (k0 + 4) = f 4 ∧ g (k0 + 6) = f 6) ∧ (2 ≤ v → g (k0 + 6) = f 6)
def actOut (s : Int → Int) (L a rC rM b v : Int) (f : Int → Int) : Prop :=
  (rC = 0 ∧ rM = 0 ∧ a ≤ b ∧ b ≤ L) ∨ (rC = 1 ∧ rM = 0 ∧ a < b ∧ b < L ∧ dig s L b) ∨ (rC = 1 ∧ rM = 1 ∧ a < b ∧ b ≤ L ∧ ((v = 0 ∧ a + 9 ≤ b ∧ (0 ≤ f 4 ∧ f 4 ≤ 7) ∧ (0 ≤ f 5 ∧ f 5 ≤ 8) ∧ (0 ≤ f 6 ∧ f 6 ≤ 99999) ∧ (0 ≤ f 7 ∧ f 7 ≤ 3) ∧ (0 ≤ f 8 ∧ f 8 ≤ 99999) ∧ (0 ≤ f 9 ∧ f 9 ≤ 99999) ∧ 0 ≤ f 10 ∧ f 10 ≤ 4) ∨ (v = 1 ∧ (0 ≤ f 4 ∧ f 4 ≤ 7) ∧ 0 ≤ f 6 ∧ f 6 ≤ 99999) ∨ ((2 ≤ v ∧ v ≤ 4) ∧ 0 ≤ f 6 ∧ f 6 ≤ 99999)))
def actS (s : Int → Int) (L a rC rM b v : Int) (f : Int → Int) : Prop := actOut s L a rC rM b v f ∧
  (∀ p : Int → Int → Int, pT s L a p → ∃ p', fX4_readAct p = some (rC, p') ∧ pT s L b p' ∧ actR rC rM v f (p' 0) 0 (verbOf v)) ∧
  ∀ m : mR, mT s L a m → ∃ m', fX7_passesAct m = some (rM, m') ∧ mT s L b m' ∧ mF6 m m' ∧ actR rC rM v f (m'.1 6) 10 v
theorem tx_act {s : Int → Int} {L a : Int} (hs : okT s L) (ha : 0 ≤ a ∧ a ≤ L) : ∃ rC rM b v f, actS s L a rC rM b v f := by
  have hL := hs.1
  have hr := sgT_rng hs ha.1
  -- the class's first sign
  have eC : ∀ p : Int → Int → Int, pT s L a p → pT s L a (pS p 0 3 (sgT s L a)) ∧ (pS p 0 3 (sgT s L a)) 0 3 = sgT s L a ∧ (pS p 0 3 (sgT s L a)) 0 2 = a := fun p hp => ⟨hp.f (by omega), pS_p _ _ _ _, (hp.f (k := 3) (by omega)).2.1⟩
  by_cases g1 : sgT s L a = 112
  · -- a new order
    have ha1 : 0 ≤ a + 1 ∧ a + 1 ≤ L := by omega
    obtain ⟨r, b, x, y, o1, o2, o3⟩ := tx_par hs ha1
    have eC1 : ∀ p : Int → Int → Int, pT s L a p → fX4_readAct p = cl (fX4_readParties (pS (pS p 0 3 (sgT s L a)) 0 2 (a + 1))) fun r75 p75 => gd (wR r75) <| if r75 = 0 then (some (0, p75)) else (cl (fX4_readAmountAndDates p75) fun r82 p82 => gd (wR r82) <| if r82 = 0 then (some (0, p82)) else (some (1, p82))) := fun p hp => by
      obtain ⟨c1, c2, c3⟩ := eC p hp
      unfold fX4_readAct
      rw [ec_sign hs hp ha, cr_some, gd_pos (by omega), bnd_eq, c2, gd_pos (by omega), if_neg (by omega), if_neg (by omega), if_neg (by omega), if_pos g1, c3, bnd_eq]
    have eM1 : ∀ m : mR, mT s L a m → fX7_passesAct m = cl (fX7_passesNewOrder (mS (advM s L a m) 6 13 0)) fun r17 m17 => gd (r17 = 0 ∨ r17 = 1) <| some (r17, m17) := fun m hm => by
      unfold fX7_passesAct
      rw [em_passT hs hm ha (by omega) (by omega), cl_some, gd_pos (by omega), if_neg (by omega)]
      rfl
    have m1 : ∀ m : mR, mT s L a m → mT s L (a + 1) (mS (advM s L a m) 6 13 0) := fun m hm => (advM.t hm).f (by omega)
    have f1 : ∀ m : mR, mF6 m (mS (advM s L a m) 6 13 0) := fun m => (advM.f s L a m).tr (mF6.s _ (by omega))
    rcases o1 with ⟨z1, z2, z3⟩ | ⟨z1, z2, z3, z4, z5⟩
    · subst z1
      refine ⟨0, 0, b, 0, fun _ => 0, Or.inl (by omega), fun p hp => ?_, fun m hm => ?_⟩
      · obtain ⟨p', c1, c2, c3, c4⟩ := o2 _ ((hp.f (k := 3) (v := sgT s L a) (by omega)).a (b := a + 1))
        refine ⟨p', ?_, c2, fun q => by omega⟩
        rw [eC1 p hp, c1, cl_some, gd_pos (by omega), if_pos rfl]
      · obtain ⟨m', c1, c2, c3, c4, c5⟩ := o3 _ (m1 m hm)
        refine ⟨m', ?_, c2, (f1 m).tr c3, fun q => by omega⟩
        rw [eM1 m hm, newO_eq, c1, cl_some, gd_pos (by omega), if_pos rfl, cl_some, gd_pos (by omega)]
    · subst z1
      obtain ⟨r2, b2, f6, f7, f8, f9, f10, p1, p2, p3⟩ := tx_amt hs (a := b) (by omega)
      have hr2 : r2 = 0 ∨ r2 = 1 := by omega
      refine ⟨r2, r2, b2, 0, fun j => if j = 4 then x else if j = 5 then y else if j = 6 then f6 else if j = 7 then f7 else if j = 8 then f8 else if j = 9 then f9 else f10, ?_, fun p hp => ?_, fun m hm => ?_⟩
      · rcases p1 with ⟨q1, q2, q3⟩ | ⟨q1, q2, q3, q4, q5, q6, q7, q8⟩
        · exact Or.inl (by omega)
        · exact Or.inr (Or.inr ⟨q1, q1, by omega, by omega, Or.inl ⟨rfl, by omega, z4, z5, q4, q5, q6, q7, q8⟩⟩)
      · obtain ⟨p', c1, c2, c3, c4⟩ := o2 _ ((hp.f (k := 3) (v := sgT s L a) (by omega)).a (b := a + 1))
        obtain ⟨p'', d1, d2, d3, d4⟩ := p2 p' c2
        refine ⟨p'', ?_, d2, fun q1 q2 => ⟨?_, fun _ j hj => ?_, fun q => by omega, fun q => by omega⟩⟩
        · rw [eC1 p hp, c1, cl_some, gd_pos (by omega), if_neg (by omega), d1, cl_some, gd_pos (by omega)]
          rcases hr2 with q | q
          · rw [q, if_pos rfl]
          · rw [q, if_neg (by omega)]
        · rw [show (0 : Int) + 3 = 3 from rfl, d3 3 (by omega), c3, pS_n _ (by omega), pS_p, g1]
          rfl
        · obtain ⟨w6, w7, w8, w9, w10⟩ := d4 q1
          obtain ⟨w4, w5⟩ := c4 rfl
          rw [Int.zero_add]
          have : j = 4 ∨ j = 5 ∨ j = 6 ∨ j = 7 ∨ j = 8 ∨ j = 9 ∨ j = 10 := by omega
          rcases this with rfl | rfl | rfl | rfl | rfl | rfl | rfl
          · rw [d3 4 (by omega), w4]; rfl
          · rw [d3 5 (by omega), w5]; rfl
          · rw [w6]; rfl
          · rw [w7]; rfl
          · rw [w8]; rfl
          · rw [w9]; rfl
          · rw [w10]; rfl
      · obtain ⟨m', c1, c2, c3, c4, c5⟩ := o3 _ (m1 m hm)
        obtain ⟨m'', d1, d2, d3, d4, d5⟩ := p3 m' c2
        refine ⟨m'', ?_, d2, ((f1 m).tr c3).tr d3, fun q1 q2 => ⟨?_, fun _ j hj => ?_, fun q => by omega, fun q => by omega⟩⟩
        · rw [eM1 m hm, newO_eq, c1, cl_some, gd_pos (by omega), if_neg (by omega), d1, cl_some, gd_pos hr2]
        · rw [show (10 : Int) + 3 = 13 from rfl, d4 13 (by omega), c4, mS_p]
        · obtain ⟨w6, w7, w8, w9, w10⟩ := d5 q1
          obtain ⟨w4, w5⟩ := c5 rfl
          have : j = 4 ∨ j = 5 ∨ j = 6 ∨ j = 7 ∨ j = 8 ∨ j = 9 ∨ j = 10 := by omega
          rcases this with rfl | rfl | rfl | rfl | rfl | rfl | rfl
          · rw [show (10 : Int) + 4 = 14 from rfl, d4 14 (by omega), w4]; rfl
          · rw [show (10 : Int) + 5 = 15 from rfl, d4 15 (by omega), w5]; rfl
          · rw [show (10 : Int) + 6 = 16 from rfl, w6]; rfl
          · rw [show (10 : Int) + 7 = 17 from rfl, w7]; rfl
          · rw [show (10 : Int) + 8 = 18 from rfl, w8]; rfl
          · rw [show (10 : Int) + 9 = 19 from rfl, w9]; rfl
          · rw [show (10 : Int) + 10 = 20 from rfl, w10]; rfl
  · by_cases g2 : sgT s L a = 100
    · -- a deposit
      have ha1 : 0 ≤ a + 1 ∧ a + 1 ≤ L := by omega
      have hr1 := sgT_rng hs ha1.1
      have eC1 : ∀ p : Int → Int → Int, pT s L a p → fX4_readAct p = cl (fX4_readDigit (pS (pS p 0 3 (sgT s L a)) 0 2 (a + 1))) fun r137 p137 => bnd (pS p137 0 4 r137) fun p140 => gd (wR (p140 0 4)) <| if (p140 0 4) < 0 then (some (0, p140)) else (cl (fX4_takes 43 p140) fun r153 p153 => gd (wR r153) <| if r153 = 0 then (some (0, p153)) else (cl (fX4_readNumber p153) fun r163 p163 => bnd (pS p163 0 6 r163) fun p166 => gd (wR (p166 0 6)) <| if (p166 0 6) < 0 then (some (0, p166)) else (some (1, p166)))) := fun p hp => by
        obtain ⟨c1, c2, c3⟩ := eC p hp
        unfold fX4_readAct
        rw [ec_sign hs hp ha, cr_some, gd_pos (by omega), bnd_eq, c2, gd_pos (by omega), if_pos g2, c3, bnd_eq]
      have eM1 : ∀ m : mR, mT s L a m → fX7_passesAct m = cl (fX7_passesDeposit (mS (advM s L a m) 6 13 1)) fun r38 m38 => gd (r38 = 0 ∨ r38 = 1) <| some (r38, m38) := fun m hm => by
        unfold fX7_passesAct
        rw [em_passF hs hm ha (by omega) (by omega), cl_some, gd_pos (by omega), if_pos rfl, em_passT hs hm ha (by omega) (by omega), cl_some, gd_pos (by omega), if_neg (by omega)]
        rfl
      have m1 : ∀ m : mR, mT s L a m → mT s L (a + 1) (mS (advM s L a m) 6 13 1) := fun m hm => (advM.t hm).f (by omega)
      have f1 : ∀ m : mR, mF6 m (mS (advM s L a m) 6 13 1) := fun m => (advM.f s L a m).tr (mF6.s _ (by omega))
      have c1 : ∀ p : Int → Int → Int, pT s L a p → pT s L (a + 1) (pS (pS p 0 3 (sgT s L a)) 0 2 (a + 1)) := fun p hp => (hp.f (by omega)).a
      by_cases g3 : 48 ≤ sgT s L (a + 1) ∧ sgT s L (a + 1) ≤ 55
      · have ha2 : 0 ≤ a + 2 ∧ a + 2 ≤ L := by omega
        have hr2 := sgT_rng hs ha2.1
        have c2 : ∀ p : Int → Int → Int, pT s L a p → pT s L (a + 2) (pS (pS (pS (pS p 0 3 (sgT s L a)) 0 2 (a + 1)) 0 2 (a + 1 + 1)) 0 4 (sgT s L (a + 1) - 48)) := fun p hp => by
          have := ((c1 p hp).a (b := a + 1 + 1)).f (k := 4) (v := sgT s L (a + 1) - 48) (by omega)
          rw [show a + 2 = a + 1 + 1 by omega]
          exact this
        have m2 : ∀ m : mR, mT s L a m → mT s L (a + 2) (mS (advM s L (a + 1) (mS (advM s L a m) 6 13 1)) 6 14 (sgT s L (a + 1) - 48)) := fun m hm => by
          have := (advM.t (m1 m hm)).f (k := 14) (v := sgT s L (a + 1) - 48) (by omega)
          rw [show a + 2 = a + 1 + 1 by omega]
          exact this
        have f2 : ∀ m : mR, mF6 m (mS (advM s L (a + 1) (mS (advM s L a m) 6 13 1)) 6 14 (sgT s L (a + 1) - 48)) := fun m => ((f1 m).tr (advM.f _ _ _ _)).tr (mF6.s _ (by omega))
        have eC2 : ∀ p : Int → Int → Int, pT s L a p → fX4_readAct p = cl (fX4_takes 43 (pS (pS (pS (pS p 0 3 (sgT s L a)) 0 2 (a + 1)) 0 2 (a + 1 + 1)) 0 4 (sgT s L (a + 1) - 48))) fun r153 p153 => gd (wR r153) <| if r153 = 0 then (some (0, p153)) else (cl (fX4_readNumber p153) fun r163 p163 => bnd (pS p163 0 6 r163) fun p166 => gd (wR (p166 0 6)) <| if (p166 0 6) < 0 then (some (0, p166)) else (some (1, p166))) := fun p hp => by
          rw [eC1 p hp, ec_digT hs (c1 p hp) ha1 g3, cl_some, bnd_eq, pS_p, gd_pos (by omega), if_neg (by omega)]
        have eM2 : ∀ m : mR, mT s L a m → fX7_passesAct m = cl (cl (fX7_passes 43 43 (mS (advM s L (a + 1) (mS (advM s L a m) 6 13 1)) 6 14 (sgT s L (a + 1) - 48))) fun r26 m26 => gd (wR r26) <| if r26 = 0 then (some (0, m26)) else (cl (fX7_passesNumber m26) fun r33 m33 => gd (wR r33) <| if r33 = 0 then (some (0, m33)) else (bnd (mS m33 6 16 (m33.1 6 12)) fun m46 => some (1, m46)))) fun r38 m38 => gd (r38 = 0 ∨ r38 = 1) <| some (r38, m38) := fun m hm => by
          rw [eM1 m hm]
          unfold fX7_passesDeposit
          rw [em_passT hs (m1 m hm) ha1 (by omega) g3, cl_some, gd_pos (by omega), if_neg (by omega)]
          show cl (bnd (mS (advM s L (a + 1) _) 6 14 ((advM s L (a + 1) _).1 6 12)) _) _ = _
          rw [advM.v, bnd_eq]
        by_cases g4 : sgT s L (a + 2) = 43
        · have ha3 : 0 ≤ a + 2 + 1 ∧ a + 2 + 1 ≤ L := by omega
          obtain ⟨vC, rM, b, n1, n2, n3⟩ := tx_num hs ha3
          have eC3 : ∀ p : Int → Int → Int, pT s L a p → ∃ p', pT s L b p' ∧ p' 0 3 = 100 ∧ p' 0 4 = sgT s L (a + 1) - 48 ∧ p' 0 6 = vC ∧ fX4_readAct p = if vC < 0 then some (0, p') else some (1, p') := fun p hp => by
            obtain ⟨p', d1, d2, d3⟩ := n2 _ ((c2 p hp).a (b := a + 2 + 1))
            refine ⟨pS p' 0 6 vC, d2.f (by omega), ?_, ?_, pS_p _ _ _ _, ?_⟩
            · rw [pS_n _ (by omega), d3 3 (by omega), pS_n _ (by omega), pS_n _ (by omega), pS_n _ (by omega), pS_n _ (by omega), pS_p, g2]
            · rw [pS_n _ (by omega), d3 4 (by omega), pS_n _ (by omega), pS_p]
            · rw [eC2 p hp, ec_takesT hs (c2 p hp) ha2 (by omega) g4, cl_some, gd_pos (by omega), if_neg (by omega), d1, cl_some, bnd_eq, pS_p, gd_pos (by omega)]
          have eM3 : ∀ m : mR, mT s L a m → ∃ m', mT s L b m' ∧ mF6 m m' ∧ m'.1 6 13 = 1 ∧ m'.1 6 14 = sgT s L (a + 1) - 48 ∧ (rM = 1 → m'.1 6 12 = vC) ∧ fX7_passesAct m = cl (if rM = 0 then some (0, m') else (bnd (mS m' 6 16 (m'.1 6 12)) fun m46 => some (1, m46))) fun r38 m38 => gd (r38 = 0 ∨ r38 = 1) <| some (r38, m38) := fun m hm => by
            obtain ⟨m', d1, d2, d3, d4, d5⟩ := n3 _ (advM.t (m2 m hm))
            refine ⟨m', d2, ((f2 m).tr (advM.f _ _ _ _)).tr d3, ?_, ?_, d5, ?_⟩
            · rw [d4 13 (by omega) (by omega), advM.k _ _ _ _ (by omega) (by omega), mS_n _ (by omega), advM.k _ _ _ _ (by omega) (by omega), mS_p]
            · rw [d4 14 (by omega) (by omega), advM.k _ _ _ _ (by omega) (by omega), mS_p]
            · have hrM : wR rM := by omega
              rw [eM2 m hm, em_passT hs (m2 m hm) ha2 (by omega) (by omega), cl_some, gd_pos (by omega), if_neg (by omega)]
              show cl (cl (fX7_passesNumber (advM s L (a + 2) _)) _) _ = _
              rw [d1, cl_some, gd_pos hrM]
          rcases n1 with ⟨z1, z2, z3⟩ | ⟨z1, z2, z3⟩
          · refine ⟨0, 0, b, 0, fun _ => 0, Or.inl (by omega), fun p hp => ?_, fun m hm => ?_⟩
            · obtain ⟨p', d1, d2, d3, d4, d5⟩ := eC3 p hp
              exact ⟨p', by rw [d5, if_pos (by omega)], d1, fun q => by omega⟩
            · obtain ⟨m', d1, d2, d3, d4, d5, d6⟩ := eM3 m hm
              exact ⟨m', by rw [d6, if_pos z2, cl_some, gd_pos (by omega)], d1, d2, fun q => by omega⟩
          · rcases z3 with z3 | ⟨z3, z4, z5⟩
            · refine ⟨1, 1, b, 1, fun j => if j = 4 then sgT s L (a + 1) - 48 else vC, Or.inr (Or.inr ⟨rfl, rfl, by omega, by omega, Or.inr (Or.inl ⟨rfl, ?_, z1⟩)⟩), fun p hp => ?_, fun m hm => ?_⟩
              · show 0 ≤ sgT s L (a + 1) - 48 ∧ sgT s L (a + 1) - 48 ≤ 7
                omega
              · obtain ⟨p', d1, d2, d3, d4, d5⟩ := eC3 p hp
                exact ⟨p', by rw [d5, if_neg (by omega)], d1, fun _ _ => ⟨d2, fun q => by omega, fun _ => ⟨d3, d4⟩, fun q => by omega⟩⟩
              · obtain ⟨m', d1, d2, d3, d4, d5, d6⟩ := eM3 m hm
                refine ⟨mS m' 6 16 vC, by rw [d6, if_neg (by omega), bnd_eq, d5 z3, cl_some, gd_pos (by omega)], d1.f (by omega), d2.tr (mF6.s _ (by omega)), fun _ _ => ⟨?_, fun q => by omega, fun _ => ⟨?_, ?_⟩, fun q => by omega⟩⟩
                · rw [show (10 : Int) + 3 = 13 from rfl, mS_n _ (by omega), d3]
                · rw [show (10 : Int) + 4 = 14 from rfl, mS_n _ (by omega), d4]
                  rfl
                · exact mS_p _ _ _ _
            · refine ⟨1, 0, b, 1, fun _ => 0, Or.inr (Or.inl ⟨rfl, rfl, by omega, z4, z5⟩), fun p hp => ?_, fun m hm => ?_⟩
              · obtain ⟨p', d1, d2, d3, d4, d5⟩ := eC3 p hp
                exact ⟨p', by rw [d5, if_neg (by omega)], d1, fun _ q => by omega⟩
              · obtain ⟨m', d1, d2, d3, d4, d5, d6⟩ := eM3 m hm
                exact ⟨m', by rw [d6, if_pos z3, cl_some, gd_pos (by omega)], d1, d2, fun _ q => by omega⟩
        · refine ⟨0, 0, a + 2, 0, fun _ => 0, Or.inl (by omega), fun p hp => ⟨_, ?_, c2 p hp, fun q => by omega⟩, fun m hm => ⟨_, ?_, m2 m hm, f2 m, fun q => by omega⟩⟩
          · rw [eC2 p hp, ec_takesF hs (c2 p hp) ha2 (by omega) g4, cl_some, gd_pos (by omega), if_pos rfl]
          · rw [eM2 m hm, em_passF hs (m2 m hm) ha2 (by omega) (by omega), cl_some, gd_pos (by omega), if_pos rfl, cl_some, gd_pos (by omega)]
      · refine ⟨0, 0, a + 1, 0, fun _ => 0, Or.inl (by omega), fun p hp => ⟨_, ?_, (c1 p hp).f (k := 4) (v := -1) (by omega), fun q => by omega⟩, fun m hm => ⟨_, ?_, m1 m hm, f1 m, fun q => by omega⟩⟩
        · rw [eC1 p hp, ec_digF hs (c1 p hp) ha1 g3, cl_some, bnd_eq, pS_p, gd_pos (by omega), if_pos (by omega)]
        · rw [eM1 m hm]
          unfold fX7_passesDeposit
          rw [em_passF hs (m1 m hm) ha1 (by omega) g3, cl_some, gd_pos (by omega), if_pos rfl, cl_some, gd_pos (by omega)]
    · -- the others
      have eM0 : ∀ m : mR, mT s L a m → fX7_passesAct m = cl (fX7_passesOne 115 103 110 110 m) fun r51 m51 => gd (wR r51) <| if r51 = (-6) then (some (0, m51)) else (cl (fX7_passesNumber m51) fun r62 m62 => gd (wR r62) <| if r62 = 0 then (some (0, m62)) else (bnd (mS m62 6 13 (2 + r51)) fun m74 => bnd (mS m74 6 16 (m74.1 6 12)) fun m82 => some (1, m82))) := fun m hm => by
        unfold fX7_passesAct
        rw [em_passF hs hm ha (by omega) (by omega), cl_some, gd_pos (by omega), if_pos rfl, em_passF hs hm ha (by omega) (by omega), cl_some, gd_pos (by omega), if_pos rfl]
      have key : ∀ k : Int, (0 ≤ k ∧ k ≤ 2) → sgT s L a = verbOf (2 + k) → (∀ m : mR, mT s L a m → fX7_passesOne 115 103 110 110 m = some (k, advM s L a m)) → (∀ p : Int → Int → Int, pT s L a p → fX4_readAct p = cl (fX4_readNumber (pS (pS p 0 3 (sgT s L a)) 0 2 (a + 1))) fun r106 p106 => bnd (pS p106 0 6 r106) fun p109 => gd (wR (p109 0 6)) <| if (p109 0 6) < 0 then (some (0, p109)) else (some (1, p109))) → ∃ rC rM b v f, actS s L a rC rM b v f := by
        intro k hk hv hM hC
        have hv33 : 100 ≤ verbOf (2 + k) := by
          unfold verbOf
          split
          · omega
          · split
            · omega
            · split
              · omega
              · split <;> omega
        have ha1 : 0 ≤ a + 1 ∧ a + 1 ≤ L := by omega
        obtain ⟨vC, rM, b, n1, n2, n3⟩ := tx_num hs ha1
        have eC3 : ∀ p : Int → Int → Int, pT s L a p → ∃ p', pT s L b p' ∧ p' 0 3 = verbOf (2 + k) ∧ p' 0 6 = vC ∧ fX4_readAct p = if vC < 0 then some (0, p') else some (1, p') := fun p hp => by
          obtain ⟨p', d1, d2, d3⟩ := n2 _ ((hp.f (k := 3) (v := sgT s L a) (by omega)).a (b := a + 1))
          refine ⟨pS p' 0 6 vC, d2.f (by omega), ?_, pS_p _ _ _ _, ?_⟩
          · rw [pS_n _ (by omega), d3 3 (by omega), pS_n _ (by omega), pS_p, hv]
          · rw [hC p hp, d1, cl_some, bnd_eq, pS_p, gd_pos (by omega)]
        have eM3 : ∀ m : mR, mT s L a m → ∃ m', mT s L b m' ∧ mF6 m m' ∧ (rM = 1 → m'.1 6 12 = vC) ∧ fX7_passesAct m = if rM = 0 then some (0, m') else some (1, mS (mS m' 6 13 (2 + k)) 6 16 (m'.1 6 12)) := fun m hm => by
          obtain ⟨m', d1, d2, d3, d4, d5⟩ := n3 _ (advM.t hm)
          have hrM : wR rM := by omega
          refine ⟨m', d2, (advM.f _ _ _ _).tr d3, d5, ?_⟩
          rw [eM0 m hm, hM m hm, cl_some, gd_pos (by omega), if_neg (by omega), d1, cl_some, gd_pos hrM, bnd_eq, bnd_eq, mS_n m' (show ¬ ((6 : Int) = 6 ∧ (12 : Int) = 13) by omega)]
        rcases n1 with ⟨z1, z2, z3⟩ | ⟨z1, z2, z3⟩
        · refine ⟨0, 0, b, 0, fun _ => 0, Or.inl (by omega), fun p hp => ?_, fun m hm => ?_⟩
          · obtain ⟨p', d1, d2, d3, d4⟩ := eC3 p hp
            exact ⟨p', by rw [d4, if_pos (by omega)], d1, fun q => by omega⟩
          · obtain ⟨m', d1, d2, d3, d4⟩ := eM3 m hm
            exact ⟨m', by rw [d4, if_pos z2], d1, d2, fun q => by omega⟩
        · rcases z3 with z3 | ⟨z3, z4, z5⟩
          · refine ⟨1, 1, b, 2 + k, fun _ => vC, Or.inr (Or.inr ⟨rfl, rfl, by omega, by omega, Or.inr (Or.inr ⟨by omega, z1⟩)⟩), fun p hp => ?_, fun m hm => ?_⟩
            · obtain ⟨p', d1, d2, d3, d4⟩ := eC3 p hp
              exact ⟨p', by rw [d4, if_neg (by omega)], d1, fun _ _ => ⟨d2, fun q => by omega, fun q => by omega, fun _ => d3⟩⟩
            · obtain ⟨m', d1, d2, d3, d4⟩ := eM3 m hm
              refine ⟨mS (mS m' 6 13 (2 + k)) 6 16 vC, by rw [d4, if_neg (by omega), d3 z3], (d1.f (by omega)).f (by omega), (d2.tr (mF6.s _ (by omega))).tr (mF6.s _ (by omega)), fun _ _ => ⟨?_, fun q => by omega, fun q => by omega, fun _ => mS_p _ _ _ _⟩⟩
              rw [show (10 : Int) + 3 = 13 from rfl, mS_n _ (by omega), mS_p]
          · refine ⟨1, 0, b, 2, fun _ => 0, Or.inr (Or.inl ⟨rfl, rfl, by omega, z4, z5⟩), fun p hp => ?_, fun m hm => ?_⟩
            · obtain ⟨p', d1, d2, d3, d4⟩ := eC3 p hp
              exact ⟨p', by rw [d4, if_neg (by omega)], d1, fun _ q => by omega⟩
            · obtain ⟨m', d1, d2, d3, d4⟩ := eM3 m hm
              exact ⟨m', by rw [d4, if_pos z3], d1, d2, fun _ q => by omega⟩
      by_cases g3 : sgT s L a = 115
      · refine key 0 (by omega) (by rw [g3]; rfl) (fun m hm => by rw [em_one hs hm ha (by omega) (by omega) (by omega) (by omega), if_pos g3]) (fun p hp => ?_)
        obtain ⟨c1, c2, c3⟩ := eC p hp
        unfold fX4_readAct
        rw [ec_sign hs hp ha, cr_some, gd_pos (by omega), bnd_eq, c2, gd_pos (by omega), if_neg (by omega), if_neg (by omega), if_neg (by omega), if_neg (by omega), if_pos g3, c3, bnd_eq]
      · by_cases g4 : sgT s L a = 103
        · refine key 1 (by omega) (by rw [g4]; rfl) (fun m hm => by rw [em_one hs hm ha (by omega) (by omega) (by omega) (by omega), if_neg g3, if_pos g4]) (fun p hp => ?_)
          obtain ⟨c1, c2, c3⟩ := eC p hp
          unfold fX4_readAct
          rw [ec_sign hs hp ha, cr_some, gd_pos (by omega), bnd_eq, c2, gd_pos (by omega), if_neg (by omega), if_pos g4, c3, bnd_eq]
        · by_cases g5 : sgT s L a = 110
          · refine key 2 (by omega) (by rw [g5]; rfl) (fun m hm => by rw [em_one hs hm ha (by omega) (by omega) (by omega) (by omega), if_neg g3, if_neg g4, if_pos g5]) (fun p hp => ?_)
            obtain ⟨c1, c2, c3⟩ := eC p hp
            unfold fX4_readAct
            rw [ec_sign hs hp ha, cr_some, gd_pos (by omega), bnd_eq, c2, gd_pos (by omega), if_neg (by omega), if_neg (by omega), if_pos g5, c3, bnd_eq]
          · refine ⟨0, 0, a, 0, fun _ => 0, Or.inl (by omega), fun p hp => ?_, fun m hm => ?_⟩
            · obtain ⟨c1, c2, c3⟩ := eC p hp
              refine ⟨_, ?_, c1, fun q => by omega⟩
              unfold fX4_readAct
              rw [ec_sign hs hp ha, cr_some, gd_pos (by omega), bnd_eq, c2, gd_pos (by omega), if_neg (by omega), if_neg (by omega), if_neg (by omega), if_neg (by omega), if_neg (by omega)]
            · refine ⟨m, ?_, hm, mF6.rf m, fun q => by omega⟩
              rw [eM0 m hm, em_one hs hm ha (by omega) (by omega) (by omega) (by omega), if_neg g3, if_neg g4, if_neg g5, if_neg g5, cl_some, gd_pos (by omega), if_pos rfl]

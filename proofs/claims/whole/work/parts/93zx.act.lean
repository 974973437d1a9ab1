/-! ===== texts: an act, both readers ===== -/
theorem ec_digT {s : Int → Int} {L a : Int} {p : Int → Int → Int} (hs : okT s L) (h : pT s L a p) (ha : 0 ≤ a ∧ a ≤ L) (g : 48 ≤ sgT s L a ∧ sgT s L a ≤ 55) : fX4_readDigit p = some (sgT s L a - 48, pS p 0 2 (a + 1)) := by
  have e : idxS 0 (sgT s L a) = sgT s L a - 48 := by
    unfold idxS
    rw [if_pos rfl, if_pos g]
  unfold fX4_readDigit
  rw [ec_oneOf hs h ha, e, if_pos (by omega), cl_some]
theorem ec_digF {s : Int → Int} {L a : Int} {p : Int → Int → Int} (hs : okT s L) (h : pT s L a p) (ha : 0 ≤ a ∧ a ≤ L) (g : ¬ (48 ≤ sgT s L a ∧ sgT s L a ≤ 55)) : fX4_readDigit p = some (-1, p) := by
  have e : idxS 0 (sgT s L a) = -1 := by
    unfold idxS
    rw [if_pos rfl, if_neg g]
  unfold fX4_readDigit
  rw [ec_oneOf hs h ha, e, if_neg (by omega), cl_some]
def advM (s : Int → Int) (L a : Int) (m : mR) : mR := mS (mS m 6 12 (sgT s L a - 48)) 6 11 (a + 1)
theorem advM.t {s : Int → Int} {L a : Int} {m : mR} (h : mT s L a m) : mT s L (a + 1) (advM s L a m) := (h.f (by omega)).a
theorem advM.f (s : Int → Int) (L a : Int) (m : mR) : mF6 m (advM s L a m) := (mF6.s m (by omega)).tr (mF6.s _ (by omega))
theorem advM.k (s : Int → Int) (L a : Int) (m : mR) {k : Int} (h : ¬ k = 11) (h2 : ¬ k = 12) : (advM s L a m).1 6 k = m.1 6 k := by
  unfold advM
  rw [mS_n _ (by omega), mS_n _ (by omega)]
theorem advM.v (s : Int → Int) (L a : Int) (m : mR) : (advM s L a m).1 6 12 = sgT s L a - 48 := by
  unfold advM
  rw [mS_n _ (by omega), mS_p]
theorem em_one {s : Int → Int} {L a x1 x2 x3 x4 : Int} {m : mR} (hs : okT s L) (h : mT s L a m) (ha : 0 ≤ a ∧ a ≤ L) (h1 : 33 ≤ x1 ∧ x1 ≤ 126) (h2 : 33 ≤ x2 ∧ x2 ≤ 126) (h3 : 33 ≤ x3 ∧ x3 ≤ 126) (h4 : 33 ≤ x4 ∧ x4 ≤ 126) :
    fX7_passesOne x1 x2 x3 x4 m = if sgT s L a = x1 then some (0, advM s L a m) else if sgT s L a = x2 then some (1, advM s L a m) else if sgT s L a = x3 then some (2, advM s L a m) else if sgT s L a = x4 then some (3, advM s L a m) else some (-6, m) := by
  unfold fX7_passesOne
  by_cases g1 : sgT s L a = x1
  · rw [if_pos g1, em_passT hs h ha (by omega) (by omega), cl_some, gd_pos (by omega), if_neg (by omega)]
    rfl
  · rw [if_neg g1, em_passF hs h ha (by omega) (by omega), cl_some, gd_pos (by omega), if_pos rfl]
    by_cases g2 : sgT s L a = x2
    · rw [if_pos g2, em_passT hs h ha (by omega) (by omega), cl_some, gd_pos (by omega), if_neg (by omega)]
      rfl
    · rw [if_neg g2, em_passF hs h ha (by omega) (by omega), cl_some, gd_pos (by omega), if_pos rfl]
      by_cases g3 : sgT s L a = x3
      · rw [if_pos g3, em_passT hs h ha (by omega) (by omega), cl_some, gd_pos (by omega), if_neg (by omega)]
        rfl
      · rw [if_neg g3, em_passF hs h ha (by omega) (by omega), cl_some, gd_pos (by omega), if_pos rfl]
        by_cases g4 : sgT s L a = x4
        · rw [if_pos g4, em_passT hs h ha (by omega) (by omega), cl_some, gd_pos (by omega), if_neg (by omega)]
          rfl
        · rw [if_neg g4, em_passF hs h ha (by omega) (by omega), cl_some, gd_pos (by omega), if_pos rfl]
theorem tx_par {s : Int → Int} {L a : Int} (hs : okT s L) (ha : 0 ≤ a ∧ a ≤ L) :
    ∃ r b x y : Int, ((r = 0 ∧ a ≤ b ∧ b ≤ L) ∨ (r = 1 ∧ a + 4 ≤ b ∧ b ≤ L ∧ (0 ≤ x ∧ x ≤ 7) ∧ (0 ≤ y ∧ y ≤ 8))) ∧
      (∀ p : Int → Int → Int, pT s L a p → ∃ p', fX4_readParties p = some (r, p') ∧ pT s L b p' ∧ p' 0 3 = p 0 3 ∧ (r = 1 → p' 0 4 = x ∧ p' 0 5 = y)) ∧
      ∀ m : mR, mT s L a m → ∃ m', fX7_passesParties m = some (r, m') ∧ mT s L b m' ∧ mF6 m m' ∧ m'.1 6 13 = m.1 6 13 ∧ (r = 1 → m'.1 6 14 = x ∧ m'.1 6 15 = y) := by
  have hL := hs.1
  have hr := sgT_rng hs ha.1
  by_cases g1 : 48 ≤ sgT s L a ∧ sgT s L a ≤ 55
  · have ha1 : 0 ≤ a + 1 ∧ a + 1 ≤ L := by omega
    have hr1 := sgT_rng hs ha1.1
    -- both behind the payer
    have c1 : ∀ p : Int → Int → Int, pT s L a p → pT s L (a + 1) (pS (pS p 0 2 (a + 1)) 0 4 (sgT s L a - 48)) := fun p hp => (hp.a).f (by omega)
    have ec1 : ∀ p : Int → Int → Int, pT s L a p → fX4_readParties p = cl (fX4_takes 62 (pS (pS p 0 2 (a + 1)) 0 4 (sgT s L a - 48))) fun r18 p18 => gd (wR r18) <| if r18 = 0 then (some (0, p18)) else (cl (fX4_takes 45 p18) fun r30 p30 => gd (wR r30) <| if r30 = 0 then (cl (fX4_readDigit p30) fun r42 p42 => fX4_readParties_b45 r42 p42) else (fX4_readParties_b45 8 p30)) := fun p hp => by
      unfold fX4_readParties
      rw [ec_digT hs hp ha g1, cl_some, bnd_eq, pS_p, gd_pos (by omega), if_neg (by omega)]
    have em1 : ∀ m : mR, mT s L a m → fX7_passesParties m = cl (fX7_passes 62 62 (mS (advM s L a m) 6 14 (sgT s L a - 48))) fun r26 m26 => gd (wR r26) <| if r26 = 0 then (some (0, m26)) else (bnd (mS m26 6 15 8) fun m37 => cl (fX7_passes 45 45 m37) fun r45 m45 => gd (wR r45) <| if r45 = 0 then (cl (fX7_passes 48 55 m45) fun r56 m56 => gd (wR r56) <| if r56 = 0 then (some (0, m56)) else (bnd (mS m56 6 15 (m56.1 6 12)) fun m69 => fX7_passesParties_b72 m69)) else (fX7_passesParties_b72 m45)) := fun m hm => by
      unfold fX7_passesParties
      rw [em_passT hs hm ha (by omega) g1, cl_some, gd_pos (by omega), if_neg (by omega)]
      show bnd (mS (advM s L a m) 6 14 ((advM s L a m).1 6 12)) _ = _
      rw [advM.v, bnd_eq]
    have m1 : ∀ m : mR, mT s L a m → mT s L (a + 1) (mS (advM s L a m) 6 14 (sgT s L a - 48)) := fun m hm => (advM.t hm).f (by omega)
    by_cases g2 : sgT s L (a + 1) = 62
    · have ha2 : 0 ≤ a + 2 ∧ a + 2 ≤ L := by omega
      have hr2 := sgT_rng hs ha2.1
      have c2 : ∀ p : Int → Int → Int, pT s L a p → pT s L (a + 2) (pS (pS (pS p 0 2 (a + 1)) 0 4 (sgT s L a - 48)) 0 2 (a + 1 + 1)) := fun p hp => by
        rw [show a + 1 + 1 = a + 2 by omega]
        exact (c1 p hp).a
      have m2 : ∀ m : mR, mT s L a m → mT s L (a + 2) (mS (advM s L (a + 1) (mS (advM s L a m) 6 14 (sgT s L a - 48))) 6 15 8) := fun m hm => by
        have := advM.t (m1 m hm)
        rw [show a + 1 + 1 = a + 2 by omega] at this
        exact this.f (by omega)
      have fm2 : ∀ m : mR, mF6 m (mS (advM s L (a + 1) (mS (advM s L a m) 6 14 (sgT s L a - 48))) 6 15 8) := fun m => (((advM.f s L a m).tr (mF6.s _ (by omega))).tr (advM.f s L (a + 1) _)).tr (mF6.s _ (by omega))
      have em2 : ∀ m : mR, mT s L a m → fX7_passesParties m = cl (fX7_passes 45 45 (mS (advM s L (a + 1) (mS (advM s L a m) 6 14 (sgT s L a - 48))) 6 15 8)) fun r45 m45 => gd (wR r45) <| if r45 = 0 then (cl (fX7_passes 48 55 m45) fun r56 m56 => gd (wR r56) <| if r56 = 0 then (some (0, m56)) else (bnd (mS m56 6 15 (m56.1 6 12)) fun m69 => fX7_passesParties_b72 m69)) else (fX7_passesParties_b72 m45) := fun m hm => by
        rw [em1 m hm, em_passT hs (m1 m hm) ha1 (by omega) (by omega), cl_some, gd_pos (by omega), if_neg (by omega), bnd_eq]
        rfl
      have ec2 : ∀ p : Int → Int → Int, pT s L a p → fX4_readParties p = cl (fX4_takes 45 (pS (pS (pS p 0 2 (a + 1)) 0 4 (sgT s L a - 48)) 0 2 (a + 1 + 1))) fun r30 p30 => gd (wR r30) <| if r30 = 0 then (cl (fX4_readDigit p30) fun r42 p42 => fX4_readParties_b45 r42 p42) else (fX4_readParties_b45 8 p30) := fun p hp => by
        rw [ec1 p hp, ec_takesT hs (c1 p hp) ha1 (by omega) g2, cl_some, gd_pos (by omega), if_neg (by omega)]
      -- the end of it: the star
      have fin : ∀ y : Int, (0 ≤ y ∧ y ≤ 8) → a + 3 ≤ L → ∃ r b : Int, ((r = 0 ∧ a ≤ b ∧ b ≤ L) ∨ (r = 1 ∧ a + 4 ≤ b ∧ b ≤ L)) ∧ (∀ q : Int → Int → Int, pT s L (a + 3) q → ∃ q', fX4_readParties_b45 y q = some (r, q') ∧ pT s L b q' ∧ (∀ j : Int, ¬ j = 2 → ¬ j = 5 → q' 0 j = q 0 j) ∧ q' 0 5 = y) ∧ ∀ m : mR, mT s L (a + 3) m → ∃ m', fX7_passesParties_b72 m = some (r, m') ∧ mT s L b m' ∧ mF6 m m' ∧ ∀ j : Int, ¬ j = 11 → ¬ j = 12 → m'.1 6 j = m.1 6 j := by
        intro y hy h3
        have hr3 := sgT_rng hs (show 0 ≤ a + 3 by omega)
        by_cases g4 : sgT s L (a + 3) = 42
        · refine ⟨1, a + 3 + 1, Or.inr (by omega), fun q hq => ⟨pS (pS q 0 5 y) 0 2 (a + 3 + 1), ?_, (hq.f (by omega)).a, fun j j1 j2 => by rw [pS_n _ (by omega), pS_n _ (by omega)], by rw [pS_n _ (by omega), pS_p]⟩, fun m hm => ⟨advM s L (a + 3) m, ?_, advM.t hm, advM.f _ _ _ _, fun j j1 j2 => advM.k _ _ _ _ j1 j2⟩⟩
          · unfold fX4_readParties_b45
            rw [bnd_eq, pS_p, gd_pos (by omega), if_neg (by omega), ec_takesT hs (hq.f (by omega)) (by omega) (by omega) g4, cl_some, gd_pos (by omega), if_neg (by omega)]
          · unfold fX7_passesParties_b72
            rw [em_passT hs hm (by omega) (by omega) (by omega), cl_some, gd_pos (by omega)]
            rfl
        · refine ⟨0, a + 3, Or.inl (by omega), fun q hq => ⟨pS q 0 5 y, ?_, hq.f (by omega), fun j j1 j2 => pS_n _ (by omega), pS_p _ _ _ _⟩, fun m hm => ⟨m, ?_, hm, mF6.rf m, fun _ _ _ => rfl⟩⟩
          · unfold fX4_readParties_b45
            rw [bnd_eq, pS_p, gd_pos (by omega), if_neg (by omega), ec_takesF hs (hq.f (by omega)) (by omega) (by omega) g4, cl_some, gd_pos (by omega), if_pos rfl]
          · unfold fX7_passesParties_b72
            rw [em_passF hs hm (by omega) (by omega) (by omega), cl_some, gd_pos (by omega)]
      by_cases g3 : sgT s L (a + 2) = 45
      · obtain ⟨r, b, f1, f2, f3⟩ := fin 8 (by omega) (by omega)
        refine ⟨r, b, sgT s L a - 48, 8, by omega, fun p hp => ?_, fun m hm => ?_⟩
        · obtain ⟨q', e1, e2, e3, e4⟩ := f2 (pS (pS (pS (pS p 0 2 (a + 1)) 0 4 (sgT s L a - 48)) 0 2 (a + 1 + 1)) 0 2 (a + 2 + 1)) (by
            have := (c2 p hp).a (b := a + 2 + 1)
            rw [show a + 2 + 1 = a + 3 by omega] at this ⊢
            exact this)
          refine ⟨q', ?_, e2, ?_, fun _ => ⟨?_, e4⟩⟩
          · rw [ec2 p hp, ec_takesT hs (c2 p hp) ha2 (by omega) g3, cl_some, gd_pos (by omega), if_neg (by omega)]
            exact e1
          · rw [e3 3 (by omega) (by omega), pS_n _ (by omega), pS_n _ (by omega), pS_n _ (by omega), pS_n _ (by omega)]
          · rw [e3 4 (by omega) (by omega), pS_n _ (by omega), pS_n _ (by omega), pS_p]
        · obtain ⟨m', e1, e2, e3, e4⟩ := f3 (advM s L (a + 2) (mS (advM s L (a + 1) (mS (advM s L a m) 6 14 (sgT s L a - 48))) 6 15 8)) (by
            have := advM.t (m2 m hm)
            rw [show a + 2 + 1 = a + 3 by omega] at this
            exact this)
          refine ⟨m', ?_, e2, ((fm2 m).tr (advM.f _ _ _ _)).tr e3, ?_, fun _ => ⟨?_, ?_⟩⟩
          · rw [em2 m hm, em_passT hs (m2 m hm) ha2 (by omega) (by omega), cl_some, gd_pos (by omega), if_neg (by omega)]
            exact e1
          · rw [e4 13 (by omega) (by omega), advM.k _ _ _ _ (by omega) (by omega), mS_n _ (by omega), advM.k _ _ _ _ (by omega) (by omega), mS_n _ (by omega), advM.k _ _ _ _ (by omega) (by omega)]
          · rw [e4 14 (by omega) (by omega), advM.k _ _ _ _ (by omega) (by omega), mS_n _ (by omega), advM.k _ _ _ _ (by omega) (by omega), mS_p]
          · rw [e4 15 (by omega) (by omega), advM.k _ _ _ _ (by omega) (by omega), mS_p]
      · by_cases g5 : 48 ≤ sgT s L (a + 2) ∧ sgT s L (a + 2) ≤ 55
        · obtain ⟨r, b, f1, f2, f3⟩ := fin (sgT s L (a + 2) - 48) (by omega) (by omega)
          refine ⟨r, b, sgT s L a - 48, sgT s L (a + 2) - 48, by omega, fun p hp => ?_, fun m hm => ?_⟩
          · obtain ⟨q', e1, e2, e3, e4⟩ := f2 (pS (pS (pS (pS p 0 2 (a + 1)) 0 4 (sgT s L a - 48)) 0 2 (a + 1 + 1)) 0 2 (a + 2 + 1)) (by
              have := (c2 p hp).a (b := a + 2 + 1)
              rw [show a + 2 + 1 = a + 3 by omega] at this ⊢
              exact this)
            refine ⟨q', ?_, e2, ?_, fun _ => ⟨?_, e4⟩⟩
            · rw [ec2 p hp, ec_takesF hs (c2 p hp) ha2 (by omega) g3, cl_some, gd_pos (by omega), if_pos rfl, ec_digT hs (c2 p hp) ha2 g5, cl_some]
              exact e1
            · rw [e3 3 (by omega) (by omega), pS_n _ (by omega), pS_n _ (by omega), pS_n _ (by omega), pS_n _ (by omega)]
            · rw [e3 4 (by omega) (by omega), pS_n _ (by omega), pS_n _ (by omega), pS_p]
          · obtain ⟨m', e1, e2, e3, e4⟩ := f3 (mS (advM s L (a + 2) (mS (advM s L (a + 1) (mS (advM s L a m) 6 14 (sgT s L a - 48))) 6 15 8)) 6 15 (sgT s L (a + 2) - 48)) (by
              have := advM.t (m2 m hm)
              rw [show a + 2 + 1 = a + 3 by omega] at this
              exact this.f (by omega))
            refine ⟨m', ?_, e2, (((fm2 m).tr (advM.f _ _ _ _)).tr (mF6.s _ (by omega))).tr e3, ?_, fun _ => ⟨?_, ?_⟩⟩
            · rw [em2 m hm, em_passF hs (m2 m hm) ha2 (by omega) (by omega), cl_some, gd_pos (by omega), if_pos rfl, em_passT hs (m2 m hm) ha2 (by omega) g5, cl_some, gd_pos (by omega), if_neg (by omega)]
              show bnd (mS (advM s L (a + 2) _) 6 15 ((advM s L (a + 2) _).1 6 12)) _ = _
              rw [advM.v, bnd_eq]
              exact e1
            · rw [e4 13 (by omega) (by omega), mS_n _ (by omega), advM.k _ _ _ _ (by omega) (by omega), mS_n _ (by omega), advM.k _ _ _ _ (by omega) (by omega), mS_n _ (by omega), advM.k _ _ _ _ (by omega) (by omega)]
            · rw [e4 14 (by omega) (by omega), mS_n _ (by omega), advM.k _ _ _ _ (by omega) (by omega), mS_n _ (by omega), advM.k _ _ _ _ (by omega) (by omega), mS_p]
            · rw [e4 15 (by omega) (by omega), mS_p]
        · refine ⟨0, a + 2, 0, 0, Or.inl (by omega), fun p hp => ⟨pS (pS (pS (pS p 0 2 (a + 1)) 0 4 (sgT s L a - 48)) 0 2 (a + 1 + 1)) 0 5 (-1), ?_, (c2 p hp).f (by omega), ?_, fun q => by omega⟩, fun m hm => ⟨_, ?_, m2 m hm, fm2 m, ?_, fun q => by omega⟩⟩
          · rw [ec2 p hp, ec_takesF hs (c2 p hp) ha2 (by omega) g3, cl_some, gd_pos (by omega), if_pos rfl, ec_digF hs (c2 p hp) ha2 g5, cl_some]
            unfold fX4_readParties_b45
            rw [bnd_eq, pS_p, gd_pos (by omega), if_pos (by omega)]
          · rw [pS_n _ (by omega), pS_n _ (by omega), pS_n _ (by omega), pS_n _ (by omega)]
          · rw [em2 m hm, em_passF hs (m2 m hm) ha2 (by omega) (by omega), cl_some, gd_pos (by omega), if_pos rfl, em_passF hs (m2 m hm) ha2 (by omega) g5, cl_some, gd_pos (by omega), if_pos rfl]
          · rw [mS_n _ (by omega), advM.k _ _ _ _ (by omega) (by omega), mS_n _ (by omega), advM.k _ _ _ _ (by omega) (by omega)]
    · refine ⟨0, a + 1, 0, 0, Or.inl (by omega), fun p hp => ⟨_, ?_, c1 p hp, ?_, fun q => by omega⟩, fun m hm => ⟨_, ?_, m1 m hm, (advM.f s L a m).tr (mF6.s _ (by omega)), ?_, fun q => by omega⟩⟩
      · rw [ec1 p hp, ec_takesF hs (c1 p hp) ha1 (by omega) g2, cl_some, gd_pos (by omega), if_pos rfl]
      · rw [pS_n _ (by omega), pS_n _ (by omega)]
      · rw [em1 m hm, em_passF hs (m1 m hm) ha1 (by omega) (by omega), cl_some, gd_pos (by omega), if_pos rfl]
      · rw [mS_n _ (by omega), advM.k _ _ _ _ (by omega) (by omega)]
  · refine ⟨0, a, 0, 0, Or.inl (by omega), fun p hp => ⟨pS p 0 4 (-1), ?_, hp.f (by omega), pS_n p (by omega), fun q => by omega⟩, fun m hm => ⟨m, ?_, hm, mF6.rf m, rfl, fun q => by omega⟩⟩
    · unfold fX4_readParties
      rw [ec_digF hs hp ha g1, cl_some, bnd_eq, pS_p, gd_pos (by omega), if_pos (by omega)]
    · unfold fX7_passesParties
      rw [em_passF hs hm ha (by omega) g1, cl_some, gd_pos (by omega), if_pos rfl]
/-- the rule, behind the day of the month -/
theorem tx_rule {s : Int → Int} {L a t1 : Int} (hs : okT s L) (ha : 0 ≤ a ∧ a ≤ L) (ht : 0 ≤ t1 ∧ t1 ≤ 99999) :
    ∃ r b x : Int, ((r = 0 ∧ b = a) ∨ (r = 1 ∧ b = a + 1 ∧ b ≤ L ∧ 0 ≤ x ∧ x ≤ 4)) ∧ (dig s L a → r = 0) ∧
      (∀ p : Int → Int → Int, pT s L a p → ∃ p', fX4_readAmountAndDates_b71 t1 p = some (r, p') ∧ pT s L b p' ∧ (∀ j : Int, 3 ≤ j ∧ j ≤ 8 → p' 0 j = p 0 j) ∧ p' 0 9 = t1 ∧ (r = 1 → p' 0 10 = x)) ∧
      ∀ m : mR, mT s L a m → ∃ m', fX7_passesNewOrder_b99 m = some (r, m') ∧ mT s L b m' ∧ mF6 m m' ∧ (∀ j : Int, 13 ≤ j ∧ j ≤ 19 → m'.1 6 j = m.1 6 j) ∧ (r = 1 → m'.1 6 20 = x) := by
  have hL := hs.1
  have hr := sgT_rng hs ha.1
  have eC : ∀ p : Int → Int → Int, pT s L a p → fX4_readAmountAndDates_b71 t1 p = if 0 ≤ idxS 2 (sgT s L a) then some (1, pS (pS (pS p 0 9 t1) 0 2 (a + 1)) 0 10 (idxS 2 (sgT s L a))) else some (0, pS (pS p 0 9 t1) 0 10 (idxS 2 (sgT s L a))) := fun p hp => by
    have hw : wR (idxS 2 (sgT s L a)) := by
      unfold idxS
      split
      · omega
      · split
        · omega
        · split
          · omega
          · split
            · omega
            · split
              · omega
              · split
                · omega
                · split <;> omega
    unfold fX4_readAmountAndDates_b71
    rw [bnd_eq, pS_p, gd_pos (by omega), if_pos ht.1, ec_oneOf hs (hp.f (by omega)) ha, cl_some, bnd_eq]
    by_cases g : 0 ≤ idxS 2 (sgT s L a)
    · rw [if_pos g, if_pos g, pS_p, gd_pos hw, if_neg (by omega)]
    · rw [if_neg g, if_neg g, pS_p, gd_pos hw, if_pos (by omega)]
  have eM : ∀ m : mR, mT s L a m → fX7_passesNewOrder_b99 m = if sgT s L a = 46 then some (1, mS (advM s L a m) 6 20 0) else if sgT s L a = 102 then some (1, mS (advM s L a m) 6 20 1) else if sgT s L a = 98 then some (1, mS (advM s L a m) 6 20 2) else if sgT s L a = 120 then some (1, mS (advM s L a m) 6 20 3) else if sgT s L a = 33 then some (1, mS (advM s L a (mS m 6 20 (-6))) 6 20 4) else some (0, mS m 6 20 (-6)) := fun m hm => by
    have eb : ∀ (v : Int) (g : mR), 0 ≤ v ∧ v ≤ 4 → fX7_passesRule_b41 (mS g 6 20 v) = some (1, mS g 6 20 v) := fun v g hv => by
      unfold fX7_passesRule_b41
      rw [mS_p, gd_pos (by omega), if_neg (by omega)]
    have er : fX7_passesRule m = if sgT s L a = 46 then some (1, mS (advM s L a m) 6 20 0) else if sgT s L a = 102 then some (1, mS (advM s L a m) 6 20 1) else if sgT s L a = 98 then some (1, mS (advM s L a m) 6 20 2) else if sgT s L a = 120 then some (1, mS (advM s L a m) 6 20 3) else if sgT s L a = 33 then some (1, mS (advM s L a (mS m 6 20 (-6))) 6 20 4) else some (0, mS m 6 20 (-6)) := by
      unfold fX7_passesRule
      rw [em_one hs hm ha (by omega) (by omega) (by omega) (by omega)]
      by_cases g1 : sgT s L a = 46
      · rw [if_pos g1, if_pos g1, cl_some, bnd_eq, mS_p, gd_pos (by omega), if_neg (by omega), eb 0 _ (by omega)]
      · rw [if_neg g1, if_neg g1]
        by_cases g2 : sgT s L a = 102
        · rw [if_pos g2, if_pos g2, cl_some, bnd_eq, mS_p, gd_pos (by omega), if_neg (by omega), eb 1 _ (by omega)]
        · rw [if_neg g2, if_neg g2]
          by_cases g3 : sgT s L a = 98
          · rw [if_pos g3, if_pos g3, cl_some, bnd_eq, mS_p, gd_pos (by omega), if_neg (by omega), eb 2 _ (by omega)]
          · rw [if_neg g3, if_neg g3]
            by_cases g4 : sgT s L a = 120
            · rw [if_pos g4, if_pos g4, cl_some, bnd_eq, mS_p, gd_pos (by omega), if_neg (by omega), eb 3 _ (by omega)]
            · rw [if_neg g4, if_neg g4, cl_some, bnd_eq, mS_p, gd_pos (by omega), if_pos rfl]
              by_cases g5 : sgT s L a = 33
              · rw [if_pos g5, em_passT hs (hm.f (by omega)) ha (by omega) (by omega), cl_some, gd_pos (by omega), if_neg (by omega), bnd_eq]
                exact eb 4 _ (by omega)
              · rw [if_neg g5, em_passF hs (hm.f (by omega)) ha (by omega) (by omega), cl_some, gd_pos (by omega), if_pos rfl]
                unfold fX7_passesRule_b41
                rw [mS_p, gd_pos (by omega), if_pos rfl]
    unfold fX7_passesNewOrder_b99
    rw [er]
    by_cases g1 : sgT s L a = 46
    · rw [if_pos g1, cl_some, gd_pos (by omega)]
    · rw [if_neg g1]
      by_cases g2 : sgT s L a = 102
      · rw [if_pos g2, cl_some, gd_pos (by omega)]
      · rw [if_neg g2]
        by_cases g3 : sgT s L a = 98
        · rw [if_pos g3, cl_some, gd_pos (by omega)]
        · rw [if_neg g3]
          by_cases g4 : sgT s L a = 120
          · rw [if_pos g4, cl_some, gd_pos (by omega)]
          · rw [if_neg g4]
            by_cases g5 : sgT s L a = 33
            · rw [if_pos g5, cl_some, gd_pos (by omega)]
            · rw [if_neg g5, cl_some, gd_pos (by omega)]
  have okC : ∀ (x : Int), idxS 2 (sgT s L a) = x → 0 ≤ x → ∀ p : Int → Int → Int, pT s L a p → ∃ p', fX4_readAmountAndDates_b71 t1 p = some (1, p') ∧ pT s L (a + 1) p' ∧ (∀ j : Int, 3 ≤ j ∧ j ≤ 8 → p' 0 j = p 0 j) ∧ p' 0 9 = t1 ∧ ((1 : Int) = 1 → p' 0 10 = x) := fun x hx hx0 p hp => by
    refine ⟨pS (pS (pS p 0 9 t1) 0 2 (a + 1)) 0 10 x, ?_, ((hp.f (by omega)).a).f (by omega), fun j hj => by rw [pS_n _ (by omega), pS_n _ (by omega), pS_n _ (by omega)], by rw [pS_n _ (by omega), pS_n _ (by omega), pS_p], fun _ => pS_p _ _ _ _⟩
    rw [eC p hp, hx, if_pos hx0]
  have okM : ∀ (x : Int) (g : mR → mR), (∀ m, mT s L a m → mT s L (a + 1) (g m) ∧ mF6 m (g m) ∧ ∀ j : Int, 13 ≤ j ∧ j ≤ 19 → (g m).1 6 j = m.1 6 j) → (∀ m, mT s L a m → fX7_passesNewOrder_b99 m = some (1, mS (g m) 6 20 x)) → ∀ m : mR, mT s L a m → ∃ m', fX7_passesNewOrder_b99 m = some (1, m') ∧ mT s L (a + 1) m' ∧ mF6 m m' ∧ (∀ j : Int, 13 ≤ j ∧ j ≤ 19 → m'.1 6 j = m.1 6 j) ∧ ((1 : Int) = 1 → m'.1 6 20 = x) := fun x g hg e m hm => by
    obtain ⟨q1, q2, q3⟩ := hg m hm
    exact ⟨_, e m hm, q1.f (by omega), q2.tr (mF6.s _ (by omega)), fun j hj => by rw [mS_n _ (by omega)]; exact q3 j hj, fun _ => mS_p _ _ _ _⟩
  have ga : ∀ m, mT s L a m → mT s L (a + 1) (advM s L a m) ∧ mF6 m (advM s L a m) ∧ ∀ j : Int, 13 ≤ j ∧ j ≤ 19 → (advM s L a m).1 6 j = m.1 6 j := fun m hm => ⟨advM.t hm, advM.f _ _ _ _, fun j hj => advM.k _ _ _ _ (by omega) (by omega)⟩
  have gb : ∀ m, mT s L a m → mT s L (a + 1) (advM s L a (mS m 6 20 (-6))) ∧ mF6 m (advM s L a (mS m 6 20 (-6))) ∧ ∀ j : Int, 13 ≤ j ∧ j ≤ 19 → (advM s L a (mS m 6 20 (-6))).1 6 j = m.1 6 j := fun m hm => ⟨advM.t (hm.f (by omega)), (mF6.s m (by omega)).tr (advM.f _ _ _ _), fun j hj => by rw [advM.k _ _ _ _ (by omega) (by omega), mS_n _ (by omega)]⟩
  by_cases g1 : sgT s L a = 46
  · exact ⟨1, a + 1, 0, Or.inr (by omega), fun q => by unfold dig at q; omega, okC 0 (by rw [g1]; rfl) (by omega), okM 0 _ ga (fun m hm => by rw [eM m hm, if_pos g1])⟩
  · by_cases g2 : sgT s L a = 102
    · exact ⟨1, a + 1, 1, Or.inr (by omega), fun q => by unfold dig at q; omega, okC 1 (by rw [g2]; rfl) (by omega), okM 1 _ ga (fun m hm => by rw [eM m hm, if_neg g1, if_pos g2])⟩
    · by_cases g3 : sgT s L a = 98
      · exact ⟨1, a + 1, 2, Or.inr (by omega), fun q => by unfold dig at q; omega, okC 2 (by rw [g3]; rfl) (by omega), okM 2 _ ga (fun m hm => by rw [eM m hm, if_neg g1, if_neg g2, if_pos g3])⟩
      · by_cases g4 : sgT s L a = 120
        · exact ⟨1, a + 1, 3, Or.inr (by omega), fun q => by unfold dig at q; omega, okC 3 (by rw [g4]; rfl) (by omega), okM 3 _ ga (fun m hm => by rw [eM m hm, if_neg g1, if_neg g2, if_neg g3, if_pos g4])⟩
        · by_cases g5 : sgT s L a = 33
          · exact ⟨1, a + 1, 4, Or.inr (by omega), fun q => by unfold dig at q; omega, okC 4 (by rw [g5]; rfl) (by omega), okM 4 _ gb (fun m hm => by rw [eM m hm, if_neg g1, if_neg g2, if_neg g3, if_neg g4, if_pos g5])⟩
          · have ei : idxS 2 (sgT s L a) = -1 := by
              unfold idxS
              rw [if_neg (by omega), if_neg (by omega), if_neg g1, if_neg g2, if_neg g3, if_neg g4, if_neg g5]
            refine ⟨0, a, 0, Or.inl ⟨rfl, rfl⟩, fun _ => rfl, fun p hp => ⟨pS (pS p 0 9 t1) 0 10 (-1), ?_, (hp.f (by omega)).f (by omega), fun j hj => by rw [pS_n _ (by omega), pS_n _ (by omega)], by rw [pS_n _ (by omega), pS_p], fun q => by omega⟩, fun m hm => ⟨mS m 6 20 (-6), ?_, hm.f (by omega), mF6.s m (by omega), fun j hj => mS_n m (by omega), fun q => by omega⟩⟩
            · rw [eC p hp, ei, if_neg (by omega)]
            · rw [eM m hm, if_neg g1, if_neg g2, if_neg g3, if_neg g4, if_neg g5]

/-! ===== texts: both readers, over one row of signs ===== -/
def pT (s : Int → Int) (L at' : Int) (p : Int → Int → Int) : Prop := p 0 1 = L ∧ p 0 2 = at' ∧ ∀ j : Int, 0 ≤ j ∧ j < L → p 1 j = s j
def mT (s : Int → Int) (L at' : Int) (m : mR) : Prop := m.1 6 10 = L ∧ m.1 6 11 = at' ∧ ∀ j : Int, 0 ≤ j ∧ j < L → m.1 5 j = s j
def okT (s : Int → Int) (L : Int) : Prop := (0 ≤ L ∧ L ≤ 80) ∧ ∀ j : Int, 0 ≤ j ∧ j < L → 33 ≤ s j ∧ s j ≤ 126
def mF6 (m m' : mR) : Prop := (∀ t : Int, ¬ t = 6 → m'.1 t = m.1 t) ∧ m'.2 = m.2 ∧ ∀ k : Int, k ≤ 10 → m'.1 6 k = m.1 6 k
theorem mF6.rf (m : mR) : mF6 m m := ⟨fun _ _ => rfl, rfl, fun _ _ => rfl⟩
theorem mF6.tr {m m1 m2 : mR} (h : mF6 m m1) (g : mF6 m1 m2) : mF6 m m2 := ⟨fun t q => (g.1 t q).trans (h.1 t q), g.2.1.trans h.2.1, fun k q => (g.2.2 k q).trans (h.2.2 k q)⟩
theorem mF6.s (m : mR) {k v : Int} (h : 11 ≤ k) : mF6 m (mS m 6 k v) := ⟨fun t q => mS_t m _ _ q, rfl, fun j q => mS_n m (by omega)⟩
theorem pT.f {s : Int → Int} {L a k v : Int} {p : Int → Int → Int} (h : pT s L a p) (hk : 3 ≤ k) : pT s L a (pS p 0 k v) := ⟨(pS_n p (by omega)).trans h.1, (pS_n p (by omega)).trans h.2.1, fun j hj => (pS_n p (by omega)).trans (h.2.2 j hj)⟩
theorem pT.a {s : Int → Int} {L a b : Int} {p : Int → Int → Int} (h : pT s L a p) : pT s L b (pS p 0 2 b) := ⟨(pS_n p (by omega)).trans h.1, pS_p _ _ _ _, fun j hj => (pS_n p (by omega)).trans (h.2.2 j hj)⟩
theorem mT.f {s : Int → Int} {L a k v : Int} {m : mR} (h : mT s L a m) (hk : 12 ≤ k) : mT s L a (mS m 6 k v) := ⟨(mS_n m (by omega)).trans h.1, (mS_n m (by omega)).trans h.2.1, fun j hj => (mS_n m (by omega)).trans (h.2.2 j hj)⟩
theorem mT.a {s : Int → Int} {L a b : Int} {m : mR} (h : mT s L a m) : mT s L b (mS m 6 11 b) := ⟨(mS_n m (by omega)).trans h.1, mS_p _ _ _ _, fun j hj => (mS_n m (by omega)).trans (h.2.2 j hj)⟩
/-- the sign where a reader stands -/
def sgT (s : Int → Int) (L a : Int) : Int := if a < L then s a else 0
theorem sgT_rng {s : Int → Int} {L a : Int} (h : okT s L) (ha : 0 ≤ a) : (a < L ∧ sgT s L a = s a ∧ 33 ≤ sgT s L a ∧ sgT s L a ≤ 126) ∨ (L ≤ a ∧ sgT s L a = 0) := by
  unfold sgT
  by_cases g : a < L
  · rw [if_pos g]
    have := h.2 a ⟨ha, g⟩
    exact Or.inl ⟨g, rfl, this.1, this.2⟩
  · rw [if_neg g]
    exact Or.inr ⟨by omega, rfl⟩
theorem ec_sign {s : Int → Int} {L a : Int} {p : Int → Int → Int} (hs : okT s L) (h : pT s L a p) (ha : 0 ≤ a ∧ a ≤ L) : fX4_sign p = some (sgT s L a) := by
  obtain ⟨h1, h2, h3⟩ := h
  have hL := hs.1
  unfold fX4_sign sgT
  rw [h2, h1, gd_pos (by omega), if_neg (by omega), gd_pos (by omega)]
  by_cases g : a < L
  · have := hs.2 a ⟨ha.1, g⟩
    rw [if_neg (by omega), gd_pos (by omega), if_neg (by omega), gd_pos (by omega), h3 a ⟨ha.1, g⟩, gd_pos (by omega), if_pos g]
  · rw [if_pos (by omega), if_neg g]
theorem ec_takesT {s : Int → Int} {L a x : Int} {p : Int → Int → Int} (hs : okT s L) (h : pT s L a p) (ha : 0 ≤ a ∧ a ≤ L) (hx : wR x) (g : sgT s L a = x) : fX4_takes x p = some (1, pS p 0 2 (a + 1)) := by
  have hr := sgT_rng hs ha.1
  unfold fX4_takes
  rw [ec_sign hs h ha, cr_some, gd_pos (by omega), if_pos g, h.2.1, bnd_eq]
theorem ec_takesF {s : Int → Int} {L a x : Int} {p : Int → Int → Int} (hs : okT s L) (h : pT s L a p) (ha : 0 ≤ a ∧ a ≤ L) (hx : wR x) (g : ¬ sgT s L a = x) : fX4_takes x p = some (0, p) := by
  have hr := sgT_rng hs ha.1
  unfold fX4_takes
  rw [ec_sign hs h ha, cr_some, gd_pos (by omega), if_neg g]
theorem em_passT {s : Int → Int} {L a x y : Int} {m : mR} (hs : okT s L) (h : mT s L a m) (ha : 0 ≤ a ∧ a ≤ L) (hx : wR x ∧ wR y ∧ 33 ≤ x) (g : x ≤ sgT s L a ∧ sgT s L a ≤ y) : fX7_passes x y m = some (1, mS (mS m 6 12 (sgT s L a - 48)) 6 11 (a + 1)) := by
  obtain ⟨h1, h2, h3⟩ := h
  have hL := hs.1
  have hr := sgT_rng hs ha.1
  have h3a := h3 a (by omega)
  have e : m.1 5 a = sgT s L a := by
    rw [h3a]
    omega
  unfold fX7_passes
  rw [h1, h2, gd_pos (by omega), if_neg (by omega), gd_pos (by omega), e, gd_pos (by omega), gd_pos hx.1, gd_pos hx.2.1, ev_inT (by omega), cr_some, gd_pos (by omega), if_neg (by omega), gd_pos (by omega), bnd_eq, mS_n m (by omega), h2, bnd_eq]
theorem em_passF {s : Int → Int} {L a x y : Int} {m : mR} (hs : okT s L) (h : mT s L a m) (ha : 0 ≤ a ∧ a ≤ L) (hx : wR x ∧ wR y ∧ 33 ≤ x) (g : ¬ (x ≤ sgT s L a ∧ sgT s L a ≤ y)) : fX7_passes x y m = some (0, m) := by
  obtain ⟨h1, h2, h3⟩ := h
  have hL := hs.1
  have hr := sgT_rng hs ha.1
  unfold fX7_passes
  rw [h1, h2, gd_pos (by omega)]
  by_cases q : a = L
  · rw [if_pos q]
  · have h3a := h3 a (by omega)
    have e : m.1 5 a = sgT s L a := by
      rw [h3a]
      omega
    rw [if_neg q, gd_pos (by omega), e, gd_pos (by omega), gd_pos hx.1, gd_pos hx.2.1, ev_inF (by omega), cr_some, gd_pos (by omega), if_pos rfl]
theorem ec_oneOf {s : Int → Int} {L a w : Int} {p : Int → Int → Int} (hs : okT s L) (h : pT s L a p) (ha : 0 ≤ a ∧ a ≤ L) : fX4_readOneOf w p = some (idxS w (sgT s L a), if 0 ≤ idxS w (sgT s L a) then pS p 0 2 (a + 1) else p) := by
  have hr := sgT_rng hs ha.1
  unfold fX4_readOneOf
  rw [ec_sign hs h ha, cr_some, gd_pos (by omega), h.2.1]
  by_cases g : 0 ≤ idxS w (sgT s L a)
  · rw [if_pos g, if_pos g]
  · rw [if_neg g, if_neg g]
/-! numbers -/
def dig (s : Int → Int) (L a : Int) : Prop := 48 ≤ sgT s L a ∧ sgT s L a ≤ 57
def pw10 (k : Int) : Int := if k = 0 then 1 else if k = 1 then 10 else if k = 2 then 100 else if k = 3 then 1000 else if k = 4 then 10000 else 100000
theorem tx_numL {s : Int → Int} {L : Int} (hs : okT s L) : ∀ (d : Nat) (k a v : Int), k + d = 5 → 1 ≤ k → 1 ≤ a → a ≤ L → pw10 (k - 1) ≤ v → v < pw10 k →
    ∃ vC rM b : Int, (0 ≤ vC ∧ vC ≤ 99999) ∧ (a ≤ b ∧ b ≤ L) ∧ (rM = 1 ∨ (rM = 0 ∧ b < L ∧ dig s L b)) ∧
      (∀ (fuel : Nat) (p : Int → Int → Int), 6 < fuel + k → pT s L a p → ∃ p', fX4_readNumber_b15 fuel v k p = some (vC, p') ∧ pT s L b p' ∧ ∀ j : Int, ¬ j = 2 → p' 0 j = p 0 j) ∧
      ∀ (fuel : Nat) (m : mR), 6 < fuel + k → mT s L a m → ∃ m', fX7_passesNumber_b18 fuel v m = some (rM, m') ∧ mT s L b m' ∧ mF6 m m' ∧ (∀ j : Int, ¬ j = 11 → ¬ j = 12 → m'.1 6 j = m.1 6 j) ∧ (rM = 1 → m'.1 6 12 = vC) := by
  intro d
  induction d with
  | zero =>
    intro k a v h1 h2 h3 h4 h5 h6
    have hk : k = 5 := by omega
    subst hk
    have hL := hs.1
    have h5 : 10000 ≤ v := h5
    have h6 : v < 100000 := h6
    have hr := sgT_rng hs (show 0 ≤ a by omega)
    have hc : ∀ (fuel : Nat) (p : Int → Int → Int), 6 < (fuel : Int) + 5 → pT s L a p → ∃ p', fX4_readNumber_b15 fuel v 5 p = some (v, p') ∧ pT s L a p' ∧ ∀ j : Int, ¬ j = 2 → p' 0 j = p 0 j := by
      intro fuel p hf hp
      obtain ⟨f, rfl⟩ : ∃ f, fuel = f + 1 := ⟨fuel - 1, by omega⟩
      refine ⟨p, ?_, hp, fun _ _ => rfl⟩
      unfold fX4_readNumber_b15 fX4_readNumber_b67
      rw [gd_pos (by omega), if_pos (by omega), gd_pos (by omega), if_neg (by omega)]
    by_cases g : dig s L a
    · have hal : a < L := by
        unfold dig at g
        omega
      refine ⟨v, 0, a, by omega, by omega, Or.inr ⟨rfl, hal, g⟩, hc, ?_⟩
      intro fuel m hf hm
      obtain ⟨f, rfl⟩ : ∃ f, fuel = f + 1 := ⟨fuel - 1, by omega⟩
      refine ⟨m, ?_, hm, mF6.rf m, fun _ _ _ => rfl, fun q => by omega⟩
      obtain ⟨m1, m2, m3⟩ := hm
      have e : m.1 5 a = sgT s L a := by
        rw [m3 a (by omega)]
        omega
      unfold dig at g
      unfold fX7_passesNumber_b18 fX7_isDigitHere
      rw [m1, m2, gd_pos (by omega), if_neg (by omega), gd_pos (by omega), if_neg (by omega), gd_pos (by omega), e, gd_pos (by omega), ev_inT (by omega), cr_some, gd_pos (by omega), if_neg (by omega), cr_some, gd_pos (by omega), if_neg (by omega), gd_pos (by omega), gd_pos (by omega), if_neg (by omega)]
    · refine ⟨v, 1, a, by omega, by omega, Or.inl rfl, hc, ?_⟩
      intro fuel m hf hm
      obtain ⟨f, rfl⟩ : ∃ f, fuel = f + 1 := ⟨fuel - 1, by omega⟩
      refine ⟨mS m 6 12 v, ?_, hm.f (by omega), mF6.s m (by omega), fun j q1 q2 => mS_n m (by omega), fun _ => mS_p _ _ _ _⟩
      obtain ⟨m1, m2, m3⟩ := hm
      unfold dig at g
      unfold fX7_passesNumber_b18 fX7_isDigitHere fX7_passesNumber_b71
      rw [m1, m2, gd_pos (by omega), if_neg (by omega), gd_pos (by omega)]
      by_cases q : L ≤ a
      · rw [if_pos q, cr_some, gd_pos (by omega), if_pos rfl, bnd_eq]
      · have e : m.1 5 a = sgT s L a := by
          rw [m3 a (by omega)]
          omega
        rw [if_neg q, gd_pos (by omega), e, gd_pos (by omega), ev_inF (by omega), cr_some, gd_pos (by omega), if_pos rfl, cr_some, gd_pos (by omega), if_pos rfl, bnd_eq]
  | succ d ih =>
    intro k a v h1 h2 h3 h4 h5 h6
    have hL := hs.1
    have hr := sgT_rng hs (show 0 ≤ a by omega)
    have hv : 0 < v ∧ v ≤ 9999 := by
      unfold pw10 at h5 h6
      have : k = 1 ∨ k = 2 ∨ k = 3 ∨ k = 4 := by omega
      rcases this with rfl | rfl | rfl | rfl <;> simp at h5 h6 <;> omega
    by_cases g : dig s L a
    · have g' := g
      unfold dig at g'
      have hal : a < L := by omega
      have hn : pw10 (k + 1 - 1) ≤ 10 * v + (sgT s L a - 48) ∧ 10 * v + (sgT s L a - 48) < pw10 (k + 1) := by
        unfold pw10 at h5 h6 ⊢
        have : k = 1 ∨ k = 2 ∨ k = 3 ∨ k = 4 := by omega
        rcases this with rfl | rfl | rfl | rfl <;> simp at h5 h6 ⊢ <;> omega
      obtain ⟨vC, rM, b, b1, b2, b3, b4, b5⟩ := ih (k + 1) (a + 1) (10 * v + (sgT s L a - 48)) (by omega) (by omega) (by omega) (by omega) hn.1 hn.2
      refine ⟨vC, rM, b, b1, by omega, b3, ?_, ?_⟩
      · intro fuel p hf hp
        obtain ⟨f, rfl⟩ : ∃ f, fuel = f + 1 := ⟨fuel - 1, by omega⟩
        obtain ⟨p', c1, c2, c3⟩ := b4 f (pS p 0 2 (a + 1)) (by omega) hp.a
        refine ⟨p', ?_, c2, fun j q => (c3 j q).trans (pS_n p (by omega))⟩
        rw [fX4_readNumber_b15, gd_pos (by omega), if_neg (by omega), ec_sign hs hp (by omega), cr_some, gd_pos (by omega), if_neg (by omega), cr_some, gd_pos (by omega), if_neg (by omega), cr_some, hp.2.1, bnd_eq]
        exact c1
      · intro fuel m hf hm
        obtain ⟨f, rfl⟩ : ∃ f, fuel = f + 1 := ⟨fuel - 1, by omega⟩
        obtain ⟨m', c1, c2, c3, c4, c5⟩ := b5 f (mS m 6 11 (a + 1)) (by omega) hm.a
        refine ⟨m', ?_, c2, (mF6.s m (by omega)).tr c3, fun j q1 q2 => (c4 j q1 q2).trans (mS_n m (by omega)), c5⟩
        obtain ⟨m1, m2, m3⟩ := hm
        have e : m.1 5 a = sgT s L a := by
          rw [m3 a (by omega)]
          omega
        have ed : fX7_isDigitHere m = some 1 := by
          unfold fX7_isDigitHere
          rw [m1, m2, gd_pos (by omega), if_neg (by omega), gd_pos (by omega), e, gd_pos (by omega), ev_inT (by omega), cr_some, gd_pos (by omega), if_neg (by omega)]
        rw [fX7_passesNumber_b18, gd_pos (by omega), if_neg (by omega), ed, cr_some, gd_pos (by omega), if_neg (by omega), m2, gd_pos (by omega), e, gd_pos (by omega), if_pos (by omega), bnd_eq, show 10 * v + sgT s L a - 48 = 10 * v + (sgT s L a - 48) by omega]
        exact c1
    · have g' := g
      unfold dig at g'
      refine ⟨v, 1, a, by omega, by omega, Or.inl rfl, ?_, ?_⟩
      · intro fuel p hf hp
        obtain ⟨f, rfl⟩ : ∃ f, fuel = f + 1 := ⟨fuel - 1, by omega⟩
        refine ⟨p, ?_, hp, fun _ _ => rfl⟩
        have e67 : fX4_readNumber_b67 v k p = some (v, p) := by
          unfold fX4_readNumber_b67
          rw [gd_pos (by omega), if_neg (by omega)]
        rw [fX4_readNumber_b15, gd_pos (by omega), if_neg (by omega), ec_sign hs hp (by omega), cr_some, gd_pos (by omega)]
        by_cases q : sgT s L a < 48
        · rw [if_pos q, e67]
        · rw [if_neg q, cr_some, gd_pos (by omega), if_pos (by omega), e67]
      · intro fuel m hf hm
        obtain ⟨f, rfl⟩ : ∃ f, fuel = f + 1 := ⟨fuel - 1, by omega⟩
        refine ⟨mS m 6 12 v, ?_, hm.f (by omega), mF6.s m (by omega), fun j q1 q2 => mS_n m (by omega), fun _ => mS_p _ _ _ _⟩
        obtain ⟨m1, m2, m3⟩ := hm
        have ed : fX7_isDigitHere m = some 0 := by
          unfold fX7_isDigitHere
          rw [m1, m2, gd_pos (by omega)]
          by_cases q : L ≤ a
          · rw [if_pos q]
          · have e : m.1 5 a = sgT s L a := by
              rw [m3 a (by omega)]
              omega
            rw [if_neg q, gd_pos (by omega), e, gd_pos (by omega), ev_inF (by omega), cr_some, gd_pos (by omega), if_pos rfl]
        unfold fX7_passesNumber_b18 fX7_passesNumber_b71
        rw [gd_pos (by omega), if_neg (by omega), ed, cr_some, gd_pos (by omega), if_pos rfl, bnd_eq]
/-- a number: none on both sides; the same one; or one that is too long -/
theorem tx_num {s : Int → Int} {L a : Int} (hs : okT s L) (ha : 0 ≤ a ∧ a ≤ L) :
    ∃ vC rM b : Int, ((vC = -1 ∧ rM = 0 ∧ b = a) ∨ ((0 ≤ vC ∧ vC ≤ 99999) ∧ (a < b ∧ b ≤ L) ∧ (rM = 1 ∨ (rM = 0 ∧ b < L ∧ dig s L b)))) ∧
      (∀ p : Int → Int → Int, pT s L a p → ∃ p', fX4_readNumber p = some (vC, p') ∧ pT s L b p' ∧ ∀ j : Int, ¬ j = 2 → p' 0 j = p 0 j) ∧
      ∀ m : mR, mT s L a m → ∃ m', fX7_passesNumber m = some (rM, m') ∧ mT s L b m' ∧ mF6 m m' ∧ (∀ j : Int, ¬ j = 11 → ¬ j = 12 → m'.1 6 j = m.1 6 j) ∧ (rM = 1 → m'.1 6 12 = vC) := by
  have hL := hs.1
  have hr := sgT_rng hs ha.1
  by_cases g : dig s L a
  · have g' := g
    unfold dig at g'
    have hal : a < L := by omega
    by_cases g0 : sgT s L a = 48
    · refine ⟨0, 1, a + 1, Or.inr ⟨by omega, by omega, Or.inl rfl⟩, fun p hp => ⟨pS p 0 2 (a + 1), ?_, hp.a, fun j q => pS_n p (by omega)⟩, fun m hm => ⟨mS (mS (mS m 6 12 0) 6 11 (a + 1)) 6 12 0, ?_, ((hm.f (by omega)).a).f (by omega), ((mF6.s m (by omega)).tr (mF6.s _ (by omega))).tr (mF6.s _ (by omega)), fun j q1 q2 => by rw [mS_n _ (by omega), mS_n _ (by omega), mS_n _ (by omega)], fun _ => mS_p _ _ _ _⟩⟩
      · unfold fX4_readNumber
        rw [ec_takesT hs hp ha (by omega) g0, cl_some, gd_pos (by omega), if_neg (by omega)]
      · unfold fX7_passesNumber
        rw [em_passT hs hm ha (by omega) (by omega), g0, cl_some, gd_pos (by omega), if_neg (by omega), mS_n _ (by omega), mS_p]
        show fX7_passesNumber_b18 (999999 + 1) _ _ = _
        unfold fX7_passesNumber_b18 fX7_passesNumber_b71
        rw [gd_pos (by omega), if_pos (by omega), bnd_eq]
        rfl
    · obtain ⟨vC, rM, b, b1, b2, b3, b4, b5⟩ := tx_numL hs 4 1 (a + 1) (sgT s L a - 48) (by omega) (by omega) (by omega) (by omega) (by show (1 : Int) ≤ _; omega) (by show _ < (10 : Int); omega)
      refine ⟨vC, rM, b, Or.inr ⟨b1, by omega, b3⟩, fun p hp => ?_, fun m hm => ?_⟩
      · obtain ⟨p', c1, c2, c3⟩ := b4 999999 (pS p 0 2 (a + 1)) (by omega) hp.a
        refine ⟨p', ?_, c2, fun j q => (c3 j q).trans (pS_n p (by omega))⟩
        unfold fX4_readNumber
        rw [ec_takesF hs hp ha (by omega) g0, cl_some, gd_pos (by omega), if_pos rfl]
        show fX4_readNumber_b15 (999999 + 1) 0 0 p = _
        rw [fX4_readNumber_b15, gd_pos (by omega), if_neg (by omega), ec_sign hs hp ha, cr_some, gd_pos (by omega), if_neg (by omega), cr_some, gd_pos (by omega), if_neg (by omega), cr_some, hp.2.1, bnd_eq, show 10 * (0 : Int) + (sgT s L a - 48) = sgT s L a - 48 by omega]
        exact c1
      · obtain ⟨m', c1, c2, c3, c4, c5⟩ := b5 fuel0 (mS (mS m 6 12 (sgT s L a - 48)) 6 11 (a + 1)) (by show (6 : Int) < ((1000000 : Nat) : Int) + 1; omega) (hm.f (by omega)).a
        refine ⟨m', ?_, c2, ((mF6.s m (by omega)).tr (mF6.s _ (by omega))).tr c3, fun j q1 q2 => by rw [c4 j q1 q2, mS_n _ (by omega), mS_n _ (by omega)], c5⟩
        unfold fX7_passesNumber
        rw [em_passT hs hm ha (by omega) (by omega), cl_some, gd_pos (by omega), if_neg (by omega), mS_n _ (by omega), mS_p]
        exact c1
  · have g' := g
    unfold dig at g'
    refine ⟨-1, 0, a, Or.inl ⟨rfl, rfl, rfl⟩, fun p hp => ⟨p, ?_, hp, fun _ _ => rfl⟩, fun m hm => ⟨m, ?_, hm, mF6.rf m, fun _ _ _ => rfl, fun q => by omega⟩⟩
    · unfold fX4_readNumber
      rw [ec_takesF hs hp ha (by omega) (by omega), cl_some, gd_pos (by omega), if_pos rfl]
      have e67 : fX4_readNumber_b67 0 0 p = some (-1, p) := by
        unfold fX4_readNumber_b67
        rw [gd_pos (by omega), if_pos rfl]
      show fX4_readNumber_b15 (999999 + 1) 0 0 p = _
      rw [fX4_readNumber_b15, gd_pos (by omega), if_neg (by omega), ec_sign hs hp ha, cr_some, gd_pos (by omega)]
      by_cases q : sgT s L a < 48
      · rw [if_pos q, e67]
      · rw [if_neg q, cr_some, gd_pos (by omega), if_pos (by omega), e67]
    · unfold fX7_passesNumber
      rw [em_passF hs hm ha (by omega) g', cl_some, gd_pos (by omega), if_pos rfl]

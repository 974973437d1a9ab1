/-! ===== texts: fault in step ===== -/
def Snd (s : Int → Int) (L : Int) : Nat → Int → Prop
  | 0, _ => False
  | n + 1, a => ∃ b v f, actS s L a 1 1 b v f ∧ (b = L ∨ (b < L ∧ sgT s L b = 59 ∧ Snd s L n (b + 1)))
noncomputable def fltM (fuel : Nat) (m : mR) : Option (Int × mR) :=
  cl (fX7_passesAct m) fun r6 m6 => gd (wR r6) <| if r6 = 0 then (some ((m6.1 6 11), m6)) else (fX7_fault_b17 fuel m6)
theorem tx_sound {s : Int → Int} {L : Int} (hs : okT s L) : ∀ (n : Nat) (a i : Int), 81 ≤ a + n → 0 ≤ a → a ≤ L → 0 ≤ i → 2 * i ≤ a →
    ∃ (k e : Int), (k = 0 ∨ (k = 1 ∧ Snd s L n a)) ∧ (0 ≤ e ∧ e ≤ L) ∧
      (∀ (fuel : Nat) (p : Int → Int → Int), n < fuel → pT s L a p → ∃ p', fX4_isSound_b7 fuel i p = some (k, p') ∧ pT s L e p') ∧
      ∀ (fuel : Nat) (m : mR), n < fuel → mT s L a m → ∃ m', fltM fuel m = some (if k = 0 then e else -6, m') ∧ mT s L e m' ∧ mF6 m m'
  | 0, a, i, h1, h2, h3, h4, h5 => by
    have hL := hs.1
    omega
  | n + 1, a, i, h1, h2, h3, h4, h5 => by
    have hL := hs.1
    obtain ⟨rC, rM, b, v, f, o1, o2, o3⟩ := tx_act hs (a := a) ⟨h2, h3⟩
    have eC : ∀ (fuel : Nat) (p : Int → Int → Int), pT s L a p → ∃ p', pT s L b p' ∧ fX4_isSound_b7 (fuel + 1) i p = if rC = 0 then some (0, p') else (if b < L then (cl (fX4_takes 59 p') fun r38 p38 => gd (wR r38) <| if r38 = 0 then (some (0, p38)) else ((fX4_isSound_b7 fuel) (i + 1) p38)) else some (1, p')) := fun fuel p hp => by
      obtain ⟨p', c1, c2, c3⟩ := o2 p hp
      have hrC : wR rC := by unfold actOut at o1; omega
      refine ⟨p', c2, ?_⟩
      rw [fX4_isSound_b7, gd_pos (by omega), if_neg (by omega), c1, cl_some, gd_pos hrC]
      by_cases q : rC = 0
      · rw [if_pos q, if_pos q]
      · rw [if_neg q, if_neg q, c2.2.1, c2.1, gd_pos (by unfold actOut at o1; omega)]
    have eM : ∀ (fuel : Nat) (m : mR), mT s L a m → ∃ m', mT s L b m' ∧ mF6 m m' ∧ fltM fuel m = if rM = 0 then some (b, m') else fX7_fault_b17 fuel m' := fun fuel m hm => by
      obtain ⟨m', c1, c2, c3, c4⟩ := o3 m hm
      have hrM : wR rM := by unfold actOut at o1; omega
      refine ⟨m', c2, c3, ?_⟩
      unfold fltM
      rw [c1, cl_some, gd_pos hrM, c2.2.1]
    have o1' := o1
    unfold actOut at o1'
    rcases o1' with ⟨z1, z2, z3, z4⟩ | ⟨z1, z2, z3, z4, z5⟩ | ⟨z1, z2, z3, z4, z5⟩
    · refine ⟨0, b, Or.inl rfl, by omega, fun fuel p hf hp => ?_, fun fuel m hf hm => ?_⟩
      · obtain ⟨g, rfl⟩ : ∃ g, fuel = g + 1 := ⟨fuel - 1, by omega⟩
        obtain ⟨p', c1, c2⟩ := eC g p hp
        exact ⟨p', by rw [c2, if_pos z1], c1⟩
      · obtain ⟨m', c1, c2, c3⟩ := eM fuel m hm
        exact ⟨m', by rw [c3, if_pos z2, if_pos rfl], c1, c2⟩
    · refine ⟨0, b, Or.inl rfl, by omega, fun fuel p hf hp => ?_, fun fuel m hf hm => ?_⟩
      · obtain ⟨g, rfl⟩ : ∃ g, fuel = g + 1 := ⟨fuel - 1, by omega⟩
        obtain ⟨p', c1, c2⟩ := eC g p hp
        refine ⟨p', ?_, c1⟩
        unfold dig at z5
        rw [c2, if_neg (by omega), if_pos z4, ec_takesF hs c1 (by omega) (by omega) (by omega), cl_some, gd_pos (by omega), if_pos rfl]
      · obtain ⟨m', c1, c2, c3⟩ := eM fuel m hm
        exact ⟨m', by rw [c3, if_pos z2, if_pos rfl], c1, c2⟩
    · subst z1 z2
      by_cases g1 : b = L
      · refine ⟨1, b, Or.inr ⟨rfl, b, v, f, ⟨o1, o2, o3⟩, Or.inl g1⟩, by omega, fun fuel p hf hp => ?_, fun fuel m hf hm => ?_⟩
        · obtain ⟨g, rfl⟩ : ∃ g, fuel = g + 1 := ⟨fuel - 1, by omega⟩
          obtain ⟨p', c1, c2⟩ := eC g p hp
          exact ⟨p', by rw [c2, if_neg (by omega), if_neg (by omega)], c1⟩
        · obtain ⟨m', c1, c2, c3⟩ := eM fuel m hm
          obtain ⟨g, rfl⟩ : ∃ g, fuel = g + 1 := ⟨fuel - 1, by omega⟩
          refine ⟨m', ?_, c1, c2⟩
          rw [c3, if_neg (by omega), if_neg (by omega), fX7_fault_b17, c1.1, c1.2.1, gd_pos (by omega), if_pos (by omega)]
      · have hb : b < L := by omega
        by_cases g2 : sgT s L b = 59
        · obtain ⟨k, e, y1, y2, y3, y4⟩ := tx_sound hs n (b + 1) (i + 1) (by omega) (by omega) (by omega) (by omega) (by omega)
          refine ⟨k, e, ?_, y2, fun fuel p hf hp => ?_, fun fuel m hf hm => ?_⟩
          · rcases y1 with y1 | ⟨y1, y5⟩
            · exact Or.inl y1
            · exact Or.inr ⟨y1, b, v, f, ⟨o1, o2, o3⟩, Or.inr ⟨hb, g2, y5⟩⟩
          · obtain ⟨g, rfl⟩ : ∃ g, fuel = g + 1 := ⟨fuel - 1, by omega⟩
            obtain ⟨p', c1, c2⟩ := eC g p hp
            obtain ⟨p'', d1, d2⟩ := y3 g _ (by omega) (c1.a (b := b + 1))
            refine ⟨p'', ?_, d2⟩
            rw [c2, if_neg (by omega), if_pos hb, ec_takesT hs c1 (by omega) (by omega) g2, cl_some, gd_pos (by omega), if_neg (by omega), d1]
          · obtain ⟨m', c1, c2, c3⟩ := eM fuel m hm
            obtain ⟨g, rfl⟩ : ∃ g, fuel = g + 1 := ⟨fuel - 1, by omega⟩
            obtain ⟨m'', d1, d2, d3⟩ := y4 g _ (by omega) (advM.t c1)
            refine ⟨m'', ?_, d2, (c2.tr (advM.f _ _ _ _)).tr d3⟩
            rw [c3, if_neg (by omega), fX7_fault_b17, c1.1, c1.2.1, gd_pos (by omega), if_neg (by omega), em_passT hs c1 (by omega) (by omega) (by omega), cl_some, gd_pos (by omega), if_neg (by omega)]
            exact d1
        · refine ⟨0, b, Or.inl rfl, by omega, fun fuel p hf hp => ?_, fun fuel m hf hm => ?_⟩
          · obtain ⟨g, rfl⟩ : ∃ g, fuel = g + 1 := ⟨fuel - 1, by omega⟩
            obtain ⟨p', c1, c2⟩ := eC g p hp
            exact ⟨p', by rw [c2, if_neg (by omega), if_pos hb, ec_takesF hs c1 (by omega) (by omega) g2, cl_some, gd_pos (by omega), if_pos rfl], c1⟩
          · obtain ⟨m', c1, c2, c3⟩ := eM fuel m hm
            obtain ⟨g, rfl⟩ : ∃ g, fuel = g + 1 := ⟨fuel - 1, by omega⟩
            refine ⟨m', ?_, c1, c2⟩
            rw [c3, if_neg (by omega), if_pos rfl, fX7_fault_b17, c1.1, c1.2.1, gd_pos (by omega), if_neg (by omega), em_passF hs c1 (by omega) (by omega) (by omega), cl_some, gd_pos (by omega), if_pos rfl, c1.2.1]
/-- the same text on both sides -/
theorem padR.t {c : cR} {m : mR} (h : padR c m) : okT (fun j => m.1 5 j) (m.1 6 10) ∧ pT (fun j => m.1 5 j) (m.1 6 10) 0 (pS c.2.2 0 2 0) ∧ mT (fun j => m.1 5 j) (m.1 6 10) 0 (mS m 6 11 0) := by
  obtain ⟨h1, h2, h3⟩ := h
  refine ⟨⟨h2, fun j hj => (h3 j hj).2⟩, ⟨(pS_n _ (by omega)).trans h1, pS_p _ _ _ _, fun j hj => (pS_n _ (by omega)).trans (h3 j hj).1⟩, ⟨mS_n m (by omega), mS_p _ _ _ _, fun j hj => mS_n m (by omega)⟩⟩
/-- isSound against fault -/
theorem tx_fault {c : cR} {m : mR} (h : padR c m) : ∃ k e p' m', fX4_isSound c.2.2 = some (k, p') ∧ fX7_fault m = some (if k = 0 then e else -6, m') ∧ (k = 0 ∨ (k = 1 ∧ Snd (fun j => m.1 5 j) (m.1 6 10) 81 0)) ∧ p' 0 2 = e ∧ (0 ≤ e ∧ e ≤ m.1 6 10) ∧ padR (cP c p') m' ∧ mF6 m m' ∧ p' 0 1 = c.2.2 0 1 := by
  obtain ⟨t1, t2, t3⟩ := h.t
  obtain ⟨k, e, y1, y2, y3, y4⟩ := tx_sound t1 81 0 0 (by omega) (by omega) t1.1.1 (by omega) (by omega)
  obtain ⟨p', c1, c2⟩ := y3 fuel0 _ (by decide) t2
  obtain ⟨m', d1, d2, d3⟩ := y4 fuel0 _ (by decide) t3
  refine ⟨k, e, p', m', ?_, ?_, y1, c2.2.1, y2, ⟨?_, ?_, fun j hj => ?_⟩, (mF6.s m (by omega)).tr d3, c2.1.trans h.1.symm⟩
  · unfold fX4_isSound
    rw [bnd_eq]
    exact c1
  · unfold fX7_fault
    rw [bnd_eq]
    exact d1
  · show p' 0 1 = m'.1 6 10
    rw [c2.1, d2.1]
  · rw [d2.1]
    exact h.2.1
  · rw [d2.1] at hj
    show p' 1 j = m'.1 5 j ∧ _
    rw [c2.2.2 j hj, d2.2.2 j hj]
    exact ⟨rfl, (h.2.2 j hj).2⟩
theorem ls_fault {c : cR} {m : mR} (h : padR c m) : ∃ r c' m', fX6_fault c = some (r, c') ∧ fX7_fault m = some (r, m') ∧ wR r ∧ c'.1 = c.1 ∧ c'.2.1 = c.2.1 ∧ padR c' m' ∧ mF6 m m' := by
  obtain ⟨k, e, p', m', a1, a2, a3, a4, a5, a6, a7, a8⟩ := tx_fault h
  have hL := h.2.1
  refine ⟨if k = 0 then e else -6, cP c p', m', ?_, a2, by split <;> omega, rfl, rfl, a6, a7⟩
  unfold fX6_fault
  rw [a1, cl_some, bnd_eq, gd_pos (by omega)]
  by_cases q : k = 0
  · rw [if_pos q, if_pos q]
    show some (p' 0 2, _) = _
    rw [a4]
  · rw [if_neg q, if_neg q]

/-! ===== texts: a text carried out in step ===== -/
def rowsB (m m' : mR) : Prop := m'.1 2 = m.1 2 ∧ m'.1 3 = m.1 3 ∧ m'.2 1 = m.2 1 ∧ m'.1 4 = m.1 4 ∧ m'.1 5 = m.1 5 ∧ ∀ k : Int, ¬ k = 8 → k ≤ 10 → m'.1 6 k = m.1 6 k
theorem rowsB.tr {m m1 m2 : mR} (h : rowsB m m1) (g : rowsB m1 m2) : rowsB m m2 := by
  obtain ⟨h1, h2, h3, h4, h5, h6⟩ := h
  obtain ⟨g1, g2, g3, g4, g5, g6⟩ := g
  exact ⟨g1.trans h1, g2.trans h2, g3.trans h3, g4.trans h4, g5.trans h5, fun k a b => (g6 k a b).trans (h6 k a b)⟩
theorem rowsA.b {m m' : mR} (h : rowsA m m') : rowsB m m' := ⟨h.1, h.2.1, h.2.2.1, h.2.2.2.1, h.2.2.2.2.1, fun k a b => h.2.2.2.2.2 k a (by omega)⟩
theorem mF6.b {m m' : mR} (h : mF6 m m') : rowsB m m' := ⟨h.1 2 (by omega), h.1 3 (by omega), by rw [h.2.1], h.1 4 (by omega), h.1 5 (by omega), fun k a b => h.2.2 k (by omega)⟩
theorem ev_isErr {x : Int} (h : wR x) : fX6_isError x = some (bI (decide (-5 ≤ x ∧ x ≤ -1))) := by
  unfold fX6_isError
  rw [ev_bt (by omega), cr_some]
  have := bI_rng (decide (-5 ≤ x ∧ x ≤ -1))
  rw [gd_pos (by omega)]
theorem Sim.text {T : Int} {H : hR} {m m' : mR} (h : Sim T H m) (f : mF6 m m') : Sim T H m' := ⟨h.1.oth (f.1 0 (by omega)) (f.1 1 (by omega)) (by rw [f.2.1]), by rw [f.1 0 (by omega)]; exact h.2.1, h.2.2⟩
/-- the reference's end -/
theorem em_end {fuel : Nat} {n : Int} {m : mR} : fX7_carryOut_b25 (fuel + 1) n 0 m = some (n, mS m 6 10 0) := by
  rw [fX7_carryOut_b25, gd_pos (by decide), if_pos rfl]
  rfl
theorem ls_carry {s : Int → Int} {L C To : Int} (hs : okT s L) (hC : 0 ≤ C ∧ C + To ≤ 512) : ∀ (n fC fM : Nat) (a cnt i T : Int) (c : cR) (m : mR), Snd s L n a → n < fC → n < fM → 0 ≤ a → a < L → 0 ≤ cnt → cnt ≤ i → 2 * i ≤ a → 0 ≤ T → T + n ≤ 100000 → pT s L a c.2.2 → mT s L a m → Sim T (c.1 0) m → okXd C (c.1 0) → 9 * (c.1 0).1 0 5 0 + (L - a) ≤ 9 * To →
    ∃ r c' m', fX6_carryOut_b29 fC cnt i c = fX6_carryOut_b96 r c' ∧ fX7_carryOut_b25 fM cnt 1 m = some (r, mS m' 6 10 0) ∧ (0 ≤ r ∧ r ≤ 81) ∧ Sim (T + n) (c'.1 0) m' ∧ okXd C (c'.1 0) ∧ (∀ k : Int, ¬ k = 0 → c'.1 k = c.1 k) ∧ c'.2.1 = c.2.1 ∧ rowsB m m' ∧ 9 * (c'.1 0).1 0 5 0 ≤ 9 * To
  | 0, _, _, _, _, _, _, _, _, h, _, _, _, _, _, _, _, _, _, _, _, _, _, _ => False.elim h
  | n + 1, 0, _, _, _, _, _, _, _, _, h, _, _, _, _, _, _, _, _, _, _, _, _, _ => by omega
  | n + 1, _ + 1, 0, _, _, _, _, _, _, _, _, h, _, _, _, _, _, _, _, _, _, _, _, _ => by omega
  | n + 1, fC + 1, fM + 1, a, cnt, i, T, c, m, hS, hfC, hfM, ha0, haL, hc0, hci, hia, hT0, hTn, hp, hm, h, hX, hO => by
    have hL := hs.1
    obtain ⟨b, v, f, ⟨o1, o2, o3⟩, hnext⟩ := hS
    have hab : a < b ∧ b ≤ L ∧ (v = 0 → a + 9 ≤ b) := by
      unfold actOut at o1
      omega
    obtain ⟨p1, c1, c2, c3⟩ := o2 _ hp
    obtain ⟨m1, d1, d2, d3, d4⟩ := o3 _ hm
    -- behind the act
    have hsep : ∃ q p2, fX4_takes 59 p1 = some (q, p2) ∧ (∀ k : Int, 3 ≤ k → p2 0 k = p1 0 k) ∧ ((b = L ∧ pT s L b p2) ∨ (b < L ∧ Snd s L n (b + 1) ∧ pT s L (b + 1) p2)) := by
      rcases hnext with g | ⟨g, g59, g2⟩
      · have hz := sgT_rng hs (show 0 ≤ b by omega)
        exact ⟨0, p1, ec_takesF hs c2 (by omega) (by omega) (by omega), fun _ _ => rfl, Or.inl ⟨g, c2⟩⟩
      · exact ⟨1, pS p1 0 2 (b + 1), ec_takesT hs c2 (by omega) (by omega) g59, fun k hk => pS_n _ (by omega), Or.inr ⟨g, g2, c2.a⟩⟩
    obtain ⟨q, p2, t1, t2, t3⟩ := hsep
    have gC : actR 1 1 v f (((cP (cP c p1) p2).2.2) 0) 0 (verbOf v) := fun z1 z2 => by
      obtain ⟨w1, w2, w3, w4⟩ := c3 z1 z2
      have e : ∀ k : Int, 3 ≤ k → (cP (cP c p1) p2).2.2 0 k = p1 0 k := t2
      refine ⟨by rw [e _ (by omega)]; exact w1, fun z j hj => by rw [e _ (by omega)]; exact w2 z j hj, fun z => ?_, fun z => by rw [e _ (by omega)]; exact w4 z⟩
      rw [e _ (by omega), e _ (by omega)]
      exact w3 z
    have hord : C + (c.1 0).1 0 5 0 ≤ 512 := by omega
    obtain ⟨r, r', c4, m2, e1, e2, e3, e4, e5, e6, e7, e8, e9, e10, e11, e12⟩ := ls_act (c := cP (cP c p1) p2) (m := m1) (T := T) (C := C) ⟨hT0, by omega⟩ ⟨hC.1, hord⟩ (h.text d3) hX o1 gC d4
    have e9 : ∀ k : Int, ¬ k = 0 → c4.1 k = c.1 k := e9
    have e10p : c4.2.2 = p2 := by rw [e10]; rfl
    have e10f : c4.2.1 = c.2.1 := by rw [e10]; rfl
    have e12 : (c4.1 0).1 0 5 0 ≤ (c.1 0).1 0 5 0 + (if v = 0 then 1 else 0) := e12
    have e12' : 9 * (c4.1 0).1 0 5 0 + (L - b) ≤ 9 * To := by
      by_cases z : v = 0
      · rw [if_pos z] at e12
        have := hab.2.2 z
        omega
      · rw [if_neg z] at e12
        omega
    have hmono : ∀ {T' : Int} {H : hR} {m : mR}, Sim T' H m → T' ≤ T + ((n + 1 : Nat) : Int) → Sim (T + ((n + 1 : Nat) : Int)) H m := fun h1 h2 => ⟨h1.1, h1.2.1, h1.2.2.mono h2⟩
    have hrows : rowsB m m2 := d3.b.tr e11.b
    have em10 : m2.1 6 10 = L := by rw [e11.2.2.2.2.2 10 (by omega) (by omega)]; exact d2.1
    have em11 : m2.1 6 11 = b := by rw [e11.2.2.2.2.2 11 (by omega) (by omega)]; exact d2.2.1
    have em5 : m2.1 5 = m1.1 5 := e11.2.2.2.2.1
    have f11 : ∀ w : Int, mF6 m2 (mS m2 6 11 w) := fun w => mF6.s m2 (by omega)
    -- the class's step
    have eC : fX6_carryOut_b29 (fC + 1) cnt i c = if bI (decide (-5 ≤ r ∧ r ≤ -1)) = 0 then fX6_carryOut_b29 fC (cnt + 1) (i + 1) c4 else fX6_carryOut_b96 cnt c4 := by
      have hb := bI_rng (decide (-5 ≤ r ∧ r ≤ -1))
      rw [fX6_carryOut_b29, gd_pos (by omega), if_neg (by omega), hp.1, hp.2.1, gd_pos (by omega), if_neg (by omega), c1, cl_some, bnd_eq]
      show cl (fX4_takes 59 p1) _ = _
      rw [t1, cl_some, bnd_eq, e1, cl_some, ev_isErr e3, cr_some, gd_pos (by omega)]
    have eM : fX7_carryOut_b25 (fM + 1) cnt 1 m = if r' < 0 then fX7_carryOut_b48 (fX7_carryOut_b25 fM) cnt 0 m2 else fX7_carryOut_b48 (fX7_carryOut_b25 fM) cnt 1 m2 := by
      rw [fX7_carryOut_b25, gd_pos (by omega), if_neg (by omega), d1, cl_some, gd_pos (by omega), if_neg (by omega), e2, cl_some, gd_pos e4]
    have eEnd : ∀ w : Int, fX7_carryOut_b81 (fX7_carryOut_b25 fM) w 0 m2 = some (w, mS (mS m2 6 11 (b + 1)) 6 10 0) := fun w => by
      obtain ⟨g, rfl⟩ : ∃ g, fM = g + 1 := ⟨fM - 1, by omega⟩
      unfold fX7_carryOut_b81
      rw [em11, bnd_eq]
      exact em_end
    by_cases g : r < 0
    · have g' := e6.mp g
      refine ⟨cnt, c4, mS m2 6 11 (b + 1), ?_, ?_, by omega, hmono (e7.text (f11 _)) (by omega), e8, e9, e10f, hrows.tr (f11 _).b, by omega⟩
      · rw [eC, bI_t (decide_eq_true (by omega)), if_neg (by omega)]
      · rw [eM, if_pos g']
        unfold fX7_carryOut_b48 fX7_carryOut_b59
        rw [gd_pos (by omega), if_pos rfl, gd_pos (by omega), if_pos rfl, eEnd, show cnt + 0 = cnt by omega]
    · have g' : ¬ r' < 0 := fun z => g (e6.mpr z)
      have eC' : fX6_carryOut_b29 (fC + 1) cnt i c = fX6_carryOut_b29 fC (cnt + 1) (i + 1) c4 := by
        rw [eC, bI_f (decide_eq_false (by omega)), if_pos rfl]
      rcases t3 with ⟨t4, t5⟩ | ⟨t4, t5, t6⟩
      · obtain ⟨g2, rfl⟩ : ∃ g2, fC = g2 + 1 := ⟨fC - 1, by omega⟩
        refine ⟨cnt + 1, c4, mS m2 6 11 (b + 1), ?_, ?_, by omega, hmono (e7.text (f11 _)) (by omega), e8, e9, e10f, hrows.tr (f11 _).b, by omega⟩
        · rw [eC', fX6_carryOut_b29, gd_pos (by omega), if_neg (by omega), e10p, t5.1, t5.2.1, gd_pos (by omega), if_pos (by omega)]
        · rw [eM, if_neg g']
          unfold fX7_carryOut_b48 fX7_carryOut_b59
          rw [gd_pos (by omega), if_neg (by omega), gd_pos (by omega), if_neg (by omega), em11, em10, gd_pos (by omega), if_pos (by omega), eEnd]
      · have hbL : b + 1 < L := by
          cases n with
          | zero => exact False.elim t5
          | succ n' =>
            obtain ⟨b', v', f', ⟨w1, -, -⟩, -⟩ := t5
            unfold actOut at w1
            omega
        obtain ⟨r9, c9, m9, z1, z2, z3, z4, z5, z6, z7, z8, z9⟩ := ls_carry hs hC n fC fM (b + 1) (cnt + 1) (i + 1) (T + 1) c4 (mS m2 6 11 (b + 1)) t5 (by omega) (by omega) (by omega) hbL (by omega) (by omega) (by omega) (by omega) (by omega) (by rw [e10p]; exact t6) ⟨(mS_n _ (by omega)).trans em10, mS_p _ _ _ _, fun j hj => ((mS_n _ (by omega)).trans (by rw [em5])).trans (d2.2.2 j hj)⟩ (e7.text (f11 _)) e8 (by omega)
        refine ⟨r9, c9, m9, eC'.trans z1, ?_, z3, hmono z4 (by omega), z5, fun k hk => (z6 k hk).trans (e9 k hk), z7.trans e10f, (hrows.tr (f11 _).b).tr z8, z9⟩
        rw [eM, if_neg g']
        unfold fX7_carryOut_b48 fX7_carryOut_b59 fX7_carryOut_b81
        rw [gd_pos (by omega), if_neg (by omega), gd_pos (by omega), if_neg (by omega), em11, em10, gd_pos (by omega), if_neg (by omega), bnd_eq]
        exact z2

/-! ===== what view tells is one number for all states that are in step with one memory ===== -/
def AimC (c c' : cR) : Prop := c'.2 = c.2 ∧ (∀ k : Int, ¬ k = 0 → c'.1 k = c.1 k) ∧ onlyAims (c.1 0) (c'.1 0)
theorem AimC.rf (c : cR) : AimC c c := ⟨rfl, fun _ _ => rfl, onlyAims.rf _⟩
theorem AimC.tr {c c1 c2 : cR} (h : AimC c c1) (g : AimC c1 c2) : AimC c c2 := ⟨g.1.trans h.1, fun k q => (g.2.1 k q).trans (h.2.1 k q), fun t a f q => (g.2.2.1 t a f q).trans (h.2.2.1 t a f q), g.2.2.2.trans h.2.2.2⟩
theorem AimC.sim {T : Int} {c c' : cR} {m : mR} (h : AimC c c') (s : Sim T (c.1 0) m) : Sim T (c'.1 0) m := s.aims h.2.2
theorem AimC.inv {T C To : Int} {c c' : cR} {m : mR} (h : AimC c c') (I : Inv T C To c m) : Inv T C To c' m := I.aims h.1 h.2.1 h.2.2
def VW (T : Int) (m : mR) (A : cR → Option (Int × cR)) : Prop := ∃ v, wR64 v ∧ ∀ c : cR, Sim T (c.1 0) m → ∃ c', A c = some (v, c') ∧ AimC c c'
def AW (T : Int) (m : mR) (P : Int → Prop) (q : cR → Option (Int × cR)) : Prop := ∃ r, P r ∧ ∀ c : cR, Sim T (c.1 0) m → ∃ c', q c = some (r, c') ∧ AimC c c'
def AR (T : Int) (m : mR) (P : Int → Prop) (q : cR → Option Int) : Prop := ∃ r, P r ∧ ∀ c : cR, Sim T (c.1 0) m → q c = some r
theorem VW.congr {T : Int} {m : mR} {A B : cR → Option (Int × cR)} (h : VW T m B) (e : ∀ c : cR, Sim T (c.1 0) m → A c = B c) : VW T m A := by
  obtain ⟨v, h1, h2⟩ := h
  exact ⟨v, h1, fun c s => by rw [e c s]; exact h2 c s⟩
theorem vw_cr {T : Int} {m : mR} {P : Int → Prop} {q : cR → Option Int} {B : Int → cR → Option (Int × cR)} (hq : AR T m P q) (hB : ∀ r, P r → VW T m (B r)) : VW T m (fun c => cr (q c) fun r => B r c) := by
  obtain ⟨r, h1, h2⟩ := hq
  obtain ⟨v, h3, h4⟩ := hB r h1
  refine ⟨v, h3, fun c s => ?_⟩
  show ∃ c', cr (q c) (fun r => B r c) = some (v, c') ∧ AimC c c'
  rw [h2 c s, cr_some]
  exact h4 c s
theorem vw_cl {T : Int} {m : mR} {P : Int → Prop} {q : cR → Option (Int × cR)} {B : Int → cR → Option (Int × cR)} (hq : AW T m P q) (hB : ∀ r, P r → VW T m (B r)) : VW T m (fun c => cl (q c) fun r c' => B r c') := by
  obtain ⟨r, h1, h2⟩ := hq
  obtain ⟨v, h3, h4⟩ := hB r h1
  refine ⟨v, h3, fun c s => ?_⟩
  obtain ⟨c1, e1, a1⟩ := h2 c s
  obtain ⟨c2, e2, a2⟩ := h4 c1 (a1.sim s)
  refine ⟨c2, ?_, a1.tr a2⟩
  show cl (q c) (fun r c' => B r c') = _
  rw [e1, cl_some]
  exact e2
theorem vw_gd {T : Int} {m : mR} {p : Prop} [Decidable p] {B : cR → Option (Int × cR)} (h : p) (hB : VW T m B) : VW T m (fun c => gd p (B c)) := hB.congr (fun c _ => gd_pos h)
section VS
variable {T : Int} {m : mR} {c0 : cR}
theorem ar_of {q : cR → Option Int} {b : Option Int} (h0 : Sim T (c0.1 0) m) (h : ∀ c : cR, Sim T (c.1 0) m → askOK (q c) b) : AR T m wR q := by
  obtain ⟨r, e1, e2, e3⟩ := h c0 h0
  refine ⟨r, e3, fun c s => ?_⟩
  obtain ⟨r', e4, e5, e6⟩ := h c s
  rw [e2] at e5
  cases e5
  exact e4
theorem ar_money (hT : 0 ≤ T ∧ T ≤ 100000) (h0 : Sim T (c0.1 0) m) {a w : Int} (ha : wR a) (hw : wR w) : AR T m wR64 (fX6_money a w) := by
  obtain ⟨r, e1, e2, e3⟩ := ask_money hT h0 ha hw
  refine ⟨r, e3, fun c s => ?_⟩
  obtain ⟨r', e4, e5, e6⟩ := ask_money hT s ha hw
  rw [e2] at e5
  cases e5
  exact e4
theorem ar_owed (hT : 0 ≤ T ∧ T ≤ 100000) (h0 : Sim T (c0.1 0) m) {a : Int} (ha : wR a) : AR T m (fun _ => True) (fX6_owedBits a) := by
  obtain ⟨r, e1, e2⟩ := ask_owed h0 hT ha
  refine ⟨r, trivial, fun c s => ?_⟩
  obtain ⟨r', e4, e5⟩ := ask_owed s hT ha
  rw [e2] at e5
  cases e5
  exact e4
theorem aw_of {q : cR → Option (Int × cR)} {b : Option Int} (h0 : Sim T (c0.1 0) m) (h : ∀ c : cR, Sim T (c.1 0) m → askW c (q c) b) : AW T m wR q := by
  obtain ⟨r, c1, e1, e2, e3, -⟩ := h c0 h0
  refine ⟨r, e3, fun c s => ?_⟩
  obtain ⟨r', c', e4, e5, e6, e7⟩ := h c s
  rw [e2] at e5
  cases e5
  exact ⟨c', e4, e7⟩
theorem cnt_plain {w : Int} (hw : wR w) (h9 : ¬ w = 9) (h10 : ¬ w = 10) (c : cR) : fX6_count w c = cr (fX2_numberOf w (c.1 0)) fun r => some r := by
  unfold fX6_count
  rw [gd_pos hw, if_neg h9, gd_pos hw, if_neg h10]
theorem cnt_10 (c : cR) : fX6_count 10 c = some (c.2.1 0 4) := by
  unfold fX6_count
  rw [gd_pos (by omega), if_neg (by omega), gd_pos (by omega), if_pos rfl]
theorem ar_count (hp : wR (m.1 6 10)) (hs : wR (m.1 6 7)) (h0 : Sim T (c0.1 0) m) {w : Int} (hw : wR w) (h9 : ¬ w = 9) (h10 : ¬ w = 10) : AR T m wR (fX6_count w) :=
  ar_of (b := fX7_count w m) h0 (fun c s => by
    have h : askOK (fX6_count w ((c.1, (fun _ _ => m.1 6 7), fun _ _ => m.1 6 10) : cR)) (fX7_count w m) := ask_count (c := (c.1, (fun _ _ => m.1 6 7), fun _ _ => m.1 6 10)) s ⟨rfl, hp⟩ ⟨rfl, hs⟩ hw
    rw [cnt_plain hw h9 h10] at h ⊢
    exact h)
theorem cnt_0 (c : cR) : fX6_count 0 c = some ((c.1 0).1 0 6 0) := by
  rw [cnt_plain (by omega) (by omega) (by omega)]
  unfold fX2_numberOf
  rw [gd_pos (by omega), if_pos rfl]
  rfl
theorem cnt_1 (c : cR) : fX6_count 1 c = some ((c.1 0).1 0 4 0) := by
  rw [cnt_plain (by omega) (by omega) (by omega)]
  unfold fX2_numberOf
  rw [gd_pos (by omega), if_neg (by omega), if_pos rfl]
  rfl
theorem cnt_2 (c : cR) : fX6_count 2 c = some ((c.1 0).1 0 5 0) := by
  rw [cnt_plain (by omega) (by omega) (by omega)]
  unfold fX2_numberOf
  rw [gd_pos (by omega), if_neg (by omega), if_neg (by omega), if_pos rfl]
  rfl
theorem cnt_4 (c : cR) : fX6_count 4 c = some ((c.1 0).1 4 2 0) := by
  rw [cnt_plain (by omega) (by omega) (by omega)]
  unfold fX2_numberOf
  rw [gd_pos (by omega), if_neg (by omega), if_neg (by omega), if_neg (by omega), if_neg (by omega), if_pos rfl]
  rfl
theorem vw_188 (h0 : Sim T (c0.1 0) m) {rec170 : Int → Int → cR → Option (Int × cR)} {p : Int} (hp : 0 ≤ p ∧ p < 40) (hr : ∀ v, VW T m (rec170 v (p + 1))) : ∀ (n fuel : Nat) (k v : Int), k + n = 5 → 0 ≤ k → n < fuel → VW T m (fL_view_b188 rec170 fuel v p k)
  | n, 0, _, _, _, _, h => by omega
  | 0, fuel + 1, k, v, h1, h2, _ => (hr v).congr (fun c _ => by rw [fL_view_b188, gd_pos (by omega), if_pos (by omega)])
  | n + 1, fuel + 1, k, v, h1, h2, h3 => by
    have ih : ∀ v, VW T m (fL_view_b188 rec170 fuel v p (k + 1)) := fun v => vw_188 h0 hp hr n fuel (k + 1) v (by omega) (by omega) (by omega)
    refine (vw_cr (B := fun r c => gd (wR r) (fL_view_b188 rec170 fuel ((31 * v) + r) p (k + 1) c)) (ar_of (b := fX7_ofPayment p k m) h0 (fun c s => ask_ofPayment s (i := p) (w := k) (by omega) (by omega))) (fun r hr => vw_gd hr (ih _))).congr (fun c _ => ?_)
    rw [fL_view_b188, gd_pos (by omega), if_neg (by omega)]
theorem vw_170 (h0 : Sim T (c0.1 0) m) : ∀ (n fuel : Nat) (p v : Int), p + n = 40 → 0 ≤ p → n < fuel → VW T m (fL_view_b170 fuel v p)
  | n, 0, _, _, _, _, h => by omega
  | 0, fuel + 1, p, v, h1, h2, _ => by
    have e4 : ∀ c : cR, Sim T (c.1 0) m → (c.1 0).1 4 2 0 = m.1 0 4 := fun c s => s.1.1.2.2.2.2.1.symm
    have k1 := h0.2.2.1
    unfold okN at k1
    have q4 := e4 c0 h0
    refine VW.congr (B := fun c => some (w64I v, c)) ⟨w64I v, jL_wR _, fun c s => ⟨c, rfl, AimC.rf c⟩⟩ (fun c s => ?_)
    rw [fL_view_b170, cnt_4, cr_some, e4 c s, gd_pos (by omega)]
    by_cases g : m.1 0 4 ≤ p
    · rw [if_pos g]
    · rw [if_neg g, gd_pos (by omega), if_pos (by omega)]
  | n + 1, fuel + 1, p, v, h1, h2, h3 => by
    have e4 : ∀ c : cR, Sim T (c.1 0) m → (c.1 0).1 4 2 0 = m.1 0 4 := fun c s => s.1.1.2.2.2.2.1.symm
    have k1 := h0.2.2.1
    unfold okN at k1
    have q4 := e4 c0 h0
    by_cases g : m.1 0 4 ≤ p
    · refine VW.congr (B := fun c => some (w64I v, c)) ⟨w64I v, jL_wR _, fun c s => ⟨c, rfl, AimC.rf c⟩⟩ (fun c s => ?_)
      rw [fL_view_b170, cnt_4, cr_some, e4 c s, gd_pos (by omega), if_pos g]
    · refine (vw_188 h0 (p := p) (by omega) (fun v => vw_170 h0 n fuel (p + 1) v (by omega) (by omega) (by omega)) 5 fuel0 0 v (by omega) (by omega) (by decide)).congr (fun c s => ?_)
      rw [fL_view_b170, cnt_4, cr_some, e4 c s, gd_pos (by omega), if_neg g, gd_pos (by omega), if_neg (by omega)]
theorem vw_120 (h0 : Sim T (c0.1 0) m) {rec108 : Int → Int → cR → Option (Int × cR)} {o : Int} (ho : 0 ≤ o ∧ o < 16) (hr : ∀ v, VW T m (rec108 v (o + 1))) : ∀ (n fuel : Nat) (k v : Int), k + n = 16 → 0 ≤ k → n < fuel → VW T m (fL_view_b120 rec108 fuel v o k)
  | n, 0, _, _, _, _, h => by omega
  | 0, fuel + 1, k, v, h1, h2, _ => by
    refine (vw_cl (B := fun r c => gd (wR r) (rec108 ((31 * v) + r) (o + 1) c)) (aw_of (b := fX7_dateOf o 1 m) h0 (fun c s => ask_dateOf s (o := o) (k := 1) (by omega) (by omega))) (fun r q => vw_gd q (hr _))).congr (fun c _ => ?_)
    rw [fL_view_b120, gd_pos (by omega), if_pos (by omega)]
  | n + 1, fuel + 1, k, v, h1, h2, h3 => by
    have ih : ∀ v, VW T m (fL_view_b120 rec108 fuel v o (k + 1)) := fun v => vw_120 h0 ho hr n fuel (k + 1) v (by omega) (by omega) (by omega)
    refine (vw_cl (B := fun r c => gd (wR r) (fL_view_b120 rec108 fuel ((31 * v) + r) o (k + 1) c)) (aw_of (b := fX7_ofOrder o k m) h0 (fun c s => ask_ofOrder s (o := o) (w := k) (by omega) (by omega))) (fun r q => vw_gd q (ih _))).congr (fun c _ => ?_)
    rw [fL_view_b120, gd_pos (by omega), if_neg (by omega)]
theorem vw_108 (h0 : Sim T (c0.1 0) m) : ∀ (n fuel : Nat) (o v : Int), o + n = m.1 0 2 → 0 ≤ o → n < fuel → VW T m (fL_view_b108 fuel v o)
  | n, 0, _, _, _, _, h => by omega
  | 0, fuel + 1, o, v, h1, h2, _ => by
    have e2 : ∀ c : cR, Sim T (c.1 0) m → (c.1 0).1 0 5 0 = m.1 0 2 := fun c s => s.1.1.2.2.1.symm
    have k1 := h0.2.2.1
    unfold okN at k1
    have q2 := e2 c0 h0
    refine (vw_170 h0 40 fuel0 0 v (by omega) (by omega) (by decide)).congr (fun c s => ?_)
    rw [fL_view_b108, cnt_2, cr_some, e2 c s, gd_pos (by omega), if_pos (by omega)]
  | n + 1, fuel + 1, o, v, h1, h2, h3 => by
    have e2 : ∀ c : cR, Sim T (c.1 0) m → (c.1 0).1 0 5 0 = m.1 0 2 := fun c s => s.1.1.2.2.1.symm
    have k1 := h0.2.2.1
    unfold okN at k1
    have q2 := e2 c0 h0
    refine (vw_120 h0 (o := o) (by omega) (fun v => vw_108 h0 n fuel (o + 1) v (by omega) (by omega) (by omega)) 16 fuel0 0 v (by omega) (by omega) (by decide)).congr (fun c s => ?_)
    rw [fL_view_b108, cnt_2, cr_some, e2 c s, gd_pos (by omega), if_neg (by omega)]
theorem vw_61 (hT : 0 ≤ T ∧ T ≤ 100000) (h0 : Sim T (c0.1 0) m) {rec49 : Int → Int → cR → Option (Int × cR)} {a : Int} (ha : 0 ≤ a ∧ a < 8) (hr : ∀ v, VW T m (rec49 v (a + 1))) : ∀ (n fuel : Nat) (k v : Int), k + n = 9 → 0 ≤ k → n < fuel → VW T m (fL_view_b61 rec49 fuel v a k)
  | n, 0, _, _, _, _, h => by omega
  | 0, fuel + 1, k, v, h1, h2, _ => by
    refine (vw_cr (B := fun r c => rec49 ((31 * v) + r) (a + 1) c) (ar_owed hT h0 (a := a) (by omega)) (fun r _ => hr _)).congr (fun c _ => ?_)
    rw [fL_view_b61, gd_pos (by omega), if_pos (by omega)]
  | n + 1, fuel + 1, k, v, h1, h2, h3 => by
    have ih : ∀ v, VW T m (fL_view_b61 rec49 fuel v a (k + 1)) := fun v => vw_61 hT h0 ha hr n fuel (k + 1) v (by omega) (by omega) (by omega)
    refine (vw_cr (B := fun r c => fL_view_b61 rec49 fuel ((31 * v) + r) a (k + 1) c) (ar_money hT h0 (a := a) (w := k) (by omega) (by omega)) (fun r _ => ih _)).congr (fun c _ => ?_)
    rw [fL_view_b61, gd_pos (by omega), if_neg (by omega)]
theorem vw_49 (hT : 0 ≤ T ∧ T ≤ 100000) (h0 : Sim T (c0.1 0) m) : ∀ (n fuel : Nat) (a v : Int), a + n = m.1 0 1 → 0 ≤ a → n < fuel → VW T m (fL_view_b49 fuel v a)
  | n, 0, _, _, _, _, h => by omega
  | 0, fuel + 1, a, v, h1, h2, _ => by
    have e1 : ∀ c : cR, Sim T (c.1 0) m → (c.1 0).1 0 4 0 = m.1 0 1 := fun c s => s.1.1.2.1.symm
    have k1 := h0.2.2.1
    unfold okN at k1
    have q1 := e1 c0 h0
    have q2 : (c0.1 0).1 0 5 0 = m.1 0 2 := h0.1.1.2.2.1.symm
    refine (vw_108 h0 (m.1 0 2).toNat fuel0 0 v (by omega) (by omega) (by show _ < 1000000; omega)).congr (fun c s => ?_)
    rw [fL_view_b49, cnt_1, cr_some, e1 c s, gd_pos (by omega), if_pos (by omega)]
  | n + 1, fuel + 1, a, v, h1, h2, h3 => by
    have e1 : ∀ c : cR, Sim T (c.1 0) m → (c.1 0).1 0 4 0 = m.1 0 1 := fun c s => s.1.1.2.1.symm
    have k1 := h0.2.2.1
    unfold okN at k1
    have q1 := e1 c0 h0
    refine (vw_61 hT h0 (a := a) (by omega) (fun v => vw_49 hT h0 n fuel (a + 1) v (by omega) (by omega) (by omega)) 9 fuel0 0 v (by omega) (by omega) (by decide)).congr (fun c s => ?_)
    rw [fL_view_b49, cnt_1, cr_some, e1 c s, gd_pos (by omega), if_neg (by omega)]
theorem vw_6 (hT : 0 ≤ T ∧ T ≤ 100000) (hp : wR (m.1 6 10)) (hs : wR (m.1 6 7)) (h0 : Sim T (c0.1 0) m) : ∀ (n fuel : Nat) (k v : Int), k + n = 15 → 0 ≤ k → n < fuel → VW T m (fL_view_b6 fuel v k)
  | n, 0, _, _, _, _, h => by omega
  | 0, fuel + 1, k, v, h1, h2, _ => by
    have k1 := h0.2.2.1
    unfold okN at k1
    have q1 : (c0.1 0).1 0 4 0 = m.1 0 1 := h0.1.1.2.1.symm
    refine (vw_49 hT h0 (m.1 0 1).toNat fuel0 0 v (by omega) (by omega) (by show _ < 1000000; omega)).congr (fun c s => ?_)
    rw [fL_view_b6, gd_pos (by omega), if_pos (by omega)]
  | n + 1, fuel + 1, k, v, h1, h2, h3 => by
    have ih : ∀ v, VW T m (fL_view_b6 fuel v (k + 1)) := fun v => vw_6 hT hp hs h0 n fuel (k + 1) v (by omega) (by omega) (by omega)
    by_cases g9 : k = 9
    · refine (ih v).congr (fun c _ => ?_)
      rw [fL_view_b6, gd_pos (by omega), if_neg (by omega), gd_pos (by omega), if_pos g9]
    · by_cases g10 : k = 10
      · refine (ih v).congr (fun c _ => ?_)
        rw [fL_view_b6, gd_pos (by omega), if_neg (by omega), gd_pos (by omega), if_neg g9, gd_pos (by omega), if_pos g10]
      · refine (vw_cr (B := fun r c => gd (wR r) (fL_view_b6 fuel ((31 * v) + r) (k + 1) c)) (ar_count hp hs h0 (w := k) (by omega) g9 g10) (fun r q => vw_gd q (ih _))).congr (fun c _ => ?_)
        rw [fL_view_b6, gd_pos (by omega), if_neg (by omega), gd_pos (by omega), if_neg g9, gd_pos (by omega), if_neg g10]
theorem vw_view (hT : 0 ≤ T ∧ T ≤ 100000) (hp : wR (m.1 6 10)) (hs : wR (m.1 6 7)) (h0 : Sim T (c0.1 0) m) : VW T m fL_view :=
  (vw_6 hT hp hs h0 15 fuel0 0 7 (by omega) (by omega) (by decide)).congr (fun c _ => rfl)
end VS
/-- the number that view tells, in words: one for all houses that cannot be told apart -/
theorem view_of {T C To : Int} {c : cR} {m : mR} (hT : 0 ≤ T ∧ T ≤ 100000) (I : Inv T C To c m) : ∃ v, wR64 v ∧ ∀ c2 : cR, sameH (c.1 0) (c2.1 0) → ∃ c', fL_view c2 = some (v, c') ∧ AimC c2 c' := by
  have i3 := I.2.2.1.2.1
  have i5 := I.2.2.2.2.2.2.1
  obtain ⟨v, h1, h2⟩ := vw_view hT (by omega) (by omega) I.1
  exact ⟨v, h1, fun c2 s => h2 c2 (s.1 T C m I.1 I.2.1).1⟩

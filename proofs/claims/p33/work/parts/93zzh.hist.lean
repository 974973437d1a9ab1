/-! ===== kept states in step ===== -/
def live (T C B : Int) (H : hR) (N W : Int → Int) (O : Int → UInt64) : Prop := SimN T H N W O ∧ okXf C H ∧ 9 * H.1 0 5 0 ≤ B
theorem live.cells {T C B : Int} {H : hR} {k l : Int} {m m' : mR} (h : live T C B H (rowN l m) (rowW l m) (rowO l m)) (e : rowEq k l m m') : live T C B H (rowN k m') (rowW k m') (rowO k m') := by
  obtain ⟨h1, h2⟩ := h
  have k1 := h1.2.2.1
  unfold okN at k1
  have g5 := h1.1.1.2.2.2.2.1
  exact ⟨h1.cells (fun j hj => e.1 j hj) (fun j hj => e.2.2 j (by omega)) (fun j hj => e.2.1 j hj), h2⟩
theorem live.mono {T C B T' C' B' : Int} {H : hR} {N W : Int → Int} {O : Int → UInt64} (h : live T C B H N W O) (hT : T ≤ T') (hC : C ≤ C') (hB : B ≤ B') : live T' C' B' H N W O := by
  obtain ⟨h1, h2, h3⟩ := h
  exact ⟨⟨h1.1, h1.2.1, h1.2.2.mono hT⟩, h2.mono hC, by omega⟩
def HistR (T C B : Int) (c : cR) (m : mR) : Prop :=
  (0 ≤ c.2.1 0 3 ∧ c.2.1 0 3 ≤ 6) ∧ c.2.1 0 4 = m.1 6 7 ∧ (0 ≤ m.1 6 7 ∧ m.1 6 7 ≤ 6) ∧
  (∀ i : Int, 0 ≤ i ∧ i < m.1 6 7 → live T C B (c.1 (2 + (c.2.1 0 3 + i) % 7)) (rowN i m) (rowW i m) (rowO i m)) ∧
  (∀ s : Int, 0 ≤ s ∧ s ≤ 1 → c.2.1 1 s = m.1 4 s ∧ (m.1 4 s = 0 ∨ m.1 4 s = 1) ∧ (m.1 4 s = 1 → live T C B (c.1 (9 + s)) (rowN (6 + s) m) (rowW (6 + s) m) (rowO (6 + s) m))) ∧
  ∀ k : Int, 0 ≤ k ∧ k ≤ 10 → roomOK ((c.1 k).1 4 1 0)
theorem HistR.mono {T C B T' C' B' : Int} {c : cR} {m : mR} (h : HistR T C B c m) (hT : T ≤ T') (hC : C ≤ C') (hB : B ≤ B') : HistR T' C' B' c m := by
  obtain ⟨h1, h2, h3, h4, h5, h6⟩ := h
  exact ⟨h1, h2, h3, fun i hi => (h4 i hi).mono hT hC hB, fun s hs => ⟨(h5 s hs).1, (h5 s hs).2.1, fun q => ((h5 s hs).2.2 q).mono hT hC hB⟩, h6⟩
theorem HistR.fr {T C B : Int} {c c' : cR} {m m' : mR} (h : HistR T C B c m) (hc : ∀ k : Int, 2 ≤ k ∧ k ≤ 10 → c'.1 k = c.1 k) (h0 : roomOK ((c'.1 0).1 4 1 0)) (h1 : roomOK ((c'.1 1).1 4 1 0)) (ht : c'.2.1 = c.2.1) (hr : ∀ l : Int, 0 ≤ l ∧ l ≤ 7 → rowEq l l m m') (h4 : m'.1 4 = m.1 4) (h7 : m'.1 6 7 = m.1 6 7) : HistR T C B c' m' := by
  obtain ⟨a1, a2, a3, a4, a5, a6⟩ := h
  unfold HistR
  rw [ht, h4, h7]
  refine ⟨a1, a2, a3, fun i hi => ?_, fun s hs => ⟨(a5 s hs).1, (a5 s hs).2.1, fun q => ?_⟩, fun k hk => ?_⟩
  · rw [hc _ (by omega)]
    exact (a4 i hi).cells (hr i (by omega))
  · rw [hc _ (by omega)]
    exact ((a5 s hs).2.2 q).cells (hr _ (by omega))
  · by_cases g0 : k = 0
    · rw [g0]; exact h0
    · by_cases g1 : k = 1
      · rw [g1]; exact h1
      · rw [hc k (by omega)]
        exact a6 k hk
theorem cT_p (c : cR) (t a v : Int) : (cT c t a v).2.1 t a = v := by
  show pS c.2.1 t a v t a = v
  exact pS_p _ _ _ _
theorem cT_n (c : cR) {t a v t' a' : Int} (h : ¬ (t' = t ∧ a' = a)) : (cT c t a v).2.1 t' a' = c.2.1 t' a' := by
  show pS c.2.1 t a v t' a' = _
  exact pS_n _ h
def rcd (c : cR) : cR := if 6 ≤ c.2.1 0 4 then cT c 0 3 ((c.2.1 0 3 + 1) % 7) else cT c 0 4 (c.2.1 0 4 + 1)
theorem ec_recorded {r : Int} {c : cR} (hr : wR r) (h3 : 0 ≤ c.2.1 0 3 ∧ c.2.1 0 3 ≤ 6) (h4 : 0 ≤ c.2.1 0 4 ∧ c.2.1 0 4 ≤ 6) : fX6_recorded r c = some (r, if -5 ≤ r ∧ r ≤ -1 then c else rcd c) := by
  have hb := bI_rng (decide (-5 ≤ r ∧ r ≤ -1))
  unfold fX6_recorded
  rw [ev_isErr hr, cr_some, gd_pos (by omega)]
  by_cases g : -5 ≤ r ∧ r ≤ -1
  · rw [bI_t (decide_eq_true g), if_neg (by omega), if_pos g]
  · rw [bI_f (decide_eq_false g), if_pos rfl, if_neg g, gd_pos (by omega)]
    unfold rcd
    by_cases g2 : 6 ≤ c.2.1 0 4
    · rw [if_pos g2, if_pos g2, gd_pos (by omega), rmI_pos (by omega)]
      rfl
    · rw [if_neg g2, if_neg g2]
      rfl
theorem hist_rec {T C B : Int} {c : cR} {m : mR} (h : HistR T C B c m) (hS : Sim T (c.1 0) m) (hX : okXf C (c.1 0)) (hB : 9 * (c.1 0).1 0 5 0 ≤ B) :
    ∃ c1 m1, fX6_remember c = some ((), c1) ∧ recOf m m1 ∧ sameM m m1 ∧ c1.1 0 = c.1 0 ∧ c1.1 1 = c.1 1 ∧ c1.2 = c.2 ∧ HistR T C B c1 m ∧ HistR T C B (rcd c1) m1 := by
  obtain ⟨a1, a2, a3, a4, a5, a6⟩ := h
  have k1 := hS.2.2.1
  unfold okN at k1
  have e4 := hS.1.1.2.2.2.2.1
  obtain ⟨H1, f1, f2⟩ := ec_copy (H2 := c.1 0) (H := c.1 (2 + (c.2.1 0 3 + c.2.1 0 4) % 7)) hS.2.2.copyP.1 hS.2.2.copyP.2 (a6 _ (by omega))
  obtain ⟨m1, r1, r2⟩ := em_records (m := m) a3 (by omega)
  have q0 : (cH c (2 + (c.2.1 0 3 + c.2.1 0 4) % 7) H1).1 (2 + (c.2.1 0 3 + c.2.1 0 4) % 7) = H1 := up1_p _ _ _
  have qn : ∀ k : Int, ¬ k = 2 + (c.2.1 0 3 + c.2.1 0 4) % 7 → (cH c (2 + (c.2.1 0 3 + c.2.1 0 4) % 7) H1).1 k = c.1 k := fun k q => up1_n _ _ q
  have hN : SimN T (c.1 0) (m.1 0) (m.1 1) (m.2 0) := hS
  have hN1 := hN.copy f2
  have hl : ∀ k : Int, rowNow k m m1 → live T C B H1 (rowN k m1) (rowW k m1) (rowO k m1) := fun k w => ⟨hN1.cells (fun j hj => w.1 j hj) (fun j hj => w.2.2 j hj) (fun j hj => w.2.1 j hj), hX.copy hS.2.2 f2, by rw [f2.1 5 (by omega)]; exact hB⟩
  have hroom : ∀ k : Int, 0 ≤ k ∧ k ≤ 10 → roomOK (((cH c (2 + (c.2.1 0 3 + c.2.1 0 4) % 7) H1).1 k).1 4 1 0) := fun k hk => by
    by_cases g : k = 2 + (c.2.1 0 3 + c.2.1 0 4) % 7
    · rw [g, q0]
      exact fc_room hN1.2.2
    · rw [qn k g]
      exact a6 k hk
  refine ⟨cH c (2 + (c.2.1 0 3 + c.2.1 0 4) % 7) H1, m1, ?_, r2.of r1, r2.1, qn 0 (by omega), qn 1 (by omega), rfl, ⟨a1, a2, a3, fun i hi => ?_, fun s hs => ⟨(a5 s hs).1, (a5 s hs).2.1, fun q => ?_⟩, hroom⟩, ?_⟩
  · unfold fX6_remember fX6_rowBehindLatest
    rw [gd_pos (by omega), cr_some, rmI_pos (by omega), gd_pos (by omega), f1]
    rfl
  · show live T C B ((cH c (2 + (c.2.1 0 3 + c.2.1 0 4) % 7) H1).1 (2 + (c.2.1 0 3 + i) % 7)) _ _ _
    rw [qn _ (by omega)]
    exact a4 i hi
  · rw [qn _ (by omega)]
    exact (a5 s hs).2.2 q
  · obtain ⟨s1, s2, s3, s4, s5⟩ := r2
    have slots : ∀ c2 : cR, c2.1 = (cH c (2 + (c.2.1 0 3 + c.2.1 0 4) % 7) H1).1 → (∀ s : Int, c2.2.1 1 s = c.2.1 1 s) → ∀ s : Int, 0 ≤ s ∧ s ≤ 1 → c2.2.1 1 s = m1.1 4 s ∧ (m1.1 4 s = 0 ∨ m1.1 4 s = 1) ∧ (m1.1 4 s = 1 → live T C B (c2.1 (9 + s)) (rowN (6 + s) m1) (rowW (6 + s) m1) (rowO (6 + s) m1)) := fun c2 w1 w2 s hs => by
      rw [w2, s1.2.2.2.1, w1, qn _ (by omega)]
      exact ⟨(a5 s hs).1, (a5 s hs).2.1, fun q => ((a5 s hs).2.2 q).cells (s5 _ (by omega))⟩
    unfold rcd
    show HistR T C B (if 6 ≤ c.2.1 0 4 then cT (cH c (2 + (c.2.1 0 3 + c.2.1 0 4) % 7) H1) 0 3 ((c.2.1 0 3 + 1) % 7) else cT (cH c (2 + (c.2.1 0 3 + c.2.1 0 4) % 7) H1) 0 4 (c.2.1 0 4 + 1)) m1
    by_cases g : m.1 6 7 = 6
    · rw [if_pos (by omega)]
      rw [if_pos g] at s2 s3 s4
      rw [if_pos g] at s4
      have z3 : (cT (cH c (2 + (c.2.1 0 3 + c.2.1 0 4) % 7) H1) 0 3 ((c.2.1 0 3 + 1) % 7)).2.1 0 3 = (c.2.1 0 3 + 1) % 7 := cT_p _ _ _ _
      have z4 : (cT (cH c (2 + (c.2.1 0 3 + c.2.1 0 4) % 7) H1) 0 3 ((c.2.1 0 3 + 1) % 7)).2.1 0 4 = c.2.1 0 4 := cT_n _ (by omega)
      refine ⟨by rw [z3]; omega, by rw [z4, s2]; omega, by omega, fun i hi => ?_, slots _ rfl (fun s => cT_n _ (by omega)), hroom⟩
      rw [z3]
      show live T C B ((cH c (2 + (c.2.1 0 3 + c.2.1 0 4) % 7) H1).1 (2 + ((c.2.1 0 3 + 1) % 7 + i) % 7)) _ _ _
      by_cases gi : i = 5
      · subst gi
        rw [show 2 + ((c.2.1 0 3 + 1) % 7 + 5) % 7 = 2 + (c.2.1 0 3 + c.2.1 0 4) % 7 by omega, q0]
        exact hl 5 s3
      · rw [show 2 + ((c.2.1 0 3 + 1) % 7 + i) % 7 = 2 + (c.2.1 0 3 + (i + 1)) % 7 by omega, qn _ (by omega)]
        exact (a4 (i + 1) (by omega)).cells (s4 i (by omega))
    · rw [if_neg (by omega)]
      rw [if_neg g] at s2 s3 s4
      rw [if_neg g] at s4
      have z3 : (cT (cH c (2 + (c.2.1 0 3 + c.2.1 0 4) % 7) H1) 0 4 (c.2.1 0 4 + 1)).2.1 0 3 = c.2.1 0 3 := cT_n _ (by omega)
      have z4 : (cT (cH c (2 + (c.2.1 0 3 + c.2.1 0 4) % 7) H1) 0 4 (c.2.1 0 4 + 1)).2.1 0 4 = c.2.1 0 4 + 1 := cT_p _ _ _ _
      refine ⟨by rw [z3]; omega, by rw [z4, s2]; omega, by omega, fun i hi => ?_, slots _ rfl (fun s => cT_n _ (by omega)), hroom⟩
      rw [z3]
      show live T C B ((cH c (2 + (c.2.1 0 3 + c.2.1 0 4) % 7) H1).1 (2 + (c.2.1 0 3 + i) % 7)) _ _ _
      by_cases gi : i = m.1 6 7
      · subst gi
        rw [← a2, q0, a2]
        have s3' := s3
        rw [show m.1 6 7 + 1 - 1 = m.1 6 7 by omega] at s3'
        exact hl _ s3'
      · rw [qn _ (by omega)]
        have := s4 i (by omega)
        rw [show i + 0 = i by omega] at this
        exact (a4 i (by omega)).cells this

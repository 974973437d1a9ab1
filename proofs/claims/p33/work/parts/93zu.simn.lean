/-! ===== what a copy keeps ===== -/
def SimN (T : Int) (H : hR) (N W : Int → Int) (O : Int → UInt64) : Prop := Cor H N W O ∧ Tot H N ∧ Ok T H
theorem copyR.hol {H H' : hR} (c : copyR H H') {d : Int} (hd : 0 ≤ d ∧ d ≤ 1094) : holB H' d = holB H d := by
  unfold holB
  rw [c.2.2.1 _ (by omega)]
theorem SimN.copy {T : Int} {H H' : hR} {N W : Int → Int} {O : Int → UInt64} (h : SimN T H N W O) (c : copyR H H') : SimN T H' N W O := by
  have hh := fun {d} hd => c.hol (d := d) hd
  obtain ⟨c1, ⟨c2, c3⟩, -, c4, c5, c6, c7, c8, c9⟩ := c
  obtain ⟨⟨⟨g1, g2, g3, g4, g5, g6, g7, g8, g9, g10⟩, h2, h3, h4, h5⟩, ⟨t5, t6, t7⟩, k1, k2, k3, k4, k5, k6, k7, k8⟩ := h
  have k1' := k1
  unfold okN at k1'
  have e4 := c1 4 (by omega)
  have e5 := c1 5 (by omega)
  have e6 := c1 6 (by omega)
  have hw : ∀ i : Nat, (i : Int) < H.1 4 2 0 → 0 ≤ H.1 5 0 i ∧ H.1 5 0 i < H.1 0 5 0 := fun i hi => (k5.1 i (by omega)).1
  have hs : ∀ a : Int, ∀ n : Nat, (n : Int) ≤ H.1 4 2 0 → sumW H' a n = sumW H a n := fun a n => by
    induction n with
    | zero => intro _; rfl
    | succ n ih =>
      intro hn
      have := hw n (by omega)
      rw [sumW_s, sumW_s, ih (by omega), c7 0 n (by omega) (by omega), c7 1 n (by omega) (by omega), c5 _ this 0 (by omega)]
  have hc : ∀ o : Int, ∀ n : Nat, (n : Int) ≤ H.1 4 2 0 → cntW H' o n = cntW H o n := fun o n => by
    induction n with
    | zero => intro _; rfl
    | succ n ih =>
      intro hn
      rw [cntW_s, cntW_s, ih (by omega), c7 0 n (by omega) (by omega)]
  have hf : ∀ f : Int, 0 ≤ f ∧ f ≤ 16 → ∀ n : Nat, (n : Int) ≤ H.1 0 5 0 → sumF H' f n = sumF H f n := fun f hf n => by
    induction n with
    | zero => intro _; rfl
    | succ n ih =>
      intro hn
      rw [sumF_s, sumF_s, ih (by omega), c5 n (by omega) f hf]
  refine ⟨⟨⟨?_, ?_, ?_, ?_, ?_, ?_, ?_, ?_, ?_, ?_⟩, ⟨h2.1, fun d hd => by rw [hh hd]; exact h2.2 d hd⟩, fun a ha => ?_, fun o ho f hf => ?_, fun i hi => ?_⟩, ⟨?_, ?_, ?_⟩, ?_, ?_, fun a ha => ?_, fun o ho => ?_, ⟨fun i hi => ?_, fun i j hi hij hj => ?_⟩, ⟨fun a ha => ?_, fun o ho => ?_⟩, fun a ha f hf => ?_, fun a ha => ?_⟩
  · rw [e6]; exact g1
  · rw [e4]; exact g2
  · rw [e5]; exact g3
  · rw [c2]; exact g4
  · rw [c6]; exact g5
  · rw [c1 10 (by omega)]; exact g6
  · rw [c1 7 (by omega)]; exact g7
  · rw [c1 8 (by omega)]; exact g8
  · rw [c1 9 (by omega)]; exact g9
  · rw [c3]; exact g10
  · obtain ⟨q1, q2⟩ := h3 a ha
    obtain ⟨p1, p2⟩ := c4 a (by rw [g2] at ha; exact ha)
    exact ⟨fun f hf => by rw [p1 f (by omega)]; exact q1 f hf, by rw [p2]; exact q2⟩
  · rw [h4 o ho f hf]
    exact (ordN_fr (fun f' q => c5 o (by rw [g3] at ho; exact ho) f' (by omega)) hf).symm
  · rw [g5] at hi
    rw [h5 i (by rw [g5]; exact hi), c7 0 i (by omega) hi, c7 1 i (by omega) hi, c7 2 i (by omega) hi, c7 3 i (by omega) hi, c7 4 i (by omega) hi]
  · rw [e5, hf 12 (by omega) _ (by omega)]; exact t5
  · rw [e5, hf 13 (by omega) _ (by omega)]; exact t6
  · rw [e5, hf 14 (by omega) _ (by omega)]; exact t7
  · unfold okN
    rw [e4, e5, c6]
    exact ⟨k1'.1, k1'.2.1, k1'.2.2.1, c8, c9⟩
  · unfold okS at *
    rw [e6, c3, c1 7 (by omega), c1 8 (by omega), c1 9 (by omega), c1 10 (by omega)]
    exact k2
  · rw [e4] at ha
    obtain ⟨p1, p2⟩ := c4 a ha
    rw [p1 0 (by omega), p1 1 (by omega), p1 2 (by omega), e4]
    exact k3 a ha
  · rw [e5] at ho
    obtain ⟨w1, w2, w3⟩ := k4 o ho
    have p := fun f hf => c5 o ho f hf
    refine ⟨w1.fr (fun f q => p f (by omega)), ?_, ?_⟩
    · unfold okP at *
      rw [p 0 (by omega), p 1 (by omega), p 2 (by omega), p 8 (by omega), p 9 (by omega), p 10 (by omega), p 11 (by omega), e4]
      exact w2
    · unfold okC at *
      rw [p 12 (by omega), p 13 (by omega), p 14 (by omega), p 15 (by omega), p 16 (by omega)]
      exact w3
  · rw [c6] at hi
    rw [c7 0 i (by omega) hi, c7 1 i (by omega) hi, c7 2 i (by omega) hi, c7 3 i (by omega) hi, c7 4 i (by omega) hi, e5]
    exact k5.1 i hi
  · rw [c6] at hj
    rw [c7 0 i (by omega) (by omega), c7 3 i (by omega) (by omega), c7 0 j (by omega) (by omega), c7 3 j (by omega) (by omega)]
    exact k5.2 i j hi hij hj
  · rw [e4] at ha
    rw [(c4 a ha).1 11 (by omega), c6, hs a _ (by omega)]
    exact k6.1 a ha
  · rw [e5] at ho
    rw [c5 o ho 15 (by omega), c6, hc o _ (by omega)]
    exact k6.2 o ho
  · rw [e4] at ha
    rw [(c4 a ha).1 f (by omega), e6]
    exact k7 a ha f hf
  · rw [e4] at ha
    rw [(c4 a ha).1 3 (by omega), (c4 a ha).2, e6]
    exact k8 a ha
/-! what bounds the waiting list, with or without a weekday that was just set -/
def zP (P C : Int) (H : hR) : Int := 10 + 2 * H.1 1 1 0 + 5 * C - P - 7 * futH (holB H) (H.1 0 6 0)
def okXp (P C : Int) (H : hR) : Prop := H.1 1 1 0 ≤ C ∧ okX (H.1 0 6 0) (zP P C H) (uX C H) H ∧ okDue (H.1 0 6 0) H
def okXf (C : Int) (H : hR) : Prop := ∃ P : Int, ((P = 5 ∧ H.1 1 1 0 + 1 ≤ C) ∨ P = phW ((H.1 0 6 0 + H.1 1 2 0) % 7)) ∧ okXp P C H
theorem okXp.mono {P P' C C' : Int} {H : hR} (h : okXp P C H) (hP : P' + 5 * C ≤ P + 5 * C') (hC : C ≤ C') : okXp P' C' H := by
  obtain ⟨h1, h2, h3⟩ := h
  refine ⟨by omega, h2.mono ?_ ?_, h3⟩
  · unfold zP
    omega
  · unfold uX
    omega
theorem okXf.d {C : Int} {H : hR} (h : okXf C H) : okXd (C + 1) H := by
  obtain ⟨P, h1, h2⟩ := h
  have hp := phW_rng (w := (H.1 0 6 0 + H.1 1 2 0) % 7) (by omega)
  exact h2.mono (P' := phW ((H.1 0 6 0 + H.1 1 2 0) % 7)) (C' := C + 1) (by omega) (by omega)
theorem okXd.f {C : Int} {H : hR} (h : okXd C H) : okXf C H := ⟨_, Or.inr rfl, h⟩
theorem okXf.mono {C C' : Int} {H : hR} (h : okXf C H) (hC : C ≤ C') : okXf C' H := by
  obtain ⟨P, h1, h2⟩ := h
  exact ⟨P, by omega, h2.mono (by omega) hC⟩
theorem okXp.fr {P C : Int} {H H' : hR} (h : okXp P C H) (hw : okW H) (h1 : H'.1 1 1 0 = H.1 1 1 0) (h6 : H'.1 0 6 0 = H.1 0 6 0) (hh : futH (holB H') (H.1 0 6 0) = futH (holB H) (H.1 0 6 0)) (h2' : H'.1 4 2 0 = H.1 4 2 0) (h5' : H'.1 0 5 0 = H.1 0 5 0) (hc : ∀ c i : Int, 0 ≤ c ∧ c < 5 → 0 ≤ i ∧ i < H.1 4 2 0 → H'.1 5 c i = H.1 5 c i) (hf : ∀ o f : Int, 0 ≤ o ∧ o < H.1 0 5 0 → f = 3 ∨ f = 4 ∨ f = 6 ∨ f = 9 ∨ f = 10 ∨ f = 11 ∨ f = 16 → H'.1 3 o f = H.1 3 o f) : okXp P C H' := by
  obtain ⟨a1, a2, a3⟩ := h
  refine ⟨by omega, ?_, ?_⟩
  · have e1 : zP P C H' = zP P C H := by
      unfold zP
      rw [h1, h6, hh]
    have e2 : uX C H' = uX C H := by
      unfold uX
      rw [h1]
    rw [e1, e2, h6]
    obtain ⟨x1, x2, x3⟩ := a2
    refine ⟨fun i hi => ?_, fun o ho => ?_, fun i j a b c => ?_⟩
    · rw [h2'] at hi
      have ho := (hw.1 i hi).1
      rw [hc 0 i (by omega) hi, hc 2 i (by omega) hi, hc 4 i (by omega) hi, hf _ 3 ho (by omega), hf _ 16 ho (by omega), nomK_fr (H := H) (fun f q => hf _ f ho (by omega))]
      exact x1 i hi
    · rw [h5'] at ho
      rw [hf o 3 ho (by omega), hf o 9 ho (by omega), hf o 10 ho (by omega), hf o 11 ho (by omega), hf o 16 ho (by omega), nomK_fr (H := H) (fun f q => hf _ f ho (by omega))]
      exact x2 o ho
    · rw [h2'] at c
      have ho := (hw.1 i (by omega)).1
      rw [hc 0 i (by omega) (by omega), hc 0 j (by omega) (by omega), hc 2 i (by omega) (by omega), hc 2 j (by omega) (by omega), hc 4 i (by omega) (by omega), hf _ 3 ho (by omega)]
      exact x3 i j a b c
  · intro i hi
    rw [h2'] at hi
    rw [hc 3 i (by omega) hi, h6]
    exact a3 i hi
theorem copyR.fut {H H' : hR} (c : copyR H H') {t : Int} (ht : 0 ≤ t) : futH (holB H') t = futH (holB H) t := cntB_fr _ (fun j j1 j2 => c.hol (by omega))
theorem okXf.copy {C T : Int} {H H' : hR} (h : okXf C H) (hk : Ok T H) (c : copyR H H') : okXf C H' := by
  obtain ⟨P, h1, h2⟩ := h
  have ks := hk.2.1
  unfold okS at ks
  refine ⟨P, ?_, h2.fr hk.2.2.2.2.1 c.2.1.1 (c.1 6 (by omega)) (c.fut (by omega)) c.2.2.2.2.2.1 (c.1 5 (by omega)) (fun x i q1 q2 => c.2.2.2.2.2.2.1 x i q1 q2) (fun o f ho q => c.2.2.2.2.1 o ho f (by omega))⟩
  rw [c.1 6 (by omega), c.2.1.2, c.2.1.1]
  exact h1
theorem Ok.copyP {T : Int} {H : hR} (h : Ok T H) : okN H ∧ ∀ o : Int, 0 ≤ o ∧ o < H.1 0 5 0 → H.1 3 o 9 = 0 ∨ H.1 3 o 9 = 1 := by
  refine ⟨h.1, fun o ho => ?_⟩
  have := (h.2.2.2.1 o ho).2.1
  unfold okP at this
  omega
/-! ===== the reference's rows of kept states ===== -/
def rowN (k : Int) (m : mR) : Int → Int := fun j => m.1 2 (k * 377 + j)
def rowW (k : Int) (m : mR) : Int → Int := fun j => m.1 3 (k * 8400 + j)
def rowO (k : Int) (m : mR) : Int → UInt64 := fun j => m.2 1 (k * 8 + j)
theorem em_keeps66 {k n : Int} (hk : 0 ≤ k ∧ k ≤ 8) (hn : 0 ≤ n ∧ n ≤ 8400) : ∀ (d fuel : Nat) (i : Int) (m : mR), i + d = n → 0 ≤ i → d < fuel → m.1 0 4 = n → ∃ m', fX7_keeps_b66 fuel k i m = some ((), m') ∧ (∀ j : Int, m'.1 3 j = if k * 8400 + i ≤ j ∧ j < k * 8400 + n then m.1 1 (j - k * 8400) else m.1 3 j) ∧ (∀ t : Int, ¬ t = 3 → m'.1 t = m.1 t) ∧ m'.2 = m.2
  | d, 0, _, _, _, _, h, _ => by omega
  | 0, fuel + 1, i, m, h1, h2, _, h4 => by
    refine ⟨m, ?_, fun j => (if_neg (by omega)).symm, fun _ _ => rfl, rfl⟩
    rw [fX7_keeps_b66, gd_pos (by omega), gd_pos (by omega), if_pos (by omega)]
  | d + 1, fuel + 1, i, m, h1, h2, h3, h4 => by
    obtain ⟨m', q1, q2, q3, q4⟩ := em_keeps66 hk hn d fuel (i + 1) (mS m 3 (k * 8400 + i) (m.1 1 i)) (by omega) (by omega) (by omega) ((mS_n m (by omega)).trans h4)
    refine ⟨m', ?_, fun j => ?_, fun t ht => (q3 t ht).trans (mS_t m _ _ ht), q4⟩
    · rw [fX7_keeps_b66, gd_pos (by omega), gd_pos (by omega), if_neg (by omega), gd_pos (by omega), gd_pos (by omega), bnd_eq, q1]
    · rw [q2, mS_n m (by omega)]
      by_cases g : k * 8400 + (i + 1) ≤ j ∧ j < k * 8400 + n
      · rw [if_pos g, if_pos (by omega)]
      · rw [if_neg g]
        by_cases g2 : j = k * 8400 + i
        · subst g2
          rw [mS_p, if_pos (by omega), show k * 8400 + i - k * 8400 = i by omega]
        · rw [mS_n m (by omega), if_neg (by omega)]
theorem em_keeps35 {k : Int} (hk : 0 ≤ k ∧ k ≤ 8) : ∀ (d fuel : Nat) (i : Int) (m : mR), i + d = 8 → 0 ≤ i → d < fuel → ∃ m', fX7_keeps_b35 fuel k i m = fX7_keeps_b66 fuel0 k 0 m' ∧ (∀ j : Int, m'.2 1 j = if k * 8 + i ≤ j ∧ j < k * 8 + 8 then m.2 0 (j - k * 8) else m.2 1 j) ∧ m'.1 = m.1 ∧ ∀ t : Int, ¬ t = 1 → m'.2 t = m.2 t
  | d, 0, _, _, _, _, h => by omega
  | 0, fuel + 1, i, m, h1, h2, _ => by
    refine ⟨m, ?_, fun j => (if_neg (by omega)).symm, rfl, fun _ _ => rfl⟩
    rw [fX7_keeps_b35, gd_pos (by omega), if_pos (by omega)]
  | d + 1, fuel + 1, i, m, h1, h2, h3 => by
    obtain ⟨m', q1, q2, q3, q4⟩ := em_keeps35 hk d fuel (i + 1) (mD m 1 (k * 8 + i) (m.2 0 i)) (by omega) (by omega) (by omega)
    refine ⟨m', ?_, fun j => ?_, q3, fun t ht => (q4 t ht).trans (mD_t m _ _ ht)⟩
    · rw [fX7_keeps_b35, gd_pos (by omega), if_neg (by omega), gd_pos (by omega), gd_pos (by omega), bnd_eq, q1]
    · rw [q2, mD_2, mD_2]
      by_cases g : k * 8 + (i + 1) ≤ j ∧ j < k * 8 + 8
      · rw [if_pos g, if_pos (show k * 8 + i ≤ j ∧ j < k * 8 + 8 by omega), if_neg (by omega)]
      · rw [if_neg g]
        by_cases g2 : j = k * 8 + i
        · subst g2
          rw [if_pos ⟨rfl, rfl⟩, if_pos (by omega), show k * 8 + i - k * 8 = i by omega]
        · rw [if_neg (by omega), if_neg (by omega)]
theorem em_keeps2 {k : Int} (hk : 0 ≤ k ∧ k ≤ 8) : ∀ (d fuel : Nat) (i : Int) (m : mR), i + d = 377 → 0 ≤ i → d < fuel → ∃ m', fX7_keeps_b2 fuel k i m = fX7_keeps_b35 fuel0 k 0 m' ∧ (∀ j : Int, m'.1 2 j = if k * 377 + i ≤ j ∧ j < k * 377 + 377 then m.1 0 (j - k * 377) else m.1 2 j) ∧ (∀ t : Int, ¬ t = 2 → m'.1 t = m.1 t) ∧ m'.2 = m.2
  | d, 0, _, _, _, _, h => by omega
  | 0, fuel + 1, i, m, h1, h2, _ => by
    refine ⟨m, ?_, fun j => (if_neg (by omega)).symm, fun _ _ => rfl, rfl⟩
    rw [fX7_keeps_b2, gd_pos (by omega), if_pos (by omega)]
  | d + 1, fuel + 1, i, m, h1, h2, h3 => by
    obtain ⟨m', q1, q2, q3, q4⟩ := em_keeps2 hk d fuel (i + 1) (mS m 2 (k * 377 + i) (m.1 0 i)) (by omega) (by omega) (by omega)
    refine ⟨m', ?_, fun j => ?_, fun t ht => (q3 t ht).trans (mS_t m _ _ ht), q4⟩
    · rw [fX7_keeps_b2, gd_pos (by omega), if_neg (by omega), gd_pos (by omega), gd_pos (by omega), bnd_eq, q1]
    · rw [q2, mS_n m (by omega)]
      by_cases g : k * 377 + (i + 1) ≤ j ∧ j < k * 377 + 377
      · rw [if_pos g, if_pos (by omega)]
      · rw [if_neg g]
        by_cases g2 : j = k * 377 + i
        · subst g2
          rw [mS_p, if_pos (by omega), show k * 377 + i - k * 377 = i by omega]
        · rw [mS_n m (by omega), if_neg (by omega)]
/-- the rows of copy k are written; all else stays -/
def keptAt (k : Int) (m m' : mR) : Prop := (∀ t : Int, ¬ t = 2 → ¬ t = 3 → m'.1 t = m.1 t) ∧ (∀ t : Int, ¬ t = 1 → m'.2 t = m.2 t) ∧ (∀ j : Int, ¬ (k * 377 ≤ j ∧ j < k * 377 + 377) → m'.1 2 j = m.1 2 j) ∧ (∀ j : Int, ¬ (k * 8400 ≤ j ∧ j < k * 8400 + 8400) → m'.1 3 j = m.1 3 j) ∧ (∀ j : Int, ¬ (k * 8 ≤ j ∧ j < k * 8 + 8) → m'.2 1 j = m.2 1 j) ∧ (∀ j : Int, 0 ≤ j ∧ j < 377 → rowN k m' j = m.1 0 j) ∧ (∀ j : Int, 0 ≤ j ∧ j < 8 → rowO k m' j = m.2 0 j) ∧ ∀ j : Int, 0 ≤ j ∧ j < m.1 0 4 → rowW k m' j = m.1 1 j
theorem em_keeps {k : Int} {m : mR} (hk : 0 ≤ k ∧ k ≤ 8) (hn : 0 ≤ m.1 0 4 ∧ m.1 0 4 ≤ 8400) : ∃ m', fX7_keeps k m = some ((), m') ∧ keptAt k m m' := by
  obtain ⟨m1, a1, a2, a3, a4⟩ := em_keeps2 hk 377 fuel0 0 m (by omega) (by omega) (by decide)
  obtain ⟨m2, b1, b2, b3, b4⟩ := em_keeps35 hk 8 fuel0 0 m1 (by omega) (by omega) (by decide)
  have e4 : m2.1 0 4 = m.1 0 4 := by rw [b3, a3 0 (by omega)]
  obtain ⟨m3, c1, c2, c3, c4⟩ := em_keeps66 hk hn (m.1 0 4).toNat fuel0 0 m2 (by omega) (by omega) (by show _ < 1000000; omega) e4
  refine ⟨m3, ?_, ⟨fun t h2 h3 => ?_, fun t h1 => ?_, fun j hj => ?_, fun j hj => ?_, fun j hj => ?_, fun j hj => ?_, fun j hj => ?_, fun j hj => ?_⟩⟩
  · unfold fX7_keeps
    rw [a1, b1, c1]
  · rw [c3 t h3, b3, a3 t h2]
  · rw [c4, b4 t h1, a4]
  · rw [c3 2 (by omega), b3, a2, if_neg (by omega)]
  · rw [c2, if_neg (by omega), b3, a3 3 (by omega)]
  · rw [c4, b2, if_neg (by omega), a4]
  · unfold rowN
    rw [c3 2 (by omega), b3, a2, if_pos (by omega), show k * 377 + j - k * 377 = j by omega]
  · unfold rowO
    rw [c4, b2, if_pos (by omega), a4, show k * 8 + j - k * 8 = j by omega]
  · unfold rowW
    rw [c2, if_pos (by omega), b3, a3 1 (by omega), show k * 8400 + j - k * 8400 = j by omega]
theorem em_brings66 {k n : Int} (hk : 0 ≤ k ∧ k ≤ 8) (hn : 0 ≤ n ∧ n ≤ 8400) : ∀ (d fuel : Nat) (i : Int) (m : mR), i + d = n → 0 ≤ i → d < fuel → m.1 0 4 = n → ∃ m', fX7_brings_b66 fuel k i m = some ((), m') ∧ (∀ j : Int, m'.1 1 j = if i ≤ j ∧ j < n then m.1 3 (k * 8400 + j) else m.1 1 j) ∧ (∀ t : Int, ¬ t = 1 → m'.1 t = m.1 t) ∧ m'.2 = m.2
  | d, 0, _, _, _, _, h, _ => by omega
  | 0, fuel + 1, i, m, h1, h2, _, h4 => by
    refine ⟨m, ?_, fun j => (if_neg (by omega)).symm, fun _ _ => rfl, rfl⟩
    rw [fX7_brings_b66, gd_pos (by omega), gd_pos (by omega), if_pos (by omega)]
  | d + 1, fuel + 1, i, m, h1, h2, h3, h4 => by
    obtain ⟨m', q1, q2, q3, q4⟩ := em_brings66 hk hn d fuel (i + 1) (mS m 1 i (m.1 3 (k * 8400 + i))) (by omega) (by omega) (by omega) ((mS_n m (by omega)).trans h4)
    refine ⟨m', ?_, fun j => ?_, fun t ht => (q3 t ht).trans (mS_t m _ _ ht), q4⟩
    · rw [fX7_brings_b66, gd_pos (by omega), gd_pos (by omega), if_neg (by omega), gd_pos (by omega), gd_pos (by omega), bnd_eq, q1]
    · rw [q2, mS_n m (by omega)]
      by_cases g : i + 1 ≤ j ∧ j < n
      · rw [if_pos g, if_pos (by omega)]
      · rw [if_neg g]
        by_cases g2 : j = i
        · subst g2
          rw [mS_p, if_pos (by omega)]
        · rw [mS_n m (by omega), if_neg (by omega)]
theorem em_brings35 {k : Int} (hk : 0 ≤ k ∧ k ≤ 8) : ∀ (d fuel : Nat) (i : Int) (m : mR), i + d = 8 → 0 ≤ i → d < fuel → ∃ m', fX7_brings_b35 fuel k i m = fX7_brings_b66 fuel0 k 0 m' ∧ (∀ j : Int, m'.2 0 j = if i ≤ j ∧ j < 8 then m.2 1 (k * 8 + j) else m.2 0 j) ∧ m'.1 = m.1 ∧ ∀ t : Int, ¬ t = 0 → m'.2 t = m.2 t
  | d, 0, _, _, _, _, h => by omega
  | 0, fuel + 1, i, m, h1, h2, _ => by
    refine ⟨m, ?_, fun j => (if_neg (by omega)).symm, rfl, fun _ _ => rfl⟩
    rw [fX7_brings_b35, gd_pos (by omega), if_pos (by omega)]
  | d + 1, fuel + 1, i, m, h1, h2, h3 => by
    obtain ⟨m', q1, q2, q3, q4⟩ := em_brings35 hk d fuel (i + 1) (mD m 0 i (m.2 1 (k * 8 + i))) (by omega) (by omega) (by omega)
    refine ⟨m', ?_, fun j => ?_, q3, fun t ht => (q4 t ht).trans (mD_t m _ _ ht)⟩
    · rw [fX7_brings_b35, gd_pos (by omega), if_neg (by omega), gd_pos (by omega), gd_pos (by omega), bnd_eq, q1]
    · rw [q2, mD_2, mD_2]
      by_cases g : i + 1 ≤ j ∧ j < 8
      · rw [if_pos g, if_pos (show i ≤ j ∧ j < 8 by omega), if_neg (by omega)]
      · rw [if_neg g]
        by_cases g2 : j = i
        · subst g2
          rw [if_pos ⟨rfl, rfl⟩, if_pos (by omega)]
        · rw [if_neg (by omega), if_neg (by omega)]
theorem em_brings2 {k : Int} (hk : 0 ≤ k ∧ k ≤ 8) : ∀ (d fuel : Nat) (i : Int) (m : mR), i + d = 377 → 0 ≤ i → d < fuel → ∃ m', fX7_brings_b2 fuel k i m = fX7_brings_b35 fuel0 k 0 m' ∧ (∀ j : Int, m'.1 0 j = if i ≤ j ∧ j < 377 then m.1 2 (k * 377 + j) else m.1 0 j) ∧ (∀ t : Int, ¬ t = 0 → m'.1 t = m.1 t) ∧ m'.2 = m.2
  | d, 0, _, _, _, _, h => by omega
  | 0, fuel + 1, i, m, h1, h2, _ => by
    refine ⟨m, ?_, fun j => (if_neg (by omega)).symm, fun _ _ => rfl, rfl⟩
    rw [fX7_brings_b2, gd_pos (by omega), if_pos (by omega)]
  | d + 1, fuel + 1, i, m, h1, h2, h3 => by
    obtain ⟨m', q1, q2, q3, q4⟩ := em_brings2 hk d fuel (i + 1) (mS m 0 i (m.1 2 (k * 377 + i))) (by omega) (by omega) (by omega)
    refine ⟨m', ?_, fun j => ?_, fun t ht => (q3 t ht).trans (mS_t m _ _ ht), q4⟩
    · rw [fX7_brings_b2, gd_pos (by omega), if_neg (by omega), gd_pos (by omega), gd_pos (by omega), bnd_eq, q1]
    · rw [q2, mS_n m (by omega)]
      by_cases g : i + 1 ≤ j ∧ j < 377
      · rw [if_pos g, if_pos (by omega)]
      · rw [if_neg g]
        by_cases g2 : j = i
        · subst g2
          rw [mS_p, if_pos (by omega)]
        · rw [mS_n m (by omega), if_neg (by omega)]
/-- copy k is back: the present is its rows -/
def backFrom (k : Int) (m m' : mR) : Prop := (∀ t : Int, ¬ t = 0 → ¬ t = 1 → m'.1 t = m.1 t) ∧ (∀ t : Int, ¬ t = 0 → m'.2 t = m.2 t) ∧ (∀ j : Int, 0 ≤ j ∧ j < 377 → m'.1 0 j = rowN k m j) ∧ (∀ j : Int, 0 ≤ j ∧ j < 8 → m'.2 0 j = rowO k m j) ∧ ∀ j : Int, 0 ≤ j ∧ j < rowN k m 4 → m'.1 1 j = rowW k m j
theorem em_brings {k : Int} {m : mR} (hk : 0 ≤ k ∧ k ≤ 8) (hn : 0 ≤ rowN k m 4 ∧ rowN k m 4 ≤ 8400) : ∃ m', fX7_brings k m = some ((), m') ∧ backFrom k m m' := by
  obtain ⟨m1, a1, a2, a3, a4⟩ := em_brings2 hk 377 fuel0 0 m (by omega) (by omega) (by decide)
  obtain ⟨m2, b1, b2, b3, b4⟩ := em_brings35 hk 8 fuel0 0 m1 (by omega) (by omega) (by decide)
  have e4 : m2.1 0 4 = rowN k m 4 := by rw [b3, a2, if_pos (by omega)]; rfl
  obtain ⟨m3, c1, c2, c3, c4⟩ := em_brings66 hk hn (rowN k m 4).toNat fuel0 0 m2 (by omega) (by omega) (by show _ < 1000000; omega) e4
  refine ⟨m3, ?_, ⟨fun t h0 h1 => ?_, fun t h0 => ?_, fun j hj => ?_, fun j hj => ?_, fun j hj => ?_⟩⟩
  · unfold fX7_brings
    rw [a1, b1, c1]
  · rw [c3 t h1, b3, a3 t h0]
  · rw [c4, b4 t h0, a4]
  · rw [c3 0 (by omega), b3, a2, if_pos (by omega)]
    rfl
  · rw [c4, b2, if_pos (by omega), a4]
    rfl
  · rw [c2, if_pos (by omega), b3, a3 3 (by omega)]
    rfl
/-- only these cells are read -/
theorem SimN.cells {T : Int} {H : hR} {N N' W W' : Int → Int} {O O' : Int → UInt64} (h : SimN T H N W O) (hN : ∀ j : Int, 0 ≤ j ∧ j < 377 → N' j = N j) (hW : ∀ j : Int, 0 ≤ j ∧ j < N 4 → W' j = W j) (hO : ∀ j : Int, 0 ≤ j ∧ j < 8 → O' j = O j) : SimN T H N' W' O' := by
  obtain ⟨⟨h1, h2, h3, h4, h5⟩, ht, hk⟩ := h
  have k1 := hk.1
  unfold okN at k1
  have g2 := h1.2.1
  have g3 := h1.2.2.1
  refine ⟨⟨h1.fr (fun _ _ _ => rfl) (fun k q => hN k (by omega)), h2.fr (fun _ => rfl) (fun k q => hN k (by omega)), fun a ha => ?_, h4.fr (fun _ _ _ => rfl) (fun k q => hN k (by omega)) (by omega), ?_⟩, ht.fr rfl (fun _ _ _ => rfl) (fun k q => hN k (by omega)), hk⟩
  · rw [hN 1 (by omega)] at ha
    obtain ⟨q1, q2⟩ := h3 a ha
    exact ⟨fun f hf => by rw [hN _ (by omega)]; exact q1 f hf, by rw [hO a (by omega)]; exact q2⟩
  · rw [hN 4 (by omega)]
    exact h5.fr (fun _ _ _ => rfl) hW (Int.le_refl _)

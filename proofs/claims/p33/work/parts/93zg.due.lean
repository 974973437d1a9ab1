/-! ===== an order's occurrences come due, in step ===== -/
theorem cB_fr {H H' : hR} (h1 : H'.1 1 2 0 = H.1 1 2 0) (h6 : ∀ a : Int, H'.1 6 a 0 = H.1 6 a 0) : cB H' = cB H := by
  funext d
  unfold cB biz holB
  rw [h1, h6]
theorem aimed.fr {b : Int → Bool} {H H' : hR} {o : Int} (h : aimed b H o) (hH : ∀ f : Int, H'.1 3 o f = H.1 3 o f) : aimed b H' o := by
  unfold aimed at *
  rw [hH 16, hH 17, hH 18, hH 19, ixF_fr (H := H) (fun f _ => hH f), nomO_fr (H := H) (fun f _ => hH f), dtF_fr (H := H) (fun f _ => hH f)]
  exact h
def skipM (o k L : Int) (m m2 : mR) : Prop := (∀ t j : Int, ¬ (t = 0 ∧ (j = 121 + 16 * o + 13 ∨ j = 7 ∨ j = 121 + 16 * o + 9 ∨ j = 121 + 16 * o + 14)) → m2.1 t j = m.1 t j) ∧ m2.2 = m.2 ∧ m2.1 0 (121 + 16 * o + 13) = m.1 0 (121 + 16 * o + 13) + 1 ∧ m2.1 0 7 = m.1 0 7 + 1 ∧ m2.1 0 (121 + 16 * o + 9) = L ∧ m2.1 0 (121 + 16 * o + 14) = k + 1
def takeM (o k L p : Int) (m m2 : mR) : Prop := (∀ t j : Int, ¬ (t = 0 ∧ (j = 4 ∨ j = 121 + 16 * o + 9 ∨ j = 121 + 16 * o + 14)) → ¬ (t = 1 ∧ j = m.1 0 4) → m2.1 t j = m.1 t j) ∧ m2.2 = m.2 ∧ m2.1 0 4 = m.1 0 4 + 1 ∧ m2.1 1 (m.1 0 4) = p ∧ m2.1 0 (121 + 16 * o + 9) = L ∧ m2.1 0 (121 + 16 * o + 14) = k + 1
theorem Sim.skip {T : Int} {H H2 : hR} {m m2 : mR} {o k : Int} (h : Sim T H m) (ho : 0 ≤ o ∧ o < H.1 0 5 0) (hst : H.1 3 o 11 = 0) (hs : skipR o k H H2) (hm : skipM o k (leftN H o) m m2) (hk : H.1 3 o 16 ≤ k ∧ k ≤ 1094) (hl : 0 ≤ leftN H o ∧ leftN H o ≤ 99) : Sim T H2 m2 := by
  obtain ⟨s1, s2, s3, s4, s5⟩ := hs
  obtain ⟨n1, n2, n3, n4, n5, n6⟩ := hm
  obtain ⟨⟨h1, h2, h3, h4, h5⟩, ht, hok⟩ := h
  have e1 := h1.2.1
  have e2 := h1.2.2.1
  have e4 := h1.2.2.2.2.1
  have k1 := hok.1
  unfold okN at k1
  obtain ⟨w1, w2, w3⟩ := hok.2.2.2.1 o ho
  have s30 : ∀ t x y : Int, ¬ (t = 3 ∧ x = o) → H2.1 t x y = H.1 t x y := fun t x y q => s1 t x y (by omega)
  refine ⟨⟨h1.fr (fun t a q => s1 _ _ _ (by omega)) (fun j q => n1 _ _ (by omega)), h2.fr (fun a => s1 _ _ _ (by omega)) (fun j q => n1 _ _ (by omega)), h3.fr (fun a f q => s1 _ _ _ (by omega)) (fun a => by rw [s2]) (fun j q => n1 _ _ (by omega)) (fun a => by rw [n2]) (by omega), ?_, ?_⟩, ?_, hok.ord (Int.le_refl _) ho s30 s2 (s1 _ _ _ (by omega)) (s1 _ _ _ (by omega)) (w1.fr (fun f hf => s1 _ _ _ (by omega))) ?_ ?_⟩
  · intro i hi f hf
    rw [n1 0 2 (by omega)] at hi
    by_cases g : i = o
    · subst g
      by_cases c1 : f = 13
      · subst c1
        rw [n3, h4 i hi 13 hf]
        show H.1 3 i 14 + 1 = H2.1 3 i 14
        rw [s4]
      · by_cases c2 : f = 9
        · subst c2
          rw [n5]
          show _ = if H2.1 3 i 11 = 2 then 0 else H2.1 3 i 10
          rw [s1 3 i 11 (by omega), hst, if_neg (by omega), s3]
        · by_cases c3 : f = 14
          · subst c3
            rw [n6]
            show _ = H2.1 3 i 16
            rw [s5]
          · rw [n1 _ _ (by omega), h4 i hi f hf]
            exact (ordN_at (fun f' q => s1 3 i f' (by omega))).symm
    · rw [n1 _ _ (by omega), h4 i hi f hf, ordN_fr (H := H) (fun f' _ => s1 3 i f' (by omega)) hf]
  · rw [n1 0 4 (by omega)]
    exact h5.fr (fun c i q => s1 _ _ _ (by omega)) (fun i q => n1 _ _ (by omega)) (Int.le_refl _)
  · obtain ⟨t5, t6, t7⟩ := ht
    have e5 : H2.1 0 5 0 = H.1 0 5 0 := s1 _ _ _ (by omega)
    refine ⟨?_, ?_, ?_⟩
    · rw [n1 _ _ (by omega), e5, sumF_fr (H := H) _ (fun i _ => s1 3 i 12 (by omega))]
      exact t5
    · rw [n1 _ _ (by omega), e5, sumF_fr (H := H) _ (fun i _ => s1 3 i 13 (by omega))]
      exact t6
    · rw [n4, e5, sumF_up (H := H) (f := 14) (o := o) (d := 1) ho.1 s4 (fun i hi => s1 3 i 14 (by omega)), if_pos (by omega), t7]
  · unfold okP at *
    rw [s1 3 o 0 (by omega), s1 3 o 1 (by omega), s1 3 o 2 (by omega), s1 3 o 8 (by omega), s1 3 o 9 (by omega), s1 3 o 11 (by omega), s1 0 4 0 (by omega), s3]
    omega
  · unfold okC at *
    rw [s1 3 o 12 (by omega), s1 3 o 13 (by omega), s1 3 o 15 (by omega), s4, s5]
    omega
theorem Sim.take {T : Int} {H H2 : hR} {m m2 : mR} {o k d t : Int} (h : Sim T H m) (ho : 0 ≤ o ∧ o < H.1 0 5 0) (hst : H.1 3 o 11 = 0) (hs : takeR o k d t H H2) (hm : takeM o k (leftN H o) (pkW o (H.1 3 o 2) d t 0 0) m m2) (hk : H.1 3 o 16 ≤ k ∧ k ≤ 1094) (hl : 0 ≤ leftN H o ∧ leftN H o ≤ 99) (hd : 0 ≤ d ∧ d ≤ 1094) (ht : 0 ≤ t ∧ t ≤ 1094) (h8 : H.1 4 2 0 ≤ 8399) (hD : ∀ i : Int, 0 ≤ i ∧ i < H.1 4 2 0 → H.1 5 3 i < t ∨ (H.1 5 3 i = t ∧ H.1 5 0 i ≤ o)) : Sim T H2 m2 := by
  obtain ⟨s1, s2, s3, s4, s5, s6, s7, s8, s9, s10, s11, s12, s13, s14⟩ := hs
  obtain ⟨n1, n2, n3, n4, n5, n6⟩ := hm
  obtain ⟨⟨h1, h2, h3, h4, h5⟩, hto, k1, k2, k3, k4, k5, k6, k7, k8⟩ := h
  have e1 := h1.2.1
  have e2 := h1.2.2.1
  have e4 := h1.2.2.2.2.1
  have k1' := k1
  unfold okN at k1'
  obtain ⟨w1, w2, w3⟩ := k4 o ho
  have w2' := w2
  unfold okP at w2'
  have q5 : H2.1 0 5 0 = H.1 0 5 0 := s1 _ _ _ (by omega) (by omega) (by omega) (by omega)
  have q4 : H2.1 0 4 0 = H.1 0 4 0 := s1 _ _ _ (by omega) (by omega) (by omega) (by omega)
  have q3 : ∀ i f : Int, ¬ (i = o ∧ (f = 10 ∨ f = 15 ∨ f = 16 ∨ f = 17 ∨ f = 18 ∨ f = 19)) → H2.1 3 i f = H.1 3 i f := fun i f q => s1 _ _ _ (by omega) (by omega) (by omega) (by omega)
  have q2 : ∀ a f : Int, ¬ (a = H.1 3 o 0 ∧ f = 11) → H2.1 2 a f = H.1 2 a f := fun a f q => s1 _ _ _ (by omega) (by omega) (by omega) (by omega)
  have q0 : ∀ t a f : Int, t = 0 ∨ t = 1 ∨ t = 6 → H2.1 t a f = H.1 t a f := fun t a f q => s1 _ _ _ (by omega) (by omega) (by omega) (by omega)
  obtain ⟨g1, g2, g3, g4, g5, g6, g7, g8, g9, g10⟩ := h1
  refine ⟨⟨⟨?_, ?_, ?_, ?_, ?_, ?_, ?_, ?_, ?_, ?_⟩, h2.fr (fun a => q0 _ _ _ (by omega)) (fun j q => n1 _ _ (by omega) (by omega)), h3.fr (fun a f q => q2 _ _ (by omega)) (fun a => by rw [s2]) (fun j q => n1 _ _ (by omega) (by omega)) (fun a => by rw [n2]) (by omega), ?_, ?_⟩, hto.fr q5 (fun i f q => q3 _ _ (by omega)) (fun j q => n1 _ _ (by omega) (by omega)), ?_, k2.fr (fun t a q => q0 _ _ _ (by omega)), k3.fr q4 (fun a f q => q2 _ _ (by omega)), ?_, ?_, ?_, k7.fr (Int.le_refl _) q4 (q0 _ _ _ (by omega)) (fun a f q => q2 _ _ (by omega)), k8.fr q4 (q0 _ _ _ (by omega)) (fun a => q2 _ _ (by omega)) s2⟩
  · rw [n1 _ _ (by omega) (by omega), q0 _ _ _ (by omega)]; exact g1
  · rw [n1 _ _ (by omega) (by omega), q0 _ _ _ (by omega)]; exact g2
  · rw [n1 _ _ (by omega) (by omega), q0 _ _ _ (by omega)]; exact g3
  · rw [n1 _ _ (by omega) (by omega), q0 _ _ _ (by omega)]; exact g4
  · rw [n3, s7, g5]
  · rw [n1 _ _ (by omega) (by omega), q0 _ _ _ (by omega)]; exact g6
  · rw [n1 _ _ (by omega) (by omega), q0 _ _ _ (by omega)]; exact g7
  · rw [n1 _ _ (by omega) (by omega), q0 _ _ _ (by omega)]; exact g8
  · rw [n1 _ _ (by omega) (by omega), q0 _ _ _ (by omega)]; exact g9
  · rw [n1 _ _ (by omega) (by omega), q0 _ _ _ (by omega)]; exact g10
  · intro i hi f hf
    rw [n1 0 2 (by omega) (by omega)] at hi
    by_cases g : i = o
    · subst g
      by_cases c2 : f = 9
      · subst c2
        rw [n5]
        show _ = if H2.1 3 i 11 = 2 then 0 else H2.1 3 i 10
        rw [q3 i 11 (by omega), hst, if_neg (by omega), s3]
      · by_cases c3 : f = 14
        · subst c3
          rw [n6]
          show _ = H2.1 3 i 16
          rw [s5]
        · rw [n1 _ _ (by omega) (by omega), h4 i hi f hf]
          exact (ordN_at (fun f' q => q3 i f' (by omega))).symm
    · rw [n1 _ _ (by omega) (by omega), h4 i hi f hf, ordN_fr (H := H) (fun f' _ => q3 i f' (by omega)) hf]
  · intro i hi
    rw [n3] at hi
    by_cases g : i = m.1 0 4
    · subst g
      rw [n4, g5, s10, s11, s12, s13, s14]
    · rw [n1 _ _ (by omega) (by omega), s9 _ _ (by omega), s9 _ _ (by omega), s9 _ _ (by omega), s9 _ _ (by omega), s9 _ _ (by omega)]
      exact h5 i (by omega)
  · unfold okN
    rw [q4, q5, s7]
    exact ⟨k1'.1, k1'.2.1, by omega, s8⟩
  · intro i hi
    rw [q5] at hi
    obtain ⟨v1, v2, v3⟩ := k4 i hi
    refine ⟨v1.fr (fun f hf => q3 i f (by omega)), ?_, ?_⟩
    · by_cases g : i = o
      · subst g
        unfold okP at *
        rw [q3 i 0 (by omega), q3 i 1 (by omega), q3 i 2 (by omega), q3 i 8 (by omega), q3 i 9 (by omega), q3 i 11 (by omega), q4, s3]
        omega
      · unfold okP at *
        rw [q3 i 0 (by omega), q3 i 1 (by omega), q3 i 2 (by omega), q3 i 8 (by omega), q3 i 9 (by omega), q3 i 10 (by omega), q3 i 11 (by omega), q4]
        exact v2
    · by_cases g : i = o
      · subst g
        unfold okC at *
        rw [q3 i 12 (by omega), q3 i 13 (by omega), q3 i 14 (by omega), s4, s5]
        omega
      · unfold okC at *
        rw [q3 i 12 (by omega), q3 i 13 (by omega), q3 i 14 (by omega), q3 i 15 (by omega), q3 i 16 (by omega)]
        exact v3
  · refine ⟨fun i hi => ?_, fun i j hi hij hj => ?_⟩
    · rw [s7] at hi
      rw [q5]
      by_cases g : i = H.1 4 2 0
      · subst g
        rw [s10, s11, s12, s13, s14]
        omega
      · rw [s9 _ _ (by omega), s9 _ _ (by omega), s9 _ _ (by omega), s9 _ _ (by omega), s9 _ _ (by omega)]
        exact k5.1 i (by omega)
    · rw [s7] at hj
      rw [s9 3 i (by omega), s9 0 i (by omega)]
      by_cases g : j = H.1 4 2 0
      · subst g
        rw [s10, s13]
        exact hD i (by omega)
      · rw [s9 3 j (by omega), s9 0 j (by omega)]
        exact k5.2 i j hi hij (by omega)
  · have e : (H2.1 4 2 0).toNat = (H.1 4 2 0).toNat + 1 := by omega
    have e' : (((H.1 4 2 0).toNat : Nat) : Int) = H.1 4 2 0 := by omega
    refine ⟨fun a ha => ?_, fun i hi => ?_⟩
    · rw [q4] at ha
      rw [e, sumW_s, e', s10, s11, q3 o 0 (by omega), sumW_fr (H := H) _ (fun c i q => s9 c i (by omega)) (fun i q => q3 _ _ (by omega))]
      by_cases g : H.1 3 o 0 = a
      · rw [if_pos g, ← g, s6, k6.1 _ w2'.1]
      · rw [if_neg g, q2 a 11 (by omega), k6.1 a ha]
        omega
    · rw [q5] at hi
      rw [e, cntW_s, e', s10, cntW_fr (H := H) _ (fun i q => s9 0 i (by omega))]
      by_cases g : o = i
      · subst g
        rw [if_pos rfl, s4, k6.2 o hi]
      · rw [if_neg g, q3 i 15 (by omega), k6.2 i hi]
        omega
theorem nomO_36 {b : Int → Bool} {H : hR} {o k : Int} (h : okOrd H o) (hk : 0 ≤ k) (h3 : ¬ H.1 3 o 3 ≤ 1) (hn : ¬ nomO b H o k = -6) : k ≤ 35 := by
  obtain ⟨h1, h2, h3', h4, h5⟩ := h
  have h6 : k * 1 ≤ k * H.1 3 o 4 := Int.mul_le_mul_of_nonneg_left h2.1 hk
  have hm := mOf_in h4
  rcases nomP_mon (b := b) (fi := H.1 3 o 6) (ki := H.1 3 o 3) (p := k * H.1 3 o 4) (dm := H.1 3 o 5) (by omega) h4 (by omega) h3'.1 with q | q
  · exact absurd q.2 hn
  · omega
theorem okX.skip {t Z U : Int} {H H2 : hR} {o k : Int} {b : Int → Bool} (h : okX t Z U H) (hw : okW H) (ho : 0 ≤ o ∧ o < H.1 0 5 0) (hok : okOrd H o) (hst : H.1 3 o 11 = 0) (hs : skipR o k H H2) (hk : 0 ≤ H.1 3 o 16 ∧ H.1 3 o 16 ≤ k) (hn : ¬ nomO b H o k = -6) : okX t Z U H2 := by
  obtain ⟨s1, s2, s3, s4, s5⟩ := hs
  obtain ⟨h1, h2, h3⟩ := h
  have q3 : ∀ i f : Int, ¬ (i = o ∧ (f = 10 ∨ f = 14 ∨ f = 16 ∨ f = 17 ∨ f = 18 ∨ f = 19)) → H2.1 3 i f = H.1 3 i f := fun i f q => s1 _ _ _ (by omega)
  have e42 : H2.1 4 2 0 = H.1 4 2 0 := s1 _ _ _ (by omega)
  have e05 : H2.1 0 5 0 = H.1 0 5 0 := s1 _ _ _ (by omega)
  have q5 : ∀ c i : Int, H2.1 5 c i = H.1 5 c i := fun c i => s1 _ _ _ (by omega)
  have qK : ∀ i j : Int, nomK H2 i j = nomK H i j := fun i j => nomK_fr (fun f q => q3 _ _ (by omega)) j
  have hlt := nomK_lt hok (k := H.1 3 o 16) (j := k + 1) (by omega)
  refine ⟨fun i hi hk3 => ?_, fun i hi => ?_, fun i j a b' c d e => ?_⟩
  · rw [e42] at hi
    rw [q5, q3 _ 3 (by omega)] at hk3
    rw [q5, q5, q5, qK]
    have := h1 i hi hk3
    by_cases g : H.1 5 0 i = o
    · rw [g] at this ⊢
      rw [s5]
      omega
    · rw [q3 _ 16 (by omega)]
      exact this
  · rw [e05] at hi
    by_cases g : i = o
    · subst g
      rw [q3 i 3 (by omega), q3 i 11 (by omega), q3 i 9 (by omega), qK, s5, s3]
      obtain ⟨a1, a2, a3⟩ := h2 i hi
      refine ⟨fun c1 c2 => ?_, fun c1 => ?_, fun c1 => ?_⟩
      · have := a1 c1 c2
        omega
      · have := nomO_36 hok (by omega) c1 hn
        omega
      · unfold leftN
        rw [if_neg (by omega)]
        exact a3 c1
    · rw [q3 i 3 (by omega), q3 i 11 (by omega), q3 i 9 (by omega), q3 i 10 (by omega), q3 i 16 (by omega), qK]
      exact h2 i hi
  · rw [e42] at c
    rw [q5, q5] at d
    rw [q5, q3 _ 3 (by omega)] at e
    rw [q5, q5, q5]
    exact h3 i j a b' c d e
theorem okX.take {t Z U : Int} {H H2 : hR} {o k d : Int} {b : Int → Bool} (h : okX t Z U H) (hw : okW H) (hs0 : 0 ≤ H.1 4 2 0) (ho : 0 ≤ o ∧ o < H.1 0 5 0) (hok : okOrd H o) (hst : H.1 3 o 11 = 0) (hs : takeR o k d t H H2) (hk : 0 ≤ H.1 3 o 16 ∧ H.1 3 o 16 ≤ k) (hn : ¬ nomO b H o k = -6) (hd : H.1 3 o 3 ≤ 1 → k = H.1 3 o 16 ∧ d = nomK H o k ∧ (t < d → 5 * (d + 1 - t) + Z ≤ U)) (hZ : 0 ≤ Z ∧ Z + 5 ≤ U) : okX t Z U H2 := by
  obtain ⟨s1, s2, s3, s4, s5, s6, s7, s8, s9, s10, s11, s12, s13, s14⟩ := hs
  obtain ⟨h1, h2, h3⟩ := h
  have q3 : ∀ i f : Int, ¬ (i = o ∧ (f = 10 ∨ f = 15 ∨ f = 16 ∨ f = 17 ∨ f = 18 ∨ f = 19)) → H2.1 3 i f = H.1 3 i f := fun i f q => s1 _ _ _ (by omega) (by omega) (by omega) (by omega)
  have e05 : H2.1 0 5 0 = H.1 0 5 0 := s1 _ _ _ (by omega) (by omega) (by omega) (by omega)
  have qK : ∀ i j : Int, nomK H2 i j = nomK H i j := fun i j => nomK_fr (fun f q => q3 _ _ (by omega)) j
  have hlt := nomK_lt hok (k := H.1 3 o 16) (j := k + 1) (by omega)
  have hlt2 := nomK_lt hok (k := k) (j := k + 1) (by omega)
  refine ⟨fun i hi hk3 => ?_, fun i hi => ?_, fun i j a b' c e0 e => ?_⟩
  · rw [s7] at hi
    by_cases g : i = H.1 4 2 0
    · subst g
      rw [s10, q3 _ 3 (by omega)] at hk3
      rw [s10, s12, s14, s5, qK]
      obtain ⟨a1, a2, a3⟩ := hd hk3
      have := (h2 o ho).1 hk3 hst
      rw [← a1, ← a2] at this
      omega
    · rw [s9 0 i (by omega), q3 _ 3 (by omega)] at hk3
      rw [s9 0 i (by omega), s9 2 i (by omega), s9 4 i (by omega), qK]
      have := h1 i (by omega) hk3
      by_cases g2 : H.1 5 0 i = o
      · rw [g2] at this ⊢
        rw [s5]
        omega
      · rw [q3 _ 16 (by omega)]
        exact this
  · rw [e05] at hi
    by_cases g : i = o
    · subst g
      rw [q3 i 3 (by omega), q3 i 11 (by omega), q3 i 9 (by omega), qK, s5, s3]
      obtain ⟨a1, a2, a3⟩ := h2 i hi
      refine ⟨fun c1 c2 => ?_, fun c1 => ?_, fun c1 => ?_⟩
      · have := a1 c1 c2
        omega
      · have := nomO_36 hok (by omega) c1 hn
        omega
      · unfold leftN
        rw [if_neg (by omega)]
        exact a3 c1
    · rw [q3 i 3 (by omega), q3 i 11 (by omega), q3 i 9 (by omega), q3 i 10 (by omega), q3 i 16 (by omega), qK]
      exact h2 i hi
  · rw [s7] at c
    by_cases g : j = H.1 4 2 0
    · subst g
      rw [s12]
      rw [s10] at e0
      by_cases g2 : i = H.1 4 2 0
      · subst g2
        rw [s12, s14]
        omega
      · rw [s9 0 i (by omega)] at e0 e
        rw [s9 2 i (by omega), s9 4 i (by omega)]
        rw [e0, q3 _ 3 (by omega)] at e
        obtain ⟨a1, a2, a3⟩ := hd e
        have := h1 i (by omega) (by rw [e0]; exact e)
        rw [e0, ← a1, ← a2] at this
        by_cases g3 : t < d
        · have := a3 g3
          omega
        · omega
    · rw [s9 0 i (by omega), s9 0 j (by omega)] at e0
      rw [s9 0 i (by omega), q3 _ 3 (by omega)] at e
      rw [s9 2 i (by omega), s9 2 j (by omega), s9 4 i (by omega)]
      exact h3 i j a b' (by omega) e0 e

/-! ===== a waiting payment as one number ===== -/
theorem pk_parts {o a n d f x : Int} (ho : 0 ≤ o ∧ o ≤ 15) (ha : 0 ≤ a ∧ a ≤ 1048575) (hn : 0 ≤ n ∧ n ≤ 2047) (hd : 0 ≤ d ∧ d ≤ 2047) (hf : 0 ≤ f ∧ f ≤ 15) (hx : 0 ≤ x ∧ x ≤ 1) :
    (0 ≤ pkW o a n d f x ∧ pkW o a n d f x ≤ 4611686018427387904) ∧ pkW o a n d f x % 16 = o ∧ pkW o a n d f x / 16 % 1048576 = a ∧ pkW o a n d f x / 16777216 % 2048 = n ∧ pkW o a n d f x / 34359738368 % 2048 = d ∧ pkW o a n d f x / 70368744177664 % 16 = f ∧ pkW o a n d f x / 1125899906842624 = x := by
  unfold pkW
  have e1 : (o + 16 * (a + 1048576 * (n + 2048 * (d + 2048 * (f + 16 * x))))) / 16 = a + 1048576 * (n + 2048 * (d + 2048 * (f + 16 * x))) := by omega
  have e2 : (o + 16 * (a + 1048576 * (n + 2048 * (d + 2048 * (f + 16 * x))))) / 16777216 = n + 2048 * (d + 2048 * (f + 16 * x)) := by
    rw [show (16777216 : Int) = 16 * 1048576 by rfl, ← Int.ediv_ediv_of_nonneg (by decide), e1]; omega
  have e3 : (o + 16 * (a + 1048576 * (n + 2048 * (d + 2048 * (f + 16 * x))))) / 34359738368 = d + 2048 * (f + 16 * x) := by
    rw [show (34359738368 : Int) = 16777216 * 2048 by rfl, ← Int.ediv_ediv_of_nonneg (by decide), e2]; omega
  have e4 : (o + 16 * (a + 1048576 * (n + 2048 * (d + 2048 * (f + 16 * x))))) / 70368744177664 = f + 16 * x := by
    rw [show (70368744177664 : Int) = 34359738368 * 2048 by rfl, ← Int.ediv_ediv_of_nonneg (by decide), e3]; omega
  have e5 : (o + 16 * (a + 1048576 * (n + 2048 * (d + 2048 * (f + 16 * x))))) / 1125899906842624 = x := by
    rw [show (1125899906842624 : Int) = 70368744177664 * 16 by rfl, ← Int.ediv_ediv_of_nonneg (by decide), e4]; omega
  rw [e1, e2, e3, e4, e5]
  omega
theorem em_part {m : mR} {i o a n d f x : Int} (hi : 0 ≤ i ∧ i < 8400) (hw : m.1 1 i = pkW o a n d f x) (ho : 0 ≤ o ∧ o ≤ 15) (ha : 0 ≤ a ∧ a ≤ 1048575) (hn : 0 ≤ n ∧ n ≤ 2047) (hd : 0 ≤ d ∧ d ≤ 2047) (hf : 0 ≤ f ∧ f ≤ 15) (hx : 0 ≤ x ∧ x ≤ 1) :
    fX7_partOf i 0 m = some o ∧ fX7_partOf i 1 m = some a ∧ fX7_partOf i 2 m = some n ∧ fX7_partOf i 3 m = some d ∧ fX7_partOf i 4 m = some f ∧ fX7_partOf i 5 m = some x := by
  obtain ⟨p0, p1, p2, p3, p4, p5, p6⟩ := pk_parts ho ha hn hd hf hx
  rw [← hw] at p0 p1 p2 p3 p4 p5 p6
  unfold fX7_partOf
  have q1 : 0 ≤ m.1 1 i / 16 ∧ m.1 1 i / 16 ≤ 9223372036854775807 := by omega
  have q2 : 0 ≤ m.1 1 i / 16777216 ∧ m.1 1 i / 16777216 ≤ 9223372036854775807 := by omega
  have q3 : 0 ≤ m.1 1 i / 34359738368 ∧ m.1 1 i / 34359738368 ≤ 9223372036854775807 := by omega
  have q4 : 0 ≤ m.1 1 i / 70368744177664 ∧ m.1 1 i / 70368744177664 ≤ 9223372036854775807 := by omega
  have q0 : 0 ≤ m.1 1 i ∧ m.1 1 i ≤ 9223372036854775807 := by omega
  refine ⟨?_, ?_, ?_, ?_, ?_, ?_⟩
  · rw [gd_pos hi, gd_pos (by decide), if_pos rfl, gd_pos q0, p1]
  · rw [gd_pos hi, gd_pos (by decide), if_neg (by decide), if_pos rfl, gd_pos q0, gd_pos q1, p2]
  · rw [gd_pos hi, gd_pos (by decide), if_neg (by decide), if_neg (by decide), if_pos rfl, gd_pos q0, gd_pos q2, p3]
  · rw [gd_pos hi, gd_pos (by decide), if_neg (by decide), if_neg (by decide), if_neg (by decide), if_pos rfl, gd_pos q0, gd_pos q3, p4]
  · rw [gd_pos hi, gd_pos (by decide), if_neg (by decide), if_neg (by decide), if_neg (by decide), if_neg (by decide), if_pos rfl, gd_pos q0, gd_pos q4, p5]
  · rw [gd_pos hi, gd_pos (by decide), if_neg (by decide), if_neg (by decide), if_neg (by decide), if_neg (by decide), if_neg (by decide), gd_pos q0, p6]
/-- a waiting payment's parts, outside a day -/
theorem Sim.part {T : Int} {H : hR} {m : mR} (h : Sim T H m) {i : Int} (hi : 0 ≤ i ∧ i < H.1 4 2 0) : fX7_partOf i 0 m = some (H.1 5 0 i) ∧ fX7_partOf i 1 m = some (H.1 5 1 i) ∧ fX7_partOf i 2 m = some (H.1 5 2 i) ∧ fX7_partOf i 3 m = some (H.1 5 3 i) ∧ fX7_partOf i 4 m = some (H.1 5 4 i) := by
  have k1 := h.2.2.1
  unfold okN at k1
  have e4 := h.1.1.2.2.2.2.1
  have hw := h.1.2.2.2.2 i (by rw [e4]; exact hi)
  obtain ⟨w1, w2, w3, w4, w5⟩ := h.2.2.2.2.2.2.1.1 i hi
  obtain ⟨p0, p1, p2, p3, p4, -⟩ := em_part (i := i) (by omega) hw (by omega) (by omega) (by omega) (by omega) (by omega) (by decide)
  exact ⟨p0, p1, p2, p3, p4⟩
theorem cntW_rng {H : hR} {o : Int} : ∀ n : Nat, 0 ≤ cntW H o n ∧ cntW H o n ≤ n
  | 0 => by unfold cntW; omega
  | n + 1 => by
    have := cntW_rng (H := H) (o := o) n
    unfold cntW
    split <;> omega
theorem em_waitsOf_b4 {H : hR} {m : mR} {o : Int} (ho : wR o) {n : Nat} (hn : m.1 0 4 = n) (hn2 : n ≤ 8400) (hp : ∀ i : Int, 0 ≤ i ∧ i < n → fX7_partOf i 0 m = some (H.1 5 0 i) ∧ wR (H.1 5 0 i)) : ∀ (k fuel : Nat) (j : Nat), j + k = n → k < fuel → fX7_waitsOf_b4 m fuel o (cntW H o j) j = some (cntW H o n)
  | k, 0, j, _, h => by omega
  | 0, fuel + 1, j, h1, _ => by
    unfold fX7_waitsOf_b4
    rw [gd_pos (by omega), gd_pos (by omega), if_pos (by omega), show j = n by omega]
  | k + 1, fuel + 1, j, h1, h2 => by
    obtain ⟨p1, p2⟩ := hp j (by omega)
    have ih := em_waitsOf_b4 ho hn hn2 hp k fuel (j + 1) (by omega) (by omega)
    unfold fX7_waitsOf_b4 fX7_waitsOf_b32
    rw [gd_pos (by omega), gd_pos (by omega), if_neg (by omega), p1, cr_some, gd_pos (by omega)]
    by_cases g : H.1 5 0 j = o
    · rw [if_pos g]
      have e : cntW H o (j + 1) = cntW H o j + 1 := by
        show cntW H o j + (if H.1 5 0 j = o then 1 else 0) = _
        rw [if_pos g]
      rw [← e]
      exact ih
    · rw [if_neg g]
      have e : cntW H o (j + 1) = cntW H o j + 0 := by
        show cntW H o j + (if H.1 5 0 j = o then 1 else 0) = _
        rw [if_neg g]
      rw [← e]
      exact ih
theorem Sim.waitsOf {T : Int} {H : hR} {m m' : mR} (h : Sim T H m) {o : Int} (ho : wR o) (h1 : m'.1 1 = m.1 1) (h4 : m'.1 0 4 = m.1 0 4) : fX7_waitsOf o m' = some (cntW H o (H.1 4 2 0).toNat) := by
  have k1 := h.2.2.1
  unfold okN at k1
  have e4 := h.1.1.2.2.2.2.1
  refine em_waitsOf_b4 (j := 0) ho (n := (H.1 4 2 0).toNat) (by omega) (by omega) (fun i hi => ?_) (H.1 4 2 0).toNat fuel0 (by omega) (by show _ < 1000000; omega)
  have hp := (h.part (i := i) (by omega)).1
  have hw := (h.2.2.2.2.2.2.1.1 i (by omega)).1
  refine ⟨?_, by omega⟩
  rw [← hp]
  unfold fX7_partOf
  rw [h1]
/-! ===== change, stop, goOn ===== -/
/-- an order's field, written on both sides: f on the class's, k on the reference's -/
theorem Cor.ord {H H' : hR} {m m' : mR} (h : CorM H m) (hk : okN H) {o : Int} (ho : 0 ≤ o ∧ o < 16) (hH : ∀ t x y : Int, ¬ (t = 3 ∧ x = o) → H'.1 t x y = H.1 t x y) (hD : H'.2 = H.2) (hN : ∀ j : Int, ¬ (121 + 16 * o ≤ j ∧ j ≤ 136 + 16 * o) → m'.1 0 j = m.1 0 j) (hW : m'.1 1 = m.1 1) (hO : m'.2 0 = m.2 0) (hr : corR H' (m'.1 0) o) : CorM H' m' := by
  obtain ⟨h1, h2, h3, h4, h5⟩ := h
  have e1 := h1.2.1
  have e2 := h1.2.2.1
  unfold okN at hk
  refine ⟨h1.fr (fun t a q => hH _ _ _ (by omega)) (fun k q => hN _ (by omega)), h2.fr (fun a => hH _ _ _ (by omega)) (fun k q => hN _ (by omega)), h3.fr (fun a f q => hH _ _ _ (by omega)) (fun a => by rw [hD]) (fun k q => hN _ (by omega)) (fun a => by rw [hO]) (by omega), ?_, ?_⟩
  · intro x hx f hf
    rw [hN 2 (by omega)] at hx
    by_cases q : x = o
    · subst q
      exact hr f hf
    · rw [hN _ (by omega), ordN_fr (H := H) (fun f _ => hH _ _ _ (by omega)) hf]
      exact h4 x hx f hf
  · rw [hN 4 (by omega), hW]
    exact h5.fr (fun c i q => hH _ _ _ (by omega)) (fun i q => rfl) (Int.le_refl _)
theorem Cor.atO {H : hR} {m : mR} (h : CorM H m) {o : Int} (ho : 0 ≤ o ∧ o < H.1 0 5 0) : corR H (m.1 0) o := h.2.2.2.1 o (by rw [h.1.2.2.1]; exact ho)

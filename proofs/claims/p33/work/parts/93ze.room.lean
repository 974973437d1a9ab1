/-! ===== how many wait: what bounds it ===== -/
theorem shZ_lt {b : Int → Bool} {d r : Int} (hd : 0 ≤ d ∧ d ≤ 1094) (h : shZ b d r < d) : ∀ j : Int, shZ b d r < j → j ≤ d → b j = false := by
  have h1 := lastBz_spec b _ d rfl
  have h2 := nextBz_spec b (1095 - d).toNat d rfl
  have h3 := shT_rng b (d := d) (r := r)
  by_cases g0 : r = 0 ∨ r = 4
  · rw [shZ_0 g0] at h
    omega
  · rw [shZ_T g0 rfl] at h ⊢
    by_cases g : shT b d r = -6
    · rw [if_pos g] at h
      omega
    · rw [if_neg g] at h ⊢
      intro j hj hj2
      rcases h3 with h3 | h3
      · rw [h3] at h hj g
        rcases h1 with ⟨q1, q2⟩ | ⟨q1, q2, q3, q4⟩
        · exact absurd q1 g
        · exact q4 j (by omega) (by omega)
      · rw [h3] at h g
        rcases h2 with ⟨q1, q2⟩ | ⟨q1, q2, q3, q4⟩
        · exact absurd q1 g
        · omega
theorem shZ_gt {b : Int → Bool} {d r : Int} (hd : 0 ≤ d ∧ d ≤ 1094) (h : d < shZ b d r) : ∀ j : Int, d ≤ j → j < shZ b d r → b j = false := by
  have h1 := lastBz_spec b _ d rfl
  have h2 := nextBz_spec b (1095 - d).toNat d rfl
  have h3 := shT_rng b (d := d) (r := r)
  by_cases g0 : r = 0 ∨ r = 4
  · rw [shZ_0 g0] at h
    omega
  · rw [shZ_T g0 rfl] at h ⊢
    by_cases g : shT b d r = -6
    · rw [if_pos g] at h
      omega
    · rw [if_neg g] at h ⊢
      intro j hj hj2
      rcases h3 with h3 | h3
      · rw [h3] at h g
        rcases h1 with ⟨q1, q2⟩ | ⟨q1, q2, q3, q4⟩
        · exact absurd q1 g
        · omega
      · rw [h3] at h hj2 g
        rcases h2 with ⟨q1, q2⟩ | ⟨q1, q2, q3, q4⟩
        · exact absurd q1 g
        · exact q4 j (by omega) (by omega)
def phW (w : Int) : Int := if w = 6 then 5 else 2 * w
theorem phW_rng {w : Int} (h : 0 ≤ w ∧ w ≤ 6) : 0 ≤ phW w ∧ phW w ≤ 10 := by
  unfold phW
  split <;> omega
/-- a day more: what the weekday's number changes by -/
theorem phW_s (s : Int) : ((s % 7 < 5) → phW ((s + 1) % 7) = phW (s % 7) + 2) ∧ (¬ s % 7 < 5 → phW ((s + 1) % 7) = phW (s % 7) - 5) := by
  have h : s % 7 = 0 ∨ s % 7 = 1 ∨ s % 7 = 2 ∨ s % 7 = 3 ∨ s % 7 = 4 ∨ s % 7 = 5 ∨ s % 7 = 6 := by omega
  have h2 : (s + 1) % 7 = (s % 7 + 1) % 7 := by omega
  rw [h2]
  rcases h with h | h | h | h | h | h | h <;> rw [h] <;> decide
def cntB (b : Int → Bool) (lo : Int) : Nat → Int
  | 0 => 0
  | n + 1 => cntB b lo n + bI (b (lo + n))
theorem cntB_rng {b : Int → Bool} {lo : Int} : ∀ n : Nat, 0 ≤ cntB b lo n ∧ cntB b lo n ≤ n
  | 0 => by unfold cntB; omega
  | n + 1 => by
    have := cntB_rng (b := b) (lo := lo) n
    have := bI_rng (b (lo + n))
    unfold cntB
    omega
theorem cntB_s {b : Int → Bool} {lo : Int} : ∀ n : Nat, cntB b lo (n + 1) = bI (b lo) + cntB b (lo + 1) n
  | 0 => by
    show (0 : Int) + bI (b (lo + ((0 : Nat) : Int))) = bI (b lo) + 0
    rw [show lo + ((0 : Nat) : Int) = lo by omega]
    omega
  | n + 1 => by
    have ih := cntB_s (b := b) (lo := lo) n
    show cntB b lo (n + 1) + bI (b (lo + ((n + 1 : Nat) : Int))) = bI (b lo) + (cntB b (lo + 1) n + bI (b (lo + 1 + n)))
    rw [ih, show lo + ((n + 1 : Nat) : Int) = lo + 1 + n by omega]
    omega
theorem cntB_add {b : Int → Bool} {lo : Int} {n : Nat} : ∀ k : Nat, cntB b lo (n + k) = cntB b lo n + cntB b (lo + n) k
  | 0 => by
    show cntB b lo n = cntB b lo n + 0
    omega
  | k + 1 => by
    have ih := cntB_add (b := b) (lo := lo) (n := n) k
    show cntB b lo (n + k) + bI (b (lo + ((n + k : Nat) : Int))) = cntB b lo n + (cntB b (lo + n) k + bI (b (lo + n + k)))
    rw [ih, show lo + ((n + k : Nat) : Int) = lo + n + k by omega]
    omega
theorem cntB_fr {b b' : Int → Bool} {lo : Int} : ∀ n : Nat, (∀ j : Int, lo ≤ j → j < lo + n → b' j = b j) → cntB b' lo n = cntB b lo n
  | 0, _ => rfl
  | n + 1, h => by
    unfold cntB
    rw [cntB_fr n (fun j h1 h2 => h j h1 (by omega)), h (lo + n) (by omega) (by omega)]
/-- holidays from a day on -/
def futH (b : Int → Bool) (t : Int) : Int := cntB b t (1095 - t).toNat
theorem futH_s {b : Int → Bool} {t : Int} (h : t ≤ 1094) : futH b t = bI (b t) + futH b (t + 1) := by
  unfold futH
  rw [show (1095 - t).toNat = (1095 - (t + 1)).toNat + 1 by omega, cntB_s]
theorem futH_rng (b : Int → Bool) (t : Int) : 0 ≤ futH b t := (cntB_rng _).1
/-- days that aren't business days, one behind the other -/
theorem nonB_run {wd : Int} {hb : Int → Bool} : ∀ (n : Nat) (t : Int), (∀ j : Int, t ≤ j → j < t + n → biz wd hb j = false) → 5 * (n : Int) + phW ((t + n + wd) % 7) ≤ phW ((t + wd) % 7) + 7 * cntB hb t n
  | 0, t, _ => by
    rw [show t + ((0 : Nat) : Int) + wd = t + wd by omega]
    unfold cntB
    omega
  | n + 1, t, h => by
    have ih := nonB_run n t (fun j h1 h2 => h j h1 (by omega))
    have hn := h (t + n) (by omega) (by omega)
    have hs := phW_s (t + n + wd)
    have hr := bI_rng (hb (t + n))
    unfold cntB
    rw [show t + ((n + 1 : Nat) : Int) + wd = t + n + wd + 1 by omega]
    unfold biz at hn
    by_cases g : (t + n + wd) % 7 < 5
    · have g2 : hb (t + n) = true := by
        rw [decide_eq_true g] at hn
        cases hh : hb (t + n)
        · rw [hh] at hn
          cases hn
        · rfl
      have := hs.1 g
      rw [bI_t g2]
      omega
    · have := hs.2 g
      omega
theorem cntB_or {b : Int → Bool} {x lo : Int} : ∀ n : Nat, cntB (fun d => b d || decide (x = d)) lo n ≤ cntB b lo n + (if lo ≤ x ∧ x < lo + n then 1 else 0)
  | 0 => by
    unfold cntB
    split <;> omega
  | n + 1 => by
    have ih := cntB_or (b := b) (x := x) (lo := lo) n
    unfold cntB
    by_cases g : x = lo + n
    · rw [if_neg (by omega)] at ih
      rw [if_pos (by omega)]
      have := bI_rng (b (lo + n) || decide (x = lo + n))
      have := bI_rng (b (lo + n))
      omega
    · rw [decide_eq_false g, Bool.or_false]
      by_cases g2 : lo ≤ x ∧ x < lo + n
      · rw [if_pos g2] at ih
        rw [if_pos (by omega)]
        omega
      · rw [if_neg g2] at ih
        rw [if_neg (by omega)]
        omega
theorem cntB_hol {N : Int → Int} {lo : Int} {n : Nat} : ∀ k : Nat, cntB (holN N k) lo n ≤ k
  | 0 => by
    have : ∀ n : Nat, cntB (holN N 0) lo n = 0 := fun n => by
      induction n with
      | zero => rfl
      | succ n ih =>
        unfold cntB
        rw [ih]
        rfl
    rw [this]
    omega
  | k + 1 => by
    have ih := cntB_hol (N := N) (lo := lo) (n := n) k
    have := cntB_or (b := holN N k) (x := N (13 + k)) (lo := lo) n
    have e : cntB (holN N (k + 1)) lo n = cntB (fun d => holN N k d || decide (N (13 + k) = d)) lo n := cntB_fr n (fun j _ _ => rfl)
    rw [e]
    split at this <;> omega
/-- no more days are marked than are counted -/
theorem hol_cnt {H : hR} {m : mR} (h : corH H (m.1 0)) (e : m.1 0 3 = H.1 1 1 0) {lo : Int} {n : Nat} (h0 : 0 ≤ lo) (hn : lo + n ≤ 1095) : cntB (holB H) lo n ≤ H.1 1 1 0 := by
  have h1 := cntB_hol (N := m.1 0) (lo := lo) (n := n) (m.1 0 3).toNat
  rw [cntB_fr (b := holB H) (b' := holN (m.1 0) (m.1 0 3).toNat) n (fun j h1 h2 => h.2 j (by omega))] at h1
  have := h.1.1
  omega
/-- an index's day, for orders by days or weeks -/
def nomK (H : hR) (o k : Int) : Int := H.1 3 o 6 + (if H.1 3 o 3 = 0 then 1 else 7) * (k * H.1 3 o 4)
theorem nomK_fr {H H' : hR} {o : Int} (h : ∀ f : Int, (f = 3 ∨ f = 4 ∨ f = 6) → H'.1 3 o f = H.1 3 o f) (k : Int) : nomK H' o k = nomK H o k := by
  unfold nomK
  rw [h 3 (by decide), h 4 (by decide), h 6 (by decide)]
theorem nomO_K {b : Int → Bool} {H : hR} {o k : Int} (h : 0 ≤ H.1 3 o 3 ∧ H.1 3 o 3 ≤ 1) : nomO b H o k = if 1094 < nomK H o k then -6 else nomK H o k := by
  unfold nomO nomP nomK
  by_cases g : H.1 3 o 3 = 0
  · rw [if_pos g, if_pos g, Int.one_mul]
  · rw [if_neg g, if_neg g, if_pos (by omega)]
theorem nomK_lt {H : hR} {o k j : Int} (h : okOrd H o) (hk : k < j) : nomK H o k < nomK H o j := by
  obtain ⟨h1, h2, h3, h4, h5⟩ := h
  have h7 : k * H.1 3 o 4 < j * H.1 3 o 4 := Int.mul_lt_mul_of_pos_right hk (by omega)
  unfold nomK
  split <;> omega
theorem nomK_ge {H : hR} {o k : Int} (h : okOrd H o) (hk : 0 ≤ k) : H.1 3 o 6 ≤ nomK H o k := by
  obtain ⟨h1, h2, h3, h4, h5⟩ := h
  have h7 : 0 ≤ k * H.1 3 o 4 := Int.mul_nonneg hk (by omega)
  unfold nomK
  split <;> omega
theorem ixF_K {b : Int → Bool} {H : hR} {o k : Int} (h : okOrd H o) (hk : 0 ≤ k) (h3 : H.1 3 o 3 ≤ 1) : ixF b H o k = k := by
  have h1 := nomK_ge h hk
  unfold ixF
  rw [nomO_K (by have := h.1; omega)]
  by_cases g : 1094 < nomK H o k
  · rw [if_pos g, if_neg (by omega)]
  · rw [if_neg g, if_neg (by omega)]
def okX (t Z U : Int) (H : hR) : Prop :=
  (∀ i : Int, 0 ≤ i ∧ i < H.1 4 2 0 → H.1 3 (H.1 5 0 i) 3 ≤ 1 → 5 * (t - H.1 5 2 i) ≤ 7 * H.1 5 4 i + Z ∧ H.1 5 2 i < nomK H (H.1 5 0 i) (H.1 3 (H.1 5 0 i) 16)) ∧
  (∀ o : Int, 0 ≤ o ∧ o < H.1 0 5 0 → (H.1 3 o 3 ≤ 1 → H.1 3 o 11 = 0 → 5 * (t - nomK H o (H.1 3 o 16)) ≤ Z) ∧ (¬ H.1 3 o 3 ≤ 1 → H.1 3 o 16 ≤ 36) ∧ (H.1 3 o 9 = 1 → H.1 3 o 10 = 0)) ∧
  (∀ i j : Int, 0 ≤ i → i ≤ j → j < H.1 4 2 0 → H.1 5 0 i = H.1 5 0 j → H.1 3 (H.1 5 0 i) 3 ≤ 1 → 5 * (H.1 5 2 j + 1 - H.1 5 2 i) ≤ 7 * H.1 5 4 i + U ∧ (i < j → H.1 5 2 i < H.1 5 2 j))
def okDue (t : Int) (H : hR) : Prop := ∀ i : Int, 0 ≤ i ∧ i < H.1 4 2 0 → H.1 5 3 i < t
theorem okX.mono {t Z U Z' U' : Int} {H : hR} (h : okX t Z U H) (hZ : Z ≤ Z') (hU : U ≤ U') : okX t Z' U' H := by
  obtain ⟨h1, h2, h3⟩ := h
  refine ⟨fun i hi hk => ?_, fun o ho => ⟨fun q1 q2 => ?_, (h2 o ho).2⟩, fun i j a b c d e => ?_⟩
  · have := h1 i hi hk
    omega
  · have := (h2 o ho).1 q1 q2
    omega
  · have := h3 i j a b c d e
    omega
theorem okX.fr {t Z U : Int} {H H' : hR} (h : okX t Z U H) (hw : okW H) (h2' : H'.1 4 2 0 = H.1 4 2 0) (h5' : H'.1 0 5 0 = H.1 0 5 0) (hc : ∀ c i : Int, 0 ≤ i ∧ i < H.1 4 2 0 → H'.1 5 c i = H.1 5 c i) (hf : ∀ o f : Int, 0 ≤ o ∧ o < H.1 0 5 0 → f = 3 ∨ f = 4 ∨ f = 6 ∨ f = 9 ∨ f = 10 ∨ f = 11 ∨ f = 16 → H'.1 3 o f = H.1 3 o f) : okX t Z U H' := by
  obtain ⟨h1, h2, h3⟩ := h
  refine ⟨fun i hi => ?_, fun o ho => ?_, fun i j a b c => ?_⟩
  · rw [h2'] at hi
    have ho := (hw.1 i hi).1
    rw [hc 0 i hi, hc 2 i hi, hc 4 i hi, hf _ 3 ho (by decide), hf _ 16 ho (by decide), nomK_fr (H := H) (fun f q => hf _ f ho (by omega))]
    exact h1 i hi
  · rw [h5'] at ho
    rw [hf o 3 ho (by decide), hf o 9 ho (by decide), hf o 10 ho (by decide), hf o 11 ho (by decide), hf o 16 ho (by decide), nomK_fr (H := H) (fun f q => hf _ f ho (by omega))]
    exact h2 o ho
  · rw [h2'] at c
    have ho := (hw.1 i (by omega)).1
    rw [hc 0 i (by omega), hc 0 j (by omega), hc 2 i (by omega), hc 2 j (by omega), hc 4 i (by omega), hf _ 3 ho (by decide)]
    exact h3 i j a b c
theorem okDue.fr {t : Int} {H H' : hR} (h : okDue t H) (h2' : H'.1 4 2 0 = H.1 4 2 0) (hc : ∀ i : Int, 0 ≤ i ∧ i < H.1 4 2 0 → H'.1 5 3 i = H.1 5 3 i) : okDue t H' := by
  intro i hi
  rw [h2'] at hi
  rw [hc i hi]
  exact h i hi
/-- an order's waiting ones: at most as many as from the first one's day to the last one's -/
theorem cnt_span {t Z U : Int} {H : hR} (h : okX t Z U H) {o : Int} (hk : H.1 3 o 3 ≤ 1) : ∀ n : Nat, (n : Int) ≤ H.1 4 2 0 → cntW H o n = 0 ∨ ∃ p q : Int, 0 ≤ p ∧ p ≤ q ∧ q < n ∧ H.1 5 0 p = o ∧ H.1 5 0 q = o ∧ cntW H o n ≤ H.1 5 2 q - H.1 5 2 p + 1
  | 0, _ => Or.inl rfl
  | n + 1, hn => by
    unfold cntW
    by_cases g : H.1 5 0 n = o
    · rw [if_pos g]
      rcases cnt_span h hk n (by omega) with e | ⟨p, q, h1, h2, h3, h4, h5, h6⟩
      · exact Or.inr ⟨n, n, by omega, Int.le_refl _, by omega, g, g, by omega⟩
      · have := (h.2.2 q n (by omega) (by omega) (by omega) (by rw [h5, g]) (by rw [h5]; exact hk)).2 (by omega)
        exact Or.inr ⟨p, n, h1, by omega, by omega, h4, g, by omega⟩
    · rw [if_neg g]
      rcases cnt_span h hk n (by omega) with e | ⟨p, q, h1, h2, h3, h4, h5, h6⟩
      · exact Or.inl (by omega)
      · exact Or.inr ⟨p, q, h1, h2, by omega, h4, h5, by omega⟩
def sumC (H : hR) (n : Nat) : Nat → Int
  | 0 => 0
  | k + 1 => sumC H n k + cntW H k n
theorem sumC_s {H : hR} {n : Nat} : ∀ k : Nat, sumC H (n + 1) k = sumC H n k + (if 0 ≤ H.1 5 0 n ∧ H.1 5 0 n < k then 1 else 0)
  | 0 => by
    unfold sumC
    rw [if_neg (by omega)]
    rfl
  | k + 1 => by
    have ih := sumC_s (H := H) (n := n) k
    show sumC H (n + 1) k + (cntW H k n + (if H.1 5 0 n = k then 1 else 0)) = sumC H n k + cntW H k n + _
    rw [ih]
    by_cases g : H.1 5 0 n = k
    · rw [if_pos g, if_neg (by omega), if_pos (by omega)]
      omega
    · rw [if_neg g]
      by_cases g2 : 0 ≤ H.1 5 0 n ∧ H.1 5 0 n < k
      · rw [if_pos g2, if_pos (by omega)]
        omega
      · rw [if_neg g2, if_neg (by omega)]
        omega
theorem sumC_all {H : hR} {k : Nat} : ∀ n : Nat, (∀ i : Int, 0 ≤ i ∧ i < n → 0 ≤ H.1 5 0 i ∧ H.1 5 0 i < k) → sumC H n k = n
  | 0, _ => by
    have : ∀ k : Nat, sumC H 0 k = 0 := fun k => by
      induction k with
      | zero => rfl
      | succ k ih =>
        unfold sumC
        rw [ih]
        rfl
    exact this k
  | n + 1, h => by
    rw [sumC_s, sumC_all n (fun i hi => h i (by omega)), if_pos (h n (by omega))]
    omega
theorem sumC_le {H : hR} {n : Nat} {M : Int} : ∀ k : Nat, (∀ o : Nat, o < k → cntW H o n ≤ M) → sumC H n k ≤ k * M
  | 0, _ => by
    unfold sumC
    simp
  | k + 1, h => by
    have ih := sumC_le (H := H) (n := n) (M := M) k (fun o ho => h o (by omega))
    have := h k (by omega)
    unfold sumC
    have e : ((k + 1 : Nat) : Int) * M = k * M + M := by
      rw [show ((k + 1 : Nat) : Int) = k + 1 by omega, Int.add_mul, Int.one_mul]
    omega
/-- how many wait -/
theorem waits_bound {T t Z C : Int} {H : hR} (h : okX t Z (57 + 5 * C) H) (hk : Ok T H) (hC : 0 ≤ C ∧ C + H.1 0 5 0 ≤ 512) : H.1 4 2 0 ≤ 8399 := by
  have k1 := hk.1
  unfold okN at k1
  have hw := hk.2.2.2.2.1
  have e := sumC_all (H := H) (k := (H.1 0 5 0).toNat) (H.1 4 2 0).toNat (fun i hi => by
    have := (hw.1 i (by omega)).1
    omega)
  have hle := sumC_le (H := H) (n := (H.1 4 2 0).toNat) (M := 36 + C) (H.1 0 5 0).toNat (fun o ho => by
    have hrng := cntW_rng (H := H) (o := o) (H.1 4 2 0).toNat
    by_cases g : H.1 3 o 3 ≤ 1
    · rcases cnt_span h g (H.1 4 2 0).toNat (by omega) with e | ⟨p, q, h1, h2, h3, h4, h5, h6⟩
      · omega
      · have a1 := (h.2.2 p q h1 h2 (by omega) (by rw [h4, h5]) (by rw [h4]; exact g)).1
        have a2 := hw.1 p (by omega)
        omega
    · have a1 := (h.2.1 o (by omega)).2.1 g
      have a2 := (hk.2.2.2.1 o (by omega)).2.2
      have a3 := hk.2.2.2.2.2.1.2 o (by omega)
      unfold okC at a2
      omega)
  have hle2 := sumC_le (H := H) (n := (H.1 4 2 0).toNat) (M := max 36 (22 + C)) (H.1 0 5 0).toNat (fun o ho => by
    have hrng := cntW_rng (H := H) (o := o) (H.1 4 2 0).toNat
    by_cases g : H.1 3 o 3 ≤ 1
    · rcases cnt_span h g (H.1 4 2 0).toNat (by omega) with e | ⟨p, q, h1, h2, h3, h4, h5, h6⟩
      · omega
      · have a1 := (h.2.2 p q h1 h2 (by omega) (by rw [h4, h5]) (by rw [h4]; exact g)).1
        have a2 := hw.1 p (by omega)
        omega
    · have a1 := (h.2.1 o (by omega)).2.1 g
      have a2 := (hk.2.2.2.1 o (by omega)).2.2
      have a3 := hk.2.2.2.2.2.1.2 o (by omega)
      unfold okC at a2
      omega)
  have hm := mul_bnd (a := ((H.1 0 5 0).toNat : Int)) (b := max 36 (22 + C)) (A := 16) (B := max 36 (22 + C)) (by omega) (by omega) (by omega) (Int.le_refl _)
  have key : ∀ K : Nat, K ≤ 16 → C + K ≤ 512 → (K : Int) * max 36 (22 + C) ≤ 8399 := by
    intro K h1 h2
    have : K = 0 ∨ K = 1 ∨ K = 2 ∨ K = 3 ∨ K = 4 ∨ K = 5 ∨ K = 6 ∨ K = 7 ∨ K = 8 ∨ K = 9 ∨ K = 10 ∨ K = 11 ∨ K = 12 ∨ K = 13 ∨ K = 14 ∨ K = 15 ∨ K = 16 := by omega
    rcases this with rfl | rfl | rfl | rfl | rfl | rfl | rfl | rfl | rfl | rfl | rfl | rfl | rfl | rfl | rfl | rfl | rfl <;> omega
  have := key (H.1 0 5 0).toNat (by omega) (by omega)
  omega

/-! ===== the waiting list: settled entries (amount 0) and the others' ranks ===== -/
def rk (A : Int → Int) : Nat → Int
  | 0 => 0
  | n + 1 => rk A n + (if A n = 0 then 0 else 1)
theorem rk_s {A : Int → Int} {n : Nat} (h : ¬ A n = 0) : rk A (n + 1) = rk A n + 1 := by
  show rk A n + (if A n = 0 then 0 else 1) = _
  rw [if_neg h]
theorem rk_z {A : Int → Int} {n : Nat} (h : A n = 0) : rk A (n + 1) = rk A n := by
  show rk A n + (if A n = 0 then 0 else 1) = _
  rw [if_pos h]
  omega
theorem rk_rng {A : Int → Int} : ∀ n : Nat, 0 ≤ rk A n ∧ rk A n ≤ n
  | 0 => by unfold rk; omega
  | n + 1 => by
    have := rk_rng (A := A) n
    unfold rk
    split <;> omega
theorem rk_mono {A : Int → Int} {n : Nat} : ∀ k : Nat, rk A n ≤ rk A (n + k)
  | 0 => Int.le_refl _
  | k + 1 => by
    have h := rk_mono (A := A) (n := n) k
    have : rk A (n + (k + 1)) = rk A (n + k) + (if A ((n + k : Nat) : Int) = 0 then 0 else 1) := rfl
    split at this <;> omega
theorem rk_le {A : Int → Int} {n k : Nat} (h : n ≤ k) : rk A n ≤ rk A k := by
  have := rk_mono (A := A) (n := n) (k - n)
  rw [show n + (k - n) = k by omega] at this
  exact this
theorem rk_lt {A : Int → Int} {n k : Nat} (h : n < k) (hA : ¬ A n = 0) : rk A n + 1 ≤ rk A k := by
  have := rk_le (A := A) (n := n + 1) (k := k) h
  rw [rk_s hA] at this
  exact this
theorem rk_up {A : Int → Int} {p : Nat} (hA : ¬ A p = 0) : ∀ n : Nat, rk (up1 A p 0) n = rk A n - (if p < n then 1 else 0)
  | 0 => by unfold rk; simp
  | n + 1 => by
    have ih := rk_up hA n
    show rk (up1 A p 0) n + (if up1 A p 0 n = 0 then 0 else 1) = rk A n + (if A n = 0 then 0 else 1) - _
    rw [ih]
    by_cases h : n = p
    · subst h
      rw [up1_p, if_pos rfl, if_neg hA, if_neg (by omega), if_pos (by omega)]
      omega
    · rw [up1_n _ _ (by omega)]
      by_cases g : p < n
      · rw [if_pos g, if_pos (show p < n + 1 by omega)]
        omega
      · rw [if_neg g, if_neg (show ¬ p < n + 1 by omega)]
        omega
theorem rk_fr {A B : Int → Int} : ∀ n : Nat, (∀ i : Nat, i < n → B i = A i) → rk B n = rk A n
  | 0, _ => rfl
  | n + 1, h => by
    unfold rk
    rw [rk_fr n (fun i hi => h i (by omega)), h n (by omega)]
theorem rk_all {A : Int → Int} : ∀ n : Nat, (∀ i : Nat, i < n → ¬ A i = 0) → rk A n = n
  | 0, _ => rfl
  | n + 1, h => by
    rw [rk_s (h n (by omega)), rk_all n (fun i hi => h i (by omega))]
    omega
theorem rk_sur {A : Int → Int} : ∀ (n : Nat) (j : Int), 0 ≤ j → j < rk A n → ∃ i : Nat, i < n ∧ ¬ A i = 0 ∧ rk A i = j
  | 0, j, h1, h2 => by
    have : rk A 0 = 0 := rfl
    omega
  | n + 1, j, h1, h2 => by
    by_cases hA : A n = 0
    · rw [rk_z hA] at h2
      obtain ⟨i, q1, q2, q3⟩ := rk_sur (A := A) n j h1 h2
      exact ⟨i, by omega, q2, q3⟩
    · rw [rk_s hA] at h2
      by_cases g : j = rk A n
      · exact ⟨n, by omega, hA, g.symm⟩
      · obtain ⟨i, q1, q2, q3⟩ := rk_sur (A := A) n j h1 (by omega)
        exact ⟨i, by omega, q2, q3⟩
/-! the class drops the settled ones -/
def dropR (H H' : hR) : Prop := (∀ t a b : Int, ¬ t = 5 → ¬ (t = 4 ∧ a = 2 ∧ b = 0) → H'.1 t a b = H.1 t a b) ∧ H'.2 = H.2 ∧ H'.1 4 2 0 = rk (H.1 5 1) (H.1 4 2 0).toNat ∧ ∀ i : Nat, (i : Int) < H.1 4 2 0 → ¬ H.1 5 1 i = 0 → ∀ c : Int, 0 ≤ c ∧ c < 5 → H'.1 5 c (rk (H.1 5 1) i) = H.1 5 c i
theorem ec_drop_b28 {rec : Int → Int → hR → Option (Unit × hR)} {x1 x2 R : Int} (hx : 0 ≤ x1 ∧ x1 ≤ x2 ∧ x2 < R ∧ R ≤ 2147483647) : ∀ (k fuel : Nat) (x3 : Int) (H : hR), x3 + k = 5 → 0 ≤ x3 → k < fuel → H.1 4 1 0 = R →
    ∃ H', fX5_dropSettled_b28 rec fuel x1 x2 x3 H = rec (x1 + 1) (x2 + 1) H' ∧ (∀ c b : Int, H'.1 5 c b = if x3 ≤ c ∧ c < 5 ∧ b = x1 then H.1 5 c x2 else H.1 5 c b) ∧ (∀ t a b : Int, ¬ t = 5 → H'.1 t a b = H.1 t a b) ∧ H'.2 = H.2
  | k, 0, _, _, _, _, h, _ => by omega
  | 0, fuel + 1, x3, H, h1, h2, _, h4 => by
    refine ⟨H, ?_, fun c b => (if_neg (by omega)).symm, fun _ _ _ _ => rfl, rfl⟩
    unfold fX5_dropSettled_b28
    rw [gd_pos (by omega), if_pos (by omega)]
  | k + 1, fuel + 1, x3, H, h1, h2, h3, h4 => by
    obtain ⟨H', q1, q2, q3, q4⟩ := ec_drop_b28 (rec := rec) hx k fuel (x3 + 1) (hS H 5 x3 x1 (H.1 5 x3 x2)) (by omega) (by omega) (by omega) ((hS_n H (by omega)).trans h4)
    refine ⟨H', ?_, fun c b => ?_, fun t a b h => ?_, q4⟩
    · unfold fX5_dropSettled_b28
      rw [gd_pos (by omega), if_neg (by omega), gd_pos (by omega), gd_pos (by omega), h4, gd_pos (by omega), gd_pos (by omega), bnd_eq]
      exact q1
    · rw [q2]
      by_cases g : x3 + 1 ≤ c ∧ c < 5 ∧ b = x1
      · rw [if_pos g, if_pos (show x3 ≤ c ∧ c < 5 ∧ b = x1 by omega), hS_n H (by omega)]
      · rw [if_neg g]
        by_cases g2 : c = x3 ∧ b = x1
        · rw [if_pos (show x3 ≤ c ∧ c < 5 ∧ b = x1 by omega), g2.1, g2.2, hS_p]
        · rw [if_neg (show ¬ (x3 ≤ c ∧ c < 5 ∧ b = x1) by omega), hS_n H (by omega)]
    · rw [q3 t a b h, hS_n H (by omega)]
theorem ec_drop_b4 {H0 : hR} {n : Nat} (hn : H0.1 4 2 0 = n) (hR' : H0.1 4 2 0 ≤ H0.1 4 1 0 ∧ H0.1 4 1 0 ≤ 16384) (hA : ∀ i : Int, 0 ≤ i ∧ i < n → wR (H0.1 5 1 i)) : ∀ (k fuel i : Nat) (H : hR), i + k = n → k < fuel →
    (∀ t a b : Int, ¬ t = 5 → H.1 t a b = H0.1 t a b) → H.2 = H0.2 → (∀ c b : Int, 0 ≤ c ∧ c < 5 → rk (H0.1 5 1) i ≤ b → H.1 5 c b = H0.1 5 c b) → (∀ j : Nat, j < i → ¬ H0.1 5 1 j = 0 → ∀ c : Int, 0 ≤ c ∧ c < 5 → H.1 5 c (rk (H0.1 5 1) j) = H0.1 5 c j) →
    ∃ H', fX5_dropSettled_b4 fuel (rk (H0.1 5 1) i) i H = some ((), H') ∧ dropR H0 H'
  | k, 0, _, _, _, h, _, _, _, _ => by omega
  | 0, fuel + 1, i, H, h1, _, e1, e2, e3, e4 => by
    have e42 := e1 4 2 0 (by decide)
    refine ⟨hS H 4 2 0 (rk (H0.1 5 1) i), po_eq ?_, ⟨fun t a b g1 g2 => ?_, e2, ?_, fun j hj hA' c hc => ?_⟩⟩
    · unfold fX5_dropSettled_b4
      exact po_gd (by omega) (po_ift (by omega) (po_bnd (po_some rfl)))
    · rw [hS_n H (by omega)]; exact e1 t a b g1
    · rw [hS_p, show (H0.1 4 2 0).toNat = i by omega]
    · rw [hS_n H (by omega)]
      exact e4 j (by omega) hA' c hc
  | k + 1, fuel + 1, i, H, h1, h2, e1, e2, e3, e4 => by
    have e42 := e1 4 2 0 (by decide)
    have e41 := e1 4 1 0 (by decide)
    have hr := rk_rng (A := H0.1 5 1) i
    have ea : H.1 5 1 i = H0.1 5 1 i := e3 1 i (by decide) hr.2
    have hw := hA i (by omega)
    unfold fX5_dropSettled_b4
    rw [gd_pos (by omega), if_neg (by omega), gd_pos (by omega), ea, gd_pos hw]
    by_cases g : H0.1 5 1 i = 0
    · rw [if_pos g]
      have := ec_drop_b4 hn hR' hA k fuel (i + 1) H (by omega) (by omega) e1 e2 (fun c b hc hb => e3 c b hc (by rw [rk_z g] at hb; exact hb)) (fun j hj hA' => by
        by_cases q : j = i
        · subst q; exact absurd g hA'
        · exact e4 j (by omega) hA')
      rw [rk_z g] at this
      exact this
    · rw [if_neg g]
      obtain ⟨H1, q1, q2, q3, q4⟩ := ec_drop_b28 (rec := fX5_dropSettled_b4 fuel) (x1 := rk (H0.1 5 1) i) (x2 := i) (R := H0.1 4 1 0) (by omega) 5 fuel0 0 H (by decide) (by decide) (by decide) e41
      rw [q1]
      have := ec_drop_b4 hn hR' hA k fuel (i + 1) H1 (by omega) (by omega) (fun t a b h => (q3 t a b h).trans (e1 t a b h)) (q4.trans e2) (fun c b hc hb => by
        rw [rk_s g] at hb
        rw [q2, if_neg (by omega)]
        exact e3 c b hc (by omega)) (fun j hj hA' c hc => by
        by_cases q : j = i
        · subst q
          rw [q2, if_pos ⟨hc.1, hc.2, rfl⟩]
          exact e3 c j hc hr.2
        · have := rk_lt (A := H0.1 5 1) (n := j) (k := i) (by omega) hA'
          rw [q2, if_neg (by omega)]
          exact e4 j (by omega) hA' c hc)
      rw [rk_s g] at this
      exact this
theorem ec_drop {H : hR} (hk : okN H) (hA : ∀ i : Int, 0 ≤ i ∧ i < H.1 4 2 0 → wR (H.1 5 1 i)) : ∃ H', fX5_dropSettled H = some ((), H') ∧ dropR H H' := by
  unfold okN at hk
  have hr := roomOK_rng hk.2.2.2.2
  exact ec_drop_b4 (n := (H.1 4 2 0).toNat) (by omega) (by omega) (fun i hi => hA i (by omega)) (H.1 4 2 0).toNat fuel0 0 H (by omega) (by show _ < 1000000; omega) (fun _ _ _ _ => rfl) rfl (fun _ _ _ _ => rfl) (fun j hj => by omega)
/-! the reference takes a row out -/
theorem em_rem_b12 {n : Int} (hn : 0 ≤ n ∧ n ≤ 8399) : ∀ (k fuel : Nat) (i : Int) (m : mR), i + k = n → 0 ≤ i → k < fuel → m.1 0 4 = n →
    ∃ m', fX7_removes_b12 fuel i m = some ((), m') ∧ (∀ j : Int, m'.1 1 j = if i ≤ j ∧ j < n then m.1 1 (j + 1) else m.1 1 j) ∧ (∀ t : Int, ¬ t = 1 → m'.1 t = m.1 t) ∧ m'.2 = m.2
  | k, 0, _, _, _, _, h, _ => by omega
  | 0, fuel + 1, i, m, h1, h2, _, h4 => by
    refine ⟨m, po_eq ?_, fun j => (if_neg (by omega)).symm, fun _ _ => rfl, rfl⟩
    unfold fX7_removes_b12
    exact po_gd (by omega) (po_gd (by omega) (po_ift (by omega) (po_some rfl)))
  | k + 1, fuel + 1, i, m, h1, h2, h3, h4 => by
    obtain ⟨m', q1, q2, q3, q4⟩ := em_rem_b12 hn k fuel (i + 1) (mS m 1 i (m.1 1 (i + 1))) (by omega) (by omega) (by omega) ((mS_n m (by omega)).trans h4)
    refine ⟨m', ?_, fun j => ?_, fun t ht => (q3 t ht).trans (mS_t m _ _ ht), q4⟩
    · unfold fX7_removes_b12
      rw [gd_pos (by omega), gd_pos (by omega), if_neg (by omega), gd_pos (by omega), gd_pos (by omega), bnd_eq]
      exact q1
    · rw [q2]
      by_cases g : i + 1 ≤ j ∧ j < n
      · rw [if_pos g, if_pos (show i ≤ j ∧ j < n by omega), mS_n m (by omega)]
      · rw [if_neg g]
        by_cases g2 : j = i
        · subst g2
          rw [if_pos (by omega), mS_p]
        · rw [if_neg (by omega), mS_n m (by omega)]
theorem em_removes {m : mR} {p : Int} (hp : 0 ≤ p ∧ p < m.1 0 4) (hn : m.1 0 4 ≤ 8400) : ∃ m', fX7_removes p m = some ((), m') ∧ (∀ j : Int, m'.1 1 j = if p ≤ j ∧ j < m.1 0 4 - 1 then m.1 1 (j + 1) else m.1 1 j) ∧ m'.1 0 = up1 (m.1 0) 4 (m.1 0 4 - 1) ∧ (∀ t : Int, ¬ t = 0 → ¬ t = 1 → m'.1 t = m.1 t) ∧ m'.2 = m.2 := by
  obtain ⟨m', q1, q2, q3, q4⟩ := em_rem_b12 (n := m.1 0 4 - 1) (by omega) (m.1 0 4 - 1 - p).toNat fuel0 p (mS m 0 4 (m.1 0 4 - 1)) (by omega) (by omega) (by show _ < 1000000; omega) (mS_p _ _ _ _)
  refine ⟨m', ?_, fun j => ?_, (q3 0 (by decide)).trans (mS_0 m _ _), fun t h0 h1 => (q3 t h1).trans (mS_t m _ _ h0), q4⟩
  · unfold fX7_removes
    rw [bnd_eq]
    exact q1
  · rw [q2 j, mS_n m (by omega), mS_n m (by omega)]
/-! both lists -/
def corV (H : hR) (W : Int → Int) (n : Int) (x : Int → Int) : Prop := n = rk (H.1 5 1) (H.1 4 2 0).toNat ∧ ∀ i : Nat, (i : Int) < H.1 4 2 0 → ¬ H.1 5 1 i = 0 → W (rk (H.1 5 1) i) = pkW (H.1 5 0 i) (H.1 5 1 i) (H.1 5 2 i) (H.1 5 3 i) (H.1 5 4 i) (x i)
theorem corV_of {H : hR} {W : Int → Int} {n : Int} (h : corW H W n) (hn : n = H.1 4 2 0) (h0 : 0 ≤ n) (hA : ∀ i : Int, 0 ≤ i ∧ i < n → ¬ H.1 5 1 i = 0) : corV H W n (fun _ => 0) := by
  have e : ∀ k : Nat, (k : Int) ≤ n → rk (H.1 5 1) k = k := fun k hk => rk_all k (fun i hi => hA i (by omega))
  refine ⟨?_, fun i hi hA' => ?_⟩
  · rw [e _ (by omega)]
    omega
  · rw [e i (by omega)]
    exact h i (by omega)
theorem dropR.corW {H H' : hR} {W : Int → Int} {n : Int} (h : dropR H H') (hs : 0 ≤ H.1 4 2 0) (hv : corV H W n (fun _ => 0)) : corW H' W n ∧ n = H'.1 4 2 0 := by
  obtain ⟨h1, h2, h3, h4⟩ := h
  obtain ⟨v1, v2⟩ := hv
  refine ⟨fun j hj => ?_, v1.trans h3.symm⟩
  rw [v1] at hj
  obtain ⟨i, q1, q2, q3⟩ := rk_sur _ j hj.1 hj.2
  rw [← q3, v2 i (by omega) q2, h4 i (by omega) q2 0 (by decide), h4 i (by omega) q2 1 (by decide), h4 i (by omega) q2 2 (by decide), h4 i (by omega) q2 3 (by decide), h4 i (by omega) q2 4 (by decide)]
/-- an order's waiting ones that aren't settled -/
def cntV (H : hR) (o : Int) : Nat → Int
  | 0 => 0
  | n + 1 => cntV H o n + (if H.1 5 0 n = o ∧ ¬ H.1 5 1 n = 0 then 1 else 0)
theorem cntV_s {H : hR} {o : Int} {n : Nat} : cntV H o (n + 1) = cntV H o n + (if H.1 5 0 n = o ∧ ¬ H.1 5 1 n = 0 then 1 else 0) := rfl
theorem cntW_s {H : hR} {o : Int} {n : Nat} : cntW H o (n + 1) = cntW H o n + (if H.1 5 0 n = o then 1 else 0) := rfl
theorem sumW_s {H : hR} {a : Int} {n : Nat} : sumW H a (n + 1) = sumW H a n + (if H.1 3 (H.1 5 0 n) 0 = a then H.1 5 1 n else 0) := rfl
theorem sumF_s {H : hR} {f : Int} {n : Nat} : sumF H f (n + 1) = sumF H f n + H.1 3 n f := rfl
theorem cntV_of {H : hR} {o : Int} : ∀ n : Nat, (∀ i : Nat, i < n → ¬ H.1 5 1 i = 0) → cntV H o n = cntW H o n
  | 0, _ => rfl
  | n + 1, h => by
    unfold cntV cntW
    rw [cntV_of n (fun i hi => h i (by omega))]
    by_cases g : H.1 5 0 n = o
    · rw [if_pos ⟨g, h n (by omega)⟩, if_pos g]
    · rw [if_neg (fun q => g q.1), if_neg g]
theorem cntV_fr {H H' : hR} {o : Int} : ∀ n : Nat, (∀ i : Nat, i < n → H'.1 5 0 i = H.1 5 0 i ∧ H'.1 5 1 i = H.1 5 1 i) → cntV H' o n = cntV H o n
  | 0, _ => rfl
  | n + 1, h => by
    unfold cntV
    rw [cntV_fr n (fun i hi => h i (by omega)), (h n (by omega)).1, (h n (by omega)).2]
theorem cntV_up {H H' : hR} {o : Int} {p : Nat} (hA : ¬ H.1 5 1 p = 0) (h0 : ∀ i : Int, H'.1 5 0 i = H.1 5 0 i) (h1 : H'.1 5 1 = up1 (H.1 5 1) p 0) : ∀ n : Nat, cntV H' o n = cntV H o n - (if p < n ∧ H.1 5 0 p = o then 1 else 0)
  | 0 => by unfold cntV; simp
  | n + 1 => by
    have ih := cntV_up (o := o) hA h0 h1 n
    show cntV H' o n + _ = cntV H o n + _ - _
    rw [ih, h0, h1]
    by_cases h : n = p
    · subst h
      rw [up1_p]
      by_cases g : H.1 5 0 n = o <;> simp [g, hA]
    · rw [up1_n _ _ (by omega)]
      by_cases g : p < n
      · by_cases g2 : H.1 5 0 p = o
        · rw [if_pos (show p < n ∧ H.1 5 0 p = o from ⟨g, g2⟩), if_pos (show p < n + 1 ∧ H.1 5 0 p = o from ⟨by omega, g2⟩)]
          omega
        · rw [if_neg (fun q => g2 q.2), if_neg (show ¬ (p < n + 1 ∧ H.1 5 0 p = o) from fun q => g2 q.2)]
          omega
      · rw [if_neg (fun q => g q.1), if_neg (show ¬ (p < n + 1 ∧ H.1 5 0 p = o) from fun q => by omega)]
        omega
theorem sumW_up {H H' : hR} {a : Int} {p : Nat} (h0 : ∀ i : Int, H'.1 5 0 i = H.1 5 0 i) (h3 : ∀ o : Int, H'.1 3 o 0 = H.1 3 o 0) (h1 : H'.1 5 1 = up1 (H.1 5 1) p 0) : ∀ n : Nat, sumW H' a n = sumW H a n - (if p < n ∧ H.1 3 (H.1 5 0 p) 0 = a then H.1 5 1 p else 0)
  | 0 => by unfold sumW; simp
  | n + 1 => by
    have ih := sumW_up (a := a) h0 h3 h1 n
    show sumW H' a n + _ = sumW H a n + _ - _
    rw [ih, h0, h3, h1]
    by_cases h : n = p
    · subst h
      rw [up1_p]
      by_cases g : H.1 3 (H.1 5 0 n) 0 = a <;> simp [g]
    · rw [up1_n _ _ (by omega)]
      by_cases g : p < n
      · by_cases g2 : H.1 3 (H.1 5 0 p) 0 = a
        · rw [if_pos (show p < n ∧ H.1 3 (H.1 5 0 p) 0 = a from ⟨g, g2⟩), if_pos (show p < n + 1 ∧ H.1 3 (H.1 5 0 p) 0 = a from ⟨by omega, g2⟩)]
          omega
        · rw [if_neg (fun q => g2 q.2), if_neg (show ¬ (p < n + 1 ∧ H.1 3 (H.1 5 0 p) 0 = a) from fun q => g2 q.2)]
          omega
      · rw [if_neg (fun q => g q.1), if_neg (show ¬ (p < n + 1 ∧ H.1 3 (H.1 5 0 p) 0 = a) from fun q => by omega)]
        omega
theorem dropR.sum {H H' : hR} (h : dropR H H') {a : Int} : ∀ n : Nat, (n : Int) ≤ H.1 4 2 0 → sumW H' a (rk (H.1 5 1) n).toNat = sumW H a n
  | 0, _ => rfl
  | n + 1, hn => by
    have ih := dropR.sum h (a := a) n (by omega)
    obtain ⟨h1, h2, h3, h4⟩ := h
    have hr := rk_rng (A := H.1 5 1) n
    by_cases hA : H.1 5 1 n = 0
    · rw [rk_z hA, ih, sumW_s, hA]
      simp
    · have e : ((rk (H.1 5 1) n).toNat : Int) = rk (H.1 5 1) n := by omega
      rw [rk_s hA, show (rk (H.1 5 1) n + 1).toNat = (rk (H.1 5 1) n).toNat + 1 by omega]
      rw [sumW_s, sumW_s, ih, e, h4 n (by omega) hA 0 (by decide), h4 n (by omega) hA 1 (by decide), h1 3 _ 0 (by omega) (by omega)]
theorem dropR.cnt {H H' : hR} (h : dropR H H') {o : Int} : ∀ n : Nat, (n : Int) ≤ H.1 4 2 0 → cntW H' o (rk (H.1 5 1) n).toNat = cntV H o n
  | 0, _ => rfl
  | n + 1, hn => by
    have ih := dropR.cnt h (o := o) n (by omega)
    obtain ⟨h1, h2, h3, h4⟩ := h
    have hr := rk_rng (A := H.1 5 1) n
    by_cases hA : H.1 5 1 n = 0
    · rw [rk_z hA, ih, cntV_s, if_neg (fun q => q.2 hA)]
      omega
    · have e : ((rk (H.1 5 1) n).toNat : Int) = rk (H.1 5 1) n := by omega
      rw [rk_s hA, show (rk (H.1 5 1) n + 1).toNat = (rk (H.1 5 1) n).toNat + 1 by omega]
      rw [cntV_s, cntW_s, ih, e, h4 n (by omega) hA 0 (by decide)]
      by_cases g : H.1 5 0 n = o
      · rw [if_pos g, if_pos ⟨g, hA⟩]
      · rw [if_neg g, if_neg (fun q => g q.1)]
/-- entries, some of them settled -/
def okV (H : hR) : Prop := (∀ i : Int, 0 ≤ i ∧ i < H.1 4 2 0 → (0 ≤ H.1 5 0 i ∧ H.1 5 0 i < H.1 0 5 0) ∧ (0 ≤ H.1 5 1 i ∧ H.1 5 1 i ≤ 1000000) ∧ (0 ≤ H.1 5 2 i ∧ H.1 5 2 i ≤ 1094) ∧ (0 ≤ H.1 5 3 i ∧ H.1 5 3 i ≤ 1094) ∧ (0 ≤ H.1 5 4 i ∧ (¬ H.1 5 1 i = 0 → H.1 5 4 i ≤ 8) ∧ H.1 5 4 i ≤ 9)) ∧
  ∀ i j : Int, 0 ≤ i → i < j → j < H.1 4 2 0 → H.1 5 3 i < H.1 5 3 j ∨ (H.1 5 3 i = H.1 5 3 j ∧ H.1 5 0 i ≤ H.1 5 0 j)
theorem okV_of {H : hR} (h : okW H) : okV H := by
  refine ⟨fun i hi => ?_, h.2⟩
  have := h.1 i hi
  omega
theorem dropR.okW {H H' : hR} (h : dropR H H') (hs : 0 ≤ H.1 4 2 0) (hv : okV H) : okW H' := by
  obtain ⟨h1, h2, h3, h4⟩ := h
  have key : ∀ j : Int, 0 ≤ j ∧ j < H'.1 4 2 0 → ∃ i : Nat, (i : Int) < H.1 4 2 0 ∧ ¬ H.1 5 1 i = 0 ∧ rk (H.1 5 1) i = j ∧ ∀ c : Int, 0 ≤ c ∧ c < 5 → H'.1 5 c j = H.1 5 c i := by
    intro j hj
    rw [h3] at hj
    obtain ⟨i, q1, q2, q3⟩ := rk_sur _ j hj.1 hj.2
    exact ⟨i, by omega, q2, q3, fun c hc => by rw [← q3]; exact h4 i (by omega) q2 c hc⟩
  have e5 : H'.1 0 5 0 = H.1 0 5 0 := h1 _ _ _ (by decide) (by decide)
  refine ⟨fun j hj => ?_, fun j k hj hjk hk => ?_⟩
  · obtain ⟨i, q1, q2, q3, q4⟩ := key j hj
    rw [q4 0 (by decide), q4 1 (by decide), q4 2 (by decide), q4 3 (by decide), q4 4 (by decide), e5]
    have := hv.1 i (by omega)
    omega
  · obtain ⟨i, q1, q2, q3, q4⟩ := key j (by omega)
    obtain ⟨i', r1, r2, r3, r4⟩ := key k (by omega)
    rw [q4 0 (by decide), q4 3 (by decide), r4 0 (by decide), r4 3 (by decide)]
    have : i < i' := by
      by_cases g : i < i'
      · exact g
      · have := rk_le (A := H.1 5 1) (n := i') (k := i) (by omega)
        omega
    exact hv.2 i i' (by omega) (by omega) r1

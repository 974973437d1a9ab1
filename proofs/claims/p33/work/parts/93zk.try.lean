/-! ===== one payment is tried, in step ===== -/
theorem stl_c (H : hR) (p t a b : Int) : (stl H p).1 t a b = if t = 5 ∧ a = 1 ∧ b = p then 0 else if t = 2 ∧ a = H.1 3 (H.1 5 0 p) 0 ∧ b = 11 then H.1 2 (H.1 3 (H.1 5 0 p) 0) 11 - H.1 5 1 p else if t = 3 ∧ a = H.1 5 0 p ∧ b = 15 then H.1 3 (H.1 5 0 p) 15 - 1 else H.1 t a b := rfl
theorem Mid.failS {F : Int} {x : Int → Int} {H : hR} {m : mR} (h : Mid F x H m) (v w : Int) : Mid (F + 1) x (hS (hS H 0 10 0 (H.1 0 10 0 + 1)) 0 11 0 v) (mS (mS m 0 8 (m.1 0 8 + 1)) 6 8 w) := by
  obtain ⟨⟨c1, c2, c3, c4, c5⟩, t, k1, k2, k3, k4, k5, k6⟩ := h
  have k1' := k1
  unfold okN at k1'
  obtain ⟨g1, g2, g3, g4, g6, g7, g8, g9, g10⟩ := c1
  have n : ∀ k : Int, ¬ k = 8 → (mS (mS m 0 8 (m.1 0 8 + 1)) 6 8 w).1 0 k = m.1 0 k := fun k q => by rw [mS_n _ (by omega), mS_n _ (by omega)]
  have e : ∀ t x y : Int, ¬ (t = 0 ∧ x = 10 ∧ y = 0) → ¬ (t = 0 ∧ x = 11 ∧ y = 0) → (hS (hS H 0 10 0 (H.1 0 10 0 + 1)) 0 11 0 v).1 t x y = H.1 t x y := fun t x y q r => by rw [hS_n _ r, hS_n _ q]
  have e10 : (hS (hS H 0 10 0 (H.1 0 10 0 + 1)) 0 11 0 v).1 0 10 0 = H.1 0 10 0 + 1 := by rw [hS_n _ (by omega), hS_p]
  refine ⟨⟨⟨?_, ?_, ?_, ?_, ?_, ?_, ?_, ?_, ?_⟩, c2.fr (fun x => e _ _ _ (by omega) (by omega)) (fun k q => n k (by omega)), c3.fr (fun a f q => e _ _ _ (by omega) (by omega)) (fun a => rfl) (fun k q => n k (by omega)) (fun a => rfl) (by omega), c4.fr (fun o y q => e _ _ _ (by omega) (by omega)) (fun k q => n k (by omega)) (by omega), c5.fr (e _ _ _ (by omega) (by omega)) (fun c i => e _ _ _ (by omega) (by omega)) (by rw [mS_t _ _ _ (by omega), mS_t _ _ _ (by omega)]) (n 4 (by omega))⟩, t.fr (e _ _ _ (by omega) (by omega)) (fun o y q => e _ _ _ (by omega) (by omega)) (fun k q => n k (by omega)), k1.fr (e _ _ _ (by omega) (by omega)) (e _ _ _ (by omega) (by omega)) (e _ _ _ (by omega) (by omega)) (e _ _ _ (by omega) (by omega)), ?_, k3.fr (e _ _ _ (by omega) (by omega)) (fun x y q => e _ _ _ (by omega) (by omega)), k4.fr (e _ _ _ (by omega) (by omega)) (e _ _ _ (by omega) (by omega)) (fun o y q => e _ _ _ (by omega) (by omega)), k5.fr (e _ _ _ (by omega) (by omega)) (e _ _ _ (by omega) (by omega)) (fun c i => e _ _ _ (by omega) (by omega)), k6.fr (e _ _ _ (by omega) (by omega)) (e _ _ _ (by omega) (by omega)) (e _ _ _ (by omega) (by omega)) (fun c i => e _ _ _ (by omega) (by omega)) (fun x => e _ _ _ (by omega) (by omega)) (fun o y => e _ _ _ (by omega) (by omega))⟩
  · rw [n _ (by omega), e _ _ _ (by omega) (by omega)]; exact g1
  · rw [n _ (by omega), e _ _ _ (by omega) (by omega)]; exact g2
  · rw [n _ (by omega), e _ _ _ (by omega) (by omega)]; exact g3
  · rw [n _ (by omega), e _ _ _ (by omega) (by omega)]; exact g4
  · rw [mS_n _ (by omega), mS_p, e10, g6]
  · rw [n _ (by omega), e _ _ _ (by omega) (by omega)]; exact g7
  · rw [n _ (by omega), e _ _ _ (by omega) (by omega)]; exact g8
  · rw [n _ (by omega), e _ _ _ (by omega) (by omega)]; exact g9
  · rw [n _ (by omega), e _ _ _ (by omega) (by omega)]; exact g10
  · unfold okS4 at *
    rw [e10, e 0 6 0 (by omega) (by omega), e 0 7 0 (by omega) (by omega), e 0 8 0 (by omega) (by omega), e 0 9 0 (by omega) (by omega), e 1 2 0 (by omega) (by omega)]
    omega
/-- an entry that is settled: its tries don't count any more -/
theorem Mid.f9 {F p : Int} {x x' : Int → Int} {H H' : hR} {m : mR} (h : Mid F x H m) (hA : H.1 5 1 p = 0) (hH : ∀ t a b : Int, ¬ (t = 5 ∧ a = 4 ∧ b = p) → H'.1 t a b = H.1 t a b) (hD : H'.2 = H.2) (hf : 0 ≤ H'.1 5 4 p ∧ H'.1 5 4 p ≤ 9) (hx : ∀ i : Int, ¬ i = p → x' i = x i) : Mid F x' H' m := by
  obtain ⟨⟨c1, c2, c3, c4, c5⟩, t, k1, k2, k3, k4, k5, k6⟩ := h
  have k1' := k1
  unfold okN at k1'
  have g2 := c1.2.1
  have g3 := c1.2.2.1
  have e5 : H'.1 5 1 = H.1 5 1 := funext (fun i => hH _ _ _ (by omega))
  refine ⟨⟨c1.fr (fun t x q => hH _ _ _ (by omega)) (fun k q => rfl), c2.fr (fun x => hH _ _ _ (by omega)) (fun k q => rfl), c3.fr (fun a f q => hH _ _ _ (by omega)) (fun a => by rw [hD]) (fun k q => rfl) (fun a => rfl) (by omega), c4.fr (fun o y q => hH _ _ _ (by omega)) (fun k q => rfl) (by omega), ⟨?_, fun i hi hA' => ?_⟩⟩, t.fr (hH _ _ _ (by omega)) (fun o y q => hH _ _ _ (by omega)) (fun k q => rfl), k1.fr (hH _ _ _ (by omega)) (hH _ _ _ (by omega)) (hH _ _ _ (by omega)) (hH _ _ _ (by omega)), k2.fr (fun t x q => hH _ _ _ (by omega)), k3.fr (hH _ _ _ (by omega)) (fun x y q => hH _ _ _ (by omega)), k4.fr (hH _ _ _ (by omega)) (hH _ _ _ (by omega)) (fun o y q => hH _ _ _ (by omega)), ⟨fun i hi => ?_, fun i j a b c => ?_⟩, ⟨fun a q => ?_, fun o q => ?_⟩⟩
  · rw [e5, hH 4 2 0 (by omega)]; exact c5.1
  · rw [hH 4 2 0 (by omega)] at hi
    rw [e5] at hA' ⊢
    have hip : ¬ (i : Int) = p := fun q => hA' (by rw [q]; exact hA)
    rw [hH 5 0 i (by omega), hH 5 2 i (by omega), hH 5 3 i (by omega), hH 5 4 i (by omega), hx _ hip]
    exact c5.2 i hi hA'
  · rw [hH 4 2 0 (by omega)] at hi
    have := k5.1 i hi
    rw [hH 5 0 i (by omega), hH 5 1 i (by omega), hH 5 2 i (by omega), hH 5 3 i (by omega), hH 0 5 0 (by omega)]
    by_cases q : i = p
    · subst q
      omega
    · rw [hH 5 4 i (by omega)]
      exact this
  · rw [hH 4 2 0 (by omega)] at c
    rw [hH 5 0 i (by omega), hH 5 3 i (by omega), hH 5 0 j (by omega), hH 5 3 j (by omega)]
    exact k5.2 i j a b c
  · rw [hH 0 4 0 (by omega)] at q
    rw [hH 2 a 11 (by omega), hH 4 2 0 (by omega), k6.1 a q]
    have : ∀ n : Nat, sumW H' a n = sumW H a n := fun n => by
      induction n with
      | zero => rfl
      | succ n ih => rw [sumW_s, sumW_s, ih, hH 5 0 n (by omega), hH 5 1 n (by omega), hH 3 _ 0 (by omega)]
    rw [this]
  · rw [hH 0 5 0 (by omega)] at q
    rw [hH 3 o 15 (by omega), hH 4 2 0 (by omega), k6.2 o q, cntV_fr (H := H) _ (fun i _ => ⟨hH _ _ _ (by omega), hH _ _ _ (by omega)⟩)]
/-- an entry that goes on waiting: tried today, failed once more -/
theorem Mid.tag {F : Int} {x : Int → Int} {H : hR} {m : mR} {p : Nat} (h : Mid F x H m) (hp : (p : Int) < H.1 4 2 0) (hA : ¬ H.1 5 1 p = 0) (hf : H.1 5 4 p + 1 ≤ 8) : Mid F (up1 x p 1) (hS H 5 4 p (H.1 5 4 p + 1)) (mS m 1 (rk (H.1 5 1) p) (pkW (H.1 5 0 p) (H.1 5 1 p) (H.1 5 2 p) (H.1 5 3 p) (H.1 5 4 p + 1) 1)) := by
  obtain ⟨⟨c1, c2, c3, c4, c5⟩, t, k1, k2, k3, k4, k5, k6⟩ := h
  have k1' := k1
  unfold okN at k1'
  have g2 := c1.2.1
  have g3 := c1.2.2.1
  have hH : ∀ t a b : Int, ¬ (t = 5 ∧ a = 4 ∧ b = p) → (hS H 5 4 p (H.1 5 4 p + 1)).1 t a b = H.1 t a b := fun t a b q => hS_n H q
  have n : ∀ k : Int, (mS m 1 (rk (H.1 5 1) p) (pkW (H.1 5 0 p) (H.1 5 1 p) (H.1 5 2 p) (H.1 5 3 p) (H.1 5 4 p + 1) 1)).1 0 k = m.1 0 k := fun k => mS_n m (by omega)
  have e5 : (hS H 5 4 p (H.1 5 4 p + 1)).1 5 1 = H.1 5 1 := funext (fun i => hH _ _ _ (by omega))
  refine ⟨⟨c1.fr (fun t x q => hH _ _ _ (by omega)) (fun k q => n k), c2.fr (fun x => hH _ _ _ (by omega)) (fun k q => n k), c3.fr (fun a f q => hH _ _ _ (by omega)) (fun a => rfl) (fun k q => n k) (fun a => rfl) (by omega), c4.fr (fun o y q => hH _ _ _ (by omega)) (fun k q => n k) (by omega), ⟨?_, fun i hi hA' => ?_⟩⟩, t.fr (hH _ _ _ (by omega)) (fun o y q => hH _ _ _ (by omega)) (fun k q => n k), k1.fr (hH _ _ _ (by omega)) (hH _ _ _ (by omega)) (hH _ _ _ (by omega)) (hH _ _ _ (by omega)), k2.fr (fun t x q => hH _ _ _ (by omega)), k3.fr (hH _ _ _ (by omega)) (fun x y q => hH _ _ _ (by omega)), k4.fr (hH _ _ _ (by omega)) (hH _ _ _ (by omega)) (fun o y q => hH _ _ _ (by omega)), ⟨fun i hi => ?_, fun i j a b c => ?_⟩, ⟨fun a q => ?_, fun o q => ?_⟩⟩
  · rw [e5, hH 4 2 0 (by omega), n]; exact c5.1
  · rw [hH 4 2 0 (by omega)] at hi
    rw [e5] at hA' ⊢
    by_cases hip : (i : Int) = p
    · have hip' : i = p := by omega
      subst hip'
      rw [mS_p, hH 5 0 i (by omega), hH 5 2 i (by omega), hH 5 3 i (by omega), hS_p, up1_p]
    · have hne : ¬ rk (H.1 5 1) i = rk (H.1 5 1) p := by
        by_cases q : i < p
        · have := rk_lt (A := H.1 5 1) q hA'
          omega
        · have := rk_lt (A := H.1 5 1) (n := p) (k := i) (by omega) hA
          omega
      rw [mS_n m (by omega), hH 5 0 i (by omega), hH 5 2 i (by omega), hH 5 3 i (by omega), hH 5 4 i (by omega), up1_n _ _ hip]
      exact c5.2 i hi hA'
  · rw [hH 4 2 0 (by omega)] at hi
    have := k5.1 i hi
    rw [hH 5 0 i (by omega), hH 5 1 i (by omega), hH 5 2 i (by omega), hH 5 3 i (by omega), hH 0 5 0 (by omega)]
    by_cases q : i = p
    · subst q
      rw [hS_p]
      omega
    · rw [hH 5 4 i (by omega)]
      exact this
  · rw [hH 4 2 0 (by omega)] at c
    rw [hH 5 0 i (by omega), hH 5 3 i (by omega), hH 5 0 j (by omega), hH 5 3 j (by omega)]
    exact k5.2 i j a b c
  · rw [hH 0 4 0 (by omega)] at q
    rw [hH 2 a 11 (by omega), hH 4 2 0 (by omega), k6.1 a q]
    have : ∀ n : Nat, sumW (hS H 5 4 p (H.1 5 4 p + 1)) a n = sumW H a n := fun n => by
      induction n with
      | zero => rfl
      | succ n ih => rw [sumW_s, sumW_s, ih, hH 5 0 n (by omega), hH 5 1 n (by omega), hH 3 _ 0 (by omega)]
    rw [this]
  · rw [hH 0 5 0 (by omega)] at q
    rw [hH 3 o 15 (by omega), hH 4 2 0 (by omega), k6.2 o q, cntV_fr (H := H) _ (fun i _ => ⟨hH _ _ _ (by omega), hH _ _ _ (by omega)⟩)]
/-- what a try leaves as it is -/
def payF (p : Int) (H H' : hR) : Prop := (∀ t a b : Int, ¬ (t = 2 ∧ 3 ≤ b) → ¬ (t = 3 ∧ (b = 12 ∨ b = 13 ∨ b = 15)) → ¬ (t = 0 ∧ (a = 10 ∨ a = 11)) → ¬ (t = 5 ∧ b = p ∧ (a = 1 ∨ a = 4)) → H'.1 t a b = H.1 t a b) ∧ H'.2 = H.2 ∧ (H'.1 5 1 p = 0 ∨ (H'.1 5 1 p = H.1 5 1 p ∧ H'.1 5 4 p = H.1 5 4 p + 1))
def rowsP (m m' : mR) : Prop := (∀ t : Int, ¬ t = 0 → ¬ t = 1 → ¬ t = 6 → m'.1 t = m.1 t) ∧ m'.2 = m.2 ∧ ∀ k : Int, ¬ k = 8 → m'.1 6 k = m.1 6 k
/-- the day's failed payers, a bit for each, on both sides -/
def flg (H : hR) (m : mR) : Prop := H.1 0 11 0 = m.1 6 8 ∧ 0 ≤ H.1 0 11 0 ∧ H.1 0 11 0 ≤ 255
theorem flg.fr {H H' : hR} {m m' : mR} (h : flg H m) (e1 : H'.1 0 11 0 = H.1 0 11 0) (e2 : m'.1 6 8 = m.1 6 8) : flg H' m' := by
  unfold flg at *
  rw [e1, e2]
  exact h
theorem flg.of {H' : hR} {m' : mR} {v : Int} (e1 : H'.1 0 11 0 = v) (e2 : m'.1 6 8 = v) (h : 0 ≤ v ∧ v ≤ 255) : flg H' m' := by
  unfold flg
  rw [e1, e2]
  exact ⟨rfl, h⟩
theorem flag_c : ∀ x : Nat, x < 256 → ∀ a : Nat, a < 8 → 0 ≤ orI x (shlI 1 a) ∧ orI x (shlI 1 a) ≤ 255 := by decide +kernel
theorem flag_or {x a : Int} (hx : 0 ≤ x ∧ x ≤ 255) (ha : 0 ≤ a ∧ a < 8) : 0 ≤ orI x (shlI 1 a) ∧ orI x (shlI 1 a) ≤ 255 := by
  obtain ⟨k, hk, rfl⟩ := toN (n := 256) (d := x) (by omega)
  obtain ⟨j, hj, rfl⟩ := toN (n := 8) ha
  exact flag_c k (by omega) j (by omega)
theorem stl_frame (H : hR) (p t a b : Int) (h1 : ¬ (t = 5 ∧ a = 1 ∧ b = p)) (h2 : ¬ (t = 2 ∧ b = 11)) (h3 : ¬ (t = 3 ∧ b = 15)) : (stl H p).1 t a b = H.1 t a b := by
  rw [stl_c, if_neg h1, if_neg (fun q => h2 ⟨q.1, q.2.2⟩), if_neg (fun q => h3 ⟨q.1, q.2.2⟩)]
theorem MB.to {B K1 K B' K' : Int} {H H' : hR} (h : MB B K1 K H) (h4 : H'.1 0 4 0 = H.1 0 4 0) (hf : ∀ a : Int, 0 ≤ a ∧ a < H.1 0 4 0 → ∀ f : Int, 3 ≤ f ∧ f ≤ 10 → -B' ≤ H'.1 2 a f ∧ H'.1 2 a f ≤ B') (hD : H'.2 = H.2) (hq : ∀ a : Int, 0 ≤ a ∧ a < H.1 0 4 0 → -H'.1 2 a 3 + K1 ≤ K' ∨ -H'.1 2 a 3 + K ≤ -H.1 2 a 3 + K') : MB B' K1 K' H' := by
  refine ⟨fun a ha => ?_, fun a ha => ?_⟩
  · rw [h4] at ha
    exact hf a ha
  · rw [h4] at ha
    obtain ⟨n, n1, n2, n3⟩ := h.2 a ha
    rw [hD]
    refine ⟨n, n1, n2, ?_⟩
    rcases hq a ha with q | q
    · have : (-H'.1 2 a 3 + K1) * 2 ^ 80 ≤ K' * 2 ^ 80 := Int.mul_le_mul_of_nonneg_right q (by decide)
      rw [Int.add_mul] at this
      omega
    · have : (-H'.1 2 a 3 + K) * 2 ^ 80 ≤ (-H.1 2 a 3 + K') * 2 ^ 80 := Int.mul_le_mul_of_nonneg_right q (by decide)
      rw [Int.add_mul, Int.add_mul] at this
      omega
theorem ls_made {F B K1 K a o amt : Int} {x : Int → Int} {H : hR} {m : mR} {p : Nat} (h : Mid F x H m) (hx : ∀ i : Int, 0 ≤ x i ∧ x i ≤ 1) (hM : MB B K1 K H) (hB : 0 ≤ B ∧ B ≤ 4611686018427387904) (hK : 0 ≤ K1 ∧ K1 + 1000000 ≤ K) (hp : (p : Int) < H.1 4 2 0) (ho : H.1 5 0 p = o) (ham : H.1 5 1 p = amt) (hA : ¬ amt = 0) (ha : H.1 3 o 0 = a) (hfl : flg H m) (hge : amt ≤ H.1 2 a 3 + H.1 2 a 0) :
    ∃ H' m', fX2_tryPayment p H = some ((), H') ∧ fX7_tries (rk (H.1 5 1) p) m = some ((), m') ∧ Mid F x H' m' ∧ MB (B + 1000000) K1 (K + 10000) H' ∧ flg H' m' ∧ payF p H H' ∧ rowsP m m' ∧ H'.1 5 1 p = 0 := by
  have k1 := h.2.2.1
  unfold okN at k1
  have hroom := roomOK_rng k1.2.2.2.2
  obtain ⟨v1, v2, v3, v4, v5⟩ := h.2.2.2.2.2.2.1.1 p (by omega)
  rw [ho] at v1
  rw [ham] at v2
  obtain ⟨w1, w2, w3⟩ := h.2.2.2.2.2.1 o v1
  unfold okP at w2
  rw [ha] at w2
  obtain ⟨o1, o2, o3⟩ := h.2.2.2.2.1 a w2.1
  obtain ⟨p0, p1, p2, p3, p4, p5⟩ := MC.part h hx hp (by rw [ham]; exact hA)
  rw [ho] at p0
  rw [ham] at p1
  have hc := MC.atO h v1
  have c0 : m.1 0 (121 + 16 * o + 0) = a := (hc 0 (by omega)).trans ha
  have c1 : m.1 0 (121 + 16 * o + 1) = if H.1 3 o 1 = -6 then 8 else H.1 3 o 1 := hc 1 (by omega)
  have c11 : m.1 0 (121 + 16 * o + 11) = H.1 3 o 12 := hc 11 (by omega)
  have ca0 := MC.at h w2.1 (f := 0) (by omega)
  have ca3 := MC.at h w2.1 (f := 3) (by omega)
  have ca5 := MC.at h w2.1 (f := 5) (by omega)
  have mA3 := hM.1 a w2.1 3 (by omega)
  have mA5 := hM.1 a w2.1 5 (by omega)
  have em0 : fX7_tries (rk (H.1 5 1) p) m = cl (fX7_moves a 0 (-amt) m) fun r57 m57 => cl (fX7_moves a 2 amt m57) fun r65 m65 => gd (wR (if H.1 3 o 1 = -6 then 8 else H.1 3 o 1)) <| if (if H.1 3 o 1 = -6 then 8 else H.1 3 o 1) = 8 then (fX7_tries_b93 (rk (H.1 5 1) p) o m65) else (cl (fX7_moves (if H.1 3 o 1 = -6 then 8 else H.1 3 o 1) 0 amt m65) fun r81 m81 => cl (fX7_moves (if H.1 3 o 1 = -6 then 8 else H.1 3 o 1) 3 amt m81) fun r90 m90 => fX7_tries_b93 (rk (H.1 5 1) p) o m90) := by
    unfold fX7_tries
    rw [p0, cr_some, ev_ofO (by omega), cr_some, c0, ev_ofO (by omega), cr_some, c1, p1, cr_some, gd_pos (by omega), ev_money (by omega), cr_some, Int.add_zero, ca3, ev_ofA (by omega), cr_some, ca0, gd_pos (by omega), gd_pos (by omega), if_neg (by omega)]
  have ec0 : fX2_tryPayment p H = bnd (hS H 2 a 3 (H.1 2 a 3 - amt)) fun H72 => bnd (hS H72 2 a 5 (H72.1 2 a 5 + amt)) fun H84 => cr (fX2_hasAccount (H84.1 3 o 1) H84) fun r92 => gd (wR r92) <| if r92 = 0 then (fX2_tryPayment_b138 p o H84) else (gd (0 ≤ (H84.1 3 o 1) ∧ (H84.1 3 o 1) < 8) <| gd (wR amt) <| bnd (hS H84 2 (H84.1 3 o 1) 3 ((H84.1 2 (H84.1 3 o 1) 3) + amt)) fun H115 => gd (0 ≤ (H115.1 3 o 1) ∧ (H115.1 3 o 1) < 8) <| gd (wR amt) <| bnd (hS H115 2 (H115.1 3 o 1) 6 ((H115.1 2 (H115.1 3 o 1) 6) + amt)) fun H135 => fX2_tryPayment_b138 p o H135) := by
    unfold fX2_tryPayment
    rw [gd_pos (by omega), ho, gd_pos (by omega), ha, gd_pos (by omega), gd_pos (by omega), gd_pos (by omega), ham, gd_pos (by omega), gd_pos (by omega), if_pos hge, gd_pos (by omega), bnd_eq, gd_pos (by omega)]
    rfl
  -- both accounts
  have key : ∃ H5 m5, fX2_tryPayment p H = fX2_tryPayment_b138 p o H5 ∧ fX7_tries (rk (H.1 5 1) p) m = fX7_tries_b93 (rk (H.1 5 1) p) o m5 ∧ Mid F x H5 m5 ∧ moneyF H H5 ∧ rows0F m m5 ∧ (∀ j : Int, ¬ (33 ≤ j ∧ j ≤ 120) → m5.1 0 j = m.1 0 j) ∧ MB (B + 1000000) K1 (K + 10000) H5 := by
    have d1 := h.acc (a := a) (f := 3) (v := H.1 2 a 3 - amt) w2.1 (by omega)
    have d2 := d1.acc (a := a) (f := 5) (v := H.1 2 a 5 + amt) (by rw [hS_n H (by omega)]; exact w2.1) (by omega)
    have r5 : (hS H 2 a 3 (H.1 2 a 3 - amt)).1 2 a 5 = H.1 2 a 5 := hS_n H (by omega)
    have r31 : (hS (hS H 2 a 3 (H.1 2 a 3 - amt)) 2 a 5 (H.1 2 a 5 + amt)).1 3 o 1 = H.1 3 o 1 := by rw [hS_n _ (by omega), hS_n _ (by omega)]
    have r04 : (hS (hS H 2 a 3 (H.1 2 a 3 - amt)) 2 a 5 (H.1 2 a 5 + amt)).1 0 4 0 = H.1 0 4 0 := by rw [hS_n _ (by omega), hS_n _ (by omega)]
    have n5 : (mS m 0 (33 + 11 * a + 3) (H.1 2 a 3 - amt)).1 0 (33 + 11 * a + 5) = H.1 2 a 5 := (mS_n m (by omega)).trans ca5
    have e1 : fX7_moves a 0 (-amt) m = some ((), mS m 0 (33 + 11 * a + 3) (H.1 2 a 3 - amt)) := by rw [ev_moves (by omega) (by omega), show (3 : Int) + 0 = 3 from rfl, ca3, show H.1 2 a 3 + -amt = H.1 2 a 3 - amt by omega]
    have e2 : fX7_moves a 2 amt (mS m 0 (33 + 11 * a + 3) (H.1 2 a 3 - amt)) = some ((), mS (mS m 0 (33 + 11 * a + 3) (H.1 2 a 3 - amt)) 0 (33 + 11 * a + 5) (H.1 2 a 5 + amt)) := by rw [ev_moves (by omega) (by omega), show (3 : Int) + 2 = 5 from rfl, n5]
    by_cases g : H.1 3 o 1 = -6
    · refine ⟨hS (hS H 2 a 3 (H.1 2 a 3 - amt)) 2 a 5 (H.1 2 a 5 + amt), mS (mS m 0 (33 + 11 * a + 3) (H.1 2 a 3 - amt)) 0 (33 + 11 * a + 5) (H.1 2 a 5 + amt), ?_, ?_, d2, ⟨fun t x y q => by rw [hS_n _ (by omega), hS_n _ (by omega)], rfl⟩, ⟨fun t q => by rw [mS_t _ _ _ q, mS_t _ _ _ q], rfl⟩, fun j q => by rw [mS_n _ (by omega), mS_n _ (by omega)], hM.to r04 (fun y hy f hf => ?_) rfl (fun y hy => ?_)⟩
      · rw [ec0, bnd_eq, r5, bnd_eq, r31, g, ev_hasA (by rw [r04]; omega), bI_f (decide_eq_false (by omega)), cr_some, gd_pos (by omega), if_pos rfl]
      · rw [em0, e1, cl_some, e2, cl_some, if_pos g, gd_pos (by omega), if_pos rfl]
      · have := hM.1 y hy f hf
        rw [hS_1, hS_1]
        by_cases q1 : y = a ∧ f = 5
        · rw [if_pos ⟨rfl, q1.1, q1.2⟩]
          omega
        · rw [if_neg (by omega)]
          by_cases q2 : y = a ∧ f = 3
          · rw [if_pos ⟨rfl, q2.1, q2.2⟩]
            omega
          · rw [if_neg (by omega)]
            omega
      · rw [hS_n _ (by omega), hS_1]
        by_cases q2 : y = a
        · rw [if_pos ⟨rfl, q2, rfl⟩]
          left
          omega
        · rw [if_neg (by omega)]
          right
          omega
    · have hg : 0 ≤ H.1 3 o 1 ∧ H.1 3 o 1 < H.1 0 4 0 ∧ ¬ H.1 3 o 1 = a := by omega
      generalize hge' : H.1 3 o 1 = ge at *
      have cg3 := MC.at h (a := ge) (f := 3) (by omega) (by omega)
      have cg6 := MC.at h (a := ge) (f := 6) (by omega) (by omega)
      have mG3 := hM.1 ge (by omega) 3 (by omega)
      have mG6 := hM.1 ge (by omega) 6 (by omega)
      have d3 := d2.acc (a := ge) (f := 3) (v := H.1 2 ge 3 + amt) (by rw [r04]; omega) (by omega)
      have d4 := d3.acc (a := ge) (f := 6) (v := H.1 2 ge 6 + amt) (by rw [hS_n _ (by omega), r04]; omega) (by omega)
      have s3 : (hS (hS H 2 a 3 (H.1 2 a 3 - amt)) 2 a 5 (H.1 2 a 5 + amt)).1 2 ge 3 = H.1 2 ge 3 := by rw [hS_n _ (by omega), hS_n _ (by omega)]
      have s31 : (hS (hS (hS H 2 a 3 (H.1 2 a 3 - amt)) 2 a 5 (H.1 2 a 5 + amt)) 2 ge 3 (H.1 2 ge 3 + amt)).1 3 o 1 = ge := by rw [hS_n _ (by omega), r31]
      have s6 : (hS (hS (hS H 2 a 3 (H.1 2 a 3 - amt)) 2 a 5 (H.1 2 a 5 + amt)) 2 ge 3 (H.1 2 ge 3 + amt)).1 2 ge 6 = H.1 2 ge 6 := by rw [hS_n _ (by omega), hS_n _ (by omega), hS_n _ (by omega)]
      have u3 : (mS (mS m 0 (33 + 11 * a + 3) (H.1 2 a 3 - amt)) 0 (33 + 11 * a + 5) (H.1 2 a 5 + amt)).1 0 (33 + 11 * ge + 3) = H.1 2 ge 3 := by rw [mS_n _ (by omega), mS_n _ (by omega), cg3]
      have u6 : (mS (mS (mS m 0 (33 + 11 * a + 3) (H.1 2 a 3 - amt)) 0 (33 + 11 * a + 5) (H.1 2 a 5 + amt)) 0 (33 + 11 * ge + 3) (H.1 2 ge 3 + amt)).1 0 (33 + 11 * ge + 6) = H.1 2 ge 6 := by rw [mS_n _ (by omega), mS_n _ (by omega), mS_n _ (by omega), cg6]
      have e3 : fX7_moves ge 0 amt (mS (mS m 0 (33 + 11 * a + 3) (H.1 2 a 3 - amt)) 0 (33 + 11 * a + 5) (H.1 2 a 5 + amt)) = some ((), mS (mS (mS m 0 (33 + 11 * a + 3) (H.1 2 a 3 - amt)) 0 (33 + 11 * a + 5) (H.1 2 a 5 + amt)) 0 (33 + 11 * ge + 3) (H.1 2 ge 3 + amt)) := by rw [ev_moves (by omega) (by omega), show (3 : Int) + 0 = 3 from rfl, u3]
      have e4 : fX7_moves ge 3 amt (mS (mS (mS m 0 (33 + 11 * a + 3) (H.1 2 a 3 - amt)) 0 (33 + 11 * a + 5) (H.1 2 a 5 + amt)) 0 (33 + 11 * ge + 3) (H.1 2 ge 3 + amt)) = some ((), mS (mS (mS (mS m 0 (33 + 11 * a + 3) (H.1 2 a 3 - amt)) 0 (33 + 11 * a + 5) (H.1 2 a 5 + amt)) 0 (33 + 11 * ge + 3) (H.1 2 ge 3 + amt)) 0 (33 + 11 * ge + 6) (H.1 2 ge 6 + amt)) := by rw [ev_moves (by omega) (by omega), show (3 : Int) + 3 = 6 from rfl, u6]
      refine ⟨_, _, ?_, ?_, d4, ⟨fun t x y q => by rw [hS_n _ (by omega), hS_n _ (by omega), hS_n _ (by omega), hS_n _ (by omega)], rfl⟩, ⟨fun t q => by rw [mS_t _ _ _ q, mS_t _ _ _ q, mS_t _ _ _ q, mS_t _ _ _ q], rfl⟩, fun j q => by rw [mS_n _ (by omega), mS_n _ (by omega), mS_n _ (by omega), mS_n _ (by omega)], hM.to (by rw [hS_n _ (by omega), hS_n _ (by omega), r04]) (fun y hy f hf => ?_) rfl (fun y hy => ?_)⟩
      · rw [ec0, bnd_eq, r5, bnd_eq, r31, ev_hasA (by rw [r04]; omega), r04, bI_t (decide_eq_true (by omega)), cr_some, gd_pos (by omega), if_neg (by omega), gd_pos (by omega), gd_pos (by omega), s3, bnd_eq, s31, gd_pos (by omega), gd_pos (by omega), s6, bnd_eq]
      · rw [em0, e1, cl_some, e2, cl_some, if_neg g, gd_pos (by omega), if_neg (by omega), e3, cl_some, e4, cl_some]
      · have := hM.1 y hy f hf
        rw [hS_1, hS_1, hS_1, hS_1]
        by_cases q1 : y = ge ∧ f = 6
        · rw [if_pos ⟨rfl, q1.1, q1.2⟩]
          omega
        · rw [if_neg (by omega)]
          by_cases q2 : y = ge ∧ f = 3
          · rw [if_pos ⟨rfl, q2.1, q2.2⟩]
            omega
          · rw [if_neg (by omega)]
            by_cases q3 : y = a ∧ f = 5
            · rw [if_pos ⟨rfl, q3.1, q3.2⟩]
              omega
            · rw [if_neg (by omega)]
              by_cases q4 : y = a ∧ f = 3
              · rw [if_pos ⟨rfl, q4.1, q4.2⟩]
                omega
              · rw [if_neg (by omega)]
                omega
      · rw [hS_n _ (by omega), hS_1]
        by_cases q2 : y = ge
        · rw [if_pos ⟨rfl, q2, rfl⟩, q2]
          right
          omega
        · rw [if_neg (by omega), hS_n _ (by omega), hS_1]
          by_cases q3 : y = a
          · rw [if_pos ⟨rfl, q3, rfl⟩]
            left
            omega
          · rw [if_neg (by omega)]
            right
            omega
  obtain ⟨H5, m5, y1, y2, y3, y4, y5, y6, y7⟩ := key
  have z50 : H5.1 5 0 p = o := (y4.1 _ _ _ (by omega)).trans ho
  have z51 : H5.1 5 1 = H.1 5 1 := funext (fun i => y4.1 _ _ _ (by omega))
  have z12 : H5.1 3 o 12 = H.1 3 o 12 := y4.1 _ _ _ (by omega)
  obtain ⟨m', s1, s2, s3, s4, s5⟩ := Mid.settle (f := 12) (o := o) (p := p) (by omega) y3 (by rw [y4.1 4 2 0 (by omega)]; exact hp) (by rw [z51, ham]; exact hA) z50
  rw [z51] at s2
  have fr := fun t a b h1 h2 h3 => stl_frame (hS H5 3 o 12 (H5.1 3 o 12 + 1)) p t a b h1 h2 h3
  refine ⟨_, m', ?_, ?_, s3, y7.to ?_ (fun y hy f hf => ?_) rfl (fun y hy => ?_), ?_, ⟨fun t a b q1 q2 q3 q4 => ?_, ?_, ?_⟩, ⟨fun t q1 q2 q3 => ?_, ?_, fun k q => ?_⟩, ?_⟩
  · rw [y1]
    unfold fX2_tryPayment_b138
    rw [bnd_eq, s1, cl_some]
  · rw [y2]
    unfold fX7_tries_b93
    rw [gd_pos (by omega), gd_pos (by omega), bnd_eq, y6 _ (by omega), c11, bnd_eq, mS_n m5 (by omega), ← z12]
    rw [show (12 : Int) - 1 = 11 from rfl, show (12 : Int) - 7 = 5 from rfl] at s2
    rw [s2, cl_some]
  · rw [fr _ _ _ (by omega) (by omega) (by omega), hS_n _ (by omega)]
  · rw [fr _ _ _ (by omega) (by omega) (by omega), hS_n _ (by omega)]
    exact y7.1 y hy f hf
  · rw [fr _ _ _ (by omega) (by omega) (by omega), hS_n _ (by omega)]
    right
    omega
  · exact hfl.fr (by rw [fr _ _ _ (by omega) (by omega) (by omega), hS_n _ (by omega), y4.1 _ _ _ (by omega)]) (by rw [s4 6 (by omega) (by omega), y5.1 6 (by omega)])
  · rw [fr _ _ _ (by omega) (by omega) (by omega), hS_n _ (by omega), y4.1 _ _ _ (by omega)]
  · exact y4.2
  · left
    rw [stl_c, if_pos ⟨rfl, rfl, rfl⟩]
  · rw [s4 t q1 q2, y5.1 t q1]
  · rw [s5, y5.2]
  · rw [s4 6 (by omega) (by omega), y5.1 6 (by omega)]
  · rw [stl_c, if_pos ⟨rfl, rfl, rfl⟩]

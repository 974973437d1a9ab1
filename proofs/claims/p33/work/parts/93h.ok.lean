/-! ===== what always holds of a house ===== -/
def monB (T t : Int) : Int := 100000000 * T + 2251799813685248 * t
def okS (H : hR) : Prop := (0 ≤ H.1 0 6 0 ∧ H.1 0 6 0 ≤ 1094) ∧ (0 ≤ H.1 1 2 0 ∧ H.1 1 2 0 ≤ 6) ∧ (1 ≤ H.1 0 7 0 ∧ H.1 0 7 0 ≤ 9) ∧ (0 ≤ H.1 0 8 0 ∧ H.1 0 8 0 ≤ 10000) ∧ (0 ≤ H.1 0 9 0 ∧ H.1 0 9 0 ≤ 1000) ∧ (0 ≤ H.1 0 10 0 ∧ H.1 0 10 0 ≤ 8400 * H.1 0 6 0)
def okA (H : hR) : Prop := ∀ a : Int, 0 ≤ a ∧ a < H.1 0 4 0 → (0 ≤ H.1 2 a 0 ∧ H.1 2 a 0 ≤ 1000000) ∧ (0 ≤ H.1 2 a 1 ∧ H.1 2 a 1 ≤ 1000000) ∧ (H.1 2 a 2 = -6 ∨ (0 ≤ H.1 2 a 2 ∧ H.1 2 a 2 < H.1 0 4 0 ∧ ¬ H.1 2 a 2 = a))
def okP (H : hR) (o : Int) : Prop := (0 ≤ H.1 3 o 0 ∧ H.1 3 o 0 < H.1 0 4 0) ∧ (H.1 3 o 1 = -6 ∨ (0 ≤ H.1 3 o 1 ∧ H.1 3 o 1 < H.1 0 4 0 ∧ ¬ H.1 3 o 1 = H.1 3 o 0)) ∧ (1 ≤ H.1 3 o 2 ∧ H.1 3 o 2 ≤ 1000000) ∧ (0 ≤ H.1 3 o 8 ∧ H.1 3 o 8 ≤ 9) ∧ (0 ≤ H.1 3 o 9 ∧ H.1 3 o 9 ≤ 1) ∧ (0 ≤ H.1 3 o 10 ∧ H.1 3 o 10 ≤ 99) ∧ (0 ≤ H.1 3 o 11 ∧ H.1 3 o 11 ≤ 2)
def okC (H : hR) (o : Int) : Prop := 0 ≤ H.1 3 o 12 ∧ 0 ≤ H.1 3 o 13 ∧ 0 ≤ H.1 3 o 14 ∧ 0 ≤ H.1 3 o 15 ∧ H.1 3 o 12 + H.1 3 o 13 + H.1 3 o 14 + H.1 3 o 15 ≤ H.1 3 o 16 ∧ H.1 3 o 16 ≤ 1095
def okO (H : hR) : Prop := ∀ o : Int, 0 ≤ o ∧ o < H.1 0 5 0 → okOrd H o ∧ okP H o ∧ okC H o
def okW (H : hR) : Prop := (∀ i : Int, 0 ≤ i ∧ i < H.1 4 2 0 → (0 ≤ H.1 5 0 i ∧ H.1 5 0 i < H.1 0 5 0) ∧ (1 ≤ H.1 5 1 i ∧ H.1 5 1 i ≤ 1000000) ∧ (0 ≤ H.1 5 2 i ∧ H.1 5 2 i ≤ 1094) ∧ (0 ≤ H.1 5 3 i ∧ H.1 5 3 i ≤ 1094) ∧ (0 ≤ H.1 5 4 i ∧ H.1 5 4 i ≤ 8)) ∧
  ∀ i j : Int, 0 ≤ i → i < j → j < H.1 4 2 0 → H.1 5 3 i < H.1 5 3 j ∨ (H.1 5 3 i = H.1 5 3 j ∧ H.1 5 0 i ≤ H.1 5 0 j)
/-- what waits for an account; how many wait of an order -/
def sumW (H : hR) (a : Int) : Nat → Int
  | 0 => 0
  | n + 1 => sumW H a n + (if H.1 3 (H.1 5 0 n) 0 = a then H.1 5 1 n else 0)
def cntW (H : hR) (o : Int) : Nat → Int
  | 0 => 0
  | n + 1 => cntW H o n + (if H.1 5 0 n = o then 1 else 0)
def sumF (H : hR) (f : Int) : Nat → Int
  | 0 => 0
  | n + 1 => sumF H f n + H.1 3 n f
def okU (H : hR) : Prop := (∀ a : Int, 0 ≤ a ∧ a < H.1 0 4 0 → H.1 2 a 11 = sumW H a (H.1 4 2 0).toNat) ∧ ∀ o : Int, 0 ≤ o ∧ o < H.1 0 5 0 → H.1 3 o 15 = cntW H o (H.1 4 2 0).toNat
def okM (T : Int) (H : hR) : Prop := ∀ a : Int, 0 ≤ a ∧ a < H.1 0 4 0 → ∀ f : Int, 3 ≤ f ∧ f ≤ 10 → -monB T (H.1 0 6 0) ≤ H.1 2 a f ∧ H.1 2 a f ≤ monB T (H.1 0 6 0)
/-- a double that is at most n over 2 to the 80th -/
def owV (v : UInt64) (n : Int) : Prop := 0 ≤ n ∧ ∃ V : Nat, dv v V ∧ (V : Int) ≤ n * 2 ^ 120
def debtB : Nat → Int
  | 0 => 0
  | t + 1 => debtB t + debtB t / 128 + 134217728
def okQ (H : hR) : Prop := ∀ a : Int, 0 ≤ a ∧ a < H.1 0 4 0 → ∃ n : Int, owV (H.2 a) n ∧ n ≤ debtB (H.1 0 6 0).toNat * 2 ^ 80 ∧ -H.1 2 a 3 * 2 ^ 80 + n ≤ debtB (H.1 0 6 0).toNat * 2 ^ 80
def Ok (T : Int) (H : hR) : Prop := okN H ∧ okS H ∧ okA H ∧ okO H ∧ okW H ∧ okU H ∧ okM T H ∧ okQ H
def Tot (H : hR) (N : Int → Int) : Prop := N 5 = sumF H 12 (H.1 0 5 0).toNat ∧ N 6 = sumF H 13 (H.1 0 5 0).toNat ∧ N 7 = sumF H 14 (H.1 0 5 0).toNat
def Sim (T : Int) (H : hR) (m : mR) : Prop := CorM H m ∧ Tot H (m.1 0) ∧ Ok T H
theorem okS.fr {H H' : hR} (h : okS H) (hH : ∀ t a : Int, (t = 0 ∧ (6 ≤ a ∧ a ≤ 10)) ∨ (t = 1 ∧ a = 2) → H'.1 t a 0 = H.1 t a 0) : okS H' := by
  unfold okS at *
  rw [hH 0 6 (by decide), hH 1 2 (by decide), hH 0 7 (by decide), hH 0 8 (by decide), hH 0 9 (by decide), hH 0 10 (by decide)]
  exact h
theorem okA.fr {H H' : hR} (h : okA H) (h4 : H'.1 0 4 0 = H.1 0 4 0) (hH : ∀ a f : Int, 0 ≤ f ∧ f ≤ 2 → H'.1 2 a f = H.1 2 a f) : okA H' := by
  intro a ha
  rw [h4] at ha
  rw [hH a 0 (by decide), hH a 1 (by decide), hH a 2 (by decide), h4]
  exact h a ha
theorem okO.fr {H H' : hR} (h : okO H) (h4 : H'.1 0 4 0 = H.1 0 4 0) (h5 : H'.1 0 5 0 = H.1 0 5 0) (hH : ∀ o f : Int, 0 ≤ f ∧ f ≤ 16 → H'.1 3 o f = H.1 3 o f) : okO H' := by
  intro o ho
  rw [h5] at ho
  obtain ⟨h1, h2, h3⟩ := h o ho
  refine ⟨h1.fr (fun f hf => hH o f (by omega)), ?_, ?_⟩
  · unfold okP at *
    rw [hH o 0 (by decide), hH o 1 (by decide), hH o 2 (by decide), hH o 8 (by decide), hH o 9 (by decide), hH o 10 (by decide), hH o 11 (by decide), h4]
    exact h2
  · unfold okC at *
    rw [hH o 12 (by decide), hH o 13 (by decide), hH o 14 (by decide), hH o 15 (by decide), hH o 16 (by decide)]
    exact h3
theorem okW.fr {H H' : hR} (h : okW H) (h2 : H'.1 4 2 0 = H.1 4 2 0) (h5 : H'.1 0 5 0 = H.1 0 5 0) (hH : ∀ c i : Int, 0 ≤ i ∧ i < H.1 4 2 0 → H'.1 5 c i = H.1 5 c i) : okW H' := by
  refine ⟨fun i hi => ?_, fun i j hi hij hj => ?_⟩
  · rw [h2] at hi
    rw [hH 0 i hi, hH 1 i hi, hH 2 i hi, hH 3 i hi, hH 4 i hi, h5]
    exact h.1 i hi
  · rw [h2] at hj
    rw [hH 0 i (by omega), hH 3 i (by omega), hH 0 j (by omega), hH 3 j (by omega)]
    exact h.2 i j hi hij hj
theorem sumW_fr {H H' : hR} {a : Int} : ∀ n : Nat, (∀ c i : Int, 0 ≤ i ∧ i < n → H'.1 5 c i = H.1 5 c i) → (∀ i : Int, 0 ≤ i ∧ i < n → H'.1 3 (H.1 5 0 i) 0 = H.1 3 (H.1 5 0 i) 0) → sumW H' a n = sumW H a n
  | 0, _, _ => rfl
  | n + 1, h1, h2 => by
    unfold sumW
    rw [sumW_fr n (fun c i hi => h1 c i (by omega)) (fun i hi => h2 i (by omega)), h1 0 n (by omega), h1 1 n (by omega), h2 n (by omega)]
theorem cntW_fr {H H' : hR} {o : Int} : ∀ n : Nat, (∀ i : Int, 0 ≤ i ∧ i < n → H'.1 5 0 i = H.1 5 0 i) → cntW H' o n = cntW H o n
  | 0, _ => rfl
  | n + 1, h1 => by
    unfold cntW
    rw [cntW_fr n (fun i hi => h1 i (by omega)), h1 n (by omega)]
theorem sumF_fr {H H' : hR} {f : Int} : ∀ n : Nat, (∀ i : Int, 0 ≤ i ∧ i < n → H'.1 3 i f = H.1 3 i f) → sumF H' f n = sumF H f n
  | 0, _ => rfl
  | n + 1, h1 => by
    unfold sumF
    rw [sumF_fr n (fun i hi => h1 i (by omega)), h1 n (by omega)]
theorem okU.fr {H H' : hR} (h : okU H) (hn : okN H) (h2 : H'.1 4 2 0 = H.1 4 2 0) (h4 : H'.1 0 4 0 = H.1 0 4 0) (h5 : H'.1 0 5 0 = H.1 0 5 0) (hc : ∀ c i : Int, 0 ≤ i ∧ i < H.1 4 2 0 → H'.1 5 c i = H.1 5 c i) (ha : ∀ a : Int, H'.1 2 a 11 = H.1 2 a 11) (ho : ∀ o : Int, H'.1 3 o 0 = H.1 3 o 0 ∧ H'.1 3 o 15 = H.1 3 o 15) : okU H' := by
  unfold okN at hn
  refine ⟨fun a q => ?_, fun o q => ?_⟩
  · rw [h4] at q
    rw [ha, h2, sumW_fr _ (fun c i hi => hc c i (by omega)) (fun i hi => (ho _).1)]
    exact h.1 a q
  · rw [h5] at q
    rw [(ho o).2, h2, cntW_fr _ (fun i hi => hc 0 i (by omega))]
    exact h.2 o q
theorem okM.fr {T T' : Int} {H H' : hR} (h : okM T H) (hT : T ≤ T') (h4 : H'.1 0 4 0 = H.1 0 4 0) (h6 : H'.1 0 6 0 = H.1 0 6 0) (hH : ∀ a f : Int, 3 ≤ f ∧ f ≤ 10 → H'.1 2 a f = H.1 2 a f) : okM T' H' := by
  intro a ha f hf
  rw [h4] at ha
  rw [hH a f hf, h6]
  have := h a ha f hf
  unfold monB at *
  omega
theorem okQ.fr {H H' : hR} (h : okQ H) (h4 : H'.1 0 4 0 = H.1 0 4 0) (h6 : H'.1 0 6 0 = H.1 0 6 0) (hH : ∀ a : Int, H'.1 2 a 3 = H.1 2 a 3) (hD : H'.2 = H.2) : okQ H' := by
  intro a ha
  rw [h4] at ha
  rw [hH a, h6, hD]
  exact h a ha
theorem Tot.fr {H H' : hR} {N N' : Int → Int} (h : Tot H N) (h5 : H'.1 0 5 0 = H.1 0 5 0) (hH : ∀ o f : Int, 12 ≤ f ∧ f ≤ 14 → H'.1 3 o f = H.1 3 o f) (hN : ∀ k : Int, 5 ≤ k ∧ k ≤ 7 → N' k = N k) : Tot H' N' := by
  unfold Tot at *
  rw [hN 5 (by decide), hN 6 (by decide), hN 7 (by decide), h5, sumF_fr _ (fun i _ => hH i 12 (by decide)), sumF_fr _ (fun i _ => hH i 13 (by decide)), sumF_fr _ (fun i _ => hH i 14 (by decide))]
  exact h
/-- what is not read by the part that waits on the class's side alone -/
theorem Ok.mono {T T' : Int} {H : hR} (h : Ok T H) (hT : T ≤ T') : Ok T' H := by
  obtain ⟨h1, h2, h3, h4, h5, h6, h7, h8⟩ := h
  exact ⟨h1, h2, h3, h4, h5, h6, h7.fr hT rfl rfl (fun _ _ _ => rfl), h8⟩

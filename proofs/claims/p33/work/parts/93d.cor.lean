/-! ===== the class's house against the reference's rows, cell by cell ===== -/
def pkW (o a n d f x : Int) : Int := o + 16 * (a + 1048576 * (n + 2048 * (d + 2048 * (f + 16 * x))))
def corS (H : hR) (N : Int → Int) : Prop := N 0 = H.1 0 6 0 ∧ N 1 = H.1 0 4 0 ∧ N 2 = H.1 0 5 0 ∧ N 3 = H.1 1 1 0 ∧ N 4 = H.1 4 2 0 ∧ N 8 = H.1 0 10 0 ∧ N 9 = H.1 0 7 0 ∧ N 10 = H.1 0 8 0 ∧ N 11 = H.1 0 9 0 ∧ N 12 = H.1 1 2 0
def corH (H : hR) (N : Int → Int) : Prop := holOK N ∧ ∀ d : Int, 0 ≤ d ∧ d ≤ 1094 → holN N (N 3).toNat d = holB H d
def corA (H : hR) (N : Int → Int) (O : Int → UInt64) : Prop := ∀ a : Int, 0 ≤ a ∧ a < N 1 → (∀ f : Int, 0 ≤ f ∧ f ≤ 10 → N (33 + 11 * a + f) = H.1 2 a f) ∧ O a = H.2 a
/-- what the reference has for a field of the class's order, by the reference's number -/
def ordN (H : hR) (o f : Int) : Int :=
  if f = 1 then (if H.1 3 o 1 = -6 then 8 else H.1 3 o 1)
  else if f ≤ 8 then H.1 3 o f
  else if f = 9 then (if H.1 3 o 11 = 2 then 0 else H.1 3 o 10)
  else if f ≤ 13 then H.1 3 o (f + 1)
  else if f = 14 then H.1 3 o 16
  else H.1 3 o 9
def corO (H : hR) (N : Int → Int) : Prop := ∀ o : Int, 0 ≤ o ∧ o < N 2 → ∀ f : Int, 0 ≤ f ∧ f ≤ 15 → N (121 + 16 * o + f) = ordN H o f
def corW (H : hR) (W : Int → Int) (n : Int) : Prop := ∀ i : Int, 0 ≤ i ∧ i < n → W i = pkW (H.1 5 0 i) (H.1 5 1 i) (H.1 5 2 i) (H.1 5 3 i) (H.1 5 4 i) 0
def Cor (H : hR) (N W : Int → Int) (O : Int → UInt64) : Prop := corS H N ∧ corH H N ∧ corA H N O ∧ corO H N ∧ corW H W (N 4)
abbrev CorM (H : hR) (m : mR) : Prop := Cor H (m.1 0) (m.1 1) (m.2 0)
theorem mS_0 (m : mR) (k v : Int) : (mS m 0 k v).1 0 = up1 (m.1 0) k v := by
  funext j
  show (if (0 : Int) = 0 ∧ j = k then v else m.1 0 j) = if j = k then v else m.1 0 j
  by_cases h : j = k <;> simp [h]
theorem mS_1' (m : mR) (k v : Int) : (mS m 1 k v).1 1 = up1 (m.1 1) k v := by
  funext j
  show (if (1 : Int) = 1 ∧ j = k then v else m.1 1 j) = if j = k then v else m.1 1 j
  by_cases h : j = k <;> simp [h]
theorem mS_t (m : mR) {t t' : Int} (k v : Int) (h : ¬ t' = t) : (mS m t k v).1 t' = m.1 t' := by
  funext j
  exact if_neg (fun q => h q.1)
theorem mD_0 (m : mR) (k : Int) (v : UInt64) : (mD m 0 k v).2 0 = up1 (m.2 0) k v := by
  funext j
  show (if (0 : Int) = 0 ∧ j = k then v else m.2 0 j) = if j = k then v else m.2 0 j
  by_cases h : j = k <;> simp [h]
theorem mD_t (m : mR) {t t' : Int} (k : Int) (v : UInt64) (h : ¬ t' = t) : (mD m t k v).2 t' = m.2 t' := by
  funext j
  exact if_neg (fun q => h q.1)
theorem up1_p {α : Type} (f : Int → α) (a : Int) (v : α) : up1 f a v a = v := if_pos rfl
theorem up1_n {α : Type} (f : Int → α) {a b : Int} (v : α) (h : ¬ b = a) : up1 f a v b = f b := if_neg h
/-! the parts see only their cells -/
theorem corS.fr {H H' : hR} {N N' : Int → Int} (h : corS H N) (hH : ∀ t a : Int, (t = 0 ∧ ¬ a = 11) ∨ t = 1 ∨ (t = 4 ∧ a = 2) → H'.1 t a 0 = H.1 t a 0) (hN : ∀ k : Int, (0 ≤ k ∧ k ≤ 4) ∨ (8 ≤ k ∧ k ≤ 12) → N' k = N k) : corS H' N' := by
  obtain ⟨h1, h2, h3, h4, h5, h6, h7, h8, h9, h10⟩ := h
  refine ⟨?_, ?_, ?_, ?_, ?_, ?_, ?_, ?_, ?_, ?_⟩ <;> rw [hN _ (by decide), hH _ _ (by decide)] <;> assumption
theorem holN_fr {N N' : Int → Int} (hN : ∀ k : Int, 13 ≤ k ∧ k ≤ 32 → N' k = N k) : ∀ (n : Nat) (d : Int), n ≤ 20 → holN N' n d = holN N n d
  | 0, d, _ => rfl
  | n + 1, d, h => by
    unfold holN
    rw [holN_fr hN n d (by omega), hN _ (by omega)]
theorem holOK.fr {N N' : Int → Int} (h : holOK N) (hN : ∀ k : Int, k = 3 ∨ (13 ≤ k ∧ k ≤ 32) → N' k = N k) : holOK N' := by
  obtain ⟨h1, h2, h3, h4⟩ := h
  have e := hN 3 (by decide)
  refine ⟨by omega, by omega, fun k a b => ?_, fun i j a b c d q => ?_⟩
  · rw [hN _ (by omega)]; exact h3 k a (by omega)
  · rw [hN _ (by omega), hN _ (by omega)] at q
    exact h4 i j a (by omega) c (by omega) q
theorem corH.fr {H H' : hR} {N N' : Int → Int} (h : corH H N) (hH : ∀ a : Int, H'.1 6 a 0 = H.1 6 a 0) (hN : ∀ k : Int, k = 3 ∨ (13 ≤ k ∧ k ≤ 32) → N' k = N k) : corH H' N' := by
  refine ⟨h.1.fr hN, fun d hd => ?_⟩
  have h1 := h.1.1
  have h2 := h.1.2.1
  rw [hN 3 (by decide), holN_fr (fun k hk => hN k (by omega)) _ _ (by omega), h.2 d hd]
  unfold holB
  rw [hH]
theorem corA.fr {H H' : hR} {N N' : Int → Int} {O O' : Int → UInt64} (h : corA H N O) (hH : ∀ a f : Int, 0 ≤ f ∧ f ≤ 10 → H'.1 2 a f = H.1 2 a f) (hD : ∀ a : Int, H'.2 a = H.2 a) (hN : ∀ k : Int, k = 1 ∨ (33 ≤ k ∧ k < 121) → N' k = N k) (hO : ∀ a : Int, O' a = O a) (h8 : N 1 ≤ 8) : corA H' N' O' := by
  intro a ha
  rw [hN 1 (by decide)] at ha
  obtain ⟨h1, h2⟩ := h a ha
  exact ⟨fun f hf => by rw [hN _ (by omega), hH _ _ hf]; exact h1 f hf, by rw [hO, hD]; exact h2⟩
theorem ordN_fr {H H' : hR} {o : Int} (hH : ∀ f : Int, (0 ≤ f ∧ f ≤ 14) ∨ f = 16 → H'.1 3 o f = H.1 3 o f) {f : Int} (hf : 0 ≤ f ∧ f ≤ 15) : ordN H' o f = ordN H o f := by
  unfold ordN
  split
  · rw [hH 1 (by decide)]
  · split
    · exact hH f (by omega)
    · split
      · rw [hH 11 (by decide), hH 10 (by decide)]
      · split
        · exact hH _ (by omega)
        · split
          · exact hH 16 (by decide)
          · exact hH 9 (by decide)
theorem corO.fr {H H' : hR} {N N' : Int → Int} (h : corO H N) (hH : ∀ o f : Int, (0 ≤ f ∧ f ≤ 14) ∨ f = 16 → H'.1 3 o f = H.1 3 o f) (hN : ∀ k : Int, k = 2 ∨ (121 ≤ k ∧ k < 377) → N' k = N k) (h16 : N 2 ≤ 16) : corO H' N' := by
  intro o ho f hf
  rw [hN 2 (by decide)] at ho
  rw [hN _ (by omega), ordN_fr (hH o) hf]
  exact h o ho f hf
theorem corW.fr {H H' : hR} {W W' : Int → Int} {n n' : Int} (h : corW H W n) (hH : ∀ c i : Int, 0 ≤ i ∧ i < n' → H'.1 5 c i = H.1 5 c i) (hW : ∀ i : Int, 0 ≤ i ∧ i < n' → W' i = W i) (hn : n' ≤ n) : corW H' W' n' := by
  intro i hi
  rw [hW i hi, hH _ _ hi, hH _ _ hi, hH _ _ hi, hH _ _ hi, hH _ _ hi]
  exact h i ⟨hi.1, by omega⟩
/-- counts within their rows -/
def roomOK (r : Int) : Prop := ∃ k : Nat, k ≤ 8 ∧ r = 64 * 2 ^ k
def okN (H : hR) : Prop := (0 ≤ H.1 0 4 0 ∧ H.1 0 4 0 ≤ 8) ∧ (0 ≤ H.1 0 5 0 ∧ H.1 0 5 0 ≤ 16) ∧ (0 ≤ H.1 4 2 0 ∧ H.1 4 2 0 ≤ 8400) ∧ (H.1 4 2 0 ≤ H.1 4 1 0 ∧ roomOK (H.1 4 1 0))
/-- an account's field, 0 to 10, written on both sides -/
theorem Cor.acc {H : hR} {m : mR} (h : CorM H m) (hk : okN H) {a f v : Int} (ha : 0 ≤ a ∧ a < 8) (hf : 0 ≤ f ∧ f ≤ 10) : CorM (hS H 2 a f v) (mS m 0 (33 + 11 * a + f) v) := by
  obtain ⟨h1, h2, h3, h4, h5⟩ := h
  have e1 := h1.2.1
  have e2 := h1.2.2.1
  have e4 := h1.2.2.2.2.1
  unfold okN at hk
  unfold CorM
  rw [mS_0, mS_t m _ _ (by decide), mS_2]
  refine ⟨h1.fr (fun t a' q => hS_n H (by omega)) (fun k q => up1_n _ _ (by omega)), h2.fr (fun a' => hS_n H (by omega)) (fun k q => up1_n _ _ (by omega)), ?_, h4.fr (fun o f' q => hS_n H (by omega)) (fun k q => up1_n _ _ (by omega)) (by omega), ?_⟩
  · intro a' ha'
    rw [up1_n _ _ (by omega)] at ha'
    obtain ⟨g1, g2⟩ := h3 a' ha'
    refine ⟨fun f' hf' => ?_, g2⟩
    rw [hS_1]
    unfold up1
    by_cases q : a' = a ∧ f' = f
    · obtain ⟨q1, q2⟩ := q
      rw [if_pos (by omega), if_pos ⟨rfl, q1, q2⟩]
    · rw [if_neg (by omega), if_neg (by omega)]
      exact g1 f' hf'
  · rw [up1_n _ _ (by omega)]
    exact h5.fr (fun c i q => hS_n H (by omega)) (fun i q => rfl) (Int.le_refl _)
theorem okN.fr {H H' : hR} (h : okN H) (h1 : H'.1 0 4 0 = H.1 0 4 0) (h2 : H'.1 0 5 0 = H.1 0 5 0) (h3 : H'.1 4 2 0 = H.1 4 2 0) (h4 : H'.1 4 1 0 = H.1 4 1 0) : okN H' := by
  unfold okN at *
  rw [h1, h2, h3, h4]
  exact h
/-- interest owed -/
theorem Cor.owe {H : hR} {m : mR} (h : CorM H m) {a : Int} {v : UInt64} : CorM (hD H a v) (mD m 0 a v) := by
  obtain ⟨h1, h2, h3, h4, h5⟩ := h
  unfold CorM
  rw [mD_0, mD_1]
  refine ⟨h1, h2, fun a' ha' => ⟨(h3 a' ha').1, ?_⟩, h4, h5⟩
  show (if a' = a then v else m.2 0 a') = if a' = a then v else H.2 a'
  rw [(h3 a' ha').2]
/-- what the reference has not: waits 11, an order's waiting and what aim() tells, the day's failed payers, room -/
theorem Cor.own {H H' : hR} {m : mR} (h : CorM H m) (hk : okN H) (hH : ∀ t a b : Int, ¬ (t = 0 ∧ a = 11) → ¬ (t = 2 ∧ b = 11) → ¬ (t = 3 ∧ (b = 15 ∨ b = 17 ∨ b = 18 ∨ b = 19)) → ¬ (t = 4 ∧ a = 1) → H'.1 t a b = H.1 t a b) (hD : H'.2 = H.2) : CorM H' m := by
  obtain ⟨h1, h2, h3, h4, h5⟩ := h
  have e1 := h1.2.1
  have e2 := h1.2.2.1
  unfold okN at hk
  exact ⟨h1.fr (fun t a' q => hH _ _ _ (by omega) (by omega) (by omega) (by omega)) (fun k q => rfl), h2.fr (fun a' => hH _ _ _ (by omega) (by omega) (by omega) (by omega)) (fun k q => rfl), h3.fr (fun a f q => hH _ _ _ (by omega) (by omega) (by omega) (by omega)) (fun a => by rw [hD]) (fun k q => rfl) (fun a => rfl) (by omega), h4.fr (fun o f q => hH _ _ _ (by omega) (by omega) (by omega) (by omega)) (fun k q => rfl) (by omega), h5.fr (fun c i q => hH _ _ _ (by omega) (by omega) (by omega) (by omega)) (fun i q => rfl) (Int.le_refl _)⟩
/-- the reference's other rows -/
theorem Cor.oth {H : hR} {m m' : mR} (h : CorM H m) (h0 : m'.1 0 = m.1 0) (h1 : m'.1 1 = m.1 1) (h2 : m'.2 0 = m.2 0) : CorM H m' := by
  unfold CorM
  rw [h0, h1, h2]
  exact h

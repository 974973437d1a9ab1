/-! ===== the next occurrence on both sides ===== -/
theorem calC.fr {H H' : hR} {b : Int → Bool} (h : calC H b) (h6 : ∀ a : Int, H'.1 6 a 0 = H.1 6 a 0) (h1 : H'.1 1 2 0 = H.1 1 2 0) : calC H' b := by
  intro d hd
  rw [← h d hd]
  unfold fX1_isBusiness
  rw [h1, h6]
theorem calM.fr {m m' : mR} {b : Int → Bool} (hh : holOK (m.1 0)) (hw : 0 ≤ m.1 0 12 ∧ m.1 0 12 ≤ 6) (h : calM m b) (hN : ∀ k : Int, k = 3 ∨ (12 ≤ k ∧ k ≤ 32) → m'.1 0 k = m.1 0 k) : calM m' b := by
  intro d hd
  rw [← h d hd, em_isBz hd hw hh, em_isBz hd (by rw [hN 12 (by decide)]; exact hw) (hh.fr (fun k hk => hN k (by omega)))]
  unfold mB
  rw [hN 12 (by decide), hN 3 (by decide)]
  congr 2
  unfold biz
  rw [holN_fr (N := m.1 0) (fun k hk => hN k (by omega)) _ _ (by have := hh.1; have := hh.2.1; omega)]
def ixF (b : Int → Bool) (H : hR) (o fr : Int) : Int := if ¬ nomO b H o fr = -6 ∧ nomO b H o fr < H.1 3 o 6 then fr + 1 else fr
def dtF (b : Int → Bool) (H : hR) (o k : Int) : Int := if nomO b H o k = -6 then 1095 else shZ b (nomO b H o k) (H.1 3 o 7)
theorem ixF_rng (b : Int → Bool) (H : hR) (o fr : Int) : fr ≤ ixF b H o fr ∧ ixF b H o fr ≤ fr + 1 := by
  unfold ixF; split <;> omega
/-- what stands at the next index: none, or not before the first day -/
theorem ixF_ge {b : Int → Bool} {H : hR} {o fr : Int} (h : okOrd H o) (hf : 0 ≤ fr) : nomO b H o (ixF b H o fr) = -6 ∨ H.1 3 o 6 ≤ nomO b H o (ixF b H o fr) := by
  unfold ixF
  split
  · have := nomO_ge (b := b) h (k := fr + 1) (by omega)
    omega
  · omega
theorem ixF_id {b : Int → Bool} {H : hR} {o fr : Int} (h : okOrd H o) (hf : 1 ≤ fr) : ixF b H o fr = fr := by
  have := nomO_ge (b := b) h hf
  unfold ixF
  rw [if_neg (by omega)]
theorem dtF_rng {b : Int → Bool} {H : hR} {o k : Int} (h : okOrd H o) (hk : 0 ≤ k) : dtF b H o k = 1095 ∧ nomO b H o k = -6 ∨ (¬ nomO b H o k = -6 ∧ dtF b H o k = shZ b (nomO b H o k) (H.1 3 o 7) ∧ 0 ≤ dtF b H o k ∧ dtF b H o k ≤ 1094) := by
  have h1 := nomO_rng (b := b) h hk
  unfold dtF
  by_cases g : nomO b H o k = -6
  · rw [if_pos g]; exact Or.inl ⟨rfl, g⟩
  · rw [if_neg g]
    have := shZ_rng b (d := nomO b H o k) (r := H.1 3 o 7) (by omega)
    exact Or.inr ⟨g, rfl, this⟩
theorem ixF_fr {b : Int → Bool} {H H' : hR} {o : Int} (hH : ∀ f : Int, 3 ≤ f ∧ f ≤ 7 → H'.1 3 o f = H.1 3 o f) (k : Int) : ixF b H' o k = ixF b H o k := by
  unfold ixF
  rw [nomO_fr (fun f hf => hH f (by omega)), hH 6 (by decide)]
theorem dtF_fr {b : Int → Bool} {H H' : hR} {o : Int} (hH : ∀ f : Int, 3 ≤ f ∧ f ≤ 7 → H'.1 3 o f = H.1 3 o f) (k : Int) : dtF b H' o k = dtF b H o k := by
  unfold dtF
  rw [nomO_fr (fun f hf => hH f (by omega)), hH 7 (by decide)]
/-- only an order's own numbers of what comes next are other -/
def onlyAim (o : Int) (H H' : hR) : Prop := (∀ t a f : Int, ¬ (t = 3 ∧ a = o ∧ (f = 17 ∨ f = 18 ∨ f = 19)) → H'.1 t a f = H.1 t a f) ∧ H'.2 = H.2
def aimed (b : Int → Bool) (H : hR) (o : Int) : Prop := H.1 3 o 17 = ixF b H o (H.1 3 o 16) ∧ H.1 3 o 18 = nomO b H o (ixF b H o (H.1 3 o 16)) ∧ H.1 3 o 19 = dtF b H o (ixF b H o (H.1 3 o 16))
theorem ec_aim {b : Int → Bool} {H : hR} {o : Int} (hb : calC H b) (h : okOrd H o) (hf : 0 ≤ H.1 3 o 16 ∧ H.1 3 o 16 ≤ 1900) : po (fX3_aim o H) (fun p => onlyAim o H p.2 ∧ aimed b p.2 o) := by
  have key : ∀ (H1 : hR) (k : Int), onlyAim o H H1 → H1.1 3 o 17 = k → H1.1 3 o 18 = nomO b H o k → 0 ≤ k → ixF b H o (H.1 3 o 16) = k → po (fX3_aim_b64 o H1) (fun p => onlyAim o H p.2 ∧ aimed b p.2 o) := by
    intro H1 k h1 h2 h3 hk h4
    have hn := nomO_rng (b := b) h hk
    have h5 := h1.1 3 o 7 (by omega)
    have h6 : ∀ f : Int, 3 ≤ f ∧ f ≤ 7 → (hS H1 3 o 19 (dtF b H o k)).1 3 o f = H.1 3 o f := fun f hf => by rw [hS_n H1 (by omega)]; exact h1.1 3 o f (by omega)
    have hb1 : calC H1 b := hb.fr (fun a => h1.1 6 a 0 (by omega)) (h1.1 1 2 0 (by omega))
    have fin : onlyAim o H (hS H1 3 o 19 (dtF b H o k)) ∧ aimed b (hS H1 3 o 19 (dtF b H o k)) o := by
      refine ⟨⟨fun t a f q => by rw [hS_n H1 (by omega)]; exact h1.1 t a f q, h1.2⟩, ?_⟩
      have e16 : (hS H1 3 o 19 (dtF b H o k)).1 3 o 16 = H.1 3 o 16 := by rw [hS_n H1 (by omega)]; exact h1.1 3 o 16 (by omega)
      unfold aimed
      rw [e16, ixF_fr h6, h4, dtF_fr h6, nomO_fr (fun f hf => h6 f (by omega)), hS_p, hS_n H1 (by omega), hS_n H1 (by omega)]
      exact ⟨h2, h3, rfl⟩
    unfold fX3_aim_b64 fX3_aim_b92
    rw [h3]
    refine po_gd (by omega) (po_if (fun g => ?_) (fun g => ?_))
    · refine po_bnd (po_some ?_)
      have : dtF b H o k = 1095 := if_pos g
      rw [this] at fin
      exact fin
    · rw [h5]
      refine po_cre (ec_shifted hb1 (by have := h.2.2.2.2; omega)) (po_bnd (po_some ?_))
      have : dtF b H o k = shZ b (nomO b H o k) (H.1 3 o 7) := if_neg g
      rw [this] at fin
      exact fin
  have hn := nomO_rng (b := b) h hf.1
  have hfi := h.2.2.2.1
  unfold fX3_aim
  refine po_bnd ?_
  have o1 : onlyAim o H (hS H 3 o 17 (H.1 3 o 16)) := ⟨fun t a f q => hS_n H (by omega), rfl⟩
  have b1 : calC (hS H 3 o 17 (H.1 3 o 16)) b := hb.fr (fun a => hS_n H (by omega)) (hS_n H (by omega))
  have k1 : okOrd (hS H 3 o 17 (H.1 3 o 16)) o := h.fr (fun f hf => hS_n H (by omega))
  rw [hS_n H (show ¬ ((3 : Int) = 3 ∧ o = o ∧ (16 : Int) = 17) by omega)]
  refine po_cre (ec_nominal b1 k1 (by omega)) (po_bnd ?_)
  rw [nomO_fr (H := H) (H' := hS H 3 o 17 (H.1 3 o 16)) (fun f hf => hS_n H (by omega)), hS_p]
  refine po_gd (by omega) (po_if (fun g => ?_) (fun g => po_gd ?_ (po_if (fun g2 => ?_) (fun g2 => ?_))))
  · refine key _ (H.1 3 o 16) ⟨fun t a f q => by rw [hS_n _ (by omega), hS_n _ (by omega)], rfl⟩ (by rw [hS_n _ (by omega), hS_p]) (hS_p _ _ _ _ _) hf.1 (if_neg (fun q => q.1 g))
  · rw [hS_n _ (show ¬ ((3 : Int) = 3 ∧ o = o ∧ (6 : Int) = 18) by omega), hS_n _ (show ¬ ((3 : Int) = 3 ∧ o = o ∧ (6 : Int) = 17) by omega)]
    omega
  · rw [hS_n _ (show ¬ ((3 : Int) = 3 ∧ o = o ∧ (6 : Int) = 18) by omega), hS_n _ (show ¬ ((3 : Int) = 3 ∧ o = o ∧ (6 : Int) = 17) by omega)] at g2
    refine key _ (H.1 3 o 16) ⟨fun t a f q => by rw [hS_n _ (by omega), hS_n _ (by omega)], rfl⟩ (by rw [hS_n _ (by omega), hS_p]) (hS_p _ _ _ _ _) hf.1 (if_neg (by omega))
  · rw [hS_n _ (show ¬ ((3 : Int) = 3 ∧ o = o ∧ (6 : Int) = 18) by omega), hS_n _ (show ¬ ((3 : Int) = 3 ∧ o = o ∧ (6 : Int) = 17) by omega)] at g2
    refine po_bnd ?_
    rw [hS_n _ (show ¬ ((3 : Int) = 3 ∧ o = o ∧ (16 : Int) = 18) by omega), hS_n _ (show ¬ ((3 : Int) = 3 ∧ o = o ∧ (16 : Int) = 17) by omega), hS_p]
    refine po_cre (ec_nominal (b := b) (hb.fr (fun a => by rw [hS_n _ (by omega), hS_n _ (by omega), hS_n _ (by omega)]) (by rw [hS_n _ (by omega), hS_n _ (by omega), hS_n _ (by omega)])) (h.fr (fun f hf => by rw [hS_n _ (by omega), hS_n _ (by omega), hS_n _ (by omega)])) (by omega)) (po_bnd ?_)
    rw [nomO_fr (b := b) (H := H) (H' := hS (hS (hS H 3 o 17 (H.1 3 o 16)) 3 o 18 (nomO b H o (H.1 3 o 16))) 3 o 17 (H.1 3 o 16 + 1)) (fun f hf => by rw [hS_n _ (by omega), hS_n _ (by omega), hS_n _ (by omega)])]
    exact key _ (H.1 3 o 16 + 1) ⟨fun t a f q => by rw [hS_n _ (by omega), hS_n _ (by omega), hS_n _ (by omega), hS_n _ (by omega)], rfl⟩ (by rw [hS_n _ (by omega), hS_p]) (hS_p _ _ _ _ _) (by omega) (if_pos ⟨g, by omega⟩)
/-- the reference's answer for an index -/
def nomR (x fi : Int) : Int := if x = -6 then 5000 else if x < fi then -6 else x
theorem em_nominal {b : Int → Bool} {H : hR} {m : mR} {o k : Int} (hb : calM m b) (h : okOrd H o) (hc : ∀ f : Int, 0 ≤ f ∧ f ≤ 15 → m.1 0 (121 + 16 * o + f) = ordN H o f) (ho : 0 ≤ o ∧ o < 16) (hk : 0 ≤ k ∧ k ≤ 2000) : fX7_nominal o k m = some (nomR (nomO b H o k) (H.1 3 o 6)) := by
  have hn := nomO_rng (b := b) h hk.1
  obtain ⟨h1, h2, h3, h4, h5⟩ := h
  have hp := mul_bnd hk.1 hk.2 (show 0 ≤ H.1 3 o 4 by omega) h2.2
  have hm := mOf_in h4
  have c6 : m.1 0 (121 + 16 * o + 6) = H.1 3 o 6 := hc 6 (by decide)
  have c3 : m.1 0 (121 + 16 * o + 3) = H.1 3 o 3 := hc 3 (by decide)
  have c4 : m.1 0 (121 + 16 * o + 4) = H.1 3 o 4 := hc 4 (by decide)
  have c5 : m.1 0 (121 + 16 * o + 5) = H.1 3 o 5 := hc 5 (by decide)
  have e0 : H.1 3 o 3 = 0 → nomO b H o k = if 1094 < H.1 3 o 6 + k * H.1 3 o 4 then -6 else H.1 3 o 6 + k * H.1 3 o 4 := fun g => if_pos g
  have e1 : H.1 3 o 3 = 1 → nomO b H o k = if 1094 < H.1 3 o 6 + 7 * (k * H.1 3 o 4) then -6 else H.1 3 o 6 + 7 * (k * H.1 3 o 4) := fun g => (if_neg (by omega)).trans (if_pos g)
  have e2 : ¬ H.1 3 o 3 = 0 → ¬ H.1 3 o 3 = 1 → nomO b H o k = if 35 < mOf (H.1 3 o 6) + k * H.1 3 o 4 then -6 else if H.1 3 o 3 = 2 then min (mFirst (mOf (H.1 3 o 6) + k * H.1 3 o 4) + H.1 3 o 5 - 1) (mLast (mOf (H.1 3 o 6) + k * H.1 3 o 4)) else lastOfB b (mOf (H.1 3 o 6) + k * H.1 3 o 4) := fun g g' => (if_neg g).trans (if_neg g')
  have fin : ∀ x : Int, -100000 ≤ x ∧ x ≤ 1000000 → fX7_nominal_b102 m (H.1 3 o 6) x = some (if 1094 < x then 5000 else if x < H.1 3 o 6 then -6 else x) := by
    intro x hx
    refine po_eq ?_
    unfold fX7_nominal_b102
    refine po_gd (by omega) (po_if (fun g => po_gd (by omega) (po_if (fun g2 => po_some ?_) (fun g2 => po_some ?_))) (fun g => po_some ?_))
    · rw [if_neg (by omega), if_neg (by omega)]
    · rw [if_neg (by omega), if_pos (by omega)]
    · rw [if_pos (by omega)]
  refine po_eq ?_
  unfold fX7_nominal
  refine po_cre (ev_ofO (by omega)) (po_cre (ev_ofO (by omega)) (po_cre (ev_ofO (by omega)) ?_))
  rw [c6, c3, c4]
  refine po_gd (by omega) (po_if (fun g => po_cre (em_monthOf h4) (po_gd (by omega) (po_if (fun g2 => po_gd (by omega) (po_if (fun g3 => ?_) (fun g3 => ?_))) (fun g2 => po_some ?_)))) (fun g => po_gd (by omega) (po_if (fun g2 => ?_) (fun g2 => ?_))))
  · have e := e2 (by omega) (by omega)
    have hr := m_rng (m := mOf (H.1 3 o 6) + k * H.1 3 o 4) (by omega)
    rw [if_neg (by omega), if_pos g3] at e
    have hd : fX7_dayIn (mOf (H.1 3 o 6) + k * H.1 3 o 4) (H.1 3 o 5) = some (nomO b H o k) := by
      refine po_eq ?_
      unfold fX7_dayIn
      refine po_cre (em_length (by omega)) (po_cre (em_start (by omega)) (po_gd (by omega) (po_if (fun g4 => po_some ?_) (fun g4 => po_some ?_))))
      · omega
      · omega
    refine po_cre (ev_ofO (by omega)) ?_
    rw [c5]
    refine po_cre hd (po_of (fin _ (by omega)) ?_)
    unfold nomR
    rw [if_neg (by omega), if_neg (show ¬ nomO b H o k = -6 by omega)]
  · have e := e2 (by omega) (by omega)
    have hr := m_rng (m := mOf (H.1 3 o 6) + k * H.1 3 o 4) (by omega)
    have hl := lastBz_rng b (mLast (mOf (H.1 3 o 6) + k * H.1 3 o 4))
    have hlo := lastOfB_rng b (mo := mOf (H.1 3 o 6) + k * H.1 3 o 4) (by omega)
    rw [if_neg (by omega), if_neg g3] at e
    have hd : fX7_lastOf (mOf (H.1 3 o 6) + k * H.1 3 o 4) m = some (nomO b H o k) := by
      rw [e]
      refine po_eq ?_
      unfold fX7_lastOf
      refine po_cre (em_start (by omega)) (po_cre (em_length (by omega)) ?_)
      rw [show mFirst (mOf (H.1 3 o 6) + k * H.1 3 o 4) + (mLast (mOf (H.1 3 o 6) + k * H.1 3 o 4) - mFirst (mOf (H.1 3 o 6) + k * H.1 3 o 4) + 1) - 1 = mLast (mOf (H.1 3 o 6) + k * H.1 3 o 4) by omega]
      refine po_cre (em_lastB hb (by omega)) (po_gd (by omega) (po_if (fun g4 => po_some ?_) (fun g4 => po_cre (em_start (by omega)) (po_gd (by omega) (po_if (fun g5 => po_some ?_) (fun g5 => po_some ?_))))))
      · exact (if_pos (by omega)).symm
      · exact (if_neg (by omega)).symm
      · exact (if_pos (by omega)).symm
    refine po_cre hd (po_of (fin _ (by omega)) ?_)
    unfold nomR
    rw [if_neg (by omega), if_neg (show ¬ nomO b H o k = -6 by omega)]
  · have e := e2 (by omega) (by omega)
    rw [if_pos (by omega)] at e
    rw [e]
    rfl
  · have e := e0 (by omega)
    refine po_of (fin _ (by omega)) ?_
    by_cases q : 1094 < H.1 3 o 6 + k * H.1 3 o 4
    · rw [if_pos q] at e
      rw [if_pos q, e]
      rfl
    · rw [if_neg q] at e
      unfold nomR
      rw [if_neg q, if_neg (show ¬ nomO b H o k = -6 by omega), e]
  · have e := e1 (by omega)
    refine po_of (fin _ (by omega)) ?_
    by_cases q : 1094 < H.1 3 o 6 + 7 * (k * H.1 3 o 4)
    · rw [if_pos q] at e
      rw [if_pos q, e]
      rfl
    · rw [if_neg q] at e
      unfold nomR
      rw [if_neg q, if_neg (show ¬ nomO b H o k = -6 by omega), e]

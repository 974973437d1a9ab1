/-! ===== the plain functions: what they come to ===== -/
def po {α : Type} (o : Option α) (Q : α → Prop) : Prop := ∃ y, o = some y ∧ Q y
theorem po.mono {α : Type} {o : Option α} {Q R : α → Prop} (h : po o Q) (k : ∀ y, Q y → R y) : po o R := by
  obtain ⟨y, h1, h2⟩ := h
  exact ⟨y, h1, k y h2⟩
theorem po_some {α : Type} {y : α} {Q : α → Prop} (h : Q y) : po (some y) Q := ⟨y, rfl, h⟩
theorem po_of {α : Type} {o : Option α} {y : α} {Q : α → Prop} (e : o = some y) (h : Q y) : po o Q := ⟨y, e, h⟩
theorem po_eq {α : Type} {o : Option α} {y : α} (h : po o (fun z => z = y)) : o = some y := by
  obtain ⟨z, h1, rfl⟩ := h
  exact h1
theorem po_gd {α : Type} {p : Prop} {Q : α → Prop} [Decidable p] {k : Option α} (h : p) (hk : po k Q) : po (gd p k) Q := by rw [gd_pos h]; exact hk
theorem po_bnd {α β : Type} {x : β} {k : β → Option α} {Q : α → Prop} (h : po (k x) Q) : po (bnd x k) Q := h
theorem po_ift {α : Type} {p : Prop} [Decidable p] {Q : α → Prop} {a b : Option α} (h : p) (hk : po a Q) : po (if p then a else b) Q := by rw [if_pos h]; exact hk
theorem po_iff {α : Type} {p : Prop} [Decidable p] {Q : α → Prop} {a b : Option α} (h : ¬ p) (hk : po b Q) : po (if p then a else b) Q := by rw [if_neg h]; exact hk
theorem po_if {α : Type} {p : Prop} [Decidable p] {Q : α → Prop} {a b : Option α} (ha : p → po a Q) (hb : ¬ p → po b Q) : po (if p then a else b) Q := by
  by_cases h : p
  · exact po_ift h (ha h)
  · exact po_iff h (hb h)
theorem po_cr {α β : Type} {o : Option β} {k : β → Option α} {R : β → Prop} {Q : α → Prop} (h : po o R) (hk : ∀ y, R y → po (k y) Q) : po (cr o k) Q := by
  obtain ⟨y, rfl, hy⟩ := h
  exact hk y hy
theorem po_cl {α β S : Type} {o : Option (β × S)} {k : β → S → Option α} {R : β × S → Prop} {Q : α → Prop} (h : po o R) (hk : ∀ y s, R (y, s) → po (k y s) Q) : po (cl o k) Q := by
  obtain ⟨⟨y, s⟩, rfl, hy⟩ := h
  exact hk y s hy
theorem po_cre {α β : Type} {o : Option β} {k : β → Option α} {v : β} {Q : α → Prop} (e : o = some v) (hk : po (k v) Q) : po (cr o k) Q := by rw [e]; exact hk
theorem po_cle {α β S : Type} {o : Option (β × S)} {k : β → S → Option α} {v : β} {s : S} {Q : α → Prop} (e : o = some (v, s)) (hk : po (k v s) Q) : po (cl o k) Q := by rw [e]; exact hk
theorem po_crs {α β : Type} {k : β → Option α} {v : β} {Q : α → Prop} (hk : po (k v) Q) : po (cr (some v) k) Q := hk
theorem po_cls {α β S : Type} {k : β → S → Option α} {v : β} {s : S} {Q : α → Prop} (hk : po (k v s) Q) : po (cl (some (v, s)) k) Q := hk
/-- 1 or 0 -/
def bI (b : Bool) : Int := if b then 1 else 0
theorem bI_t {b : Bool} (h : b = true) : bI b = 1 := by rw [h]; rfl
theorem bI_f {b : Bool} (h : b = false) : bI b = 0 := by rw [h]; rfl
theorem bI_rng (b : Bool) : 0 ≤ bI b ∧ bI b ≤ 1 := by cases b <;> decide
theorem hS_1 (H : hR) (t a b v t' a' b' : Int) : (hS H t a b v).1 t' a' b' = if t' = t ∧ a' = a ∧ b' = b then v else H.1 t' a' b' := rfl
theorem hS_2 (H : hR) (t a b v : Int) : (hS H t a b v).2 = H.2 := rfl
theorem hD_1 (H : hR) (i : Int) (v : UInt64) : (hD H i v).1 = H.1 := rfl
theorem hD_2 (H : hR) (i : Int) (v : UInt64) (j : Int) : (hD H i v).2 j = if j = i then v else H.2 j := rfl
theorem mS_1 (m : mR) (t a v t' a' : Int) : (mS m t a v).1 t' a' = if t' = t ∧ a' = a then v else m.1 t' a' := rfl
theorem mS_2 (m : mR) (t a v : Int) : (mS m t a v).2 = m.2 := rfl
theorem mD_1 (m : mR) (t a : Int) (v : UInt64) : (mD m t a v).1 = m.1 := rfl
theorem mD_2 (m : mR) (t a : Int) (v : UInt64) (t' a' : Int) : (mD m t a v).2 t' a' = if t' = t ∧ a' = a then v else m.2 t' a' := rfl
theorem hS_p (H : hR) (t a b v : Int) : (hS H t a b v).1 t a b = v := if_pos ⟨rfl, rfl, rfl⟩
theorem hS_n (H : hR) {t a b v t' a' b' : Int} (h : ¬ (t' = t ∧ a' = a ∧ b' = b)) : (hS H t a b v).1 t' a' b' = H.1 t' a' b' := if_neg h
theorem mS_p (m : mR) (t a v : Int) : (mS m t a v).1 t a = v := if_pos ⟨rfl, rfl⟩
theorem mS_n (m : mR) {t a v t' a' : Int} (h : ¬ (t' = t ∧ a' = a)) : (mS m t a v).1 t' a' = m.1 t' a' := if_neg h
/-! between -/
theorem ev_btT {v a b : Int} (h : wR v ∧ wR a ∧ wR b ∧ a ≤ v ∧ v ≤ b) : fX6_isBetween v a b = some 1 := by
  unfold fX6_isBetween
  rw [gd_pos (by omega), if_neg (by omega), gd_pos (by omega), if_neg (by omega)]
theorem ev_btF {v a b : Int} (h : wR v ∧ wR a ∧ wR b ∧ (v < a ∨ b < v)) : fX6_isBetween v a b = some 0 := by
  unfold fX6_isBetween
  rw [gd_pos (by omega)]
  by_cases h1 : v < a
  · rw [if_pos h1]
  · rw [if_neg h1, gd_pos (by omega), if_pos (by omega)]
theorem ev_bt {v a b : Int} (h : wR v ∧ wR a ∧ wR b) : fX6_isBetween v a b = some (bI (decide (a ≤ v ∧ v ≤ b))) := by
  by_cases g : a ≤ v ∧ v ≤ b
  · rw [ev_btT (by omega), bI_t (decide_eq_true g)]
  · rw [ev_btF (by omega), bI_f (decide_eq_false g)]
theorem ev_inT {v a b : Int} (h : wR64 v ∧ wR64 a ∧ wR64 b ∧ a ≤ v ∧ v ≤ b) : fX7_isIn v a b = some 1 := by
  unfold fX7_isIn
  rw [gd_pos (by omega), if_neg (by omega), gd_pos (by omega), if_neg (by omega)]
theorem ev_inF {v a b : Int} (h : wR64 v ∧ wR64 a ∧ wR64 b ∧ (v < a ∨ b < v)) : fX7_isIn v a b = some 0 := by
  unfold fX7_isIn
  rw [gd_pos (by omega)]
  by_cases h1 : v < a
  · rw [if_pos h1]
  · rw [if_neg h1, gd_pos (by omega), if_pos (by omega)]
theorem ev_in {v a b : Int} (h : wR64 v ∧ wR64 a ∧ wR64 b) : fX7_isIn v a b = some (bI (decide (a ≤ v ∧ v ≤ b))) := by
  by_cases g : a ≤ v ∧ v ≤ b
  · rw [ev_inT (by omega), bI_t (decide_eq_true g)]
  · rw [ev_inF (by omega), bI_f (decide_eq_false g)]
theorem ev_of {k : Int} {m : mR} (h : 0 ≤ k ∧ k < 377) : fX7_of k m = some (m.1 0 k) := by
  unfold fX7_of
  rw [gd_pos h]
theorem ev_today {m : mR} : fX7_today m = some (m.1 0 0) := by
  unfold fX7_today
  rw [ev_of (by decide), cr_some]
theorem ev_ofO {o w : Int} {m : mR} (h : 0 ≤ o ∧ o < 16 ∧ 0 ≤ w ∧ w < 16) : fX7_ofO o w m = some (m.1 0 (121 + 16 * o + w)) := by
  unfold fX7_ofO
  rw [ev_of (by omega), cr_some]
theorem ev_ofA {a w : Int} {m : mR} (h : 0 ≤ a ∧ a < 8 ∧ 0 ≤ w ∧ w < 11) : fX7_ofA a w m = some (m.1 0 (33 + 11 * a + w)) := by
  unfold fX7_ofA
  rw [ev_of (by omega), cr_some]
theorem ev_money {a w : Int} {m : mR} (h : 0 ≤ a ∧ a < 8 ∧ 0 ≤ w ∧ w < 8) : fX7_moneyOf a w m = some (m.1 0 (33 + 11 * a + 3 + w)) := by
  unfold fX7_moneyOf
  rw [gd_pos (by omega)]
theorem ev_hasA {a : Int} {H : hR} (h : wR a ∧ wR (H.1 0 4 0)) : fX2_hasAccount a H = some (bI (decide (0 ≤ a ∧ a < H.1 0 4 0))) := by
  refine po_eq ?_
  unfold fX2_hasAccount
  refine po_gd (by omega) (po_if (fun h1 => po_some ?_) (fun h1 => po_gd (by omega) (po_if (fun h2 => po_some ?_) (fun h2 => po_some ?_))))
  · rw [bI_f (decide_eq_false (by omega))]
  · rw [bI_f (decide_eq_false (by omega))]
  · rw [bI_t (decide_eq_true (by omega))]
theorem ev_hasO {a : Int} {H : hR} (h : wR a ∧ wR (H.1 0 5 0)) : fX2_hasOrder a H = some (bI (decide (0 ≤ a ∧ a < H.1 0 5 0))) := by
  refine po_eq ?_
  unfold fX2_hasOrder
  refine po_gd (by omega) (po_if (fun h1 => po_some ?_) (fun h1 => po_gd (by omega) (po_if (fun h2 => po_some ?_) (fun h2 => po_some ?_))))
  · rw [bI_f (decide_eq_false (by omega))]
  · rw [bI_f (decide_eq_false (by omega))]
  · rw [bI_t (decide_eq_true (by omega))]
theorem ev_isA {a : Int} {m : mR} (h : wR a ∧ wR (m.1 0 1)) : fX7_isAccount a m = some (bI (decide (0 ≤ a ∧ a < m.1 0 1))) := by
  refine po_eq ?_
  unfold fX7_isAccount
  by_cases g : 0 ≤ a ∧ a < m.1 0 1
  · refine po_gd (by omega) (po_cre (ev_inT (by omega)) (po_gd (by omega) (po_some ?_)))
    rw [bI_t (decide_eq_true g)]
  · refine po_gd (by omega) (po_cre (ev_inF (by omega)) (po_gd (by omega) (po_some ?_)))
    rw [bI_f (decide_eq_false g)]
theorem ev_isO {a : Int} {m : mR} (h : wR a ∧ wR (m.1 0 2)) : fX7_isOrder a m = some (bI (decide (0 ≤ a ∧ a < m.1 0 2))) := by
  refine po_eq ?_
  unfold fX7_isOrder
  by_cases g : 0 ≤ a ∧ a < m.1 0 2
  · refine po_gd (by omega) (po_cre (ev_inT (by omega)) (po_gd (by omega) (po_some ?_)))
    rw [bI_t (decide_eq_true g)]
  · refine po_gd (by omega) (po_cre (ev_inF (by omega)) (po_gd (by omega) (po_some ?_)))
    rw [bI_f (decide_eq_false g)]

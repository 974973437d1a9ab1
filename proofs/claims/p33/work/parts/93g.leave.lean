/-! ===== which occurrence is next; those that are left out ===== -/
def ocF (b : Int → Bool) (H : hR) (o fr : Int) : Int := if nomO b H o (ixF b H o fr) = -6 then -6 else ixF b H o fr
/-- the cells of one order -/
def corR (H : hR) (N : Int → Int) (o : Int) : Prop := ∀ f : Int, 0 ≤ f ∧ f ≤ 15 → N (121 + 16 * o + f) = ordN H o f
theorem em_occ {b : Int → Bool} {H : hR} {m : mR} {o fr : Int} (hb : calM m b) (h : okOrd H o) (hc : corR H (m.1 0) o) (ho : 0 ≤ o ∧ o < 16) (hf : 0 ≤ fr ∧ fr ≤ 1900) : fX7_occurrence o fr m = some (ocF b H o fr) := by
  have h1 := em_nominal (k := fr) hb h hc ho (by omega)
  have h2 := em_nominal (k := fr + 1) hb h hc ho (by omega)
  have n1 := nomO_rng (b := b) h hf.1
  have n2 := nomO_rng (b := b) (k := fr + 1) h (by omega)
  have g2 := nomO_ge (b := b) (k := fr + 1) h (by omega)
  have hfi := h.2.2.2.1
  have last : ∀ (fuel : Nat) (k : Int), (nomO b H o k = -6 ∨ (H.1 3 o 6 ≤ nomO b H o k ∧ nomO b H o k ≤ 1094)) → fX7_nominal o k m = some (nomR (nomO b H o k) (H.1 3 o 6)) → fX7_occurrence_b2 m (fuel + 1) o k = some (if nomO b H o k = -6 then -6 else k) := by
    intro fuel k hk e
    unfold fX7_occurrence_b2
    rw [e, cr_some]
    rcases hk with hk | hk
    · rw [show nomR (nomO b H o k) (H.1 3 o 6) = 5000 from if_pos hk, gd_pos (by decide), if_neg (by decide), cr_some, gd_pos (by decide), if_pos rfl, if_pos hk]
    · have : nomR (nomO b H o k) (H.1 3 o 6) = nomO b H o k := (if_neg (by omega)).trans (if_neg (by omega))
      rw [this, gd_pos (by omega), if_neg (by omega), cr_some, gd_pos (by omega), if_neg (by omega), if_neg (by omega)]
  unfold fX7_occurrence ocF
  by_cases g : ¬ nomO b H o fr = -6 ∧ nomO b H o fr < H.1 3 o 6
  · have e : ixF b H o fr = fr + 1 := if_pos g
    rw [e]
    show fX7_occurrence_b2 m (999999 + 1) o fr = _
    unfold fX7_occurrence_b2
    have : nomR (nomO b H o fr) (H.1 3 o 6) = -6 := (if_neg g.1).trans (if_pos g.2)
    rw [h1, cr_some, this, gd_pos (by decide), if_pos rfl]
    exact last 999998 (fr + 1) (by omega) h2
  · have e : ixF b H o fr = fr := if_neg g
    rw [e]
    exact last 999999 fr (by omega) h1
theorem em_dateBy {b : Int → Bool} {H : hR} {m : mR} {o k : Int} (hb : calM m b) (h : okOrd H o) (hc : corR H (m.1 0) o) (ho : 0 ≤ o ∧ o < 16) (hk : 0 ≤ k ∧ k ≤ 2000) (hn : ¬ nomO b H o k = -6 ∧ H.1 3 o 6 ≤ nomO b H o k) : fX7_dateBy o k m = some (dtF b H o k) := by
  have h1 := em_nominal (k := k) hb h hc ho hk
  have n1 := nomO_rng (b := b) h hk.1
  have c7 : m.1 0 (121 + 16 * o + 7) = H.1 3 o 7 := hc 7 (by decide)
  have e1 : nomR (nomO b H o k) (H.1 3 o 6) = nomO b H o k := (if_neg hn.1).trans (if_neg (by omega))
  have e2 : dtF b H o k = shZ b (nomO b H o k) (H.1 3 o 7) := if_neg hn.1
  unfold fX7_dateBy
  rw [h1, cr_some, ev_ofO (by omega), cr_some, c7, e1, em_shifted hb (by have := h.2.2.2.2; omega), cr_some, e2]
theorem ev_becomes {m : mR} {o f v : Int} (ho : 0 ≤ o ∧ o < 16) (hf : 0 ≤ f ∧ f ≤ 15) (hv : wR v) : fX7_becomes o f v m = some ((), mS m 0 (121 + 16 * o + f) v) := by
  unfold fX7_becomes
  rw [gd_pos hv, gd_pos (by omega), bnd_eq]
/-- only what an order has of its next occurrences -/
def onlyNext (o : Int) (H H' : hR) : Prop := (∀ t a f : Int, ¬ (t = 3 ∧ a = o ∧ (f = 16 ∨ f = 17 ∨ f = 18 ∨ f = 19)) → H'.1 t a f = H.1 t a f) ∧ H'.2 = H.2
def onlyN14 (o : Int) (m m' : mR) : Prop := (∀ t k : Int, ¬ (t = 0 ∧ k = 121 + 16 * o + 14) → m'.1 t k = m.1 t k) ∧ m'.2 = m.2
theorem ordN_14 {H H' : hR} {o : Int} (hH : ∀ f : Int, 0 ≤ f ∧ f ≤ 14 → H'.1 3 o f = H.1 3 o f) {f : Int} (hf : 0 ≤ f ∧ f ≤ 15) (h14 : ¬ f = 14) : ordN H' o f = ordN H o f := by
  unfold ordN
  split
  · rw [hH 1 (by decide)]
  · split
    · exact hH f (by omega)
    · split
      · rw [hH 11 (by decide), hH 10 (by decide)]
      · split
        · exact hH _ (by omega)
        · exact hH 9 (by decide)
theorem ls_leave {b : Int → Bool} {o t : Int} (ho : 0 ≤ o ∧ o < 16) (ht : 0 ≤ t ∧ t ≤ 1094) : ∀ (n fC fM : Nat) (cnt i : Int) (H : hR) (m : mR), (1096 - H.1 3 o 16).toNat = n → n < fC → n < fM → calC H b → calM m b → holOK (m.1 0) → (0 ≤ m.1 0 12 ∧ m.1 0 12 ≤ 6) → m.1 0 0 = t → okOrd H o → corR H (m.1 0) o → aimed b H o → 0 ≤ H.1 3 o 16 → H.1 3 o 16 ≤ 1095 → 0 ≤ i → i ≤ H.1 3 o 16 →
    ∃ r H' m', fX3_leaveOutBefore_b10 fC o t cnt i H = some (r, H') ∧ fX7_leavesOut_b15 fM o cnt (ocF b H o (H.1 3 o 16)) m = some (r, m') ∧ onlyNext o H H' ∧ onlyN14 o m m' ∧ corR H' (m'.1 0) o ∧ aimed b H' o ∧ H.1 3 o 16 ≤ H'.1 3 o 16 ∧ H'.1 3 o 16 ≤ 1095 ∧ t ≤ H'.1 3 o 19 ∧ cnt ≤ r ∧ r ≤ cnt + (1096 - H.1 3 o 16)
  | n, 0, _, _, _, _, _, _, h, _, _, _, _, _, _, _, _, _, _, _, _, _ => by omega
  | n, _ + 1, 0, _, _, _, _, _, _, h, _, _, _, _, _, _, _, _, _, _, _, _ => by omega
  | n, fC + 1, fM + 1, cnt, i, H, m, hn, hC, hM, hbC, hbM, hh, hw, h0, hk, hc, ha, hf0, hf1, hi0, hi1 => by
    obtain ⟨a1, a2, a3⟩ := ha
    have hx := ixF_rng b H o (H.1 3 o 16)
    have hg := ixF_ge (b := b) hk hf0
    have hr := nomO_rng (b := b) (k := ixF b H o (H.1 3 o 16)) hk (by omega)
    have hd := dtF_rng (b := b) (k := ixF b H o (H.1 3 o 16)) hk (by omega)
    by_cases g : nomO b H o (ixF b H o (H.1 3 o 16)) = -6 ∨ t ≤ dtF b H o (ixF b H o (H.1 3 o 16))
    · refine ⟨cnt, H, m, ?_, ?_, ⟨fun _ _ _ _ => rfl, rfl⟩, ⟨fun _ _ _ => rfl, rfl⟩, hc, ⟨a1, a2, a3⟩, by omega, hf1, by omega, by omega, by omega⟩
      · refine po_eq ?_
        unfold fX3_leaveOutBefore_b10
        exact po_gd (by omega) (po_if (fun _ => po_some rfl) (fun _ => po_gd (by omega) (po_ift (by omega) (po_some rfl))))
      · refine po_eq ?_
        unfold fX7_leavesOut_b15
        by_cases g1 : nomO b H o (ixF b H o (H.1 3 o 16)) = -6
        · rw [show ocF b H o (H.1 3 o 16) = -6 from if_pos g1]
          exact po_gd (by decide) (po_ift rfl (po_some rfl))
        · rw [show ocF b H o (H.1 3 o 16) = ixF b H o (H.1 3 o 16) from if_neg g1]
          refine po_gd (by omega) (po_iff (by omega) (po_cre (em_dateBy hbM hk hc ho (by omega) (by omega)) (po_cre ev_today (po_gd (by omega) (po_ift (by omega) (po_some rfl))))))
    · have g1 : ¬ nomO b H o (ixF b H o (H.1 3 o 16)) = -6 := fun q => g (Or.inl q)
      have g2 : dtF b H o (ixF b H o (H.1 3 o 16)) < t := by omega
      have s16 : (hS H 3 o 16 (H.1 3 o 17 + 1)).1 3 o 16 = ixF b H o (H.1 3 o 16) + 1 := by rw [hS_p, a1]
      have k1 : okOrd (hS H 3 o 16 (H.1 3 o 17 + 1)) o := hk.fr (fun f hf => hS_n H (by omega))
      have b1 : calC (hS H 3 o 16 (H.1 3 o 17 + 1)) b := hbC.fr (fun a => hS_n H (by omega)) (hS_n H (by omega))
      obtain ⟨⟨u1, H1⟩, e1, hon, hai⟩ := ec_aim (o := o) b1 k1 (by omega)
      have k2 : okOrd H1 o := k1.fr (fun f hf => hon.1 3 o f (by omega))
      have b2 : calC H1 b := b1.fr (fun a => hon.1 6 a 0 (by omega)) (hon.1 1 2 0 (by omega))
      have f16 : H1.1 3 o 16 = ixF b H o (H.1 3 o 16) + 1 := (hon.1 3 o 16 (by omega)).trans s16
      have hH1 : ∀ f : Int, 0 ≤ f ∧ f ≤ 15 → H1.1 3 o f = H.1 3 o f := fun f hf => (hon.1 3 o f (by omega)).trans (hS_n H (by omega))
      have hN1 : ∀ k : Int, ¬ k = 121 + 16 * o + 14 → (mS m 0 (121 + 16 * o + 14) (ixF b H o (H.1 3 o 16) + 1)).1 0 k = m.1 0 k := fun k q => mS_n m (by omega)
      have c1 : corR H1 ((mS m 0 (121 + 16 * o + 14) (ixF b H o (H.1 3 o 16) + 1)).1 0) o := by
        intro f hf
        by_cases q : f = 14
        · rw [q, mS_p]
          show _ = H1.1 3 o 16
          rw [f16]
        · rw [hN1 _ (by omega), ordN_14 (fun f hf => hH1 f (by omega)) hf q]
          exact hc f hf
      have hh1 : holOK ((mS m 0 (121 + 16 * o + 14) (ixF b H o (H.1 3 o 16) + 1)).1 0) := hh.fr (fun k q => hN1 k (by omega))
      have bm1 : calM (mS m 0 (121 + 16 * o + 14) (ixF b H o (H.1 3 o 16) + 1)) b := calM.fr hh hw hbM (fun k q => hN1 k (by omega))
      obtain ⟨r, H', m', w1, w2, w3, w4, w5, w6, w7, w8, w9, w10, w11⟩ := ls_leave ho ht (1096 - H1.1 3 o 16).toNat fC fM (cnt + 1) (i + 1) H1 _ rfl (by omega) (by omega) b2 bm1 hh1 (by rw [hN1 12 (by omega)]; exact hw) (by rw [hN1 0 (by omega)]; exact h0) k2 c1 hai (by omega) (by omega) (by omega) (by omega)
      refine ⟨r, H', m', ?_, ?_, ⟨fun t' a f q => ?_, ?_⟩, ⟨fun t' k q => (w4.1 t' k q).trans (mS_n m q), w4.2⟩, w5, w6, by omega, w8, w9, by omega, by omega⟩
      · refine po_eq ?_
        unfold fX3_leaveOutBefore_b10
        exact po_gd (by omega) (po_iff (by omega) (po_gd (by omega) (po_iff (by omega) (po_bnd (po_cle e1 (po_of w1 rfl))))))
      · refine po_eq ?_
        unfold fX7_leavesOut_b15
        rw [show ocF b H o (H.1 3 o 16) = ixF b H o (H.1 3 o 16) from if_neg g1]
        refine po_gd (by omega) (po_iff (by omega) (po_cre (em_dateBy hbM hk hc ho (by omega) (by omega)) (po_cre ev_today (po_gd (by omega) (po_iff (by omega) (po_cle (ev_becomes ho (by decide) (by omega)) ?_))))))
        have k3 : corR H1 ((mS m 0 (121 + 16 * o + 14) (ixF b H o (H.1 3 o 16) + 1)).1 0) o := c1
        refine po_cre (em_occ bm1 k2 k3 ho (by omega)) ?_
        rw [f16] at w2
        exact po_of w2 rfl
      · rw [w3.1 t' a f q]
        exact (hon.1 t' a f (by omega)).trans (hS_n H (by omega))
      · exact w3.2.trans hon.2

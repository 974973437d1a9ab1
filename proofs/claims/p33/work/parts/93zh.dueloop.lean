/-! ===== all of an order's occurrences of today, in step ===== -/
def hasB (H : hR) (o : Int) : Bool := decide (H.1 3 o 9 = 1 ∨ 0 < H.1 3 o 10)
theorem ec_has {H : hR} {o : Int} (hp : okP H o) : fX3_hasPaymentsLeft o H = some (bI (hasB H o)) := by
  unfold okP at hp
  refine po_eq ?_
  unfold fX3_hasPaymentsLeft hasB
  refine po_gd (by omega) (po_if (fun g => po_gd (by omega) (po_if (fun g2 => po_some ?_) (fun g2 => po_some ?_))) (fun g => po_some ?_))
  · rw [bI_f (decide_eq_false (by omega))]
  · rw [bI_t (decide_eq_true (by omega))]
  · rw [bI_t (decide_eq_true (by omega))]
theorem em_has {H : hR} {m : mR} {o : Int} (hp : okP H o) (ho : 0 ≤ o ∧ o < 16) (hc : corR H (m.1 0) o) (hst : ¬ H.1 3 o 11 = 2) : fX7_hasLeft o m = some (bI (hasB H o)) := by
  unfold okP at hp
  have c15 : m.1 0 (121 + 16 * o + 15) = H.1 3 o 9 := hc 15 (by omega)
  have c9 : m.1 0 (121 + 16 * o + 9) = if H.1 3 o 11 = 2 then 0 else H.1 3 o 10 := hc 9 (by omega)
  rw [if_neg hst] at c9
  refine po_eq ?_
  unfold fX7_hasLeft hasB
  refine po_cre (ev_ofO (by omega)) ?_
  rw [c15]
  refine po_gd (by omega) (po_if (fun g => po_some ?_) (fun g => po_cre (ev_ofO (by omega)) ?_))
  · rw [bI_t (decide_eq_true (by omega))]
  · rw [c9]
    refine po_gd (by omega) (po_if (fun g2 => po_some ?_) (fun g2 => po_some ?_))
    · rw [bI_f (decide_eq_false (by omega))]
    · rw [bI_t (decide_eq_true (by omega))]
theorem em_b154 {rec : Int → Int → mR → Option (Unit × mR)} {m : mR} {o k r e l : Int} (ho : 0 ≤ o ∧ o < 16) (hk : 0 ≤ k ∧ k ≤ 1094) (h15 : m.1 0 (121 + 16 * o + 15) = e) (h9 : m.1 0 (121 + 16 * o + 9) = l) (he : e = 0 ∨ e = 1) (hl : 0 ≤ l ∧ l ≤ 99) (hr : fX7_occurrence o (k + 1) (mS (mS m 0 (121 + 16 * o + 9) (if e = 1 then 0 else l - 1)) 0 (121 + 16 * o + 14) (k + 1)) = some r) : fX7_comesDue_b154 rec o k m = rec o r (mS (mS m 0 (121 + 16 * o + 9) (if e = 1 then 0 else l - 1)) 0 (121 + 16 * o + 14) (k + 1)) := by
  unfold fX7_comesDue_b154 fX7_comesDue_b182
  rw [ev_ofO (by omega), cr_some, h15, gd_pos (by omega)]
  rcases he with rfl | rfl
  · rw [if_neg (by omega)] at hr ⊢
    rw [ev_ofO (by omega), cr_some, h9, ev_becomes ho (by omega) (by omega), cl_some, ev_becomes ho (by omega) (by omega), cl_some, if_neg (by omega), hr, cr_some]
  · rw [if_pos rfl] at hr ⊢
    rw [ev_becomes ho (by omega) (by omega), cl_some, ev_becomes ho (by omega) (by omega), cl_some, if_pos rfl, hr, cr_some]
def dueF (o : Int) (H H' : hR) : Prop := (∀ t a f : Int, ¬ (t = 3 ∧ a = o ∧ ¬ (f ≤ 9)) → ¬ (t = 2 ∧ f = 11) → ¬ t = 4 → ¬ t = 5 → H'.1 t a f = H.1 t a f) ∧ H'.2 = H.2
def rowsF (m m' : mR) : Prop := (∀ t : Int, ¬ t = 0 → ¬ t = 1 → m'.1 t = m.1 t) ∧ m'.2 = m.2
def dueD (o t : Int) (H : hR) : Prop := ∀ i : Int, 0 ≤ i ∧ i < H.1 4 2 0 → H.1 5 3 i < t ∨ (H.1 5 3 i = t ∧ H.1 5 0 i ≤ o)
theorem ls_due {T C t Z U o : Int} {b : Int → Bool} {rec : Int → hR → Option (Unit × hR)} (hC : 0 ≤ C) (hU : U ≤ 57 + 5 * C) (hZ : 0 ≤ Z ∧ Z + 5 ≤ U) (ht : 0 ≤ t ∧ t ≤ 1094)
    (hrun : ∀ d : Int, t < d → d ≤ 1094 → (∀ j : Int, t < j → j ≤ d → b j = false) → 5 * (d + 1 - t) + Z ≤ U) :
    ∀ (n fC fM : Nat) (x3 : Int) (H : hR) (m : mR), (1096 - H.1 3 o 16).toNat = n → n < fC → n < fM → Sim T H m → cB H = b → H.1 0 6 0 = t → (0 ≤ o ∧ o < H.1 0 5 0) → C + H.1 0 5 0 ≤ 512 → H.1 3 o 11 = 0 → aimed b H o → 0 ≤ x3 → x3 ≤ H.1 3 o 16 → okX t Z U H → dueD o t H →
    ∃ H' m', fX2_makePaymentsDue_b29 rec fC o o x3 H = rec (o + 1) H' ∧ fX7_comesDue_b13 fM o (ocF b H o (H.1 3 o 16)) m = some ((), m') ∧ Sim T H' m' ∧ okX t Z U H' ∧ dueD o t H' ∧ dueF o H H' ∧ rowsF m m' ∧ aimed b H' o ∧ (H'.1 3 o 11 = 0 → t < H'.1 3 o 19 ∧ H'.1 3 o 19 ≤ 1094)
  | n, 0, _, _, _, _, _, h, _, _, _, _, _, _, _, _, _, _, _, _ => by omega
  | n, _ + 1, 0, _, _, _, _, _, h, _, _, _, _, _, _, _, _, _, _, _ => by omega
  | n, fC + 1, fM + 1, x3, H, m, hn, hfC, hfM, h, hb, h0, ho, hCo, hst, ha, hx0, hx1, hX, hD => by
    have k1 := h.2.2.1
    have k1' := k1
    unfold okN at k1'
    have ho16 : 0 ≤ o ∧ o < 16 := by omega
    obtain ⟨w1, w2, w3⟩ := h.2.2.2.2.2.1 o ho
    have w1' := w1
    unfold okOrd at w1'
    have w3' := w3
    unfold okC at w3'
    have w2' := w2
    unfold okP at w2'
    have hc := h.1.atO ho
    obtain ⟨b1, b2⟩ := cal_both h.1 h.2.2.2.1.2.1
    rw [hb] at b1 b2
    obtain ⟨a1, a2, a3⟩ := ha
    have hix := ixF_rng b H o (H.1 3 o 16)
    have hg := ixF_ge (b := b) (fr := H.1 3 o 16) w1 (by omega)
    have hnr := nomO_rng (b := b) (k := ixF b H o (H.1 3 o 16)) w1 (by omega)
    have hd := dtF_rng (b := b) (k := ixF b H o (H.1 3 o 16)) w1 (by omega)
    have eh := ec_has w2
    have emh := em_has w2 ho16 hc (by omega)
    have e0 : m.1 0 0 = t := h.1.1.1.trans h0
    have hbr := bI_rng (hasB H o)
    by_cases g : nomO b H o (ixF b H o (H.1 3 o 16)) = -6 ∨ hasB H o = false ∨ t < dtF b H o (ixF b H o (H.1 3 o 16))
    · -- none more today
      have ec83 : fX2_makePaymentsDue_b29 rec (fC + 1) o o x3 H = fX2_makePaymentsDue_b83 rec o o H := by
        unfold fX2_makePaymentsDue_b29
        rw [gd_pos (by omega)]
        by_cases q : 1094 < x3
        · rw [if_pos q]
        · rw [if_neg q, eh, cr_some, gd_pos (by omega)]
          cases hh : hasB H o
          · rw [bI_f rfl, if_pos rfl]
          · rw [bI_t rfl, if_neg (by omega), gd_pos (by omega), if_pos]
            rw [h0, a3]
            rcases g with g | g | g
            · rcases hd with hd | hd
              · omega
              · exact absurd g hd.1
            · rw [hh] at g
              cases g
            · exact g
      have em207 : fX7_comesDue_b13 (fM + 1) o (ocF b H o (H.1 3 o 16)) m = fX7_comesDue_b207 o (ocF b H o (H.1 3 o 16)) m := by
        unfold fX7_comesDue_b13
        by_cases g1 : nomO b H o (ixF b H o (H.1 3 o 16)) = -6
        · rw [show ocF b H o (H.1 3 o 16) = -6 from if_pos g1, gd_pos (by omega), if_pos rfl]
        · rw [show ocF b H o (H.1 3 o 16) = ixF b H o (H.1 3 o 16) from if_neg g1, gd_pos (by omega), if_neg (by omega), emh, cr_some, gd_pos (by omega)]
          cases hh : hasB H o
          · rw [bI_f rfl, if_pos rfl]
          · rw [bI_t rfl, if_neg (by omega), em_dateBy b2 w1 hc ho16 (by omega) (by omega), cr_some, ev_today, cr_some, gd_pos (by omega), if_pos]
            rw [e0]
            rcases g with g | g | g
            · exact absurd g g1
            · rw [hh] at g
              cases g
            · exact g
      by_cases gover : nomO b H o (ixF b H o (H.1 3 o 16)) = -6 ∨ hasB H o = false
      · -- over
        have hx : ∀ t x y : Int, ¬ (t = 3 ∧ x = o) → (hS H 3 o 11 2).1 t x y = H.1 t x y := fun t x y q => hS_n H (by omega)
        have hf : ∀ f : Int, ¬ f = 11 → (hS H 3 o 11 2).1 3 o f = H.1 3 o f := fun f q => hS_n H (by omega)
        have hnn : ∀ j : Int, ¬ j = 121 + 16 * o + 10 → ¬ j = 121 + 16 * o + 9 → (mS (mS m 0 (121 + 16 * o + 10) 2) 0 (121 + 16 * o + 9) 0).1 0 j = m.1 0 j := fun j q1 q2 => by rw [mS_n _ (by omega), mS_n _ (by omega)]
        have mt : ∀ t : Int, ¬ t = 0 → (mS (mS m 0 (121 + 16 * o + 10) 2) 0 (121 + 16 * o + 9) 0).1 t = m.1 t := fun t q => by rw [mS_t _ _ _ q, mS_t _ _ _ q]
        refine ⟨hS H 3 o 11 2, mS (mS m 0 (121 + 16 * o + 10) 2) 0 (121 + 16 * o + 9) 0, ?_, ?_, ⟨h.1.ord k1 ho16 hx rfl (fun j q => hnn j (by omega) (by omega)) (mt 1 (by omega)) rfl (fun f q => ?_), h.2.1.ord hx (fun f q => hf f (by omega)) (fun k q => hnn k (by omega) (by omega)), h.2.2.ord (Int.le_refl _) ho hx rfl (hf 0 (by omega)) (hf 15 (by omega)) (w1.fr (fun f q => hf f (by omega))) ?_ ?_⟩, ?_, ?_, ⟨fun t a f q1 q2 q3 q4 => hS_n H (by omega), rfl⟩, ⟨fun t q1 q2 => mt t q1, rfl⟩, ?_, fun q => ?_⟩
        · rw [ec83]
          unfold fX2_makePaymentsDue_b83 fX2_makePaymentsDue_b100
          rw [eh, cr_some, gd_pos (by omega)]
          cases hh : hasB H o
          · rw [bI_f rfl, if_pos rfl, bnd_eq]
          · rw [bI_t rfl, if_neg (by omega), gd_pos (by omega), if_pos, bnd_eq]
            rcases gover with gover | gover
            · rcases hd with hd | hd
              · omega
              · exact absurd gover hd.1
            · rw [hh] at gover
              cases gover
        · rw [em207]
          have e221 : fX7_comesDue_b221 o m = some ((), mS (mS m 0 (121 + 16 * o + 10) 2) 0 (121 + 16 * o + 9) 0) := by
            unfold fX7_comesDue_b221
            rw [ev_becomes ho16 (by omega) (by omega), cl_some, ev_becomes ho16 (by omega) (by omega), cl_some]
          unfold fX7_comesDue_b207
          by_cases g1 : nomO b H o (ixF b H o (H.1 3 o 16)) = -6
          · rw [show ocF b H o (H.1 3 o 16) = -6 from if_pos g1, gd_pos (by omega), if_pos rfl, e221]
          · rw [show ocF b H o (H.1 3 o 16) = ixF b H o (H.1 3 o 16) from if_neg g1, gd_pos (by omega), if_neg (by omega), emh, cr_some, gd_pos (by omega)]
            rcases gover with gover | gover
            · exact absurd gover g1
            · rw [gover, bI_f rfl, if_pos rfl, e221]
        · by_cases c9 : f = 9
          · subst c9
            rw [mS_p]
            show (0 : Int) = if (hS H 3 o 11 2).1 3 o 11 = 2 then 0 else _
            rw [hS_p, if_pos rfl]
          · by_cases c10 : f = 10
            · subst c10
              rw [mS_n _ (by omega), mS_p]
              exact (hS_p H 3 o 11 2).symm
            · rw [hnn _ (by omega) (by omega), hc f q]
              exact (ordN_at (fun f' q' => hf f' (by omega))).symm
        · unfold okP at *
          rw [hf 0 (by omega), hf 1 (by omega), hf 2 (by omega), hf 8 (by omega), hf 9 (by omega), hf 10 (by omega), hS_p, hx 0 4 0 (by omega)]
          omega
        · unfold okC at *
          rw [hf 12 (by omega), hf 13 (by omega), hf 14 (by omega), hf 15 (by omega), hf 16 (by omega)]
          exact w3
        · -- okX
          obtain ⟨x1, x2, x3'⟩ := hX
          have q3 : ∀ i f : Int, ¬ (i = o ∧ f = 11) → (hS H 3 o 11 2).1 3 i f = H.1 3 i f := fun i f q => hS_n H (by omega)
          have q5 : ∀ c i : Int, (hS H 3 o 11 2).1 5 c i = H.1 5 c i := fun c i => hS_n H (by omega)
          have qK : ∀ i j : Int, nomK (hS H 3 o 11 2) i j = nomK H i j := fun i j => nomK_fr (fun f q => q3 _ _ (by omega)) j
          refine ⟨fun i hi hk3 => ?_, fun i hi => ?_, fun i j a b' c e0 e => ?_⟩
          · rw [hx 4 2 0 (by omega)] at hi
            rw [q5, q3 _ 3 (by omega)] at hk3
            rw [q5, q5, q5, qK, q3 _ 16 (by omega)]
            exact x1 i hi hk3
          · rw [hx 0 5 0 (by omega)] at hi
            rw [q3 i 3 (by omega), q3 i 9 (by omega), q3 i 10 (by omega), q3 i 16 (by omega), qK]
            obtain ⟨y1, y2, y3⟩ := x2 i hi
            refine ⟨fun c1 c2 => ?_, y2, y3⟩
            by_cases gi : i = o
            · subst gi
              rw [hS_p] at c2
              omega
            · rw [q3 i 11 (by omega)] at c2
              exact y1 c1 c2
          · rw [hx 4 2 0 (by omega)] at c
            rw [q5, q5] at e0
            rw [q5, q3 _ 3 (by omega)] at e
            rw [q5, q5, q5]
            exact x3' i j a b' c e0 e
        · intro i hi
          rw [hx 4 2 0 (by omega)] at hi
          rw [hx 5 3 i (by omega), hx 5 0 i (by omega)]
          exact hD i hi
        · unfold aimed
          rw [hf 16 (by omega), hf 17 (by omega), hf 18 (by omega), hf 19 (by omega), ixF_fr (H := H) (fun f _ => hf f (by omega)), nomO_fr (H := H) (fun f _ => hf f (by omega)), dtF_fr (H := H) (fun f _ => hf f (by omega))]
          exact ⟨a1, a2, a3⟩
        · rw [hS_p] at q
          omega
      · -- it goes on
        have g1 : ¬ nomO b H o (ixF b H o (H.1 3 o 16)) = -6 := fun q => gover (Or.inl q)
        have g2 : hasB H o = true := by
          cases hh : hasB H o
          · exact absurd (Or.inr hh) gover
          · rfl
        have g3 : t < dtF b H o (ixF b H o (H.1 3 o 16)) := by
          rcases g with g | g | g
          · exact absurd g g1
          · rw [g2] at g
            cases g
          · exact g
        refine ⟨H, m, ?_, ?_, h, hX, hD, ⟨fun _ _ _ _ _ _ _ => rfl, rfl⟩, ⟨fun _ _ _ => rfl, rfl⟩, ⟨a1, a2, a3⟩, fun _ => by omega⟩
        · rw [ec83]
          unfold fX2_makePaymentsDue_b83
          rw [eh, cr_some, gd_pos (by omega), g2, bI_t rfl, if_neg (by omega), gd_pos (by omega), if_neg (by omega)]
        · rw [em207]
          unfold fX7_comesDue_b207
          rw [show ocF b H o (H.1 3 o 16) = ixF b H o (H.1 3 o 16) from if_neg g1, gd_pos (by omega), if_neg (by omega), emh, cr_some, gd_pos (by omega), g2, bI_t rfl, if_neg (by omega)]
    · -- one is taken
      have g1 : ¬ nomO b H o (ixF b H o (H.1 3 o 16)) = -6 := fun q => g (Or.inl q)
      have g2 : hasB H o = true := by
        cases hh : hasB H o
        · exact absurd (Or.inr (Or.inl hh)) g
        · rfl
      have g3 : dtF b H o (ixF b H o (H.1 3 o 16)) ≤ t := by omega
      have hlf : 0 ≤ leftN H o ∧ leftN H o ≤ 99 := by
        unfold hasB at g2
        have := of_decide_eq_true g2
        unfold leftN
        split <;> omega
      have h8 : H.1 4 2 0 ≤ 8399 := waits_bound (C := C) (hX.mono (Int.le_refl _) hU) h.2.2 ⟨hC, hCo⟩
      have hL : leftN H o = if H.1 3 o 9 = 1 then 0 else H.1 3 o 10 - 1 := by
        unfold leftN
        by_cases q : H.1 3 o 9 = 0
        · rw [if_pos q, if_neg (by omega)]
        · rw [if_neg q, if_pos (by omega)]
          exact (hX.2.1 o ho).2.2 (by omega)
      have c15 : m.1 0 (121 + 16 * o + 15) = H.1 3 o 9 := hc 15 (by omega)
      have c9 : m.1 0 (121 + 16 * o + 9) = if H.1 3 o 11 = 2 then 0 else H.1 3 o 10 := hc 9 (by omega)
      rw [if_neg (show ¬ H.1 3 o 11 = 2 by omega)] at c9
      have c7 : m.1 0 (121 + 16 * o + 7) = H.1 3 o 7 := hc 7 (by omega)
      have c2 : m.1 0 (121 + 16 * o + 2) = H.1 3 o 2 := hc 2 (by omega)
      have e4 : m.1 0 4 = H.1 4 2 0 := h.1.1.2.2.2.2.1
      have hnom := em_nominal (k := ixF b H o (H.1 3 o 16)) b2 w1 hc ho16 (by omega)
      rw [show nomR (nomO b H o (ixF b H o (H.1 3 o 16))) (H.1 3 o 6) = nomO b H o (ixF b H o (H.1 3 o 16)) from (if_neg g1).trans (if_neg (by omega))] at hnom
      have hdb := em_dateBy b2 w1 hc ho16 (k := ixF b H o (H.1 3 o 16)) (by omega) (by omega)
      have hocf : ocF b H o (H.1 3 o 16) = ixF b H o (H.1 3 o 16) := if_neg g1
      -- how the loops go on, once the states are known
      have cont : ∀ (H2 : hR) (m2 : mR), Sim T H2 m2 → okX t Z U H2 → dueD o t H2 → dueF o H H2 → rowsF m m2 → aimed b H2 o → H2.1 3 o 11 = 0 → H2.1 3 o 16 = ixF b H o (H.1 3 o 16) + 1 →
          (fX7_occurrence o (ixF b H o (H.1 3 o 16) + 1) m2 = some (ocF b H2 o (H2.1 3 o 16))) ∧ ∃ H' m', fX2_makePaymentsDue_b29 rec fC o o (x3 + 1) H2 = rec (o + 1) H' ∧ fX7_comesDue_b13 fM o (ocF b H2 o (H2.1 3 o 16)) m2 = some ((), m') ∧ Sim T H' m' ∧ okX t Z U H' ∧ dueD o t H' ∧ dueF o H H' ∧ rowsF m m' ∧ aimed b H' o ∧ (H'.1 3 o 11 = 0 → t < H'.1 3 o 19 ∧ H'.1 3 o 19 ≤ 1094) := by
        intro H2 m2 y1 y2 y3 y4 y5 y6 y7 y8
        have yb : cB H2 = b := (cB_fr (y4.1 _ _ _ (by omega) (by omega) (by omega) (by omega)) (fun a => y4.1 _ _ _ (by omega) (by omega) (by omega) (by omega))).trans hb
        have yo : 0 ≤ o ∧ o < H2.1 0 5 0 := by
          rw [y4.1 0 5 0 (by omega) (by omega) (by omega) (by omega)]
          exact ho
        obtain ⟨v1, v2, v3⟩ := y1.2.2.2.2.2.1 o yo
        obtain ⟨d1, d2⟩ := cal_both y1.1 y1.2.2.2.1.2.1
        rw [yb] at d1 d2
        unfold okC at v3
        refine ⟨?_, ?_⟩
        · rw [← y8]
          exact em_occ d2 v1 (y1.1.atO yo) ho16 (by omega)
        · obtain ⟨H', m', z1, z2, z3, z4, z5, z6, z7, z8, z9⟩ := ls_due (rec := rec) hC hU hZ ht hrun (1096 - H2.1 3 o 16).toNat fC fM (x3 + 1) H2 m2 rfl (by omega) (by omega) y1 yb ((y4.1 0 6 0 (by omega) (by omega) (by omega) (by omega)).trans h0) yo (by rw [y4.1 0 5 0 (by omega) (by omega) (by omega) (by omega)]; exact hCo) y7 y6 (by omega) (by omega) y2 y3
          refine ⟨H', m', z1, z2, z3, z4, z5, ⟨fun t a f q1 q2 q3 q4 => (z6.1 t a f q1 q2 q3 q4).trans (y4.1 t a f q1 q2 q3 q4), z6.2.trans y4.2⟩, ⟨fun t q1 q2 => (z7.1 t q1 q2).trans (y5.1 t q1 q2), z7.2.trans y5.2⟩, z8, z9⟩
      have key : ∃ H' m', po (cl (fX2_takeNextOccurrence o H) fun _ H56 => bnd (hS H56 3 o 16 ((H56.1 3 o 17) + 1)) fun H66 => cl (fX3_aim o H66) fun _ H74 => some H74) (fun H74 => fX2_makePaymentsDue_b29 rec fC o o (x3 + 1) H74 = rec (o + 1) H') ∧ fX7_comesDue_b13 (fM + 1) o (ixF b H o (H.1 3 o 16)) m = some ((), m') ∧ Sim T H' m' ∧ okX t Z U H' ∧ dueD o t H' ∧ dueF o H H' ∧ rowsF m m' ∧ aimed b H' o ∧ (H'.1 3 o 11 = 0 → t < H'.1 3 o 19 ∧ H'.1 3 o 19 ≤ 1094) := by
        -- the reference up to the nominal day
        have em0 : fX7_comesDue_b13 (fM + 1) o (ixF b H o (H.1 3 o 16)) m = (if H.1 3 o 7 = 4 then (cr (some (bI (b (nomO b H o (ixF b H o (H.1 3 o 16)))))) fun r60 => gd (wR r60) <| if r60 = 0 then (bnd (mS m 0 ((121 + (16 * o)) + 13) ((m.1 0 ((121 + (16 * o)) + 13)) + 1)) fun m84 => bnd (mS m84 0 7 ((m84.1 0 7) + 1)) fun m95 => fX7_comesDue_b154 (fX7_comesDue_b13 fM) o (ixF b H o (H.1 3 o 16)) m95) else fX7_comesDue_b99 (fX7_comesDue_b13 fM) o (ixF b H o (H.1 3 o 16)) (nomO b H o (ixF b H o (H.1 3 o 16))) m) else fX7_comesDue_b99 (fX7_comesDue_b13 fM) o (ixF b H o (H.1 3 o 16)) (nomO b H o (ixF b H o (H.1 3 o 16))) m) := by
          rw [fX7_comesDue_b13, gd_pos (by omega), if_neg (by omega), emh, cr_some, gd_pos (by omega), g2, bI_t rfl, if_neg (by omega), hdb, cr_some, ev_today, cr_some, gd_pos (by omega), if_neg (by omega), hnom, cr_some, ev_ofO (by omega), cr_some, c7, gd_pos (by omega), b2 _ (by omega)]
          by_cases q : H.1 3 o 7 = 4
          · rw [if_pos q, if_pos q, cr_some, cr_some, gd_pos (by have := bI_rng (b (nomO b H o (ixF b H o (H.1 3 o 16)))); omega), gd_pos (by omega), gd_pos (by omega), gd_pos (by have := bI_rng (b (nomO b H o (ixF b H o (H.1 3 o 16)))); omega)]
          · rw [if_neg q, if_neg q]
        by_cases gs : H.1 3 o 7 = 4 ∧ b (nomO b H o (ixF b H o (H.1 3 o 16))) = false
        · -- skipped
          have pc := ec_take (kk := fun H2 => some H2) (R := fun H2 => skipR o (ixF b H o (H.1 3 o 16)) H H2 ∧ aimed b H2 o) b1 w1 w2 k1 ho h8 h0 ht a1 a2 (by omega) (by omega) (fun _ H2 s1 s2 => po_some ⟨s1, s2⟩) (fun q => absurd gs q)
          obtain ⟨H2, p1, p2, p3⟩ := pc
          have sm : skipM o (ixF b H o (H.1 3 o 16)) (leftN H o) m (mS (mS (mS (mS m 0 (121 + 16 * o + 13) (m.1 0 (121 + 16 * o + 13) + 1)) 0 7 (m.1 0 7 + 1)) 0 (121 + 16 * o + 9) (leftN H o)) 0 (121 + 16 * o + 14) (ixF b H o (H.1 3 o 16) + 1)) := by
            refine ⟨fun t j q => ?_, rfl, ?_, ?_, ?_, mS_p _ _ _ _⟩
            · rw [mS_n _ (by omega), mS_n _ (by omega), mS_n _ (by omega), mS_n _ (by omega)]
            · rw [mS_n _ (by omega), mS_n _ (by omega), mS_n _ (by omega), mS_p]
            · rw [mS_n _ (by omega), mS_n _ (by omega), mS_p]
            · rw [mS_n _ (by omega), mS_p]
          have y1 := h.skip ho hst p2 sm (by omega) hlf
          have y2 := hX.skip h.2.2.2.2.2.2.1 ho w1 hst p2 (by omega) g1
          obtain ⟨z1, H', m', z2, z3, z4⟩ := cont H2 _ y1 y2 (fun i hi => by
            rw [p2.1 4 2 0 (by omega)] at hi
            rw [p2.1 5 3 i (by omega), p2.1 5 0 i (by omega)]
            exact hD i hi) ⟨fun t a f q1 q2 q3 q4 => p2.1 t a f (by omega), p2.2.1⟩ ⟨fun t q1 q2 => by
            funext j
            exact sm.1 t j (by omega), rfl⟩ p3 ((p2.1 3 o 11 (by omega)).trans hst) p2.2.2.2.2
          refine ⟨H', m', ⟨H2, p1, z2⟩, ?_, z4⟩
          rw [em0, if_pos gs.1, gs.2, bI_f rfl, cr_some, gd_pos (by omega), if_pos rfl, bnd_eq, bnd_eq, mS_n m (show ¬ ((0 : Int) = 0 ∧ (7 : Int) = 121 + 16 * o + 13) by omega)]
          rw [hL] at z1 z3
          rw [em_b154 (r := ocF b H2 o (H2.1 3 o 16)) (e := H.1 3 o 9) (l := H.1 3 o 10) ho16 (by omega) (by rw [mS_n _ (by omega), mS_n _ (by omega)]; exact c15) (by rw [mS_n _ (by omega), mS_n _ (by omega)]; exact c9) (by omega) (by omega) z1]
          exact z3
        · -- it waits
          have pc := ec_take (kk := fun H2 => some H2) (R := fun H2 => takeR o (ixF b H o (H.1 3 o 16)) (nomO b H o (ixF b H o (H.1 3 o 16))) t H H2 ∧ aimed b H2 o) b1 w1 w2 k1 ho h8 h0 ht a1 a2 (by omega) (by omega) (fun q => absurd q gs) (fun _ H2 s1 s2 => po_some ⟨s1, s2⟩)
          obtain ⟨H2, p1, p2, p3⟩ := pc
          have sm : takeM o (ixF b H o (H.1 3 o 16)) (leftN H o) (pkW o (H.1 3 o 2) (nomO b H o (ixF b H o (H.1 3 o 16))) t 0 0) m (mS (mS (mS (mS m 1 (m.1 0 4) (pkW o (H.1 3 o 2) (nomO b H o (ixF b H o (H.1 3 o 16))) t 0 0)) 0 4 (m.1 0 4 + 1)) 0 (121 + 16 * o + 9) (leftN H o)) 0 (121 + 16 * o + 14) (ixF b H o (H.1 3 o 16) + 1)) := by
            refine ⟨fun t j q q' => ?_, rfl, ?_, ?_, ?_, mS_p _ _ _ _⟩
            · rw [mS_n _ (by omega), mS_n _ (by omega), mS_n _ (by omega), mS_n _ (by omega)]
            · rw [mS_n _ (by omega), mS_n _ (by omega), mS_p]
            · rw [mS_n _ (by omega), mS_n _ (by omega), mS_n _ (by omega), mS_p]
            · rw [mS_n _ (by omega), mS_p]
          have y1 := h.take ho hst p2 sm (by omega) hlf (by omega) ht h8 hD
          have y2 := hX.take (b := b) h.2.2.2.2.2.2.1 (by omega) ho w1 hst p2 (by omega) g1 (fun hk3 => by
            have e1 := ixF_K (b := b) (k := H.1 3 o 16) w1 (by omega) hk3
            have e2 := nomO_K (b := b) (H := H) (o := o) (k := ixF b H o (H.1 3 o 16)) (by omega)
            refine ⟨e1, ?_, fun hlt => ?_⟩
            · rw [e2]
              by_cases q : 1094 < nomK H o (ixF b H o (H.1 3 o 16))
              · rw [e2, if_pos q] at g1
                exact absurd rfl g1
              · rw [if_neg q]
            · rcases hd with hd | ⟨hd1, hd2, hd3⟩
              · omega
              · rw [hd2] at g3
                exact hrun _ hlt (by omega) (fun j q1 q2 => shZ_lt (b := b) (r := H.1 3 o 7) (by omega) (by omega) j (by omega) q2)) hZ
          obtain ⟨z1, H', m', z2, z3, z4⟩ := cont H2 _ y1 y2 (fun i hi => by
            rw [p2.2.2.2.2.2.2.1] at hi
            by_cases gi : i = H.1 4 2 0
            · subst gi
              right
              exact ⟨p2.2.2.2.2.2.2.2.2.2.2.2.2.1, by rw [p2.2.2.2.2.2.2.2.2.2.1]; exact Int.le_refl _⟩
            · rw [p2.2.2.2.2.2.2.2.2.1 3 i (by omega), p2.2.2.2.2.2.2.2.2.1 0 i (by omega)]
              exact hD i (by omega)) ⟨fun t a f q1 q2 q3 q4 => p2.1 t a f (by omega) (by omega) q3 q4, p2.2.1⟩ ⟨fun t q1 q2 => by
            funext j
            exact sm.1 t j (by omega) (by omega), rfl⟩ p3 ((p2.1 3 o 11 (by omega) (by omega) (by omega) (by omega)).trans hst) p2.2.2.2.2.1
          have e99 : fX7_comesDue_b99 (fX7_comesDue_b13 fM) o (ixF b H o (H.1 3 o 16)) (nomO b H o (ixF b H o (H.1 3 o 16))) m = some ((), m') := by
            have epk : o + (16 * (H.1 3 o 2 + (1048576 * (nomO b H o (ixF b H o (H.1 3 o 16)) + (2048 * t))))) = pkW o (H.1 3 o 2) (nomO b H o (ixF b H o (H.1 3 o 16))) t 0 0 := by
              unfold pkW
              omega
            unfold fX7_comesDue_b99
            rw [gd_pos (by omega), ev_today, cr_some, gd_pos (by omega), ev_of (by omega), cr_some, gd_pos (by omega), ev_ofO (by omega), cr_some, c2, gd_pos (by omega), gd_pos (by omega), bnd_eq, e0, epk, mS_n m (show ¬ ((0 : Int) = 1 ∧ (4 : Int) = m.1 0 4) by omega), bnd_eq]
            rw [hL] at z1 z3
            rw [em_b154 (r := ocF b H2 o (H2.1 3 o 16)) (e := H.1 3 o 9) (l := H.1 3 o 10) ho16 (by omega) (by rw [mS_n _ (by omega), mS_n _ (by omega)]; exact c15) (by rw [mS_n _ (by omega), mS_n _ (by omega)]; exact c9) (by omega) (by omega) z1]
            exact z3
          refine ⟨H', m', ⟨H2, p1, z2⟩, ?_, z4⟩
          rw [em0]
          by_cases q : H.1 3 o 7 = 4
          · have hbt : b (nomO b H o (ixF b H o (H.1 3 o 16))) = true := by
              cases hh : b (nomO b H o (ixF b H o (H.1 3 o 16)))
              · exact absurd ⟨q, hh⟩ gs
              · rfl
            rw [if_pos q, hbt, bI_t rfl, cr_some, gd_pos (by omega), if_neg (by omega)]
            exact e99
          · rw [if_neg q]
            exact e99
      obtain ⟨H', m', ⟨H2, p1, p2⟩, q1, q2⟩ := key
      refine ⟨H', m', ?_, by rw [hocf]; exact q1, q2⟩
      rw [fX2_makePaymentsDue_b29, gd_pos (by omega), if_neg (by omega), eh, cr_some, gd_pos (by omega), g2, bI_t rfl, if_neg (by omega), gd_pos (by omega), if_neg (by omega)]
      -- the same steps, with the loop behind them
      cases e1 : fX2_takeNextOccurrence o H with
      | none => rw [e1] at p1; cases p1
      | some r =>
        obtain ⟨u, H56⟩ := r
        rw [e1] at p1
        rw [cl_some, bnd_eq] at p1 ⊢
        cases e2 : fX3_aim o (hS H56 3 o 16 ((H56.1 3 o 17) + 1)) with
        | none => rw [e2] at p1; cases p1
        | some r2 =>
          obtain ⟨u2, H74⟩ := r2
          rw [e2] at p1
          rw [cl_some] at p1 ⊢
          cases p1
          exact p2

/-! ===== each call keeps it ===== -/
def stepI (T C To : Int) (A : Option (Int × cR)) (B : Option (Int × mR)) : Prop := ∃ r c' m', A = some (r, c') ∧ B = some (r, m') ∧ wR r ∧ ∃ C' To', (C ≤ C' ∧ To ≤ To' ∧ C' + To' ≤ C + To + 1) ∧ Inv (T + 100) C' To' c' m'
theorem stepI.of {T C To C' To' : Int} {A : Option (Int × cR)} {B : Option (Int × mR)} (h : ∃ r c' m', A = some (r, c') ∧ B = some (r, m') ∧ wR r ∧ Inv (T + 1) C' To' c' m') (hC : C ≤ C' ∧ To ≤ To' ∧ C' + To' ≤ C + To + 1) : stepI T C To A B := by
  obtain ⟨r, c', m', h1, h2, h3, h4⟩ := h
  exact ⟨r, c', m', h1, h2, h3, C', To', hC, h4.mono (by omega) (by omega) (by omega)⟩
theorem frX.pst {T C To : Int} {c : cR} {m : mR} {o : Option (Int × hR)} (I : Inv T C To c m) (h : Pst (fun p => frX (c.1 0) p.2) o) : Pst (fun p => okXf (C + 1) p.2 ∧ 9 * p.2.1 0 5 0 + m.1 6 10 ≤ 9 * To) o := fun p e => by
  have f := h p e
  have h4 := I.2.2.2.1
  refine ⟨I.2.1.up I.1.2.2 f, ?_⟩
  rw [f 0 5 0 (by omega) (by omega) (by omega) (by omega)]
  exact h4
theorem iv_set {T C To : Int} {c : cR} {m : mR} (I : Inv T C To c m) {s v : Int} (hs : wR s) (hv : wR v) : stepI T C To (fX6_set s v c) (fX7_set s v m) :=
  stepI.of (C' := C + 1) (To' := To) (inv_call (F := fun H => fX2_replaceSetting s v H) I (ls_set I.1 hs hv) (by omega) (by omega) (frX.pst I x_set)) (by omega)
theorem iv_account {T C To : Int} {c : cR} {m : mR} (hT : 0 ≤ T) (I : Inv T C To c m) {s v : Int} (hs : wR s) (hv : wR v) : stepI T C To (fX6_account s v c) (fX7_account s v m) :=
  stepI.of (C' := C + 1) (To' := To) (inv_call (F := fun H => fX2_addAccount s v H) I (ls_account hT I.1 hs hv) (by omega) (by omega) (frX.pst I x_account)) (by omega)
theorem iv_feed {T C To : Int} {c : cR} {m : mR} (I : Inv T C To c m) {s v : Int} (hs : wR s) (hv : wR v) : stepI T C To (fX6_feed s v c) (fX7_feed s v m) :=
  stepI.of (C' := C + 1) (To' := To) (inv_call (F := fun H => fX2_nameFeeder s v H) I (ls_feed I.1 hs hv) (by omega) (by omega) (frX.pst I x_feed)) (by omega)
theorem iv_deposit {T C To : Int} {c : cR} {m : mR} (hT : T ≤ 100000) (I : Inv T C To c m) {s v : Int} (hs : wR s) (hv : wR v) : stepI T C To (fX6_deposit s v c) (fX7_deposit s v m) :=
  stepI.of (C' := C + 1) (To' := To) (inv_call (F := fun H => fX2_payIn s v H) I (ls_depositC hT I.1 hs hv) (by omega) (by omega) (frX.pst I x_deposit)) (by omega)
theorem iv_change {T C To : Int} {c : cR} {m : mR} (I : Inv T C To c m) {o a p : Int} (ho : wR o) (ha : wR a) (hp : wR p) : stepI T C To (fX6_change o a p c) (fX7_change o a p m) :=
  stepI.of (C' := C + 1) (To' := To) (inv_call (F := fun H => fX2_alterOrder o a p H) I (ls_change I.1 ho ha hp) (by omega) (by omega) (frX.pst I x_change)) (by omega)
theorem n_mark {d s : Int} {H : hR} : Pst (fun p => p.2.1 0 5 0 = H.1 0 5 0) (fX1_mark d s H) := by
  unfold fX1_mark fX1_mark_b38 fX1_mark_b63 fX1_mark_b96
  repeat' (first | (with_reducible refine pst_gd (fun _ => ?_)) | (with_reducible refine pst_cr (fun _ _ => ?_)) | (with_reducible refine pst_if (fun _ => ?_) (fun _ => ?_)) | (with_reducible refine pst_bnd ?_) | (with_reducible refine pst_some ?_))
  all_goals first
    | rfl
    | (rw [hS_n _ (by omega), hS_n _ (by omega)])
theorem iv_holiday {T C To : Int} {c : cR} {m : mR} (I : Inv T C To c m) {d s : Int} (hd : wR d) (hs : wR s) : stepI T C To (fX6_holiday d s c) (fX7_holiday d s m) :=
  stepI.of (C' := C + 1) (To' := To) (inv_call (F := fun H => fX1_mark d s H) I (ls_holiday I.1 hd hs) (by omega) (by omega) (fun p e => ⟨x_mark I.2.1 I.1.2.2 p e, by rw [n_mark p e]; exact I.2.2.2.1⟩)) (by omega)
theorem iv_stop {T C To : Int} {c : cR} {m : mR} (I : Inv T C To c m) {o : Int} (ho : wR o) : stepI T C To (fX6_stop o c) (fX7_stop o m) :=
  stepI.of (C' := C + 1) (To' := To) (inv_call (F := fun H => fX2_stopOrder o H) I (ls_stopC I.1 ho) (by omega) (by omega) (fun p e => ⟨x_stop I.2.1 I.1.2.2 p e, by rw [(n_stop I.1.2.2 p e).2]; exact I.2.2.2.1⟩)) (by omega)
theorem iv_goOn {T C To : Int} {c : cR} {m : mR} (I : Inv T C To c m) {o : Int} (ho : wR o) : stepI T C To (fX6_goOn o c) (fX7_goOn o m) :=
  stepI.of (C' := C + 1) (To' := To) (inv_call (F := fun H => fX2_resumeOrder o H) I (ls_goOnC I.1 ho) (by omega) (by omega) (fun p e => ⟨(x_goOn I.1 I.2.1 p e).mono (by omega), by rw [(n_goOn p e).2]; exact I.2.2.2.1⟩)) (by omega)
theorem iv_giveUp {T C To : Int} {c : cR} {m : mR} (I : Inv T C To c m) {p : Int} (hp : wR p) : stepI T C To (fX6_giveUp p c) (fX7_giveUp p m) :=
  stepI.of (C' := C + 1) (To' := To) (inv_call (F := fun H => fX2_dropPayment p H) I (ls_giveUp I.1 hp) (by omega) (by omega) (fun q e => ⟨(x_giveUp I.1.2.2 I.2.1 q e).1, by rw [(x_giveUp I.1.2.2 I.2.1 q e).2]; exact I.2.2.2.1⟩)) (by omega)
theorem iv_order {T C To : Int} {c : cR} {m : mR} (I : Inv T C To c m) {x1 x2 x3 x4 x5 x6 : Int} (h1 : wR x1) (h2 : wR x2) (h3 : wR x3) (h4 : wR x4) (h5 : wR x5) (h6 : wR x6) : stepI T C To (fX6_order x1 x2 x3 x4 x5 x6 c) (fX7_order x1 x2 x3 x4 x5 x6 m) :=
  stepI.of (C' := C) (To' := To + 1) (inv_call (F := fun H => fX2_addOrder x1 x2 x3 x4 x5 x6 H) I (ls_orderC I.1 h1 h2 h3 h4 h5 h6) (by omega) (by omega) (fun p e => ⟨x_order I.1 I.2.1 h1 h2 h3 h4 h5 h6 p e, by
    obtain ⟨P, g1, g2⟩ := I.2.1
    have w := (xp_order I.1 g1 g2 h1 h2 h3 h4 h5 h6 p e).2.2
    have h4' := I.2.2.2.1
    omega⟩)) (by omega)
/-- the pad's calls -/
theorem iv_pad {T C To : Int} {c c' : cR} {m m' : mR} (I : Inv T C To c m) (h1 : c'.1 = c.1) (h2 : c'.2.1 = c.2.1) (hp : padR c' m') (ht : ∀ t : Int, ¬ t = 5 → ¬ t = 6 → m'.1 t = m.1 t) (hd : m'.2 = m.2) (hk : m'.1 6 7 = m.1 6 7) (hl : m'.1 6 10 ≤ m.1 6 10 + 9) : Inv T C (To + 1) c' m' := by
  obtain ⟨i1, i2, i3, i4, i5⟩ := I
  refine ⟨?_, by rw [h1]; exact i2, hp, by rw [h1]; omega, ?_⟩
  · rw [h1]
    exact ⟨i1.1.oth (ht 0 (by omega) (by omega)) (ht 1 (by omega) (by omega)) (by rw [hd]), by rw [ht 0 (by omega) (by omega)]; exact i1.2.1, i1.2.2⟩
  · have h8 : HistR T C (9 * To - m.1 6 10) c' m' := i5.fr (fun k _ => by rw [h1]) (by rw [h1]; exact i5.2.2.2.2.2 0 (by omega)) (by rw [h1]; exact i5.2.2.2.2.2 1 (by omega)) h2 (fun l hl => rowEq.of (ht 2 (by omega) (by omega)) (ht 3 (by omega) (by omega)) (by rw [hd])) (ht 4 (by omega) (by omega)) hk
    exact h8.mono (Int.le_refl _) (Int.le_refl _) (by omega)

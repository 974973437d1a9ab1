/-! ===== what a call leaves beside the house ===== -/
theorem cHp (c : cR) (k : Int) (H : hR) : (cH c k H).1 k = H := by
  show up1 c.1 k H k = H
  exact up1_p _ _ _
theorem cHn (c : cR) {k k' : Int} (H : hR) (h : ¬ k' = k) : (cH c k H).1 k' = c.1 k' := by
  show up1 c.1 k H k' = _
  exact up1_n _ _ h
def rowL (c : cR) : Int := 2 + (c.2.1 0 3 + (c.2.1 0 4 - 1)) % 7
def Ext (c c' : cR) (r : Int) : Prop :=
  (∀ k : Int, k = 9 ∨ k = 10 → c'.1 k = c.1 k) ∧ (∀ s : Int, c'.2.1 1 s = c.2.1 1 s) ∧
  ((-5 ≤ r ∧ r ≤ -1 ∧ c'.1 0 = c.1 0 ∧ c'.2.1 0 4 = c.2.1 0 4) ∨
   (¬ (-5 ≤ r ∧ r ≤ -1) ∧ c'.2.1 0 4 = (if c.2.1 0 4 < 6 then c.2.1 0 4 + 1 else 6) ∧ copyR (c.1 0) (c'.1 (rowL c'))))
theorem ext_mem {T C To : Int} {c : cR} {m : mR} (I : Inv T C To c m) : ∃ H1, fX6_remember c = some ((), cH c (2 + (c.2.1 0 3 + c.2.1 0 4) % 7) H1) ∧ copyR (c.1 0) H1 := by
  obtain ⟨i1, i2, i3, i4, a1, a2, a3, a4, a5, a6⟩ := I
  obtain ⟨H1, f1, f2⟩ := ec_copy (H2 := c.1 0) (H := c.1 (2 + (c.2.1 0 3 + c.2.1 0 4) % 7)) i1.2.2.copyP.1 i1.2.2.copyP.2 (a6 _ (by omega))
  refine ⟨H1, ?_, f2⟩
  unfold fX6_remember fX6_rowBehindLatest
  rw [gd_pos (by omega), cr_some, rmI_pos (by omega), gd_pos (by omega), f1]
  rfl
theorem Inv.chg {T C To : Int} {c : cR} {m : mR} (I : Inv T C To c m) : (0 ≤ c.2.1 0 3 ∧ c.2.1 0 3 ≤ 6) ∧ (0 ≤ c.2.1 0 4 ∧ c.2.1 0 4 ≤ 6) := by
  obtain ⟨i1, i2, i3, i4, a1, a2, a3, a4, a5, a6⟩ := I
  omega
theorem ext_row {c : cR} {H1 H' : hR} (h3 : 0 ≤ c.2.1 0 3 ∧ c.2.1 0 3 ≤ 6) (h4 : 0 ≤ c.2.1 0 4 ∧ c.2.1 0 4 ≤ 6) (hc : copyR (c.1 0) H1) {r : Int} (hr : ¬ (-5 ≤ r ∧ r ≤ -1)) : Ext c (rcd (cH (cH c (2 + (c.2.1 0 3 + c.2.1 0 4) % 7) H1) 0 H')) r := by
  have hk : ∀ k : Int, ¬ k = 0 → ¬ k = 2 + (c.2.1 0 3 + c.2.1 0 4) % 7 → (cH (cH c (2 + (c.2.1 0 3 + c.2.1 0 4) % 7) H1) 0 H').1 k = c.1 k := fun k q1 q2 => (cHn _ _ q1).trans (cHn _ _ q2)
  have hrow : (cH (cH c (2 + (c.2.1 0 3 + c.2.1 0 4) % 7) H1) 0 H').1 (2 + (c.2.1 0 3 + c.2.1 0 4) % 7) = H1 := (cHn _ _ (by omega)).trans (cHp _ _ _)
  have h2 : (cH (cH c (2 + (c.2.1 0 3 + c.2.1 0 4) % 7) H1) 0 H').2 = c.2 := rfl
  revert hk hrow h2
  generalize (cH (cH c (2 + (c.2.1 0 3 + c.2.1 0 4) % 7) H1) 0 H') = X
  intro hk hrow h2
  have e3 : X.2.1 0 3 = c.2.1 0 3 := by rw [h2]
  have e4 : X.2.1 0 4 = c.2.1 0 4 := by rw [h2]
  have es : ∀ s : Int, X.2.1 1 s = c.2.1 1 s := fun s => by rw [h2]
  by_cases g : 6 ≤ X.2.1 0 4
  · have e : rcd X = cT X 0 3 ((X.2.1 0 3 + 1) % 7) := if_pos g
    have z3 : (cT X 0 3 ((X.2.1 0 3 + 1) % 7)).2.1 0 3 = (X.2.1 0 3 + 1) % 7 := cT_p _ _ _ _
    have z4 : (cT X 0 3 ((X.2.1 0 3 + 1) % 7)).2.1 0 4 = X.2.1 0 4 := cT_n _ (by omega)
    rw [e]
    refine ⟨fun k q => hk k (by omega) (by omega), fun s => (cT_n _ (by omega)).trans (es s), Or.inr ⟨hr, ?_, ?_⟩⟩
    · rw [z4, if_neg (by omega)]
      omega
    · show copyR (c.1 0) (X.1 (rowL (cT X 0 3 ((X.2.1 0 3 + 1) % 7))))
      unfold rowL
      rw [z3, z4, show 2 + ((X.2.1 0 3 + 1) % 7 + (X.2.1 0 4 - 1)) % 7 = 2 + (c.2.1 0 3 + c.2.1 0 4) % 7 by omega, hrow]
      exact hc
  · have e : rcd X = cT X 0 4 (X.2.1 0 4 + 1) := if_neg g
    have z3 : (cT X 0 4 (X.2.1 0 4 + 1)).2.1 0 3 = X.2.1 0 3 := cT_n _ (by omega)
    have z4 : (cT X 0 4 (X.2.1 0 4 + 1)).2.1 0 4 = X.2.1 0 4 + 1 := cT_p _ _ _ _
    rw [e]
    refine ⟨fun k q => hk k (by omega) (by omega), fun s => (cT_n _ (by omega)).trans (es s), Or.inr ⟨hr, ?_, ?_⟩⟩
    · rw [z4, if_pos (by omega)]
      omega
    · show copyR (c.1 0) (X.1 (rowL (cT X 0 4 (X.2.1 0 4 + 1))))
      unfold rowL
      rw [z3, z4, show 2 + (X.2.1 0 3 + (X.2.1 0 4 + 1 - 1)) % 7 = 2 + (c.2.1 0 3 + c.2.1 0 4) % 7 by omega, hrow]
      exact hc
theorem ext_call {T C To : Int} {c : cR} {m : mR} {F : hR → Option (Int × hR)} {R : Option (Int × mR)} (I : Inv T C To c m) (hk : callOK T (c.1 0) m (F (c.1 0)) R) : ∃ r c' H', (cl (fX6_remember c) fun _ c1 => cl (F (c1.1 0)) fun r11 t11 => bnd (cH c1 0 t11) fun c11 => cl (fX6_recorded r11 c11) fun r14 c14 => some (r14, c14)) = some (r, c') ∧ F (c.1 0) = some (r, H') ∧ c'.1 0 = H' ∧ Ext c c' r := by
  obtain ⟨h3, h4⟩ := I.chg
  obtain ⟨H1, q1, q2⟩ := ext_mem I
  obtain ⟨r, H', e1, hr, e2⟩ := hk
  have q4 : (cH c (2 + (c.2.1 0 3 + c.2.1 0 4) % 7) H1).1 0 = c.1 0 := cHn _ _ (by omega)
  refine ⟨r, if -5 ≤ r ∧ r ≤ -1 then cH (cH c (2 + (c.2.1 0 3 + c.2.1 0 4) % 7) H1) 0 H' else rcd (cH (cH c (2 + (c.2.1 0 3 + c.2.1 0 4) % 7) H1) 0 H'), H', ?_, e1, ?_, ?_⟩
  · rw [q1, cl_some, q4, e1, cl_some, bnd_eq, ec_recorded (c := cH (cH c (2 + (c.2.1 0 3 + c.2.1 0 4) % 7) H1) 0 H') hr (show 0 ≤ c.2.1 0 3 ∧ c.2.1 0 3 ≤ 6 from h3) (show 0 ≤ c.2.1 0 4 ∧ c.2.1 0 4 ≤ 6 from h4)]
    rfl
  · split
    · exact cHp _ _ _
    · rw [rcd_1]
      exact cHp _ _ _
  · by_cases g : -5 ≤ r ∧ r ≤ -1
    · rw [if_pos g]
      rcases e2 with ⟨r1, r1', rfl, r3⟩ | ⟨r1, r2⟩
      · exact ⟨fun k q => (cHn _ _ (by omega)).trans (cHn _ _ (by omega)), fun s => rfl, Or.inl ⟨g.1, g.2, cHp _ _ _, rfl⟩⟩
      · exact absurd g r1
    · rw [if_neg g]
      exact ext_row h3 h4 q2 g
/-- a turn's call: in step, what it leaves, and what it does to the accounts -/
def OP (f : cR → Option (Int × cR)) (g : mR → Option (Int × mR)) (F : hR → Option (Int × hR)) : Prop :=
  (∀ T C To c m, 0 ≤ T ∧ T ≤ 100000 → 0 ≤ C ∧ C + 1 + To ≤ 512 → Inv T C To c m → stepI T C To (f c) (g m)) ∧
  (∀ T C To c m, 0 ≤ T ∧ T ≤ 100000 → 0 ≤ C ∧ C + 1 + To ≤ 512 → Inv T C To c m → ∃ r c' H', f c = some (r, c') ∧ F (c.1 0) = some (r, H') ∧ c'.1 0 = H' ∧ Ext c c' r) ∧
  (∀ H, Bal H → Pst (fun p => Bal p.2) (F H)) ∧ ge6 F
theorem op_set {s v : Int} (hs : wR s) (hv : wR v) : OP (fX6_set s v) (fX7_set s v) (fX2_replaceSetting s v) :=
  ⟨fun T C To c m hT hC I => iv_set I hs hv, fun T C To c m hT hC I => ext_call (F := fun H => fX2_replaceSetting s v H) I (ls_set I.1 hs hv), fun H h => Pst.bal (fun H0 H h => kp_set h) h, ge_set⟩
theorem op_holiday {s v : Int} (hs : wR s) (hv : wR v) : OP (fX6_holiday s v) (fX7_holiday s v) (fX1_mark s v) :=
  ⟨fun T C To c m hT hC I => iv_holiday I hs hv, fun T C To c m hT hC I => ext_call (F := fun H => fX1_mark s v H) I (ls_holiday I.1 hs hv), fun H h => Pst.bal (fun H0 H h => kp_mark h) h, ge_mark⟩
theorem op_account {s v : Int} (hs : wR s) (hv : wR v) : OP (fX6_account s v) (fX7_account s v) (fX2_addAccount s v) :=
  ⟨fun T C To c m hT hC I => iv_account hT.1 I hs hv, fun T C To c m hT hC I => ext_call (F := fun H => fX2_addAccount s v H) I (ls_account hT.1 I.1 hs hv), fun H h => bal_account h, ge_account⟩
theorem op_feed {s v : Int} (hs : wR s) (hv : wR v) : OP (fX6_feed s v) (fX7_feed s v) (fX2_nameFeeder s v) :=
  ⟨fun T C To c m hT hC I => iv_feed I hs hv, fun T C To c m hT hC I => ext_call (F := fun H => fX2_nameFeeder s v H) I (ls_feed I.1 hs hv), fun H h => Pst.bal (fun H0 H h => kp_feed h) h, ge_feed⟩
theorem op_deposit {s v : Int} (hs : wR s) (hv : wR v) : OP (fX6_deposit s v) (fX7_deposit s v) (fX2_payIn s v) :=
  ⟨fun T C To c m hT hC I => iv_deposit hT.2 I hs hv, fun T C To c m hT hC I => ext_call (F := fun H => fX2_payIn s v H) I (ls_depositC hT.2 I.1 hs hv), fun H h => Pst.bal (fun H0 H h => kp_payIn h) h, ge_payIn⟩
theorem op_change {o a p : Int} (ho : wR o) (ha : wR a) (hp : wR p) : OP (fX6_change o a p) (fX7_change o a p) (fX2_alterOrder o a p) :=
  ⟨fun T C To c m hT hC I => iv_change I ho ha hp, fun T C To c m hT hC I => ext_call (F := fun H => fX2_alterOrder o a p H) I (ls_change I.1 ho ha hp), fun H h => Pst.bal (fun H0 H h => kp_change h) h, ge_change⟩
theorem op_stop {o : Int} (ho : wR o) : OP (fX6_stop o) (fX7_stop o) (fX2_stopOrder o) :=
  ⟨fun T C To c m hT hC I => iv_stop I ho, fun T C To c m hT hC I => ext_call (F := fun H => fX2_stopOrder o H) I (ls_stopC I.1 ho), fun H h => Pst.bal (fun H0 H h => kp_stop h) h, ge_stop⟩
theorem op_goOn {o : Int} (ho : wR o) : OP (fX6_goOn o) (fX7_goOn o) (fX2_resumeOrder o) :=
  ⟨fun T C To c m hT hC I => iv_goOn I ho, fun T C To c m hT hC I => ext_call (F := fun H => fX2_resumeOrder o H) I (ls_goOnC I.1 ho), fun H h => Pst.bal (fun H0 H h => kp_goOn h) h, ge_goOn⟩
theorem op_giveUp {p : Int} (hp : wR p) : OP (fX6_giveUp p) (fX7_giveUp p) (fX2_dropPayment p) :=
  ⟨fun T C To c m hT hC I => iv_giveUp I hp, fun T C To c m hT hC I => ext_call (F := fun H => fX2_dropPayment p H) I (ls_giveUp I.1 hp), fun H h => Pst.bal (fun H0 H h => kp_giveUp h) h, ge_giveUp⟩
theorem op_order {x1 x2 x3 x4 x5 x6 : Int} (h1 : wR x1) (h2 : wR x2) (h3 : wR x3) (h4 : wR x4) (h5 : wR x5) (h6 : wR x6) : OP (fX6_order x1 x2 x3 x4 x5 x6) (fX7_order x1 x2 x3 x4 x5 x6) (fX2_addOrder x1 x2 x3 x4 x5 x6) :=
  ⟨fun T C To c m hT hC I => iv_order I h1 h2 h3 h4 h5 h6, fun T C To c m hT hC I => ext_call (F := fun H => fX2_addOrder x1 x2 x3 x4 x5 x6 H) I (ls_orderC I.1 h1 h2 h3 h4 h5 h6), fun H h => Pst.bal (fun H0 H h => kp_order h) h, ge_order⟩
theorem rec_val {x : Int} {c : cR} : Pst (fun p => p.1 = x) (fX6_recorded x c) := by
  unfold fX6_recorded
  (repeat' (first | (with_reducible refine pst_gd (fun _ => ?_)) | (with_reducible refine pst_cr (fun _ _ => ?_)) | (with_reducible refine pst_if (fun _ => ?_) (fun _ => ?_)) | (with_reducible refine pst_clb ?_) | (with_reducible refine pst_cls ?_) | (with_reducible refine pst_bnd ?_) | (with_reducible refine pst_some ?_)))
  all_goals rfl
theorem ext_days {T C To n : Int} {c : cR} {m : mR} (hT : 0 ≤ T ∧ T ≤ 100000) (hC : 0 ≤ C ∧ C + 1 + To ≤ 512) (I : Inv T C To c m) (hn : wR n) : ∃ r c' H', fX6_days n c = some (r, c') ∧ daysF n (c.1 0) = some (r, H') ∧ c'.1 0 = H' ∧ Ext c c' r := by
  obtain ⟨h3, h4⟩ := I.chg
  obtain ⟨H1, q1, q2⟩ := ext_mem I
  obtain ⟨r, c', m', e, -, hr, C', To', -, J⟩ := iv_days hT hC I hn
  have q4 : (cH c (2 + (c.2.1 0 3 + c.2.1 0 4) % 7) H1).1 0 = c.1 0 := cHn _ _ (by omega)
  refine ⟨r, c', c'.1 0, e, ?_, rfl, ?_⟩
  · have e' := e
    unfold fX6_days at e'
    obtain ⟨er, he, e'⟩ := cr_inv e'
    obtain ⟨-, e'⟩ := gd_inv e'
    unfold daysF
    rw [he, cr_some]
    by_cases g : er = 0
    · rw [if_pos g] at e' ⊢
      rw [q1, cl_some, q4] at e'
      obtain ⟨y, t, e1, e'⟩ := cl_inv e'
      rw [e1, cl_some]
      rw [bnd_eq] at e'
      obtain ⟨y2, c2, e2, e'⟩ := cl_inv e'
      cases e'
      have hv : r = ((cH (cH c (2 + (c.2.1 0 3 + c.2.1 0 4) % 7) H1) 0 t).1 0).1 0 6 0 := rec_val _ e2
      rw [← hv, ec_recorded (c := cH (cH c (2 + (c.2.1 0 3 + c.2.1 0 4) % 7) H1) 0 t) hr (show 0 ≤ c.2.1 0 3 ∧ c.2.1 0 3 ≤ 6 from h3) (show 0 ≤ c.2.1 0 4 ∧ c.2.1 0 4 ≤ 6 from h4)] at e2
      have ht : (cH (cH c (2 + (c.2.1 0 3 + c.2.1 0 4) % 7) H1) 0 t).1 0 = t := cHp _ _ _
      rw [ht] at hv
      have hc2 : c'.1 0 = t := by
        have := congrArg (fun o : Option (Int × cR) => (o.map (fun p => p.2.1 0)).getD t) e2
        simp only [Option.map_some, Option.getD_some] at this
        rw [← this]
        split
        · exact ht
        · rw [rcd_1]
          exact ht
      rw [hc2, hv]
    · rw [if_neg g] at e' ⊢
      cases e'
      rfl
  · have e' := e
    unfold fX6_days at e'
    obtain ⟨er, he, e'⟩ := cr_inv e'
    obtain ⟨-, e'⟩ := gd_inv e'
    by_cases g : er = 0
    · rw [if_pos g] at e'
      rw [q1, cl_some, q4] at e'
      obtain ⟨y, t, e1, e'⟩ := cl_inv e'
      rw [bnd_eq] at e'
      obtain ⟨y2, c2, e2, e'⟩ := cl_inv e'
      cases e'
      have hv : r = ((cH (cH c (2 + (c.2.1 0 3 + c.2.1 0 4) % 7) H1) 0 t).1 0).1 0 6 0 := rec_val _ e2
      rw [← hv, ec_recorded (c := cH (cH c (2 + (c.2.1 0 3 + c.2.1 0 4) % 7) H1) 0 t) hr (show 0 ≤ c.2.1 0 3 ∧ c.2.1 0 3 ≤ 6 from h3) (show 0 ≤ c.2.1 0 4 ∧ c.2.1 0 4 ≤ 6 from h4)] at e2
      by_cases ge : -5 ≤ r ∧ r ≤ -1
      · rw [if_pos ge] at e2
        exfalso
        have hc2 : c' = cH (cH c (2 + (c.2.1 0 3 + c.2.1 0 4) % 7) H1) 0 t := by cases e2; rfl
        have ks := J.1.2.2.2.1
        unfold okS at ks
        rw [hc2] at ks
        omega
      · rw [if_neg ge] at e2
        cases e2
        exact ext_row h3 h4 q2 ge
    · rw [if_neg g] at e'
      cases e'
      have her : fX2_errorOfDays n (c.1 0) = some r := he
      have hrg : -5 ≤ r ∧ r ≤ 0 := by
        have : Pst (fun p => -5 ≤ p ∧ p ≤ 0) (fX2_errorOfDays n (c.1 0)) := by
          unfold fX2_errorOfDays
          (repeat' (first | (with_reducible refine pst_gd (fun _ => ?_)) | (with_reducible refine pst_cr (fun _ _ => ?_)) | (with_reducible refine pst_if (fun _ => ?_) (fun _ => ?_)) | (with_reducible refine pst_clb ?_) | (with_reducible refine pst_cls ?_) | (with_reducible refine pst_bnd ?_) | (with_reducible refine pst_some ?_)))
          all_goals decide
        exact this _ her
      exact ⟨fun k q => rfl, fun s => rfl, Or.inl ⟨hrg.1, by omega, rfl, rfl⟩⟩
theorem op_days {n : Int} (hn : wR n) : OP (fX6_days n) (fX7_days n) (daysF n) :=
  ⟨fun T C To c m hT hC I => iv_days hT hC I hn, fun T C To c m hT hC I => ext_days hT hC I hn, fun H h => bal_days h, ge_days⟩

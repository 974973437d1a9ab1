/-! ===== undo, save, restore: what they leave; states with the same house ===== -/
theorem ext_undo {T C To : Int} {c : cR} {m : mR} (I : Inv T C To c m) (h1 : 1 ≤ c.2.1 0 4) : ∃ c', fX6_undo c = some (c.2.1 0 4 - 1, c') ∧ c'.2.1 0 4 = c.2.1 0 4 - 1 ∧ copyR (c.1 (rowL c)) (c'.1 0) := by
  obtain ⟨h3, h4⟩ := I.chg
  obtain ⟨i1, i2, i3, i4, a1, a2, a3, a4, a5, a6⟩ := I
  have hl := (a4 (m.1 6 7 - 1) (by omega)).1
  have hl2 : Ok T (c.1 (2 + (c.2.1 0 3 + (m.1 6 7 - 1)) % 7)) := hl.2.2
  rw [← a2] at hl2
  obtain ⟨H1, f1, f2⟩ := ec_copy (H2 := c.1 (2 + (c.2.1 0 3 + (c.2.1 0 4 - 1)) % 7)) (H := c.1 0) hl2.copyP.1 hl2.copyP.2 (a6 0 (by omega))
  have z3 : (cT c 0 4 (c.2.1 0 4 - 1)).2.1 0 3 = c.2.1 0 3 := cT_n _ (by omega)
  have z4 : (cT c 0 4 (c.2.1 0 4 - 1)).2.1 0 4 = c.2.1 0 4 - 1 := cT_p _ _ _ _
  have z4' : (cH (cT c 0 4 (c.2.1 0 4 - 1)) 0 H1).2.1 0 4 = c.2.1 0 4 - 1 := z4
  have hc0 : (cH (cT c 0 4 (c.2.1 0 4 - 1)) 0 H1).1 0 = H1 := cHp _ _ _
  refine ⟨cH (cT c 0 4 (c.2.1 0 4 - 1)) 0 H1, ?_, z4', ?_⟩
  · unfold fX6_undo fX6_rowBehindLatest
    rw [gd_pos (by omega), if_neg (by omega), bnd_eq, z3, z4, gd_pos (by omega), cr_some, rmI_pos (by omega), gd_pos (by omega)]
    show cl (fX2_copyFrom (c.1 (2 + (c.2.1 0 3 + (c.2.1 0 4 - 1)) % 7)) (c.1 0)) _ = _
    rw [f1, cl_some, bnd_eq, z4']
  · rw [hc0]
    exact f2
theorem ext_save {T C To s : Int} {c : cR} {m : mR} (I : Inv T C To c m) (hs : 0 ≤ s ∧ s ≤ 1) : ∃ c', fX6_save s c = some ((c.1 0).1 0 6 0, c') ∧ c'.1 0 = c.1 0 ∧ c'.2.1 0 4 = c.2.1 0 4 ∧ copyR (c.1 0) (c'.1 (9 + s)) ∧ c'.2.1 1 s = 1 := by
  obtain ⟨i1, i2, i3, i4, a1, a2, a3, a4, a5, a6⟩ := I
  obtain ⟨H1, f1, f2⟩ := ec_copy (H2 := c.1 0) (H := c.1 (9 + s)) i1.2.2.copyP.1 i1.2.2.copyP.2 (a6 _ (by omega))
  have hcs : (cT (cH c (9 + s) H1) 1 s 1).1 (9 + s) = H1 := cHp _ _ _
  have hc0 : (cT (cH c (9 + s) H1) 1 s 1).1 0 = c.1 0 := cHn _ _ (by omega)
  refine ⟨cT (cH c (9 + s) H1) 1 s 1, ?_, hc0, cT_n _ (by omega), ?_, cT_p _ _ _ _⟩
  · unfold fX6_save
    rw [ev_btT (by omega), cr_some, gd_pos (by omega), if_neg (by omega), gd_pos (by omega), f1, cl_some, bnd_eq, gd_pos (by omega), bnd_eq, hc0]
  · rw [hcs]
    exact f2
theorem ext_restore {T C To s : Int} {c : cR} {m : mR} (I : Inv T C To c m) (hs : 0 ≤ s ∧ s ≤ 1) (h1 : c.2.1 1 s = 1) : ∃ c' r, fX6_restore s c = some (r, c') ∧ r = (c'.1 0).1 0 6 0 ∧ copyR (c.1 (9 + s)) (c'.1 0) := by
  obtain ⟨h3, h4⟩ := I.chg
  obtain ⟨H1, q1, q2⟩ := ext_mem I
  obtain ⟨i1, i2, i3, i4, a1, a2, a3, a4, a5, a6⟩ := I
  have h9 : (cH c (2 + (c.2.1 0 3 + c.2.1 0 4) % 7) H1).1 (9 + s) = c.1 (9 + s) := cHn _ _ (by omega)
  have h0 : (cH c (2 + (c.2.1 0 3 + c.2.1 0 4) % 7) H1).1 0 = c.1 0 := cHn _ _ (by omega)
  have hl := ((a5 s hs).2.2 (by rw [← (a5 s hs).1]; exact h1)).1
  have hl2 : Ok T (c.1 (9 + s)) := hl.2.2
  have ks := hl2.2.1
  unfold okS at ks
  obtain ⟨H2, f1, f2⟩ := ec_copy (H2 := c.1 (9 + s)) (H := c.1 0) hl2.copyP.1 hl2.copyP.2 (a6 0 (by omega))
  have h6 : H2.1 0 6 0 = (c.1 (9 + s)).1 0 6 0 := f2.1 6 (by omega)
  have hc0 : (cH (cH c (2 + (c.2.1 0 3 + c.2.1 0 4) % 7) H1) 0 H2).1 0 = H2 := cHp _ _ _
  have g0 : (rcd (cH (cH c (2 + (c.2.1 0 3 + c.2.1 0 4) % 7) H1) 0 H2)).1 0 = H2 := by rw [rcd_1, hc0]
  refine ⟨rcd (cH (cH c (2 + (c.2.1 0 3 + c.2.1 0 4) % 7) H1) 0 H2), H2.1 0 6 0, ?_, by rw [g0], by rw [g0]; exact f2⟩
  unfold fX6_restore
  rw [ev_btT (by omega), cr_some, gd_pos (by omega), if_neg (by omega), gd_pos (by omega), gd_pos (by omega), if_neg (by omega), q1, cl_some, gd_pos (by omega), h9, h0, f1, cl_some, bnd_eq, hc0, ec_recorded (c := cH (cH c (2 + (c.2.1 0 3 + c.2.1 0 4) % 7) H1) 0 H2) (by omega) (show 0 ≤ c.2.1 0 3 ∧ c.2.1 0 3 ≤ 6 from h3) (show 0 ≤ c.2.1 0 4 ∧ c.2.1 0 4 ≤ 6 from h4), if_neg (by omega)]
  rfl
/-- two houses that nobody can tell apart -/
def sameH (H H2 : hR) : Prop := (∀ (T C : Int) (m : mR), Sim T H m → okXf C H → Sim T H2 m ∧ okXf C H2) ∧ (Bal H → Bal H2) ∧ H2.1 0 6 0 = H.1 0 6 0 ∧ H2.1 0 5 0 = H.1 0 5 0
theorem sameH.rf (H : hR) : sameH H H := ⟨fun _ _ _ h1 h2 => ⟨h1, h2⟩, id, rfl, rfl⟩
theorem sameH.of {H H2 : hR} (h : H2 = H) : sameH H H2 := by
  subst h
  exact sameH.rf _
theorem sameH.tr {H H1 H2 : hR} (h : sameH H H1) (g : sameH H1 H2) : sameH H H2 := ⟨fun T C m h1 h2 => g.1 T C m (h.1 T C m h1 h2).1 (h.1 T C m h1 h2).2, fun b => g.2.1 (h.2.1 b), g.2.2.1.trans h.2.2.1, g.2.2.2.trans h.2.2.2⟩
theorem sameH.copy {H H2 : hR} (h : copyR H H2) : sameH H H2 := ⟨fun T C m h1 h2 => ⟨h1.copy h, h2.copy h1.2.2 h⟩, fun b a ha => by
  rw [h.1 4 (by omega)] at ha
  have := b a ha
  have f := (h.2.2.2.1 a ha).1
  unfold dfc at *
  rw [f 3 (by omega), f 4 (by omega), f 5 (by omega), f 6 (by omega), f 7 (by omega), f 8 (by omega), f 9 (by omega), f 10 (by omega)]
  exact this, h.1 6 (by omega), h.1 5 (by omega)⟩
theorem sameH.aims {H H2 : hR} (h : onlyAims H H2) : sameH H H2 := ⟨fun T C m h1 h2 => ⟨h1.aims h, h2.aims h1.2.2 h⟩, fun b => b.kp (kpD.fr (kpD.rf H) (h.1 0 4 0 (by omega)) (fun a f _ => h.1 2 a f (by omega))), h.1 0 6 0 (by omega), h.1 0 5 0 (by omega)⟩
theorem Inv.swap {T C To : Int} {c : cR} {m : mR} {H2 : hR} (I : Inv T C To c m) (s : sameH (c.1 0) H2) : Inv T C To (cH c 0 H2) m := by
  obtain ⟨i1, i2, i3, i4, i5⟩ := I
  obtain ⟨l1, l2⟩ := s.1 T C m i1 i2
  have h0 : (cH c 0 H2).1 0 = H2 := cHp _ _ _
  have hn : ∀ k : Int, ¬ k = 0 → (cH c 0 H2).1 k = c.1 k := fun k q => cHn _ _ q
  have hh : HistR T C (9 * To - m.1 6 10) (cH c 0 H2) m := i5.fr (fun k hk => hn k (by omega)) (by rw [h0]; exact fc_room l1.2.2) (by rw [hn 1 (by omega)]; exact i5.2.2.2.2.2 1 (by omega)) rfl (fun l hl => rowEq.of rfl rfl rfl) rfl rfl
  exact ⟨by rw [h0]; exact l1, by rw [h0]; exact l2, i3.fr rfl rfl rfl, by rw [h0, s.2.2.2]; exact i4, hh⟩
/-- the same call on states with the same house tells the same -/
theorem op_same {f : cR → Option (Int × cR)} {g : mR → Option (Int × mR)} {F : hR → Option (Int × hR)} (o : OP f g F) {T C To T2 C2 To2 : Int} {c c2 : cR} {m m2 : mR} (hT : 0 ≤ T ∧ T ≤ 100000) (hC : 0 ≤ C ∧ C + 1 + To ≤ 512) (I : Inv T C To c m) (hT2 : 0 ≤ T2 ∧ T2 ≤ 100000) (hC2 : 0 ≤ C2 ∧ C2 + 1 + To2 ≤ 512) (I2 : Inv T2 C2 To2 c2 m2) (s : sameH (c.1 0) (c2.1 0)) {r r2 : Int} {c' c2' : cR} (e : f c = some (r, c')) (e2 : f c2 = some (r2, c2')) : r2 = r := by
  have J := I.swap s
  have h0 : (cH c 0 (c2.1 0)).1 0 = c2.1 0 := cHp _ _ _
  obtain ⟨a1, x1, y1, p1, p2, -⟩ := o.1 T C To c m hT hC I
  obtain ⟨a2, x2, y2, p3, p4, -⟩ := o.1 T C To _ m hT hC J
  obtain ⟨a3, x3, H3, p5, p6, -⟩ := o.2.1 T C To _ m hT hC J
  obtain ⟨a4, x4, H4, p7, p8, -⟩ := o.2.1 T2 C2 To2 c2 m2 hT2 hC2 I2
  rw [h0, p8] at p6
  rw [p2] at p4
  rw [p3] at p5
  rw [e] at p1
  rw [e2] at p7
  have w1 : a1 = r := by cases p1; rfl
  have w2 : a2 = a1 := by cases p4; rfl
  have w3 : a3 = a2 := by cases p5; rfl
  have w4 : a4 = a3 := by cases p6; rfl
  have w5 : a4 = r2 := by cases p7; rfl
  omega

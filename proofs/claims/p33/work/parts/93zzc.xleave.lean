/-! ===== what bounds the waiting list: leaving out, goOn, order, giveUp ===== -/
theorem x_leave {b : Int → Bool} {o t : Int} (ht : t ≤ 1094) : ∀ (fuel : Nat) (cnt i : Int) (H : hR), calC H b → okOrd H o → aimed b H o → 0 ≤ H.1 3 o 16 → H.1 3 o 16 ≤ 1095 → i ≤ H.1 3 o 16 →
    Pst (fun p => onlyNext o H p.2 ∧ aimed b p.2 o ∧ H.1 3 o 16 ≤ p.2.1 3 o 16 ∧ p.2.1 3 o 16 ≤ 1095 ∧ t ≤ p.2.1 3 o 19 ∧ (p.2.1 3 o 16 = H.1 3 o 16 ∨ ¬ nomO b H o (p.2.1 3 o 16 - 1) = -6)) (fX3_leaveOutBefore_b10 fuel o t cnt i H)
  | 0, _, _, _, _, _, _, _, _, _ => fun x e => by cases e
  | fuel + 1, cnt, i, H, hb, hk, ha, hf0, hf1, hi => by
    have ha' := ha
    obtain ⟨a1, a2, a3⟩ := ha'
    have hx := ixF_rng b H o (H.1 3 o 16)
    have hr := nomO_rng (b := b) (k := ixF b H o (H.1 3 o 16)) hk (by omega)
    have hd := dtF_rng (b := b) (k := ixF b H o (H.1 3 o 16)) hk (by omega)
    have stay : t ≤ H.1 3 o 19 → onlyNext o H H ∧ aimed b H o ∧ H.1 3 o 16 ≤ H.1 3 o 16 ∧ H.1 3 o 16 ≤ 1095 ∧ t ≤ H.1 3 o 19 ∧ (H.1 3 o 16 = H.1 3 o 16 ∨ ¬ nomO b H o (H.1 3 o 16 - 1) = -6) := fun q => ⟨⟨fun _ _ _ _ => rfl, rfl⟩, ha, Int.le_refl _, hf1, q, Or.inl rfl⟩
    unfold fX3_leaveOutBefore_b10
    refine pst_gd (fun _ => pst_if (fun g => pst_some (stay (by omega))) (fun _ => pst_gd (fun _ => pst_if (fun g => pst_some (stay g)) (fun g => pst_bnd (pst_cl (fun y H1 q => ?_))))))
    have g1 : ¬ nomO b H o (ixF b H o (H.1 3 o 16)) = -6 := fun c => by omega
    have s16 : (hS H 3 o 16 (H.1 3 o 17 + 1)).1 3 o 16 = ixF b H o (H.1 3 o 16) + 1 := by rw [hS_p, a1]
    have k1 : okOrd (hS H 3 o 16 (H.1 3 o 17 + 1)) o := hk.fr (fun f hf => hS_n H (by omega))
    have b1 : calC (hS H 3 o 16 (H.1 3 o 17 + 1)) b := hb.fr (fun a => hS_n H (by omega)) (hS_n H (by omega))
    obtain ⟨⟨u1, H0⟩, e1, hon, hai⟩ := ec_aim (o := o) b1 k1 (by omega)
    rw [e1] at q
    cases q
    have k2 : okOrd H1 o := k1.fr (fun f hf => hon.1 3 o f (by omega))
    have b2 : calC H1 b := b1.fr (fun a => hon.1 6 a 0 (by omega)) (hon.1 1 2 0 (by omega))
    have f16 : H1.1 3 o 16 = ixF b H o (H.1 3 o 16) + 1 := (hon.1 3 o 16 (by omega)).trans s16
    have hH1 : ∀ f : Int, 0 ≤ f ∧ f ≤ 15 → H1.1 3 o f = H.1 3 o f := fun f hf => (hon.1 3 o f (by omega)).trans (hS_n H (by omega))
    intro p ep
    obtain ⟨w1, w2, w3, w4, w5, w6⟩ := x_leave ht fuel (cnt + 1) (i + 1) H1 b2 k2 hai (by omega) (by omega) (by omega) p ep
    refine ⟨⟨fun t' a f q => ?_, w1.2.trans hon.2⟩, w2, by omega, w4, w5, ?_⟩
    · rw [w1.1 t' a f q]
      exact (hon.1 t' a f (by omega)).trans (hS_n H (by omega))
    · rcases w6 with w6 | w6
      · rw [w6, f16, show ixF b H o (H.1 3 o 16) + 1 - 1 = ixF b H o (H.1 3 o 16) by omega]
        exact Or.inr g1
      · rw [nomO_fr (H := H) (fun f q => hH1 f (by omega))] at w6
        exact Or.inr w6
theorem x_leaveOut {b : Int → Bool} {o t : Int} {H : hR} (ht : 0 ≤ t ∧ t ≤ 1094) (hb : calC H b) (hk : okOrd H o) (hf : 0 ≤ H.1 3 o 16 ∧ H.1 3 o 16 ≤ 1095) :
    Pst (fun p => onlyNext o H p.2 ∧ aimed b p.2 o ∧ H.1 3 o 16 ≤ p.2.1 3 o 16 ∧ p.2.1 3 o 16 ≤ 1095 ∧ t ≤ p.2.1 3 o 19 ∧ (p.2.1 3 o 16 = H.1 3 o 16 ∨ ¬ nomO b H o (p.2.1 3 o 16 - 1) = -6)) (fX3_leaveOutBefore o t H) := by
  obtain ⟨⟨u, H1⟩, e1, hon, hai⟩ := ec_aim (o := o) hb hk (by omega)
  have f16 : H1.1 3 o 16 = H.1 3 o 16 := hon.1 3 o 16 (by omega)
  have k2 : okOrd H1 o := hk.fr (fun f q => hon.1 3 o f (by omega))
  have b2 : calC H1 b := hb.fr (fun a => hon.1 6 a 0 (by omega)) (hon.1 1 2 0 (by omega))
  unfold fX3_leaveOutBefore
  refine pst_cl (fun y H2 q => ?_)
  have hy : H2 = H1 := by
    rw [e1] at q
    cases q
    rfl
  subst hy
  intro p ep
  obtain ⟨w1, w2, w3, w4, w5, w6⟩ := x_leave ht.2 fuel0 0 0 _ b2 k2 hai (by omega) (by omega) (by omega) p ep
  refine ⟨⟨fun t' a f q => (w1.1 t' a f q).trans (hon.1 t' a f (by omega)), w1.2.trans hon.2⟩, w2, by omega, w4, w5, ?_⟩
  rw [nomO_fr (H := H) (fun f q => hon.1 3 o f (by omega)), f16] at w6
  exact w6
def same3 (H H' : hR) : Prop := H'.1 1 1 0 = H.1 1 1 0 ∧ H'.1 0 6 0 = H.1 0 6 0 ∧ H'.1 1 2 0 = H.1 1 2 0
def okPh (P C : Int) (H : hR) : Prop := (P = 5 ∧ H.1 1 1 0 + 1 ≤ C) ∨ P = phW ((H.1 0 6 0 + H.1 1 2 0) % 7)
theorem okXp.left {P C o : Int} {H H' : hR} (h : okXp P C H) (hP : okPh P C H) (hw : okW H) (hc : ∀ (lo : Int) (n : Nat), 0 ≤ lo → lo + n ≤ 1095 → cntB (holB H) lo n ≤ H.1 1 1 0) (ht : 0 ≤ H.1 0 6 0 ∧ H.1 0 6 0 ≤ 1094)
    (hx : ∀ t a f : Int, ¬ (t = 3 ∧ a = o) → ¬ (t = 0 ∧ a = 5) → H'.1 t a f = H.1 t a f)
    (h5 : ∀ i : Int, 0 ≤ i → i < H'.1 0 5 0 → i = o ∨ i < H.1 0 5 0)
    (hk : okOrd H' o) (ha : aimed (cB H) H' o) (h16 : 0 ≤ H'.1 3 o 16) (h19 : H.1 0 6 0 ≤ H'.1 3 o 19)
    (h36 : ¬ H'.1 3 o 3 ≤ 1 → H'.1 3 o 16 ≤ 36) (h9 : H'.1 3 o 9 = 1 → H'.1 3 o 10 = 0)
    (h1o : ∀ i : Int, 0 ≤ i ∧ i < H.1 4 2 0 → H.1 5 0 i = o → H.1 3 o 3 = H'.1 3 o 3 ∧ nomK H o (H.1 3 o 16) ≤ nomK H' o (H'.1 3 o 16)) : okXp P C H' := by
  obtain ⟨a1, ⟨b1, b2, b3⟩, a3⟩ := h
  have e1 : H'.1 1 1 0 = H.1 1 1 0 := hx _ _ _ (by omega) (by omega)
  have e6 : H'.1 0 6 0 = H.1 0 6 0 := hx _ _ _ (by omega) (by omega)
  have e12 : H'.1 1 2 0 = H.1 1 2 0 := hx _ _ _ (by omega) (by omega)
  have e42 : H'.1 4 2 0 = H.1 4 2 0 := hx _ _ _ (by omega) (by omega)
  have eh : holB H' = holB H := by
    funext d
    unfold holB
    rw [hx 6 _ 0 (by omega) (by omega)]
  have q5 : ∀ c i : Int, H'.1 5 c i = H.1 5 c i := fun c i => hx _ _ _ (by omega) (by omega)
  have q3 : ∀ i f : Int, ¬ i = o → H'.1 3 i f = H.1 3 i f := fun i f q => hx _ _ _ (by omega) (by omega)
  have qK : ∀ i j : Int, ¬ i = o → nomK H' i j = nomK H i j := fun i j q => nomK_fr (fun f _ => q3 i f q) j
  have eZ : zP P C H' = zP P C H := by
    unfold zP
    rw [e1, e6, eh]
  have eU : uX C H' = uX C H := by
    unfold uX
    rw [e1]
  have hfut : futH (holB H) (H.1 0 6 0) ≤ H.1 1 1 0 := hc _ _ ht.1 (by omega)
  have hf0 := futH_rng (holB H) (H.1 0 6 0)
  have hph := phW_rng (w := (H.1 0 6 0 + H.1 1 2 0) % 7) (by omega)
  have hZ : zP P C H = 10 + 2 * H.1 1 1 0 + 5 * C - P - 7 * futH (holB H) (H.1 0 6 0) := rfl
  unfold okPh at hP
  refine ⟨by omega, ⟨fun i hi c1 => ?_, fun i hi => ?_, fun i j a b c d e => ?_⟩, fun i hi => ?_⟩
  · rw [e42] at hi
    rw [q5] at c1
    rw [q5, q5, q5, e6, eZ]
    by_cases g : H.1 5 0 i = o
    · obtain ⟨w1, w2⟩ := h1o i hi g
      rw [g] at c1 ⊢
      have := b1 i hi (by rw [g, w1]; exact c1)
      rw [g] at this
      omega
    · rw [q3 _ 3 g] at c1
      rw [q3 _ 16 g, qK _ _ g]
      exact b1 i hi c1
  · rw [e6, eZ]
    by_cases g : i = o
    · subst g
      refine ⟨fun c1 c2 => ?_, h36, h9⟩
      obtain ⟨g1, g2, g3⟩ := ha
      have x1 := ixF_K (b := cB H) hk h16 c1
      rw [x1] at g3
      have hd := dtF_rng (b := cB H) (k := H'.1 3 i 16) hk h16
      have hr := nomO_rng (b := cB H) (k := H'.1 3 i 16) hk h16
      have eK := nomO_K (b := cB H) (H := H') (o := i) (k := H'.1 3 i 16) (by have := hk.1; omega)
      have hge := nomK_ge hk h16
      have hfi := hk.2.2.2.1
      by_cases q : 1094 < nomK H' i (H'.1 3 i 16)
      · omega
      · rw [if_neg q] at eK
        rcases hd with ⟨d1, d2⟩ | ⟨d1, d2, d3⟩
        · omega
        · rw [eK] at d1 d2 hr
          by_cases g4 : H.1 0 6 0 ≤ nomK H' i (H'.1 3 i 16)
          · omega
          · have r1 := nonB_run (wd := H.1 1 2 0) (hb := holB H) (H.1 0 6 0 - nomK H' i (H'.1 3 i 16)).toNat (nomK H' i (H'.1 3 i 16)) (fun j j1 j2 => shZ_gt (b := cB H) (d := nomK H' i (H'.1 3 i 16)) (r := H'.1 3 i 7) (by omega) (by omega) j j1 (by omega))
            have r2 := cntB_add (b := holB H) (lo := nomK H' i (H'.1 3 i 16)) (n := (H.1 0 6 0 - nomK H' i (H'.1 3 i 16)).toNat) (1095 - H.1 0 6 0).toNat
            have r3 := hc (nomK H' i (H'.1 3 i 16)) ((H.1 0 6 0 - nomK H' i (H'.1 3 i 16)).toNat + (1095 - H.1 0 6 0).toNat) (by omega) (by omega)
            have r4 := phW_rng (w := (nomK H' i (H'.1 3 i 16) + H.1 1 2 0) % 7) (by omega)
            rw [show nomK H' i (H'.1 3 i 16) + (((H.1 0 6 0 - nomK H' i (H'.1 3 i 16)).toNat : Nat) : Int) = H.1 0 6 0 by omega] at r1 r2
            have r5 : futH (holB H) (H.1 0 6 0) = cntB (holB H) (H.1 0 6 0) (1095 - H.1 0 6 0).toNat := rfl
            omega
    · have hi2 : 0 ≤ i ∧ i < H.1 0 5 0 := by
        rcases h5 i hi.1 hi.2 with q | q <;> omega
      rw [q3 i 3 g, q3 i 11 g, q3 i 9 g, q3 i 10 g, q3 i 16 g, qK _ _ g]
      exact b2 i hi2
  · rw [e42] at c
    rw [q5, q5] at d
    rw [q5] at e
    rw [q5, q5, q5, eU]
    refine b3 i j a b c d ?_
    by_cases g : H.1 5 0 i = o
    · rw [g] at e ⊢
      rw [(h1o i (by omega) g).1]
      exact e
    · rw [q3 _ 3 g] at e
      exact e
  · rw [e42] at hi
    rw [q5, e6]
    exact a3 i hi
theorem Sim.cnt {T : Int} {H : hR} {m : mR} (h : Sim T H m) : ∀ (lo : Int) (n : Nat), 0 ≤ lo → lo + n ≤ 1095 → cntB (holB H) lo n ≤ H.1 1 1 0 := fun lo n h1 h2 => hol_cnt h.1.2.1 h.1.1.2.2.2.1 h1 h2
theorem hasO_inv {x y : Int} {H : hR} (h : fX2_hasOrder x H = some y) (n : ¬ y = 0) : 0 ≤ x ∧ x < H.1 0 5 0 := by
  have : Pst (fun y => ¬ y = 0 → 0 ≤ x ∧ x < H.1 0 5 0) (fX2_hasOrder x H) := by
    unfold fX2_hasOrder
    exact pst_gd (fun _ => pst_if (fun _ => pst_some (fun q => absurd rfl q)) (fun g1 => pst_gd (fun _ => pst_if (fun _ => pst_some (fun q => absurd rfl q)) (fun g2 => pst_some (fun _ => by omega)))))
  exact this y h n
theorem xp_goOn {P C T o : Int} {H : hR} {m : mR} (h : Sim T H m) (hP : okPh P C H) (hd : okXp P C H) : Pst (fun p => okXp P C p.2 ∧ same3 H p.2) (fX2_resumeOrder o H) := by
  have ks := h.2.2.2.1
  unfold okS at ks
  have same : okXp P C H ∧ same3 H H := ⟨hd, rfl, rfl, rfl⟩
  obtain ⟨bc, bm⟩ := cal_both h.1 ks.2.1
  unfold fX2_resumeOrder
  refine pst_cr (fun y1 q1 => pst_gd (fun _ => pst_if (fun _ => pst_some same) (fun n1 => ?_)))
  have ho := hasO_inv q1 n1
  · obtain ⟨w1, w2, w3⟩ := h.2.2.2.2.2.1 o ho
    unfold okC at w3
    have hS11 : ∀ t a f : Int, ¬ (t = 3 ∧ a = o ∧ f = 11) → (hS H 3 o 11 0).1 t a f = H.1 t a f := fun t a f q => hS_n H (by omega)
    have k1 : okOrd (hS H 3 o 11 0) o := w1.fr (fun f hf => hS11 _ _ _ (by omega))
    refine pst_gd (fun _ => pst_gd (fun _ => pst_if (fun _ => pst_gd (fun _ => pst_bnd (pst_gd (fun _ => pst_cl (fun r H' q => pst_some ?_))))) (fun _ => pst_some same)))
    rw [hS11 0 6 0 (by omega)] at q
    obtain ⟨v1, v2, v3, v4, v5, v6⟩ := x_leaveOut (b := cB H) (t := H.1 0 6 0) (by omega) (bc.fr (fun a => hS11 _ _ _ (by omega)) (hS11 _ _ _ (by omega))) k1 (by rw [hS11 3 o 16 (by omega)]; omega) _ q
    have v1 : onlyNext o (hS H 3 o 11 0) H' := v1
    have v2 : aimed (cB H) H' o := v2
    have v3 : (hS H 3 o 11 0).1 3 o 16 ≤ H'.1 3 o 16 := v3
    have v5 : H.1 0 6 0 ≤ H'.1 3 o 19 := v5
    rw [hS11 3 o 16 (by omega)] at v3
    have e : ∀ t a f : Int, ¬ (t = 3 ∧ a = o ∧ (f = 11 ∨ f = 16 ∨ f = 17 ∨ f = 18 ∨ f = 19)) → H'.1 t a f = H.1 t a f := fun t a f q => (v1.1 t a f (by omega)).trans (hS11 t a f (by omega))
    have k2 : okOrd H' o := w1.fr (fun f hf => e _ _ _ (by omega))
    have qK : ∀ k : Int, nomK H' o k = nomK H o k := fun k => nomK_fr (fun f _ => e _ _ _ (by omega)) k
    show okXp P C H' ∧ same3 H H'
    refine ⟨hd.left hP h.2.2.2.2.2.2.1 h.cnt (by omega) (fun t a f p1 p2 => e t a f (by omega)) (fun i i1 i2 => Or.inr (by rw [e 0 5 0 (by omega)] at i2; exact i2)) k2 v2 (by omega) v5 (fun c1 => ?_) (fun c1 => ?_) (fun i hi c1 => ⟨(e _ _ _ (by omega)).symm, ?_⟩), e _ _ _ (by omega), e _ _ _ (by omega), e _ _ _ (by omega)⟩
    · rw [e 3 o 3 (by omega)] at c1
      have old := (hd.2.1.2.1 o ho).2.1 c1
      rcases v6 with v6 | v6
      · have v6 : H'.1 3 o 16 = (hS H 3 o 11 0).1 3 o 16 := v6
        rw [hS11 3 o 16 (by omega)] at v6
        omega
      · have v6 : ¬ nomO (cB H) (hS H 3 o 11 0) o (H'.1 3 o 16 - 1) = -6 := v6
        by_cases z : H'.1 3 o 16 = 0
        · omega
        · have := nomO_36 k1 (by omega) (by rw [hS11 3 o 3 (by omega)]; exact c1) v6
          omega
    · rw [e 3 o 9 (by omega)] at c1
      rw [e 3 o 10 (by omega)]
      exact (hd.2.1.2.1 o ho).2.2 c1
    · rw [qK]
      by_cases z : H.1 3 o 16 = H'.1 3 o 16
      · rw [z]
        exact Int.le_refl _
      · have := nomK_lt w1 (k := H.1 3 o 16) (j := H'.1 3 o 16) (by omega)
        omega
theorem okXf.of3 {C : Int} {H H' : hR} (h : okXf C H) (k : ∀ P, okPh P C H → okXp P C H → okXp P C H' ∧ same3 H H') : okXf C H' := by
  obtain ⟨P, h1, h2⟩ := h
  obtain ⟨k1, k2, k3, k4⟩ := k P h1 h2
  refine ⟨P, ?_, k1⟩
  rw [k2, k3, k4]
  exact h1
theorem okXd.of3 {C : Int} {H H' : hR} (h : okXd C H) (k : ∀ P, okPh P C H → okXp P C H → okXp P C H' ∧ same3 H H') : okXd C H' := by
  obtain ⟨k1, k2, k3, k4⟩ := k _ (Or.inr rfl) h
  have : okXp (phW ((H'.1 0 6 0 + H'.1 1 2 0) % 7)) C H' := by
    rw [k3, k4]
    exact k1
  exact this
theorem x_goOn {C T o : Int} {H : hR} {m : mR} (h : Sim T H m) (hx : okXf C H) : Pst (fun p => okXf C p.2) (fX2_resumeOrder o H) := fun p e => hx.of3 (fun P h1 h2 => xp_goOn h h1 h2 p e)
theorem xd_goOn {C T o : Int} {H : hR} {m : mR} (h : Sim T H m) (hx : okXd C H) : Pst (fun p => okXd C p.2) (fX2_resumeOrder o H) := fun p e => hx.of3 (fun P h1 h2 => xp_goOn h h1 h2 p e)

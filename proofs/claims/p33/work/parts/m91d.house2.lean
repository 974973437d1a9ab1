def acc0 : va_E := .inr (0, fs0_0)
def ord0 : va_E := .inr (3, fs0_3)
def hB (E : wE) (a : Nat) (f g : Nat → Option Nat) : List va_E := [.inr (2, [.ref (a + 1), .ref (a + 3), .ref (a + 4), .ref (a + 5), .int (iI 0), .int (iI 0), .int (iI 0), .int (iI 3), .int (iI 250), .int (iI 120), .int (iI 0), .int (iI 0)]), .inr (1, [.ref (a + 2), .int (iI 0), .int (iI 0)]), eL E 18 (fun _ => 0), eQ E 6 8 f, eQ E 7 16 g, .inr (5, [.ref (a + 6), .int (iI 64), .int (iI 0)]), eQ E 5 5 (fun j => some (a + 7 + j)), eI E 64 (fun _ => 0), eI E 64 (fun _ => 0), eI E 64 (fun _ => 0), eI E 64 (fun _ => 0), eI E 64 (fun _ => 0)]
def upto (b i : Nat) : Nat → Option Nat := fun j => if j < i then some (b + j) else none
theorem upto_up (b i : Nat) (z : Int) (hz : z = (i : Int)) : va_up (upto b i) z.toNat (some (b + i)) = upto b (i + 1) := by
  subst hz
  funext j
  unfold va_up upto
  rw [Int.toNat_natCast]
  by_cases q : j = i
  · subst q
    simp
  · by_cases q2 : j < i
    · simp [q, q2, show j < i + 1 by omega]
    · simp [q, q2, show ¬ j < i + 1 by omega]
def hL1 (E : wE) (a i : Nat) : List va_E := hB E a (upto (a + 12) i) (fun _ => none) ++ List.replicate i acc0
def hL2 (E : wE) (a i : Nat) : List va_E := hB E a (upto (a + 12) 8) (upto (a + 20) i) ++ (List.replicate 8 acc0 ++ List.replicate i ord0)
theorem hL1_len (E : wE) (a i : Nat) : (hL1 E a i).length = 12 + i := by
  unfold hL1
  rw [List.length_append, List.length_replicate]
  rfl
theorem hL2_len (E : wE) (a i : Nat) : (hL2 E a i).length = 20 + i := by
  unfold hL2
  rw [List.length_append, List.length_append, List.length_replicate, List.length_replicate]
  show 12 + (8 + i) = _
  omega
theorem hL1_step (E : wE) (a i : Nat) : (hL1 E a i ++ [acc0]).set 3 (eQ E 6 8 (upto (a + 12) (i + 1))) = hL1 E a (i + 1) := by
  unfold hL1
  rw [List.append_assoc, ← List.replicate_succ']
  rfl
theorem hL2_step (E : wE) (a i : Nat) : (hL2 E a i ++ [ord0]).set 4 (eQ E 7 16 (upto (a + 20) (i + 1))) = hL2 E a (i + 1) := by
  unfold hL2
  rw [List.append_assoc, List.append_assoc, ← List.replicate_succ']
  rfl
theorem hL12 (E : wE) (a : Nat) : hL1 E a 8 = hB E a (upto (a + 12) 8) (fun _ => none) ++ (List.replicate 8 acc0 ++ List.replicate 0 ord0) := by
  unfold hL1
  rfl
theorem hL12' (E : wE) (a : Nat) : hL1 E a 8 = hL2 E a 0 := by
  unfold hL1 hL2
  have : (upto (a + 20) 0) = fun _ => none := by
    funext j
    unfold upto
    rw [if_neg (by omega)]
  rw [this]
  rfl
set_option maxRecDepth 100000 in
set_option maxHeartbeats 4000000 in
theorem cX2_make {E : wE} {n : Nat} {h h0 : hW} {a : Nat} (ha : wb E ≤ a) (hr : Reg h0 a [.inr (2, fs0_2)] h) : WM E (n + 2) yX2_init cX2_init 2 none [.ref a] h 35 797 (fun v h' => v = none ∧ Reg h0 a (hL2 E a 16) h') := by
  have L2 : ∀ (m i : Nat), i + m = 16 → ∀ h, Reg h0 a (hL2 E a i) h → WP E (n + 2) yX2_init cX2_init 2 none 91 (wLs [some (.ref a), some (.int (iI (i : Int)))]) [] h m (20 * m) (fun v h' => v = none ∧ Reg h0 a (hL2 E a 16) h') := by
    intro m
    induction m with
    | zero =>
      intro i hi h r
      refine wq_iload_n dX2_init_91 rfl ?_
      refine wq_bipush dX2_init_92 ?_
      refine wq_icmp_ge 116 dX2_init_94 (fun h3 => ?_) (fun h3 => absurd h3 (by omega)) (by omega) (by omega)
      rw [show i = 16 by omega] at r
      exact wq_return dX2_init_116 ⟨rfl, r⟩ rfl
    | succ m ih =>
      intro i hi h r
      refine wq_iload_n dX2_init_91 rfl ?_
      refine wq_bipush dX2_init_92 ?_
      refine wq_icmp_ge 116 dX2_init_94 (fun h3 => absurd h3 (by omega)) (fun h3 => ?_) (by omega) (by omega)
      refine wq_aload_n dX2_init_97 rfl ?_
      refine wq_get dX2_init_98 f_RX2_26 (r.at_ (r := 0) rfl (by omega)) rfl ?_
      refine wq_iload_n dX2_init_101 rfl ?_
      refine WP.room (bc' := m + 1) (bs' := 20 * m + 20) (by omega) (by omega) (wz_new dX2_init_102 w_RX2_24 r ha (fun h1 r1 => ?_))
      rw [hL2_len]
      refine wq_dup dX2_init_105 ?_
      refine WP.room (bc' := 0 + m) (bs' := 0 + 20 * m) (by omega) (by omega) (wq_callIN (n := n + 1) (As := []) dX2_init_106 k_RX2_48 b_yX3_init x_yX3_init cX3_make rfl rfl (fun v h2 q => ?_) rfl (Nat.le_of_ble_eq_true rfl) (Nat.le_of_ble_eq_true rfl))
      obtain ⟨rfl, rfl⟩ := q
      refine wz_aast (r := 4) (r2 := 20 + i) (N := 16) (t := 7) (f := upto (a + 20) i) dX2_init_109 r1 rfl rfl rfl (ci := 3) (vs := fs0_3) (by
        have h9 := hL2_len E a i
        rw [List.getElem?_append_right (by omega), show 20 + i - (hL2 E a i).length = 0 by omega]
        rfl) rfl rfl (by omega) (by omega) (fun h3 r3 => ?_)
      rw [show a + (20 + i) = a + 20 + i by omega, upto_up _ i _ rfl] at r3
      have r3 : Reg h0 a (hL2 E a (i + 1)) h3 := by
        have h9 := hL2_step E a i
        unfold ord0 at h9
        rw [h9] at r3
        exact r3
      refine wq_iinc dX2_init_110 rfl ?_
      refine wq_goto 91 dX2_init_113 ?_
      exact WP.loc (wLs_sub (l := [some (.ref a), some (.int (iI ((i + 1 : Nat) : Int)))]) ⟨rfl, rfl, trivial⟩) (ih (i + 1) (by omega) h3 r3)
  have L1 : ∀ (m i : Nat), i + m = 8 → ∀ h, Reg h0 a (hL1 E a i) h → WP E (n + 2) yX2_init cX2_init 2 none 64 (wLs [some (.ref a), some (.int (iI (i : Int)))]) [] h (m + 16) (13 * m + 320) (fun v h' => v = none ∧ Reg h0 a (hL2 E a 16) h') := by
    intro m
    induction m with
    | zero =>
      intro i hi h r
      refine wq_iload_n dX2_init_64 rfl ?_
      refine wq_bipush dX2_init_65 ?_
      refine wq_icmp_ge 89 dX2_init_67 (fun h3 => ?_) (fun h3 => absurd h3 (by omega)) (by omega) (by omega)
      rw [show i = 8 by omega, hL12'] at r
      refine wq_iconst dX2_init_89 ?_
      refine wq_istore_n dX2_init_90 ?_
      exact WP.room (by omega) (by omega) (WP.loc (wLs_sub (l := [some (.ref a), some (.int (iI ((0 : Nat) : Int)))]) ⟨rfl, rfl, trivial⟩) (L2 16 0 rfl h r))
    | succ m ih =>
      intro i hi h r
      refine wq_iload_n dX2_init_64 rfl ?_
      refine wq_bipush dX2_init_65 ?_
      refine wq_icmp_ge 89 dX2_init_67 (fun h3 => absurd h3 (by omega)) (fun h3 => ?_) (by omega) (by omega)
      refine wq_aload_n dX2_init_70 rfl ?_
      refine wq_get dX2_init_71 f_RX2_20 (r.at_ (r := 0) rfl (by omega)) rfl ?_
      refine wq_iload_n dX2_init_74 rfl ?_
      refine WP.room (bc' := (m + 16) + 1) (bs' := (13 * m + 320) + 13) (by omega) (by omega) (wz_new dX2_init_75 w_RX2_18 r ha (fun h1 r1 => ?_))
      rw [hL1_len]
      refine wq_dup dX2_init_78 ?_
      refine WP.room (bc' := 0 + (m + 16)) (bs' := 0 + (13 * m + 320)) (by omega) (by omega) (wq_callIN (n := n + 1) (As := []) dX2_init_79 k_RX2_47 b_yX0_init x_yX0_init cX0_make rfl rfl (fun v h2 q => ?_) rfl (Nat.le_of_ble_eq_true rfl) (Nat.le_of_ble_eq_true rfl))
      obtain ⟨rfl, rfl⟩ := q
      refine wz_aast (r := 3) (r2 := 12 + i) (N := 8) (t := 6) (f := upto (a + 12) i) dX2_init_82 r1 rfl rfl rfl (ci := 0) (vs := fs0_0) (by
        have h9 := hL1_len E a i
        rw [List.getElem?_append_right (by omega), show 12 + i - (hL1 E a i).length = 0 by omega]
        rfl) rfl rfl (by omega) (by omega) (fun h3 r3 => ?_)
      rw [show a + (12 + i) = a + 12 + i by omega, upto_up _ i _ rfl] at r3
      have r3 : Reg h0 a (hL1 E a (i + 1)) h3 := by
        have h9 := hL1_step E a i
        unfold acc0 at h9
        rw [h9] at r3
        exact r3
      refine wq_iinc dX2_init_83 rfl ?_
      refine wq_goto 64 dX2_init_86 ?_
      exact WP.loc (wLs_sub (l := [some (.ref a), some (.int (iI ((i + 1 : Nat) : Int)))]) ⟨rfl, rfl, trivial⟩) (ih (i + 1) (by omega) h3 r3)
  refine wq_aload_n dX2_init_0 rfl ?_
  refine wq_obj (n := n + 1) dX2_init_1 k_RX2_3 ob_i ob_c (by decide) ?_
  refine wq_aload_n dX2_init_4 rfl ?_
  refine WP.room (bc' := 34 + 1) (bs' := 794 + 3) (by omega) (by omega) (wz_new dX2_init_5 w_RX2_9 hr ha (fun h1 r1 => ?_))
  have r1 : Reg h0 a ([.inr (2, fs0_2)] ++ [.inr (1, fs0_1)]) h1 := r1
  refine wq_dup dX2_init_8 ?_
  refine WP.room (bc' := 1 + 33) (bs' := 18 + 776) (by omega) (by omega) (wq_callIN (n := n + 1) (As := []) dX2_init_9 k_RX2_11 b_yX1_init x_yX1_init (cX1_make (by omega) r1.last) rfl rfl (fun v h2 q => ?_) rfl (Nat.le_of_ble_eq_true rfl) (Nat.le_of_ble_eq_true rfl))
  obtain ⟨rfl, r2⟩ := q
  have r2 := r1.glue r2
  have r2 : Reg h0 a [.inr (2, fs0_2), .inr (1, [.ref (a + 2), .int (iI 0), .int (iI 0)]), eL E 18 (fun _ => 0)] h2 := r2
  refine wz_putF (r := 0) dX2_init_12 p_RX2_12 rfl r2 rfl rfl (by show 0 < 12; omega) rfl rfl (fun h3 r3 => ?_)
  refine wq_aload_n dX2_init_15 rfl ?_
  refine wq_bipush dX2_init_16 ?_
  refine WP.room (bc' := 32 + 1) (bs' := 768 + 8) (by omega) (by omega) (wz_newQ (t := 6) (N := 8) dX2_init_18 l_RX2_18 rfl (fun s hK => hK.2.2.2.2.2.2.2.1) r3 ha (fun h4 r4 => ?_) (by omega))
  refine wz_putF (r := 0) dX2_init_21 p_RX2_20 rfl r4 rfl rfl (by show 1 < 12; omega) rfl rfl (fun h5 r5 => ?_)
  refine wq_aload_n dX2_init_24 rfl ?_
  refine wq_bipush dX2_init_25 ?_
  refine WP.room (bc' := 31 + 1) (bs' := 752 + 16) (by omega) (by omega) (wz_newQ (t := 7) (N := 16) dX2_init_27 l_RX2_24 rfl (fun s hK => hK.2.2.2.2.2.2.2.2.1) r5 ha (fun h6 r6 => ?_) (by omega))
  refine wz_putF (r := 0) dX2_init_30 p_RX2_26 rfl r6 rfl rfl (by show 2 < 12; omega) rfl rfl (fun h7 r7 => ?_)
  refine wq_aload_n dX2_init_33 rfl ?_
  refine WP.room (bc' := 30 + 1) (bs' := 749 + 3) (by omega) (by omega) (wz_new dX2_init_34 w_RX2_30 r7 ha (fun h8 r8 => ?_))
  have r8 : Reg h0 a ([.inr (2, [.ref (a + 1), .ref (a + 3), .ref (a + 4), .null, .int 0, .int 0, .int 0, .int 0, .int 0, .int 0, .int 0, .int 0]), .inr (1, [.ref (a + 2), .int (iI 0), .int (iI 0)]), eL E 18 (fun _ => 0), eQ E 6 8 (fun _ => none), eQ E 7 16 (fun _ => none)] ++ [.inr (5, fs0_5)]) h8 := r8
  refine wq_dup dX2_init_37 ?_
  refine WP.room (bc' := 6 + 24) (bs' := 325 + 424) (by omega) (by omega) (wq_callIN (n := n + 1) (As := []) dX2_init_38 k_RX2_32 b_yX5_init x_yX5_init (cX5_make (E := E) (by omega) r8.last) rfl rfl (fun v h9 q => ?_) rfl (Nat.le_of_ble_eq_true rfl) (Nat.le_of_ble_eq_true rfl))
  obtain ⟨rfl, r9⟩ := q
  have r9 := r8.glue r9
  have r9 : Reg h0 a [.inr (2, [.ref (a + 1), .ref (a + 3), .ref (a + 4), .null, .int 0, .int 0, .int 0, .int 0, .int 0, .int 0, .int 0, .int 0]), .inr (1, [.ref (a + 2), .int (iI 0), .int (iI 0)]), eL E 18 (fun _ => 0), eQ E 6 8 (fun _ => none), eQ E 7 16 (fun _ => none), .inr (5, [.ref (a + 6), .int (iI 64), .int (iI 0)]), eQ E 5 5 (fun j => some (a + 7 + j)), eI E 64 (fun _ => 0), eI E 64 (fun _ => 0), eI E 64 (fun _ => 0), eI E 64 (fun _ => 0), eI E 64 (fun _ => 0)] h9 := r9
  refine wz_putF (r := 0) dX2_init_41 p_RX2_33 rfl r9 rfl rfl (by show 3 < 12; omega) rfl rfl (fun h10 r10 => ?_)
  refine wq_aload_n dX2_init_44 rfl ?_
  refine wq_iconst dX2_init_45 ?_
  refine wz_put (r := 0) dX2_init_46 p_RX2_37 r10 rfl rfl (by show 7 < 12; omega) rfl rfl (fun h11 r11 => ?_)
  refine wq_aload_n dX2_init_49 rfl ?_
  refine wq_sipush dX2_init_50 ?_
  refine wz_put (r := 0) dX2_init_53 p_RX2_41 r11 rfl rfl (by show 8 < 12; omega) rfl rfl (fun h12 r12 => ?_)
  refine wq_aload_n dX2_init_56 rfl ?_
  refine wq_bipush dX2_init_57 ?_
  refine wz_put (r := 0) dX2_init_59 p_RX2_44 r12 rfl rfl (by show 9 < 12; omega) rfl rfl (fun h13 r13 => ?_)
  refine wq_iconst dX2_init_62 ?_
  refine wq_istore_n dX2_init_63 ?_
  have e0 : (upto (a + 12) 0) = fun _ => none := by
    funext j
    unfold upto
    rw [if_neg (by omega)]
  have r13 : Reg h0 a (hL1 E a 0) h13 := by
    unfold hL1
    rw [e0]
    exact r13
  exact WP.room (by omega) (by omega) (WP.loc (wLs_sub (l := [some (.ref a), some (.int (iI ((0 : Nat) : Int)))]) ⟨rfl, rfl, trivial⟩) (L1 8 0 rfl h13 r13))

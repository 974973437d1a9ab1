/-! ===== the constructors of the class and of the reference ===== -/
theorem hL2_16 (E : wE) (a : Nat) : (hL2 E a 16).length = 36 := hL2_len E a 16
section TP
variable {E : wE} {n p : Nat} {ls : wLoc} {st : List Value} {h h0 : hW} {bc bs b : Nat} {Q : Option Value → hW → Prop} {cs : List va_E}
set_option maxRecDepth 100000 in
theorem wz_house (hd1 : decode cX6_init p = .ok (.new 9, 3)) (hd2 : decode cX6_init (p + 3) = .ok (.dup, 1)) (hd3 : decode cX6_init (p + 3 + 1) = .ok (.invokespecial 11, 3)) (hr : Reg h0 b cs h) (hb : wb E ≤ b) (hst : (st.map fun v => v.category).sum ≤ 7) (kk : ∀ h1, Reg h0 b (cs ++ hL2 E (b + cs.length) 16) h1 → WP E (n + 3) yX6_init cX6_init 2 none (p + 3 + 1 + 3) ls (.ref (b + cs.length) :: st) h1 bc bs Q) : WP E (n + 3) yX6_init cX6_init 2 none p ls st h (bc + 36) (bs + 809) Q := by
  refine WP.room (bc' := (35 + bc) + 1) (bs' := (797 + bs) + 12) (by omega) (by omega) (wz_new hd1 w_RX6_9 hr hb (fun h1 r1 => ?_))
  refine wq_dup hd2 ?_
  refine wq_callI (n := n + 2) (As := []) hd3 k_RX6_11 b_yX2_init x_yX2_init (cX2_make (by omega) r1.last) rfl rfl (fun v h2 q => ?_) rfl (Nat.le_of_ble_eq_true rfl) (by simp only [List.map_cons, List.sum_cons]; show 1 + _ ≤ 8; omega)
  obtain ⟨rfl, r2⟩ := q
  exact kk h2 (r1.glue r2)
end TP
def tT (E : wE) (b : Nat) : va_E := .inr (6, [.ref (b + 1), .ref (b + 37), .ref (b + 73), .int (iI 0), .int (iI 0), .ref (b + 74), .ref (b + 75), .ref (b + 76)])
def tB (E : wE) (b : Nat) (f g : Nat → Option Nat) : List va_E := tT E b :: (hL2 E (b + 1) 16 ++ (hL2 E (b + 37) 16 ++ [eQ E 8 7 f, eQ E 8 2 g, eZ E 2 (fun _ => 0), .inr (4, fs0_4.set 0 (.ref (b + 77))), eC E 80 (fun _ => 0)]))
def blk (E : wE) (b i : Nat) : List va_E := (List.range i).flatMap fun j => hL2 E (b + 36 * j) 16
theorem blk_succ (E : wE) (b i : Nat) : blk E b (i + 1) = blk E b i ++ hL2 E (b + 36 * i) 16 := by
  unfold blk
  rw [List.range_succ, List.flatMap_append]
  simp
theorem blk_len (E : wE) (b : Nat) : ∀ i, (blk E b i).length = 36 * i
  | 0 => rfl
  | i + 1 => by
    rw [blk_succ, List.length_append, blk_len E b i, hL2_16]
    omega
theorem tB_len (E : wE) (b : Nat) (f g : Nat → Option Nat) : (tB E b f g).length = 78 := by
  unfold tB
  rw [List.length_cons, List.length_append, List.length_append, hL2_16, hL2_16]
  rfl
/-- places of blocks -/
def upb (b i : Nat) : Nat → Option Nat := fun j => if j < i then some (b + 36 * j) else none
theorem upb_up (b i : Nat) : va_up (upb b i) ((i : Int)).toNat (some (b + 36 * i)) = upb b (i + 1) := by
  funext j
  unfold va_up upb
  rw [Int.toNat_natCast]
  by_cases q : j = i
  · subst q
    simp
  · by_cases q2 : j < i
    · simp [q, q2, show j < i + 1 by omega]
    · simp [q, q2, show ¬ j < i + 1 by omega]
def tL1 (E : wE) (b i : Nat) : List va_E := tB E b (upb (b + 78) i) (fun _ => none) ++ blk E (b + 78) i
def tL2 (E : wE) (b i : Nat) : List va_E := tB E b (upb (b + 78) 7) (upb (b + 330) i) ++ (blk E (b + 78) 7 ++ blk E (b + 330) i)
theorem tL1_len (E : wE) (b i : Nat) : (tL1 E b i).length = 78 + 36 * i := by
  unfold tL1
  rw [List.length_append, tB_len, blk_len]
theorem tL2_len (E : wE) (b i : Nat) : (tL2 E b i).length = 330 + 36 * i := by
  unfold tL2
  rw [List.length_append, List.length_append, tB_len, blk_len, blk_len]
  omega
theorem tB_73 (E : wE) (b : Nat) (f g : Nat → Option Nat) (l : List va_E) : (tB E b f g ++ l)[73]? = some (eQ E 8 7 f) := by
  rw [List.getElem?_append_left (by rw [tB_len]; omega)]
  unfold tB
  rw [List.getElem?_cons_succ, List.getElem?_append_right (by rw [hL2_16]; omega), hL2_16, List.getElem?_append_right (by rw [hL2_16]; omega), hL2_16]
  rfl
theorem tB_74 (E : wE) (b : Nat) (f g : Nat → Option Nat) (l : List va_E) : (tB E b f g ++ l)[74]? = some (eQ E 8 2 g) := by
  rw [List.getElem?_append_left (by rw [tB_len]; omega)]
  unfold tB
  rw [List.getElem?_cons_succ, List.getElem?_append_right (by rw [hL2_16]; omega), hL2_16, List.getElem?_append_right (by rw [hL2_16]; omega), hL2_16]
  rfl
theorem tB_set73 (E : wE) (b : Nat) (f f' g : Nat → Option Nat) (l : List va_E) : (tB E b f g ++ l).set 73 (eQ E 8 7 f') = tB E b f' g ++ l := by
  rw [List.set_append_left _ _ (by rw [tB_len]; omega)]
  congr 1
theorem tB_set74 (E : wE) (b : Nat) (f g g' : Nat → Option Nat) (l : List va_E) : (tB E b f g ++ l).set 74 (eQ E 8 2 g') = tB E b f g' ++ l := by
  rw [List.set_append_left _ _ (by rw [tB_len]; omega)]
  congr 1
theorem hL2_head (E : wE) (a : Nat) : ∃ fs, (hL2 E a 16)[0]? = some (.inr (2, fs)) := ⟨_, rfl⟩
theorem tL_at (E : wE) (b i : Nat) (l : List va_E) (a : Nat) (hl : l.length = i) : ∃ fs, (l ++ hL2 E a 16)[i]? = some (.inr (2, fs)) := by
  obtain ⟨fs, h⟩ := hL2_head E a
  refine ⟨fs, ?_⟩
  rw [List.getElem?_append_right (by omega), hl, Nat.sub_self]
  exact h
set_option maxRecDepth 100000 in
set_option maxHeartbeats 4000000 in
theorem cX6_make {E : wE} {n : Nat} {h h0 : hW} {b : Nat} (hb : wb E ≤ b) (hr : Reg h0 b [.inr (6, fs0_6)] h) : WM E (n + 3) yX6_init cX6_init 2 none [.ref b] h 401 9001 (fun v h' => v = none ∧ Reg h0 b (tL2 E b 2) h') := by
  have L2 : ∀ (m i : Nat), i + m = 2 → ∀ h, Reg h0 b (tL2 E b i) h → WP E (n + 3) yX6_init cX6_init 2 none 90 (wLs [some (.ref b), some (.int (iI (i : Int)))]) [] h (36 * m) (809 * m) (fun v h' => v = none ∧ Reg h0 b (tL2 E b 2) h') := by
    intro m
    induction m with
    | zero =>
      intro i hi h r
      refine wq_iload_n dX6_init_90 rfl ?_
      refine wq_iconst dX6_init_91 ?_
      refine wq_icmp_ge 114 dX6_init_92 (fun h3 => ?_) (fun h3 => absurd h3 (by omega)) (by omega) (by omega)
      rw [show i = 2 by omega] at r
      exact wq_return dX6_init_114 ⟨rfl, r⟩ rfl
    | succ m ih =>
      intro i hi h r
      have r0 : Reg h0 b (tT E b :: _) h := r
      refine wq_iload_n dX6_init_90 rfl ?_
      refine wq_iconst dX6_init_91 ?_
      refine wq_icmp_ge 114 dX6_init_92 (fun h3 => absurd h3 (by omega)) (fun h3 => ?_) (by omega) (by omega)
      refine wq_aload_n dX6_init_95 rfl ?_
      refine wq_get dX6_init_96 f_RX6_23 (r0.at_ (r := 0) (e := .inr (6, [.ref (b + 1), .ref (b + 37), .ref (b + 73), .int (iI 0), .int (iI 0), .ref (b + 74), .ref (b + 75), .ref (b + 76)])) rfl (by omega)) (v := .ref (b + 74)) rfl ?_
      refine wq_iload_n dX6_init_99 rfl ?_
      refine WP.room (bc' := 36 * m + 36) (bs' := 809 * m + 809) (by omega) (by omega) (wz_house dX6_init_100 dX6_init_103 dX6_init_104 r hb (Nat.le_of_ble_eq_true rfl) (fun h1 r1 => ?_))
      rw [tL2_len] at r1 ⊢
      obtain ⟨fs, hfs⟩ := tL_at E b (330 + 36 * i) (tL2 E b i) (b + (330 + 36 * i)) (tL2_len E b i)
      refine wz_aast (r := 74) (r2 := 330 + 36 * i) (N := 2) (t := 8) (f := upb (b + 330) i) (ci := 2) (vs := fs) dX6_init_107 r1 ?_ rfl rfl hfs rfl rfl (by omega) (by omega) (fun h3 r3 => ?_)
      · unfold tL2
        rw [List.append_assoc]
        exact tB_74 E b _ _ _
      · rw [show b + (330 + 36 * i) = b + 330 + 36 * i by omega, upb_up] at r3
        have r3 : Reg h0 b (tL2 E b (i + 1)) h3 := by
          unfold tL2 at r3 ⊢
          rw [List.append_assoc, tB_set74, List.append_assoc, ← blk_succ] at r3
          exact r3
        refine wq_iinc dX6_init_108 rfl ?_
        refine wq_goto 90 dX6_init_111 ?_
        exact WP.loc (wLs_sub (l := [some (.ref b), some (.int (iI ((i + 1 : Nat) : Int)))]) ⟨rfl, rfl, trivial⟩) (ih (i + 1) (by omega) h3 r3)
  have L1 : ∀ (m i : Nat), i + m = 7 → ∀ h, Reg h0 b (tL1 E b i) h → WP E (n + 3) yX6_init cX6_init 2 none 63 (wLs [some (.ref b), some (.int (iI (i : Int)))]) [] h (36 * m + 72) (809 * m + 1618) (fun v h' => v = none ∧ Reg h0 b (tL2 E b 2) h') := by
    intro m
    induction m with
    | zero =>
      intro i hi h r
      refine wq_iload_n dX6_init_63 rfl ?_
      refine wq_bipush dX6_init_64 ?_
      refine wq_icmp_ge 88 dX6_init_66 (fun h3 => ?_) (fun h3 => absurd h3 (by omega)) (by omega) (by omega)
      rw [show i = 7 by omega] at r
      refine wq_iconst dX6_init_88 ?_
      refine wq_istore_n dX6_init_89 ?_
      have r : Reg h0 b (tL2 E b 0) h := by
        have e0 : upb (b + 330) 0 = fun _ => none := by
          funext j
          unfold upb
          rw [if_neg (by omega)]
        unfold tL2
        rw [e0, show blk E (b + 330) 0 = [] from rfl, List.append_nil]
        exact r
      exact WP.room (by omega) (by omega) (WP.loc (wLs_sub (l := [some (.ref b), some (.int (iI ((0 : Nat) : Int)))]) ⟨rfl, rfl, trivial⟩) (L2 2 0 rfl h r))
    | succ m ih =>
      intro i hi h r
      have r0 : Reg h0 b (tT E b :: _) h := r
      refine wq_iload_n dX6_init_63 rfl ?_
      refine wq_bipush dX6_init_64 ?_
      refine wq_icmp_ge 88 dX6_init_66 (fun h3 => absurd h3 (by omega)) (fun h3 => ?_) (by omega) (by omega)
      refine wq_aload_n dX6_init_69 rfl ?_
      refine wq_get dX6_init_70 f_RX6_19 (r0.at_ (r := 0) (e := .inr (6, [.ref (b + 1), .ref (b + 37), .ref (b + 73), .int (iI 0), .int (iI 0), .ref (b + 74), .ref (b + 75), .ref (b + 76)])) rfl (by omega)) (v := .ref (b + 73)) rfl ?_
      refine wq_iload_n dX6_init_73 rfl ?_
      refine WP.room (bc' := (36 * m + 72) + 36) (bs' := (809 * m + 1618) + 809) (by omega) (by omega) (wz_house dX6_init_74 dX6_init_77 dX6_init_78 r hb (Nat.le_of_ble_eq_true rfl) (fun h1 r1 => ?_))
      rw [tL1_len] at r1 ⊢
      obtain ⟨fs, hfs⟩ := tL_at E b (78 + 36 * i) (tL1 E b i) (b + (78 + 36 * i)) (tL1_len E b i)
      refine wz_aast (r := 73) (r2 := 78 + 36 * i) (N := 7) (t := 8) (f := upb (b + 78) i) (ci := 2) (vs := fs) dX6_init_81 r1 ?_ rfl rfl hfs rfl rfl (by omega) (by omega) (fun h3 r3 => ?_)
      · unfold tL1
        rw [List.append_assoc]
        exact tB_73 E b _ _ _
      · rw [show b + (78 + 36 * i) = b + 78 + 36 * i by omega, upb_up] at r3
        have r3 : Reg h0 b (tL1 E b (i + 1)) h3 := by
          unfold tL1 at r3 ⊢
          rw [List.append_assoc, tB_set73, ← blk_succ] at r3
          exact r3
        refine wq_iinc dX6_init_82 rfl ?_
        refine wq_goto 63 dX6_init_85 ?_
        exact WP.loc (wLs_sub (l := [some (.ref b), some (.int (iI ((i + 1 : Nat) : Int)))]) ⟨rfl, rfl, trivial⟩) (ih (i + 1) (by omega) h3 r3)
  refine wq_aload_n dX6_init_0 rfl ?_
  refine wq_obj (n := n + 2) dX6_init_1 k_RX6_3 ob_i ob_c (by decide) ?_
  refine wq_aload_n dX6_init_4 rfl ?_
  refine WP.room (bc' := 365 + 36) (bs' := 8192 + 809) (by omega) (by omega) (wz_house dX6_init_5 dX6_init_8 dX6_init_9 hr hb (Nat.le_of_ble_eq_true rfl) (fun h1 r1 => ?_))
  have r1 : Reg h0 b (.inr (6, fs0_6) :: hL2 E (b + 1) 16) h1 := r1
  refine wz_putF (r := 0) dX6_init_12 p_RX6_12 rfl r1 rfl rfl (by show 0 < 8; omega) rfl rfl (fun h2 r2 => ?_)
  refine wq_aload_n dX6_init_15 rfl ?_
  have r2 : Reg h0 b (.inr (6, [.ref (b + 1), .null, .null, .int (iI 0), .int (iI 0), .null, .null, .null]) :: hL2 E (b + 1) 16) h2 := r2
  refine WP.room (bc' := 329 + 36) (bs' := 7383 + 809) (by omega) (by omega) (wz_house dX6_init_16 dX6_init_19 dX6_init_20 r2 hb (Nat.le_of_ble_eq_true rfl) (fun h3 r3 => ?_))
  rw [List.length_cons, hL2_16] at r3 ⊢
  have r3 : Reg h0 b (.inr (6, [.ref (b + 1), .null, .null, .int (iI 0), .int (iI 0), .null, .null, .null]) :: (hL2 E (b + 1) 16 ++ hL2 E (b + 37) 16)) h3 := r3
  refine wz_putF (r := 0) dX6_init_23 p_RX6_16 rfl r3 rfl rfl (by show 1 < 8; omega) rfl rfl (fun h4 r4 => ?_)
  refine wq_aload_n dX6_init_26 rfl ?_
  refine wq_bipush dX6_init_27 ?_
  have r4 : Reg h0 b (.inr (6, [.ref (b + 1), .ref (b + 37), .null, .int (iI 0), .int (iI 0), .null, .null, .null]) :: (hL2 E (b + 1) 16 ++ hL2 E (b + 37) 16)) h4 := r4
  have hlen : (hL2 E (b + 1) 16 ++ hL2 E (b + 37) 16).length = 72 := by rw [List.length_append, hL2_16, hL2_16]
  refine WP.room (bc' := 328 + 1) (bs' := 7376 + 7) (by omega) (by omega) (wz_newQ (t := 8) (N := 7) dX6_init_29 l_RX6_9 rfl (fun s hK => hK.2.2.2.2.2.2.2.2.2.1) r4 hb (fun h5 r5 => ?_) (by omega))
  rw [List.length_cons, hlen]
  refine wz_putF (r := 0) dX6_init_32 p_RX6_19 rfl r5 rfl rfl (by show 2 < 8; omega) rfl rfl (fun h6 r6 => ?_)
  refine wq_aload_n dX6_init_35 rfl ?_
  refine wq_iconst dX6_init_36 ?_
  have r6 : Reg h0 b (.inr (6, [.ref (b + 1), .ref (b + 37), .ref (b + 73), .int (iI 0), .int (iI 0), .null, .null, .null]) :: (hL2 E (b + 1) 16 ++ hL2 E (b + 37) 16 ++ [eQ E 8 7 (fun _ => none)])) h6 := r6
  refine WP.room (bc' := 327 + 1) (bs' := 7374 + 2) (by omega) (by omega) (wz_newQ (t := 8) (N := 2) dX6_init_37 l_RX6_9 rfl (fun s hK => hK.2.2.2.2.2.2.2.2.2.1) r6 hb (fun h7 r7 => ?_) (by omega))
  rw [List.length_cons, List.length_append, hlen]
  refine wz_putF (r := 0) dX6_init_40 p_RX6_23 rfl r7 rfl rfl (by show 5 < 8; omega) rfl rfl (fun h8 r8 => ?_)
  refine wq_aload_n dX6_init_43 rfl ?_
  refine wq_iconst dX6_init_44 ?_
  have r8 : Reg h0 b (.inr (6, [.ref (b + 1), .ref (b + 37), .ref (b + 73), .int (iI 0), .int (iI 0), .ref (b + 74), .null, .null]) :: (hL2 E (b + 1) 16 ++ hL2 E (b + 37) 16 ++ [eQ E 8 7 (fun _ => none)] ++ [eQ E 8 2 (fun _ => none)])) h8 := r8
  refine WP.room (bc' := 326 + 1) (bs' := 7372 + 2) (by omega) (by omega) (wz_newZ (N := 2) dX6_init_45 r8 hb (fun h9 r9 => ?_) (by omega))
  rw [List.length_cons, List.length_append, List.length_append, hlen]
  refine wz_putF (r := 0) dX6_init_47 p_RX6_26 rfl r9 rfl rfl (by show 6 < 8; omega) rfl rfl (fun h10 r10 => ?_)
  refine wq_aload_n dX6_init_50 rfl ?_
  have r10 : Reg h0 b (.inr (6, [.ref (b + 1), .ref (b + 37), .ref (b + 73), .int (iI 0), .int (iI 0), .ref (b + 74), .ref (b + 75), .null]) :: (hL2 E (b + 1) 16 ++ hL2 E (b + 37) 16 ++ [eQ E 8 7 (fun _ => none)] ++ [eQ E 8 2 (fun _ => none)] ++ [eZ E 2 (fun _ => 0)])) h10 := r10
  refine WP.room (bc' := 325 + 1) (bs' := 7361 + 11) (by omega) (by omega) (wz_new dX6_init_51 w_RX6_30 r10 hb (fun h11 r11 => ?_))
  refine wq_dup dX6_init_54 ?_
  have hl76 : b + (Sum.inr (6, [Value.ref (b + 1), .ref (b + 37), .ref (b + 73), .int (iI 0), .int (iI 0), .ref (b + 74), .ref (b + 75), .null]) :: (hL2 E (b + 1) 16 ++ hL2 E (b + 37) 16 ++ [eQ E 8 7 (fun _ => none)] ++ [eQ E 8 2 (fun _ => none)] ++ [eZ E 2 (fun _ => 0)]) : List va_E).length = b + 76 := by
    rw [List.length_cons, List.length_append, List.length_append, List.length_append, hlen]
    rfl
  refine WP.room (bc' := 1 + 324) (bs' := 80 + 7281) (by omega) (by omega) (wq_callIN (n := n + 2) (As := []) dX6_init_55 k_RX6_32 b_yX4_init x_yX4_init (WP.deep (n' := n + 1) (by omega) (cX4_make (E := E) (by omega) r11.last)) rfl rfl (fun v h12 q => ?_) rfl (Nat.le_of_ble_eq_true rfl) (Nat.le_of_ble_eq_true rfl))
  obtain ⟨rfl, r12⟩ := q
  have r12 := r11.glue r12
  rw [hl76] at r12 ⊢
  refine wz_putF (r := 0) dX6_init_58 p_RX6_33 rfl r12 rfl rfl (by show 7 < 8; omega) rfl rfl (fun h13 r13 => ?_)
  refine wq_iconst dX6_init_61 ?_
  refine wq_istore_n dX6_init_62 ?_
  have r13 : Reg h0 b (tL1 E b 0) h13 := by
    have e0 : upb (b + 78) 0 = fun _ => none := by
      funext j
      unfold upb
      rw [if_neg (by omega)]
    unfold tL1 tB
    rw [e0, show blk E (b + 78) 0 = [] from rfl, List.append_nil]
    have e1 : ∀ (x y z w v : va_E), (hL2 E (b + 1) 16 ++ hL2 E (b + 37) 16 ++ [x] ++ [y] ++ [z]) ++ [w, v] = hL2 E (b + 1) 16 ++ (hL2 E (b + 37) 16 ++ [x, y, z, w, v]) := by
      intro x y z w v
      simp only [List.append_assoc, List.cons_append, List.nil_append]
    rw [← e1]
    exact r13
  exact WP.room (by omega) (by omega) (WP.loc (wLs_sub (l := [some (.ref b), some (.int (iI ((0 : Nat) : Int)))]) ⟨rfl, rfl, trivial⟩) (L1 7 0 rfl h13 r13))

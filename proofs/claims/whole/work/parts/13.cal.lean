/-! ===== StandingPayments$Calendar ===== -/
section CAL
theorem c_X1_monthOf {E : wE} {h : hW} {n : Nat} {d : Int} (hE : wGE E) (hd : 0 ≤ d ∧ d ≤ 1094 := by omega) : WM E n yX1_monthOf cX1_monthOf 3 (some .int) [.int (iI d)] h 0 0 (pR (.int (iI (mOf d))) h) := by
  have hro := hE.2.2.1.2
  have hy0 := Int.emod_nonneg d (show (365 : Int) ≠ 0 by decide)
  have hy1 := Int.emod_lt_of_pos d (show (0 : Int) < 365 by decide)
  have hsr := mS_rng (d % 365 / 31 + 1).toNat (by omega)
  refine wq_iload_n dX1_monthOf_0 rfl ?_
  refine wq_sipush dX1_monthOf_1 ?_
  refine wq_irem dX1_monthOf_4 ?_
  refine wq_istore_n dX1_monthOf_5 ?_
  refine wq_iload_n dX1_monthOf_6 rfl ?_
  refine wq_bipush dX1_monthOf_7 ?_
  refine wq_idiv dX1_monthOf_9 ?_
  refine wq_istore_n dX1_monthOf_10 ?_
  refine wq_gets (k := 2) dX1_monthOf_11 rfl g_RX1_28 ?_
  rw [hE.2.2.1.1]
  refine wq_iload_n dX1_monthOf_14 rfl ?_
  refine wq_iconst dX1_monthOf_15 ?_
  refine wq_iadd dX1_monthOf_16 ?_
  refine wq_roi dX1_monthOf_17 hro (by omega) rfl ?_
  refine wq_iload_n dX1_monthOf_18 rfl ?_
  refine wq_icmp_gt 25 dX1_monthOf_19 (fun h19 => ?_) (fun h19 => ?_)
  · refine wq_iload_n dX1_monthOf_25 rfl ?_
    refine wq_sipush dX1_monthOf_26 ?_
    refine wq_idiv dX1_monthOf_29 ?_
    refine wq_bipush dX1_monthOf_30 ?_
    refine wq_imul dX1_monthOf_32 ?_
    refine wq_iload_n dX1_monthOf_33 rfl ?_
    refine wq_iadd dX1_monthOf_34 ?_
    refine wq_ireturn dX1_monthOf_35 ?_ ?_
    · exact ⟨congrArg (fun z => some (Value.int (iI z))) (by simp only [mOf, mOfY]; split <;> omega), rfl⟩
    · exact ⟨_, rfl, rfl⟩
  · refine wq_iinc dX1_monthOf_22 rfl ?_
    refine wq_iload_n dX1_monthOf_25 rfl ?_
    refine wq_sipush dX1_monthOf_26 ?_
    refine wq_idiv dX1_monthOf_29 ?_
    refine wq_bipush dX1_monthOf_30 ?_
    refine wq_imul dX1_monthOf_32 ?_
    refine wq_iload_n dX1_monthOf_33 rfl ?_
    refine wq_iadd dX1_monthOf_34 ?_
    refine wq_ireturn dX1_monthOf_35 ?_ ?_
    · exact ⟨congrArg (fun z => some (Value.int (iI z))) (by simp only [mOf, mOfY]; split <;> omega), rfl⟩
    · exact ⟨_, rfl, rfl⟩
theorem c_X1_firstDayOf {E : wE} {h : hW} {n : Nat} {m : Int} (hE : wGE E) (hd : 0 ≤ m ∧ m ≤ 35 := by omega) : WM E n yX1_firstDayOf cX1_firstDayOf 1 (some .int) [.int (iI m)] h 0 0 (pR (.int (iI (mFirst m))) h) := by
  have hro := hE.2.2.1.2
  refine wq_iload_n dX1_firstDayOf_0 rfl ?_
  refine wq_bipush dX1_firstDayOf_1 ?_
  refine wq_idiv dX1_firstDayOf_3 ?_
  refine wq_sipush dX1_firstDayOf_4 ?_
  refine wq_imul dX1_firstDayOf_7 ?_
  refine wq_gets (k := 2) dX1_firstDayOf_8 rfl g_RX1_28 ?_
  rw [hE.2.2.1.1]
  refine wq_iload_n dX1_firstDayOf_11 rfl ?_
  refine wq_bipush dX1_firstDayOf_12 ?_
  refine wq_irem dX1_firstDayOf_14 ?_
  refine wq_roi dX1_firstDayOf_15 hro (by omega) rfl ?_
  refine wq_iadd dX1_firstDayOf_16 ?_
  refine wq_ireturn dX1_firstDayOf_17 ?_ ?_
  · exact ⟨rfl, rfl⟩
  · exact ⟨_, rfl, rfl⟩
theorem c_X1_lastDayOf {E : wE} {h : hW} {n : Nat} {m : Int} (hE : wGE E) (hd : 0 ≤ m ∧ m ≤ 35 := by omega) : WM E n yX1_lastDayOf cX1_lastDayOf 1 (some .int) [.int (iI m)] h 0 0 (pR (.int (iI (mLast m))) h) := by
  have hro := hE.2.2.1.2
  refine wq_iload_n dX1_lastDayOf_0 rfl ?_
  refine wq_bipush dX1_lastDayOf_1 ?_
  refine wq_idiv dX1_lastDayOf_3 ?_
  refine wq_sipush dX1_lastDayOf_4 ?_
  refine wq_imul dX1_lastDayOf_7 ?_
  refine wq_gets (k := 2) dX1_lastDayOf_8 rfl g_RX1_28 ?_
  rw [hE.2.2.1.1]
  refine wq_iload_n dX1_lastDayOf_11 rfl ?_
  refine wq_bipush dX1_lastDayOf_12 ?_
  refine wq_irem dX1_lastDayOf_14 ?_
  refine wq_iconst dX1_lastDayOf_15 ?_
  refine wq_iadd dX1_lastDayOf_16 ?_
  refine wq_roi dX1_lastDayOf_17 hro (by omega) rfl ?_
  refine wq_iadd dX1_lastDayOf_18 ?_
  refine wq_iconst dX1_lastDayOf_19 ?_
  refine wq_isub dX1_lastDayOf_20 ?_
  refine wq_ireturn dX1_lastDayOf_21 ?_ ?_
  · exact ⟨rfl, rfl⟩
  · exact ⟨_, rfl, rfl⟩
variable {E : wE} {G : gW} {n k : Nat}
theorem c_X1_weekdayOf {d : Int} (hk : k < 11 := by omega) (hd : 0 ≤ d ∧ d ≤ 1094 := by omega) (hw : 0 ≤ G.i 1 k 2 0 ∧ G.i 1 k 2 0 ≤ 6 := by assumption) : WM E n yX1_weekdayOf cX1_weekdayOf 2 (some .int) [.ref (aCal E k), .int (iI d)] (lay E G) 0 0 (pR (.int (iI ((d + G.i 1 k 2 0) % 7))) (lay E G)) := by
  refine wq_iload_n dX1_weekdayOf_0 rfl ?_
  refine wq_aload_n dX1_weekdayOf_1 rfl ?_
  refine wq_get dX1_weekdayOf_2 f_RX1_25 rd_cal rfl ?_
  refine wq_iadd dX1_weekdayOf_5 ?_
  refine wq_bipush dX1_weekdayOf_6 ?_
  refine wq_irem dX1_weekdayOf_8 ?_
  refine wq_ireturn dX1_weekdayOf_9 ?_ ?_
  · exact ⟨rfl, rfl⟩
  · exact ⟨_, rfl, rfl⟩
abbrev gHol (G : gW) (k : Nat) : Int → Bool := holB (fun j => G.l 0 k j 0)
abbrev gBiz (G : gW) (k : Nat) : Int → Bool := biz (G.i 1 k 2 0) (gHol G k)
theorem c_X1_isHoliday {d : Int} (hk : k < 11 := by omega) (hd : 0 ≤ d ∧ d ≤ 1094 := by omega) : WM E n yX1_isHoliday cX1_isHoliday 2 (some .boolean) [.ref (aCal E k), .int (iI d)] (lay E G) 0 0 (pR (.int (iI (bI (gHol G k d)))) (lay E G)) := by
  refine wq_aload_n dX1_isHoliday_0 rfl ?_
  refine wq_get dX1_isHoliday_1 f_RX1_9 rd_cal rfl ?_
  refine wq_iload_n dX1_isHoliday_4 rfl ?_
  refine wq_bipush dX1_isHoliday_5 ?_
  refine wq_ishr dX1_isHoliday_7 ?_
  rw [iI_shr6 (by omega)]
  refine wq_lald dX1_isHoliday_8 rd_bits (by omega) ?_
  refine wq_iload_n dX1_isHoliday_9 rfl ?_
  refine wq_bipush dX1_isHoliday_10 ?_
  refine wq_iand dX1_isHoliday_12 ?_
  rw [iI_and63 (by omega)]
  refine wq_lushr dX1_isHoliday_13 ?_
  refine wq_lconst1 dX1_isHoliday_14 ?_
  refine wq_land dX1_isHoliday_15 ?_
  refine wq_lconst0 dX1_isHoliday_16 ?_
  refine wq_lcmp_eq 25 dX1_isHoliday_17 dX1_isHoliday_18 (fun h17 => ?_) (fun h17 => ?_)
  · refine wq_iconst dX1_isHoliday_25 ?_
    refine wq_ireturn dX1_isHoliday_26 ?_ ?_
    · exact ⟨congrArg (fun z => some (Value.int (iI z))) (by simp_all [bI, holB]), rfl⟩
    · exact ⟨_, rfl, rfl⟩
  · refine wq_iconst dX1_isHoliday_21 ?_
    refine wq_goto 26 dX1_isHoliday_22 ?_
    refine wq_ireturn dX1_isHoliday_26 ?_ ?_
    · exact ⟨congrArg (fun z => some (Value.int (iI z))) (by simp_all [bI, holB]), rfl⟩
    · exact ⟨_, rfl, rfl⟩
theorem c_X1_isBusiness {d : Int} (hk : k < 11 := by omega) (hd : 0 ≤ d ∧ d ≤ 1094 := by omega) (hw : 0 ≤ G.i 1 k 2 0 ∧ G.i 1 k 2 0 ≤ 6 := by assumption) : WM E n yX1_isBusiness cX1_isBusiness 2 (some .boolean) [.ref (aCal E k), .int (iI d)] (lay E G) 0 0 (pR (.int (iI (bI (gBiz G k d)))) (lay E G)) := by
  refine wq_iload_n dX1_isBusiness_0 rfl ?_
  refine wq_aload_n dX1_isBusiness_1 rfl ?_
  refine wq_get dX1_isBusiness_2 f_RX1_25 rd_cal rfl ?_
  refine wq_iadd dX1_isBusiness_5 ?_
  refine wq_bipush dX1_isBusiness_6 ?_
  refine wq_irem dX1_isBusiness_8 ?_
  refine wq_iconst dX1_isBusiness_9 ?_
  refine wq_icmp_ge 38 dX1_isBusiness_10 (fun h10 => ?_) (fun h10 => ?_)
  · refine wq_iconst dX1_isBusiness_38 ?_
    refine wq_ireturn dX1_isBusiness_39 ?_ ?_
    · exact ⟨congrArg (fun z => some (Value.int (iI z))) (by simp_all [bI, biz, holB]; try omega), rfl⟩
    · exact ⟨_, rfl, rfl⟩
  · refine wq_aload_n dX1_isBusiness_13 rfl ?_
    refine wq_get dX1_isBusiness_14 f_RX1_9 rd_cal rfl ?_
    refine wq_iload_n dX1_isBusiness_17 rfl ?_
    refine wq_bipush dX1_isBusiness_18 ?_
    refine wq_ishr dX1_isBusiness_20 ?_
    rw [iI_shr6 (by omega)]
    refine wq_lald dX1_isBusiness_21 rd_bits (by omega) ?_
    refine wq_iload_n dX1_isBusiness_22 rfl ?_
    refine wq_bipush dX1_isBusiness_23 ?_
    refine wq_iand dX1_isBusiness_25 ?_
    rw [iI_and63 (by omega)]
    refine wq_lushr dX1_isBusiness_26 ?_
    refine wq_lconst1 dX1_isBusiness_27 ?_
    refine wq_land dX1_isBusiness_28 ?_
    refine wq_lconst0 dX1_isBusiness_29 ?_
    refine wq_lcmp_ne 38 dX1_isBusiness_30 dX1_isBusiness_31 (fun h30 => ?_) (fun h30 => ?_)
    · refine wq_iconst dX1_isBusiness_38 ?_
      refine wq_ireturn dX1_isBusiness_39 ?_ ?_
      · exact ⟨congrArg (fun z => some (Value.int (iI z))) (by simp_all [bI, biz, holB]; try omega), rfl⟩
      · exact ⟨_, rfl, rfl⟩
    · refine wq_iconst dX1_isBusiness_34 ?_
      refine wq_goto 39 dX1_isBusiness_35 ?_
      refine wq_ireturn dX1_isBusiness_39 ?_ ?_
      · exact ⟨congrArg (fun z => some (Value.int (iI z))) (by simp_all [bI, biz, holB]; try omega), rfl⟩
      · exact ⟨_, rfl, rfl⟩
end CAL

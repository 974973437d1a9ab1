section
-- ===== PART A: goes FIRST, ahead of the names: the tables' words, and 'selects' of the private methods out of them =====
/-- a private method of a class that the tables say can be made, by its rows of tables_1 -/
def lw_okq (q : MethodName × Nat) : Prop := (q.1.cls ≠ "java/lang/invoke/MethodHandle" ∧ q.1.cls ≠ "java/lang/invoke/VarHandle") ∧ Cond.instantiable q.1.cls q.2 ∈ tables_1 ∧ Cond.privateMethod q.1 ∈ tables_1 ∧ Cond.instanceMethod q.1 ∈ tables_1
theorem lw_p0 : lw_okq (⟨"StandingPayments", "remember", "()V"⟩, 8) := ⟨⟨by decide +kernel, by decide +kernel⟩, List.mem_of_getElem? (i := 18) (by decide +kernel), List.mem_of_getElem? (i := 347) (by decide +kernel), List.mem_of_getElem? (i := 348) (by decide +kernel)⟩
theorem lw_p1 : lw_okq (⟨"StandingPayments", "rowBehindLatest", "()I"⟩, 8) := ⟨⟨by decide +kernel, by decide +kernel⟩, List.mem_of_getElem? (i := 18) (by decide +kernel), List.mem_of_getElem? (i := 351) (by decide +kernel), List.mem_of_getElem? (i := 352) (by decide +kernel)⟩
theorem lw_p2 : lw_okq (⟨"StandingPayments$Waiting", "makeRoom", "(I)V"⟩, 3) := ⟨⟨by decide +kernel, by decide +kernel⟩, List.mem_of_getElem? (i := 55) (by decide +kernel), List.mem_of_getElem? (i := 378) (by decide +kernel), List.mem_of_getElem? (i := 379) (by decide +kernel)⟩
theorem lw_p3 : lw_okq (⟨"StandingPayments", "recorded", "(I)I"⟩, 8) := ⟨⟨by decide +kernel, by decide +kernel⟩, List.mem_of_getElem? (i := 18) (by decide +kernel), List.mem_of_getElem? (i := 412) (by decide +kernel), List.mem_of_getElem? (i := 413) (by decide +kernel)⟩
theorem lw_p4 : lw_okq (⟨"StandingPayments$House", "settle", "(I)V"⟩, 12) := ⟨⟨by decide +kernel, by decide +kernel⟩, List.mem_of_getElem? (i := 26) (by decide +kernel), List.mem_of_getElem? (i := 561) (by decide +kernel), List.mem_of_getElem? (i := 562) (by decide +kernel)⟩
theorem lw_p5 : lw_okq (⟨"StandingPayments$House", "makePaymentsDue", "()V"⟩, 12) := ⟨⟨by decide +kernel, by decide +kernel⟩, List.mem_of_getElem? (i := 26) (by decide +kernel), List.mem_of_getElem? (i := 582) (by decide +kernel), List.mem_of_getElem? (i := 583) (by decide +kernel)⟩
theorem lw_p6 : lw_okq (⟨"StandingPayments$House", "takeNextOccurrence", "(I)V"⟩, 12) := ⟨⟨by decide +kernel, by decide +kernel⟩, List.mem_of_getElem? (i := 26) (by decide +kernel), List.mem_of_getElem? (i := 590) (by decide +kernel), List.mem_of_getElem? (i := 591) (by decide +kernel)⟩
theorem lw_p7 : lw_okq (⟨"StandingPayments$House", "sweep", "()V"⟩, 12) := ⟨⟨by decide +kernel, by decide +kernel⟩, List.mem_of_getElem? (i := 26) (by decide +kernel), List.mem_of_getElem? (i := 600) (by decide +kernel), List.mem_of_getElem? (i := 601) (by decide +kernel)⟩
theorem lw_p8 : lw_okq (⟨"StandingPayments$House", "payWaiting", "()V"⟩, 12) := ⟨⟨by decide +kernel, by decide +kernel⟩, List.mem_of_getElem? (i := 26) (by decide +kernel), List.mem_of_getElem? (i := 607) (by decide +kernel), List.mem_of_getElem? (i := 608) (by decide +kernel)⟩
theorem lw_p9 : lw_okq (⟨"StandingPayments$House", "payWaitingOf", "(I)V"⟩, 12) := ⟨⟨by decide +kernel, by decide +kernel⟩, List.mem_of_getElem? (i := 26) (by decide +kernel), List.mem_of_getElem? (i := 611) (by decide +kernel), List.mem_of_getElem? (i := 612) (by decide +kernel)⟩
theorem lw_p10 : lw_okq (⟨"StandingPayments$House", "tryPayment", "(I)V"⟩, 12) := ⟨⟨by decide +kernel, by decide +kernel⟩, List.mem_of_getElem? (i := 26) (by decide +kernel), List.mem_of_getElem? (i := 615) (by decide +kernel), List.mem_of_getElem? (i := 616) (by decide +kernel)⟩
theorem lw_p11 : lw_okq (⟨"StandingPayments$House", "failTry", "(I)V"⟩, 12) := ⟨⟨by decide +kernel, by decide +kernel⟩, List.mem_of_getElem? (i := 26) (by decide +kernel), List.mem_of_getElem? (i := 619) (by decide +kernel), List.mem_of_getElem? (i := 620) (by decide +kernel)⟩
theorem lw_p12 : lw_okq (⟨"StandingPayments$House", "chargeInterest", "()V"⟩, 12) := ⟨⟨by decide +kernel, by decide +kernel⟩, List.mem_of_getElem? (i := 26) (by decide +kernel), List.mem_of_getElem? (i := 623) (by decide +kernel), List.mem_of_getElem? (i := 624) (by decide +kernel)⟩
theorem lw_p13 : lw_okq (⟨"StandingPayments$House", "sumOverOrders", "(I)I"⟩, 12) := ⟨⟨by decide +kernel, by decide +kernel⟩, List.mem_of_getElem? (i := 26) (by decide +kernel), List.mem_of_getElem? (i := 694) (by decide +kernel), List.mem_of_getElem? (i := 695) (by decide +kernel)⟩
theorem lw_p14 : lw_okq (⟨"StandingPayments$Pad", "sign", "()C"⟩, 11) := ⟨⟨by decide +kernel, by decide +kernel⟩, List.mem_of_getElem? (i := 266) (by decide +kernel), List.mem_of_getElem? (i := 756) (by decide +kernel), List.mem_of_getElem? (i := 757) (by decide +kernel)⟩
theorem lw_p15 : lw_okq (⟨"StandingPayments$Pad", "readParties", "()Z"⟩, 11) := ⟨⟨by decide +kernel, by decide +kernel⟩, List.mem_of_getElem? (i := 266) (by decide +kernel), List.mem_of_getElem? (i := 760) (by decide +kernel), List.mem_of_getElem? (i := 761) (by decide +kernel)⟩
def lw_privs_1 : List (MethodName × Nat) := [(⟨"StandingPayments", "remember", "()V"⟩, 8), (⟨"StandingPayments", "rowBehindLatest", "()I"⟩, 8), (⟨"StandingPayments$Waiting", "makeRoom", "(I)V"⟩, 3), (⟨"StandingPayments", "recorded", "(I)I"⟩, 8), (⟨"StandingPayments$House", "settle", "(I)V"⟩, 12), (⟨"StandingPayments$House", "makePaymentsDue", "()V"⟩, 12), (⟨"StandingPayments$House", "takeNextOccurrence", "(I)V"⟩, 12), (⟨"StandingPayments$House", "sweep", "()V"⟩, 12), (⟨"StandingPayments$House", "payWaiting", "()V"⟩, 12), (⟨"StandingPayments$House", "payWaitingOf", "(I)V"⟩, 12), (⟨"StandingPayments$House", "tryPayment", "(I)V"⟩, 12), (⟨"StandingPayments$House", "failTry", "(I)V"⟩, 12), (⟨"StandingPayments$House", "chargeInterest", "()V"⟩, 12), (⟨"StandingPayments$House", "sumOverOrders", "(I)I"⟩, 12), (⟨"StandingPayments$Pad", "sign", "()C"⟩, 11), (⟨"StandingPayments$Pad", "readParties", "()Z"⟩, 11)]
theorem lw_r1 : ∀ q ∈ lw_privs_1, lw_okq q := List.forall_mem_cons.mpr ⟨lw_p0, List.forall_mem_cons.mpr ⟨lw_p1, List.forall_mem_cons.mpr ⟨lw_p2, List.forall_mem_cons.mpr ⟨lw_p3, List.forall_mem_cons.mpr ⟨lw_p4, List.forall_mem_cons.mpr ⟨lw_p5, List.forall_mem_cons.mpr ⟨lw_p6, List.forall_mem_cons.mpr ⟨lw_p7, List.forall_mem_cons.mpr ⟨lw_p8, List.forall_mem_cons.mpr ⟨lw_p9, List.forall_mem_cons.mpr ⟨lw_p10, List.forall_mem_cons.mpr ⟨lw_p11, List.forall_mem_cons.mpr ⟨lw_p12, List.forall_mem_cons.mpr ⟨lw_p13, List.forall_mem_cons.mpr ⟨lw_p14, List.forall_mem_cons.mpr ⟨lw_p15, fun _ h => absurd h List.not_mem_nil⟩⟩⟩⟩⟩⟩⟩⟩⟩⟩⟩⟩⟩⟩⟩⟩
theorem lw_p16 : lw_okq (⟨"StandingPayments$Pad", "readDigit", "()I"⟩, 11) := ⟨⟨by decide +kernel, by decide +kernel⟩, List.mem_of_getElem? (i := 266) (by decide +kernel), List.mem_of_getElem? (i := 764) (by decide +kernel), List.mem_of_getElem? (i := 765) (by decide +kernel)⟩
theorem lw_p17 : lw_okq (⟨"StandingPayments$Pad", "readOneOf", "(Ljava/lang/String;)I"⟩, 11) := ⟨⟨by decide +kernel, by decide +kernel⟩, List.mem_of_getElem? (i := 266) (by decide +kernel), List.mem_of_getElem? (i := 769) (by decide +kernel), List.mem_of_getElem? (i := 770) (by decide +kernel)⟩
theorem lw_p18 : lw_okq (⟨"StandingPayments$Pad", "readAmountAndDates", "()Z"⟩, 11) := ⟨⟨by decide +kernel, by decide +kernel⟩, List.mem_of_getElem? (i := 266) (by decide +kernel), List.mem_of_getElem? (i := 861) (by decide +kernel), List.mem_of_getElem? (i := 862) (by decide +kernel)⟩
theorem lw_p19 : lw_okq (⟨"StandingPayments$Pad", "readNumber", "()I"⟩, 11) := ⟨⟨by decide +kernel, by decide +kernel⟩, List.mem_of_getElem? (i := 266) (by decide +kernel), List.mem_of_getElem? (i := 865) (by decide +kernel), List.mem_of_getElem? (i := 866) (by decide +kernel)⟩
theorem lw_p20 : lw_okq (⟨"StandingPayments", "perform", "(LStandingPayments$Pad;)I"⟩, 8) := ⟨⟨by decide +kernel, by decide +kernel⟩, List.mem_of_getElem? (i := 18) (by decide +kernel), List.mem_of_getElem? (i := 878) (by decide +kernel), List.mem_of_getElem? (i := 879) (by decide +kernel)⟩
theorem lw_p21 : lw_okq (⟨"StandingPaymentsModel", "brings", "(I)V"⟩, 21) := ⟨⟨by decide +kernel, by decide +kernel⟩, List.mem_of_getElem? (i := 894) (by decide +kernel), List.mem_of_getElem? (i := 973) (by decide +kernel), List.mem_of_getElem? (i := 974) (by decide +kernel)⟩
theorem lw_p22 : lw_okq (⟨"StandingPaymentsModel", "keeps", "(I)V"⟩, 21) := ⟨⟨by decide +kernel, by decide +kernel⟩, List.mem_of_getElem? (i := 894) (by decide +kernel), List.mem_of_getElem? (i := 984) (by decide +kernel), List.mem_of_getElem? (i := 985) (by decide +kernel)⟩
theorem lw_p23 : lw_okq (⟨"StandingPaymentsModel", "today", "()I"⟩, 21) := ⟨⟨by decide +kernel, by decide +kernel⟩, List.mem_of_getElem? (i := 894) (by decide +kernel), List.mem_of_getElem? (i := 988) (by decide +kernel), List.mem_of_getElem? (i := 989) (by decide +kernel)⟩
theorem lw_p24 : lw_okq (⟨"StandingPaymentsModel", "of", "(I)I"⟩, 21) := ⟨⟨by decide +kernel, by decide +kernel⟩, List.mem_of_getElem? (i := 894) (by decide +kernel), List.mem_of_getElem? (i := 992) (by decide +kernel), List.mem_of_getElem? (i := 993) (by decide +kernel)⟩
theorem lw_p25 : lw_okq (⟨"StandingPaymentsModel", "records", "()V"⟩, 21) := ⟨⟨by decide +kernel, by decide +kernel⟩, List.mem_of_getElem? (i := 894) (by decide +kernel), List.mem_of_getElem? (i := 1000) (by decide +kernel), List.mem_of_getElem? (i := 1001) (by decide +kernel)⟩
theorem lw_p26 : lw_okq (⟨"StandingPaymentsModel", "drops", "()V"⟩, 21) := ⟨⟨by decide +kernel, by decide +kernel⟩, List.mem_of_getElem? (i := 894) (by decide +kernel), List.mem_of_getElem? (i := 1004) (by decide +kernel), List.mem_of_getElem? (i := 1005) (by decide +kernel)⟩
theorem lw_p27 : lw_okq (⟨"StandingPaymentsModel", "weekdayOf", "(I)I"⟩, 21) := ⟨⟨by decide +kernel, by decide +kernel⟩, List.mem_of_getElem? (i := 894) (by decide +kernel), List.mem_of_getElem? (i := 1017) (by decide +kernel), List.mem_of_getElem? (i := 1018) (by decide +kernel)⟩
theorem lw_p28 : lw_okq (⟨"StandingPaymentsModel", "isBusiness", "(I)Z"⟩, 21) := ⟨⟨by decide +kernel, by decide +kernel⟩, List.mem_of_getElem? (i := 894) (by decide +kernel), List.mem_of_getElem? (i := 1030) (by decide +kernel), List.mem_of_getElem? (i := 1031) (by decide +kernel)⟩
theorem lw_p29 : lw_okq (⟨"StandingPaymentsModel", "isHoliday", "(I)Z"⟩, 21) := ⟨⟨by decide +kernel, by decide +kernel⟩, List.mem_of_getElem? (i := 894) (by decide +kernel), List.mem_of_getElem? (i := 1034) (by decide +kernel), List.mem_of_getElem? (i := 1035) (by decide +kernel)⟩
theorem lw_p30 : lw_okq (⟨"StandingPaymentsModel", "nextBusiness", "(I)I"⟩, 21) := ⟨⟨by decide +kernel, by decide +kernel⟩, List.mem_of_getElem? (i := 894) (by decide +kernel), List.mem_of_getElem? (i := 1038) (by decide +kernel), List.mem_of_getElem? (i := 1039) (by decide +kernel)⟩
theorem lw_p31 : lw_okq (⟨"StandingPaymentsModel", "lastBusiness", "(I)I"⟩, 21) := ⟨⟨by decide +kernel, by decide +kernel⟩, List.mem_of_getElem? (i := 894) (by decide +kernel), List.mem_of_getElem? (i := 1042) (by decide +kernel), List.mem_of_getElem? (i := 1043) (by decide +kernel)⟩
def lw_privs_2 : List (MethodName × Nat) := [(⟨"StandingPayments$Pad", "readDigit", "()I"⟩, 11), (⟨"StandingPayments$Pad", "readOneOf", "(Ljava/lang/String;)I"⟩, 11), (⟨"StandingPayments$Pad", "readAmountAndDates", "()Z"⟩, 11), (⟨"StandingPayments$Pad", "readNumber", "()I"⟩, 11), (⟨"StandingPayments", "perform", "(LStandingPayments$Pad;)I"⟩, 8), (⟨"StandingPaymentsModel", "brings", "(I)V"⟩, 21), (⟨"StandingPaymentsModel", "keeps", "(I)V"⟩, 21), (⟨"StandingPaymentsModel", "today", "()I"⟩, 21), (⟨"StandingPaymentsModel", "of", "(I)I"⟩, 21), (⟨"StandingPaymentsModel", "records", "()V"⟩, 21), (⟨"StandingPaymentsModel", "drops", "()V"⟩, 21), (⟨"StandingPaymentsModel", "weekdayOf", "(I)I"⟩, 21), (⟨"StandingPaymentsModel", "isBusiness", "(I)Z"⟩, 21), (⟨"StandingPaymentsModel", "isHoliday", "(I)Z"⟩, 21), (⟨"StandingPaymentsModel", "nextBusiness", "(I)I"⟩, 21), (⟨"StandingPaymentsModel", "lastBusiness", "(I)I"⟩, 21)]
theorem lw_r2 : ∀ q ∈ lw_privs_2, lw_okq q := List.forall_mem_cons.mpr ⟨lw_p16, List.forall_mem_cons.mpr ⟨lw_p17, List.forall_mem_cons.mpr ⟨lw_p18, List.forall_mem_cons.mpr ⟨lw_p19, List.forall_mem_cons.mpr ⟨lw_p20, List.forall_mem_cons.mpr ⟨lw_p21, List.forall_mem_cons.mpr ⟨lw_p22, List.forall_mem_cons.mpr ⟨lw_p23, List.forall_mem_cons.mpr ⟨lw_p24, List.forall_mem_cons.mpr ⟨lw_p25, List.forall_mem_cons.mpr ⟨lw_p26, List.forall_mem_cons.mpr ⟨lw_p27, List.forall_mem_cons.mpr ⟨lw_p28, List.forall_mem_cons.mpr ⟨lw_p29, List.forall_mem_cons.mpr ⟨lw_p30, List.forall_mem_cons.mpr ⟨lw_p31, fun _ h => absurd h List.not_mem_nil⟩⟩⟩⟩⟩⟩⟩⟩⟩⟩⟩⟩⟩⟩⟩⟩
theorem lw_p32 : lw_okq (⟨"StandingPaymentsModel", "shifted", "(II)I"⟩, 21) := ⟨⟨by decide +kernel, by decide +kernel⟩, List.mem_of_getElem? (i := 894) (by decide +kernel), List.mem_of_getElem? (i := 1051) (by decide +kernel), List.mem_of_getElem? (i := 1052) (by decide +kernel)⟩
theorem lw_p33 : lw_okq (⟨"StandingPaymentsModel", "isSetting", "(II)Z"⟩, 21) := ⟨⟨by decide +kernel, by decide +kernel⟩, List.mem_of_getElem? (i := 894) (by decide +kernel), List.mem_of_getElem? (i := 1059) (by decide +kernel), List.mem_of_getElem? (i := 1060) (by decide +kernel)⟩
theorem lw_p34 : lw_okq (⟨"StandingPaymentsModel", "isAccount", "(I)Z"⟩, 21) := ⟨⟨by decide +kernel, by decide +kernel⟩, List.mem_of_getElem? (i := 894) (by decide +kernel), List.mem_of_getElem? (i := 1083) (by decide +kernel), List.mem_of_getElem? (i := 1084) (by decide +kernel)⟩
theorem lw_p35 : lw_okq (⟨"StandingPaymentsModel", "ofA", "(II)I"⟩, 21) := ⟨⟨by decide +kernel, by decide +kernel⟩, List.mem_of_getElem? (i := 894) (by decide +kernel), List.mem_of_getElem? (i := 1087) (by decide +kernel), List.mem_of_getElem? (i := 1088) (by decide +kernel)⟩
theorem lw_p36 : lw_okq (⟨"StandingPaymentsModel", "checksDeposit", "(II)I"⟩, 21) := ⟨⟨by decide +kernel, by decide +kernel⟩, List.mem_of_getElem? (i := 894) (by decide +kernel), List.mem_of_getElem? (i := 1095) (by decide +kernel), List.mem_of_getElem? (i := 1096) (by decide +kernel)⟩
theorem lw_p37 : lw_okq (⟨"StandingPaymentsModel", "deposits", "(II)I"⟩, 21) := ⟨⟨by decide +kernel, by decide +kernel⟩, List.mem_of_getElem? (i := 894) (by decide +kernel), List.mem_of_getElem? (i := 1100) (by decide +kernel), List.mem_of_getElem? (i := 1101) (by decide +kernel)⟩
theorem lw_p38 : lw_okq (⟨"StandingPaymentsModel", "moves", "(IIJ)V"⟩, 21) := ⟨⟨by decide +kernel, by decide +kernel⟩, List.mem_of_getElem? (i := 894) (by decide +kernel), List.mem_of_getElem? (i := 1104) (by decide +kernel), List.mem_of_getElem? (i := 1105) (by decide +kernel)⟩
theorem lw_p39 : lw_okq (⟨"StandingPaymentsModel", "moneyOf", "(II)J"⟩, 21) := ⟨⟨by decide +kernel, by decide +kernel⟩, List.mem_of_getElem? (i := 894) (by decide +kernel), List.mem_of_getElem? (i := 1108) (by decide +kernel), List.mem_of_getElem? (i := 1109) (by decide +kernel)⟩
theorem lw_p40 : lw_okq (⟨"StandingPaymentsModel", "isOrder", "(I)Z"⟩, 21) := ⟨⟨by decide +kernel, by decide +kernel⟩, List.mem_of_getElem? (i := 894) (by decide +kernel), List.mem_of_getElem? (i := 1116) (by decide +kernel), List.mem_of_getElem? (i := 1117) (by decide +kernel)⟩
theorem lw_p41 : lw_okq (⟨"StandingPaymentsModel", "ofO", "(II)I"⟩, 21) := ⟨⟨by decide +kernel, by decide +kernel⟩, List.mem_of_getElem? (i := 894) (by decide +kernel), List.mem_of_getElem? (i := 1121) (by decide +kernel), List.mem_of_getElem? (i := 1122) (by decide +kernel)⟩
theorem lw_p42 : lw_okq (⟨"StandingPaymentsModel", "occurrence", "(II)I"⟩, 21) := ⟨⟨by decide +kernel, by decide +kernel⟩, List.mem_of_getElem? (i := 894) (by decide +kernel), List.mem_of_getElem? (i := 1125) (by decide +kernel), List.mem_of_getElem? (i := 1126) (by decide +kernel)⟩
theorem lw_p43 : lw_okq (⟨"StandingPaymentsModel", "nominal", "(II)I"⟩, 21) := ⟨⟨by decide +kernel, by decide +kernel⟩, List.mem_of_getElem? (i := 894) (by decide +kernel), List.mem_of_getElem? (i := 1129) (by decide +kernel), List.mem_of_getElem? (i := 1130) (by decide +kernel)⟩
theorem lw_p44 : lw_okq (⟨"StandingPaymentsModel", "lastOf", "(I)I"⟩, 21) := ⟨⟨by decide +kernel, by decide +kernel⟩, List.mem_of_getElem? (i := 894) (by decide +kernel), List.mem_of_getElem? (i := 1136) (by decide +kernel), List.mem_of_getElem? (i := 1137) (by decide +kernel)⟩
theorem lw_p45 : lw_okq (⟨"StandingPaymentsModel", "dateBy", "(II)I"⟩, 21) := ⟨⟨by decide +kernel, by decide +kernel⟩, List.mem_of_getElem? (i := 894) (by decide +kernel), List.mem_of_getElem? (i := 1140) (by decide +kernel), List.mem_of_getElem? (i := 1141) (by decide +kernel)⟩
theorem lw_p46 : lw_okq (⟨"StandingPaymentsModel", "checksOrder", "(IIIIII)I"⟩, 21) := ⟨⟨by decide +kernel, by decide +kernel⟩, List.mem_of_getElem? (i := 894) (by decide +kernel), List.mem_of_getElem? (i := 1148) (by decide +kernel), List.mem_of_getElem? (i := 1149) (by decide +kernel)⟩
theorem lw_p47 : lw_okq (⟨"StandingPaymentsModel", "makes", "(IIIIII)I"⟩, 21) := ⟨⟨by decide +kernel, by decide +kernel⟩, List.mem_of_getElem? (i := 894) (by decide +kernel), List.mem_of_getElem? (i := 1157) (by decide +kernel), List.mem_of_getElem? (i := 1158) (by decide +kernel)⟩
def lw_privs_3 : List (MethodName × Nat) := [(⟨"StandingPaymentsModel", "shifted", "(II)I"⟩, 21), (⟨"StandingPaymentsModel", "isSetting", "(II)Z"⟩, 21), (⟨"StandingPaymentsModel", "isAccount", "(I)Z"⟩, 21), (⟨"StandingPaymentsModel", "ofA", "(II)I"⟩, 21), (⟨"StandingPaymentsModel", "checksDeposit", "(II)I"⟩, 21), (⟨"StandingPaymentsModel", "deposits", "(II)I"⟩, 21), (⟨"StandingPaymentsModel", "moves", "(IIJ)V"⟩, 21), (⟨"StandingPaymentsModel", "moneyOf", "(II)J"⟩, 21), (⟨"StandingPaymentsModel", "isOrder", "(I)Z"⟩, 21), (⟨"StandingPaymentsModel", "ofO", "(II)I"⟩, 21), (⟨"StandingPaymentsModel", "occurrence", "(II)I"⟩, 21), (⟨"StandingPaymentsModel", "nominal", "(II)I"⟩, 21), (⟨"StandingPaymentsModel", "lastOf", "(I)I"⟩, 21), (⟨"StandingPaymentsModel", "dateBy", "(II)I"⟩, 21), (⟨"StandingPaymentsModel", "checksOrder", "(IIIIII)I"⟩, 21), (⟨"StandingPaymentsModel", "makes", "(IIIIII)I"⟩, 21)]
theorem lw_r3 : ∀ q ∈ lw_privs_3, lw_okq q := List.forall_mem_cons.mpr ⟨lw_p32, List.forall_mem_cons.mpr ⟨lw_p33, List.forall_mem_cons.mpr ⟨lw_p34, List.forall_mem_cons.mpr ⟨lw_p35, List.forall_mem_cons.mpr ⟨lw_p36, List.forall_mem_cons.mpr ⟨lw_p37, List.forall_mem_cons.mpr ⟨lw_p38, List.forall_mem_cons.mpr ⟨lw_p39, List.forall_mem_cons.mpr ⟨lw_p40, List.forall_mem_cons.mpr ⟨lw_p41, List.forall_mem_cons.mpr ⟨lw_p42, List.forall_mem_cons.mpr ⟨lw_p43, List.forall_mem_cons.mpr ⟨lw_p44, List.forall_mem_cons.mpr ⟨lw_p45, List.forall_mem_cons.mpr ⟨lw_p46, List.forall_mem_cons.mpr ⟨lw_p47, fun _ h => absurd h List.not_mem_nil⟩⟩⟩⟩⟩⟩⟩⟩⟩⟩⟩⟩⟩⟩⟩⟩
theorem lw_p48 : lw_okq (⟨"StandingPaymentsModel", "becomes", "(III)V"⟩, 21) := ⟨⟨by decide +kernel, by decide +kernel⟩, List.mem_of_getElem? (i := 894) (by decide +kernel), List.mem_of_getElem? (i := 1161) (by decide +kernel), List.mem_of_getElem? (i := 1162) (by decide +kernel)⟩
theorem lw_p49 : lw_okq (⟨"StandingPaymentsModel", "leavesOut", "(I)I"⟩, 21) := ⟨⟨by decide +kernel, by decide +kernel⟩, List.mem_of_getElem? (i := 894) (by decide +kernel), List.mem_of_getElem? (i := 1165) (by decide +kernel), List.mem_of_getElem? (i := 1166) (by decide +kernel)⟩
theorem lw_p50 : lw_okq (⟨"StandingPaymentsModel", "checksState", "(II)I"⟩, 21) := ⟨⟨by decide +kernel, by decide +kernel⟩, List.mem_of_getElem? (i := 894) (by decide +kernel), List.mem_of_getElem? (i := 1177) (by decide +kernel), List.mem_of_getElem? (i := 1178) (by decide +kernel)⟩
theorem lw_p51 : lw_okq (⟨"StandingPaymentsModel", "stops", "(I)I"⟩, 21) := ⟨⟨by decide +kernel, by decide +kernel⟩, List.mem_of_getElem? (i := 894) (by decide +kernel), List.mem_of_getElem? (i := 1181) (by decide +kernel), List.mem_of_getElem? (i := 1182) (by decide +kernel)⟩
theorem lw_p52 : lw_okq (⟨"StandingPaymentsModel", "waitsOf", "(I)I"⟩, 21) := ⟨⟨by decide +kernel, by decide +kernel⟩, List.mem_of_getElem? (i := 894) (by decide +kernel), List.mem_of_getElem? (i := 1185) (by decide +kernel), List.mem_of_getElem? (i := 1186) (by decide +kernel)⟩
theorem lw_p53 : lw_okq (⟨"StandingPaymentsModel", "partOf", "(II)I"⟩, 21) := ⟨⟨by decide +kernel, by decide +kernel⟩, List.mem_of_getElem? (i := 894) (by decide +kernel), List.mem_of_getElem? (i := 1189) (by decide +kernel), List.mem_of_getElem? (i := 1190) (by decide +kernel)⟩
theorem lw_p54 : lw_okq (⟨"StandingPaymentsModel", "goesOn", "(I)I"⟩, 21) := ⟨⟨by decide +kernel, by decide +kernel⟩, List.mem_of_getElem? (i := 894) (by decide +kernel), List.mem_of_getElem? (i := 1203) (by decide +kernel), List.mem_of_getElem? (i := 1204) (by decide +kernel)⟩
theorem lw_p55 : lw_okq (⟨"StandingPaymentsModel", "misses", "(I)V"⟩, 21) := ⟨⟨by decide +kernel, by decide +kernel⟩, List.mem_of_getElem? (i := 894) (by decide +kernel), List.mem_of_getElem? (i := 1211) (by decide +kernel), List.mem_of_getElem? (i := 1212) (by decide +kernel)⟩
theorem lw_p56 : lw_okq (⟨"StandingPaymentsModel", "removes", "(I)V"⟩, 21) := ⟨⟨by decide +kernel, by decide +kernel⟩, List.mem_of_getElem? (i := 894) (by decide +kernel), List.mem_of_getElem? (i := 1215) (by decide +kernel), List.mem_of_getElem? (i := 1216) (by decide +kernel)⟩
theorem lw_p57 : lw_okq (⟨"StandingPaymentsModel", "checksDays", "(I)I"⟩, 21) := ⟨⟨by decide +kernel, by decide +kernel⟩, List.mem_of_getElem? (i := 894) (by decide +kernel), List.mem_of_getElem? (i := 1223) (by decide +kernel), List.mem_of_getElem? (i := 1224) (by decide +kernel)⟩
theorem lw_p58 : lw_okq (⟨"StandingPaymentsModel", "passesDays", "(I)I"⟩, 21) := ⟨⟨by decide +kernel, by decide +kernel⟩, List.mem_of_getElem? (i := 894) (by decide +kernel), List.mem_of_getElem? (i := 1228) (by decide +kernel), List.mem_of_getElem? (i := 1229) (by decide +kernel)⟩
theorem lw_p59 : lw_okq (⟨"StandingPaymentsModel", "passesDay", "()V"⟩, 21) := ⟨⟨by decide +kernel, by decide +kernel⟩, List.mem_of_getElem? (i := 894) (by decide +kernel), List.mem_of_getElem? (i := 1232) (by decide +kernel), List.mem_of_getElem? (i := 1233) (by decide +kernel)⟩
theorem lw_p60 : lw_okq (⟨"StandingPaymentsModel", "comesDue", "(I)V"⟩, 21) := ⟨⟨by decide +kernel, by decide +kernel⟩, List.mem_of_getElem? (i := 894) (by decide +kernel), List.mem_of_getElem? (i := 1236) (by decide +kernel), List.mem_of_getElem? (i := 1237) (by decide +kernel)⟩
theorem lw_p61 : lw_okq (⟨"StandingPaymentsModel", "hasLeft", "(I)Z"⟩, 21) := ⟨⟨by decide +kernel, by decide +kernel⟩, List.mem_of_getElem? (i := 894) (by decide +kernel), List.mem_of_getElem? (i := 1240) (by decide +kernel), List.mem_of_getElem? (i := 1241) (by decide +kernel)⟩
theorem lw_p62 : lw_okq (⟨"StandingPaymentsModel", "sweeps", "(I)V"⟩, 21) := ⟨⟨by decide +kernel, by decide +kernel⟩, List.mem_of_getElem? (i := 894) (by decide +kernel), List.mem_of_getElem? (i := 1244) (by decide +kernel), List.mem_of_getElem? (i := 1245) (by decide +kernel)⟩
theorem lw_p63 : lw_okq (⟨"StandingPaymentsModel", "waitsFor", "(I)J"⟩, 21) := ⟨⟨by decide +kernel, by decide +kernel⟩, List.mem_of_getElem? (i := 894) (by decide +kernel), List.mem_of_getElem? (i := 1248) (by decide +kernel), List.mem_of_getElem? (i := 1249) (by decide +kernel)⟩
def lw_privs_4 : List (MethodName × Nat) := [(⟨"StandingPaymentsModel", "becomes", "(III)V"⟩, 21), (⟨"StandingPaymentsModel", "leavesOut", "(I)I"⟩, 21), (⟨"StandingPaymentsModel", "checksState", "(II)I"⟩, 21), (⟨"StandingPaymentsModel", "stops", "(I)I"⟩, 21), (⟨"StandingPaymentsModel", "waitsOf", "(I)I"⟩, 21), (⟨"StandingPaymentsModel", "partOf", "(II)I"⟩, 21), (⟨"StandingPaymentsModel", "goesOn", "(I)I"⟩, 21), (⟨"StandingPaymentsModel", "misses", "(I)V"⟩, 21), (⟨"StandingPaymentsModel", "removes", "(I)V"⟩, 21), (⟨"StandingPaymentsModel", "checksDays", "(I)I"⟩, 21), (⟨"StandingPaymentsModel", "passesDays", "(I)I"⟩, 21), (⟨"StandingPaymentsModel", "passesDay", "()V"⟩, 21), (⟨"StandingPaymentsModel", "comesDue", "(I)V"⟩, 21), (⟨"StandingPaymentsModel", "hasLeft", "(I)Z"⟩, 21), (⟨"StandingPaymentsModel", "sweeps", "(I)V"⟩, 21), (⟨"StandingPaymentsModel", "waitsFor", "(I)J"⟩, 21)]
theorem lw_r4 : ∀ q ∈ lw_privs_4, lw_okq q := List.forall_mem_cons.mpr ⟨lw_p48, List.forall_mem_cons.mpr ⟨lw_p49, List.forall_mem_cons.mpr ⟨lw_p50, List.forall_mem_cons.mpr ⟨lw_p51, List.forall_mem_cons.mpr ⟨lw_p52, List.forall_mem_cons.mpr ⟨lw_p53, List.forall_mem_cons.mpr ⟨lw_p54, List.forall_mem_cons.mpr ⟨lw_p55, List.forall_mem_cons.mpr ⟨lw_p56, List.forall_mem_cons.mpr ⟨lw_p57, List.forall_mem_cons.mpr ⟨lw_p58, List.forall_mem_cons.mpr ⟨lw_p59, List.forall_mem_cons.mpr ⟨lw_p60, List.forall_mem_cons.mpr ⟨lw_p61, List.forall_mem_cons.mpr ⟨lw_p62, List.forall_mem_cons.mpr ⟨lw_p63, fun _ h => absurd h List.not_mem_nil⟩⟩⟩⟩⟩⟩⟩⟩⟩⟩⟩⟩⟩⟩⟩⟩
theorem lw_p64 : lw_okq (⟨"StandingPaymentsModel", "paysAll", "()V"⟩, 21) := ⟨⟨by decide +kernel, by decide +kernel⟩, List.mem_of_getElem? (i := 894) (by decide +kernel), List.mem_of_getElem? (i := 1252) (by decide +kernel), List.mem_of_getElem? (i := 1253) (by decide +kernel)⟩
theorem lw_p65 : lw_okq (⟨"StandingPaymentsModel", "nextToTry", "()I"⟩, 21) := ⟨⟨by decide +kernel, by decide +kernel⟩, List.mem_of_getElem? (i := 894) (by decide +kernel), List.mem_of_getElem? (i := 1256) (by decide +kernel), List.mem_of_getElem? (i := 1257) (by decide +kernel)⟩
theorem lw_p66 : lw_okq (⟨"StandingPaymentsModel", "isAhead", "(II)Z"⟩, 21) := ⟨⟨by decide +kernel, by decide +kernel⟩, List.mem_of_getElem? (i := 894) (by decide +kernel), List.mem_of_getElem? (i := 1260) (by decide +kernel), List.mem_of_getElem? (i := 1261) (by decide +kernel)⟩
theorem lw_p67 : lw_okq (⟨"StandingPaymentsModel", "tries", "(I)V"⟩, 21) := ⟨⟨by decide +kernel, by decide +kernel⟩, List.mem_of_getElem? (i := 894) (by decide +kernel), List.mem_of_getElem? (i := 1264) (by decide +kernel), List.mem_of_getElem? (i := 1265) (by decide +kernel)⟩
theorem lw_p68 : lw_okq (⟨"StandingPaymentsModel", "owes", "(I)V"⟩, 21) := ⟨⟨by decide +kernel, by decide +kernel⟩, List.mem_of_getElem? (i := 894) (by decide +kernel), List.mem_of_getElem? (i := 1269) (by decide +kernel), List.mem_of_getElem? (i := 1270) (by decide +kernel)⟩
theorem lw_p69 : lw_okq (⟨"StandingPaymentsModel", "failsIn", "(II)I"⟩, 21) := ⟨⟨by decide +kernel, by decide +kernel⟩, List.mem_of_getElem? (i := 894) (by decide +kernel), List.mem_of_getElem? (i := 1314) (by decide +kernel), List.mem_of_getElem? (i := 1315) (by decide +kernel)⟩
theorem lw_p70 : lw_okq (⟨"StandingPaymentsModel", "passesAct", "()Z"⟩, 21) := ⟨⟨by decide +kernel, by decide +kernel⟩, List.mem_of_getElem? (i := 894) (by decide +kernel), List.mem_of_getElem? (i := 1343) (by decide +kernel), List.mem_of_getElem? (i := 1344) (by decide +kernel)⟩
theorem lw_p71 : lw_okq (⟨"StandingPaymentsModel", "passes", "(II)Z"⟩, 21) := ⟨⟨by decide +kernel, by decide +kernel⟩, List.mem_of_getElem? (i := 894) (by decide +kernel), List.mem_of_getElem? (i := 1347) (by decide +kernel), List.mem_of_getElem? (i := 1348) (by decide +kernel)⟩
theorem lw_p72 : lw_okq (⟨"StandingPaymentsModel", "passesNewOrder", "()Z"⟩, 21) := ⟨⟨by decide +kernel, by decide +kernel⟩, List.mem_of_getElem? (i := 894) (by decide +kernel), List.mem_of_getElem? (i := 1351) (by decide +kernel), List.mem_of_getElem? (i := 1352) (by decide +kernel)⟩
theorem lw_p73 : lw_okq (⟨"StandingPaymentsModel", "passesParties", "()Z"⟩, 21) := ⟨⟨by decide +kernel, by decide +kernel⟩, List.mem_of_getElem? (i := 894) (by decide +kernel), List.mem_of_getElem? (i := 1355) (by decide +kernel), List.mem_of_getElem? (i := 1356) (by decide +kernel)⟩
theorem lw_p74 : lw_okq (⟨"StandingPaymentsModel", "passesNumber", "()Z"⟩, 21) := ⟨⟨by decide +kernel, by decide +kernel⟩, List.mem_of_getElem? (i := 894) (by decide +kernel), List.mem_of_getElem? (i := 1359) (by decide +kernel), List.mem_of_getElem? (i := 1360) (by decide +kernel)⟩
theorem lw_p75 : lw_okq (⟨"StandingPaymentsModel", "isDigitHere", "()Z"⟩, 21) := ⟨⟨by decide +kernel, by decide +kernel⟩, List.mem_of_getElem? (i := 894) (by decide +kernel), List.mem_of_getElem? (i := 1363) (by decide +kernel), List.mem_of_getElem? (i := 1364) (by decide +kernel)⟩
theorem lw_p76 : lw_okq (⟨"StandingPaymentsModel", "passesOne", "(IIII)I"⟩, 21) := ⟨⟨by decide +kernel, by decide +kernel⟩, List.mem_of_getElem? (i := 894) (by decide +kernel), List.mem_of_getElem? (i := 1370) (by decide +kernel), List.mem_of_getElem? (i := 1371) (by decide +kernel)⟩
theorem lw_p77 : lw_okq (⟨"StandingPaymentsModel", "passesRule", "()Z"⟩, 21) := ⟨⟨by decide +kernel, by decide +kernel⟩, List.mem_of_getElem? (i := 894) (by decide +kernel), List.mem_of_getElem? (i := 1374) (by decide +kernel), List.mem_of_getElem? (i := 1375) (by decide +kernel)⟩
theorem lw_p78 : lw_okq (⟨"StandingPaymentsModel", "passesDeposit", "()Z"⟩, 21) := ⟨⟨by decide +kernel, by decide +kernel⟩, List.mem_of_getElem? (i := 894) (by decide +kernel), List.mem_of_getElem? (i := 1378) (by decide +kernel), List.mem_of_getElem? (i := 1379) (by decide +kernel)⟩
theorem lw_p79 : lw_okq (⟨"StandingPaymentsModel", "does", "()I"⟩, 21) := ⟨⟨by decide +kernel, by decide +kernel⟩, List.mem_of_getElem? (i := 894) (by decide +kernel), List.mem_of_getElem? (i := 1387) (by decide +kernel), List.mem_of_getElem? (i := 1388) (by decide +kernel)⟩
def lw_privs_5 : List (MethodName × Nat) := [(⟨"StandingPaymentsModel", "paysAll", "()V"⟩, 21), (⟨"StandingPaymentsModel", "nextToTry", "()I"⟩, 21), (⟨"StandingPaymentsModel", "isAhead", "(II)Z"⟩, 21), (⟨"StandingPaymentsModel", "tries", "(I)V"⟩, 21), (⟨"StandingPaymentsModel", "owes", "(I)V"⟩, 21), (⟨"StandingPaymentsModel", "failsIn", "(II)I"⟩, 21), (⟨"StandingPaymentsModel", "passesAct", "()Z"⟩, 21), (⟨"StandingPaymentsModel", "passes", "(II)Z"⟩, 21), (⟨"StandingPaymentsModel", "passesNewOrder", "()Z"⟩, 21), (⟨"StandingPaymentsModel", "passesParties", "()Z"⟩, 21), (⟨"StandingPaymentsModel", "passesNumber", "()Z"⟩, 21), (⟨"StandingPaymentsModel", "isDigitHere", "()Z"⟩, 21), (⟨"StandingPaymentsModel", "passesOne", "(IIII)I"⟩, 21), (⟨"StandingPaymentsModel", "passesRule", "()Z"⟩, 21), (⟨"StandingPaymentsModel", "passesDeposit", "()Z"⟩, 21), (⟨"StandingPaymentsModel", "does", "()I"⟩, 21)]
theorem lw_r5 : ∀ q ∈ lw_privs_5, lw_okq q := List.forall_mem_cons.mpr ⟨lw_p64, List.forall_mem_cons.mpr ⟨lw_p65, List.forall_mem_cons.mpr ⟨lw_p66, List.forall_mem_cons.mpr ⟨lw_p67, List.forall_mem_cons.mpr ⟨lw_p68, List.forall_mem_cons.mpr ⟨lw_p69, List.forall_mem_cons.mpr ⟨lw_p70, List.forall_mem_cons.mpr ⟨lw_p71, List.forall_mem_cons.mpr ⟨lw_p72, List.forall_mem_cons.mpr ⟨lw_p73, List.forall_mem_cons.mpr ⟨lw_p74, List.forall_mem_cons.mpr ⟨lw_p75, List.forall_mem_cons.mpr ⟨lw_p76, List.forall_mem_cons.mpr ⟨lw_p77, List.forall_mem_cons.mpr ⟨lw_p78, List.forall_mem_cons.mpr ⟨lw_p79, fun _ h => absurd h List.not_mem_nil⟩⟩⟩⟩⟩⟩⟩⟩⟩⟩⟩⟩⟩⟩⟩⟩
theorem lw_p80 : lw_okq (⟨"StandingPaymentsModel", "doesNewOrder", "()I"⟩, 21) := ⟨⟨by decide +kernel, by decide +kernel⟩, List.mem_of_getElem? (i := 894) (by decide +kernel), List.mem_of_getElem? (i := 1391) (by decide +kernel), List.mem_of_getElem? (i := 1392) (by decide +kernel)⟩
def lw_privs_6 : List (MethodName × Nat) := [(⟨"StandingPaymentsModel", "doesNewOrder", "()I"⟩, 21)]
theorem lw_r6 : ∀ q ∈ lw_privs_6, lw_okq q := List.forall_mem_cons.mpr ⟨lw_p80, fun _ h => absurd h List.not_mem_nil⟩
def lw_privs : List (MethodName × Nat) := lw_privs_1 ++ (lw_privs_2 ++ (lw_privs_3 ++ (lw_privs_4 ++ (lw_privs_5 ++ (lw_privs_6)))))
def lw_tbl : List Cond := k2_sels lw_privs ++ tables_1
theorem lw_privs_ok : ∀ q ∈ lw_privs, lw_okq q := by
  show ∀ q ∈ lw_privs_1 ++ (lw_privs_2 ++ (lw_privs_3 ++ (lw_privs_4 ++ (lw_privs_5 ++ (lw_privs_6))))), lw_okq q
  exact List.forall_mem_append.mpr ⟨lw_r1, List.forall_mem_append.mpr ⟨lw_r2, List.forall_mem_append.mpr ⟨lw_r3, List.forall_mem_append.mpr ⟨lw_r4, List.forall_mem_append.mpr ⟨lw_r5, lw_r6⟩⟩⟩⟩⟩
/-- the streams that the claim lets the run draw from -/
abbrev lw_cs : List Choice := [Jvm.Choice.named "NaN.bits"]
theorem lw_bits : nanBits ∈ lw_cs := by first | decide | exact List.mem_cons_self | simp [lw_cs, nanBits]
-- ===== end of PART A; then your names; then what follows =====
end
section
def RX0 : String := "StandingPayments$Account"
def TX0 : u_T := fun k => match k with
  | 0 => ("StandingPayments$Account", "overdraft", "I", false)
  | 1 => ("StandingPayments$Account", "keeps", "I", false)
  | 2 => ("StandingPayments$Account", "feeder", "I", false)
  | 3 => ("StandingPayments$Account", "balance", "J", false)
  | 4 => ("StandingPayments$Account", "paidIn", "J", false)
  | 5 => ("StandingPayments$Account", "paid", "J", false)
  | 6 => ("StandingPayments$Account", "got", "J", false)
  | 7 => ("StandingPayments$Account", "swept", "J", false)
  | 8 => ("StandingPayments$Account", "gave", "J", false)
  | 9 => ("StandingPayments$Account", "fees", "J", false)
  | 10 => ("StandingPayments$Account", "interest", "J", false)
  | 11 => ("StandingPayments$Account", "waits", "J", false)
  | _ => ("StandingPayments$Account", "owed", "D", false)
def tyX0 : Nat → FieldType := fun k => match k with
  | 0 => .int
  | 1 => .int
  | 2 => .int
  | 3 => .long
  | 4 => .long
  | 5 => .long
  | 6 => .long
  | 7 => .long
  | 8 => .long
  | 9 => .long
  | 10 => .long
  | 11 => .long
  | _ => .double
theorem nmX0 : ∀ a, a < 13 → ∀ b, b < 13 → a ≠ b → (TX0 a).2.1 ≠ (TX0 b).2.1 := by decide +kernel
theorem tyX0_ok : ∀ k, k < 13 → parseFieldDescriptor (TX0 k).2.2.1 = some (tyX0 k) := by decide +kernel
abbrev cX0_init : ByteArray := prog_2_method_1_code
def yX0_init : MethodName := ⟨RX0, "<init>", "()V"⟩
abbrev cX0_open : ByteArray := prog_2_method_2_code
def yX0_open : MethodName := ⟨RX0, "open", "(II)V"⟩
abbrev cX0_copyFrom : ByteArray := prog_2_method_3_code
def yX0_copyFrom : MethodName := ⟨RX0, "copyFrom", "(LStandingPayments$Account;)V"⟩
abbrev cX0_sumOf : ByteArray := prog_2_method_4_code
def yX0_sumOf : MethodName := ⟨RX0, "sumOf", "(I)J"⟩
abbrev cX0_takeInterest : ByteArray := prog_2_method_5_code
def yX0_takeInterest : MethodName := ⟨RX0, "takeInterest", "()V"⟩
def RX1 : String := "StandingPayments$Calendar"
def TX1 : u_T := fun k => match k with
  | 0 => ("StandingPayments$Calendar", "holidayBits", "[J", true)
  | 1 => ("StandingPayments$Calendar", "holidays", "I", false)
  | _ => ("StandingPayments$Calendar", "firstWeekday", "I", false)
def tyX1 : Nat → FieldType := fun k => match k with
  | 0 => .array .long
  | 1 => .int
  | _ => .int
theorem nmX1 : ∀ a, a < 3 → ∀ b, b < 3 → a ≠ b → (TX1 a).2.1 ≠ (TX1 b).2.1 := by decide +kernel
theorem tyX1_ok : ∀ k, k < 3 → parseFieldDescriptor (TX1 k).2.2.1 = some (tyX1 k) := by decide +kernel
abbrev cX1_init : ByteArray := prog_3_method_1_code
def yX1_init : MethodName := ⟨RX1, "<init>", "()V"⟩
abbrev cX1_copyFrom : ByteArray := prog_3_method_2_code
def yX1_copyFrom : MethodName := ⟨RX1, "copyFrom", "(LStandingPayments$Calendar;)V"⟩
abbrev cX1_monthOf : ByteArray := prog_3_method_3_code
def yX1_monthOf : MethodName := ⟨RX1, "monthOf", "(I)I"⟩
abbrev cX1_firstDayOf : ByteArray := prog_3_method_4_code
def yX1_firstDayOf : MethodName := ⟨RX1, "firstDayOf", "(I)I"⟩
abbrev cX1_lastDayOf : ByteArray := prog_3_method_5_code
def yX1_lastDayOf : MethodName := ⟨RX1, "lastDayOf", "(I)I"⟩
abbrev cX1_weekdayOf : ByteArray := prog_3_method_6_code
def yX1_weekdayOf : MethodName := ⟨RX1, "weekdayOf", "(I)I"⟩
abbrev cX1_isHoliday : ByteArray := prog_3_method_7_code
def yX1_isHoliday : MethodName := ⟨RX1, "isHoliday", "(I)Z"⟩
abbrev cX1_isBusiness : ByteArray := prog_3_method_8_code
def yX1_isBusiness : MethodName := ⟨RX1, "isBusiness", "(I)Z"⟩
abbrev cX1_nextBusiness : ByteArray := prog_3_method_9_code
def yX1_nextBusiness : MethodName := ⟨RX1, "nextBusiness", "(I)I"⟩
abbrev cX1_lastBusiness : ByteArray := prog_3_method_10_code
def yX1_lastBusiness : MethodName := ⟨RX1, "lastBusiness", "(I)I"⟩
abbrev cX1_shifted : ByteArray := prog_3_method_11_code
def yX1_shifted : MethodName := ⟨RX1, "shifted", "(II)I"⟩
abbrev cX1_mark : ByteArray := prog_3_method_12_code
def yX1_mark : MethodName := ⟨RX1, "mark", "(II)I"⟩
abbrev cX1_numberOf : ByteArray := prog_3_method_13_code
def yX1_numberOf : MethodName := ⟨RX1, "numberOf", "(II)I"⟩
def RX2 : String := "StandingPayments$House"
def TX2 : u_T := fun k => match k with
  | 0 => ("StandingPayments$House", "calendar", "LStandingPayments$Calendar;", true)
  | 1 => ("StandingPayments$House", "accounts", "[LStandingPayments$Account;", true)
  | 2 => ("StandingPayments$House", "orders", "[LStandingPayments$Order;", true)
  | 3 => ("StandingPayments$House", "waiting", "LStandingPayments$Waiting;", true)
  | 4 => ("StandingPayments$House", "accountCount", "I", false)
  | 5 => ("StandingPayments$House", "orderCount", "I", false)
  | 6 => ("StandingPayments$House", "today", "I", false)
  | 7 => ("StandingPayments$House", "tries", "I", false)
  | 8 => ("StandingPayments$House", "fee", "I", false)
  | 9 => ("StandingPayments$House", "rate", "I", false)
  | 10 => ("StandingPayments$House", "failedTries", "I", false)
  | _ => ("StandingPayments$House", "failedPayers", "I", false)
def tyX2 : Nat → FieldType := fun k => match k with
  | 0 => .object "StandingPayments$Calendar"
  | 1 => .array (.object "StandingPayments$Account")
  | 2 => .array (.object "StandingPayments$Order")
  | 3 => .object "StandingPayments$Waiting"
  | 4 => .int
  | 5 => .int
  | 6 => .int
  | 7 => .int
  | 8 => .int
  | 9 => .int
  | 10 => .int
  | _ => .int
theorem nmX2 : ∀ a, a < 12 → ∀ b, b < 12 → a ≠ b → (TX2 a).2.1 ≠ (TX2 b).2.1 := by decide +kernel
theorem tyX2_ok : ∀ k, k < 12 → parseFieldDescriptor (TX2 k).2.2.1 = some (tyX2 k) := by decide +kernel
abbrev cX2_init : ByteArray := prog_4_method_1_code
def yX2_init : MethodName := ⟨RX2, "<init>", "()V"⟩
abbrev cX2_copyFrom : ByteArray := prog_4_method_2_code
def yX2_copyFrom : MethodName := ⟨RX2, "copyFrom", "(LStandingPayments$House;)V"⟩
abbrev cX2_hasAccount : ByteArray := prog_4_method_3_code
def yX2_hasAccount : MethodName := ⟨RX2, "hasAccount", "(I)Z"⟩
abbrev cX2_hasOrder : ByteArray := prog_4_method_4_code
def yX2_hasOrder : MethodName := ⟨RX2, "hasOrder", "(I)Z"⟩
abbrev cX2_settingOf : ByteArray := prog_4_method_5_code
def yX2_settingOf : MethodName := ⟨RX2, "settingOf", "(I)I"⟩
abbrev cX2_replaceSetting : ByteArray := prog_4_method_6_code
def yX2_replaceSetting : MethodName := ⟨RX2, "replaceSetting", "(II)I"⟩
abbrev cX2_addAccount : ByteArray := prog_4_method_7_code
def yX2_addAccount : MethodName := ⟨RX2, "addAccount", "(II)I"⟩
abbrev cX2_nameFeeder : ByteArray := prog_4_method_8_code
def yX2_nameFeeder : MethodName := ⟨RX2, "nameFeeder", "(II)I"⟩
abbrev cX2_payIn : ByteArray := prog_4_method_9_code
def yX2_payIn : MethodName := ⟨RX2, "payIn", "(II)I"⟩
abbrev cX2_addOrder : ByteArray := prog_4_method_10_code
def yX2_addOrder : MethodName := ⟨RX2, "addOrder", "(IIIIII)I"⟩
abbrev cX2_areDates : ByteArray := prog_4_method_11_code
def yX2_areDates : MethodName := ⟨RX2, "areDates", "(I)Z"⟩
abbrev cX2_alterOrder : ByteArray := prog_4_method_12_code
def yX2_alterOrder : MethodName := ⟨RX2, "alterOrder", "(III)I"⟩
abbrev cX2_stopOrder : ByteArray := prog_4_method_13_code
def yX2_stopOrder : MethodName := ⟨RX2, "stopOrder", "(I)I"⟩
abbrev cX2_resumeOrder : ByteArray := prog_4_method_14_code
def yX2_resumeOrder : MethodName := ⟨RX2, "resumeOrder", "(I)I"⟩
abbrev cX2_dropPayment : ByteArray := prog_4_method_15_code
def yX2_dropPayment : MethodName := ⟨RX2, "dropPayment", "(I)I"⟩
abbrev cX2_nextNominalDay : ByteArray := prog_4_method_16_code
def yX2_nextNominalDay : MethodName := ⟨RX2, "nextNominalDay", "(I)I"⟩
abbrev cX2_numberOf : ByteArray := prog_4_method_17_code
def yX2_numberOf : MethodName := ⟨RX2, "numberOf", "(I)I"⟩
abbrev cX2_sumOverOrders : ByteArray := prog_4_method_18_code
def yX2_sumOverOrders : MethodName := ⟨RX2, "sumOverOrders", "(I)I"⟩
abbrev cX2_errorOfDays : ByteArray := prog_4_method_19_code
def yX2_errorOfDays : MethodName := ⟨RX2, "errorOfDays", "(I)I"⟩
abbrev cX2_passDays : ByteArray := prog_4_method_20_code
def yX2_passDays : MethodName := ⟨RX2, "passDays", "(II)I"⟩
abbrev cX2_makePaymentsDue : ByteArray := prog_4_method_21_code
def yX2_makePaymentsDue : MethodName := ⟨RX2, "makePaymentsDue", "()V"⟩
abbrev cX2_takeNextOccurrence : ByteArray := prog_4_method_22_code
def yX2_takeNextOccurrence : MethodName := ⟨RX2, "takeNextOccurrence", "(I)V"⟩
abbrev cX2_sweep : ByteArray := prog_4_method_23_code
def yX2_sweep : MethodName := ⟨RX2, "sweep", "()V"⟩
abbrev cX2_payWaiting : ByteArray := prog_4_method_24_code
def yX2_payWaiting : MethodName := ⟨RX2, "payWaiting", "()V"⟩
abbrev cX2_payWaitingOf : ByteArray := prog_4_method_25_code
def yX2_payWaitingOf : MethodName := ⟨RX2, "payWaitingOf", "(I)V"⟩
abbrev cX2_tryPayment : ByteArray := prog_4_method_26_code
def yX2_tryPayment : MethodName := ⟨RX2, "tryPayment", "(I)V"⟩
abbrev cX2_failTry : ByteArray := prog_4_method_27_code
def yX2_failTry : MethodName := ⟨RX2, "failTry", "(I)V"⟩
abbrev cX2_settle : ByteArray := prog_4_method_28_code
def yX2_settle : MethodName := ⟨RX2, "settle", "(I)V"⟩
abbrev cX2_chargeInterest : ByteArray := prog_4_method_29_code
def yX2_chargeInterest : MethodName := ⟨RX2, "chargeInterest", "()V"⟩
def RX3 : String := "StandingPayments$Order"
def TX3 : u_T := fun k => match k with
  | 0 => ("StandingPayments$Order", "payer", "I", false)
  | 1 => ("StandingPayments$Order", "getter", "I", false)
  | 2 => ("StandingPayments$Order", "amount", "I", false)
  | 3 => ("StandingPayments$Order", "kind", "I", false)
  | 4 => ("StandingPayments$Order", "step", "I", false)
  | 5 => ("StandingPayments$Order", "dayOfMonth", "I", false)
  | 6 => ("StandingPayments$Order", "first", "I", false)
  | 7 => ("StandingPayments$Order", "rule", "I", false)
  | 8 => ("StandingPayments$Order", "priority", "I", false)
  | 9 => ("StandingPayments$Order", "isEndless", "Z", false)
  | 10 => ("StandingPayments$Order", "left", "I", false)
  | 11 => ("StandingPayments$Order", "state", "I", false)
  | 12 => ("StandingPayments$Order", "made", "I", false)
  | 13 => ("StandingPayments$Order", "missed", "I", false)
  | 14 => ("StandingPayments$Order", "skipped", "I", false)
  | 15 => ("StandingPayments$Order", "waiting", "I", false)
  | 16 => ("StandingPayments$Order", "from", "I", false)
  | 17 => ("StandingPayments$Order", "nextIndex", "I", false)
  | 18 => ("StandingPayments$Order", "nextDay", "I", false)
  | _ => ("StandingPayments$Order", "nextDate", "I", false)
def tyX3 : Nat → FieldType := fun k => match k with
  | 0 => .int
  | 1 => .int
  | 2 => .int
  | 3 => .int
  | 4 => .int
  | 5 => .int
  | 6 => .int
  | 7 => .int
  | 8 => .int
  | 9 => .boolean
  | 10 => .int
  | 11 => .int
  | 12 => .int
  | 13 => .int
  | 14 => .int
  | 15 => .int
  | 16 => .int
  | 17 => .int
  | 18 => .int
  | _ => .int
theorem nmX3 : ∀ a, a < 20 → ∀ b, b < 20 → a ≠ b → (TX3 a).2.1 ≠ (TX3 b).2.1 := by decide +kernel
theorem tyX3_ok : ∀ k, k < 20 → parseFieldDescriptor (TX3 k).2.2.1 = some (tyX3 k) := by decide +kernel
abbrev cX3_init : ByteArray := prog_5_method_1_code
def yX3_init : MethodName := ⟨RX3, "<init>", "()V"⟩
abbrev cX3_begin : ByteArray := prog_5_method_2_code
def yX3_begin : MethodName := ⟨RX3, "begin", "(IIIIII)V"⟩
abbrev cX3_copyFrom : ByteArray := prog_5_method_3_code
def yX3_copyFrom : MethodName := ⟨RX3, "copyFrom", "(LStandingPayments$Order;)V"⟩
abbrev cX3_nominalDay : ByteArray := prog_5_method_4_code
def yX3_nominalDay : MethodName := ⟨RX3, "nominalDay", "(ILStandingPayments$Calendar;)I"⟩
abbrev cX3_aim : ByteArray := prog_5_method_5_code
def yX3_aim : MethodName := ⟨RX3, "aim", "(LStandingPayments$Calendar;)V"⟩
abbrev cX3_hasPaymentsLeft : ByteArray := prog_5_method_6_code
def yX3_hasPaymentsLeft : MethodName := ⟨RX3, "hasPaymentsLeft", "()Z"⟩
abbrev cX3_leaveOutBefore : ByteArray := prog_5_method_7_code
def yX3_leaveOutBefore : MethodName := ⟨RX3, "leaveOutBefore", "(ILStandingPayments$Calendar;)I"⟩
abbrev cX3_dateBehindNext : ByteArray := prog_5_method_8_code
def yX3_dateBehindNext : MethodName := ⟨RX3, "dateBehindNext", "(ILStandingPayments$Calendar;)I"⟩
abbrev cX3_numberOf : ByteArray := prog_5_method_9_code
def yX3_numberOf : MethodName := ⟨RX3, "numberOf", "(I)I"⟩
def RX4 : String := "StandingPayments$Pad"
def TX4 : u_T := fun k => match k with
  | 0 => ("StandingPayments$Pad", "signs", "[C", true)
  | 1 => ("StandingPayments$Pad", "length", "I", false)
  | 2 => ("StandingPayments$Pad", "at", "I", false)
  | 3 => ("StandingPayments$Pad", "verb", "C", false)
  | 4 => ("StandingPayments$Pad", "party", "I", false)
  | 5 => ("StandingPayments$Pad", "getter", "I", false)
  | 6 => ("StandingPayments$Pad", "number", "I", false)
  | 7 => ("StandingPayments$Pad", "kind", "I", false)
  | 8 => ("StandingPayments$Pad", "step", "I", false)
  | 9 => ("StandingPayments$Pad", "dayOfMonth", "I", false)
  | _ => ("StandingPayments$Pad", "rule", "I", false)
def tyX4 : Nat → FieldType := fun k => match k with
  | 0 => .array .char
  | 1 => .int
  | 2 => .int
  | 3 => .char
  | 4 => .int
  | 5 => .int
  | 6 => .int
  | 7 => .int
  | 8 => .int
  | 9 => .int
  | _ => .int
theorem nmX4 : ∀ a, a < 11 → ∀ b, b < 11 → a ≠ b → (TX4 a).2.1 ≠ (TX4 b).2.1 := by decide +kernel
theorem tyX4_ok : ∀ k, k < 11 → parseFieldDescriptor (TX4 k).2.2.1 = some (tyX4 k) := by decide +kernel
abbrev cX4_init : ByteArray := prog_6_method_1_code
def yX4_init : MethodName := ⟨RX4, "<init>", "()V"⟩
abbrev cX4_append : ByteArray := prog_6_method_2_code
def yX4_append : MethodName := ⟨RX4, "append", "(J)I"⟩
abbrev cX4_isSound : ByteArray := prog_6_method_3_code
def yX4_isSound : MethodName := ⟨RX4, "isSound", "()Z"⟩
abbrev cX4_readAct : ByteArray := prog_6_method_4_code
def yX4_readAct : MethodName := ⟨RX4, "readAct", "()Z"⟩
abbrev cX4_readParties : ByteArray := prog_6_method_5_code
def yX4_readParties : MethodName := ⟨RX4, "readParties", "()Z"⟩
abbrev cX4_readAmountAndDates : ByteArray := prog_6_method_6_code
def yX4_readAmountAndDates : MethodName := ⟨RX4, "readAmountAndDates", "()Z"⟩
abbrev cX4_sign : ByteArray := prog_6_method_7_code
def yX4_sign : MethodName := ⟨RX4, "sign", "()C"⟩
abbrev cX4_takes : ByteArray := prog_6_method_8_code
def yX4_takes : MethodName := ⟨RX4, "takes", "(C)Z"⟩
abbrev cX4_readOneOf : ByteArray := prog_6_method_9_code
def yX4_readOneOf : MethodName := ⟨RX4, "readOneOf", "(Ljava/lang/String;)I"⟩
abbrev cX4_readDigit : ByteArray := prog_6_method_10_code
def yX4_readDigit : MethodName := ⟨RX4, "readDigit", "()I"⟩
abbrev cX4_readNumber : ByteArray := prog_6_method_11_code
def yX4_readNumber : MethodName := ⟨RX4, "readNumber", "()I"⟩
def RX5 : String := "StandingPayments$Waiting"
def TX5 : u_T := fun k => match k with
  | 0 => ("StandingPayments$Waiting", "columns", "[[I", true)
  | 1 => ("StandingPayments$Waiting", "room", "I", false)
  | _ => ("StandingPayments$Waiting", "size", "I", false)
def tyX5 : Nat → FieldType := fun k => match k with
  | 0 => .array (.array .int)
  | 1 => .int
  | _ => .int
theorem nmX5 : ∀ a, a < 3 → ∀ b, b < 3 → a ≠ b → (TX5 a).2.1 ≠ (TX5 b).2.1 := by decide +kernel
theorem tyX5_ok : ∀ k, k < 3 → parseFieldDescriptor (TX5 k).2.2.1 = some (tyX5 k) := by decide +kernel
abbrev cX5_init : ByteArray := prog_7_method_1_code
def yX5_init : MethodName := ⟨RX5, "<init>", "()V"⟩
abbrev cX5_copyFrom : ByteArray := prog_7_method_2_code
def yX5_copyFrom : MethodName := ⟨RX5, "copyFrom", "(LStandingPayments$Waiting;)V"⟩
abbrev cX5_makeRoom : ByteArray := prog_7_method_3_code
def yX5_makeRoom : MethodName := ⟨RX5, "makeRoom", "(I)V"⟩
abbrev cX5_add : ByteArray := prog_7_method_4_code
def yX5_add : MethodName := ⟨RX5, "add", "(IIII)Z"⟩
abbrev cX5_dropSettled : ByteArray := prog_7_method_5_code
def yX5_dropSettled : MethodName := ⟨RX5, "dropSettled", "()V"⟩
def RX6 : String := "StandingPayments"
def TX6 : u_T := fun k => match k with
  | 0 => ("StandingPayments", "house", "LStandingPayments$House;", true)
  | 1 => ("StandingPayments", "trial", "LStandingPayments$House;", true)
  | 2 => ("StandingPayments", "history", "[LStandingPayments$House;", true)
  | 3 => ("StandingPayments", "oldestChange", "I", false)
  | 4 => ("StandingPayments", "changes", "I", false)
  | 5 => ("StandingPayments", "slots", "[LStandingPayments$House;", true)
  | 6 => ("StandingPayments", "isSaved", "[Z", true)
  | _ => ("StandingPayments", "pad", "LStandingPayments$Pad;", true)
def tyX6 : Nat → FieldType := fun k => match k with
  | 0 => .object "StandingPayments$House"
  | 1 => .object "StandingPayments$House"
  | 2 => .array (.object "StandingPayments$House")
  | 3 => .int
  | 4 => .int
  | 5 => .array (.object "StandingPayments$House")
  | 6 => .array .boolean
  | _ => .object "StandingPayments$Pad"
theorem nmX6 : ∀ a, a < 8 → ∀ b, b < 8 → a ≠ b → (TX6 a).2.1 ≠ (TX6 b).2.1 := by decide +kernel
theorem tyX6_ok : ∀ k, k < 8 → parseFieldDescriptor (TX6 k).2.2.1 = some (tyX6 k) := by decide +kernel
abbrev cX6_init : ByteArray := prog_1_method_1_code
def yX6_init : MethodName := ⟨RX6, "<init>", "()V"⟩
abbrev cX6_set : ByteArray := prog_1_method_2_code
def yX6_set : MethodName := ⟨RX6, "set", "(II)I"⟩
abbrev cX6_holiday : ByteArray := prog_1_method_3_code
def yX6_holiday : MethodName := ⟨RX6, "holiday", "(II)I"⟩
abbrev cX6_account : ByteArray := prog_1_method_4_code
def yX6_account : MethodName := ⟨RX6, "account", "(II)I"⟩
abbrev cX6_feed : ByteArray := prog_1_method_5_code
def yX6_feed : MethodName := ⟨RX6, "feed", "(II)I"⟩
abbrev cX6_deposit : ByteArray := prog_1_method_6_code
def yX6_deposit : MethodName := ⟨RX6, "deposit", "(II)I"⟩
abbrev cX6_order : ByteArray := prog_1_method_7_code
def yX6_order : MethodName := ⟨RX6, "order", "(IIIIII)I"⟩
abbrev cX6_change : ByteArray := prog_1_method_8_code
def yX6_change : MethodName := ⟨RX6, "change", "(III)I"⟩
abbrev cX6_stop : ByteArray := prog_1_method_9_code
def yX6_stop : MethodName := ⟨RX6, "stop", "(I)I"⟩
abbrev cX6_goOn : ByteArray := prog_1_method_10_code
def yX6_goOn : MethodName := ⟨RX6, "goOn", "(I)I"⟩
abbrev cX6_giveUp : ByteArray := prog_1_method_11_code
def yX6_giveUp : MethodName := ⟨RX6, "giveUp", "(I)I"⟩
abbrev cX6_days : ByteArray := prog_1_method_12_code
def yX6_days : MethodName := ⟨RX6, "days", "(I)I"⟩
abbrev cX6_ofDay : ByteArray := prog_1_method_13_code
def yX6_ofDay : MethodName := ⟨RX6, "ofDay", "(II)I"⟩
abbrev cX6_money : ByteArray := prog_1_method_14_code
def yX6_money : MethodName := ⟨RX6, "money", "(II)J"⟩
abbrev cX6_owedBits : ByteArray := prog_1_method_15_code
def yX6_owedBits : MethodName := ⟨RX6, "owedBits", "(I)J"⟩
abbrev cX6_ofOrder : ByteArray := prog_1_method_16_code
def yX6_ofOrder : MethodName := ⟨RX6, "ofOrder", "(II)I"⟩
abbrev cX6_ofPayment : ByteArray := prog_1_method_17_code
def yX6_ofPayment : MethodName := ⟨RX6, "ofPayment", "(II)I"⟩
abbrev cX6_count : ByteArray := prog_1_method_18_code
def yX6_count : MethodName := ⟨RX6, "count", "(I)I"⟩
abbrev cX6_dateOf : ByteArray := prog_1_method_19_code
def yX6_dateOf : MethodName := ⟨RX6, "dateOf", "(II)I"⟩
abbrev cX6_shift : ByteArray := prog_1_method_20_code
def yX6_shift : MethodName := ⟨RX6, "shift", "(II)I"⟩
abbrev cX6_balanceIn : ByteArray := prog_1_method_21_code
def yX6_balanceIn : MethodName := ⟨RX6, "balanceIn", "(II)J"⟩
abbrev cX6_firstFailure : ByteArray := prog_1_method_22_code
def yX6_firstFailure : MethodName := ⟨RX6, "firstFailure", "(I)I"⟩
abbrev cX6_leastDeposit : ByteArray := prog_1_method_23_code
def yX6_leastDeposit : MethodName := ⟨RX6, "leastDeposit", "(II)I"⟩
abbrev cX6_ahead : ByteArray := prog_1_method_24_code
def yX6_ahead : MethodName := ⟨RX6, "ahead", "(III)I"⟩
abbrev cX6_put : ByteArray := prog_1_method_25_code
def yX6_put : MethodName := ⟨RX6, "put", "(J)I"⟩
abbrev cX6_wipe : ByteArray := prog_1_method_26_code
def yX6_wipe : MethodName := ⟨RX6, "wipe", "()I"⟩
abbrev cX6_fault : ByteArray := prog_1_method_27_code
def yX6_fault : MethodName := ⟨RX6, "fault", "()I"⟩
abbrev cX6_carryOut : ByteArray := prog_1_method_28_code
def yX6_carryOut : MethodName := ⟨RX6, "carryOut", "()I"⟩
abbrev cX6_undo : ByteArray := prog_1_method_29_code
def yX6_undo : MethodName := ⟨RX6, "undo", "()I"⟩
abbrev cX6_save : ByteArray := prog_1_method_30_code
def yX6_save : MethodName := ⟨RX6, "save", "(I)I"⟩
abbrev cX6_restore : ByteArray := prog_1_method_31_code
def yX6_restore : MethodName := ⟨RX6, "restore", "(I)I"⟩
abbrev cX6_remember : ByteArray := prog_1_method_32_code
def yX6_remember : MethodName := ⟨RX6, "remember", "()V"⟩
abbrev cX6_recorded : ByteArray := prog_1_method_33_code
def yX6_recorded : MethodName := ⟨RX6, "recorded", "(I)I"⟩
abbrev cX6_rowBehindLatest : ByteArray := prog_1_method_34_code
def yX6_rowBehindLatest : MethodName := ⟨RX6, "rowBehindLatest", "()I"⟩
abbrev cX6_perform : ByteArray := prog_1_method_35_code
def yX6_perform : MethodName := ⟨RX6, "perform", "(LStandingPayments$Pad;)I"⟩
abbrev cX6_isBetween : ByteArray := prog_1_method_36_code
def yX6_isBetween : MethodName := ⟨RX6, "isBetween", "(III)Z"⟩
abbrev cX6_isError : ByteArray := prog_1_method_37_code
def yX6_isError : MethodName := ⟨RX6, "isError", "(I)Z"⟩
abbrev cX6_bitsOf : ByteArray := prog_1_method_38_code
def yX6_bitsOf : MethodName := ⟨RX6, "bitsOf", "(D)J"⟩
def RX7 : String := "StandingPaymentsModel"
def TX7 : u_T := fun k => match k with
  | 0 => ("StandingPaymentsModel", "now", "[J", true)
  | 1 => ("StandingPaymentsModel", "owed", "[D", true)
  | 2 => ("StandingPaymentsModel", "waits", "[J", true)
  | 3 => ("StandingPaymentsModel", "kept", "[J", true)
  | 4 => ("StandingPaymentsModel", "keptOwed", "[D", true)
  | 5 => ("StandingPaymentsModel", "keptWaits", "[J", true)
  | 6 => ("StandingPaymentsModel", "isSaved", "[I", true)
  | 7 => ("StandingPaymentsModel", "states", "I", false)
  | 8 => ("StandingPaymentsModel", "failedNow", "I", false)
  | 9 => ("StandingPaymentsModel", "pad", "[I", true)
  | 10 => ("StandingPaymentsModel", "padLength", "I", false)
  | 11 => ("StandingPaymentsModel", "at", "I", false)
  | 12 => ("StandingPaymentsModel", "value", "I", false)
  | 13 => ("StandingPaymentsModel", "act", "I", false)
  | 14 => ("StandingPaymentsModel", "who", "I", false)
  | 15 => ("StandingPaymentsModel", "whom", "I", false)
  | 16 => ("StandingPaymentsModel", "number", "I", false)
  | 17 => ("StandingPaymentsModel", "orderKind", "I", false)
  | 18 => ("StandingPaymentsModel", "step", "I", false)
  | 19 => ("StandingPaymentsModel", "monthDay", "I", false)
  | _ => ("StandingPaymentsModel", "rule", "I", false)
def tyX7 : Nat → FieldType := fun k => match k with
  | 0 => .array .long
  | 1 => .array .double
  | 2 => .array .long
  | 3 => .array .long
  | 4 => .array .double
  | 5 => .array .long
  | 6 => .array .int
  | 7 => .int
  | 8 => .int
  | 9 => .array .int
  | 10 => .int
  | 11 => .int
  | 12 => .int
  | 13 => .int
  | 14 => .int
  | 15 => .int
  | 16 => .int
  | 17 => .int
  | 18 => .int
  | 19 => .int
  | _ => .int
theorem nmX7 : ∀ a, a < 21 → ∀ b, b < 21 → a ≠ b → (TX7 a).2.1 ≠ (TX7 b).2.1 := by decide +kernel
theorem tyX7_ok : ∀ k, k < 21 → parseFieldDescriptor (TX7 k).2.2.1 = some (tyX7 k) := by decide +kernel
abbrev cX7_init : ByteArray := prog_9_method_1_code
def yX7_init : MethodName := ⟨RX7, "<init>", "()V"⟩
abbrev cX7_isIn : ByteArray := prog_9_method_2_code
def yX7_isIn : MethodName := ⟨RX7, "isIn", "(JJJ)Z"⟩
abbrev cX7_of : ByteArray := prog_9_method_3_code
def yX7_of : MethodName := ⟨RX7, "of", "(I)I"⟩
abbrev cX7_today : ByteArray := prog_9_method_4_code
def yX7_today : MethodName := ⟨RX7, "today", "()I"⟩
abbrev cX7_isAccount : ByteArray := prog_9_method_5_code
def yX7_isAccount : MethodName := ⟨RX7, "isAccount", "(I)Z"⟩
abbrev cX7_isOrder : ByteArray := prog_9_method_6_code
def yX7_isOrder : MethodName := ⟨RX7, "isOrder", "(I)Z"⟩
abbrev cX7_ofA : ByteArray := prog_9_method_7_code
def yX7_ofA : MethodName := ⟨RX7, "ofA", "(II)I"⟩
abbrev cX7_moneyOf : ByteArray := prog_9_method_8_code
def yX7_moneyOf : MethodName := ⟨RX7, "moneyOf", "(II)J"⟩
abbrev cX7_moves : ByteArray := prog_9_method_9_code
def yX7_moves : MethodName := ⟨RX7, "moves", "(IIJ)V"⟩
abbrev cX7_ofO : ByteArray := prog_9_method_10_code
def yX7_ofO : MethodName := ⟨RX7, "ofO", "(II)I"⟩
abbrev cX7_becomes : ByteArray := prog_9_method_11_code
def yX7_becomes : MethodName := ⟨RX7, "becomes", "(III)V"⟩
abbrev cX7_keeps : ByteArray := prog_9_method_12_code
def yX7_keeps : MethodName := ⟨RX7, "keeps", "(I)V"⟩
abbrev cX7_brings : ByteArray := prog_9_method_13_code
def yX7_brings : MethodName := ⟨RX7, "brings", "(I)V"⟩
abbrev cX7_drops : ByteArray := prog_9_method_14_code
def yX7_drops : MethodName := ⟨RX7, "drops", "()V"⟩
abbrev cX7_records : ByteArray := prog_9_method_15_code
def yX7_records : MethodName := ⟨RX7, "records", "()V"⟩
abbrev cX7_undo : ByteArray := prog_9_method_16_code
def yX7_undo : MethodName := ⟨RX7, "undo", "()I"⟩
abbrev cX7_save : ByteArray := prog_9_method_17_code
def yX7_save : MethodName := ⟨RX7, "save", "(I)I"⟩
abbrev cX7_restore : ByteArray := prog_9_method_18_code
def yX7_restore : MethodName := ⟨RX7, "restore", "(I)I"⟩
abbrev cX7_isDay : ByteArray := prog_9_method_19_code
def yX7_isDay : MethodName := ⟨RX7, "isDay", "(I)Z"⟩
abbrev cX7_monthLength : ByteArray := prog_9_method_20_code
def yX7_monthLength : MethodName := ⟨RX7, "monthLength", "(I)I"⟩
abbrev cX7_monthStart : ByteArray := prog_9_method_21_code
def yX7_monthStart : MethodName := ⟨RX7, "monthStart", "(I)I"⟩
abbrev cX7_monthOf : ByteArray := prog_9_method_22_code
def yX7_monthOf : MethodName := ⟨RX7, "monthOf", "(I)I"⟩
abbrev cX7_weekdayOf : ByteArray := prog_9_method_23_code
def yX7_weekdayOf : MethodName := ⟨RX7, "weekdayOf", "(I)I"⟩
abbrev cX7_isHoliday : ByteArray := prog_9_method_24_code
def yX7_isHoliday : MethodName := ⟨RX7, "isHoliday", "(I)Z"⟩
abbrev cX7_isBusiness : ByteArray := prog_9_method_25_code
def yX7_isBusiness : MethodName := ⟨RX7, "isBusiness", "(I)Z"⟩
abbrev cX7_nextBusiness : ByteArray := prog_9_method_26_code
def yX7_nextBusiness : MethodName := ⟨RX7, "nextBusiness", "(I)I"⟩
abbrev cX7_lastBusiness : ByteArray := prog_9_method_27_code
def yX7_lastBusiness : MethodName := ⟨RX7, "lastBusiness", "(I)I"⟩
abbrev cX7_ofDay : ByteArray := prog_9_method_28_code
def yX7_ofDay : MethodName := ⟨RX7, "ofDay", "(II)I"⟩
abbrev cX7_shifted : ByteArray := prog_9_method_29_code
def yX7_shifted : MethodName := ⟨RX7, "shifted", "(II)I"⟩
abbrev cX7_shift : ByteArray := prog_9_method_30_code
def yX7_shift : MethodName := ⟨RX7, "shift", "(II)I"⟩
abbrev cX7_isSetting : ByteArray := prog_9_method_31_code
def yX7_isSetting : MethodName := ⟨RX7, "isSetting", "(II)Z"⟩
abbrev cX7_set : ByteArray := prog_9_method_32_code
def yX7_set : MethodName := ⟨RX7, "set", "(II)I"⟩
abbrev cX7_holiday : ByteArray := prog_9_method_33_code
def yX7_holiday : MethodName := ⟨RX7, "holiday", "(II)I"⟩
abbrev cX7_account : ByteArray := prog_9_method_34_code
def yX7_account : MethodName := ⟨RX7, "account", "(II)I"⟩
abbrev cX7_feed : ByteArray := prog_9_method_35_code
def yX7_feed : MethodName := ⟨RX7, "feed", "(II)I"⟩
abbrev cX7_checksDeposit : ByteArray := prog_9_method_36_code
def yX7_checksDeposit : MethodName := ⟨RX7, "checksDeposit", "(II)I"⟩
abbrev cX7_deposits : ByteArray := prog_9_method_37_code
def yX7_deposits : MethodName := ⟨RX7, "deposits", "(II)I"⟩
abbrev cX7_deposit : ByteArray := prog_9_method_38_code
def yX7_deposit : MethodName := ⟨RX7, "deposit", "(II)I"⟩
abbrev cX7_nominal : ByteArray := prog_9_method_39_code
def yX7_nominal : MethodName := ⟨RX7, "nominal", "(II)I"⟩
abbrev cX7_dayIn : ByteArray := prog_9_method_40_code
def yX7_dayIn : MethodName := ⟨RX7, "dayIn", "(II)I"⟩
abbrev cX7_lastOf : ByteArray := prog_9_method_41_code
def yX7_lastOf : MethodName := ⟨RX7, "lastOf", "(I)I"⟩
abbrev cX7_occurrence : ByteArray := prog_9_method_42_code
def yX7_occurrence : MethodName := ⟨RX7, "occurrence", "(II)I"⟩
abbrev cX7_dateBy : ByteArray := prog_9_method_43_code
def yX7_dateBy : MethodName := ⟨RX7, "dateBy", "(II)I"⟩
abbrev cX7_leavesOut : ByteArray := prog_9_method_44_code
def yX7_leavesOut : MethodName := ⟨RX7, "leavesOut", "(I)I"⟩
abbrev cX7_hasLeft : ByteArray := prog_9_method_45_code
def yX7_hasLeft : MethodName := ⟨RX7, "hasLeft", "(I)Z"⟩
abbrev cX7_dateOf : ByteArray := prog_9_method_46_code
def yX7_dateOf : MethodName := ⟨RX7, "dateOf", "(II)I"⟩
abbrev cX7_checksOrder : ByteArray := prog_9_method_47_code
def yX7_checksOrder : MethodName := ⟨RX7, "checksOrder", "(IIIIII)I"⟩
abbrev cX7_makes : ByteArray := prog_9_method_48_code
def yX7_makes : MethodName := ⟨RX7, "makes", "(IIIIII)I"⟩
abbrev cX7_order : ByteArray := prog_9_method_49_code
def yX7_order : MethodName := ⟨RX7, "order", "(IIIIII)I"⟩
abbrev cX7_change : ByteArray := prog_9_method_50_code
def yX7_change : MethodName := ⟨RX7, "change", "(III)I"⟩
abbrev cX7_partOf : ByteArray := prog_9_method_51_code
def yX7_partOf : MethodName := ⟨RX7, "partOf", "(II)I"⟩
abbrev cX7_waitsOf : ByteArray := prog_9_method_52_code
def yX7_waitsOf : MethodName := ⟨RX7, "waitsOf", "(I)I"⟩
abbrev cX7_checksState : ByteArray := prog_9_method_53_code
def yX7_checksState : MethodName := ⟨RX7, "checksState", "(II)I"⟩
abbrev cX7_stops : ByteArray := prog_9_method_54_code
def yX7_stops : MethodName := ⟨RX7, "stops", "(I)I"⟩
abbrev cX7_stop : ByteArray := prog_9_method_55_code
def yX7_stop : MethodName := ⟨RX7, "stop", "(I)I"⟩
abbrev cX7_goesOn : ByteArray := prog_9_method_56_code
def yX7_goesOn : MethodName := ⟨RX7, "goesOn", "(I)I"⟩
abbrev cX7_goOn : ByteArray := prog_9_method_57_code
def yX7_goOn : MethodName := ⟨RX7, "goOn", "(I)I"⟩
abbrev cX7_removes : ByteArray := prog_9_method_58_code
def yX7_removes : MethodName := ⟨RX7, "removes", "(I)V"⟩
abbrev cX7_misses : ByteArray := prog_9_method_59_code
def yX7_misses : MethodName := ⟨RX7, "misses", "(I)V"⟩
abbrev cX7_giveUp : ByteArray := prog_9_method_60_code
def yX7_giveUp : MethodName := ⟨RX7, "giveUp", "(I)I"⟩
abbrev cX7_comesDue : ByteArray := prog_9_method_61_code
def yX7_comesDue : MethodName := ⟨RX7, "comesDue", "(I)V"⟩
abbrev cX7_waitsFor : ByteArray := prog_9_method_62_code
def yX7_waitsFor : MethodName := ⟨RX7, "waitsFor", "(I)J"⟩
abbrev cX7_sweeps : ByteArray := prog_9_method_63_code
def yX7_sweeps : MethodName := ⟨RX7, "sweeps", "(I)V"⟩
abbrev cX7_isAhead : ByteArray := prog_9_method_64_code
def yX7_isAhead : MethodName := ⟨RX7, "isAhead", "(II)Z"⟩
abbrev cX7_nextToTry : ByteArray := prog_9_method_65_code
def yX7_nextToTry : MethodName := ⟨RX7, "nextToTry", "()I"⟩
abbrev cX7_tries : ByteArray := prog_9_method_66_code
def yX7_tries : MethodName := ⟨RX7, "tries", "(I)V"⟩
abbrev cX7_paysAll : ByteArray := prog_9_method_67_code
def yX7_paysAll : MethodName := ⟨RX7, "paysAll", "()V"⟩
abbrev cX7_owes : ByteArray := prog_9_method_68_code
def yX7_owes : MethodName := ⟨RX7, "owes", "(I)V"⟩
abbrev cX7_passesDay : ByteArray := prog_9_method_69_code
def yX7_passesDay : MethodName := ⟨RX7, "passesDay", "()V"⟩
abbrev cX7_checksDays : ByteArray := prog_9_method_70_code
def yX7_checksDays : MethodName := ⟨RX7, "checksDays", "(I)I"⟩
abbrev cX7_passesDays : ByteArray := prog_9_method_71_code
def yX7_passesDays : MethodName := ⟨RX7, "passesDays", "(I)I"⟩
abbrev cX7_days : ByteArray := prog_9_method_72_code
def yX7_days : MethodName := ⟨RX7, "days", "(I)I"⟩
abbrev cX7_money : ByteArray := prog_9_method_73_code
def yX7_money : MethodName := ⟨RX7, "money", "(II)J"⟩
abbrev cX7_bitsOf : ByteArray := prog_9_method_74_code
def yX7_bitsOf : MethodName := ⟨RX7, "bitsOf", "(D)J"⟩
abbrev cX7_owedBits : ByteArray := prog_9_method_75_code
def yX7_owedBits : MethodName := ⟨RX7, "owedBits", "(I)J"⟩
abbrev cX7_ofOrder : ByteArray := prog_9_method_76_code
def yX7_ofOrder : MethodName := ⟨RX7, "ofOrder", "(II)I"⟩
abbrev cX7_ofPayment : ByteArray := prog_9_method_77_code
def yX7_ofPayment : MethodName := ⟨RX7, "ofPayment", "(II)I"⟩
abbrev cX7_count : ByteArray := prog_9_method_78_code
def yX7_count : MethodName := ⟨RX7, "count", "(I)I"⟩
abbrev cX7_balanceIn : ByteArray := prog_9_method_79_code
def yX7_balanceIn : MethodName := ⟨RX7, "balanceIn", "(II)J"⟩
abbrev cX7_failsIn : ByteArray := prog_9_method_80_code
def yX7_failsIn : MethodName := ⟨RX7, "failsIn", "(II)I"⟩
abbrev cX7_firstFailure : ByteArray := prog_9_method_81_code
def yX7_firstFailure : MethodName := ⟨RX7, "firstFailure", "(I)I"⟩
abbrev cX7_leastDeposit : ByteArray := prog_9_method_82_code
def yX7_leastDeposit : MethodName := ⟨RX7, "leastDeposit", "(II)I"⟩
abbrev cX7_ahead : ByteArray := prog_9_method_83_code
def yX7_ahead : MethodName := ⟨RX7, "ahead", "(III)I"⟩
abbrev cX7_put : ByteArray := prog_9_method_84_code
def yX7_put : MethodName := ⟨RX7, "put", "(J)I"⟩
abbrev cX7_wipe : ByteArray := prog_9_method_85_code
def yX7_wipe : MethodName := ⟨RX7, "wipe", "()I"⟩
abbrev cX7_passes : ByteArray := prog_9_method_86_code
def yX7_passes : MethodName := ⟨RX7, "passes", "(II)Z"⟩
abbrev cX7_isDigitHere : ByteArray := prog_9_method_87_code
def yX7_isDigitHere : MethodName := ⟨RX7, "isDigitHere", "()Z"⟩
abbrev cX7_passesNumber : ByteArray := prog_9_method_88_code
def yX7_passesNumber : MethodName := ⟨RX7, "passesNumber", "()Z"⟩
abbrev cX7_passesOne : ByteArray := prog_9_method_89_code
def yX7_passesOne : MethodName := ⟨RX7, "passesOne", "(IIII)I"⟩
abbrev cX7_passesParties : ByteArray := prog_9_method_90_code
def yX7_passesParties : MethodName := ⟨RX7, "passesParties", "()Z"⟩
abbrev cX7_passesRule : ByteArray := prog_9_method_91_code
def yX7_passesRule : MethodName := ⟨RX7, "passesRule", "()Z"⟩
abbrev cX7_passesNewOrder : ByteArray := prog_9_method_92_code
def yX7_passesNewOrder : MethodName := ⟨RX7, "passesNewOrder", "()Z"⟩
abbrev cX7_passesDeposit : ByteArray := prog_9_method_93_code
def yX7_passesDeposit : MethodName := ⟨RX7, "passesDeposit", "()Z"⟩
abbrev cX7_passesAct : ByteArray := prog_9_method_94_code
def yX7_passesAct : MethodName := ⟨RX7, "passesAct", "()Z"⟩
abbrev cX7_fault : ByteArray := prog_9_method_95_code
def yX7_fault : MethodName := ⟨RX7, "fault", "()I"⟩
abbrev cX7_doesNewOrder : ByteArray := prog_9_method_96_code
def yX7_doesNewOrder : MethodName := ⟨RX7, "doesNewOrder", "()I"⟩
abbrev cX7_does : ByteArray := prog_9_method_97_code
def yX7_does : MethodName := ⟨RX7, "does", "()I"⟩
abbrev cX7_carryOut : ByteArray := prog_9_method_98_code
def yX7_carryOut : MethodName := ⟨RX7, "carryOut", "()I"⟩
def TJx145de : u_T := fun k => match k with
  | _ => ("", "", "", false)
def tyJx145de : Nat → FieldType := fun k => match k with
  | _ => .int
theorem nmJx145de : ∀ a, a < 0 → ∀ b, b < 0 → a ≠ b → (TJx145de a).2.1 ≠ (TJx145de b).2.1 := by decide +kernel
theorem tyJx145de_ok : ∀ k, k < 0 → parseFieldDescriptor (TJx145de k).2.2.1 = some (tyJx145de k) := by decide +kernel
def TJx9f9b0 : u_T := fun k => match k with
  | _ => ("", "", "", false)
def tyJx9f9b0 : Nat → FieldType := fun k => match k with
  | _ => .int
theorem nmJx9f9b0 : ∀ a, a < 0 → ∀ b, b < 0 → a ≠ b → (TJx9f9b0 a).2.1 ≠ (TJx9f9b0 b).2.1 := by decide +kernel
theorem tyJx9f9b0_ok : ∀ k, k < 0 → parseFieldDescriptor (TJx9f9b0 k).2.2.1 = some (tyJx9f9b0 k) := by decide +kernel
def RJ11 : String := "java/lang/Character"
def TJ11 : u_T := fun k => match k with
  | _ => ("", "", "", false)
def tyJ11 : Nat → FieldType := fun k => match k with
  | _ => .int
theorem nmJ11 : ∀ a, a < 0 → ∀ b, b < 0 → a ≠ b → (TJ11 a).2.1 ≠ (TJ11 b).2.1 := by decide +kernel
theorem tyJ11_ok : ∀ k, k < 0 → parseFieldDescriptor (TJ11 k).2.2.1 = some (tyJ11 k) := by decide +kernel
abbrev cJ11_isValidCodePoint_9a6ad : ByteArray := prog_10_method_11_code
def yJ11_isValidCodePoint_9a6ad : MethodName := ⟨RJ11, "isValidCodePoint", "(I)Z"⟩
abbrev cJ11_highSurrogate_5068e : ByteArray := prog_10_method_28_code
def yJ11_highSurrogate_5068e : MethodName := ⟨RJ11, "highSurrogate", "(I)C"⟩
abbrev cJ11_lowSurrogate_5068e : ByteArray := prog_10_method_29_code
def yJ11_lowSurrogate_5068e : MethodName := ⟨RJ11, "lowSurrogate", "(I)C"⟩
def TJx8e188 : u_T := fun k => match k with
  | _ => ("", "", "", false)
def tyJx8e188 : Nat → FieldType := fun k => match k with
  | _ => .int
theorem nmJx8e188 : ∀ a, a < 0 → ∀ b, b < 0 → a ≠ b → (TJx8e188 a).2.1 ≠ (TJx8e188 b).2.1 := by decide +kernel
theorem tyJx8e188_ok : ∀ k, k < 0 → parseFieldDescriptor (TJx8e188 k).2.2.1 = some (tyJx8e188 k) := by decide +kernel
def TJxb160c : u_T := fun k => match k with
  | _ => ("", "", "", false)
def tyJxb160c : Nat → FieldType := fun k => match k with
  | _ => .int
theorem nmJxb160c : ∀ a, a < 0 → ∀ b, b < 0 → a ≠ b → (TJxb160c a).2.1 ≠ (TJxb160c b).2.1 := by decide +kernel
theorem tyJxb160c_ok : ∀ k, k < 0 → parseFieldDescriptor (TJxb160c k).2.2.1 = some (tyJxb160c k) := by decide +kernel
def RJ9 : String := "java/lang/Math"
def TJ9 : u_T := fun k => match k with
  | _ => ("", "", "", false)
def tyJ9 : Nat → FieldType := fun k => match k with
  | _ => .int
theorem nmJ9 : ∀ a, a < 0 → ∀ b, b < 0 → a ≠ b → (TJ9 a).2.1 ≠ (TJ9 b).2.1 := by decide +kernel
theorem tyJ9_ok : ∀ k, k < 0 → parseFieldDescriptor (TJ9 k).2.2.1 = some (tyJ9 k) := by decide +kernel
abbrev cJ9_max_7cf53 : ByteArray := prog_12_method_65_code
def yJ9_max_7cf53 : MethodName := ⟨RJ9, "max", "(II)I"⟩
abbrev cJ9_min_7cf53 : ByteArray := prog_12_method_69_code
def yJ9_min_7cf53 : MethodName := ⟨RJ9, "min", "(II)I"⟩
abbrev cJ9_min_f86c9 : ByteArray := prog_12_method_70_code
def yJ9_min_f86c9 : MethodName := ⟨RJ9, "min", "(JJ)J"⟩
def RJ0 : String := "java/lang/String"
def TJ0 : u_T := fun k => match k with
  | _ => ("", "", "", false)
def tyJ0 : Nat → FieldType := fun k => match k with
  | _ => .int
theorem nmJ0 : ∀ a, a < 0 → ∀ b, b < 0 → a ≠ b → (TJ0 a).2.1 ≠ (TJ0 b).2.1 := by decide +kernel
theorem tyJ0_ok : ∀ k, k < 0 → parseFieldDescriptor (TJ0 k).2.2.1 = some (tyJ0 k) := by decide +kernel
abbrev cJ0_length_8abf5 : ByteArray := prog_13_method_54_code
def yJ0_length_8abf5 : MethodName := ⟨RJ0, "length", "()I"⟩
abbrev cJ0_indexOf_0f7a4 : ByteArray := prog_13_method_79_code
def yJ0_indexOf_0f7a4 : MethodName := ⟨RJ0, "indexOf", "(I)I"⟩
abbrev cJ0_indexOf_7cf53 : ByteArray := prog_13_method_80_code
def yJ0_indexOf_7cf53 : MethodName := ⟨RJ0, "indexOf", "(II)I"⟩
abbrev cJ0_coder_7d493 : ByteArray := prog_13_method_152_code
def yJ0_coder_7d493 : MethodName := ⟨RJ0, "coder", "()B"⟩
abbrev cJ0_isLatin1_aae02 : ByteArray := prog_13_method_154_code
def yJ0_isLatin1_aae02 : MethodName := ⟨RJ0, "isLatin1", "()Z"⟩
abbrev cJ0_checkBoundsBeginEnd_23922 : ByteArray := prog_13_method_158_code
def yJ0_checkBoundsBeginEnd_23922 : MethodName := ⟨RJ0, "checkBoundsBeginEnd", "(III)V"⟩
def RJ1 : String := "java/lang/StringLatin1"
def TJ1 : u_T := fun k => match k with
  | _ => ("", "", "", false)
def tyJ1 : Nat → FieldType := fun k => match k with
  | _ => .int
theorem nmJ1 : ∀ a, a < 0 → ∀ b, b < 0 → a ≠ b → (TJ1 a).2.1 ≠ (TJ1 b).2.1 := by decide +kernel
theorem tyJ1_ok : ∀ k, k < 0 → parseFieldDescriptor (TJ1 k).2.2.1 = some (tyJ1 k) := by decide +kernel
abbrev cJ1_canEncode_9a6ad : ByteArray := prog_14_method_4_code
def yJ1_canEncode_9a6ad : MethodName := ⟨RJ1, "canEncode", "(I)Z"⟩
abbrev cJ1_indexOf_4cfef : ByteArray := prog_14_method_22_code
def yJ1_indexOf_4cfef : MethodName := ⟨RJ1, "indexOf", "([BIII)I"⟩
abbrev cJ1_indexOfChar_4cfef : ByteArray := prog_14_method_23_code
def yJ1_indexOfChar_4cfef : MethodName := ⟨RJ1, "indexOfChar", "([BIII)I"⟩
def RJ2 : String := "java/lang/StringUTF16"
def TJ2 : u_T := fun k => match k with
  | _ => ("", "", "", false)
def tyJ2 : Nat → FieldType := fun k => match k with
  | _ => .int
theorem nmJ2 : ∀ a, a < 0 → ∀ b, b < 0 → a ≠ b → (TJ2 a).2.1 ≠ (TJ2 b).2.1 := by decide +kernel
theorem tyJ2_ok : ∀ k, k < 0 → parseFieldDescriptor (TJ2 k).2.2.1 = some (tyJ2 k) := by decide +kernel
abbrev cJ2_getChar_3b067 : ByteArray := prog_15_method_5_code
def yJ2_getChar_3b067 : MethodName := ⟨RJ2, "getChar", "([BI)C"⟩
abbrev cJ2_length_9d52b : ByteArray := prog_15_method_6_code
def yJ2_length_9d52b : MethodName := ⟨RJ2, "length", "([B)I"⟩
abbrev cJ2_indexOf_4cfef : ByteArray := prog_15_method_40_code
def yJ2_indexOf_4cfef : MethodName := ⟨RJ2, "indexOf", "([BIII)I"⟩
abbrev cJ2_indexOfChar_4cfef : ByteArray := prog_15_method_47_code
def yJ2_indexOfChar_4cfef : MethodName := ⟨RJ2, "indexOfChar", "([BIII)I"⟩
abbrev cJ2_indexOfCharUnsafe_4cfef : ByteArray := prog_15_method_48_code
def yJ2_indexOfCharUnsafe_4cfef : MethodName := ⟨RJ2, "indexOfCharUnsafe", "([BIII)I"⟩
abbrev cJ2_indexOfSupplementary_4cfef : ByteArray := prog_15_method_49_code
def yJ2_indexOfSupplementary_4cfef : MethodName := ⟨RJ2, "indexOfSupplementary", "([BIII)I"⟩
abbrev cJ2_checkBoundsBeginEnd_d044e : ByteArray := prog_15_method_93_code
def yJ2_checkBoundsBeginEnd_d044e : MethodName := ⟨RJ2, "checkBoundsBeginEnd", "(II[B)V"⟩
def RJ10 : String := "java/lang/System"
def TJ10 : u_T := fun k => match k with
  | _ => ("", "", "", false)
def tyJ10 : Nat → FieldType := fun k => match k with
  | _ => .int
theorem nmJ10 : ∀ a, a < 0 → ∀ b, b < 0 → a ≠ b → (TJ10 a).2.1 ≠ (TJ10 b).2.1 := by decide +kernel
theorem tyJ10_ok : ∀ k, k < 0 → parseFieldDescriptor (TJ10 k).2.2.1 = some (tyJ10 k) := by decide +kernel
def TJxfd54e : u_T := fun k => match k with
  | _ => ("", "", "", false)
def tyJxfd54e : Nat → FieldType := fun k => match k with
  | _ => .int
theorem nmJxfd54e : ∀ a, a < 0 → ∀ b, b < 0 → a ≠ b → (TJxfd54e a).2.1 ≠ (TJxfd54e b).2.1 := by decide +kernel
theorem tyJxfd54e_ok : ∀ k, k < 0 → parseFieldDescriptor (TJxfd54e k).2.2.1 = some (tyJxfd54e k) := by decide +kernel
def TJx3cf43 : u_T := fun k => match k with
  | _ => ("", "", "", false)
def tyJx3cf43 : Nat → FieldType := fun k => match k with
  | _ => .int
theorem nmJx3cf43 : ∀ a, a < 0 → ∀ b, b < 0 → a ≠ b → (TJx3cf43 a).2.1 ≠ (TJx3cf43 b).2.1 := by decide +kernel
theorem tyJx3cf43_ok : ∀ k, k < 0 → parseFieldDescriptor (TJx3cf43 k).2.2.1 = some (tyJx3cf43 k) := by decide +kernel
def RJ7 : String := "java/util/Arrays"
def TJ7 : u_T := fun k => match k with
  | _ => ("", "", "", false)
def tyJ7 : Nat → FieldType := fun k => match k with
  | _ => .int
theorem nmJ7 : ∀ a, a < 0 → ∀ b, b < 0 → a ≠ b → (TJ7 a).2.1 ≠ (TJ7 b).2.1 := by decide +kernel
theorem tyJ7_ok : ∀ k, k < 0 → parseFieldDescriptor (TJ7 k).2.2.1 = some (tyJ7 k) := by decide +kernel
abbrev cJ7_copyOf_59c91 : ByteArray := prog_17_method_123_code
def yJ7_copyOf_59c91 : MethodName := ⟨RJ7, "copyOf", "([II)[I"⟩
def RJ3 : String := "jdk/internal/util/Preconditions"
def TJ3 : u_T := fun k => match k with
  | _ => ("", "", "", false)
def tyJ3 : Nat → FieldType := fun k => match k with
  | _ => .int
theorem nmJ3 : ∀ a, a < 0 → ∀ b, b < 0 → a ≠ b → (TJ3 a).2.1 ≠ (TJ3 b).2.1 := by decide +kernel
theorem tyJ3_ok : ∀ k, k < 0 → parseFieldDescriptor (TJ3 k).2.2.1 = some (tyJ3 k) := by decide +kernel
abbrev cJ3_checkFromToIndex_8c36e : ByteArray := prog_18_method_12_code
def yJ3_checkFromToIndex_8c36e : MethodName := ⟨RJ3, "checkFromToIndex", "(IIILjava/util/function/BiFunction;)I"⟩
def RL : String := "StandingPaymentsLaw"
abbrev cL_law : ByteArray := code
def yL_law : MethodName := ⟨RL, "law", "([I)Z"⟩
abbrev vwCl : List vw_C := [(RX0, TX0, 13), (RX1, TX1, 3), (RX2, TX2, 12), (RX3, TX3, 20), (RX4, TX4, 11), (RX5, TX5, 3), (RX6, TX6, 8), (RX7, TX7, 21)]
end
section
theorem dX0_init_0 : decode cX0_init 0 = .ok (.aload_n 0, 1) := by decide +kernel
theorem dX0_init_1 : decode cX0_init 1 = .ok (.invokespecial 3, 3) := by decide +kernel
theorem dX0_init_4 : decode cX0_init 4 = .ok (.return_, 1) := by decide +kernel
theorem dX0_open_0 : decode cX0_open 0 = .ok (.aload_n 0, 1) := by decide +kernel
theorem dX0_open_1 : decode cX0_open 1 = .ok (.iload_n 1, 1) := by decide +kernel
theorem dX0_open_2 : decode cX0_open 2 = .ok (.putfield 9, 3) := by decide +kernel
theorem dX0_open_5 : decode cX0_open 5 = .ok (.aload_n 0, 1) := by decide +kernel
theorem dX0_open_6 : decode cX0_open 6 = .ok (.iload_n 2, 1) := by decide +kernel
theorem dX0_open_7 : decode cX0_open 7 = .ok (.putfield 15, 3) := by decide +kernel
theorem dX0_open_10 : decode cX0_open 10 = .ok (.aload_n 0, 1) := by decide +kernel
theorem dX0_open_11 : decode cX0_open 11 = .ok (.bipush (-6), 2) := by decide +kernel
theorem dX0_open_13 : decode cX0_open 13 = .ok (.putfield 18, 3) := by decide +kernel
theorem dX0_open_16 : decode cX0_open 16 = .ok (.aload_n 0, 1) := by decide +kernel
theorem dX0_open_17 : decode cX0_open 17 = .ok (.lconst 0, 1) := by decide +kernel
theorem dX0_open_18 : decode cX0_open 18 = .ok (.putfield 21, 3) := by decide +kernel
theorem dX0_open_21 : decode cX0_open 21 = .ok (.aload_n 0, 1) := by decide +kernel
theorem dX0_open_22 : decode cX0_open 22 = .ok (.lconst 0, 1) := by decide +kernel
theorem dX0_open_23 : decode cX0_open 23 = .ok (.putfield 25, 3) := by decide +kernel
theorem dX0_open_26 : decode cX0_open 26 = .ok (.aload_n 0, 1) := by decide +kernel
theorem dX0_open_27 : decode cX0_open 27 = .ok (.lconst 0, 1) := by decide +kernel
theorem dX0_open_28 : decode cX0_open 28 = .ok (.putfield 28, 3) := by decide +kernel
theorem dX0_open_31 : decode cX0_open 31 = .ok (.aload_n 0, 1) := by decide +kernel
theorem dX0_open_32 : decode cX0_open 32 = .ok (.lconst 0, 1) := by decide +kernel
theorem dX0_open_33 : decode cX0_open 33 = .ok (.putfield 31, 3) := by decide +kernel
theorem dX0_open_36 : decode cX0_open 36 = .ok (.aload_n 0, 1) := by decide +kernel
theorem dX0_open_37 : decode cX0_open 37 = .ok (.lconst 0, 1) := by decide +kernel
theorem dX0_open_38 : decode cX0_open 38 = .ok (.putfield 34, 3) := by decide +kernel
theorem dX0_open_41 : decode cX0_open 41 = .ok (.aload_n 0, 1) := by decide +kernel
theorem dX0_open_42 : decode cX0_open 42 = .ok (.lconst 0, 1) := by decide +kernel
theorem dX0_open_43 : decode cX0_open 43 = .ok (.putfield 37, 3) := by decide +kernel
theorem dX0_open_46 : decode cX0_open 46 = .ok (.aload_n 0, 1) := by decide +kernel
theorem dX0_open_47 : decode cX0_open 47 = .ok (.lconst 0, 1) := by decide +kernel
theorem dX0_open_48 : decode cX0_open 48 = .ok (.putfield 40, 3) := by decide +kernel
theorem dX0_open_51 : decode cX0_open 51 = .ok (.aload_n 0, 1) := by decide +kernel
theorem dX0_open_52 : decode cX0_open 52 = .ok (.lconst 0, 1) := by decide +kernel
theorem dX0_open_53 : decode cX0_open 53 = .ok (.putfield 43, 3) := by decide +kernel
theorem dX0_open_56 : decode cX0_open 56 = .ok (.aload_n 0, 1) := by decide +kernel
theorem dX0_open_57 : decode cX0_open 57 = .ok (.lconst 0, 1) := by decide +kernel
theorem dX0_open_58 : decode cX0_open 58 = .ok (.putfield 46, 3) := by decide +kernel
theorem dX0_open_61 : decode cX0_open 61 = .ok (.aload_n 0, 1) := by decide +kernel
theorem dX0_open_62 : decode cX0_open 62 = .ok (.dconst 0, 1) := by decide +kernel
theorem dX0_open_63 : decode cX0_open 63 = .ok (.putfield 49, 3) := by decide +kernel
theorem dX0_open_66 : decode cX0_open 66 = .ok (.return_, 1) := by decide +kernel
theorem dX0_copyFrom_0 : decode cX0_copyFrom 0 = .ok (.aload_n 0, 1) := by decide +kernel
theorem dX0_copyFrom_1 : decode cX0_copyFrom 1 = .ok (.aload_n 1, 1) := by decide +kernel
theorem dX0_copyFrom_2 : decode cX0_copyFrom 2 = .ok (.getfield 9, 3) := by decide +kernel
theorem dX0_copyFrom_5 : decode cX0_copyFrom 5 = .ok (.putfield 9, 3) := by decide +kernel
theorem dX0_copyFrom_8 : decode cX0_copyFrom 8 = .ok (.aload_n 0, 1) := by decide +kernel
theorem dX0_copyFrom_9 : decode cX0_copyFrom 9 = .ok (.aload_n 1, 1) := by decide +kernel
theorem dX0_copyFrom_10 : decode cX0_copyFrom 10 = .ok (.getfield 15, 3) := by decide +kernel
theorem dX0_copyFrom_13 : decode cX0_copyFrom 13 = .ok (.putfield 15, 3) := by decide +kernel
theorem dX0_copyFrom_16 : decode cX0_copyFrom 16 = .ok (.aload_n 0, 1) := by decide +kernel
theorem dX0_copyFrom_17 : decode cX0_copyFrom 17 = .ok (.aload_n 1, 1) := by decide +kernel
theorem dX0_copyFrom_18 : decode cX0_copyFrom 18 = .ok (.getfield 18, 3) := by decide +kernel
theorem dX0_copyFrom_21 : decode cX0_copyFrom 21 = .ok (.putfield 18, 3) := by decide +kernel
theorem dX0_copyFrom_24 : decode cX0_copyFrom 24 = .ok (.aload_n 0, 1) := by decide +kernel
theorem dX0_copyFrom_25 : decode cX0_copyFrom 25 = .ok (.aload_n 1, 1) := by decide +kernel
theorem dX0_copyFrom_26 : decode cX0_copyFrom 26 = .ok (.getfield 21, 3) := by decide +kernel
theorem dX0_copyFrom_29 : decode cX0_copyFrom 29 = .ok (.putfield 21, 3) := by decide +kernel
theorem dX0_copyFrom_32 : decode cX0_copyFrom 32 = .ok (.aload_n 0, 1) := by decide +kernel
theorem dX0_copyFrom_33 : decode cX0_copyFrom 33 = .ok (.aload_n 1, 1) := by decide +kernel
theorem dX0_copyFrom_34 : decode cX0_copyFrom 34 = .ok (.getfield 25, 3) := by decide +kernel
theorem dX0_copyFrom_37 : decode cX0_copyFrom 37 = .ok (.putfield 25, 3) := by decide +kernel
theorem dX0_copyFrom_40 : decode cX0_copyFrom 40 = .ok (.aload_n 0, 1) := by decide +kernel
theorem dX0_copyFrom_41 : decode cX0_copyFrom 41 = .ok (.aload_n 1, 1) := by decide +kernel
theorem dX0_copyFrom_42 : decode cX0_copyFrom 42 = .ok (.getfield 28, 3) := by decide +kernel
theorem dX0_copyFrom_45 : decode cX0_copyFrom 45 = .ok (.putfield 28, 3) := by decide +kernel
theorem dX0_copyFrom_48 : decode cX0_copyFrom 48 = .ok (.aload_n 0, 1) := by decide +kernel
theorem dX0_copyFrom_49 : decode cX0_copyFrom 49 = .ok (.aload_n 1, 1) := by decide +kernel
theorem dX0_copyFrom_50 : decode cX0_copyFrom 50 = .ok (.getfield 31, 3) := by decide +kernel
theorem dX0_copyFrom_53 : decode cX0_copyFrom 53 = .ok (.putfield 31, 3) := by decide +kernel
theorem dX0_copyFrom_56 : decode cX0_copyFrom 56 = .ok (.aload_n 0, 1) := by decide +kernel
theorem dX0_copyFrom_57 : decode cX0_copyFrom 57 = .ok (.aload_n 1, 1) := by decide +kernel
theorem dX0_copyFrom_58 : decode cX0_copyFrom 58 = .ok (.getfield 34, 3) := by decide +kernel
theorem dX0_copyFrom_61 : decode cX0_copyFrom 61 = .ok (.putfield 34, 3) := by decide +kernel
theorem dX0_copyFrom_64 : decode cX0_copyFrom 64 = .ok (.aload_n 0, 1) := by decide +kernel
theorem dX0_copyFrom_65 : decode cX0_copyFrom 65 = .ok (.aload_n 1, 1) := by decide +kernel
theorem dX0_copyFrom_66 : decode cX0_copyFrom 66 = .ok (.getfield 37, 3) := by decide +kernel
theorem dX0_copyFrom_69 : decode cX0_copyFrom 69 = .ok (.putfield 37, 3) := by decide +kernel
theorem dX0_copyFrom_72 : decode cX0_copyFrom 72 = .ok (.aload_n 0, 1) := by decide +kernel
theorem dX0_copyFrom_73 : decode cX0_copyFrom 73 = .ok (.aload_n 1, 1) := by decide +kernel
theorem dX0_copyFrom_74 : decode cX0_copyFrom 74 = .ok (.getfield 40, 3) := by decide +kernel
theorem dX0_copyFrom_77 : decode cX0_copyFrom 77 = .ok (.putfield 40, 3) := by decide +kernel
theorem dX0_copyFrom_80 : decode cX0_copyFrom 80 = .ok (.aload_n 0, 1) := by decide +kernel
theorem dX0_copyFrom_81 : decode cX0_copyFrom 81 = .ok (.aload_n 1, 1) := by decide +kernel
theorem dX0_copyFrom_82 : decode cX0_copyFrom 82 = .ok (.getfield 43, 3) := by decide +kernel
theorem dX0_copyFrom_85 : decode cX0_copyFrom 85 = .ok (.putfield 43, 3) := by decide +kernel
theorem dX0_copyFrom_88 : decode cX0_copyFrom 88 = .ok (.aload_n 0, 1) := by decide +kernel
theorem dX0_copyFrom_89 : decode cX0_copyFrom 89 = .ok (.aload_n 1, 1) := by decide +kernel
theorem dX0_copyFrom_90 : decode cX0_copyFrom 90 = .ok (.getfield 46, 3) := by decide +kernel
theorem dX0_copyFrom_93 : decode cX0_copyFrom 93 = .ok (.putfield 46, 3) := by decide +kernel
theorem dX0_copyFrom_96 : decode cX0_copyFrom 96 = .ok (.aload_n 0, 1) := by decide +kernel
theorem dX0_copyFrom_97 : decode cX0_copyFrom 97 = .ok (.aload_n 1, 1) := by decide +kernel
theorem dX0_copyFrom_98 : decode cX0_copyFrom 98 = .ok (.getfield 49, 3) := by decide +kernel
theorem dX0_copyFrom_101 : decode cX0_copyFrom 101 = .ok (.putfield 49, 3) := by decide +kernel
theorem dX0_copyFrom_104 : decode cX0_copyFrom 104 = .ok (.return_, 1) := by decide +kernel
theorem dX0_sumOf_0 : decode cX0_sumOf 0 = .ok (.iload_n 1, 1) := by decide +kernel
theorem dX0_sumOf_1 : decode cX0_sumOf 1 = .ok (.tableswitch 96 0 8 #[51, 56, 61, 66, 71, 76, 81, 86, 91], 51) := by decide +kernel
theorem dX0_sumOf_52 : decode cX0_sumOf 52 = .ok (.aload_n 0, 1) := by decide +kernel
theorem dX0_sumOf_53 : decode cX0_sumOf 53 = .ok (.getfield 21, 3) := by decide +kernel
theorem dX0_sumOf_56 : decode cX0_sumOf 56 = .ok (.lreturn, 1) := by decide +kernel
theorem dX0_sumOf_57 : decode cX0_sumOf 57 = .ok (.aload_n 0, 1) := by decide +kernel
theorem dX0_sumOf_58 : decode cX0_sumOf 58 = .ok (.getfield 25, 3) := by decide +kernel
theorem dX0_sumOf_61 : decode cX0_sumOf 61 = .ok (.lreturn, 1) := by decide +kernel
theorem dX0_sumOf_62 : decode cX0_sumOf 62 = .ok (.aload_n 0, 1) := by decide +kernel
theorem dX0_sumOf_63 : decode cX0_sumOf 63 = .ok (.getfield 28, 3) := by decide +kernel
theorem dX0_sumOf_66 : decode cX0_sumOf 66 = .ok (.lreturn, 1) := by decide +kernel
theorem dX0_sumOf_67 : decode cX0_sumOf 67 = .ok (.aload_n 0, 1) := by decide +kernel
theorem dX0_sumOf_68 : decode cX0_sumOf 68 = .ok (.getfield 31, 3) := by decide +kernel
theorem dX0_sumOf_71 : decode cX0_sumOf 71 = .ok (.lreturn, 1) := by decide +kernel
theorem dX0_sumOf_72 : decode cX0_sumOf 72 = .ok (.aload_n 0, 1) := by decide +kernel
theorem dX0_sumOf_73 : decode cX0_sumOf 73 = .ok (.getfield 34, 3) := by decide +kernel
theorem dX0_sumOf_76 : decode cX0_sumOf 76 = .ok (.lreturn, 1) := by decide +kernel
theorem dX0_sumOf_77 : decode cX0_sumOf 77 = .ok (.aload_n 0, 1) := by decide +kernel
theorem dX0_sumOf_78 : decode cX0_sumOf 78 = .ok (.getfield 37, 3) := by decide +kernel
theorem dX0_sumOf_81 : decode cX0_sumOf 81 = .ok (.lreturn, 1) := by decide +kernel
theorem dX0_sumOf_82 : decode cX0_sumOf 82 = .ok (.aload_n 0, 1) := by decide +kernel
theorem dX0_sumOf_83 : decode cX0_sumOf 83 = .ok (.getfield 40, 3) := by decide +kernel
theorem dX0_sumOf_86 : decode cX0_sumOf 86 = .ok (.lreturn, 1) := by decide +kernel
theorem dX0_sumOf_87 : decode cX0_sumOf 87 = .ok (.aload_n 0, 1) := by decide +kernel
theorem dX0_sumOf_88 : decode cX0_sumOf 88 = .ok (.getfield 43, 3) := by decide +kernel
theorem dX0_sumOf_91 : decode cX0_sumOf 91 = .ok (.lreturn, 1) := by decide +kernel
theorem dX0_sumOf_92 : decode cX0_sumOf 92 = .ok (.aload_n 0, 1) := by decide +kernel
theorem dX0_sumOf_93 : decode cX0_sumOf 93 = .ok (.getfield 46, 3) := by decide +kernel
theorem dX0_sumOf_96 : decode cX0_sumOf 96 = .ok (.lreturn, 1) := by decide +kernel
theorem dX0_sumOf_97 : decode cX0_sumOf 97 = .ok (.ldc2_w 53, 3) := by decide +kernel
theorem dX0_sumOf_100 : decode cX0_sumOf 100 = .ok (.lreturn, 1) := by decide +kernel
theorem dX0_takeInterest_0 : decode cX0_takeInterest 0 = .ok (.aload_n 0, 1) := by decide +kernel
theorem dX0_takeInterest_1 : decode cX0_takeInterest 1 = .ok (.getfield 49, 3) := by decide +kernel
theorem dX0_takeInterest_4 : decode cX0_takeInterest 4 = .ok (.d2l, 1) := by decide +kernel
theorem dX0_takeInterest_5 : decode cX0_takeInterest 5 = .ok (.lstore_n 1, 1) := by decide +kernel
theorem dX0_takeInterest_6 : decode cX0_takeInterest 6 = .ok (.aload_n 0, 1) := by decide +kernel
theorem dX0_takeInterest_7 : decode cX0_takeInterest 7 = .ok (.dup, 1) := by decide +kernel
theorem dX0_takeInterest_8 : decode cX0_takeInterest 8 = .ok (.getfield 21, 3) := by decide +kernel
theorem dX0_takeInterest_11 : decode cX0_takeInterest 11 = .ok (.lload_n 1, 1) := by decide +kernel
theorem dX0_takeInterest_12 : decode cX0_takeInterest 12 = .ok (.lsub, 1) := by decide +kernel
theorem dX0_takeInterest_13 : decode cX0_takeInterest 13 = .ok (.putfield 21, 3) := by decide +kernel
theorem dX0_takeInterest_16 : decode cX0_takeInterest 16 = .ok (.aload_n 0, 1) := by decide +kernel
theorem dX0_takeInterest_17 : decode cX0_takeInterest 17 = .ok (.dup, 1) := by decide +kernel
theorem dX0_takeInterest_18 : decode cX0_takeInterest 18 = .ok (.getfield 43, 3) := by decide +kernel
theorem dX0_takeInterest_21 : decode cX0_takeInterest 21 = .ok (.lload_n 1, 1) := by decide +kernel
theorem dX0_takeInterest_22 : decode cX0_takeInterest 22 = .ok (.ladd, 1) := by decide +kernel
theorem dX0_takeInterest_23 : decode cX0_takeInterest 23 = .ok (.putfield 43, 3) := by decide +kernel
theorem dX0_takeInterest_26 : decode cX0_takeInterest 26 = .ok (.aload_n 0, 1) := by decide +kernel
theorem dX0_takeInterest_27 : decode cX0_takeInterest 27 = .ok (.aload_n 0, 1) := by decide +kernel
theorem dX0_takeInterest_28 : decode cX0_takeInterest 28 = .ok (.getfield 49, 3) := by decide +kernel
theorem dX0_takeInterest_31 : decode cX0_takeInterest 31 = .ok (.lload_n 1, 1) := by decide +kernel
theorem dX0_takeInterest_32 : decode cX0_takeInterest 32 = .ok (.l2d, 1) := by decide +kernel
theorem dX0_takeInterest_33 : decode cX0_takeInterest 33 = .ok (.dsub, 1) := by decide +kernel
theorem dX0_takeInterest_34 : decode cX0_takeInterest 34 = .ok (.putfield 49, 3) := by decide +kernel
theorem dX0_takeInterest_37 : decode cX0_takeInterest 37 = .ok (.return_, 1) := by decide +kernel
theorem dX1_init_0 : decode cX1_init 0 = .ok (.aload_n 0, 1) := by decide +kernel
theorem dX1_init_1 : decode cX1_init 1 = .ok (.invokespecial 3, 3) := by decide +kernel
theorem dX1_init_4 : decode cX1_init 4 = .ok (.aload_n 0, 1) := by decide +kernel
theorem dX1_init_5 : decode cX1_init 5 = .ok (.bipush 18, 2) := by decide +kernel
theorem dX1_init_7 : decode cX1_init 7 = .ok (.newarray .long, 2) := by decide +kernel
theorem dX1_init_9 : decode cX1_init 9 = .ok (.putfield 9, 3) := by decide +kernel
theorem dX1_init_12 : decode cX1_init 12 = .ok (.return_, 1) := by decide +kernel
theorem dX1_copyFrom_0 : decode cX1_copyFrom 0 = .ok (.aload_n 1, 1) := by decide +kernel
theorem dX1_copyFrom_1 : decode cX1_copyFrom 1 = .ok (.getfield 9, 3) := by decide +kernel
theorem dX1_copyFrom_4 : decode cX1_copyFrom 4 = .ok (.iconst 0, 1) := by decide +kernel
theorem dX1_copyFrom_5 : decode cX1_copyFrom 5 = .ok (.aload_n 0, 1) := by decide +kernel
theorem dX1_copyFrom_6 : decode cX1_copyFrom 6 = .ok (.getfield 9, 3) := by decide +kernel
theorem dX1_copyFrom_9 : decode cX1_copyFrom 9 = .ok (.iconst 0, 1) := by decide +kernel
theorem dX1_copyFrom_10 : decode cX1_copyFrom 10 = .ok (.aload_n 0, 1) := by decide +kernel
theorem dX1_copyFrom_11 : decode cX1_copyFrom 11 = .ok (.getfield 9, 3) := by decide +kernel
theorem dX1_copyFrom_14 : decode cX1_copyFrom 14 = .ok (.arraylength, 1) := by decide +kernel
theorem dX1_copyFrom_15 : decode cX1_copyFrom 15 = .ok (.invokestatic 15, 3) := by decide +kernel
theorem dX1_copyFrom_18 : decode cX1_copyFrom 18 = .ok (.aload_n 0, 1) := by decide +kernel
theorem dX1_copyFrom_19 : decode cX1_copyFrom 19 = .ok (.aload_n 1, 1) := by decide +kernel
theorem dX1_copyFrom_20 : decode cX1_copyFrom 20 = .ok (.getfield 21, 3) := by decide +kernel
theorem dX1_copyFrom_23 : decode cX1_copyFrom 23 = .ok (.putfield 21, 3) := by decide +kernel
theorem dX1_copyFrom_26 : decode cX1_copyFrom 26 = .ok (.aload_n 0, 1) := by decide +kernel
theorem dX1_copyFrom_27 : decode cX1_copyFrom 27 = .ok (.aload_n 1, 1) := by decide +kernel
theorem dX1_copyFrom_28 : decode cX1_copyFrom 28 = .ok (.getfield 25, 3) := by decide +kernel
theorem dX1_copyFrom_31 : decode cX1_copyFrom 31 = .ok (.putfield 25, 3) := by decide +kernel
theorem dX1_copyFrom_34 : decode cX1_copyFrom 34 = .ok (.return_, 1) := by decide +kernel
theorem dX1_monthOf_0 : decode cX1_monthOf 0 = .ok (.iload_n 0, 1) := by decide +kernel
theorem dX1_monthOf_1 : decode cX1_monthOf 1 = .ok (.sipush 365, 3) := by decide +kernel
theorem dX1_monthOf_4 : decode cX1_monthOf 4 = .ok (.irem, 1) := by decide +kernel
theorem dX1_monthOf_5 : decode cX1_monthOf 5 = .ok (.istore_n 1, 1) := by decide +kernel
theorem dX1_monthOf_6 : decode cX1_monthOf 6 = .ok (.iload_n 1, 1) := by decide +kernel
theorem dX1_monthOf_7 : decode cX1_monthOf 7 = .ok (.bipush 31, 2) := by decide +kernel
theorem dX1_monthOf_9 : decode cX1_monthOf 9 = .ok (.idiv, 1) := by decide +kernel
theorem dX1_monthOf_10 : decode cX1_monthOf 10 = .ok (.istore_n 2, 1) := by decide +kernel
theorem dX1_monthOf_11 : decode cX1_monthOf 11 = .ok (.getstatic 28, 3) := by decide +kernel
theorem dX1_monthOf_14 : decode cX1_monthOf 14 = .ok (.iload_n 2, 1) := by decide +kernel
theorem dX1_monthOf_15 : decode cX1_monthOf 15 = .ok (.iconst 1, 1) := by decide +kernel
theorem dX1_monthOf_16 : decode cX1_monthOf 16 = .ok (.iadd, 1) := by decide +kernel
theorem dX1_monthOf_17 : decode cX1_monthOf 17 = .ok (.iaload, 1) := by decide +kernel
theorem dX1_monthOf_18 : decode cX1_monthOf 18 = .ok (.iload_n 1, 1) := by decide +kernel
theorem dX1_monthOf_19 : decode cX1_monthOf 19 = .ok (.if_icmp .gt 6, 3) := by decide +kernel
theorem dX1_monthOf_22 : decode cX1_monthOf 22 = .ok (.iinc 2 1, 3) := by decide +kernel
theorem dX1_monthOf_25 : decode cX1_monthOf 25 = .ok (.iload_n 0, 1) := by decide +kernel
theorem dX1_monthOf_26 : decode cX1_monthOf 26 = .ok (.sipush 365, 3) := by decide +kernel
theorem dX1_monthOf_29 : decode cX1_monthOf 29 = .ok (.idiv, 1) := by decide +kernel
theorem dX1_monthOf_30 : decode cX1_monthOf 30 = .ok (.bipush 12, 2) := by decide +kernel
theorem dX1_monthOf_32 : decode cX1_monthOf 32 = .ok (.imul, 1) := by decide +kernel
theorem dX1_monthOf_33 : decode cX1_monthOf 33 = .ok (.iload_n 2, 1) := by decide +kernel
theorem dX1_monthOf_34 : decode cX1_monthOf 34 = .ok (.iadd, 1) := by decide +kernel
theorem dX1_monthOf_35 : decode cX1_monthOf 35 = .ok (.ireturn, 1) := by decide +kernel
theorem dX1_firstDayOf_0 : decode cX1_firstDayOf 0 = .ok (.iload_n 0, 1) := by decide +kernel
theorem dX1_firstDayOf_1 : decode cX1_firstDayOf 1 = .ok (.bipush 12, 2) := by decide +kernel
theorem dX1_firstDayOf_3 : decode cX1_firstDayOf 3 = .ok (.idiv, 1) := by decide +kernel
theorem dX1_firstDayOf_4 : decode cX1_firstDayOf 4 = .ok (.sipush 365, 3) := by decide +kernel
theorem dX1_firstDayOf_7 : decode cX1_firstDayOf 7 = .ok (.imul, 1) := by decide +kernel
theorem dX1_firstDayOf_8 : decode cX1_firstDayOf 8 = .ok (.getstatic 28, 3) := by decide +kernel
theorem dX1_firstDayOf_11 : decode cX1_firstDayOf 11 = .ok (.iload_n 0, 1) := by decide +kernel
theorem dX1_firstDayOf_12 : decode cX1_firstDayOf 12 = .ok (.bipush 12, 2) := by decide +kernel
theorem dX1_firstDayOf_14 : decode cX1_firstDayOf 14 = .ok (.irem, 1) := by decide +kernel
theorem dX1_firstDayOf_15 : decode cX1_firstDayOf 15 = .ok (.iaload, 1) := by decide +kernel
theorem dX1_firstDayOf_16 : decode cX1_firstDayOf 16 = .ok (.iadd, 1) := by decide +kernel
theorem dX1_firstDayOf_17 : decode cX1_firstDayOf 17 = .ok (.ireturn, 1) := by decide +kernel
theorem dX1_lastDayOf_0 : decode cX1_lastDayOf 0 = .ok (.iload_n 0, 1) := by decide +kernel
theorem dX1_lastDayOf_1 : decode cX1_lastDayOf 1 = .ok (.bipush 12, 2) := by decide +kernel
theorem dX1_lastDayOf_3 : decode cX1_lastDayOf 3 = .ok (.idiv, 1) := by decide +kernel
theorem dX1_lastDayOf_4 : decode cX1_lastDayOf 4 = .ok (.sipush 365, 3) := by decide +kernel
theorem dX1_lastDayOf_7 : decode cX1_lastDayOf 7 = .ok (.imul, 1) := by decide +kernel
theorem dX1_lastDayOf_8 : decode cX1_lastDayOf 8 = .ok (.getstatic 28, 3) := by decide +kernel
theorem dX1_lastDayOf_11 : decode cX1_lastDayOf 11 = .ok (.iload_n 0, 1) := by decide +kernel
theorem dX1_lastDayOf_12 : decode cX1_lastDayOf 12 = .ok (.bipush 12, 2) := by decide +kernel
theorem dX1_lastDayOf_14 : decode cX1_lastDayOf 14 = .ok (.irem, 1) := by decide +kernel
theorem dX1_lastDayOf_15 : decode cX1_lastDayOf 15 = .ok (.iconst 1, 1) := by decide +kernel
theorem dX1_lastDayOf_16 : decode cX1_lastDayOf 16 = .ok (.iadd, 1) := by decide +kernel
theorem dX1_lastDayOf_17 : decode cX1_lastDayOf 17 = .ok (.iaload, 1) := by decide +kernel
theorem dX1_lastDayOf_18 : decode cX1_lastDayOf 18 = .ok (.iadd, 1) := by decide +kernel
theorem dX1_lastDayOf_19 : decode cX1_lastDayOf 19 = .ok (.iconst 1, 1) := by decide +kernel
theorem dX1_lastDayOf_20 : decode cX1_lastDayOf 20 = .ok (.isub, 1) := by decide +kernel
theorem dX1_lastDayOf_21 : decode cX1_lastDayOf 21 = .ok (.ireturn, 1) := by decide +kernel
theorem dX1_weekdayOf_0 : decode cX1_weekdayOf 0 = .ok (.iload_n 1, 1) := by decide +kernel
theorem dX1_weekdayOf_1 : decode cX1_weekdayOf 1 = .ok (.aload_n 0, 1) := by decide +kernel
theorem dX1_weekdayOf_2 : decode cX1_weekdayOf 2 = .ok (.getfield 25, 3) := by decide +kernel
theorem dX1_weekdayOf_5 : decode cX1_weekdayOf 5 = .ok (.iadd, 1) := by decide +kernel
theorem dX1_weekdayOf_6 : decode cX1_weekdayOf 6 = .ok (.bipush 7, 2) := by decide +kernel
theorem dX1_weekdayOf_8 : decode cX1_weekdayOf 8 = .ok (.irem, 1) := by decide +kernel
theorem dX1_weekdayOf_9 : decode cX1_weekdayOf 9 = .ok (.ireturn, 1) := by decide +kernel
theorem dX1_isHoliday_0 : decode cX1_isHoliday 0 = .ok (.aload_n 0, 1) := by decide +kernel
theorem dX1_isHoliday_1 : decode cX1_isHoliday 1 = .ok (.getfield 9, 3) := by decide +kernel
theorem dX1_isHoliday_4 : decode cX1_isHoliday 4 = .ok (.iload_n 1, 1) := by decide +kernel
theorem dX1_isHoliday_5 : decode cX1_isHoliday 5 = .ok (.bipush 6, 2) := by decide +kernel
theorem dX1_isHoliday_7 : decode cX1_isHoliday 7 = .ok (.ishr, 1) := by decide +kernel
theorem dX1_isHoliday_8 : decode cX1_isHoliday 8 = .ok (.laload, 1) := by decide +kernel
theorem dX1_isHoliday_9 : decode cX1_isHoliday 9 = .ok (.iload_n 1, 1) := by decide +kernel
theorem dX1_isHoliday_10 : decode cX1_isHoliday 10 = .ok (.bipush 63, 2) := by decide +kernel
theorem dX1_isHoliday_12 : decode cX1_isHoliday 12 = .ok (.iand, 1) := by decide +kernel
theorem dX1_isHoliday_13 : decode cX1_isHoliday 13 = .ok (.lushr, 1) := by decide +kernel
theorem dX1_isHoliday_14 : decode cX1_isHoliday 14 = .ok (.lconst 1, 1) := by decide +kernel
theorem dX1_isHoliday_15 : decode cX1_isHoliday 15 = .ok (.land, 1) := by decide +kernel
theorem dX1_isHoliday_16 : decode cX1_isHoliday 16 = .ok (.lconst 0, 1) := by decide +kernel
theorem dX1_isHoliday_17 : decode cX1_isHoliday 17 = .ok (.lcmp, 1) := by decide +kernel
theorem dX1_isHoliday_18 : decode cX1_isHoliday 18 = .ok (.ifCond .eq 7, 3) := by decide +kernel
theorem dX1_isHoliday_21 : decode cX1_isHoliday 21 = .ok (.iconst 1, 1) := by decide +kernel
theorem dX1_isHoliday_22 : decode cX1_isHoliday 22 = .ok (.goto 4, 3) := by decide +kernel
theorem dX1_isHoliday_25 : decode cX1_isHoliday 25 = .ok (.iconst 0, 1) := by decide +kernel
theorem dX1_isHoliday_26 : decode cX1_isHoliday 26 = .ok (.ireturn, 1) := by decide +kernel
theorem dX1_isBusiness_0 : decode cX1_isBusiness 0 = .ok (.iload_n 1, 1) := by decide +kernel
theorem dX1_isBusiness_1 : decode cX1_isBusiness 1 = .ok (.aload_n 0, 1) := by decide +kernel
theorem dX1_isBusiness_2 : decode cX1_isBusiness 2 = .ok (.getfield 25, 3) := by decide +kernel
theorem dX1_isBusiness_5 : decode cX1_isBusiness 5 = .ok (.iadd, 1) := by decide +kernel
theorem dX1_isBusiness_6 : decode cX1_isBusiness 6 = .ok (.bipush 7, 2) := by decide +kernel
theorem dX1_isBusiness_8 : decode cX1_isBusiness 8 = .ok (.irem, 1) := by decide +kernel
theorem dX1_isBusiness_9 : decode cX1_isBusiness 9 = .ok (.iconst 5, 1) := by decide +kernel
theorem dX1_isBusiness_10 : decode cX1_isBusiness 10 = .ok (.if_icmp .ge 28, 3) := by decide +kernel
theorem dX1_isBusiness_13 : decode cX1_isBusiness 13 = .ok (.aload_n 0, 1) := by decide +kernel
theorem dX1_isBusiness_14 : decode cX1_isBusiness 14 = .ok (.getfield 9, 3) := by decide +kernel
theorem dX1_isBusiness_17 : decode cX1_isBusiness 17 = .ok (.iload_n 1, 1) := by decide +kernel
theorem dX1_isBusiness_18 : decode cX1_isBusiness 18 = .ok (.bipush 6, 2) := by decide +kernel
theorem dX1_isBusiness_20 : decode cX1_isBusiness 20 = .ok (.ishr, 1) := by decide +kernel
theorem dX1_isBusiness_21 : decode cX1_isBusiness 21 = .ok (.laload, 1) := by decide +kernel
theorem dX1_isBusiness_22 : decode cX1_isBusiness 22 = .ok (.iload_n 1, 1) := by decide +kernel
theorem dX1_isBusiness_23 : decode cX1_isBusiness 23 = .ok (.bipush 63, 2) := by decide +kernel
theorem dX1_isBusiness_25 : decode cX1_isBusiness 25 = .ok (.iand, 1) := by decide +kernel
theorem dX1_isBusiness_26 : decode cX1_isBusiness 26 = .ok (.lushr, 1) := by decide +kernel
theorem dX1_isBusiness_27 : decode cX1_isBusiness 27 = .ok (.lconst 1, 1) := by decide +kernel
theorem dX1_isBusiness_28 : decode cX1_isBusiness 28 = .ok (.land, 1) := by decide +kernel
theorem dX1_isBusiness_29 : decode cX1_isBusiness 29 = .ok (.lconst 0, 1) := by decide +kernel
theorem dX1_isBusiness_30 : decode cX1_isBusiness 30 = .ok (.lcmp, 1) := by decide +kernel
theorem dX1_isBusiness_31 : decode cX1_isBusiness 31 = .ok (.ifCond .ne 7, 3) := by decide +kernel
theorem dX1_isBusiness_34 : decode cX1_isBusiness 34 = .ok (.iconst 1, 1) := by decide +kernel
theorem dX1_isBusiness_35 : decode cX1_isBusiness 35 = .ok (.goto 4, 3) := by decide +kernel
theorem dX1_isBusiness_38 : decode cX1_isBusiness 38 = .ok (.iconst 0, 1) := by decide +kernel
theorem dX1_isBusiness_39 : decode cX1_isBusiness 39 = .ok (.ireturn, 1) := by decide +kernel
theorem dX1_nextBusiness_0 : decode cX1_nextBusiness 0 = .ok (.iload_n 1, 1) := by decide +kernel
theorem dX1_nextBusiness_1 : decode cX1_nextBusiness 1 = .ok (.istore_n 2, 1) := by decide +kernel
theorem dX1_nextBusiness_2 : decode cX1_nextBusiness 2 = .ok (.iload_n 2, 1) := by decide +kernel
theorem dX1_nextBusiness_3 : decode cX1_nextBusiness 3 = .ok (.sipush 1094, 3) := by decide +kernel
theorem dX1_nextBusiness_6 : decode cX1_nextBusiness 6 = .ok (.if_icmp .gt 19, 3) := by decide +kernel
theorem dX1_nextBusiness_9 : decode cX1_nextBusiness 9 = .ok (.aload_n 0, 1) := by decide +kernel
theorem dX1_nextBusiness_10 : decode cX1_nextBusiness 10 = .ok (.iload_n 2, 1) := by decide +kernel
theorem dX1_nextBusiness_11 : decode cX1_nextBusiness 11 = .ok (.invokevirtual 32, 3) := by decide +kernel
theorem dX1_nextBusiness_14 : decode cX1_nextBusiness 14 = .ok (.ifCond .eq 5, 3) := by decide +kernel
theorem dX1_nextBusiness_17 : decode cX1_nextBusiness 17 = .ok (.iload_n 2, 1) := by decide +kernel
theorem dX1_nextBusiness_18 : decode cX1_nextBusiness 18 = .ok (.ireturn, 1) := by decide +kernel
theorem dX1_nextBusiness_19 : decode cX1_nextBusiness 19 = .ok (.iinc 2 1, 3) := by decide +kernel
theorem dX1_nextBusiness_22 : decode cX1_nextBusiness 22 = .ok (.goto (-20), 3) := by decide +kernel
theorem dX1_nextBusiness_25 : decode cX1_nextBusiness 25 = .ok (.bipush (-6), 2) := by decide +kernel
theorem dX1_nextBusiness_27 : decode cX1_nextBusiness 27 = .ok (.ireturn, 1) := by decide +kernel
theorem dX1_lastBusiness_0 : decode cX1_lastBusiness 0 = .ok (.iload_n 1, 1) := by decide +kernel
theorem dX1_lastBusiness_1 : decode cX1_lastBusiness 1 = .ok (.istore_n 2, 1) := by decide +kernel
theorem dX1_lastBusiness_2 : decode cX1_lastBusiness 2 = .ok (.iload_n 2, 1) := by decide +kernel
theorem dX1_lastBusiness_3 : decode cX1_lastBusiness 3 = .ok (.ifCond .lt 19, 3) := by decide +kernel
theorem dX1_lastBusiness_6 : decode cX1_lastBusiness 6 = .ok (.aload_n 0, 1) := by decide +kernel
theorem dX1_lastBusiness_7 : decode cX1_lastBusiness 7 = .ok (.iload_n 2, 1) := by decide +kernel
theorem dX1_lastBusiness_8 : decode cX1_lastBusiness 8 = .ok (.invokevirtual 32, 3) := by decide +kernel
theorem dX1_lastBusiness_11 : decode cX1_lastBusiness 11 = .ok (.ifCond .eq 5, 3) := by decide +kernel
theorem dX1_lastBusiness_14 : decode cX1_lastBusiness 14 = .ok (.iload_n 2, 1) := by decide +kernel
theorem dX1_lastBusiness_15 : decode cX1_lastBusiness 15 = .ok (.ireturn, 1) := by decide +kernel
theorem dX1_lastBusiness_16 : decode cX1_lastBusiness 16 = .ok (.iinc 2 (-1), 3) := by decide +kernel
theorem dX1_lastBusiness_19 : decode cX1_lastBusiness 19 = .ok (.goto (-17), 3) := by decide +kernel
theorem dX1_lastBusiness_22 : decode cX1_lastBusiness 22 = .ok (.bipush (-6), 2) := by decide +kernel
theorem dX1_lastBusiness_24 : decode cX1_lastBusiness 24 = .ok (.ireturn, 1) := by decide +kernel
theorem dX1_shifted_0 : decode cX1_shifted 0 = .ok (.iload_n 2, 1) := by decide +kernel
theorem dX1_shifted_1 : decode cX1_shifted 1 = .ok (.ifCond .eq 8, 3) := by decide +kernel
theorem dX1_shifted_4 : decode cX1_shifted 4 = .ok (.iload_n 2, 1) := by decide +kernel
theorem dX1_shifted_5 : decode cX1_shifted 5 = .ok (.iconst 4, 1) := by decide +kernel
theorem dX1_shifted_6 : decode cX1_shifted 6 = .ok (.if_icmp .ne 5, 3) := by decide +kernel
theorem dX1_shifted_9 : decode cX1_shifted 9 = .ok (.iload_n 1, 1) := by decide +kernel
theorem dX1_shifted_10 : decode cX1_shifted 10 = .ok (.ireturn, 1) := by decide +kernel
theorem dX1_shifted_11 : decode cX1_shifted 11 = .ok (.iload_n 2, 1) := by decide +kernel
theorem dX1_shifted_12 : decode cX1_shifted 12 = .ok (.iconst 2, 1) := by decide +kernel
theorem dX1_shifted_13 : decode cX1_shifted 13 = .ok (.if_icmp .ne 11, 3) := by decide +kernel
theorem dX1_shifted_16 : decode cX1_shifted 16 = .ok (.aload_n 0, 1) := by decide +kernel
theorem dX1_shifted_17 : decode cX1_shifted 17 = .ok (.iload_n 1, 1) := by decide +kernel
theorem dX1_shifted_18 : decode cX1_shifted 18 = .ok (.invokevirtual 36, 3) := by decide +kernel
theorem dX1_shifted_21 : decode cX1_shifted 21 = .ok (.goto 8, 3) := by decide +kernel
theorem dX1_shifted_24 : decode cX1_shifted 24 = .ok (.aload_n 0, 1) := by decide +kernel
theorem dX1_shifted_25 : decode cX1_shifted 25 = .ok (.iload_n 1, 1) := by decide +kernel
theorem dX1_shifted_26 : decode cX1_shifted 26 = .ok (.invokevirtual 40, 3) := by decide +kernel
theorem dX1_shifted_29 : decode cX1_shifted 29 = .ok (.istore_n 3, 1) := by decide +kernel
theorem dX1_shifted_30 : decode cX1_shifted 30 = .ok (.iload_n 2, 1) := by decide +kernel
theorem dX1_shifted_31 : decode cX1_shifted 31 = .ok (.iconst 3, 1) := by decide +kernel
theorem dX1_shifted_32 : decode cX1_shifted 32 = .ok (.if_icmp .ne 26, 3) := by decide +kernel
theorem dX1_shifted_35 : decode cX1_shifted 35 = .ok (.iload_n 3, 1) := by decide +kernel
theorem dX1_shifted_36 : decode cX1_shifted 36 = .ok (.bipush (-6), 2) := by decide +kernel
theorem dX1_shifted_38 : decode cX1_shifted 38 = .ok (.if_icmp .eq 14, 3) := by decide +kernel
theorem dX1_shifted_41 : decode cX1_shifted 41 = .ok (.iload_n 3, 1) := by decide +kernel
theorem dX1_shifted_42 : decode cX1_shifted 42 = .ok (.invokestatic 43, 3) := by decide +kernel
theorem dX1_shifted_45 : decode cX1_shifted 45 = .ok (.iload_n 1, 1) := by decide +kernel
theorem dX1_shifted_46 : decode cX1_shifted 46 = .ok (.invokestatic 43, 3) := by decide +kernel
theorem dX1_shifted_49 : decode cX1_shifted 49 = .ok (.if_icmp .eq 9, 3) := by decide +kernel
theorem dX1_shifted_52 : decode cX1_shifted 52 = .ok (.aload_n 0, 1) := by decide +kernel
theorem dX1_shifted_53 : decode cX1_shifted 53 = .ok (.iload_n 1, 1) := by decide +kernel
theorem dX1_shifted_54 : decode cX1_shifted 54 = .ok (.invokevirtual 36, 3) := by decide +kernel
theorem dX1_shifted_57 : decode cX1_shifted 57 = .ok (.istore_n 3, 1) := by decide +kernel
theorem dX1_shifted_58 : decode cX1_shifted 58 = .ok (.iload_n 3, 1) := by decide +kernel
theorem dX1_shifted_59 : decode cX1_shifted 59 = .ok (.bipush (-6), 2) := by decide +kernel
theorem dX1_shifted_61 : decode cX1_shifted 61 = .ok (.if_icmp .ne 7, 3) := by decide +kernel
theorem dX1_shifted_64 : decode cX1_shifted 64 = .ok (.iload_n 1, 1) := by decide +kernel
theorem dX1_shifted_65 : decode cX1_shifted 65 = .ok (.goto 4, 3) := by decide +kernel
theorem dX1_shifted_68 : decode cX1_shifted 68 = .ok (.iload_n 3, 1) := by decide +kernel
theorem dX1_shifted_69 : decode cX1_shifted 69 = .ok (.ireturn, 1) := by decide +kernel
theorem dX1_mark_0 : decode cX1_mark 0 = .ok (.iload_n 1, 1) := by decide +kernel
theorem dX1_mark_1 : decode cX1_mark 1 = .ok (.iconst 0, 1) := by decide +kernel
theorem dX1_mark_2 : decode cX1_mark 2 = .ok (.sipush 1094, 3) := by decide +kernel
theorem dX1_mark_5 : decode cX1_mark 5 = .ok (.invokestatic 46, 3) := by decide +kernel
theorem dX1_mark_8 : decode cX1_mark 8 = .ok (.ifCond .eq 12, 3) := by decide +kernel
theorem dX1_mark_11 : decode cX1_mark 11 = .ok (.iload_n 2, 1) := by decide +kernel
theorem dX1_mark_12 : decode cX1_mark 12 = .ok (.iconst 0, 1) := by decide +kernel
theorem dX1_mark_13 : decode cX1_mark 13 = .ok (.iconst 1, 1) := by decide +kernel
theorem dX1_mark_14 : decode cX1_mark 14 = .ok (.invokestatic 46, 3) := by decide +kernel
theorem dX1_mark_17 : decode cX1_mark 17 = .ok (.ifCond .ne 6, 3) := by decide +kernel
theorem dX1_mark_20 : decode cX1_mark 20 = .ok (.bipush (-2), 2) := by decide +kernel
theorem dX1_mark_22 : decode cX1_mark 22 = .ok (.ireturn, 1) := by decide +kernel
theorem dX1_mark_23 : decode cX1_mark 23 = .ok (.aload_n 0, 1) := by decide +kernel
theorem dX1_mark_24 : decode cX1_mark 24 = .ok (.iload_n 1, 1) := by decide +kernel
theorem dX1_mark_25 : decode cX1_mark 25 = .ok (.invokevirtual 50, 3) := by decide +kernel
theorem dX1_mark_28 : decode cX1_mark 28 = .ok (.iload_n 2, 1) := by decide +kernel
theorem dX1_mark_29 : decode cX1_mark 29 = .ok (.iconst 1, 1) := by decide +kernel
theorem dX1_mark_30 : decode cX1_mark 30 = .ok (.if_icmp .ne 7, 3) := by decide +kernel
theorem dX1_mark_33 : decode cX1_mark 33 = .ok (.iconst 1, 1) := by decide +kernel
theorem dX1_mark_34 : decode cX1_mark 34 = .ok (.goto 4, 3) := by decide +kernel
theorem dX1_mark_37 : decode cX1_mark 37 = .ok (.iconst 0, 1) := by decide +kernel
theorem dX1_mark_38 : decode cX1_mark 38 = .ok (.if_icmp .ne 8, 3) := by decide +kernel
theorem dX1_mark_41 : decode cX1_mark 41 = .ok (.aload_n 0, 1) := by decide +kernel
theorem dX1_mark_42 : decode cX1_mark 42 = .ok (.getfield 21, 3) := by decide +kernel
theorem dX1_mark_45 : decode cX1_mark 45 = .ok (.ireturn, 1) := by decide +kernel
theorem dX1_mark_46 : decode cX1_mark 46 = .ok (.iload_n 2, 1) := by decide +kernel
theorem dX1_mark_47 : decode cX1_mark 47 = .ok (.iconst 1, 1) := by decide +kernel
theorem dX1_mark_48 : decode cX1_mark 48 = .ok (.if_icmp .ne 15, 3) := by decide +kernel
theorem dX1_mark_51 : decode cX1_mark 51 = .ok (.aload_n 0, 1) := by decide +kernel
theorem dX1_mark_52 : decode cX1_mark 52 = .ok (.getfield 21, 3) := by decide +kernel
theorem dX1_mark_55 : decode cX1_mark 55 = .ok (.bipush 20, 2) := by decide +kernel
theorem dX1_mark_57 : decode cX1_mark 57 = .ok (.if_icmp .lt 6, 3) := by decide +kernel
theorem dX1_mark_60 : decode cX1_mark 60 = .ok (.bipush (-4), 2) := by decide +kernel
theorem dX1_mark_62 : decode cX1_mark 62 = .ok (.ireturn, 1) := by decide +kernel
theorem dX1_mark_63 : decode cX1_mark 63 = .ok (.aload_n 0, 1) := by decide +kernel
theorem dX1_mark_64 : decode cX1_mark 64 = .ok (.getfield 9, 3) := by decide +kernel
theorem dX1_mark_67 : decode cX1_mark 67 = .ok (.iload_n 1, 1) := by decide +kernel
theorem dX1_mark_68 : decode cX1_mark 68 = .ok (.bipush 6, 2) := by decide +kernel
theorem dX1_mark_70 : decode cX1_mark 70 = .ok (.ishr, 1) := by decide +kernel
theorem dX1_mark_71 : decode cX1_mark 71 = .ok (.dup2, 1) := by decide +kernel
theorem dX1_mark_72 : decode cX1_mark 72 = .ok (.laload, 1) := by decide +kernel
theorem dX1_mark_73 : decode cX1_mark 73 = .ok (.lconst 1, 1) := by decide +kernel
theorem dX1_mark_74 : decode cX1_mark 74 = .ok (.iload_n 1, 1) := by decide +kernel
theorem dX1_mark_75 : decode cX1_mark 75 = .ok (.bipush 63, 2) := by decide +kernel
theorem dX1_mark_77 : decode cX1_mark 77 = .ok (.iand, 1) := by decide +kernel
theorem dX1_mark_78 : decode cX1_mark 78 = .ok (.lshl, 1) := by decide +kernel
theorem dX1_mark_79 : decode cX1_mark 79 = .ok (.lxor, 1) := by decide +kernel
theorem dX1_mark_80 : decode cX1_mark 80 = .ok (.lastore, 1) := by decide +kernel
theorem dX1_mark_81 : decode cX1_mark 81 = .ok (.aload_n 0, 1) := by decide +kernel
theorem dX1_mark_82 : decode cX1_mark 82 = .ok (.dup, 1) := by decide +kernel
theorem dX1_mark_83 : decode cX1_mark 83 = .ok (.getfield 21, 3) := by decide +kernel
theorem dX1_mark_86 : decode cX1_mark 86 = .ok (.iload_n 2, 1) := by decide +kernel
theorem dX1_mark_87 : decode cX1_mark 87 = .ok (.iconst 1, 1) := by decide +kernel
theorem dX1_mark_88 : decode cX1_mark 88 = .ok (.if_icmp .ne 7, 3) := by decide +kernel
theorem dX1_mark_91 : decode cX1_mark 91 = .ok (.iconst 1, 1) := by decide +kernel
theorem dX1_mark_92 : decode cX1_mark 92 = .ok (.goto 4, 3) := by decide +kernel
theorem dX1_mark_95 : decode cX1_mark 95 = .ok (.iconst (-1), 1) := by decide +kernel
theorem dX1_mark_96 : decode cX1_mark 96 = .ok (.iadd, 1) := by decide +kernel
theorem dX1_mark_97 : decode cX1_mark 97 = .ok (.putfield 21, 3) := by decide +kernel
theorem dX1_mark_100 : decode cX1_mark 100 = .ok (.aload_n 0, 1) := by decide +kernel
theorem dX1_mark_101 : decode cX1_mark 101 = .ok (.getfield 21, 3) := by decide +kernel
theorem dX1_mark_104 : decode cX1_mark 104 = .ok (.ireturn, 1) := by decide +kernel
theorem dX1_numberOf_0 : decode cX1_numberOf 0 = .ok (.iload_n 2, 1) := by decide +kernel
theorem dX1_numberOf_1 : decode cX1_numberOf 1 = .ok (.tableswitch 88 0 5 #[39, 45, 50, 62, 76, 82], 39) := by decide +kernel
theorem dX1_numberOf_40 : decode cX1_numberOf 40 = .ok (.aload_n 0, 1) := by decide +kernel
theorem dX1_numberOf_41 : decode cX1_numberOf 41 = .ok (.iload_n 1, 1) := by decide +kernel
theorem dX1_numberOf_42 : decode cX1_numberOf 42 = .ok (.invokevirtual 53, 3) := by decide +kernel
theorem dX1_numberOf_45 : decode cX1_numberOf 45 = .ok (.ireturn, 1) := by decide +kernel
theorem dX1_numberOf_46 : decode cX1_numberOf 46 = .ok (.iload_n 1, 1) := by decide +kernel
theorem dX1_numberOf_47 : decode cX1_numberOf 47 = .ok (.invokestatic 43, 3) := by decide +kernel
theorem dX1_numberOf_50 : decode cX1_numberOf 50 = .ok (.ireturn, 1) := by decide +kernel
theorem dX1_numberOf_51 : decode cX1_numberOf 51 = .ok (.iload_n 1, 1) := by decide +kernel
theorem dX1_numberOf_52 : decode cX1_numberOf 52 = .ok (.iload_n 1, 1) := by decide +kernel
theorem dX1_numberOf_53 : decode cX1_numberOf 53 = .ok (.invokestatic 43, 3) := by decide +kernel
theorem dX1_numberOf_56 : decode cX1_numberOf 56 = .ok (.invokestatic 56, 3) := by decide +kernel
theorem dX1_numberOf_59 : decode cX1_numberOf 59 = .ok (.isub, 1) := by decide +kernel
theorem dX1_numberOf_60 : decode cX1_numberOf 60 = .ok (.iconst 1, 1) := by decide +kernel
theorem dX1_numberOf_61 : decode cX1_numberOf 61 = .ok (.iadd, 1) := by decide +kernel
theorem dX1_numberOf_62 : decode cX1_numberOf 62 = .ok (.ireturn, 1) := by decide +kernel
theorem dX1_numberOf_63 : decode cX1_numberOf 63 = .ok (.aload_n 0, 1) := by decide +kernel
theorem dX1_numberOf_64 : decode cX1_numberOf 64 = .ok (.iload_n 1, 1) := by decide +kernel
theorem dX1_numberOf_65 : decode cX1_numberOf 65 = .ok (.invokevirtual 32, 3) := by decide +kernel
theorem dX1_numberOf_68 : decode cX1_numberOf 68 = .ok (.ifCond .eq 7, 3) := by decide +kernel
theorem dX1_numberOf_71 : decode cX1_numberOf 71 = .ok (.iconst 1, 1) := by decide +kernel
theorem dX1_numberOf_72 : decode cX1_numberOf 72 = .ok (.goto 4, 3) := by decide +kernel
theorem dX1_numberOf_75 : decode cX1_numberOf 75 = .ok (.iconst 0, 1) := by decide +kernel
theorem dX1_numberOf_76 : decode cX1_numberOf 76 = .ok (.ireturn, 1) := by decide +kernel
theorem dX1_numberOf_77 : decode cX1_numberOf 77 = .ok (.aload_n 0, 1) := by decide +kernel
theorem dX1_numberOf_78 : decode cX1_numberOf 78 = .ok (.iload_n 1, 1) := by decide +kernel
theorem dX1_numberOf_79 : decode cX1_numberOf 79 = .ok (.invokevirtual 40, 3) := by decide +kernel
theorem dX1_numberOf_82 : decode cX1_numberOf 82 = .ok (.ireturn, 1) := by decide +kernel
theorem dX1_numberOf_83 : decode cX1_numberOf 83 = .ok (.aload_n 0, 1) := by decide +kernel
theorem dX1_numberOf_84 : decode cX1_numberOf 84 = .ok (.iload_n 1, 1) := by decide +kernel
theorem dX1_numberOf_85 : decode cX1_numberOf 85 = .ok (.invokevirtual 36, 3) := by decide +kernel
theorem dX1_numberOf_88 : decode cX1_numberOf 88 = .ok (.ireturn, 1) := by decide +kernel
theorem dX1_numberOf_89 : decode cX1_numberOf 89 = .ok (.bipush (-2), 2) := by decide +kernel
theorem dX1_numberOf_91 : decode cX1_numberOf 91 = .ok (.ireturn, 1) := by decide +kernel
theorem dX2_init_0 : decode cX2_init 0 = .ok (.aload_n 0, 1) := by decide +kernel
theorem dX2_init_1 : decode cX2_init 1 = .ok (.invokespecial 3, 3) := by decide +kernel
theorem dX2_init_4 : decode cX2_init 4 = .ok (.aload_n 0, 1) := by decide +kernel
theorem dX2_init_5 : decode cX2_init 5 = .ok (.new 9, 3) := by decide +kernel
theorem dX2_init_8 : decode cX2_init 8 = .ok (.dup, 1) := by decide +kernel
theorem dX2_init_9 : decode cX2_init 9 = .ok (.invokespecial 11, 3) := by decide +kernel
theorem dX2_init_12 : decode cX2_init 12 = .ok (.putfield 12, 3) := by decide +kernel
theorem dX2_init_15 : decode cX2_init 15 = .ok (.aload_n 0, 1) := by decide +kernel
theorem dX2_init_16 : decode cX2_init 16 = .ok (.bipush 8, 2) := by decide +kernel
theorem dX2_init_18 : decode cX2_init 18 = .ok (.anewarray 18, 3) := by decide +kernel
theorem dX2_init_21 : decode cX2_init 21 = .ok (.putfield 20, 3) := by decide +kernel
theorem dX2_init_24 : decode cX2_init 24 = .ok (.aload_n 0, 1) := by decide +kernel
theorem dX2_init_25 : decode cX2_init 25 = .ok (.bipush 16, 2) := by decide +kernel
theorem dX2_init_27 : decode cX2_init 27 = .ok (.anewarray 24, 3) := by decide +kernel
theorem dX2_init_30 : decode cX2_init 30 = .ok (.putfield 26, 3) := by decide +kernel
theorem dX2_init_33 : decode cX2_init 33 = .ok (.aload_n 0, 1) := by decide +kernel
theorem dX2_init_34 : decode cX2_init 34 = .ok (.new 30, 3) := by decide +kernel
theorem dX2_init_37 : decode cX2_init 37 = .ok (.dup, 1) := by decide +kernel
theorem dX2_init_38 : decode cX2_init 38 = .ok (.invokespecial 32, 3) := by decide +kernel
theorem dX2_init_41 : decode cX2_init 41 = .ok (.putfield 33, 3) := by decide +kernel
theorem dX2_init_44 : decode cX2_init 44 = .ok (.aload_n 0, 1) := by decide +kernel
theorem dX2_init_45 : decode cX2_init 45 = .ok (.iconst 3, 1) := by decide +kernel
theorem dX2_init_46 : decode cX2_init 46 = .ok (.putfield 37, 3) := by decide +kernel
theorem dX2_init_49 : decode cX2_init 49 = .ok (.aload_n 0, 1) := by decide +kernel
theorem dX2_init_50 : decode cX2_init 50 = .ok (.sipush 250, 3) := by decide +kernel
theorem dX2_init_53 : decode cX2_init 53 = .ok (.putfield 41, 3) := by decide +kernel
theorem dX2_init_56 : decode cX2_init 56 = .ok (.aload_n 0, 1) := by decide +kernel
theorem dX2_init_57 : decode cX2_init 57 = .ok (.bipush 120, 2) := by decide +kernel
theorem dX2_init_59 : decode cX2_init 59 = .ok (.putfield 44, 3) := by decide +kernel
theorem dX2_init_62 : decode cX2_init 62 = .ok (.iconst 0, 1) := by decide +kernel
theorem dX2_init_63 : decode cX2_init 63 = .ok (.istore_n 1, 1) := by decide +kernel
theorem dX2_init_64 : decode cX2_init 64 = .ok (.iload_n 1, 1) := by decide +kernel
theorem dX2_init_65 : decode cX2_init 65 = .ok (.bipush 8, 2) := by decide +kernel
theorem dX2_init_67 : decode cX2_init 67 = .ok (.if_icmp .ge 22, 3) := by decide +kernel
theorem dX2_init_70 : decode cX2_init 70 = .ok (.aload_n 0, 1) := by decide +kernel
theorem dX2_init_71 : decode cX2_init 71 = .ok (.getfield 20, 3) := by decide +kernel
theorem dX2_init_74 : decode cX2_init 74 = .ok (.iload_n 1, 1) := by decide +kernel
theorem dX2_init_75 : decode cX2_init 75 = .ok (.new 18, 3) := by decide +kernel
theorem dX2_init_78 : decode cX2_init 78 = .ok (.dup, 1) := by decide +kernel
theorem dX2_init_79 : decode cX2_init 79 = .ok (.invokespecial 47, 3) := by decide +kernel
theorem dX2_init_82 : decode cX2_init 82 = .ok (.aastore, 1) := by decide +kernel
theorem dX2_init_83 : decode cX2_init 83 = .ok (.iinc 1 1, 3) := by decide +kernel
theorem dX2_init_86 : decode cX2_init 86 = .ok (.goto (-22), 3) := by decide +kernel
theorem dX2_init_89 : decode cX2_init 89 = .ok (.iconst 0, 1) := by decide +kernel
theorem dX2_init_90 : decode cX2_init 90 = .ok (.istore_n 1, 1) := by decide +kernel
theorem dX2_init_91 : decode cX2_init 91 = .ok (.iload_n 1, 1) := by decide +kernel
theorem dX2_init_92 : decode cX2_init 92 = .ok (.bipush 16, 2) := by decide +kernel
theorem dX2_init_94 : decode cX2_init 94 = .ok (.if_icmp .ge 22, 3) := by decide +kernel
theorem dX2_init_97 : decode cX2_init 97 = .ok (.aload_n 0, 1) := by decide +kernel
theorem dX2_init_98 : decode cX2_init 98 = .ok (.getfield 26, 3) := by decide +kernel
theorem dX2_init_101 : decode cX2_init 101 = .ok (.iload_n 1, 1) := by decide +kernel
theorem dX2_init_102 : decode cX2_init 102 = .ok (.new 24, 3) := by decide +kernel
theorem dX2_init_105 : decode cX2_init 105 = .ok (.dup, 1) := by decide +kernel
theorem dX2_init_106 : decode cX2_init 106 = .ok (.invokespecial 48, 3) := by decide +kernel
theorem dX2_init_109 : decode cX2_init 109 = .ok (.aastore, 1) := by decide +kernel
theorem dX2_init_110 : decode cX2_init 110 = .ok (.iinc 1 1, 3) := by decide +kernel
theorem dX2_init_113 : decode cX2_init 113 = .ok (.goto (-22), 3) := by decide +kernel
theorem dX2_init_116 : decode cX2_init 116 = .ok (.return_, 1) := by decide +kernel
theorem dX2_copyFrom_0 : decode cX2_copyFrom 0 = .ok (.aload_n 0, 1) := by decide +kernel
theorem dX2_copyFrom_1 : decode cX2_copyFrom 1 = .ok (.getfield 12, 3) := by decide +kernel
theorem dX2_copyFrom_4 : decode cX2_copyFrom 4 = .ok (.aload_n 1, 1) := by decide +kernel
theorem dX2_copyFrom_5 : decode cX2_copyFrom 5 = .ok (.getfield 12, 3) := by decide +kernel
theorem dX2_copyFrom_8 : decode cX2_copyFrom 8 = .ok (.invokevirtual 49, 3) := by decide +kernel
theorem dX2_copyFrom_11 : decode cX2_copyFrom 11 = .ok (.iconst 0, 1) := by decide +kernel
theorem dX2_copyFrom_12 : decode cX2_copyFrom 12 = .ok (.istore_n 2, 1) := by decide +kernel
theorem dX2_copyFrom_13 : decode cX2_copyFrom 13 = .ok (.iload_n 2, 1) := by decide +kernel
theorem dX2_copyFrom_14 : decode cX2_copyFrom 14 = .ok (.aload_n 1, 1) := by decide +kernel
theorem dX2_copyFrom_15 : decode cX2_copyFrom 15 = .ok (.getfield 53, 3) := by decide +kernel
theorem dX2_copyFrom_18 : decode cX2_copyFrom 18 = .ok (.if_icmp .ge 24, 3) := by decide +kernel
theorem dX2_copyFrom_21 : decode cX2_copyFrom 21 = .ok (.aload_n 0, 1) := by decide +kernel
theorem dX2_copyFrom_22 : decode cX2_copyFrom 22 = .ok (.getfield 20, 3) := by decide +kernel
theorem dX2_copyFrom_25 : decode cX2_copyFrom 25 = .ok (.iload_n 2, 1) := by decide +kernel
theorem dX2_copyFrom_26 : decode cX2_copyFrom 26 = .ok (.aaload, 1) := by decide +kernel
theorem dX2_copyFrom_27 : decode cX2_copyFrom 27 = .ok (.aload_n 1, 1) := by decide +kernel
theorem dX2_copyFrom_28 : decode cX2_copyFrom 28 = .ok (.getfield 20, 3) := by decide +kernel
theorem dX2_copyFrom_31 : decode cX2_copyFrom 31 = .ok (.iload_n 2, 1) := by decide +kernel
theorem dX2_copyFrom_32 : decode cX2_copyFrom 32 = .ok (.aaload, 1) := by decide +kernel
theorem dX2_copyFrom_33 : decode cX2_copyFrom 33 = .ok (.invokevirtual 56, 3) := by decide +kernel
theorem dX2_copyFrom_36 : decode cX2_copyFrom 36 = .ok (.iinc 2 1, 3) := by decide +kernel
theorem dX2_copyFrom_39 : decode cX2_copyFrom 39 = .ok (.goto (-26), 3) := by decide +kernel
theorem dX2_copyFrom_42 : decode cX2_copyFrom 42 = .ok (.iconst 0, 1) := by decide +kernel
theorem dX2_copyFrom_43 : decode cX2_copyFrom 43 = .ok (.istore_n 2, 1) := by decide +kernel
theorem dX2_copyFrom_44 : decode cX2_copyFrom 44 = .ok (.iload_n 2, 1) := by decide +kernel
theorem dX2_copyFrom_45 : decode cX2_copyFrom 45 = .ok (.aload_n 1, 1) := by decide +kernel
theorem dX2_copyFrom_46 : decode cX2_copyFrom 46 = .ok (.getfield 59, 3) := by decide +kernel
theorem dX2_copyFrom_49 : decode cX2_copyFrom 49 = .ok (.if_icmp .ge 24, 3) := by decide +kernel
theorem dX2_copyFrom_52 : decode cX2_copyFrom 52 = .ok (.aload_n 0, 1) := by decide +kernel
theorem dX2_copyFrom_53 : decode cX2_copyFrom 53 = .ok (.getfield 26, 3) := by decide +kernel
theorem dX2_copyFrom_56 : decode cX2_copyFrom 56 = .ok (.iload_n 2, 1) := by decide +kernel
theorem dX2_copyFrom_57 : decode cX2_copyFrom 57 = .ok (.aaload, 1) := by decide +kernel
theorem dX2_copyFrom_58 : decode cX2_copyFrom 58 = .ok (.aload_n 1, 1) := by decide +kernel
theorem dX2_copyFrom_59 : decode cX2_copyFrom 59 = .ok (.getfield 26, 3) := by decide +kernel
theorem dX2_copyFrom_62 : decode cX2_copyFrom 62 = .ok (.iload_n 2, 1) := by decide +kernel
theorem dX2_copyFrom_63 : decode cX2_copyFrom 63 = .ok (.aaload, 1) := by decide +kernel
theorem dX2_copyFrom_64 : decode cX2_copyFrom 64 = .ok (.invokevirtual 62, 3) := by decide +kernel
theorem dX2_copyFrom_67 : decode cX2_copyFrom 67 = .ok (.iinc 2 1, 3) := by decide +kernel
theorem dX2_copyFrom_70 : decode cX2_copyFrom 70 = .ok (.goto (-26), 3) := by decide +kernel
theorem dX2_copyFrom_73 : decode cX2_copyFrom 73 = .ok (.aload_n 0, 1) := by decide +kernel
theorem dX2_copyFrom_74 : decode cX2_copyFrom 74 = .ok (.getfield 33, 3) := by decide +kernel
theorem dX2_copyFrom_77 : decode cX2_copyFrom 77 = .ok (.aload_n 1, 1) := by decide +kernel
theorem dX2_copyFrom_78 : decode cX2_copyFrom 78 = .ok (.getfield 33, 3) := by decide +kernel
theorem dX2_copyFrom_81 : decode cX2_copyFrom 81 = .ok (.invokevirtual 65, 3) := by decide +kernel
theorem dX2_copyFrom_84 : decode cX2_copyFrom 84 = .ok (.aload_n 0, 1) := by decide +kernel
theorem dX2_copyFrom_85 : decode cX2_copyFrom 85 = .ok (.aload_n 1, 1) := by decide +kernel
theorem dX2_copyFrom_86 : decode cX2_copyFrom 86 = .ok (.getfield 53, 3) := by decide +kernel
theorem dX2_copyFrom_89 : decode cX2_copyFrom 89 = .ok (.putfield 53, 3) := by decide +kernel
theorem dX2_copyFrom_92 : decode cX2_copyFrom 92 = .ok (.aload_n 0, 1) := by decide +kernel
theorem dX2_copyFrom_93 : decode cX2_copyFrom 93 = .ok (.aload_n 1, 1) := by decide +kernel
theorem dX2_copyFrom_94 : decode cX2_copyFrom 94 = .ok (.getfield 59, 3) := by decide +kernel
theorem dX2_copyFrom_97 : decode cX2_copyFrom 97 = .ok (.putfield 59, 3) := by decide +kernel
theorem dX2_copyFrom_100 : decode cX2_copyFrom 100 = .ok (.aload_n 0, 1) := by decide +kernel
theorem dX2_copyFrom_101 : decode cX2_copyFrom 101 = .ok (.aload_n 1, 1) := by decide +kernel
theorem dX2_copyFrom_102 : decode cX2_copyFrom 102 = .ok (.getfield 68, 3) := by decide +kernel
theorem dX2_copyFrom_105 : decode cX2_copyFrom 105 = .ok (.putfield 68, 3) := by decide +kernel
theorem dX2_copyFrom_108 : decode cX2_copyFrom 108 = .ok (.aload_n 0, 1) := by decide +kernel
theorem dX2_copyFrom_109 : decode cX2_copyFrom 109 = .ok (.aload_n 1, 1) := by decide +kernel
theorem dX2_copyFrom_110 : decode cX2_copyFrom 110 = .ok (.getfield 37, 3) := by decide +kernel
theorem dX2_copyFrom_113 : decode cX2_copyFrom 113 = .ok (.putfield 37, 3) := by decide +kernel
theorem dX2_copyFrom_116 : decode cX2_copyFrom 116 = .ok (.aload_n 0, 1) := by decide +kernel
theorem dX2_copyFrom_117 : decode cX2_copyFrom 117 = .ok (.aload_n 1, 1) := by decide +kernel
theorem dX2_copyFrom_118 : decode cX2_copyFrom 118 = .ok (.getfield 41, 3) := by decide +kernel
theorem dX2_copyFrom_121 : decode cX2_copyFrom 121 = .ok (.putfield 41, 3) := by decide +kernel
theorem dX2_copyFrom_124 : decode cX2_copyFrom 124 = .ok (.aload_n 0, 1) := by decide +kernel
theorem dX2_copyFrom_125 : decode cX2_copyFrom 125 = .ok (.aload_n 1, 1) := by decide +kernel
theorem dX2_copyFrom_126 : decode cX2_copyFrom 126 = .ok (.getfield 44, 3) := by decide +kernel
theorem dX2_copyFrom_129 : decode cX2_copyFrom 129 = .ok (.putfield 44, 3) := by decide +kernel
theorem dX2_copyFrom_132 : decode cX2_copyFrom 132 = .ok (.aload_n 0, 1) := by decide +kernel
theorem dX2_copyFrom_133 : decode cX2_copyFrom 133 = .ok (.aload_n 1, 1) := by decide +kernel
theorem dX2_copyFrom_134 : decode cX2_copyFrom 134 = .ok (.getfield 71, 3) := by decide +kernel
theorem dX2_copyFrom_137 : decode cX2_copyFrom 137 = .ok (.putfield 71, 3) := by decide +kernel
theorem dX2_copyFrom_140 : decode cX2_copyFrom 140 = .ok (.return_, 1) := by decide +kernel
theorem dX2_hasAccount_0 : decode cX2_hasAccount 0 = .ok (.iload_n 1, 1) := by decide +kernel
theorem dX2_hasAccount_1 : decode cX2_hasAccount 1 = .ok (.ifCond .lt 15, 3) := by decide +kernel
theorem dX2_hasAccount_4 : decode cX2_hasAccount 4 = .ok (.iload_n 1, 1) := by decide +kernel
theorem dX2_hasAccount_5 : decode cX2_hasAccount 5 = .ok (.aload_n 0, 1) := by decide +kernel
theorem dX2_hasAccount_6 : decode cX2_hasAccount 6 = .ok (.getfield 53, 3) := by decide +kernel
theorem dX2_hasAccount_9 : decode cX2_hasAccount 9 = .ok (.if_icmp .ge 7, 3) := by decide +kernel
theorem dX2_hasAccount_12 : decode cX2_hasAccount 12 = .ok (.iconst 1, 1) := by decide +kernel
theorem dX2_hasAccount_13 : decode cX2_hasAccount 13 = .ok (.goto 4, 3) := by decide +kernel
theorem dX2_hasAccount_16 : decode cX2_hasAccount 16 = .ok (.iconst 0, 1) := by decide +kernel
theorem dX2_hasAccount_17 : decode cX2_hasAccount 17 = .ok (.ireturn, 1) := by decide +kernel
theorem dX2_hasOrder_0 : decode cX2_hasOrder 0 = .ok (.iload_n 1, 1) := by decide +kernel
theorem dX2_hasOrder_1 : decode cX2_hasOrder 1 = .ok (.ifCond .lt 15, 3) := by decide +kernel
theorem dX2_hasOrder_4 : decode cX2_hasOrder 4 = .ok (.iload_n 1, 1) := by decide +kernel
theorem dX2_hasOrder_5 : decode cX2_hasOrder 5 = .ok (.aload_n 0, 1) := by decide +kernel
theorem dX2_hasOrder_6 : decode cX2_hasOrder 6 = .ok (.getfield 59, 3) := by decide +kernel
theorem dX2_hasOrder_9 : decode cX2_hasOrder 9 = .ok (.if_icmp .ge 7, 3) := by decide +kernel
theorem dX2_hasOrder_12 : decode cX2_hasOrder 12 = .ok (.iconst 1, 1) := by decide +kernel
theorem dX2_hasOrder_13 : decode cX2_hasOrder 13 = .ok (.goto 4, 3) := by decide +kernel
theorem dX2_hasOrder_16 : decode cX2_hasOrder 16 = .ok (.iconst 0, 1) := by decide +kernel
theorem dX2_hasOrder_17 : decode cX2_hasOrder 17 = .ok (.ireturn, 1) := by decide +kernel
theorem dX2_settingOf_0 : decode cX2_settingOf 0 = .ok (.iload_n 1, 1) := by decide +kernel
theorem dX2_settingOf_1 : decode cX2_settingOf 1 = .ok (.tableswitch 42 0 2 #[27, 32, 37], 27) := by decide +kernel
theorem dX2_settingOf_28 : decode cX2_settingOf 28 = .ok (.aload_n 0, 1) := by decide +kernel
theorem dX2_settingOf_29 : decode cX2_settingOf 29 = .ok (.getfield 37, 3) := by decide +kernel
theorem dX2_settingOf_32 : decode cX2_settingOf 32 = .ok (.ireturn, 1) := by decide +kernel
theorem dX2_settingOf_33 : decode cX2_settingOf 33 = .ok (.aload_n 0, 1) := by decide +kernel
theorem dX2_settingOf_34 : decode cX2_settingOf 34 = .ok (.getfield 41, 3) := by decide +kernel
theorem dX2_settingOf_37 : decode cX2_settingOf 37 = .ok (.ireturn, 1) := by decide +kernel
theorem dX2_settingOf_38 : decode cX2_settingOf 38 = .ok (.aload_n 0, 1) := by decide +kernel
theorem dX2_settingOf_39 : decode cX2_settingOf 39 = .ok (.getfield 44, 3) := by decide +kernel
theorem dX2_settingOf_42 : decode cX2_settingOf 42 = .ok (.ireturn, 1) := by decide +kernel
theorem dX2_settingOf_43 : decode cX2_settingOf 43 = .ok (.aload_n 0, 1) := by decide +kernel
theorem dX2_settingOf_44 : decode cX2_settingOf 44 = .ok (.getfield 12, 3) := by decide +kernel
theorem dX2_settingOf_47 : decode cX2_settingOf 47 = .ok (.getfield 74, 3) := by decide +kernel
theorem dX2_settingOf_50 : decode cX2_settingOf 50 = .ok (.ireturn, 1) := by decide +kernel
theorem dX2_replaceSetting_0 : decode cX2_replaceSetting 0 = .ok (.iload_n 1, 1) := by decide +kernel
theorem dX2_replaceSetting_1 : decode cX2_replaceSetting 1 = .ok (.iconst 0, 1) := by decide +kernel
theorem dX2_replaceSetting_2 : decode cX2_replaceSetting 2 = .ok (.iconst 3, 1) := by decide +kernel
theorem dX2_replaceSetting_3 : decode cX2_replaceSetting 3 = .ok (.invokestatic 77, 3) := by decide +kernel
theorem dX2_replaceSetting_6 : decode cX2_replaceSetting 6 = .ok (.ifCond .ne 6, 3) := by decide +kernel
theorem dX2_replaceSetting_9 : decode cX2_replaceSetting 9 = .ok (.bipush (-2), 2) := by decide +kernel
theorem dX2_replaceSetting_11 : decode cX2_replaceSetting 11 = .ok (.ireturn, 1) := by decide +kernel
theorem dX2_replaceSetting_12 : decode cX2_replaceSetting 12 = .ok (.iload_n 2, 1) := by decide +kernel
theorem dX2_replaceSetting_13 : decode cX2_replaceSetting 13 = .ok (.getstatic 81, 3) := by decide +kernel
theorem dX2_replaceSetting_16 : decode cX2_replaceSetting 16 = .ok (.iload_n 1, 1) := by decide +kernel
theorem dX2_replaceSetting_17 : decode cX2_replaceSetting 17 = .ok (.iaload, 1) := by decide +kernel
theorem dX2_replaceSetting_18 : decode cX2_replaceSetting 18 = .ok (.getstatic 85, 3) := by decide +kernel
theorem dX2_replaceSetting_21 : decode cX2_replaceSetting 21 = .ok (.iload_n 1, 1) := by decide +kernel
theorem dX2_replaceSetting_22 : decode cX2_replaceSetting 22 = .ok (.iaload, 1) := by decide +kernel
theorem dX2_replaceSetting_23 : decode cX2_replaceSetting 23 = .ok (.invokestatic 77, 3) := by decide +kernel
theorem dX2_replaceSetting_26 : decode cX2_replaceSetting 26 = .ok (.ifCond .ne 6, 3) := by decide +kernel
theorem dX2_replaceSetting_29 : decode cX2_replaceSetting 29 = .ok (.bipush (-2), 2) := by decide +kernel
theorem dX2_replaceSetting_31 : decode cX2_replaceSetting 31 = .ok (.ireturn, 1) := by decide +kernel
theorem dX2_replaceSetting_32 : decode cX2_replaceSetting 32 = .ok (.aload_n 0, 1) := by decide +kernel
theorem dX2_replaceSetting_33 : decode cX2_replaceSetting 33 = .ok (.iload_n 1, 1) := by decide +kernel
theorem dX2_replaceSetting_34 : decode cX2_replaceSetting 34 = .ok (.invokevirtual 88, 3) := by decide +kernel
theorem dX2_replaceSetting_37 : decode cX2_replaceSetting 37 = .ok (.istore_n 3, 1) := by decide +kernel
theorem dX2_replaceSetting_38 : decode cX2_replaceSetting 38 = .ok (.iload_n 1, 1) := by decide +kernel
theorem dX2_replaceSetting_39 : decode cX2_replaceSetting 39 = .ok (.tableswitch 49 0 2 #[25, 33, 41], 25) := by decide +kernel
theorem dX2_replaceSetting_64 : decode cX2_replaceSetting 64 = .ok (.aload_n 0, 1) := by decide +kernel
theorem dX2_replaceSetting_65 : decode cX2_replaceSetting 65 = .ok (.iload_n 2, 1) := by decide +kernel
theorem dX2_replaceSetting_66 : decode cX2_replaceSetting 66 = .ok (.putfield 37, 3) := by decide +kernel
theorem dX2_replaceSetting_69 : decode cX2_replaceSetting 69 = .ok (.goto 27, 3) := by decide +kernel
theorem dX2_replaceSetting_72 : decode cX2_replaceSetting 72 = .ok (.aload_n 0, 1) := by decide +kernel
theorem dX2_replaceSetting_73 : decode cX2_replaceSetting 73 = .ok (.iload_n 2, 1) := by decide +kernel
theorem dX2_replaceSetting_74 : decode cX2_replaceSetting 74 = .ok (.putfield 41, 3) := by decide +kernel
theorem dX2_replaceSetting_77 : decode cX2_replaceSetting 77 = .ok (.goto 19, 3) := by decide +kernel
theorem dX2_replaceSetting_80 : decode cX2_replaceSetting 80 = .ok (.aload_n 0, 1) := by decide +kernel
theorem dX2_replaceSetting_81 : decode cX2_replaceSetting 81 = .ok (.iload_n 2, 1) := by decide +kernel
theorem dX2_replaceSetting_82 : decode cX2_replaceSetting 82 = .ok (.putfield 44, 3) := by decide +kernel
theorem dX2_replaceSetting_85 : decode cX2_replaceSetting 85 = .ok (.goto 11, 3) := by decide +kernel
theorem dX2_replaceSetting_88 : decode cX2_replaceSetting 88 = .ok (.aload_n 0, 1) := by decide +kernel
theorem dX2_replaceSetting_89 : decode cX2_replaceSetting 89 = .ok (.getfield 12, 3) := by decide +kernel
theorem dX2_replaceSetting_92 : decode cX2_replaceSetting 92 = .ok (.iload_n 2, 1) := by decide +kernel
theorem dX2_replaceSetting_93 : decode cX2_replaceSetting 93 = .ok (.putfield 74, 3) := by decide +kernel
theorem dX2_replaceSetting_96 : decode cX2_replaceSetting 96 = .ok (.iload_n 3, 1) := by decide +kernel
theorem dX2_replaceSetting_97 : decode cX2_replaceSetting 97 = .ok (.ireturn, 1) := by decide +kernel
theorem dX2_addAccount_0 : decode cX2_addAccount 0 = .ok (.iload_n 1, 1) := by decide +kernel
theorem dX2_addAccount_1 : decode cX2_addAccount 1 = .ok (.iconst 0, 1) := by decide +kernel
theorem dX2_addAccount_2 : decode cX2_addAccount 2 = .ok (.ldc 92, 2) := by decide +kernel
theorem dX2_addAccount_4 : decode cX2_addAccount 4 = .ok (.invokestatic 77, 3) := by decide +kernel
theorem dX2_addAccount_7 : decode cX2_addAccount 7 = .ok (.ifCond .eq 13, 3) := by decide +kernel
theorem dX2_addAccount_10 : decode cX2_addAccount 10 = .ok (.iload_n 2, 1) := by decide +kernel
theorem dX2_addAccount_11 : decode cX2_addAccount 11 = .ok (.iconst 0, 1) := by decide +kernel
theorem dX2_addAccount_12 : decode cX2_addAccount 12 = .ok (.ldc 92, 2) := by decide +kernel
theorem dX2_addAccount_14 : decode cX2_addAccount 14 = .ok (.invokestatic 77, 3) := by decide +kernel
theorem dX2_addAccount_17 : decode cX2_addAccount 17 = .ok (.ifCond .ne 6, 3) := by decide +kernel
theorem dX2_addAccount_20 : decode cX2_addAccount 20 = .ok (.bipush (-2), 2) := by decide +kernel
theorem dX2_addAccount_22 : decode cX2_addAccount 22 = .ok (.ireturn, 1) := by decide +kernel
theorem dX2_addAccount_23 : decode cX2_addAccount 23 = .ok (.aload_n 0, 1) := by decide +kernel
theorem dX2_addAccount_24 : decode cX2_addAccount 24 = .ok (.getfield 53, 3) := by decide +kernel
theorem dX2_addAccount_27 : decode cX2_addAccount 27 = .ok (.bipush 8, 2) := by decide +kernel
theorem dX2_addAccount_29 : decode cX2_addAccount 29 = .ok (.if_icmp .lt 6, 3) := by decide +kernel
theorem dX2_addAccount_32 : decode cX2_addAccount 32 = .ok (.bipush (-4), 2) := by decide +kernel
theorem dX2_addAccount_34 : decode cX2_addAccount 34 = .ok (.ireturn, 1) := by decide +kernel
theorem dX2_addAccount_35 : decode cX2_addAccount 35 = .ok (.aload_n 0, 1) := by decide +kernel
theorem dX2_addAccount_36 : decode cX2_addAccount 36 = .ok (.getfield 20, 3) := by decide +kernel
theorem dX2_addAccount_39 : decode cX2_addAccount 39 = .ok (.aload_n 0, 1) := by decide +kernel
theorem dX2_addAccount_40 : decode cX2_addAccount 40 = .ok (.getfield 53, 3) := by decide +kernel
theorem dX2_addAccount_43 : decode cX2_addAccount 43 = .ok (.aaload, 1) := by decide +kernel
theorem dX2_addAccount_44 : decode cX2_addAccount 44 = .ok (.iload_n 1, 1) := by decide +kernel
theorem dX2_addAccount_45 : decode cX2_addAccount 45 = .ok (.iload_n 2, 1) := by decide +kernel
theorem dX2_addAccount_46 : decode cX2_addAccount 46 = .ok (.invokevirtual 93, 3) := by decide +kernel
theorem dX2_addAccount_49 : decode cX2_addAccount 49 = .ok (.aload_n 0, 1) := by decide +kernel
theorem dX2_addAccount_50 : decode cX2_addAccount 50 = .ok (.dup, 1) := by decide +kernel
theorem dX2_addAccount_51 : decode cX2_addAccount 51 = .ok (.getfield 53, 3) := by decide +kernel
theorem dX2_addAccount_54 : decode cX2_addAccount 54 = .ok (.iconst 1, 1) := by decide +kernel
theorem dX2_addAccount_55 : decode cX2_addAccount 55 = .ok (.iadd, 1) := by decide +kernel
theorem dX2_addAccount_56 : decode cX2_addAccount 56 = .ok (.putfield 53, 3) := by decide +kernel
theorem dX2_addAccount_59 : decode cX2_addAccount 59 = .ok (.aload_n 0, 1) := by decide +kernel
theorem dX2_addAccount_60 : decode cX2_addAccount 60 = .ok (.getfield 53, 3) := by decide +kernel
theorem dX2_addAccount_63 : decode cX2_addAccount 63 = .ok (.iconst 1, 1) := by decide +kernel
theorem dX2_addAccount_64 : decode cX2_addAccount 64 = .ok (.isub, 1) := by decide +kernel
theorem dX2_addAccount_65 : decode cX2_addAccount 65 = .ok (.ireturn, 1) := by decide +kernel
theorem dX2_nameFeeder_0 : decode cX2_nameFeeder 0 = .ok (.aload_n 0, 1) := by decide +kernel
theorem dX2_nameFeeder_1 : decode cX2_nameFeeder 1 = .ok (.iload_n 1, 1) := by decide +kernel
theorem dX2_nameFeeder_2 : decode cX2_nameFeeder 2 = .ok (.invokevirtual 97, 3) := by decide +kernel
theorem dX2_nameFeeder_5 : decode cX2_nameFeeder 5 = .ok (.ifCond .ne 5, 3) := by decide +kernel
theorem dX2_nameFeeder_8 : decode cX2_nameFeeder 8 = .ok (.iconst (-1), 1) := by decide +kernel
theorem dX2_nameFeeder_9 : decode cX2_nameFeeder 9 = .ok (.ireturn, 1) := by decide +kernel
theorem dX2_nameFeeder_10 : decode cX2_nameFeeder 10 = .ok (.iload_n 2, 1) := by decide +kernel
theorem dX2_nameFeeder_11 : decode cX2_nameFeeder 11 = .ok (.bipush (-6), 2) := by decide +kernel
theorem dX2_nameFeeder_13 : decode cX2_nameFeeder 13 = .ok (.if_icmp .eq 18, 3) := by decide +kernel
theorem dX2_nameFeeder_16 : decode cX2_nameFeeder 16 = .ok (.iload_n 2, 1) := by decide +kernel
theorem dX2_nameFeeder_17 : decode cX2_nameFeeder 17 = .ok (.iload_n 1, 1) := by decide +kernel
theorem dX2_nameFeeder_18 : decode cX2_nameFeeder 18 = .ok (.if_icmp .eq 11, 3) := by decide +kernel
theorem dX2_nameFeeder_21 : decode cX2_nameFeeder 21 = .ok (.aload_n 0, 1) := by decide +kernel
theorem dX2_nameFeeder_22 : decode cX2_nameFeeder 22 = .ok (.iload_n 2, 1) := by decide +kernel
theorem dX2_nameFeeder_23 : decode cX2_nameFeeder 23 = .ok (.invokevirtual 97, 3) := by decide +kernel
theorem dX2_nameFeeder_26 : decode cX2_nameFeeder 26 = .ok (.ifCond .ne 5, 3) := by decide +kernel
theorem dX2_nameFeeder_29 : decode cX2_nameFeeder 29 = .ok (.iconst (-1), 1) := by decide +kernel
theorem dX2_nameFeeder_30 : decode cX2_nameFeeder 30 = .ok (.ireturn, 1) := by decide +kernel
theorem dX2_nameFeeder_31 : decode cX2_nameFeeder 31 = .ok (.aload_n 0, 1) := by decide +kernel
theorem dX2_nameFeeder_32 : decode cX2_nameFeeder 32 = .ok (.getfield 20, 3) := by decide +kernel
theorem dX2_nameFeeder_35 : decode cX2_nameFeeder 35 = .ok (.iload_n 1, 1) := by decide +kernel
theorem dX2_nameFeeder_36 : decode cX2_nameFeeder 36 = .ok (.aaload, 1) := by decide +kernel
theorem dX2_nameFeeder_37 : decode cX2_nameFeeder 37 = .ok (.getfield 101, 3) := by decide +kernel
theorem dX2_nameFeeder_40 : decode cX2_nameFeeder 40 = .ok (.istore_n 3, 1) := by decide +kernel
theorem dX2_nameFeeder_41 : decode cX2_nameFeeder 41 = .ok (.aload_n 0, 1) := by decide +kernel
theorem dX2_nameFeeder_42 : decode cX2_nameFeeder 42 = .ok (.getfield 20, 3) := by decide +kernel
theorem dX2_nameFeeder_45 : decode cX2_nameFeeder 45 = .ok (.iload_n 1, 1) := by decide +kernel
theorem dX2_nameFeeder_46 : decode cX2_nameFeeder 46 = .ok (.aaload, 1) := by decide +kernel
theorem dX2_nameFeeder_47 : decode cX2_nameFeeder 47 = .ok (.iload_n 2, 1) := by decide +kernel
theorem dX2_nameFeeder_48 : decode cX2_nameFeeder 48 = .ok (.putfield 101, 3) := by decide +kernel
theorem dX2_nameFeeder_51 : decode cX2_nameFeeder 51 = .ok (.iload_n 3, 1) := by decide +kernel
theorem dX2_nameFeeder_52 : decode cX2_nameFeeder 52 = .ok (.ireturn, 1) := by decide +kernel
theorem dX2_payIn_0 : decode cX2_payIn 0 = .ok (.aload_n 0, 1) := by decide +kernel
theorem dX2_payIn_1 : decode cX2_payIn 1 = .ok (.iload_n 1, 1) := by decide +kernel
theorem dX2_payIn_2 : decode cX2_payIn 2 = .ok (.invokevirtual 97, 3) := by decide +kernel
theorem dX2_payIn_5 : decode cX2_payIn 5 = .ok (.ifCond .ne 5, 3) := by decide +kernel
theorem dX2_payIn_8 : decode cX2_payIn 8 = .ok (.iconst (-1), 1) := by decide +kernel
theorem dX2_payIn_9 : decode cX2_payIn 9 = .ok (.ireturn, 1) := by decide +kernel
theorem dX2_payIn_10 : decode cX2_payIn 10 = .ok (.iload_n 2, 1) := by decide +kernel
theorem dX2_payIn_11 : decode cX2_payIn 11 = .ok (.iconst 1, 1) := by decide +kernel
theorem dX2_payIn_12 : decode cX2_payIn 12 = .ok (.ldc 104, 2) := by decide +kernel
theorem dX2_payIn_14 : decode cX2_payIn 14 = .ok (.invokestatic 77, 3) := by decide +kernel
theorem dX2_payIn_17 : decode cX2_payIn 17 = .ok (.ifCond .ne 6, 3) := by decide +kernel
theorem dX2_payIn_20 : decode cX2_payIn 20 = .ok (.bipush (-2), 2) := by decide +kernel
theorem dX2_payIn_22 : decode cX2_payIn 22 = .ok (.ireturn, 1) := by decide +kernel
theorem dX2_payIn_23 : decode cX2_payIn 23 = .ok (.aload_n 0, 1) := by decide +kernel
theorem dX2_payIn_24 : decode cX2_payIn 24 = .ok (.getfield 20, 3) := by decide +kernel
theorem dX2_payIn_27 : decode cX2_payIn 27 = .ok (.iload_n 1, 1) := by decide +kernel
theorem dX2_payIn_28 : decode cX2_payIn 28 = .ok (.aaload, 1) := by decide +kernel
theorem dX2_payIn_29 : decode cX2_payIn 29 = .ok (.dup, 1) := by decide +kernel
theorem dX2_payIn_30 : decode cX2_payIn 30 = .ok (.getfield 105, 3) := by decide +kernel
theorem dX2_payIn_33 : decode cX2_payIn 33 = .ok (.iload_n 2, 1) := by decide +kernel
theorem dX2_payIn_34 : decode cX2_payIn 34 = .ok (.i2l, 1) := by decide +kernel
theorem dX2_payIn_35 : decode cX2_payIn 35 = .ok (.ladd, 1) := by decide +kernel
theorem dX2_payIn_36 : decode cX2_payIn 36 = .ok (.putfield 105, 3) := by decide +kernel
theorem dX2_payIn_39 : decode cX2_payIn 39 = .ok (.aload_n 0, 1) := by decide +kernel
theorem dX2_payIn_40 : decode cX2_payIn 40 = .ok (.getfield 20, 3) := by decide +kernel
theorem dX2_payIn_43 : decode cX2_payIn 43 = .ok (.iload_n 1, 1) := by decide +kernel
theorem dX2_payIn_44 : decode cX2_payIn 44 = .ok (.aaload, 1) := by decide +kernel
theorem dX2_payIn_45 : decode cX2_payIn 45 = .ok (.dup, 1) := by decide +kernel
theorem dX2_payIn_46 : decode cX2_payIn 46 = .ok (.getfield 109, 3) := by decide +kernel
theorem dX2_payIn_49 : decode cX2_payIn 49 = .ok (.iload_n 2, 1) := by decide +kernel
theorem dX2_payIn_50 : decode cX2_payIn 50 = .ok (.i2l, 1) := by decide +kernel
theorem dX2_payIn_51 : decode cX2_payIn 51 = .ok (.ladd, 1) := by decide +kernel
theorem dX2_payIn_52 : decode cX2_payIn 52 = .ok (.putfield 109, 3) := by decide +kernel
theorem dX2_payIn_55 : decode cX2_payIn 55 = .ok (.aload_n 0, 1) := by decide +kernel
theorem dX2_payIn_56 : decode cX2_payIn 56 = .ok (.getfield 20, 3) := by decide +kernel
theorem dX2_payIn_59 : decode cX2_payIn 59 = .ok (.iload_n 1, 1) := by decide +kernel
theorem dX2_payIn_60 : decode cX2_payIn 60 = .ok (.aaload, 1) := by decide +kernel
theorem dX2_payIn_61 : decode cX2_payIn 61 = .ok (.getfield 105, 3) := by decide +kernel
theorem dX2_payIn_64 : decode cX2_payIn 64 = .ok (.lconst 0, 1) := by decide +kernel
theorem dX2_payIn_65 : decode cX2_payIn 65 = .ok (.lcmp, 1) := by decide +kernel
theorem dX2_payIn_66 : decode cX2_payIn 66 = .ok (.ifCond .lt 7, 3) := by decide +kernel
theorem dX2_payIn_69 : decode cX2_payIn 69 = .ok (.iconst 1, 1) := by decide +kernel
theorem dX2_payIn_70 : decode cX2_payIn 70 = .ok (.goto 4, 3) := by decide +kernel
theorem dX2_payIn_73 : decode cX2_payIn 73 = .ok (.iconst 0, 1) := by decide +kernel
theorem dX2_payIn_74 : decode cX2_payIn 74 = .ok (.ireturn, 1) := by decide +kernel
theorem dX2_addOrder_0 : decode cX2_addOrder 0 = .ok (.iload_n 1, 1) := by decide +kernel
theorem dX2_addOrder_1 : decode cX2_addOrder 1 = .ok (.ifCond .lt 14, 3) := by decide +kernel
theorem dX2_addOrder_4 : decode cX2_addOrder 4 = .ok (.aload_n 0, 1) := by decide +kernel
theorem dX2_addOrder_5 : decode cX2_addOrder 5 = .ok (.iload_n 1, 1) := by decide +kernel
theorem dX2_addOrder_6 : decode cX2_addOrder 6 = .ok (.bipush 9, 2) := by decide +kernel
theorem dX2_addOrder_8 : decode cX2_addOrder 8 = .ok (.idiv, 1) := by decide +kernel
theorem dX2_addOrder_9 : decode cX2_addOrder 9 = .ok (.invokevirtual 97, 3) := by decide +kernel
theorem dX2_addOrder_12 : decode cX2_addOrder 12 = .ok (.ifCond .ne 5, 3) := by decide +kernel
theorem dX2_addOrder_15 : decode cX2_addOrder 15 = .ok (.iconst (-1), 1) := by decide +kernel
theorem dX2_addOrder_16 : decode cX2_addOrder 16 = .ok (.ireturn, 1) := by decide +kernel
theorem dX2_addOrder_17 : decode cX2_addOrder 17 = .ok (.iload_n 1, 1) := by decide +kernel
theorem dX2_addOrder_18 : decode cX2_addOrder 18 = .ok (.bipush 9, 2) := by decide +kernel
theorem dX2_addOrder_20 : decode cX2_addOrder 20 = .ok (.irem, 1) := by decide +kernel
theorem dX2_addOrder_21 : decode cX2_addOrder 21 = .ok (.istore 7, 2) := by decide +kernel
theorem dX2_addOrder_23 : decode cX2_addOrder 23 = .ok (.iload 7, 2) := by decide +kernel
theorem dX2_addOrder_25 : decode cX2_addOrder 25 = .ok (.iload_n 1, 1) := by decide +kernel
theorem dX2_addOrder_26 : decode cX2_addOrder 26 = .ok (.bipush 9, 2) := by decide +kernel
theorem dX2_addOrder_28 : decode cX2_addOrder 28 = .ok (.idiv, 1) := by decide +kernel
theorem dX2_addOrder_29 : decode cX2_addOrder 29 = .ok (.if_icmp .eq 19, 3) := by decide +kernel
theorem dX2_addOrder_32 : decode cX2_addOrder 32 = .ok (.iload 7, 2) := by decide +kernel
theorem dX2_addOrder_34 : decode cX2_addOrder 34 = .ok (.bipush 8, 2) := by decide +kernel
theorem dX2_addOrder_36 : decode cX2_addOrder 36 = .ok (.if_icmp .eq 14, 3) := by decide +kernel
theorem dX2_addOrder_39 : decode cX2_addOrder 39 = .ok (.aload_n 0, 1) := by decide +kernel
theorem dX2_addOrder_40 : decode cX2_addOrder 40 = .ok (.iload 7, 2) := by decide +kernel
theorem dX2_addOrder_42 : decode cX2_addOrder 42 = .ok (.invokevirtual 97, 3) := by decide +kernel
theorem dX2_addOrder_45 : decode cX2_addOrder 45 = .ok (.ifCond .ne 5, 3) := by decide +kernel
theorem dX2_addOrder_48 : decode cX2_addOrder 48 = .ok (.iconst (-1), 1) := by decide +kernel
theorem dX2_addOrder_49 : decode cX2_addOrder 49 = .ok (.ireturn, 1) := by decide +kernel
theorem dX2_addOrder_50 : decode cX2_addOrder 50 = .ok (.iload_n 2, 1) := by decide +kernel
theorem dX2_addOrder_51 : decode cX2_addOrder 51 = .ok (.iconst 1, 1) := by decide +kernel
theorem dX2_addOrder_52 : decode cX2_addOrder 52 = .ok (.ldc 92, 2) := by decide +kernel
theorem dX2_addOrder_54 : decode cX2_addOrder 54 = .ok (.invokestatic 77, 3) := by decide +kernel
theorem dX2_addOrder_57 : decode cX2_addOrder 57 = .ok (.ifCond .eq 10, 3) := by decide +kernel
theorem dX2_addOrder_60 : decode cX2_addOrder 60 = .ok (.iload_n 3, 1) := by decide +kernel
theorem dX2_addOrder_61 : decode cX2_addOrder 61 = .ok (.invokestatic 112, 3) := by decide +kernel
theorem dX2_addOrder_64 : decode cX2_addOrder 64 = .ok (.ifCond .ne 6, 3) := by decide +kernel
theorem dX2_addOrder_67 : decode cX2_addOrder 67 = .ok (.bipush (-2), 2) := by decide +kernel
theorem dX2_addOrder_69 : decode cX2_addOrder 69 = .ok (.ireturn, 1) := by decide +kernel
theorem dX2_addOrder_70 : decode cX2_addOrder 70 = .ok (.iload 4, 2) := by decide +kernel
theorem dX2_addOrder_72 : decode cX2_addOrder 72 = .ok (.aload_n 0, 1) := by decide +kernel
theorem dX2_addOrder_73 : decode cX2_addOrder 73 = .ok (.getfield 68, 3) := by decide +kernel
theorem dX2_addOrder_76 : decode cX2_addOrder 76 = .ok (.sipush 1094, 3) := by decide +kernel
theorem dX2_addOrder_79 : decode cX2_addOrder 79 = .ok (.invokestatic 77, 3) := by decide +kernel
theorem dX2_addOrder_82 : decode cX2_addOrder 82 = .ok (.ifCond .ne 6, 3) := by decide +kernel
theorem dX2_addOrder_85 : decode cX2_addOrder 85 = .ok (.bipush (-2), 2) := by decide +kernel
theorem dX2_addOrder_87 : decode cX2_addOrder 87 = .ok (.ireturn, 1) := by decide +kernel
theorem dX2_addOrder_88 : decode cX2_addOrder 88 = .ok (.iload 5, 2) := by decide +kernel
theorem dX2_addOrder_90 : decode cX2_addOrder 90 = .ok (.iconst 0, 1) := by decide +kernel
theorem dX2_addOrder_91 : decode cX2_addOrder 91 = .ok (.bipush 49, 2) := by decide +kernel
theorem dX2_addOrder_93 : decode cX2_addOrder 93 = .ok (.invokestatic 77, 3) := by decide +kernel
theorem dX2_addOrder_96 : decode cX2_addOrder 96 = .ok (.ifCond .eq 14, 3) := by decide +kernel
theorem dX2_addOrder_99 : decode cX2_addOrder 99 = .ok (.iload 6, 2) := by decide +kernel
theorem dX2_addOrder_101 : decode cX2_addOrder 101 = .ok (.iconst 0, 1) := by decide +kernel
theorem dX2_addOrder_102 : decode cX2_addOrder 102 = .ok (.bipush 99, 2) := by decide +kernel
theorem dX2_addOrder_104 : decode cX2_addOrder 104 = .ok (.invokestatic 77, 3) := by decide +kernel
theorem dX2_addOrder_107 : decode cX2_addOrder 107 = .ok (.ifCond .ne 6, 3) := by decide +kernel
theorem dX2_addOrder_110 : decode cX2_addOrder 110 = .ok (.bipush (-2), 2) := by decide +kernel
theorem dX2_addOrder_112 : decode cX2_addOrder 112 = .ok (.ireturn, 1) := by decide +kernel
theorem dX2_addOrder_113 : decode cX2_addOrder 113 = .ok (.aload_n 0, 1) := by decide +kernel
theorem dX2_addOrder_114 : decode cX2_addOrder 114 = .ok (.getfield 59, 3) := by decide +kernel
theorem dX2_addOrder_117 : decode cX2_addOrder 117 = .ok (.bipush 16, 2) := by decide +kernel
theorem dX2_addOrder_119 : decode cX2_addOrder 119 = .ok (.if_icmp .lt 6, 3) := by decide +kernel
theorem dX2_addOrder_122 : decode cX2_addOrder 122 = .ok (.bipush (-4), 2) := by decide +kernel
theorem dX2_addOrder_124 : decode cX2_addOrder 124 = .ok (.ireturn, 1) := by decide +kernel
theorem dX2_addOrder_125 : decode cX2_addOrder 125 = .ok (.aload_n 0, 1) := by decide +kernel
theorem dX2_addOrder_126 : decode cX2_addOrder 126 = .ok (.getfield 26, 3) := by decide +kernel
theorem dX2_addOrder_129 : decode cX2_addOrder 129 = .ok (.aload_n 0, 1) := by decide +kernel
theorem dX2_addOrder_130 : decode cX2_addOrder 130 = .ok (.getfield 59, 3) := by decide +kernel
theorem dX2_addOrder_133 : decode cX2_addOrder 133 = .ok (.aaload, 1) := by decide +kernel
theorem dX2_addOrder_134 : decode cX2_addOrder 134 = .ok (.iload_n 1, 1) := by decide +kernel
theorem dX2_addOrder_135 : decode cX2_addOrder 135 = .ok (.iload_n 2, 1) := by decide +kernel
theorem dX2_addOrder_136 : decode cX2_addOrder 136 = .ok (.iload_n 3, 1) := by decide +kernel
theorem dX2_addOrder_137 : decode cX2_addOrder 137 = .ok (.iload 4, 2) := by decide +kernel
theorem dX2_addOrder_139 : decode cX2_addOrder 139 = .ok (.iload 5, 2) := by decide +kernel
theorem dX2_addOrder_141 : decode cX2_addOrder 141 = .ok (.iload 6, 2) := by decide +kernel
theorem dX2_addOrder_143 : decode cX2_addOrder 143 = .ok (.invokevirtual 115, 3) := by decide +kernel
theorem dX2_addOrder_146 : decode cX2_addOrder 146 = .ok (.aload_n 0, 1) := by decide +kernel
theorem dX2_addOrder_147 : decode cX2_addOrder 147 = .ok (.getfield 26, 3) := by decide +kernel
theorem dX2_addOrder_150 : decode cX2_addOrder 150 = .ok (.aload_n 0, 1) := by decide +kernel
theorem dX2_addOrder_151 : decode cX2_addOrder 151 = .ok (.getfield 59, 3) := by decide +kernel
theorem dX2_addOrder_154 : decode cX2_addOrder 154 = .ok (.aaload, 1) := by decide +kernel
theorem dX2_addOrder_155 : decode cX2_addOrder 155 = .ok (.aload_n 0, 1) := by decide +kernel
theorem dX2_addOrder_156 : decode cX2_addOrder 156 = .ok (.getfield 68, 3) := by decide +kernel
theorem dX2_addOrder_159 : decode cX2_addOrder 159 = .ok (.aload_n 0, 1) := by decide +kernel
theorem dX2_addOrder_160 : decode cX2_addOrder 160 = .ok (.getfield 12, 3) := by decide +kernel
theorem dX2_addOrder_163 : decode cX2_addOrder 163 = .ok (.invokevirtual 119, 3) := by decide +kernel
theorem dX2_addOrder_166 : decode cX2_addOrder 166 = .ok (.pop, 1) := by decide +kernel
theorem dX2_addOrder_167 : decode cX2_addOrder 167 = .ok (.aload_n 0, 1) := by decide +kernel
theorem dX2_addOrder_168 : decode cX2_addOrder 168 = .ok (.dup, 1) := by decide +kernel
theorem dX2_addOrder_169 : decode cX2_addOrder 169 = .ok (.getfield 59, 3) := by decide +kernel
theorem dX2_addOrder_172 : decode cX2_addOrder 172 = .ok (.iconst 1, 1) := by decide +kernel
theorem dX2_addOrder_173 : decode cX2_addOrder 173 = .ok (.iadd, 1) := by decide +kernel
theorem dX2_addOrder_174 : decode cX2_addOrder 174 = .ok (.putfield 59, 3) := by decide +kernel
theorem dX2_addOrder_177 : decode cX2_addOrder 177 = .ok (.aload_n 0, 1) := by decide +kernel
theorem dX2_addOrder_178 : decode cX2_addOrder 178 = .ok (.getfield 59, 3) := by decide +kernel
theorem dX2_addOrder_181 : decode cX2_addOrder 181 = .ok (.iconst 1, 1) := by decide +kernel
theorem dX2_addOrder_182 : decode cX2_addOrder 182 = .ok (.isub, 1) := by decide +kernel
theorem dX2_addOrder_183 : decode cX2_addOrder 183 = .ok (.ireturn, 1) := by decide +kernel
theorem dX2_areDates_0 : decode cX2_areDates 0 = .ok (.iload_n 0, 1) := by decide +kernel
theorem dX2_areDates_1 : decode cX2_areDates 1 = .ok (.iconst 0, 1) := by decide +kernel
theorem dX2_areDates_2 : decode cX2_areDates 2 = .ok (.ldc 123, 2) := by decide +kernel
theorem dX2_areDates_4 : decode cX2_areDates 4 = .ok (.invokestatic 77, 3) := by decide +kernel
theorem dX2_areDates_7 : decode cX2_areDates 7 = .ok (.ifCond .eq 36, 3) := by decide +kernel
theorem dX2_areDates_10 : decode cX2_areDates 10 = .ok (.iload_n 0, 1) := by decide +kernel
theorem dX2_areDates_11 : decode cX2_areDates 11 = .ok (.bipush 100, 2) := by decide +kernel
theorem dX2_areDates_13 : decode cX2_areDates 13 = .ok (.idiv, 1) := by decide +kernel
theorem dX2_areDates_14 : decode cX2_areDates 14 = .ok (.bipush 100, 2) := by decide +kernel
theorem dX2_areDates_16 : decode cX2_areDates 16 = .ok (.irem, 1) := by decide +kernel
theorem dX2_areDates_17 : decode cX2_areDates 17 = .ok (.iconst 1, 1) := by decide +kernel
theorem dX2_areDates_18 : decode cX2_areDates 18 = .ok (.bipush 12, 2) := by decide +kernel
theorem dX2_areDates_20 : decode cX2_areDates 20 = .ok (.invokestatic 77, 3) := by decide +kernel
theorem dX2_areDates_23 : decode cX2_areDates 23 = .ok (.ifCond .eq 20, 3) := by decide +kernel
theorem dX2_areDates_26 : decode cX2_areDates 26 = .ok (.iload_n 0, 1) := by decide +kernel
theorem dX2_areDates_27 : decode cX2_areDates 27 = .ok (.bipush 100, 2) := by decide +kernel
theorem dX2_areDates_29 : decode cX2_areDates 29 = .ok (.irem, 1) := by decide +kernel
theorem dX2_areDates_30 : decode cX2_areDates 30 = .ok (.iconst 1, 1) := by decide +kernel
theorem dX2_areDates_31 : decode cX2_areDates 31 = .ok (.bipush 31, 2) := by decide +kernel
theorem dX2_areDates_33 : decode cX2_areDates 33 = .ok (.invokestatic 77, 3) := by decide +kernel
theorem dX2_areDates_36 : decode cX2_areDates 36 = .ok (.ifCond .eq 7, 3) := by decide +kernel
theorem dX2_areDates_39 : decode cX2_areDates 39 = .ok (.iconst 1, 1) := by decide +kernel
theorem dX2_areDates_40 : decode cX2_areDates 40 = .ok (.goto 4, 3) := by decide +kernel
theorem dX2_areDates_43 : decode cX2_areDates 43 = .ok (.iconst 0, 1) := by decide +kernel
theorem dX2_areDates_44 : decode cX2_areDates 44 = .ok (.ireturn, 1) := by decide +kernel
theorem dX2_alterOrder_0 : decode cX2_alterOrder 0 = .ok (.aload_n 0, 1) := by decide +kernel
theorem dX2_alterOrder_1 : decode cX2_alterOrder 1 = .ok (.iload_n 1, 1) := by decide +kernel
theorem dX2_alterOrder_2 : decode cX2_alterOrder 2 = .ok (.invokevirtual 124, 3) := by decide +kernel
theorem dX2_alterOrder_5 : decode cX2_alterOrder 5 = .ok (.ifCond .ne 5, 3) := by decide +kernel
theorem dX2_alterOrder_8 : decode cX2_alterOrder 8 = .ok (.iconst (-1), 1) := by decide +kernel
theorem dX2_alterOrder_9 : decode cX2_alterOrder 9 = .ok (.ireturn, 1) := by decide +kernel
theorem dX2_alterOrder_10 : decode cX2_alterOrder 10 = .ok (.iload_n 2, 1) := by decide +kernel
theorem dX2_alterOrder_11 : decode cX2_alterOrder 11 = .ok (.iconst 1, 1) := by decide +kernel
theorem dX2_alterOrder_12 : decode cX2_alterOrder 12 = .ok (.ldc 92, 2) := by decide +kernel
theorem dX2_alterOrder_14 : decode cX2_alterOrder 14 = .ok (.invokestatic 77, 3) := by decide +kernel
theorem dX2_alterOrder_17 : decode cX2_alterOrder 17 = .ok (.ifCond .eq 13, 3) := by decide +kernel
theorem dX2_alterOrder_20 : decode cX2_alterOrder 20 = .ok (.iload_n 3, 1) := by decide +kernel
theorem dX2_alterOrder_21 : decode cX2_alterOrder 21 = .ok (.iconst 0, 1) := by decide +kernel
theorem dX2_alterOrder_22 : decode cX2_alterOrder 22 = .ok (.bipush 9, 2) := by decide +kernel
theorem dX2_alterOrder_24 : decode cX2_alterOrder 24 = .ok (.invokestatic 77, 3) := by decide +kernel
theorem dX2_alterOrder_27 : decode cX2_alterOrder 27 = .ok (.ifCond .ne 6, 3) := by decide +kernel
theorem dX2_alterOrder_30 : decode cX2_alterOrder 30 = .ok (.bipush (-2), 2) := by decide +kernel
theorem dX2_alterOrder_32 : decode cX2_alterOrder 32 = .ok (.ireturn, 1) := by decide +kernel
theorem dX2_alterOrder_33 : decode cX2_alterOrder 33 = .ok (.aload_n 0, 1) := by decide +kernel
theorem dX2_alterOrder_34 : decode cX2_alterOrder 34 = .ok (.getfield 26, 3) := by decide +kernel
theorem dX2_alterOrder_37 : decode cX2_alterOrder 37 = .ok (.iload_n 1, 1) := by decide +kernel
theorem dX2_alterOrder_38 : decode cX2_alterOrder 38 = .ok (.aaload, 1) := by decide +kernel
theorem dX2_alterOrder_39 : decode cX2_alterOrder 39 = .ok (.getfield 127, 3) := by decide +kernel
theorem dX2_alterOrder_42 : decode cX2_alterOrder 42 = .ok (.iconst 2, 1) := by decide +kernel
theorem dX2_alterOrder_43 : decode cX2_alterOrder 43 = .ok (.if_icmp .ne 6, 3) := by decide +kernel
theorem dX2_alterOrder_46 : decode cX2_alterOrder 46 = .ok (.bipush (-5), 2) := by decide +kernel
theorem dX2_alterOrder_48 : decode cX2_alterOrder 48 = .ok (.ireturn, 1) := by decide +kernel
theorem dX2_alterOrder_49 : decode cX2_alterOrder 49 = .ok (.aload_n 0, 1) := by decide +kernel
theorem dX2_alterOrder_50 : decode cX2_alterOrder 50 = .ok (.getfield 26, 3) := by decide +kernel
theorem dX2_alterOrder_53 : decode cX2_alterOrder 53 = .ok (.iload_n 1, 1) := by decide +kernel
theorem dX2_alterOrder_54 : decode cX2_alterOrder 54 = .ok (.aaload, 1) := by decide +kernel
theorem dX2_alterOrder_55 : decode cX2_alterOrder 55 = .ok (.getfield 130, 3) := by decide +kernel
theorem dX2_alterOrder_58 : decode cX2_alterOrder 58 = .ok (.istore 4, 2) := by decide +kernel
theorem dX2_alterOrder_60 : decode cX2_alterOrder 60 = .ok (.aload_n 0, 1) := by decide +kernel
theorem dX2_alterOrder_61 : decode cX2_alterOrder 61 = .ok (.getfield 26, 3) := by decide +kernel
theorem dX2_alterOrder_64 : decode cX2_alterOrder 64 = .ok (.iload_n 1, 1) := by decide +kernel
theorem dX2_alterOrder_65 : decode cX2_alterOrder 65 = .ok (.aaload, 1) := by decide +kernel
theorem dX2_alterOrder_66 : decode cX2_alterOrder 66 = .ok (.iload_n 2, 1) := by decide +kernel
theorem dX2_alterOrder_67 : decode cX2_alterOrder 67 = .ok (.putfield 130, 3) := by decide +kernel
theorem dX2_alterOrder_70 : decode cX2_alterOrder 70 = .ok (.aload_n 0, 1) := by decide +kernel
theorem dX2_alterOrder_71 : decode cX2_alterOrder 71 = .ok (.getfield 26, 3) := by decide +kernel
theorem dX2_alterOrder_74 : decode cX2_alterOrder 74 = .ok (.iload_n 1, 1) := by decide +kernel
theorem dX2_alterOrder_75 : decode cX2_alterOrder 75 = .ok (.aaload, 1) := by decide +kernel
theorem dX2_alterOrder_76 : decode cX2_alterOrder 76 = .ok (.iload_n 3, 1) := by decide +kernel
theorem dX2_alterOrder_77 : decode cX2_alterOrder 77 = .ok (.putfield 133, 3) := by decide +kernel
theorem dX2_alterOrder_80 : decode cX2_alterOrder 80 = .ok (.iload 4, 2) := by decide +kernel
theorem dX2_alterOrder_82 : decode cX2_alterOrder 82 = .ok (.ireturn, 1) := by decide +kernel
theorem dX2_stopOrder_0 : decode cX2_stopOrder 0 = .ok (.aload_n 0, 1) := by decide +kernel
theorem dX2_stopOrder_1 : decode cX2_stopOrder 1 = .ok (.iload_n 1, 1) := by decide +kernel
theorem dX2_stopOrder_2 : decode cX2_stopOrder 2 = .ok (.invokevirtual 124, 3) := by decide +kernel
theorem dX2_stopOrder_5 : decode cX2_stopOrder 5 = .ok (.ifCond .ne 5, 3) := by decide +kernel
theorem dX2_stopOrder_8 : decode cX2_stopOrder 8 = .ok (.iconst (-1), 1) := by decide +kernel
theorem dX2_stopOrder_9 : decode cX2_stopOrder 9 = .ok (.ireturn, 1) := by decide +kernel
theorem dX2_stopOrder_10 : decode cX2_stopOrder 10 = .ok (.aload_n 0, 1) := by decide +kernel
theorem dX2_stopOrder_11 : decode cX2_stopOrder 11 = .ok (.getfield 26, 3) := by decide +kernel
theorem dX2_stopOrder_14 : decode cX2_stopOrder 14 = .ok (.iload_n 1, 1) := by decide +kernel
theorem dX2_stopOrder_15 : decode cX2_stopOrder 15 = .ok (.aaload, 1) := by decide +kernel
theorem dX2_stopOrder_16 : decode cX2_stopOrder 16 = .ok (.getfield 127, 3) := by decide +kernel
theorem dX2_stopOrder_19 : decode cX2_stopOrder 19 = .ok (.ifCond .eq 6, 3) := by decide +kernel
theorem dX2_stopOrder_22 : decode cX2_stopOrder 22 = .ok (.bipush (-5), 2) := by decide +kernel
theorem dX2_stopOrder_24 : decode cX2_stopOrder 24 = .ok (.ireturn, 1) := by decide +kernel
theorem dX2_stopOrder_25 : decode cX2_stopOrder 25 = .ok (.aload_n 0, 1) := by decide +kernel
theorem dX2_stopOrder_26 : decode cX2_stopOrder 26 = .ok (.getfield 26, 3) := by decide +kernel
theorem dX2_stopOrder_29 : decode cX2_stopOrder 29 = .ok (.iload_n 1, 1) := by decide +kernel
theorem dX2_stopOrder_30 : decode cX2_stopOrder 30 = .ok (.aaload, 1) := by decide +kernel
theorem dX2_stopOrder_31 : decode cX2_stopOrder 31 = .ok (.iconst 1, 1) := by decide +kernel
theorem dX2_stopOrder_32 : decode cX2_stopOrder 32 = .ok (.putfield 127, 3) := by decide +kernel
theorem dX2_stopOrder_35 : decode cX2_stopOrder 35 = .ok (.aload_n 0, 1) := by decide +kernel
theorem dX2_stopOrder_36 : decode cX2_stopOrder 36 = .ok (.getfield 26, 3) := by decide +kernel
theorem dX2_stopOrder_39 : decode cX2_stopOrder 39 = .ok (.iload_n 1, 1) := by decide +kernel
theorem dX2_stopOrder_40 : decode cX2_stopOrder 40 = .ok (.aaload, 1) := by decide +kernel
theorem dX2_stopOrder_41 : decode cX2_stopOrder 41 = .ok (.getfield 136, 3) := by decide +kernel
theorem dX2_stopOrder_44 : decode cX2_stopOrder 44 = .ok (.ireturn, 1) := by decide +kernel
theorem dX2_resumeOrder_0 : decode cX2_resumeOrder 0 = .ok (.aload_n 0, 1) := by decide +kernel
theorem dX2_resumeOrder_1 : decode cX2_resumeOrder 1 = .ok (.iload_n 1, 1) := by decide +kernel
theorem dX2_resumeOrder_2 : decode cX2_resumeOrder 2 = .ok (.invokevirtual 124, 3) := by decide +kernel
theorem dX2_resumeOrder_5 : decode cX2_resumeOrder 5 = .ok (.ifCond .ne 5, 3) := by decide +kernel
theorem dX2_resumeOrder_8 : decode cX2_resumeOrder 8 = .ok (.iconst (-1), 1) := by decide +kernel
theorem dX2_resumeOrder_9 : decode cX2_resumeOrder 9 = .ok (.ireturn, 1) := by decide +kernel
theorem dX2_resumeOrder_10 : decode cX2_resumeOrder 10 = .ok (.aload_n 0, 1) := by decide +kernel
theorem dX2_resumeOrder_11 : decode cX2_resumeOrder 11 = .ok (.getfield 26, 3) := by decide +kernel
theorem dX2_resumeOrder_14 : decode cX2_resumeOrder 14 = .ok (.iload_n 1, 1) := by decide +kernel
theorem dX2_resumeOrder_15 : decode cX2_resumeOrder 15 = .ok (.aaload, 1) := by decide +kernel
theorem dX2_resumeOrder_16 : decode cX2_resumeOrder 16 = .ok (.getfield 127, 3) := by decide +kernel
theorem dX2_resumeOrder_19 : decode cX2_resumeOrder 19 = .ok (.iconst 1, 1) := by decide +kernel
theorem dX2_resumeOrder_20 : decode cX2_resumeOrder 20 = .ok (.if_icmp .eq 6, 3) := by decide +kernel
theorem dX2_resumeOrder_23 : decode cX2_resumeOrder 23 = .ok (.bipush (-5), 2) := by decide +kernel
theorem dX2_resumeOrder_25 : decode cX2_resumeOrder 25 = .ok (.ireturn, 1) := by decide +kernel
theorem dX2_resumeOrder_26 : decode cX2_resumeOrder 26 = .ok (.aload_n 0, 1) := by decide +kernel
theorem dX2_resumeOrder_27 : decode cX2_resumeOrder 27 = .ok (.getfield 26, 3) := by decide +kernel
theorem dX2_resumeOrder_30 : decode cX2_resumeOrder 30 = .ok (.iload_n 1, 1) := by decide +kernel
theorem dX2_resumeOrder_31 : decode cX2_resumeOrder 31 = .ok (.aaload, 1) := by decide +kernel
theorem dX2_resumeOrder_32 : decode cX2_resumeOrder 32 = .ok (.iconst 0, 1) := by decide +kernel
theorem dX2_resumeOrder_33 : decode cX2_resumeOrder 33 = .ok (.putfield 127, 3) := by decide +kernel
theorem dX2_resumeOrder_36 : decode cX2_resumeOrder 36 = .ok (.aload_n 0, 1) := by decide +kernel
theorem dX2_resumeOrder_37 : decode cX2_resumeOrder 37 = .ok (.getfield 26, 3) := by decide +kernel
theorem dX2_resumeOrder_40 : decode cX2_resumeOrder 40 = .ok (.iload_n 1, 1) := by decide +kernel
theorem dX2_resumeOrder_41 : decode cX2_resumeOrder 41 = .ok (.aaload, 1) := by decide +kernel
theorem dX2_resumeOrder_42 : decode cX2_resumeOrder 42 = .ok (.aload_n 0, 1) := by decide +kernel
theorem dX2_resumeOrder_43 : decode cX2_resumeOrder 43 = .ok (.getfield 68, 3) := by decide +kernel
theorem dX2_resumeOrder_46 : decode cX2_resumeOrder 46 = .ok (.aload_n 0, 1) := by decide +kernel
theorem dX2_resumeOrder_47 : decode cX2_resumeOrder 47 = .ok (.getfield 12, 3) := by decide +kernel
theorem dX2_resumeOrder_50 : decode cX2_resumeOrder 50 = .ok (.invokevirtual 119, 3) := by decide +kernel
theorem dX2_resumeOrder_53 : decode cX2_resumeOrder 53 = .ok (.ireturn, 1) := by decide +kernel
theorem dX2_dropPayment_0 : decode cX2_dropPayment 0 = .ok (.iload_n 1, 1) := by decide +kernel
theorem dX2_dropPayment_1 : decode cX2_dropPayment 1 = .ok (.iconst 0, 1) := by decide +kernel
theorem dX2_dropPayment_2 : decode cX2_dropPayment 2 = .ok (.aload_n 0, 1) := by decide +kernel
theorem dX2_dropPayment_3 : decode cX2_dropPayment 3 = .ok (.getfield 33, 3) := by decide +kernel
theorem dX2_dropPayment_6 : decode cX2_dropPayment 6 = .ok (.getfield 138, 3) := by decide +kernel
theorem dX2_dropPayment_9 : decode cX2_dropPayment 9 = .ok (.iconst 1, 1) := by decide +kernel
theorem dX2_dropPayment_10 : decode cX2_dropPayment 10 = .ok (.isub, 1) := by decide +kernel
theorem dX2_dropPayment_11 : decode cX2_dropPayment 11 = .ok (.invokestatic 77, 3) := by decide +kernel
theorem dX2_dropPayment_14 : decode cX2_dropPayment 14 = .ok (.ifCond .ne 5, 3) := by decide +kernel
theorem dX2_dropPayment_17 : decode cX2_dropPayment 17 = .ok (.iconst (-1), 1) := by decide +kernel
theorem dX2_dropPayment_18 : decode cX2_dropPayment 18 = .ok (.ireturn, 1) := by decide +kernel
theorem dX2_dropPayment_19 : decode cX2_dropPayment 19 = .ok (.aload_n 0, 1) := by decide +kernel
theorem dX2_dropPayment_20 : decode cX2_dropPayment 20 = .ok (.getfield 26, 3) := by decide +kernel
theorem dX2_dropPayment_23 : decode cX2_dropPayment 23 = .ok (.aload_n 0, 1) := by decide +kernel
theorem dX2_dropPayment_24 : decode cX2_dropPayment 24 = .ok (.getfield 33, 3) := by decide +kernel
theorem dX2_dropPayment_27 : decode cX2_dropPayment 27 = .ok (.getfield 141, 3) := by decide +kernel
theorem dX2_dropPayment_30 : decode cX2_dropPayment 30 = .ok (.iconst 0, 1) := by decide +kernel
theorem dX2_dropPayment_31 : decode cX2_dropPayment 31 = .ok (.aaload, 1) := by decide +kernel
theorem dX2_dropPayment_32 : decode cX2_dropPayment 32 = .ok (.iload_n 1, 1) := by decide +kernel
theorem dX2_dropPayment_33 : decode cX2_dropPayment 33 = .ok (.iaload, 1) := by decide +kernel
theorem dX2_dropPayment_34 : decode cX2_dropPayment 34 = .ok (.aaload, 1) := by decide +kernel
theorem dX2_dropPayment_35 : decode cX2_dropPayment 35 = .ok (.dup, 1) := by decide +kernel
theorem dX2_dropPayment_36 : decode cX2_dropPayment 36 = .ok (.getfield 145, 3) := by decide +kernel
theorem dX2_dropPayment_39 : decode cX2_dropPayment 39 = .ok (.iconst 1, 1) := by decide +kernel
theorem dX2_dropPayment_40 : decode cX2_dropPayment 40 = .ok (.iadd, 1) := by decide +kernel
theorem dX2_dropPayment_41 : decode cX2_dropPayment 41 = .ok (.putfield 145, 3) := by decide +kernel
theorem dX2_dropPayment_44 : decode cX2_dropPayment 44 = .ok (.aload_n 0, 1) := by decide +kernel
theorem dX2_dropPayment_45 : decode cX2_dropPayment 45 = .ok (.iload_n 1, 1) := by decide +kernel
theorem dX2_dropPayment_46 : decode cX2_dropPayment 46 = .ok (.invokevirtual 148, 3) := by decide +kernel
theorem dX2_dropPayment_49 : decode cX2_dropPayment 49 = .ok (.aload_n 0, 1) := by decide +kernel
theorem dX2_dropPayment_50 : decode cX2_dropPayment 50 = .ok (.getfield 33, 3) := by decide +kernel
theorem dX2_dropPayment_53 : decode cX2_dropPayment 53 = .ok (.invokevirtual 152, 3) := by decide +kernel
theorem dX2_dropPayment_56 : decode cX2_dropPayment 56 = .ok (.aload_n 0, 1) := by decide +kernel
theorem dX2_dropPayment_57 : decode cX2_dropPayment 57 = .ok (.getfield 33, 3) := by decide +kernel
theorem dX2_dropPayment_60 : decode cX2_dropPayment 60 = .ok (.getfield 138, 3) := by decide +kernel
theorem dX2_dropPayment_63 : decode cX2_dropPayment 63 = .ok (.ireturn, 1) := by decide +kernel
theorem dX2_nextNominalDay_0 : decode cX2_nextNominalDay 0 = .ok (.aload_n 0, 1) := by decide +kernel
theorem dX2_nextNominalDay_1 : decode cX2_nextNominalDay 1 = .ok (.getfield 26, 3) := by decide +kernel
theorem dX2_nextNominalDay_4 : decode cX2_nextNominalDay 4 = .ok (.iload_n 1, 1) := by decide +kernel
theorem dX2_nextNominalDay_5 : decode cX2_nextNominalDay 5 = .ok (.aaload, 1) := by decide +kernel
theorem dX2_nextNominalDay_6 : decode cX2_nextNominalDay 6 = .ok (.getfield 127, 3) := by decide +kernel
theorem dX2_nextNominalDay_9 : decode cX2_nextNominalDay 9 = .ok (.iconst 2, 1) := by decide +kernel
theorem dX2_nextNominalDay_10 : decode cX2_nextNominalDay 10 = .ok (.if_icmp .ne 6, 3) := by decide +kernel
theorem dX2_nextNominalDay_13 : decode cX2_nextNominalDay 13 = .ok (.bipush (-6), 2) := by decide +kernel
theorem dX2_nextNominalDay_15 : decode cX2_nextNominalDay 15 = .ok (.ireturn, 1) := by decide +kernel
theorem dX2_nextNominalDay_16 : decode cX2_nextNominalDay 16 = .ok (.aload_n 0, 1) := by decide +kernel
theorem dX2_nextNominalDay_17 : decode cX2_nextNominalDay 17 = .ok (.getfield 26, 3) := by decide +kernel
theorem dX2_nextNominalDay_20 : decode cX2_nextNominalDay 20 = .ok (.iload_n 1, 1) := by decide +kernel
theorem dX2_nextNominalDay_21 : decode cX2_nextNominalDay 21 = .ok (.aaload, 1) := by decide +kernel
theorem dX2_nextNominalDay_22 : decode cX2_nextNominalDay 22 = .ok (.aload_n 0, 1) := by decide +kernel
theorem dX2_nextNominalDay_23 : decode cX2_nextNominalDay 23 = .ok (.getfield 12, 3) := by decide +kernel
theorem dX2_nextNominalDay_26 : decode cX2_nextNominalDay 26 = .ok (.invokevirtual 155, 3) := by decide +kernel
theorem dX2_nextNominalDay_29 : decode cX2_nextNominalDay 29 = .ok (.aload_n 0, 1) := by decide +kernel
theorem dX2_nextNominalDay_30 : decode cX2_nextNominalDay 30 = .ok (.getfield 26, 3) := by decide +kernel
theorem dX2_nextNominalDay_33 : decode cX2_nextNominalDay 33 = .ok (.iload_n 1, 1) := by decide +kernel
theorem dX2_nextNominalDay_34 : decode cX2_nextNominalDay 34 = .ok (.aaload, 1) := by decide +kernel
theorem dX2_nextNominalDay_35 : decode cX2_nextNominalDay 35 = .ok (.getfield 158, 3) := by decide +kernel
theorem dX2_nextNominalDay_38 : decode cX2_nextNominalDay 38 = .ok (.ireturn, 1) := by decide +kernel
theorem dX2_numberOf_0 : decode cX2_numberOf 0 = .ok (.iload_n 1, 1) := by decide +kernel
theorem dX2_numberOf_1 : decode cX2_numberOf 1 = .ok (.tableswitch 129 0 14 #[75, 80, 85, 90, 98, 106, 106, 106, 115, 129, 129, 120, 120, 120, 120], 75) := by decide +kernel
theorem dX2_numberOf_76 : decode cX2_numberOf 76 = .ok (.aload_n 0, 1) := by decide +kernel
theorem dX2_numberOf_77 : decode cX2_numberOf 77 = .ok (.getfield 68, 3) := by decide +kernel
theorem dX2_numberOf_80 : decode cX2_numberOf 80 = .ok (.ireturn, 1) := by decide +kernel
theorem dX2_numberOf_81 : decode cX2_numberOf 81 = .ok (.aload_n 0, 1) := by decide +kernel
theorem dX2_numberOf_82 : decode cX2_numberOf 82 = .ok (.getfield 53, 3) := by decide +kernel
theorem dX2_numberOf_85 : decode cX2_numberOf 85 = .ok (.ireturn, 1) := by decide +kernel
theorem dX2_numberOf_86 : decode cX2_numberOf 86 = .ok (.aload_n 0, 1) := by decide +kernel
theorem dX2_numberOf_87 : decode cX2_numberOf 87 = .ok (.getfield 59, 3) := by decide +kernel
theorem dX2_numberOf_90 : decode cX2_numberOf 90 = .ok (.ireturn, 1) := by decide +kernel
theorem dX2_numberOf_91 : decode cX2_numberOf 91 = .ok (.aload_n 0, 1) := by decide +kernel
theorem dX2_numberOf_92 : decode cX2_numberOf 92 = .ok (.getfield 12, 3) := by decide +kernel
theorem dX2_numberOf_95 : decode cX2_numberOf 95 = .ok (.getfield 161, 3) := by decide +kernel
theorem dX2_numberOf_98 : decode cX2_numberOf 98 = .ok (.ireturn, 1) := by decide +kernel
theorem dX2_numberOf_99 : decode cX2_numberOf 99 = .ok (.aload_n 0, 1) := by decide +kernel
theorem dX2_numberOf_100 : decode cX2_numberOf 100 = .ok (.getfield 33, 3) := by decide +kernel
theorem dX2_numberOf_103 : decode cX2_numberOf 103 = .ok (.getfield 138, 3) := by decide +kernel
theorem dX2_numberOf_106 : decode cX2_numberOf 106 = .ok (.ireturn, 1) := by decide +kernel
theorem dX2_numberOf_107 : decode cX2_numberOf 107 = .ok (.aload_n 0, 1) := by decide +kernel
theorem dX2_numberOf_108 : decode cX2_numberOf 108 = .ok (.iload_n 1, 1) := by decide +kernel
theorem dX2_numberOf_109 : decode cX2_numberOf 109 = .ok (.bipush 6, 2) := by decide +kernel
theorem dX2_numberOf_111 : decode cX2_numberOf 111 = .ok (.iadd, 1) := by decide +kernel
theorem dX2_numberOf_112 : decode cX2_numberOf 112 = .ok (.invokevirtual 164, 3) := by decide +kernel
theorem dX2_numberOf_115 : decode cX2_numberOf 115 = .ok (.ireturn, 1) := by decide +kernel
theorem dX2_numberOf_116 : decode cX2_numberOf 116 = .ok (.aload_n 0, 1) := by decide +kernel
theorem dX2_numberOf_117 : decode cX2_numberOf 117 = .ok (.getfield 71, 3) := by decide +kernel
theorem dX2_numberOf_120 : decode cX2_numberOf 120 = .ok (.ireturn, 1) := by decide +kernel
theorem dX2_numberOf_121 : decode cX2_numberOf 121 = .ok (.aload_n 0, 1) := by decide +kernel
theorem dX2_numberOf_122 : decode cX2_numberOf 122 = .ok (.iload_n 1, 1) := by decide +kernel
theorem dX2_numberOf_123 : decode cX2_numberOf 123 = .ok (.bipush 11, 2) := by decide +kernel
theorem dX2_numberOf_125 : decode cX2_numberOf 125 = .ok (.isub, 1) := by decide +kernel
theorem dX2_numberOf_126 : decode cX2_numberOf 126 = .ok (.invokevirtual 88, 3) := by decide +kernel
theorem dX2_numberOf_129 : decode cX2_numberOf 129 = .ok (.ireturn, 1) := by decide +kernel
theorem dX2_numberOf_130 : decode cX2_numberOf 130 = .ok (.bipush (-2), 2) := by decide +kernel
theorem dX2_numberOf_132 : decode cX2_numberOf 132 = .ok (.ireturn, 1) := by decide +kernel
theorem dX2_sumOverOrders_0 : decode cX2_sumOverOrders 0 = .ok (.iconst 0, 1) := by decide +kernel
theorem dX2_sumOverOrders_1 : decode cX2_sumOverOrders 1 = .ok (.istore_n 2, 1) := by decide +kernel
theorem dX2_sumOverOrders_2 : decode cX2_sumOverOrders 2 = .ok (.iconst 0, 1) := by decide +kernel
theorem dX2_sumOverOrders_3 : decode cX2_sumOverOrders 3 = .ok (.istore_n 3, 1) := by decide +kernel
theorem dX2_sumOverOrders_4 : decode cX2_sumOverOrders 4 = .ok (.iload_n 3, 1) := by decide +kernel
theorem dX2_sumOverOrders_5 : decode cX2_sumOverOrders 5 = .ok (.aload_n 0, 1) := by decide +kernel
theorem dX2_sumOverOrders_6 : decode cX2_sumOverOrders 6 = .ok (.getfield 59, 3) := by decide +kernel
theorem dX2_sumOverOrders_9 : decode cX2_sumOverOrders 9 = .ok (.if_icmp .ge 22, 3) := by decide +kernel
theorem dX2_sumOverOrders_12 : decode cX2_sumOverOrders 12 = .ok (.iload_n 2, 1) := by decide +kernel
theorem dX2_sumOverOrders_13 : decode cX2_sumOverOrders 13 = .ok (.aload_n 0, 1) := by decide +kernel
theorem dX2_sumOverOrders_14 : decode cX2_sumOverOrders 14 = .ok (.getfield 26, 3) := by decide +kernel
theorem dX2_sumOverOrders_17 : decode cX2_sumOverOrders 17 = .ok (.iload_n 3, 1) := by decide +kernel
theorem dX2_sumOverOrders_18 : decode cX2_sumOverOrders 18 = .ok (.aaload, 1) := by decide +kernel
theorem dX2_sumOverOrders_19 : decode cX2_sumOverOrders 19 = .ok (.iload_n 1, 1) := by decide +kernel
theorem dX2_sumOverOrders_20 : decode cX2_sumOverOrders 20 = .ok (.invokevirtual 167, 3) := by decide +kernel
theorem dX2_sumOverOrders_23 : decode cX2_sumOverOrders 23 = .ok (.iadd, 1) := by decide +kernel
theorem dX2_sumOverOrders_24 : decode cX2_sumOverOrders 24 = .ok (.istore_n 2, 1) := by decide +kernel
theorem dX2_sumOverOrders_25 : decode cX2_sumOverOrders 25 = .ok (.iinc 3 1, 3) := by decide +kernel
theorem dX2_sumOverOrders_28 : decode cX2_sumOverOrders 28 = .ok (.goto (-24), 3) := by decide +kernel
theorem dX2_sumOverOrders_31 : decode cX2_sumOverOrders 31 = .ok (.iload_n 2, 1) := by decide +kernel
theorem dX2_sumOverOrders_32 : decode cX2_sumOverOrders 32 = .ok (.ireturn, 1) := by decide +kernel
theorem dX2_errorOfDays_0 : decode cX2_errorOfDays 0 = .ok (.iload_n 1, 1) := by decide +kernel
theorem dX2_errorOfDays_1 : decode cX2_errorOfDays 1 = .ok (.iconst 1, 1) := by decide +kernel
theorem dX2_errorOfDays_2 : decode cX2_errorOfDays 2 = .ok (.sipush 400, 3) := by decide +kernel
theorem dX2_errorOfDays_5 : decode cX2_errorOfDays 5 = .ok (.invokestatic 77, 3) := by decide +kernel
theorem dX2_errorOfDays_8 : decode cX2_errorOfDays 8 = .ok (.ifCond .ne 6, 3) := by decide +kernel
theorem dX2_errorOfDays_11 : decode cX2_errorOfDays 11 = .ok (.bipush (-2), 2) := by decide +kernel
theorem dX2_errorOfDays_13 : decode cX2_errorOfDays 13 = .ok (.ireturn, 1) := by decide +kernel
theorem dX2_errorOfDays_14 : decode cX2_errorOfDays 14 = .ok (.aload_n 0, 1) := by decide +kernel
theorem dX2_errorOfDays_15 : decode cX2_errorOfDays 15 = .ok (.getfield 68, 3) := by decide +kernel
theorem dX2_errorOfDays_18 : decode cX2_errorOfDays 18 = .ok (.iload_n 1, 1) := by decide +kernel
theorem dX2_errorOfDays_19 : decode cX2_errorOfDays 19 = .ok (.iadd, 1) := by decide +kernel
theorem dX2_errorOfDays_20 : decode cX2_errorOfDays 20 = .ok (.sipush 1094, 3) := by decide +kernel
theorem dX2_errorOfDays_23 : decode cX2_errorOfDays 23 = .ok (.if_icmp .le 8, 3) := by decide +kernel
theorem dX2_errorOfDays_26 : decode cX2_errorOfDays 26 = .ok (.bipush (-5), 2) := by decide +kernel
theorem dX2_errorOfDays_28 : decode cX2_errorOfDays 28 = .ok (.goto 4, 3) := by decide +kernel
theorem dX2_errorOfDays_31 : decode cX2_errorOfDays 31 = .ok (.iconst 0, 1) := by decide +kernel
theorem dX2_errorOfDays_32 : decode cX2_errorOfDays 32 = .ok (.ireturn, 1) := by decide +kernel
theorem dX2_passDays_0 : decode cX2_passDays 0 = .ok (.iconst 0, 1) := by decide +kernel
theorem dX2_passDays_1 : decode cX2_passDays 1 = .ok (.istore_n 3, 1) := by decide +kernel
theorem dX2_passDays_2 : decode cX2_passDays 2 = .ok (.iload_n 3, 1) := by decide +kernel
theorem dX2_passDays_3 : decode cX2_passDays 3 = .ok (.aload_n 0, 1) := by decide +kernel
theorem dX2_passDays_4 : decode cX2_passDays 4 = .ok (.getfield 59, 3) := by decide +kernel
theorem dX2_passDays_7 : decode cX2_passDays 7 = .ok (.if_icmp .ge 22, 3) := by decide +kernel
theorem dX2_passDays_10 : decode cX2_passDays 10 = .ok (.aload_n 0, 1) := by decide +kernel
theorem dX2_passDays_11 : decode cX2_passDays 11 = .ok (.getfield 26, 3) := by decide +kernel
theorem dX2_passDays_14 : decode cX2_passDays 14 = .ok (.iload_n 3, 1) := by decide +kernel
theorem dX2_passDays_15 : decode cX2_passDays 15 = .ok (.aaload, 1) := by decide +kernel
theorem dX2_passDays_16 : decode cX2_passDays 16 = .ok (.aload_n 0, 1) := by decide +kernel
theorem dX2_passDays_17 : decode cX2_passDays 17 = .ok (.getfield 12, 3) := by decide +kernel
theorem dX2_passDays_20 : decode cX2_passDays 20 = .ok (.invokevirtual 155, 3) := by decide +kernel
theorem dX2_passDays_23 : decode cX2_passDays 23 = .ok (.iinc 3 1, 3) := by decide +kernel
theorem dX2_passDays_26 : decode cX2_passDays 26 = .ok (.goto (-24), 3) := by decide +kernel
theorem dX2_passDays_29 : decode cX2_passDays 29 = .ok (.iconst 0, 1) := by decide +kernel
theorem dX2_passDays_30 : decode cX2_passDays 30 = .ok (.istore_n 3, 1) := by decide +kernel
theorem dX2_passDays_31 : decode cX2_passDays 31 = .ok (.iload_n 3, 1) := by decide +kernel
theorem dX2_passDays_32 : decode cX2_passDays 32 = .ok (.iload_n 1, 1) := by decide +kernel
theorem dX2_passDays_33 : decode cX2_passDays 33 = .ok (.if_icmp .ge 80, 3) := by decide +kernel
theorem dX2_passDays_36 : decode cX2_passDays 36 = .ok (.aload_n 0, 1) := by decide +kernel
theorem dX2_passDays_37 : decode cX2_passDays 37 = .ok (.getfield 68, 3) := by decide +kernel
theorem dX2_passDays_40 : decode cX2_passDays 40 = .ok (.sipush 1094, 3) := by decide +kernel
theorem dX2_passDays_43 : decode cX2_passDays 43 = .ok (.if_icmp .ge 70, 3) := by decide +kernel
theorem dX2_passDays_46 : decode cX2_passDays 46 = .ok (.aload_n 0, 1) := by decide +kernel
theorem dX2_passDays_47 : decode cX2_passDays 47 = .ok (.iconst 0, 1) := by decide +kernel
theorem dX2_passDays_48 : decode cX2_passDays 48 = .ok (.putfield 170, 3) := by decide +kernel
theorem dX2_passDays_51 : decode cX2_passDays 51 = .ok (.aload_n 0, 1) := by decide +kernel
theorem dX2_passDays_52 : decode cX2_passDays 52 = .ok (.invokevirtual 173, 3) := by decide +kernel
theorem dX2_passDays_55 : decode cX2_passDays 55 = .ok (.aload_n 0, 1) := by decide +kernel
theorem dX2_passDays_56 : decode cX2_passDays 56 = .ok (.invokevirtual 176, 3) := by decide +kernel
theorem dX2_passDays_59 : decode cX2_passDays 59 = .ok (.aload_n 0, 1) := by decide +kernel
theorem dX2_passDays_60 : decode cX2_passDays 60 = .ok (.getfield 12, 3) := by decide +kernel
theorem dX2_passDays_63 : decode cX2_passDays 63 = .ok (.aload_n 0, 1) := by decide +kernel
theorem dX2_passDays_64 : decode cX2_passDays 64 = .ok (.getfield 68, 3) := by decide +kernel
theorem dX2_passDays_67 : decode cX2_passDays 67 = .ok (.invokevirtual 179, 3) := by decide +kernel
theorem dX2_passDays_70 : decode cX2_passDays 70 = .ok (.ifCond .eq 7, 3) := by decide +kernel
theorem dX2_passDays_73 : decode cX2_passDays 73 = .ok (.aload_n 0, 1) := by decide +kernel
theorem dX2_passDays_74 : decode cX2_passDays 74 = .ok (.invokevirtual 182, 3) := by decide +kernel
theorem dX2_passDays_77 : decode cX2_passDays 77 = .ok (.aload_n 0, 1) := by decide +kernel
theorem dX2_passDays_78 : decode cX2_passDays 78 = .ok (.invokevirtual 185, 3) := by decide +kernel
theorem dX2_passDays_81 : decode cX2_passDays 81 = .ok (.aload_n 0, 1) := by decide +kernel
theorem dX2_passDays_82 : decode cX2_passDays 82 = .ok (.dup, 1) := by decide +kernel
theorem dX2_passDays_83 : decode cX2_passDays 83 = .ok (.getfield 68, 3) := by decide +kernel
theorem dX2_passDays_86 : decode cX2_passDays 86 = .ok (.iconst 1, 1) := by decide +kernel
theorem dX2_passDays_87 : decode cX2_passDays 87 = .ok (.iadd, 1) := by decide +kernel
theorem dX2_passDays_88 : decode cX2_passDays 88 = .ok (.putfield 68, 3) := by decide +kernel
theorem dX2_passDays_91 : decode cX2_passDays 91 = .ok (.aload_n 0, 1) := by decide +kernel
theorem dX2_passDays_92 : decode cX2_passDays 92 = .ok (.getfield 170, 3) := by decide +kernel
theorem dX2_passDays_95 : decode cX2_passDays 95 = .ok (.iload_n 2, 1) := by decide +kernel
theorem dX2_passDays_96 : decode cX2_passDays 96 = .ok (.iand, 1) := by decide +kernel
theorem dX2_passDays_97 : decode cX2_passDays 97 = .ok (.ifCond .eq 10, 3) := by decide +kernel
theorem dX2_passDays_100 : decode cX2_passDays 100 = .ok (.aload_n 0, 1) := by decide +kernel
theorem dX2_passDays_101 : decode cX2_passDays 101 = .ok (.getfield 68, 3) := by decide +kernel
theorem dX2_passDays_104 : decode cX2_passDays 104 = .ok (.iconst 1, 1) := by decide +kernel
theorem dX2_passDays_105 : decode cX2_passDays 105 = .ok (.isub, 1) := by decide +kernel
theorem dX2_passDays_106 : decode cX2_passDays 106 = .ok (.ireturn, 1) := by decide +kernel
theorem dX2_passDays_107 : decode cX2_passDays 107 = .ok (.iinc 3 1, 3) := by decide +kernel
theorem dX2_passDays_110 : decode cX2_passDays 110 = .ok (.goto (-79), 3) := by decide +kernel
theorem dX2_passDays_113 : decode cX2_passDays 113 = .ok (.bipush (-6), 2) := by decide +kernel
theorem dX2_passDays_115 : decode cX2_passDays 115 = .ok (.ireturn, 1) := by decide +kernel
theorem dX2_makePaymentsDue_0 : decode cX2_makePaymentsDue 0 = .ok (.iconst 0, 1) := by decide +kernel
theorem dX2_makePaymentsDue_1 : decode cX2_makePaymentsDue 1 = .ok (.istore_n 1, 1) := by decide +kernel
theorem dX2_makePaymentsDue_2 : decode cX2_makePaymentsDue 2 = .ok (.iload_n 1, 1) := by decide +kernel
theorem dX2_makePaymentsDue_3 : decode cX2_makePaymentsDue 3 = .ok (.aload_n 0, 1) := by decide +kernel
theorem dX2_makePaymentsDue_4 : decode cX2_makePaymentsDue 4 = .ok (.getfield 59, 3) := by decide +kernel
theorem dX2_makePaymentsDue_7 : decode cX2_makePaymentsDue 7 = .ok (.if_icmp .ge 104, 3) := by decide +kernel
theorem dX2_makePaymentsDue_10 : decode cX2_makePaymentsDue 10 = .ok (.aload_n 0, 1) := by decide +kernel
theorem dX2_makePaymentsDue_11 : decode cX2_makePaymentsDue 11 = .ok (.getfield 26, 3) := by decide +kernel
theorem dX2_makePaymentsDue_14 : decode cX2_makePaymentsDue 14 = .ok (.iload_n 1, 1) := by decide +kernel
theorem dX2_makePaymentsDue_15 : decode cX2_makePaymentsDue 15 = .ok (.aaload, 1) := by decide +kernel
theorem dX2_makePaymentsDue_16 : decode cX2_makePaymentsDue 16 = .ok (.astore_n 2, 1) := by decide +kernel
theorem dX2_makePaymentsDue_17 : decode cX2_makePaymentsDue 17 = .ok (.aload_n 2, 1) := by decide +kernel
theorem dX2_makePaymentsDue_18 : decode cX2_makePaymentsDue 18 = .ok (.getfield 127, 3) := by decide +kernel
theorem dX2_makePaymentsDue_21 : decode cX2_makePaymentsDue 21 = .ok (.ifCond .eq 6, 3) := by decide +kernel
theorem dX2_makePaymentsDue_24 : decode cX2_makePaymentsDue 24 = .ok (.goto 81, 3) := by decide +kernel
theorem dX2_makePaymentsDue_27 : decode cX2_makePaymentsDue 27 = .ok (.iconst 0, 1) := by decide +kernel
theorem dX2_makePaymentsDue_28 : decode cX2_makePaymentsDue 28 = .ok (.istore_n 3, 1) := by decide +kernel
theorem dX2_makePaymentsDue_29 : decode cX2_makePaymentsDue 29 = .ok (.iload_n 3, 1) := by decide +kernel
theorem dX2_makePaymentsDue_30 : decode cX2_makePaymentsDue 30 = .ok (.sipush 1094, 3) := by decide +kernel
theorem dX2_makePaymentsDue_33 : decode cX2_makePaymentsDue 33 = .ok (.if_icmp .gt 50, 3) := by decide +kernel
theorem dX2_makePaymentsDue_36 : decode cX2_makePaymentsDue 36 = .ok (.aload_n 2, 1) := by decide +kernel
theorem dX2_makePaymentsDue_37 : decode cX2_makePaymentsDue 37 = .ok (.invokevirtual 188, 3) := by decide +kernel
theorem dX2_makePaymentsDue_40 : decode cX2_makePaymentsDue 40 = .ok (.ifCond .eq 43, 3) := by decide +kernel
theorem dX2_makePaymentsDue_43 : decode cX2_makePaymentsDue 43 = .ok (.aload_n 2, 1) := by decide +kernel
theorem dX2_makePaymentsDue_44 : decode cX2_makePaymentsDue 44 = .ok (.getfield 192, 3) := by decide +kernel
theorem dX2_makePaymentsDue_47 : decode cX2_makePaymentsDue 47 = .ok (.aload_n 0, 1) := by decide +kernel
theorem dX2_makePaymentsDue_48 : decode cX2_makePaymentsDue 48 = .ok (.getfield 68, 3) := by decide +kernel
theorem dX2_makePaymentsDue_51 : decode cX2_makePaymentsDue 51 = .ok (.if_icmp .gt 32, 3) := by decide +kernel
theorem dX2_makePaymentsDue_54 : decode cX2_makePaymentsDue 54 = .ok (.aload_n 0, 1) := by decide +kernel
theorem dX2_makePaymentsDue_55 : decode cX2_makePaymentsDue 55 = .ok (.iload_n 1, 1) := by decide +kernel
theorem dX2_makePaymentsDue_56 : decode cX2_makePaymentsDue 56 = .ok (.invokevirtual 195, 3) := by decide +kernel
theorem dX2_makePaymentsDue_59 : decode cX2_makePaymentsDue 59 = .ok (.aload_n 2, 1) := by decide +kernel
theorem dX2_makePaymentsDue_60 : decode cX2_makePaymentsDue 60 = .ok (.aload_n 2, 1) := by decide +kernel
theorem dX2_makePaymentsDue_61 : decode cX2_makePaymentsDue 61 = .ok (.getfield 198, 3) := by decide +kernel
theorem dX2_makePaymentsDue_64 : decode cX2_makePaymentsDue 64 = .ok (.iconst 1, 1) := by decide +kernel
theorem dX2_makePaymentsDue_65 : decode cX2_makePaymentsDue 65 = .ok (.iadd, 1) := by decide +kernel
theorem dX2_makePaymentsDue_66 : decode cX2_makePaymentsDue 66 = .ok (.putfield 201, 3) := by decide +kernel
theorem dX2_makePaymentsDue_69 : decode cX2_makePaymentsDue 69 = .ok (.aload_n 2, 1) := by decide +kernel
theorem dX2_makePaymentsDue_70 : decode cX2_makePaymentsDue 70 = .ok (.aload_n 0, 1) := by decide +kernel
theorem dX2_makePaymentsDue_71 : decode cX2_makePaymentsDue 71 = .ok (.getfield 12, 3) := by decide +kernel
theorem dX2_makePaymentsDue_74 : decode cX2_makePaymentsDue 74 = .ok (.invokevirtual 155, 3) := by decide +kernel
theorem dX2_makePaymentsDue_77 : decode cX2_makePaymentsDue 77 = .ok (.iinc 3 1, 3) := by decide +kernel
theorem dX2_makePaymentsDue_80 : decode cX2_makePaymentsDue 80 = .ok (.goto (-51), 3) := by decide +kernel
theorem dX2_makePaymentsDue_83 : decode cX2_makePaymentsDue 83 = .ok (.aload_n 2, 1) := by decide +kernel
theorem dX2_makePaymentsDue_84 : decode cX2_makePaymentsDue 84 = .ok (.invokevirtual 188, 3) := by decide +kernel
theorem dX2_makePaymentsDue_87 : decode cX2_makePaymentsDue 87 = .ok (.ifCond .eq 13, 3) := by decide +kernel
theorem dX2_makePaymentsDue_90 : decode cX2_makePaymentsDue 90 = .ok (.aload_n 2, 1) := by decide +kernel
theorem dX2_makePaymentsDue_91 : decode cX2_makePaymentsDue 91 = .ok (.getfield 192, 3) := by decide +kernel
theorem dX2_makePaymentsDue_94 : decode cX2_makePaymentsDue 94 = .ok (.sipush 1095, 3) := by decide +kernel
theorem dX2_makePaymentsDue_97 : decode cX2_makePaymentsDue 97 = .ok (.if_icmp .ne 8, 3) := by decide +kernel
theorem dX2_makePaymentsDue_100 : decode cX2_makePaymentsDue 100 = .ok (.aload_n 2, 1) := by decide +kernel
theorem dX2_makePaymentsDue_101 : decode cX2_makePaymentsDue 101 = .ok (.iconst 2, 1) := by decide +kernel
theorem dX2_makePaymentsDue_102 : decode cX2_makePaymentsDue 102 = .ok (.putfield 127, 3) := by decide +kernel
theorem dX2_makePaymentsDue_105 : decode cX2_makePaymentsDue 105 = .ok (.iinc 1 1, 3) := by decide +kernel
theorem dX2_makePaymentsDue_108 : decode cX2_makePaymentsDue 108 = .ok (.goto (-106), 3) := by decide +kernel
theorem dX2_makePaymentsDue_111 : decode cX2_makePaymentsDue 111 = .ok (.return_, 1) := by decide +kernel
theorem dX2_takeNextOccurrence_0 : decode cX2_takeNextOccurrence 0 = .ok (.aload_n 0, 1) := by decide +kernel
theorem dX2_takeNextOccurrence_1 : decode cX2_takeNextOccurrence 1 = .ok (.getfield 26, 3) := by decide +kernel
theorem dX2_takeNextOccurrence_4 : decode cX2_takeNextOccurrence 4 = .ok (.iload_n 1, 1) := by decide +kernel
theorem dX2_takeNextOccurrence_5 : decode cX2_takeNextOccurrence 5 = .ok (.aaload, 1) := by decide +kernel
theorem dX2_takeNextOccurrence_6 : decode cX2_takeNextOccurrence 6 = .ok (.astore_n 2, 1) := by decide +kernel
theorem dX2_takeNextOccurrence_7 : decode cX2_takeNextOccurrence 7 = .ok (.aload_n 2, 1) := by decide +kernel
theorem dX2_takeNextOccurrence_8 : decode cX2_takeNextOccurrence 8 = .ok (.getfield 204, 3) := by decide +kernel
theorem dX2_takeNextOccurrence_11 : decode cX2_takeNextOccurrence 11 = .ok (.ifCond .ne 13, 3) := by decide +kernel
theorem dX2_takeNextOccurrence_14 : decode cX2_takeNextOccurrence 14 = .ok (.aload_n 2, 1) := by decide +kernel
theorem dX2_takeNextOccurrence_15 : decode cX2_takeNextOccurrence 15 = .ok (.dup, 1) := by decide +kernel
theorem dX2_takeNextOccurrence_16 : decode cX2_takeNextOccurrence 16 = .ok (.getfield 208, 3) := by decide +kernel
theorem dX2_takeNextOccurrence_19 : decode cX2_takeNextOccurrence 19 = .ok (.iconst 1, 1) := by decide +kernel
theorem dX2_takeNextOccurrence_20 : decode cX2_takeNextOccurrence 20 = .ok (.isub, 1) := by decide +kernel
theorem dX2_takeNextOccurrence_21 : decode cX2_takeNextOccurrence 21 = .ok (.putfield 208, 3) := by decide +kernel
theorem dX2_takeNextOccurrence_24 : decode cX2_takeNextOccurrence 24 = .ok (.aload_n 2, 1) := by decide +kernel
theorem dX2_takeNextOccurrence_25 : decode cX2_takeNextOccurrence 25 = .ok (.getfield 211, 3) := by decide +kernel
theorem dX2_takeNextOccurrence_28 : decode cX2_takeNextOccurrence 28 = .ok (.iconst 4, 1) := by decide +kernel
theorem dX2_takeNextOccurrence_29 : decode cX2_takeNextOccurrence 29 = .ok (.if_icmp .ne 28, 3) := by decide +kernel
theorem dX2_takeNextOccurrence_32 : decode cX2_takeNextOccurrence 32 = .ok (.aload_n 0, 1) := by decide +kernel
theorem dX2_takeNextOccurrence_33 : decode cX2_takeNextOccurrence 33 = .ok (.getfield 12, 3) := by decide +kernel
theorem dX2_takeNextOccurrence_36 : decode cX2_takeNextOccurrence 36 = .ok (.aload_n 2, 1) := by decide +kernel
theorem dX2_takeNextOccurrence_37 : decode cX2_takeNextOccurrence 37 = .ok (.getfield 158, 3) := by decide +kernel
theorem dX2_takeNextOccurrence_40 : decode cX2_takeNextOccurrence 40 = .ok (.invokevirtual 179, 3) := by decide +kernel
theorem dX2_takeNextOccurrence_43 : decode cX2_takeNextOccurrence 43 = .ok (.ifCond .ne 14, 3) := by decide +kernel
theorem dX2_takeNextOccurrence_46 : decode cX2_takeNextOccurrence 46 = .ok (.aload_n 2, 1) := by decide +kernel
theorem dX2_takeNextOccurrence_47 : decode cX2_takeNextOccurrence 47 = .ok (.dup, 1) := by decide +kernel
theorem dX2_takeNextOccurrence_48 : decode cX2_takeNextOccurrence 48 = .ok (.getfield 214, 3) := by decide +kernel
theorem dX2_takeNextOccurrence_51 : decode cX2_takeNextOccurrence 51 = .ok (.iconst 1, 1) := by decide +kernel
theorem dX2_takeNextOccurrence_52 : decode cX2_takeNextOccurrence 52 = .ok (.iadd, 1) := by decide +kernel
theorem dX2_takeNextOccurrence_53 : decode cX2_takeNextOccurrence 53 = .ok (.putfield 214, 3) := by decide +kernel
theorem dX2_takeNextOccurrence_56 : decode cX2_takeNextOccurrence 56 = .ok (.return_, 1) := by decide +kernel
theorem dX2_takeNextOccurrence_57 : decode cX2_takeNextOccurrence 57 = .ok (.aload_n 0, 1) := by decide +kernel
theorem dX2_takeNextOccurrence_58 : decode cX2_takeNextOccurrence 58 = .ok (.getfield 33, 3) := by decide +kernel
theorem dX2_takeNextOccurrence_61 : decode cX2_takeNextOccurrence 61 = .ok (.iload_n 1, 1) := by decide +kernel
theorem dX2_takeNextOccurrence_62 : decode cX2_takeNextOccurrence 62 = .ok (.aload_n 2, 1) := by decide +kernel
theorem dX2_takeNextOccurrence_63 : decode cX2_takeNextOccurrence 63 = .ok (.getfield 130, 3) := by decide +kernel
theorem dX2_takeNextOccurrence_66 : decode cX2_takeNextOccurrence 66 = .ok (.aload_n 2, 1) := by decide +kernel
theorem dX2_takeNextOccurrence_67 : decode cX2_takeNextOccurrence 67 = .ok (.getfield 158, 3) := by decide +kernel
theorem dX2_takeNextOccurrence_70 : decode cX2_takeNextOccurrence 70 = .ok (.aload_n 0, 1) := by decide +kernel
theorem dX2_takeNextOccurrence_71 : decode cX2_takeNextOccurrence 71 = .ok (.getfield 68, 3) := by decide +kernel
theorem dX2_takeNextOccurrence_74 : decode cX2_takeNextOccurrence 74 = .ok (.invokevirtual 217, 3) := by decide +kernel
theorem dX2_takeNextOccurrence_77 : decode cX2_takeNextOccurrence 77 = .ok (.ifCond .ne 4, 3) := by decide +kernel
theorem dX2_takeNextOccurrence_80 : decode cX2_takeNextOccurrence 80 = .ok (.return_, 1) := by decide +kernel
theorem dX2_takeNextOccurrence_81 : decode cX2_takeNextOccurrence 81 = .ok (.aload_n 2, 1) := by decide +kernel
theorem dX2_takeNextOccurrence_82 : decode cX2_takeNextOccurrence 82 = .ok (.dup, 1) := by decide +kernel
theorem dX2_takeNextOccurrence_83 : decode cX2_takeNextOccurrence 83 = .ok (.getfield 136, 3) := by decide +kernel
theorem dX2_takeNextOccurrence_86 : decode cX2_takeNextOccurrence 86 = .ok (.iconst 1, 1) := by decide +kernel
theorem dX2_takeNextOccurrence_87 : decode cX2_takeNextOccurrence 87 = .ok (.iadd, 1) := by decide +kernel
theorem dX2_takeNextOccurrence_88 : decode cX2_takeNextOccurrence 88 = .ok (.putfield 136, 3) := by decide +kernel
theorem dX2_takeNextOccurrence_91 : decode cX2_takeNextOccurrence 91 = .ok (.aload_n 0, 1) := by decide +kernel
theorem dX2_takeNextOccurrence_92 : decode cX2_takeNextOccurrence 92 = .ok (.getfield 20, 3) := by decide +kernel
theorem dX2_takeNextOccurrence_95 : decode cX2_takeNextOccurrence 95 = .ok (.aload_n 2, 1) := by decide +kernel
theorem dX2_takeNextOccurrence_96 : decode cX2_takeNextOccurrence 96 = .ok (.getfield 221, 3) := by decide +kernel
theorem dX2_takeNextOccurrence_99 : decode cX2_takeNextOccurrence 99 = .ok (.aaload, 1) := by decide +kernel
theorem dX2_takeNextOccurrence_100 : decode cX2_takeNextOccurrence 100 = .ok (.dup, 1) := by decide +kernel
theorem dX2_takeNextOccurrence_101 : decode cX2_takeNextOccurrence 101 = .ok (.getfield 224, 3) := by decide +kernel
theorem dX2_takeNextOccurrence_104 : decode cX2_takeNextOccurrence 104 = .ok (.aload_n 2, 1) := by decide +kernel
theorem dX2_takeNextOccurrence_105 : decode cX2_takeNextOccurrence 105 = .ok (.getfield 130, 3) := by decide +kernel
theorem dX2_takeNextOccurrence_108 : decode cX2_takeNextOccurrence 108 = .ok (.i2l, 1) := by decide +kernel
theorem dX2_takeNextOccurrence_109 : decode cX2_takeNextOccurrence 109 = .ok (.ladd, 1) := by decide +kernel
theorem dX2_takeNextOccurrence_110 : decode cX2_takeNextOccurrence 110 = .ok (.putfield 224, 3) := by decide +kernel
theorem dX2_takeNextOccurrence_113 : decode cX2_takeNextOccurrence 113 = .ok (.return_, 1) := by decide +kernel
theorem dX2_sweep_0 : decode cX2_sweep 0 = .ok (.iconst 0, 1) := by decide +kernel
theorem dX2_sweep_1 : decode cX2_sweep 1 = .ok (.istore_n 1, 1) := by decide +kernel
theorem dX2_sweep_2 : decode cX2_sweep 2 = .ok (.iload_n 1, 1) := by decide +kernel
theorem dX2_sweep_3 : decode cX2_sweep 3 = .ok (.aload_n 0, 1) := by decide +kernel
theorem dX2_sweep_4 : decode cX2_sweep 4 = .ok (.getfield 53, 3) := by decide +kernel
theorem dX2_sweep_7 : decode cX2_sweep 7 = .ok (.if_icmp .ge 128, 3) := by decide +kernel
theorem dX2_sweep_10 : decode cX2_sweep 10 = .ok (.aload_n 0, 1) := by decide +kernel
theorem dX2_sweep_11 : decode cX2_sweep 11 = .ok (.getfield 20, 3) := by decide +kernel
theorem dX2_sweep_14 : decode cX2_sweep 14 = .ok (.iload_n 1, 1) := by decide +kernel
theorem dX2_sweep_15 : decode cX2_sweep 15 = .ok (.aaload, 1) := by decide +kernel
theorem dX2_sweep_16 : decode cX2_sweep 16 = .ok (.astore_n 2, 1) := by decide +kernel
theorem dX2_sweep_17 : decode cX2_sweep 17 = .ok (.aload_n 0, 1) := by decide +kernel
theorem dX2_sweep_18 : decode cX2_sweep 18 = .ok (.aload_n 2, 1) := by decide +kernel
theorem dX2_sweep_19 : decode cX2_sweep 19 = .ok (.getfield 101, 3) := by decide +kernel
theorem dX2_sweep_22 : decode cX2_sweep 22 = .ok (.invokevirtual 97, 3) := by decide +kernel
theorem dX2_sweep_25 : decode cX2_sweep 25 = .ok (.ifCond .ne 6, 3) := by decide +kernel
theorem dX2_sweep_28 : decode cX2_sweep 28 = .ok (.goto 101, 3) := by decide +kernel
theorem dX2_sweep_31 : decode cX2_sweep 31 = .ok (.aload_n 0, 1) := by decide +kernel
theorem dX2_sweep_32 : decode cX2_sweep 32 = .ok (.getfield 20, 3) := by decide +kernel
theorem dX2_sweep_35 : decode cX2_sweep 35 = .ok (.aload_n 2, 1) := by decide +kernel
theorem dX2_sweep_36 : decode cX2_sweep 36 = .ok (.getfield 101, 3) := by decide +kernel
theorem dX2_sweep_39 : decode cX2_sweep 39 = .ok (.aaload, 1) := by decide +kernel
theorem dX2_sweep_40 : decode cX2_sweep 40 = .ok (.astore_n 3, 1) := by decide +kernel
theorem dX2_sweep_41 : decode cX2_sweep 41 = .ok (.aload_n 2, 1) := by decide +kernel
theorem dX2_sweep_42 : decode cX2_sweep 42 = .ok (.getfield 224, 3) := by decide +kernel
theorem dX2_sweep_45 : decode cX2_sweep 45 = .ok (.aload_n 2, 1) := by decide +kernel
theorem dX2_sweep_46 : decode cX2_sweep 46 = .ok (.getfield 105, 3) := by decide +kernel
theorem dX2_sweep_49 : decode cX2_sweep 49 = .ok (.lsub, 1) := by decide +kernel
theorem dX2_sweep_50 : decode cX2_sweep 50 = .ok (.aload_n 2, 1) := by decide +kernel
theorem dX2_sweep_51 : decode cX2_sweep 51 = .ok (.getfield 227, 3) := by decide +kernel
theorem dX2_sweep_54 : decode cX2_sweep 54 = .ok (.i2l, 1) := by decide +kernel
theorem dX2_sweep_55 : decode cX2_sweep 55 = .ok (.lsub, 1) := by decide +kernel
theorem dX2_sweep_56 : decode cX2_sweep 56 = .ok (.lstore 4, 2) := by decide +kernel
theorem dX2_sweep_58 : decode cX2_sweep 58 = .ok (.lload 4, 2) := by decide +kernel
theorem dX2_sweep_60 : decode cX2_sweep 60 = .ok (.aload_n 3, 1) := by decide +kernel
theorem dX2_sweep_61 : decode cX2_sweep 61 = .ok (.getfield 105, 3) := by decide +kernel
theorem dX2_sweep_64 : decode cX2_sweep 64 = .ok (.aload_n 3, 1) := by decide +kernel
theorem dX2_sweep_65 : decode cX2_sweep 65 = .ok (.getfield 230, 3) := by decide +kernel
theorem dX2_sweep_68 : decode cX2_sweep 68 = .ok (.i2l, 1) := by decide +kernel
theorem dX2_sweep_69 : decode cX2_sweep 69 = .ok (.lsub, 1) := by decide +kernel
theorem dX2_sweep_70 : decode cX2_sweep 70 = .ok (.invokestatic 233, 3) := by decide +kernel
theorem dX2_sweep_73 : decode cX2_sweep 73 = .ok (.lstore 6, 2) := by decide +kernel
theorem dX2_sweep_75 : decode cX2_sweep 75 = .ok (.lload 6, 2) := by decide +kernel
theorem dX2_sweep_77 : decode cX2_sweep 77 = .ok (.lconst 0, 1) := by decide +kernel
theorem dX2_sweep_78 : decode cX2_sweep 78 = .ok (.lcmp, 1) := by decide +kernel
theorem dX2_sweep_79 : decode cX2_sweep 79 = .ok (.ifCond .gt 6, 3) := by decide +kernel
theorem dX2_sweep_82 : decode cX2_sweep 82 = .ok (.goto 47, 3) := by decide +kernel
theorem dX2_sweep_85 : decode cX2_sweep 85 = .ok (.aload_n 3, 1) := by decide +kernel
theorem dX2_sweep_86 : decode cX2_sweep 86 = .ok (.dup, 1) := by decide +kernel
theorem dX2_sweep_87 : decode cX2_sweep 87 = .ok (.getfield 105, 3) := by decide +kernel
theorem dX2_sweep_90 : decode cX2_sweep 90 = .ok (.lload 6, 2) := by decide +kernel
theorem dX2_sweep_92 : decode cX2_sweep 92 = .ok (.lsub, 1) := by decide +kernel
theorem dX2_sweep_93 : decode cX2_sweep 93 = .ok (.putfield 105, 3) := by decide +kernel
theorem dX2_sweep_96 : decode cX2_sweep 96 = .ok (.aload_n 3, 1) := by decide +kernel
theorem dX2_sweep_97 : decode cX2_sweep 97 = .ok (.dup, 1) := by decide +kernel
theorem dX2_sweep_98 : decode cX2_sweep 98 = .ok (.getfield 239, 3) := by decide +kernel
theorem dX2_sweep_101 : decode cX2_sweep 101 = .ok (.lload 6, 2) := by decide +kernel
theorem dX2_sweep_103 : decode cX2_sweep 103 = .ok (.ladd, 1) := by decide +kernel
theorem dX2_sweep_104 : decode cX2_sweep 104 = .ok (.putfield 239, 3) := by decide +kernel
theorem dX2_sweep_107 : decode cX2_sweep 107 = .ok (.aload_n 2, 1) := by decide +kernel
theorem dX2_sweep_108 : decode cX2_sweep 108 = .ok (.dup, 1) := by decide +kernel
theorem dX2_sweep_109 : decode cX2_sweep 109 = .ok (.getfield 105, 3) := by decide +kernel
theorem dX2_sweep_112 : decode cX2_sweep 112 = .ok (.lload 6, 2) := by decide +kernel
theorem dX2_sweep_114 : decode cX2_sweep 114 = .ok (.ladd, 1) := by decide +kernel
theorem dX2_sweep_115 : decode cX2_sweep 115 = .ok (.putfield 105, 3) := by decide +kernel
theorem dX2_sweep_118 : decode cX2_sweep 118 = .ok (.aload_n 2, 1) := by decide +kernel
theorem dX2_sweep_119 : decode cX2_sweep 119 = .ok (.dup, 1) := by decide +kernel
theorem dX2_sweep_120 : decode cX2_sweep 120 = .ok (.getfield 242, 3) := by decide +kernel
theorem dX2_sweep_123 : decode cX2_sweep 123 = .ok (.lload 6, 2) := by decide +kernel
theorem dX2_sweep_125 : decode cX2_sweep 125 = .ok (.ladd, 1) := by decide +kernel
theorem dX2_sweep_126 : decode cX2_sweep 126 = .ok (.putfield 242, 3) := by decide +kernel
theorem dX2_sweep_129 : decode cX2_sweep 129 = .ok (.iinc 1 1, 3) := by decide +kernel
theorem dX2_sweep_132 : decode cX2_sweep 132 = .ok (.goto (-130), 3) := by decide +kernel
theorem dX2_sweep_135 : decode cX2_sweep 135 = .ok (.return_, 1) := by decide +kernel
theorem dX2_payWaiting_0 : decode cX2_payWaiting 0 = .ok (.iconst 0, 1) := by decide +kernel
theorem dX2_payWaiting_1 : decode cX2_payWaiting 1 = .ok (.istore_n 1, 1) := by decide +kernel
theorem dX2_payWaiting_2 : decode cX2_payWaiting 2 = .ok (.iconst 0, 1) := by decide +kernel
theorem dX2_payWaiting_3 : decode cX2_payWaiting 3 = .ok (.istore_n 2, 1) := by decide +kernel
theorem dX2_payWaiting_4 : decode cX2_payWaiting 4 = .ok (.iload_n 2, 1) := by decide +kernel
theorem dX2_payWaiting_5 : decode cX2_payWaiting 5 = .ok (.aload_n 0, 1) := by decide +kernel
theorem dX2_payWaiting_6 : decode cX2_payWaiting 6 = .ok (.getfield 33, 3) := by decide +kernel
theorem dX2_payWaiting_9 : decode cX2_payWaiting 9 = .ok (.getfield 138, 3) := by decide +kernel
theorem dX2_payWaiting_12 : decode cX2_payWaiting 12 = .ok (.if_icmp .ge 33, 3) := by decide +kernel
theorem dX2_payWaiting_15 : decode cX2_payWaiting 15 = .ok (.iload_n 1, 1) := by decide +kernel
theorem dX2_payWaiting_16 : decode cX2_payWaiting 16 = .ok (.iconst 1, 1) := by decide +kernel
theorem dX2_payWaiting_17 : decode cX2_payWaiting 17 = .ok (.aload_n 0, 1) := by decide +kernel
theorem dX2_payWaiting_18 : decode cX2_payWaiting 18 = .ok (.getfield 26, 3) := by decide +kernel
theorem dX2_payWaiting_21 : decode cX2_payWaiting 21 = .ok (.aload_n 0, 1) := by decide +kernel
theorem dX2_payWaiting_22 : decode cX2_payWaiting 22 = .ok (.getfield 33, 3) := by decide +kernel
theorem dX2_payWaiting_25 : decode cX2_payWaiting 25 = .ok (.getfield 141, 3) := by decide +kernel
theorem dX2_payWaiting_28 : decode cX2_payWaiting 28 = .ok (.iconst 0, 1) := by decide +kernel
theorem dX2_payWaiting_29 : decode cX2_payWaiting 29 = .ok (.aaload, 1) := by decide +kernel
theorem dX2_payWaiting_30 : decode cX2_payWaiting 30 = .ok (.iload_n 2, 1) := by decide +kernel
theorem dX2_payWaiting_31 : decode cX2_payWaiting 31 = .ok (.iaload, 1) := by decide +kernel
theorem dX2_payWaiting_32 : decode cX2_payWaiting 32 = .ok (.aaload, 1) := by decide +kernel
theorem dX2_payWaiting_33 : decode cX2_payWaiting 33 = .ok (.getfield 133, 3) := by decide +kernel
theorem dX2_payWaiting_36 : decode cX2_payWaiting 36 = .ok (.ishl, 1) := by decide +kernel
theorem dX2_payWaiting_37 : decode cX2_payWaiting 37 = .ok (.ior, 1) := by decide +kernel
theorem dX2_payWaiting_38 : decode cX2_payWaiting 38 = .ok (.istore_n 1, 1) := by decide +kernel
theorem dX2_payWaiting_39 : decode cX2_payWaiting 39 = .ok (.iinc 2 1, 3) := by decide +kernel
theorem dX2_payWaiting_42 : decode cX2_payWaiting 42 = .ok (.goto (-38), 3) := by decide +kernel
theorem dX2_payWaiting_45 : decode cX2_payWaiting 45 = .ok (.bipush 9, 2) := by decide +kernel
theorem dX2_payWaiting_47 : decode cX2_payWaiting 47 = .ok (.istore_n 2, 1) := by decide +kernel
theorem dX2_payWaiting_48 : decode cX2_payWaiting 48 = .ok (.iload_n 2, 1) := by decide +kernel
theorem dX2_payWaiting_49 : decode cX2_payWaiting 49 = .ok (.ifCond .lt 22, 3) := by decide +kernel
theorem dX2_payWaiting_52 : decode cX2_payWaiting 52 = .ok (.iload_n 1, 1) := by decide +kernel
theorem dX2_payWaiting_53 : decode cX2_payWaiting 53 = .ok (.iload_n 2, 1) := by decide +kernel
theorem dX2_payWaiting_54 : decode cX2_payWaiting 54 = .ok (.ishr, 1) := by decide +kernel
theorem dX2_payWaiting_55 : decode cX2_payWaiting 55 = .ok (.iconst 1, 1) := by decide +kernel
theorem dX2_payWaiting_56 : decode cX2_payWaiting 56 = .ok (.iand, 1) := by decide +kernel
theorem dX2_payWaiting_57 : decode cX2_payWaiting 57 = .ok (.ifCond .eq 8, 3) := by decide +kernel
theorem dX2_payWaiting_60 : decode cX2_payWaiting 60 = .ok (.aload_n 0, 1) := by decide +kernel
theorem dX2_payWaiting_61 : decode cX2_payWaiting 61 = .ok (.iload_n 2, 1) := by decide +kernel
theorem dX2_payWaiting_62 : decode cX2_payWaiting 62 = .ok (.invokevirtual 245, 3) := by decide +kernel
theorem dX2_payWaiting_65 : decode cX2_payWaiting 65 = .ok (.iinc 2 (-1), 3) := by decide +kernel
theorem dX2_payWaiting_68 : decode cX2_payWaiting 68 = .ok (.goto (-20), 3) := by decide +kernel
theorem dX2_payWaiting_71 : decode cX2_payWaiting 71 = .ok (.aload_n 0, 1) := by decide +kernel
theorem dX2_payWaiting_72 : decode cX2_payWaiting 72 = .ok (.getfield 33, 3) := by decide +kernel
theorem dX2_payWaiting_75 : decode cX2_payWaiting 75 = .ok (.invokevirtual 152, 3) := by decide +kernel
theorem dX2_payWaiting_78 : decode cX2_payWaiting 78 = .ok (.return_, 1) := by decide +kernel
theorem dX2_payWaitingOf_0 : decode cX2_payWaitingOf 0 = .ok (.iconst 0, 1) := by decide +kernel
theorem dX2_payWaitingOf_1 : decode cX2_payWaitingOf 1 = .ok (.istore_n 2, 1) := by decide +kernel
theorem dX2_payWaitingOf_2 : decode cX2_payWaitingOf 2 = .ok (.iload_n 2, 1) := by decide +kernel
theorem dX2_payWaitingOf_3 : decode cX2_payWaitingOf 3 = .ok (.aload_n 0, 1) := by decide +kernel
theorem dX2_payWaitingOf_4 : decode cX2_payWaitingOf 4 = .ok (.getfield 33, 3) := by decide +kernel
theorem dX2_payWaitingOf_7 : decode cX2_payWaitingOf 7 = .ok (.getfield 138, 3) := by decide +kernel
theorem dX2_payWaitingOf_10 : decode cX2_payWaitingOf 10 = .ok (.if_icmp .ge 37, 3) := by decide +kernel
theorem dX2_payWaitingOf_13 : decode cX2_payWaitingOf 13 = .ok (.aload_n 0, 1) := by decide +kernel
theorem dX2_payWaitingOf_14 : decode cX2_payWaitingOf 14 = .ok (.getfield 26, 3) := by decide +kernel
theorem dX2_payWaitingOf_17 : decode cX2_payWaitingOf 17 = .ok (.aload_n 0, 1) := by decide +kernel
theorem dX2_payWaitingOf_18 : decode cX2_payWaitingOf 18 = .ok (.getfield 33, 3) := by decide +kernel
theorem dX2_payWaitingOf_21 : decode cX2_payWaitingOf 21 = .ok (.getfield 141, 3) := by decide +kernel
theorem dX2_payWaitingOf_24 : decode cX2_payWaitingOf 24 = .ok (.iconst 0, 1) := by decide +kernel
theorem dX2_payWaitingOf_25 : decode cX2_payWaitingOf 25 = .ok (.aaload, 1) := by decide +kernel
theorem dX2_payWaitingOf_26 : decode cX2_payWaitingOf 26 = .ok (.iload_n 2, 1) := by decide +kernel
theorem dX2_payWaitingOf_27 : decode cX2_payWaitingOf 27 = .ok (.iaload, 1) := by decide +kernel
theorem dX2_payWaitingOf_28 : decode cX2_payWaitingOf 28 = .ok (.aaload, 1) := by decide +kernel
theorem dX2_payWaitingOf_29 : decode cX2_payWaitingOf 29 = .ok (.getfield 133, 3) := by decide +kernel
theorem dX2_payWaitingOf_32 : decode cX2_payWaitingOf 32 = .ok (.iload_n 1, 1) := by decide +kernel
theorem dX2_payWaitingOf_33 : decode cX2_payWaitingOf 33 = .ok (.if_icmp .ne 8, 3) := by decide +kernel
theorem dX2_payWaitingOf_36 : decode cX2_payWaitingOf 36 = .ok (.aload_n 0, 1) := by decide +kernel
theorem dX2_payWaitingOf_37 : decode cX2_payWaitingOf 37 = .ok (.iload_n 2, 1) := by decide +kernel
theorem dX2_payWaitingOf_38 : decode cX2_payWaitingOf 38 = .ok (.invokevirtual 248, 3) := by decide +kernel
theorem dX2_payWaitingOf_41 : decode cX2_payWaitingOf 41 = .ok (.iinc 2 1, 3) := by decide +kernel
theorem dX2_payWaitingOf_44 : decode cX2_payWaitingOf 44 = .ok (.goto (-42), 3) := by decide +kernel
theorem dX2_payWaitingOf_47 : decode cX2_payWaitingOf 47 = .ok (.return_, 1) := by decide +kernel
theorem dX2_tryPayment_0 : decode cX2_tryPayment 0 = .ok (.aload_n 0, 1) := by decide +kernel
theorem dX2_tryPayment_1 : decode cX2_tryPayment 1 = .ok (.getfield 26, 3) := by decide +kernel
theorem dX2_tryPayment_4 : decode cX2_tryPayment 4 = .ok (.aload_n 0, 1) := by decide +kernel
theorem dX2_tryPayment_5 : decode cX2_tryPayment 5 = .ok (.getfield 33, 3) := by decide +kernel
theorem dX2_tryPayment_8 : decode cX2_tryPayment 8 = .ok (.getfield 141, 3) := by decide +kernel
theorem dX2_tryPayment_11 : decode cX2_tryPayment 11 = .ok (.iconst 0, 1) := by decide +kernel
theorem dX2_tryPayment_12 : decode cX2_tryPayment 12 = .ok (.aaload, 1) := by decide +kernel
theorem dX2_tryPayment_13 : decode cX2_tryPayment 13 = .ok (.iload_n 1, 1) := by decide +kernel
theorem dX2_tryPayment_14 : decode cX2_tryPayment 14 = .ok (.iaload, 1) := by decide +kernel
theorem dX2_tryPayment_15 : decode cX2_tryPayment 15 = .ok (.aaload, 1) := by decide +kernel
theorem dX2_tryPayment_16 : decode cX2_tryPayment 16 = .ok (.astore_n 2, 1) := by decide +kernel
theorem dX2_tryPayment_17 : decode cX2_tryPayment 17 = .ok (.aload_n 0, 1) := by decide +kernel
theorem dX2_tryPayment_18 : decode cX2_tryPayment 18 = .ok (.getfield 20, 3) := by decide +kernel
theorem dX2_tryPayment_21 : decode cX2_tryPayment 21 = .ok (.aload_n 2, 1) := by decide +kernel
theorem dX2_tryPayment_22 : decode cX2_tryPayment 22 = .ok (.getfield 221, 3) := by decide +kernel
theorem dX2_tryPayment_25 : decode cX2_tryPayment 25 = .ok (.aaload, 1) := by decide +kernel
theorem dX2_tryPayment_26 : decode cX2_tryPayment 26 = .ok (.astore_n 3, 1) := by decide +kernel
theorem dX2_tryPayment_27 : decode cX2_tryPayment 27 = .ok (.aload_n 0, 1) := by decide +kernel
theorem dX2_tryPayment_28 : decode cX2_tryPayment 28 = .ok (.getfield 33, 3) := by decide +kernel
theorem dX2_tryPayment_31 : decode cX2_tryPayment 31 = .ok (.getfield 141, 3) := by decide +kernel
theorem dX2_tryPayment_34 : decode cX2_tryPayment 34 = .ok (.iconst 1, 1) := by decide +kernel
theorem dX2_tryPayment_35 : decode cX2_tryPayment 35 = .ok (.aaload, 1) := by decide +kernel
theorem dX2_tryPayment_36 : decode cX2_tryPayment 36 = .ok (.iload_n 1, 1) := by decide +kernel
theorem dX2_tryPayment_37 : decode cX2_tryPayment 37 = .ok (.iaload, 1) := by decide +kernel
theorem dX2_tryPayment_38 : decode cX2_tryPayment 38 = .ok (.istore 4, 2) := by decide +kernel
theorem dX2_tryPayment_40 : decode cX2_tryPayment 40 = .ok (.aload_n 3, 1) := by decide +kernel
theorem dX2_tryPayment_41 : decode cX2_tryPayment 41 = .ok (.getfield 105, 3) := by decide +kernel
theorem dX2_tryPayment_44 : decode cX2_tryPayment 44 = .ok (.aload_n 3, 1) := by decide +kernel
theorem dX2_tryPayment_45 : decode cX2_tryPayment 45 = .ok (.getfield 227, 3) := by decide +kernel
theorem dX2_tryPayment_48 : decode cX2_tryPayment 48 = .ok (.i2l, 1) := by decide +kernel
theorem dX2_tryPayment_49 : decode cX2_tryPayment 49 = .ok (.ladd, 1) := by decide +kernel
theorem dX2_tryPayment_50 : decode cX2_tryPayment 50 = .ok (.iload 4, 2) := by decide +kernel
theorem dX2_tryPayment_52 : decode cX2_tryPayment 52 = .ok (.i2l, 1) := by decide +kernel
theorem dX2_tryPayment_53 : decode cX2_tryPayment 53 = .ok (.lcmp, 1) := by decide +kernel
theorem dX2_tryPayment_54 : decode cX2_tryPayment 54 = .ok (.ifCond .ge 9, 3) := by decide +kernel
theorem dX2_tryPayment_57 : decode cX2_tryPayment 57 = .ok (.aload_n 0, 1) := by decide +kernel
theorem dX2_tryPayment_58 : decode cX2_tryPayment 58 = .ok (.iload_n 1, 1) := by decide +kernel
theorem dX2_tryPayment_59 : decode cX2_tryPayment 59 = .ok (.invokevirtual 251, 3) := by decide +kernel
theorem dX2_tryPayment_62 : decode cX2_tryPayment 62 = .ok (.return_, 1) := by decide +kernel
theorem dX2_tryPayment_63 : decode cX2_tryPayment 63 = .ok (.aload_n 3, 1) := by decide +kernel
theorem dX2_tryPayment_64 : decode cX2_tryPayment 64 = .ok (.dup, 1) := by decide +kernel
theorem dX2_tryPayment_65 : decode cX2_tryPayment 65 = .ok (.getfield 105, 3) := by decide +kernel
theorem dX2_tryPayment_68 : decode cX2_tryPayment 68 = .ok (.iload 4, 2) := by decide +kernel
theorem dX2_tryPayment_70 : decode cX2_tryPayment 70 = .ok (.i2l, 1) := by decide +kernel
theorem dX2_tryPayment_71 : decode cX2_tryPayment 71 = .ok (.lsub, 1) := by decide +kernel
theorem dX2_tryPayment_72 : decode cX2_tryPayment 72 = .ok (.putfield 105, 3) := by decide +kernel
theorem dX2_tryPayment_75 : decode cX2_tryPayment 75 = .ok (.aload_n 3, 1) := by decide +kernel
theorem dX2_tryPayment_76 : decode cX2_tryPayment 76 = .ok (.dup, 1) := by decide +kernel
theorem dX2_tryPayment_77 : decode cX2_tryPayment 77 = .ok (.getfield 254, 3) := by decide +kernel
theorem dX2_tryPayment_80 : decode cX2_tryPayment 80 = .ok (.iload 4, 2) := by decide +kernel
theorem dX2_tryPayment_82 : decode cX2_tryPayment 82 = .ok (.i2l, 1) := by decide +kernel
theorem dX2_tryPayment_83 : decode cX2_tryPayment 83 = .ok (.ladd, 1) := by decide +kernel
theorem dX2_tryPayment_84 : decode cX2_tryPayment 84 = .ok (.putfield 254, 3) := by decide +kernel
theorem dX2_tryPayment_87 : decode cX2_tryPayment 87 = .ok (.aload_n 0, 1) := by decide +kernel
theorem dX2_tryPayment_88 : decode cX2_tryPayment 88 = .ok (.aload_n 2, 1) := by decide +kernel
theorem dX2_tryPayment_89 : decode cX2_tryPayment 89 = .ok (.getfield 257, 3) := by decide +kernel
theorem dX2_tryPayment_92 : decode cX2_tryPayment 92 = .ok (.invokevirtual 97, 3) := by decide +kernel
theorem dX2_tryPayment_95 : decode cX2_tryPayment 95 = .ok (.ifCond .eq 43, 3) := by decide +kernel
theorem dX2_tryPayment_98 : decode cX2_tryPayment 98 = .ok (.aload_n 0, 1) := by decide +kernel
theorem dX2_tryPayment_99 : decode cX2_tryPayment 99 = .ok (.getfield 20, 3) := by decide +kernel
theorem dX2_tryPayment_102 : decode cX2_tryPayment 102 = .ok (.aload_n 2, 1) := by decide +kernel
theorem dX2_tryPayment_103 : decode cX2_tryPayment 103 = .ok (.getfield 257, 3) := by decide +kernel
theorem dX2_tryPayment_106 : decode cX2_tryPayment 106 = .ok (.aaload, 1) := by decide +kernel
theorem dX2_tryPayment_107 : decode cX2_tryPayment 107 = .ok (.dup, 1) := by decide +kernel
theorem dX2_tryPayment_108 : decode cX2_tryPayment 108 = .ok (.getfield 105, 3) := by decide +kernel
theorem dX2_tryPayment_111 : decode cX2_tryPayment 111 = .ok (.iload 4, 2) := by decide +kernel
theorem dX2_tryPayment_113 : decode cX2_tryPayment 113 = .ok (.i2l, 1) := by decide +kernel
theorem dX2_tryPayment_114 : decode cX2_tryPayment 114 = .ok (.ladd, 1) := by decide +kernel
theorem dX2_tryPayment_115 : decode cX2_tryPayment 115 = .ok (.putfield 105, 3) := by decide +kernel
theorem dX2_tryPayment_118 : decode cX2_tryPayment 118 = .ok (.aload_n 0, 1) := by decide +kernel
theorem dX2_tryPayment_119 : decode cX2_tryPayment 119 = .ok (.getfield 20, 3) := by decide +kernel
theorem dX2_tryPayment_122 : decode cX2_tryPayment 122 = .ok (.aload_n 2, 1) := by decide +kernel
theorem dX2_tryPayment_123 : decode cX2_tryPayment 123 = .ok (.getfield 257, 3) := by decide +kernel
theorem dX2_tryPayment_126 : decode cX2_tryPayment 126 = .ok (.aaload, 1) := by decide +kernel
theorem dX2_tryPayment_127 : decode cX2_tryPayment 127 = .ok (.dup, 1) := by decide +kernel
theorem dX2_tryPayment_128 : decode cX2_tryPayment 128 = .ok (.getfield 260, 3) := by decide +kernel
theorem dX2_tryPayment_131 : decode cX2_tryPayment 131 = .ok (.iload 4, 2) := by decide +kernel
theorem dX2_tryPayment_133 : decode cX2_tryPayment 133 = .ok (.i2l, 1) := by decide +kernel
theorem dX2_tryPayment_134 : decode cX2_tryPayment 134 = .ok (.ladd, 1) := by decide +kernel
theorem dX2_tryPayment_135 : decode cX2_tryPayment 135 = .ok (.putfield 260, 3) := by decide +kernel
theorem dX2_tryPayment_138 : decode cX2_tryPayment 138 = .ok (.aload_n 2, 1) := by decide +kernel
theorem dX2_tryPayment_139 : decode cX2_tryPayment 139 = .ok (.dup, 1) := by decide +kernel
theorem dX2_tryPayment_140 : decode cX2_tryPayment 140 = .ok (.getfield 263, 3) := by decide +kernel
theorem dX2_tryPayment_143 : decode cX2_tryPayment 143 = .ok (.iconst 1, 1) := by decide +kernel
theorem dX2_tryPayment_144 : decode cX2_tryPayment 144 = .ok (.iadd, 1) := by decide +kernel
theorem dX2_tryPayment_145 : decode cX2_tryPayment 145 = .ok (.putfield 263, 3) := by decide +kernel
theorem dX2_tryPayment_148 : decode cX2_tryPayment 148 = .ok (.aload_n 0, 1) := by decide +kernel
theorem dX2_tryPayment_149 : decode cX2_tryPayment 149 = .ok (.iload_n 1, 1) := by decide +kernel
theorem dX2_tryPayment_150 : decode cX2_tryPayment 150 = .ok (.invokevirtual 148, 3) := by decide +kernel
theorem dX2_tryPayment_153 : decode cX2_tryPayment 153 = .ok (.return_, 1) := by decide +kernel
theorem dX2_failTry_0 : decode cX2_failTry 0 = .ok (.aload_n 0, 1) := by decide +kernel
theorem dX2_failTry_1 : decode cX2_failTry 1 = .ok (.getfield 26, 3) := by decide +kernel
theorem dX2_failTry_4 : decode cX2_failTry 4 = .ok (.aload_n 0, 1) := by decide +kernel
theorem dX2_failTry_5 : decode cX2_failTry 5 = .ok (.getfield 33, 3) := by decide +kernel
theorem dX2_failTry_8 : decode cX2_failTry 8 = .ok (.getfield 141, 3) := by decide +kernel
theorem dX2_failTry_11 : decode cX2_failTry 11 = .ok (.iconst 0, 1) := by decide +kernel
theorem dX2_failTry_12 : decode cX2_failTry 12 = .ok (.aaload, 1) := by decide +kernel
theorem dX2_failTry_13 : decode cX2_failTry 13 = .ok (.iload_n 1, 1) := by decide +kernel
theorem dX2_failTry_14 : decode cX2_failTry 14 = .ok (.iaload, 1) := by decide +kernel
theorem dX2_failTry_15 : decode cX2_failTry 15 = .ok (.aaload, 1) := by decide +kernel
theorem dX2_failTry_16 : decode cX2_failTry 16 = .ok (.astore_n 2, 1) := by decide +kernel
theorem dX2_failTry_17 : decode cX2_failTry 17 = .ok (.aload_n 0, 1) := by decide +kernel
theorem dX2_failTry_18 : decode cX2_failTry 18 = .ok (.getfield 20, 3) := by decide +kernel
theorem dX2_failTry_21 : decode cX2_failTry 21 = .ok (.aload_n 2, 1) := by decide +kernel
theorem dX2_failTry_22 : decode cX2_failTry 22 = .ok (.getfield 221, 3) := by decide +kernel
theorem dX2_failTry_25 : decode cX2_failTry 25 = .ok (.aaload, 1) := by decide +kernel
theorem dX2_failTry_26 : decode cX2_failTry 26 = .ok (.dup, 1) := by decide +kernel
theorem dX2_failTry_27 : decode cX2_failTry 27 = .ok (.getfield 105, 3) := by decide +kernel
theorem dX2_failTry_30 : decode cX2_failTry 30 = .ok (.aload_n 0, 1) := by decide +kernel
theorem dX2_failTry_31 : decode cX2_failTry 31 = .ok (.getfield 41, 3) := by decide +kernel
theorem dX2_failTry_34 : decode cX2_failTry 34 = .ok (.i2l, 1) := by decide +kernel
theorem dX2_failTry_35 : decode cX2_failTry 35 = .ok (.lsub, 1) := by decide +kernel
theorem dX2_failTry_36 : decode cX2_failTry 36 = .ok (.putfield 105, 3) := by decide +kernel
theorem dX2_failTry_39 : decode cX2_failTry 39 = .ok (.aload_n 0, 1) := by decide +kernel
theorem dX2_failTry_40 : decode cX2_failTry 40 = .ok (.getfield 20, 3) := by decide +kernel
theorem dX2_failTry_43 : decode cX2_failTry 43 = .ok (.aload_n 2, 1) := by decide +kernel
theorem dX2_failTry_44 : decode cX2_failTry 44 = .ok (.getfield 221, 3) := by decide +kernel
theorem dX2_failTry_47 : decode cX2_failTry 47 = .ok (.aaload, 1) := by decide +kernel
theorem dX2_failTry_48 : decode cX2_failTry 48 = .ok (.dup, 1) := by decide +kernel
theorem dX2_failTry_49 : decode cX2_failTry 49 = .ok (.getfield 266, 3) := by decide +kernel
theorem dX2_failTry_52 : decode cX2_failTry 52 = .ok (.aload_n 0, 1) := by decide +kernel
theorem dX2_failTry_53 : decode cX2_failTry 53 = .ok (.getfield 41, 3) := by decide +kernel
theorem dX2_failTry_56 : decode cX2_failTry 56 = .ok (.i2l, 1) := by decide +kernel
theorem dX2_failTry_57 : decode cX2_failTry 57 = .ok (.ladd, 1) := by decide +kernel
theorem dX2_failTry_58 : decode cX2_failTry 58 = .ok (.putfield 266, 3) := by decide +kernel
theorem dX2_failTry_61 : decode cX2_failTry 61 = .ok (.aload_n 0, 1) := by decide +kernel
theorem dX2_failTry_62 : decode cX2_failTry 62 = .ok (.dup, 1) := by decide +kernel
theorem dX2_failTry_63 : decode cX2_failTry 63 = .ok (.getfield 71, 3) := by decide +kernel
theorem dX2_failTry_66 : decode cX2_failTry 66 = .ok (.iconst 1, 1) := by decide +kernel
theorem dX2_failTry_67 : decode cX2_failTry 67 = .ok (.iadd, 1) := by decide +kernel
theorem dX2_failTry_68 : decode cX2_failTry 68 = .ok (.putfield 71, 3) := by decide +kernel
theorem dX2_failTry_71 : decode cX2_failTry 71 = .ok (.aload_n 0, 1) := by decide +kernel
theorem dX2_failTry_72 : decode cX2_failTry 72 = .ok (.dup, 1) := by decide +kernel
theorem dX2_failTry_73 : decode cX2_failTry 73 = .ok (.getfield 170, 3) := by decide +kernel
theorem dX2_failTry_76 : decode cX2_failTry 76 = .ok (.iconst 1, 1) := by decide +kernel
theorem dX2_failTry_77 : decode cX2_failTry 77 = .ok (.aload_n 2, 1) := by decide +kernel
theorem dX2_failTry_78 : decode cX2_failTry 78 = .ok (.getfield 221, 3) := by decide +kernel
theorem dX2_failTry_81 : decode cX2_failTry 81 = .ok (.ishl, 1) := by decide +kernel
theorem dX2_failTry_82 : decode cX2_failTry 82 = .ok (.ior, 1) := by decide +kernel
theorem dX2_failTry_83 : decode cX2_failTry 83 = .ok (.putfield 170, 3) := by decide +kernel
theorem dX2_failTry_86 : decode cX2_failTry 86 = .ok (.aload_n 0, 1) := by decide +kernel
theorem dX2_failTry_87 : decode cX2_failTry 87 = .ok (.getfield 33, 3) := by decide +kernel
theorem dX2_failTry_90 : decode cX2_failTry 90 = .ok (.getfield 141, 3) := by decide +kernel
theorem dX2_failTry_93 : decode cX2_failTry 93 = .ok (.iconst 4, 1) := by decide +kernel
theorem dX2_failTry_94 : decode cX2_failTry 94 = .ok (.aaload, 1) := by decide +kernel
theorem dX2_failTry_95 : decode cX2_failTry 95 = .ok (.iload_n 1, 1) := by decide +kernel
theorem dX2_failTry_96 : decode cX2_failTry 96 = .ok (.dup2, 1) := by decide +kernel
theorem dX2_failTry_97 : decode cX2_failTry 97 = .ok (.iaload, 1) := by decide +kernel
theorem dX2_failTry_98 : decode cX2_failTry 98 = .ok (.iconst 1, 1) := by decide +kernel
theorem dX2_failTry_99 : decode cX2_failTry 99 = .ok (.iadd, 1) := by decide +kernel
theorem dX2_failTry_100 : decode cX2_failTry 100 = .ok (.iastore, 1) := by decide +kernel
theorem dX2_failTry_101 : decode cX2_failTry 101 = .ok (.aload_n 0, 1) := by decide +kernel
theorem dX2_failTry_102 : decode cX2_failTry 102 = .ok (.getfield 33, 3) := by decide +kernel
theorem dX2_failTry_105 : decode cX2_failTry 105 = .ok (.getfield 141, 3) := by decide +kernel
theorem dX2_failTry_108 : decode cX2_failTry 108 = .ok (.iconst 4, 1) := by decide +kernel
theorem dX2_failTry_109 : decode cX2_failTry 109 = .ok (.aaload, 1) := by decide +kernel
theorem dX2_failTry_110 : decode cX2_failTry 110 = .ok (.iload_n 1, 1) := by decide +kernel
theorem dX2_failTry_111 : decode cX2_failTry 111 = .ok (.iaload, 1) := by decide +kernel
theorem dX2_failTry_112 : decode cX2_failTry 112 = .ok (.aload_n 0, 1) := by decide +kernel
theorem dX2_failTry_113 : decode cX2_failTry 113 = .ok (.getfield 37, 3) := by decide +kernel
theorem dX2_failTry_116 : decode cX2_failTry 116 = .ok (.if_icmp .ge 4, 3) := by decide +kernel
theorem dX2_failTry_119 : decode cX2_failTry 119 = .ok (.return_, 1) := by decide +kernel
theorem dX2_failTry_120 : decode cX2_failTry 120 = .ok (.aload_n 2, 1) := by decide +kernel
theorem dX2_failTry_121 : decode cX2_failTry 121 = .ok (.dup, 1) := by decide +kernel
theorem dX2_failTry_122 : decode cX2_failTry 122 = .ok (.getfield 145, 3) := by decide +kernel
theorem dX2_failTry_125 : decode cX2_failTry 125 = .ok (.iconst 1, 1) := by decide +kernel
theorem dX2_failTry_126 : decode cX2_failTry 126 = .ok (.iadd, 1) := by decide +kernel
theorem dX2_failTry_127 : decode cX2_failTry 127 = .ok (.putfield 145, 3) := by decide +kernel
theorem dX2_failTry_130 : decode cX2_failTry 130 = .ok (.aload_n 0, 1) := by decide +kernel
theorem dX2_failTry_131 : decode cX2_failTry 131 = .ok (.iload_n 1, 1) := by decide +kernel
theorem dX2_failTry_132 : decode cX2_failTry 132 = .ok (.invokevirtual 148, 3) := by decide +kernel
theorem dX2_failTry_135 : decode cX2_failTry 135 = .ok (.return_, 1) := by decide +kernel
theorem dX2_settle_0 : decode cX2_settle 0 = .ok (.aload_n 0, 1) := by decide +kernel
theorem dX2_settle_1 : decode cX2_settle 1 = .ok (.getfield 26, 3) := by decide +kernel
theorem dX2_settle_4 : decode cX2_settle 4 = .ok (.aload_n 0, 1) := by decide +kernel
theorem dX2_settle_5 : decode cX2_settle 5 = .ok (.getfield 33, 3) := by decide +kernel
theorem dX2_settle_8 : decode cX2_settle 8 = .ok (.getfield 141, 3) := by decide +kernel
theorem dX2_settle_11 : decode cX2_settle 11 = .ok (.iconst 0, 1) := by decide +kernel
theorem dX2_settle_12 : decode cX2_settle 12 = .ok (.aaload, 1) := by decide +kernel
theorem dX2_settle_13 : decode cX2_settle 13 = .ok (.iload_n 1, 1) := by decide +kernel
theorem dX2_settle_14 : decode cX2_settle 14 = .ok (.iaload, 1) := by decide +kernel
theorem dX2_settle_15 : decode cX2_settle 15 = .ok (.aaload, 1) := by decide +kernel
theorem dX2_settle_16 : decode cX2_settle 16 = .ok (.astore_n 2, 1) := by decide +kernel
theorem dX2_settle_17 : decode cX2_settle 17 = .ok (.aload_n 2, 1) := by decide +kernel
theorem dX2_settle_18 : decode cX2_settle 18 = .ok (.dup, 1) := by decide +kernel
theorem dX2_settle_19 : decode cX2_settle 19 = .ok (.getfield 136, 3) := by decide +kernel
theorem dX2_settle_22 : decode cX2_settle 22 = .ok (.iconst 1, 1) := by decide +kernel
theorem dX2_settle_23 : decode cX2_settle 23 = .ok (.isub, 1) := by decide +kernel
theorem dX2_settle_24 : decode cX2_settle 24 = .ok (.putfield 136, 3) := by decide +kernel
theorem dX2_settle_27 : decode cX2_settle 27 = .ok (.aload_n 0, 1) := by decide +kernel
theorem dX2_settle_28 : decode cX2_settle 28 = .ok (.getfield 20, 3) := by decide +kernel
theorem dX2_settle_31 : decode cX2_settle 31 = .ok (.aload_n 2, 1) := by decide +kernel
theorem dX2_settle_32 : decode cX2_settle 32 = .ok (.getfield 221, 3) := by decide +kernel
theorem dX2_settle_35 : decode cX2_settle 35 = .ok (.aaload, 1) := by decide +kernel
theorem dX2_settle_36 : decode cX2_settle 36 = .ok (.dup, 1) := by decide +kernel
theorem dX2_settle_37 : decode cX2_settle 37 = .ok (.getfield 224, 3) := by decide +kernel
theorem dX2_settle_40 : decode cX2_settle 40 = .ok (.aload_n 0, 1) := by decide +kernel
theorem dX2_settle_41 : decode cX2_settle 41 = .ok (.getfield 33, 3) := by decide +kernel
theorem dX2_settle_44 : decode cX2_settle 44 = .ok (.getfield 141, 3) := by decide +kernel
theorem dX2_settle_47 : decode cX2_settle 47 = .ok (.iconst 1, 1) := by decide +kernel
theorem dX2_settle_48 : decode cX2_settle 48 = .ok (.aaload, 1) := by decide +kernel
theorem dX2_settle_49 : decode cX2_settle 49 = .ok (.iload_n 1, 1) := by decide +kernel
theorem dX2_settle_50 : decode cX2_settle 50 = .ok (.iaload, 1) := by decide +kernel
theorem dX2_settle_51 : decode cX2_settle 51 = .ok (.i2l, 1) := by decide +kernel
theorem dX2_settle_52 : decode cX2_settle 52 = .ok (.lsub, 1) := by decide +kernel
theorem dX2_settle_53 : decode cX2_settle 53 = .ok (.putfield 224, 3) := by decide +kernel
theorem dX2_settle_56 : decode cX2_settle 56 = .ok (.aload_n 0, 1) := by decide +kernel
theorem dX2_settle_57 : decode cX2_settle 57 = .ok (.getfield 33, 3) := by decide +kernel
theorem dX2_settle_60 : decode cX2_settle 60 = .ok (.getfield 141, 3) := by decide +kernel
theorem dX2_settle_63 : decode cX2_settle 63 = .ok (.iconst 1, 1) := by decide +kernel
theorem dX2_settle_64 : decode cX2_settle 64 = .ok (.aaload, 1) := by decide +kernel
theorem dX2_settle_65 : decode cX2_settle 65 = .ok (.iload_n 1, 1) := by decide +kernel
theorem dX2_settle_66 : decode cX2_settle 66 = .ok (.iconst 0, 1) := by decide +kernel
theorem dX2_settle_67 : decode cX2_settle 67 = .ok (.iastore, 1) := by decide +kernel
theorem dX2_settle_68 : decode cX2_settle 68 = .ok (.return_, 1) := by decide +kernel
theorem dX2_chargeInterest_0 : decode cX2_chargeInterest 0 = .ok (.aload_n 0, 1) := by decide +kernel
theorem dX2_chargeInterest_1 : decode cX2_chargeInterest 1 = .ok (.getfield 44, 3) := by decide +kernel
theorem dX2_chargeInterest_4 : decode cX2_chargeInterest 4 = .ok (.i2f, 1) := by decide +kernel
theorem dX2_chargeInterest_5 : decode cX2_chargeInterest 5 = .ok (.ldc_w 269, 3) := by decide +kernel
theorem dX2_chargeInterest_8 : decode cX2_chargeInterest 8 = .ok (.fdiv, 1) := by decide +kernel
theorem dX2_chargeInterest_9 : decode cX2_chargeInterest 9 = .ok (.fstore_n 1, 1) := by decide +kernel
theorem dX2_chargeInterest_10 : decode cX2_chargeInterest 10 = .ok (.aload_n 0, 1) := by decide +kernel
theorem dX2_chargeInterest_11 : decode cX2_chargeInterest 11 = .ok (.getfield 68, 3) := by decide +kernel
theorem dX2_chargeInterest_14 : decode cX2_chargeInterest 14 = .ok (.invokestatic 270, 3) := by decide +kernel
theorem dX2_chargeInterest_17 : decode cX2_chargeInterest 17 = .ok (.invokestatic 273, 3) := by decide +kernel
theorem dX2_chargeInterest_20 : decode cX2_chargeInterest 20 = .ok (.aload_n 0, 1) := by decide +kernel
theorem dX2_chargeInterest_21 : decode cX2_chargeInterest 21 = .ok (.getfield 68, 3) := by decide +kernel
theorem dX2_chargeInterest_24 : decode cX2_chargeInterest 24 = .ok (.if_icmp .ne 7, 3) := by decide +kernel
theorem dX2_chargeInterest_27 : decode cX2_chargeInterest 27 = .ok (.iconst 1, 1) := by decide +kernel
theorem dX2_chargeInterest_28 : decode cX2_chargeInterest 28 = .ok (.goto 4, 3) := by decide +kernel
theorem dX2_chargeInterest_31 : decode cX2_chargeInterest 31 = .ok (.iconst 0, 1) := by decide +kernel
theorem dX2_chargeInterest_32 : decode cX2_chargeInterest 32 = .ok (.istore_n 2, 1) := by decide +kernel
theorem dX2_chargeInterest_33 : decode cX2_chargeInterest 33 = .ok (.iconst 0, 1) := by decide +kernel
theorem dX2_chargeInterest_34 : decode cX2_chargeInterest 34 = .ok (.istore_n 3, 1) := by decide +kernel
theorem dX2_chargeInterest_35 : decode cX2_chargeInterest 35 = .ok (.iload_n 3, 1) := by decide +kernel
theorem dX2_chargeInterest_36 : decode cX2_chargeInterest 36 = .ok (.aload_n 0, 1) := by decide +kernel
theorem dX2_chargeInterest_37 : decode cX2_chargeInterest 37 = .ok (.getfield 53, 3) := by decide +kernel
theorem dX2_chargeInterest_40 : decode cX2_chargeInterest 40 = .ok (.if_icmp .ge 60, 3) := by decide +kernel
theorem dX2_chargeInterest_43 : decode cX2_chargeInterest 43 = .ok (.aload_n 0, 1) := by decide +kernel
theorem dX2_chargeInterest_44 : decode cX2_chargeInterest 44 = .ok (.getfield 20, 3) := by decide +kernel
theorem dX2_chargeInterest_47 : decode cX2_chargeInterest 47 = .ok (.iload_n 3, 1) := by decide +kernel
theorem dX2_chargeInterest_48 : decode cX2_chargeInterest 48 = .ok (.aaload, 1) := by decide +kernel
theorem dX2_chargeInterest_49 : decode cX2_chargeInterest 49 = .ok (.astore 4, 2) := by decide +kernel
theorem dX2_chargeInterest_51 : decode cX2_chargeInterest 51 = .ok (.aload 4, 2) := by decide +kernel
theorem dX2_chargeInterest_53 : decode cX2_chargeInterest 53 = .ok (.getfield 105, 3) := by decide +kernel
theorem dX2_chargeInterest_56 : decode cX2_chargeInterest 56 = .ok (.lconst 0, 1) := by decide +kernel
theorem dX2_chargeInterest_57 : decode cX2_chargeInterest 57 = .ok (.lcmp, 1) := by decide +kernel
theorem dX2_chargeInterest_58 : decode cX2_chargeInterest 58 = .ok (.ifCond .ge 27, 3) := by decide +kernel
theorem dX2_chargeInterest_61 : decode cX2_chargeInterest 61 = .ok (.aload 4, 2) := by decide +kernel
theorem dX2_chargeInterest_63 : decode cX2_chargeInterest 63 = .ok (.dup, 1) := by decide +kernel
theorem dX2_chargeInterest_64 : decode cX2_chargeInterest 64 = .ok (.getfield 276, 3) := by decide +kernel
theorem dX2_chargeInterest_67 : decode cX2_chargeInterest 67 = .ok (.aload 4, 2) := by decide +kernel
theorem dX2_chargeInterest_69 : decode cX2_chargeInterest 69 = .ok (.getfield 105, 3) := by decide +kernel
theorem dX2_chargeInterest_72 : decode cX2_chargeInterest 72 = .ok (.lneg, 1) := by decide +kernel
theorem dX2_chargeInterest_73 : decode cX2_chargeInterest 73 = .ok (.l2d, 1) := by decide +kernel
theorem dX2_chargeInterest_74 : decode cX2_chargeInterest 74 = .ok (.fload_n 1, 1) := by decide +kernel
theorem dX2_chargeInterest_75 : decode cX2_chargeInterest 75 = .ok (.f2d, 1) := by decide +kernel
theorem dX2_chargeInterest_76 : decode cX2_chargeInterest 76 = .ok (.dmul, 1) := by decide +kernel
theorem dX2_chargeInterest_77 : decode cX2_chargeInterest 77 = .ok (.ldc2_w 280, 3) := by decide +kernel
theorem dX2_chargeInterest_80 : decode cX2_chargeInterest 80 = .ok (.ddiv, 1) := by decide +kernel
theorem dX2_chargeInterest_81 : decode cX2_chargeInterest 81 = .ok (.dadd, 1) := by decide +kernel
theorem dX2_chargeInterest_82 : decode cX2_chargeInterest 82 = .ok (.putfield 276, 3) := by decide +kernel
theorem dX2_chargeInterest_85 : decode cX2_chargeInterest 85 = .ok (.iload_n 2, 1) := by decide +kernel
theorem dX2_chargeInterest_86 : decode cX2_chargeInterest 86 = .ok (.ifCond .eq 8, 3) := by decide +kernel
theorem dX2_chargeInterest_89 : decode cX2_chargeInterest 89 = .ok (.aload 4, 2) := by decide +kernel
theorem dX2_chargeInterest_91 : decode cX2_chargeInterest 91 = .ok (.invokevirtual 282, 3) := by decide +kernel
theorem dX2_chargeInterest_94 : decode cX2_chargeInterest 94 = .ok (.iinc 3 1, 3) := by decide +kernel
theorem dX2_chargeInterest_97 : decode cX2_chargeInterest 97 = .ok (.goto (-62), 3) := by decide +kernel
theorem dX2_chargeInterest_100 : decode cX2_chargeInterest 100 = .ok (.return_, 1) := by decide +kernel
theorem dX3_init_0 : decode cX3_init 0 = .ok (.aload_n 0, 1) := by decide +kernel
theorem dX3_init_1 : decode cX3_init 1 = .ok (.invokespecial 3, 3) := by decide +kernel
theorem dX3_init_4 : decode cX3_init 4 = .ok (.return_, 1) := by decide +kernel
theorem dX3_begin_0 : decode cX3_begin 0 = .ok (.aload_n 0, 1) := by decide +kernel
theorem dX3_begin_1 : decode cX3_begin 1 = .ok (.iload_n 1, 1) := by decide +kernel
theorem dX3_begin_2 : decode cX3_begin 2 = .ok (.bipush 9, 2) := by decide +kernel
theorem dX3_begin_4 : decode cX3_begin 4 = .ok (.idiv, 1) := by decide +kernel
theorem dX3_begin_5 : decode cX3_begin 5 = .ok (.putfield 9, 3) := by decide +kernel
theorem dX3_begin_8 : decode cX3_begin 8 = .ok (.aload_n 0, 1) := by decide +kernel
theorem dX3_begin_9 : decode cX3_begin 9 = .ok (.iload_n 1, 1) := by decide +kernel
theorem dX3_begin_10 : decode cX3_begin 10 = .ok (.bipush 9, 2) := by decide +kernel
theorem dX3_begin_12 : decode cX3_begin 12 = .ok (.irem, 1) := by decide +kernel
theorem dX3_begin_13 : decode cX3_begin 13 = .ok (.bipush 8, 2) := by decide +kernel
theorem dX3_begin_15 : decode cX3_begin 15 = .ok (.if_icmp .ne 8, 3) := by decide +kernel
theorem dX3_begin_18 : decode cX3_begin 18 = .ok (.bipush (-6), 2) := by decide +kernel
theorem dX3_begin_20 : decode cX3_begin 20 = .ok (.goto 7, 3) := by decide +kernel
theorem dX3_begin_23 : decode cX3_begin 23 = .ok (.iload_n 1, 1) := by decide +kernel
theorem dX3_begin_24 : decode cX3_begin 24 = .ok (.bipush 9, 2) := by decide +kernel
theorem dX3_begin_26 : decode cX3_begin 26 = .ok (.irem, 1) := by decide +kernel
theorem dX3_begin_27 : decode cX3_begin 27 = .ok (.putfield 15, 3) := by decide +kernel
theorem dX3_begin_30 : decode cX3_begin 30 = .ok (.aload_n 0, 1) := by decide +kernel
theorem dX3_begin_31 : decode cX3_begin 31 = .ok (.iload_n 2, 1) := by decide +kernel
theorem dX3_begin_32 : decode cX3_begin 32 = .ok (.putfield 18, 3) := by decide +kernel
theorem dX3_begin_35 : decode cX3_begin 35 = .ok (.aload_n 0, 1) := by decide +kernel
theorem dX3_begin_36 : decode cX3_begin 36 = .ok (.iload_n 3, 1) := by decide +kernel
theorem dX3_begin_37 : decode cX3_begin 37 = .ok (.sipush 10000, 3) := by decide +kernel
theorem dX3_begin_40 : decode cX3_begin 40 = .ok (.idiv, 1) := by decide +kernel
theorem dX3_begin_41 : decode cX3_begin 41 = .ok (.putfield 21, 3) := by decide +kernel
theorem dX3_begin_44 : decode cX3_begin 44 = .ok (.aload_n 0, 1) := by decide +kernel
theorem dX3_begin_45 : decode cX3_begin 45 = .ok (.iload_n 3, 1) := by decide +kernel
theorem dX3_begin_46 : decode cX3_begin 46 = .ok (.bipush 100, 2) := by decide +kernel
theorem dX3_begin_48 : decode cX3_begin 48 = .ok (.idiv, 1) := by decide +kernel
theorem dX3_begin_49 : decode cX3_begin 49 = .ok (.bipush 100, 2) := by decide +kernel
theorem dX3_begin_51 : decode cX3_begin 51 = .ok (.irem, 1) := by decide +kernel
theorem dX3_begin_52 : decode cX3_begin 52 = .ok (.putfield 24, 3) := by decide +kernel
theorem dX3_begin_55 : decode cX3_begin 55 = .ok (.aload_n 0, 1) := by decide +kernel
theorem dX3_begin_56 : decode cX3_begin 56 = .ok (.iload_n 3, 1) := by decide +kernel
theorem dX3_begin_57 : decode cX3_begin 57 = .ok (.bipush 100, 2) := by decide +kernel
theorem dX3_begin_59 : decode cX3_begin 59 = .ok (.irem, 1) := by decide +kernel
theorem dX3_begin_60 : decode cX3_begin 60 = .ok (.putfield 27, 3) := by decide +kernel
theorem dX3_begin_63 : decode cX3_begin 63 = .ok (.aload_n 0, 1) := by decide +kernel
theorem dX3_begin_64 : decode cX3_begin 64 = .ok (.iload 4, 2) := by decide +kernel
theorem dX3_begin_66 : decode cX3_begin 66 = .ok (.putfield 30, 3) := by decide +kernel
theorem dX3_begin_69 : decode cX3_begin 69 = .ok (.aload_n 0, 1) := by decide +kernel
theorem dX3_begin_70 : decode cX3_begin 70 = .ok (.iload 5, 2) := by decide +kernel
theorem dX3_begin_72 : decode cX3_begin 72 = .ok (.bipush 10, 2) := by decide +kernel
theorem dX3_begin_74 : decode cX3_begin 74 = .ok (.idiv, 1) := by decide +kernel
theorem dX3_begin_75 : decode cX3_begin 75 = .ok (.putfield 33, 3) := by decide +kernel
theorem dX3_begin_78 : decode cX3_begin 78 = .ok (.aload_n 0, 1) := by decide +kernel
theorem dX3_begin_79 : decode cX3_begin 79 = .ok (.iload 5, 2) := by decide +kernel
theorem dX3_begin_81 : decode cX3_begin 81 = .ok (.bipush 10, 2) := by decide +kernel
theorem dX3_begin_83 : decode cX3_begin 83 = .ok (.irem, 1) := by decide +kernel
theorem dX3_begin_84 : decode cX3_begin 84 = .ok (.putfield 36, 3) := by decide +kernel
theorem dX3_begin_87 : decode cX3_begin 87 = .ok (.aload_n 0, 1) := by decide +kernel
theorem dX3_begin_88 : decode cX3_begin 88 = .ok (.iload 6, 2) := by decide +kernel
theorem dX3_begin_90 : decode cX3_begin 90 = .ok (.ifCond .ne 7, 3) := by decide +kernel
theorem dX3_begin_93 : decode cX3_begin 93 = .ok (.iconst 1, 1) := by decide +kernel
theorem dX3_begin_94 : decode cX3_begin 94 = .ok (.goto 4, 3) := by decide +kernel
theorem dX3_begin_97 : decode cX3_begin 97 = .ok (.iconst 0, 1) := by decide +kernel
theorem dX3_begin_98 : decode cX3_begin 98 = .ok (.putfield 39, 3) := by decide +kernel
theorem dX3_begin_101 : decode cX3_begin 101 = .ok (.aload_n 0, 1) := by decide +kernel
theorem dX3_begin_102 : decode cX3_begin 102 = .ok (.iload 6, 2) := by decide +kernel
theorem dX3_begin_104 : decode cX3_begin 104 = .ok (.putfield 43, 3) := by decide +kernel
theorem dX3_begin_107 : decode cX3_begin 107 = .ok (.aload_n 0, 1) := by decide +kernel
theorem dX3_begin_108 : decode cX3_begin 108 = .ok (.iconst 0, 1) := by decide +kernel
theorem dX3_begin_109 : decode cX3_begin 109 = .ok (.putfield 46, 3) := by decide +kernel
theorem dX3_begin_112 : decode cX3_begin 112 = .ok (.aload_n 0, 1) := by decide +kernel
theorem dX3_begin_113 : decode cX3_begin 113 = .ok (.iconst 0, 1) := by decide +kernel
theorem dX3_begin_114 : decode cX3_begin 114 = .ok (.putfield 49, 3) := by decide +kernel
theorem dX3_begin_117 : decode cX3_begin 117 = .ok (.aload_n 0, 1) := by decide +kernel
theorem dX3_begin_118 : decode cX3_begin 118 = .ok (.iconst 0, 1) := by decide +kernel
theorem dX3_begin_119 : decode cX3_begin 119 = .ok (.putfield 52, 3) := by decide +kernel
theorem dX3_begin_122 : decode cX3_begin 122 = .ok (.aload_n 0, 1) := by decide +kernel
theorem dX3_begin_123 : decode cX3_begin 123 = .ok (.iconst 0, 1) := by decide +kernel
theorem dX3_begin_124 : decode cX3_begin 124 = .ok (.putfield 55, 3) := by decide +kernel
theorem dX3_begin_127 : decode cX3_begin 127 = .ok (.aload_n 0, 1) := by decide +kernel
theorem dX3_begin_128 : decode cX3_begin 128 = .ok (.iconst 0, 1) := by decide +kernel
theorem dX3_begin_129 : decode cX3_begin 129 = .ok (.putfield 58, 3) := by decide +kernel
theorem dX3_begin_132 : decode cX3_begin 132 = .ok (.aload_n 0, 1) := by decide +kernel
theorem dX3_begin_133 : decode cX3_begin 133 = .ok (.iconst 0, 1) := by decide +kernel
theorem dX3_begin_134 : decode cX3_begin 134 = .ok (.putfield 61, 3) := by decide +kernel
theorem dX3_begin_137 : decode cX3_begin 137 = .ok (.return_, 1) := by decide +kernel
theorem dX3_copyFrom_0 : decode cX3_copyFrom 0 = .ok (.aload_n 0, 1) := by decide +kernel
theorem dX3_copyFrom_1 : decode cX3_copyFrom 1 = .ok (.aload_n 1, 1) := by decide +kernel
theorem dX3_copyFrom_2 : decode cX3_copyFrom 2 = .ok (.getfield 9, 3) := by decide +kernel
theorem dX3_copyFrom_5 : decode cX3_copyFrom 5 = .ok (.putfield 9, 3) := by decide +kernel
theorem dX3_copyFrom_8 : decode cX3_copyFrom 8 = .ok (.aload_n 0, 1) := by decide +kernel
theorem dX3_copyFrom_9 : decode cX3_copyFrom 9 = .ok (.aload_n 1, 1) := by decide +kernel
theorem dX3_copyFrom_10 : decode cX3_copyFrom 10 = .ok (.getfield 15, 3) := by decide +kernel
theorem dX3_copyFrom_13 : decode cX3_copyFrom 13 = .ok (.putfield 15, 3) := by decide +kernel
theorem dX3_copyFrom_16 : decode cX3_copyFrom 16 = .ok (.aload_n 0, 1) := by decide +kernel
theorem dX3_copyFrom_17 : decode cX3_copyFrom 17 = .ok (.aload_n 1, 1) := by decide +kernel
theorem dX3_copyFrom_18 : decode cX3_copyFrom 18 = .ok (.getfield 18, 3) := by decide +kernel
theorem dX3_copyFrom_21 : decode cX3_copyFrom 21 = .ok (.putfield 18, 3) := by decide +kernel
theorem dX3_copyFrom_24 : decode cX3_copyFrom 24 = .ok (.aload_n 0, 1) := by decide +kernel
theorem dX3_copyFrom_25 : decode cX3_copyFrom 25 = .ok (.aload_n 1, 1) := by decide +kernel
theorem dX3_copyFrom_26 : decode cX3_copyFrom 26 = .ok (.getfield 21, 3) := by decide +kernel
theorem dX3_copyFrom_29 : decode cX3_copyFrom 29 = .ok (.putfield 21, 3) := by decide +kernel
theorem dX3_copyFrom_32 : decode cX3_copyFrom 32 = .ok (.aload_n 0, 1) := by decide +kernel
theorem dX3_copyFrom_33 : decode cX3_copyFrom 33 = .ok (.aload_n 1, 1) := by decide +kernel
theorem dX3_copyFrom_34 : decode cX3_copyFrom 34 = .ok (.getfield 24, 3) := by decide +kernel
theorem dX3_copyFrom_37 : decode cX3_copyFrom 37 = .ok (.putfield 24, 3) := by decide +kernel
theorem dX3_copyFrom_40 : decode cX3_copyFrom 40 = .ok (.aload_n 0, 1) := by decide +kernel
theorem dX3_copyFrom_41 : decode cX3_copyFrom 41 = .ok (.aload_n 1, 1) := by decide +kernel
theorem dX3_copyFrom_42 : decode cX3_copyFrom 42 = .ok (.getfield 27, 3) := by decide +kernel
theorem dX3_copyFrom_45 : decode cX3_copyFrom 45 = .ok (.putfield 27, 3) := by decide +kernel
theorem dX3_copyFrom_48 : decode cX3_copyFrom 48 = .ok (.aload_n 0, 1) := by decide +kernel
theorem dX3_copyFrom_49 : decode cX3_copyFrom 49 = .ok (.aload_n 1, 1) := by decide +kernel
theorem dX3_copyFrom_50 : decode cX3_copyFrom 50 = .ok (.getfield 30, 3) := by decide +kernel
theorem dX3_copyFrom_53 : decode cX3_copyFrom 53 = .ok (.putfield 30, 3) := by decide +kernel
theorem dX3_copyFrom_56 : decode cX3_copyFrom 56 = .ok (.aload_n 0, 1) := by decide +kernel
theorem dX3_copyFrom_57 : decode cX3_copyFrom 57 = .ok (.aload_n 1, 1) := by decide +kernel
theorem dX3_copyFrom_58 : decode cX3_copyFrom 58 = .ok (.getfield 33, 3) := by decide +kernel
theorem dX3_copyFrom_61 : decode cX3_copyFrom 61 = .ok (.putfield 33, 3) := by decide +kernel
theorem dX3_copyFrom_64 : decode cX3_copyFrom 64 = .ok (.aload_n 0, 1) := by decide +kernel
theorem dX3_copyFrom_65 : decode cX3_copyFrom 65 = .ok (.aload_n 1, 1) := by decide +kernel
theorem dX3_copyFrom_66 : decode cX3_copyFrom 66 = .ok (.getfield 36, 3) := by decide +kernel
theorem dX3_copyFrom_69 : decode cX3_copyFrom 69 = .ok (.putfield 36, 3) := by decide +kernel
theorem dX3_copyFrom_72 : decode cX3_copyFrom 72 = .ok (.aload_n 0, 1) := by decide +kernel
theorem dX3_copyFrom_73 : decode cX3_copyFrom 73 = .ok (.aload_n 1, 1) := by decide +kernel
theorem dX3_copyFrom_74 : decode cX3_copyFrom 74 = .ok (.getfield 39, 3) := by decide +kernel
theorem dX3_copyFrom_77 : decode cX3_copyFrom 77 = .ok (.putfield 39, 3) := by decide +kernel
theorem dX3_copyFrom_80 : decode cX3_copyFrom 80 = .ok (.aload_n 0, 1) := by decide +kernel
theorem dX3_copyFrom_81 : decode cX3_copyFrom 81 = .ok (.aload_n 1, 1) := by decide +kernel
theorem dX3_copyFrom_82 : decode cX3_copyFrom 82 = .ok (.getfield 43, 3) := by decide +kernel
theorem dX3_copyFrom_85 : decode cX3_copyFrom 85 = .ok (.putfield 43, 3) := by decide +kernel
theorem dX3_copyFrom_88 : decode cX3_copyFrom 88 = .ok (.aload_n 0, 1) := by decide +kernel
theorem dX3_copyFrom_89 : decode cX3_copyFrom 89 = .ok (.aload_n 1, 1) := by decide +kernel
theorem dX3_copyFrom_90 : decode cX3_copyFrom 90 = .ok (.getfield 46, 3) := by decide +kernel
theorem dX3_copyFrom_93 : decode cX3_copyFrom 93 = .ok (.putfield 46, 3) := by decide +kernel
theorem dX3_copyFrom_96 : decode cX3_copyFrom 96 = .ok (.aload_n 0, 1) := by decide +kernel
theorem dX3_copyFrom_97 : decode cX3_copyFrom 97 = .ok (.aload_n 1, 1) := by decide +kernel
theorem dX3_copyFrom_98 : decode cX3_copyFrom 98 = .ok (.getfield 49, 3) := by decide +kernel
theorem dX3_copyFrom_101 : decode cX3_copyFrom 101 = .ok (.putfield 49, 3) := by decide +kernel
theorem dX3_copyFrom_104 : decode cX3_copyFrom 104 = .ok (.aload_n 0, 1) := by decide +kernel
theorem dX3_copyFrom_105 : decode cX3_copyFrom 105 = .ok (.aload_n 1, 1) := by decide +kernel
theorem dX3_copyFrom_106 : decode cX3_copyFrom 106 = .ok (.getfield 52, 3) := by decide +kernel
theorem dX3_copyFrom_109 : decode cX3_copyFrom 109 = .ok (.putfield 52, 3) := by decide +kernel
theorem dX3_copyFrom_112 : decode cX3_copyFrom 112 = .ok (.aload_n 0, 1) := by decide +kernel
theorem dX3_copyFrom_113 : decode cX3_copyFrom 113 = .ok (.aload_n 1, 1) := by decide +kernel
theorem dX3_copyFrom_114 : decode cX3_copyFrom 114 = .ok (.getfield 55, 3) := by decide +kernel
theorem dX3_copyFrom_117 : decode cX3_copyFrom 117 = .ok (.putfield 55, 3) := by decide +kernel
theorem dX3_copyFrom_120 : decode cX3_copyFrom 120 = .ok (.aload_n 0, 1) := by decide +kernel
theorem dX3_copyFrom_121 : decode cX3_copyFrom 121 = .ok (.aload_n 1, 1) := by decide +kernel
theorem dX3_copyFrom_122 : decode cX3_copyFrom 122 = .ok (.getfield 58, 3) := by decide +kernel
theorem dX3_copyFrom_125 : decode cX3_copyFrom 125 = .ok (.putfield 58, 3) := by decide +kernel
theorem dX3_copyFrom_128 : decode cX3_copyFrom 128 = .ok (.aload_n 0, 1) := by decide +kernel
theorem dX3_copyFrom_129 : decode cX3_copyFrom 129 = .ok (.aload_n 1, 1) := by decide +kernel
theorem dX3_copyFrom_130 : decode cX3_copyFrom 130 = .ok (.getfield 61, 3) := by decide +kernel
theorem dX3_copyFrom_133 : decode cX3_copyFrom 133 = .ok (.putfield 61, 3) := by decide +kernel
theorem dX3_copyFrom_136 : decode cX3_copyFrom 136 = .ok (.return_, 1) := by decide +kernel
theorem dX3_nominalDay_0 : decode cX3_nominalDay 0 = .ok (.aload_n 0, 1) := by decide +kernel
theorem dX3_nominalDay_1 : decode cX3_nominalDay 1 = .ok (.getfield 21, 3) := by decide +kernel
theorem dX3_nominalDay_4 : decode cX3_nominalDay 4 = .ok (.ifCond .eq 11, 3) := by decide +kernel
theorem dX3_nominalDay_7 : decode cX3_nominalDay 7 = .ok (.aload_n 0, 1) := by decide +kernel
theorem dX3_nominalDay_8 : decode cX3_nominalDay 8 = .ok (.getfield 21, 3) := by decide +kernel
theorem dX3_nominalDay_11 : decode cX3_nominalDay 11 = .ok (.iconst 1, 1) := by decide +kernel
theorem dX3_nominalDay_12 : decode cX3_nominalDay 12 = .ok (.if_icmp .ne 43, 3) := by decide +kernel
theorem dX3_nominalDay_15 : decode cX3_nominalDay 15 = .ok (.aload_n 0, 1) := by decide +kernel
theorem dX3_nominalDay_16 : decode cX3_nominalDay 16 = .ok (.getfield 30, 3) := by decide +kernel
theorem dX3_nominalDay_19 : decode cX3_nominalDay 19 = .ok (.iload_n 1, 1) := by decide +kernel
theorem dX3_nominalDay_20 : decode cX3_nominalDay 20 = .ok (.aload_n 0, 1) := by decide +kernel
theorem dX3_nominalDay_21 : decode cX3_nominalDay 21 = .ok (.getfield 24, 3) := by decide +kernel
theorem dX3_nominalDay_24 : decode cX3_nominalDay 24 = .ok (.imul, 1) := by decide +kernel
theorem dX3_nominalDay_25 : decode cX3_nominalDay 25 = .ok (.aload_n 0, 1) := by decide +kernel
theorem dX3_nominalDay_26 : decode cX3_nominalDay 26 = .ok (.getfield 21, 3) := by decide +kernel
theorem dX3_nominalDay_29 : decode cX3_nominalDay 29 = .ok (.ifCond .ne 7, 3) := by decide +kernel
theorem dX3_nominalDay_32 : decode cX3_nominalDay 32 = .ok (.iconst 1, 1) := by decide +kernel
theorem dX3_nominalDay_33 : decode cX3_nominalDay 33 = .ok (.goto 5, 3) := by decide +kernel
theorem dX3_nominalDay_36 : decode cX3_nominalDay 36 = .ok (.bipush 7, 2) := by decide +kernel
theorem dX3_nominalDay_38 : decode cX3_nominalDay 38 = .ok (.imul, 1) := by decide +kernel
theorem dX3_nominalDay_39 : decode cX3_nominalDay 39 = .ok (.iadd, 1) := by decide +kernel
theorem dX3_nominalDay_40 : decode cX3_nominalDay 40 = .ok (.istore_n 3, 1) := by decide +kernel
theorem dX3_nominalDay_41 : decode cX3_nominalDay 41 = .ok (.iload_n 3, 1) := by decide +kernel
theorem dX3_nominalDay_42 : decode cX3_nominalDay 42 = .ok (.sipush 1094, 3) := by decide +kernel
theorem dX3_nominalDay_45 : decode cX3_nominalDay 45 = .ok (.if_icmp .gt 7, 3) := by decide +kernel
theorem dX3_nominalDay_48 : decode cX3_nominalDay 48 = .ok (.iload_n 3, 1) := by decide +kernel
theorem dX3_nominalDay_49 : decode cX3_nominalDay 49 = .ok (.goto 5, 3) := by decide +kernel
theorem dX3_nominalDay_52 : decode cX3_nominalDay 52 = .ok (.bipush (-6), 2) := by decide +kernel
theorem dX3_nominalDay_54 : decode cX3_nominalDay 54 = .ok (.ireturn, 1) := by decide +kernel
theorem dX3_nominalDay_55 : decode cX3_nominalDay 55 = .ok (.aload_n 0, 1) := by decide +kernel
theorem dX3_nominalDay_56 : decode cX3_nominalDay 56 = .ok (.getfield 30, 3) := by decide +kernel
theorem dX3_nominalDay_59 : decode cX3_nominalDay 59 = .ok (.invokestatic 64, 3) := by decide +kernel
theorem dX3_nominalDay_62 : decode cX3_nominalDay 62 = .ok (.iload_n 1, 1) := by decide +kernel
theorem dX3_nominalDay_63 : decode cX3_nominalDay 63 = .ok (.aload_n 0, 1) := by decide +kernel
theorem dX3_nominalDay_64 : decode cX3_nominalDay 64 = .ok (.getfield 24, 3) := by decide +kernel
theorem dX3_nominalDay_67 : decode cX3_nominalDay 67 = .ok (.imul, 1) := by decide +kernel
theorem dX3_nominalDay_68 : decode cX3_nominalDay 68 = .ok (.iadd, 1) := by decide +kernel
theorem dX3_nominalDay_69 : decode cX3_nominalDay 69 = .ok (.istore_n 3, 1) := by decide +kernel
theorem dX3_nominalDay_70 : decode cX3_nominalDay 70 = .ok (.iload_n 3, 1) := by decide +kernel
theorem dX3_nominalDay_71 : decode cX3_nominalDay 71 = .ok (.bipush 35, 2) := by decide +kernel
theorem dX3_nominalDay_73 : decode cX3_nominalDay 73 = .ok (.if_icmp .le 6, 3) := by decide +kernel
theorem dX3_nominalDay_76 : decode cX3_nominalDay 76 = .ok (.bipush (-6), 2) := by decide +kernel
theorem dX3_nominalDay_78 : decode cX3_nominalDay 78 = .ok (.ireturn, 1) := by decide +kernel
theorem dX3_nominalDay_79 : decode cX3_nominalDay 79 = .ok (.iload_n 3, 1) := by decide +kernel
theorem dX3_nominalDay_80 : decode cX3_nominalDay 80 = .ok (.invokestatic 70, 3) := by decide +kernel
theorem dX3_nominalDay_83 : decode cX3_nominalDay 83 = .ok (.istore 4, 2) := by decide +kernel
theorem dX3_nominalDay_85 : decode cX3_nominalDay 85 = .ok (.iload_n 3, 1) := by decide +kernel
theorem dX3_nominalDay_86 : decode cX3_nominalDay 86 = .ok (.invokestatic 73, 3) := by decide +kernel
theorem dX3_nominalDay_89 : decode cX3_nominalDay 89 = .ok (.istore 5, 2) := by decide +kernel
theorem dX3_nominalDay_91 : decode cX3_nominalDay 91 = .ok (.aload_n 0, 1) := by decide +kernel
theorem dX3_nominalDay_92 : decode cX3_nominalDay 92 = .ok (.getfield 21, 3) := by decide +kernel
theorem dX3_nominalDay_95 : decode cX3_nominalDay 95 = .ok (.iconst 2, 1) := by decide +kernel
theorem dX3_nominalDay_96 : decode cX3_nominalDay 96 = .ok (.if_icmp .ne 18, 3) := by decide +kernel
theorem dX3_nominalDay_99 : decode cX3_nominalDay 99 = .ok (.iload 4, 2) := by decide +kernel
theorem dX3_nominalDay_101 : decode cX3_nominalDay 101 = .ok (.aload_n 0, 1) := by decide +kernel
theorem dX3_nominalDay_102 : decode cX3_nominalDay 102 = .ok (.getfield 27, 3) := by decide +kernel
theorem dX3_nominalDay_105 : decode cX3_nominalDay 105 = .ok (.iadd, 1) := by decide +kernel
theorem dX3_nominalDay_106 : decode cX3_nominalDay 106 = .ok (.iconst 1, 1) := by decide +kernel
theorem dX3_nominalDay_107 : decode cX3_nominalDay 107 = .ok (.isub, 1) := by decide +kernel
theorem dX3_nominalDay_108 : decode cX3_nominalDay 108 = .ok (.iload 5, 2) := by decide +kernel
theorem dX3_nominalDay_110 : decode cX3_nominalDay 110 = .ok (.invokestatic 76, 3) := by decide +kernel
theorem dX3_nominalDay_113 : decode cX3_nominalDay 113 = .ok (.ireturn, 1) := by decide +kernel
theorem dX3_nominalDay_114 : decode cX3_nominalDay 114 = .ok (.aload_n 2, 1) := by decide +kernel
theorem dX3_nominalDay_115 : decode cX3_nominalDay 115 = .ok (.iload 5, 2) := by decide +kernel
theorem dX3_nominalDay_117 : decode cX3_nominalDay 117 = .ok (.invokevirtual 82, 3) := by decide +kernel
theorem dX3_nominalDay_120 : decode cX3_nominalDay 120 = .ok (.istore 6, 2) := by decide +kernel
theorem dX3_nominalDay_122 : decode cX3_nominalDay 122 = .ok (.iload 6, 2) := by decide +kernel
theorem dX3_nominalDay_124 : decode cX3_nominalDay 124 = .ok (.iload 4, 2) := by decide +kernel
theorem dX3_nominalDay_126 : decode cX3_nominalDay 126 = .ok (.if_icmp .lt 8, 3) := by decide +kernel
theorem dX3_nominalDay_129 : decode cX3_nominalDay 129 = .ok (.iload 6, 2) := by decide +kernel
theorem dX3_nominalDay_131 : decode cX3_nominalDay 131 = .ok (.goto 5, 3) := by decide +kernel
theorem dX3_nominalDay_134 : decode cX3_nominalDay 134 = .ok (.iload 5, 2) := by decide +kernel
theorem dX3_nominalDay_136 : decode cX3_nominalDay 136 = .ok (.ireturn, 1) := by decide +kernel
theorem dX3_aim_0 : decode cX3_aim 0 = .ok (.aload_n 0, 1) := by decide +kernel
theorem dX3_aim_1 : decode cX3_aim 1 = .ok (.aload_n 0, 1) := by decide +kernel
theorem dX3_aim_2 : decode cX3_aim 2 = .ok (.getfield 61, 3) := by decide +kernel
theorem dX3_aim_5 : decode cX3_aim 5 = .ok (.putfield 85, 3) := by decide +kernel
theorem dX3_aim_8 : decode cX3_aim 8 = .ok (.aload_n 0, 1) := by decide +kernel
theorem dX3_aim_9 : decode cX3_aim 9 = .ok (.aload_n 0, 1) := by decide +kernel
theorem dX3_aim_10 : decode cX3_aim 10 = .ok (.aload_n 0, 1) := by decide +kernel
theorem dX3_aim_11 : decode cX3_aim 11 = .ok (.getfield 61, 3) := by decide +kernel
theorem dX3_aim_14 : decode cX3_aim 14 = .ok (.aload_n 1, 1) := by decide +kernel
theorem dX3_aim_15 : decode cX3_aim 15 = .ok (.invokevirtual 88, 3) := by decide +kernel
theorem dX3_aim_18 : decode cX3_aim 18 = .ok (.putfield 92, 3) := by decide +kernel
theorem dX3_aim_21 : decode cX3_aim 21 = .ok (.aload_n 0, 1) := by decide +kernel
theorem dX3_aim_22 : decode cX3_aim 22 = .ok (.getfield 92, 3) := by decide +kernel
theorem dX3_aim_25 : decode cX3_aim 25 = .ok (.bipush (-6), 2) := by decide +kernel
theorem dX3_aim_27 : decode cX3_aim 27 = .ok (.if_icmp .eq 37, 3) := by decide +kernel
theorem dX3_aim_30 : decode cX3_aim 30 = .ok (.aload_n 0, 1) := by decide +kernel
theorem dX3_aim_31 : decode cX3_aim 31 = .ok (.getfield 92, 3) := by decide +kernel
theorem dX3_aim_34 : decode cX3_aim 34 = .ok (.aload_n 0, 1) := by decide +kernel
theorem dX3_aim_35 : decode cX3_aim 35 = .ok (.getfield 30, 3) := by decide +kernel
theorem dX3_aim_38 : decode cX3_aim 38 = .ok (.if_icmp .ge 26, 3) := by decide +kernel
theorem dX3_aim_41 : decode cX3_aim 41 = .ok (.aload_n 0, 1) := by decide +kernel
theorem dX3_aim_42 : decode cX3_aim 42 = .ok (.aload_n 0, 1) := by decide +kernel
theorem dX3_aim_43 : decode cX3_aim 43 = .ok (.getfield 61, 3) := by decide +kernel
theorem dX3_aim_46 : decode cX3_aim 46 = .ok (.iconst 1, 1) := by decide +kernel
theorem dX3_aim_47 : decode cX3_aim 47 = .ok (.iadd, 1) := by decide +kernel
theorem dX3_aim_48 : decode cX3_aim 48 = .ok (.putfield 85, 3) := by decide +kernel
theorem dX3_aim_51 : decode cX3_aim 51 = .ok (.aload_n 0, 1) := by decide +kernel
theorem dX3_aim_52 : decode cX3_aim 52 = .ok (.aload_n 0, 1) := by decide +kernel
theorem dX3_aim_53 : decode cX3_aim 53 = .ok (.aload_n 0, 1) := by decide +kernel
theorem dX3_aim_54 : decode cX3_aim 54 = .ok (.getfield 85, 3) := by decide +kernel
theorem dX3_aim_57 : decode cX3_aim 57 = .ok (.aload_n 1, 1) := by decide +kernel
theorem dX3_aim_58 : decode cX3_aim 58 = .ok (.invokevirtual 88, 3) := by decide +kernel
theorem dX3_aim_61 : decode cX3_aim 61 = .ok (.putfield 92, 3) := by decide +kernel
theorem dX3_aim_64 : decode cX3_aim 64 = .ok (.aload_n 0, 1) := by decide +kernel
theorem dX3_aim_65 : decode cX3_aim 65 = .ok (.aload_n 0, 1) := by decide +kernel
theorem dX3_aim_66 : decode cX3_aim 66 = .ok (.getfield 92, 3) := by decide +kernel
theorem dX3_aim_69 : decode cX3_aim 69 = .ok (.bipush (-6), 2) := by decide +kernel
theorem dX3_aim_71 : decode cX3_aim 71 = .ok (.if_icmp .ne 9, 3) := by decide +kernel
theorem dX3_aim_74 : decode cX3_aim 74 = .ok (.sipush 1095, 3) := by decide +kernel
theorem dX3_aim_77 : decode cX3_aim 77 = .ok (.goto 15, 3) := by decide +kernel
theorem dX3_aim_80 : decode cX3_aim 80 = .ok (.aload_n 1, 1) := by decide +kernel
theorem dX3_aim_81 : decode cX3_aim 81 = .ok (.aload_n 0, 1) := by decide +kernel
theorem dX3_aim_82 : decode cX3_aim 82 = .ok (.getfield 92, 3) := by decide +kernel
theorem dX3_aim_85 : decode cX3_aim 85 = .ok (.aload_n 0, 1) := by decide +kernel
theorem dX3_aim_86 : decode cX3_aim 86 = .ok (.getfield 33, 3) := by decide +kernel
theorem dX3_aim_89 : decode cX3_aim 89 = .ok (.invokevirtual 95, 3) := by decide +kernel
theorem dX3_aim_92 : decode cX3_aim 92 = .ok (.putfield 98, 3) := by decide +kernel
theorem dX3_aim_95 : decode cX3_aim 95 = .ok (.return_, 1) := by decide +kernel
theorem dX3_hasPaymentsLeft_0 : decode cX3_hasPaymentsLeft 0 = .ok (.aload_n 0, 1) := by decide +kernel
theorem dX3_hasPaymentsLeft_1 : decode cX3_hasPaymentsLeft 1 = .ok (.getfield 39, 3) := by decide +kernel
theorem dX3_hasPaymentsLeft_4 : decode cX3_hasPaymentsLeft 4 = .ok (.ifCond .ne 10, 3) := by decide +kernel
theorem dX3_hasPaymentsLeft_7 : decode cX3_hasPaymentsLeft 7 = .ok (.aload_n 0, 1) := by decide +kernel
theorem dX3_hasPaymentsLeft_8 : decode cX3_hasPaymentsLeft 8 = .ok (.getfield 43, 3) := by decide +kernel
theorem dX3_hasPaymentsLeft_11 : decode cX3_hasPaymentsLeft 11 = .ok (.ifCond .le 7, 3) := by decide +kernel
theorem dX3_hasPaymentsLeft_14 : decode cX3_hasPaymentsLeft 14 = .ok (.iconst 1, 1) := by decide +kernel
theorem dX3_hasPaymentsLeft_15 : decode cX3_hasPaymentsLeft 15 = .ok (.goto 4, 3) := by decide +kernel
theorem dX3_hasPaymentsLeft_18 : decode cX3_hasPaymentsLeft 18 = .ok (.iconst 0, 1) := by decide +kernel
theorem dX3_hasPaymentsLeft_19 : decode cX3_hasPaymentsLeft 19 = .ok (.ireturn, 1) := by decide +kernel
theorem dX3_leaveOutBefore_0 : decode cX3_leaveOutBefore 0 = .ok (.iconst 0, 1) := by decide +kernel
theorem dX3_leaveOutBefore_1 : decode cX3_leaveOutBefore 1 = .ok (.istore_n 3, 1) := by decide +kernel
theorem dX3_leaveOutBefore_2 : decode cX3_leaveOutBefore 2 = .ok (.aload_n 0, 1) := by decide +kernel
theorem dX3_leaveOutBefore_3 : decode cX3_leaveOutBefore 3 = .ok (.aload_n 2, 1) := by decide +kernel
theorem dX3_leaveOutBefore_4 : decode cX3_leaveOutBefore 4 = .ok (.invokevirtual 101, 3) := by decide +kernel
theorem dX3_leaveOutBefore_7 : decode cX3_leaveOutBefore 7 = .ok (.iconst 0, 1) := by decide +kernel
theorem dX3_leaveOutBefore_8 : decode cX3_leaveOutBefore 8 = .ok (.istore 4, 2) := by decide +kernel
theorem dX3_leaveOutBefore_10 : decode cX3_leaveOutBefore 10 = .ok (.iload 4, 2) := by decide +kernel
theorem dX3_leaveOutBefore_12 : decode cX3_leaveOutBefore 12 = .ok (.sipush 1094, 3) := by decide +kernel
theorem dX3_leaveOutBefore_15 : decode cX3_leaveOutBefore 15 = .ok (.if_icmp .gt 35, 3) := by decide +kernel
theorem dX3_leaveOutBefore_18 : decode cX3_leaveOutBefore 18 = .ok (.aload_n 0, 1) := by decide +kernel
theorem dX3_leaveOutBefore_19 : decode cX3_leaveOutBefore 19 = .ok (.getfield 98, 3) := by decide +kernel
theorem dX3_leaveOutBefore_22 : decode cX3_leaveOutBefore 22 = .ok (.iload_n 1, 1) := by decide +kernel
theorem dX3_leaveOutBefore_23 : decode cX3_leaveOutBefore 23 = .ok (.if_icmp .ge 27, 3) := by decide +kernel
theorem dX3_leaveOutBefore_26 : decode cX3_leaveOutBefore 26 = .ok (.iinc 3 1, 3) := by decide +kernel
theorem dX3_leaveOutBefore_29 : decode cX3_leaveOutBefore 29 = .ok (.aload_n 0, 1) := by decide +kernel
theorem dX3_leaveOutBefore_30 : decode cX3_leaveOutBefore 30 = .ok (.aload_n 0, 1) := by decide +kernel
theorem dX3_leaveOutBefore_31 : decode cX3_leaveOutBefore 31 = .ok (.getfield 85, 3) := by decide +kernel
theorem dX3_leaveOutBefore_34 : decode cX3_leaveOutBefore 34 = .ok (.iconst 1, 1) := by decide +kernel
theorem dX3_leaveOutBefore_35 : decode cX3_leaveOutBefore 35 = .ok (.iadd, 1) := by decide +kernel
theorem dX3_leaveOutBefore_36 : decode cX3_leaveOutBefore 36 = .ok (.putfield 61, 3) := by decide +kernel
theorem dX3_leaveOutBefore_39 : decode cX3_leaveOutBefore 39 = .ok (.aload_n 0, 1) := by decide +kernel
theorem dX3_leaveOutBefore_40 : decode cX3_leaveOutBefore 40 = .ok (.aload_n 2, 1) := by decide +kernel
theorem dX3_leaveOutBefore_41 : decode cX3_leaveOutBefore 41 = .ok (.invokevirtual 101, 3) := by decide +kernel
theorem dX3_leaveOutBefore_44 : decode cX3_leaveOutBefore 44 = .ok (.iinc 4 1, 3) := by decide +kernel
theorem dX3_leaveOutBefore_47 : decode cX3_leaveOutBefore 47 = .ok (.goto (-37), 3) := by decide +kernel
theorem dX3_leaveOutBefore_50 : decode cX3_leaveOutBefore 50 = .ok (.iload_n 3, 1) := by decide +kernel
theorem dX3_leaveOutBefore_51 : decode cX3_leaveOutBefore 51 = .ok (.ireturn, 1) := by decide +kernel
theorem dX3_dateBehindNext_0 : decode cX3_dateBehindNext 0 = .ok (.aload_n 0, 1) := by decide +kernel
theorem dX3_dateBehindNext_1 : decode cX3_dateBehindNext 1 = .ok (.getfield 46, 3) := by decide +kernel
theorem dX3_dateBehindNext_4 : decode cX3_dateBehindNext 4 = .ok (.iconst 2, 1) := by decide +kernel
theorem dX3_dateBehindNext_5 : decode cX3_dateBehindNext 5 = .ok (.if_icmp .eq 18, 3) := by decide +kernel
theorem dX3_dateBehindNext_8 : decode cX3_dateBehindNext 8 = .ok (.aload_n 0, 1) := by decide +kernel
theorem dX3_dateBehindNext_9 : decode cX3_dateBehindNext 9 = .ok (.getfield 39, 3) := by decide +kernel
theorem dX3_dateBehindNext_12 : decode cX3_dateBehindNext 12 = .ok (.ifCond .ne 14, 3) := by decide +kernel
theorem dX3_dateBehindNext_15 : decode cX3_dateBehindNext 15 = .ok (.iload_n 1, 1) := by decide +kernel
theorem dX3_dateBehindNext_16 : decode cX3_dateBehindNext 16 = .ok (.aload_n 0, 1) := by decide +kernel
theorem dX3_dateBehindNext_17 : decode cX3_dateBehindNext 17 = .ok (.getfield 43, 3) := by decide +kernel
theorem dX3_dateBehindNext_20 : decode cX3_dateBehindNext 20 = .ok (.if_icmp .lt 6, 3) := by decide +kernel
theorem dX3_dateBehindNext_23 : decode cX3_dateBehindNext 23 = .ok (.bipush (-6), 2) := by decide +kernel
theorem dX3_dateBehindNext_25 : decode cX3_dateBehindNext 25 = .ok (.ireturn, 1) := by decide +kernel
theorem dX3_dateBehindNext_26 : decode cX3_dateBehindNext 26 = .ok (.aload_n 0, 1) := by decide +kernel
theorem dX3_dateBehindNext_27 : decode cX3_dateBehindNext 27 = .ok (.aload_n 2, 1) := by decide +kernel
theorem dX3_dateBehindNext_28 : decode cX3_dateBehindNext 28 = .ok (.invokevirtual 101, 3) := by decide +kernel
theorem dX3_dateBehindNext_31 : decode cX3_dateBehindNext 31 = .ok (.aload_n 0, 1) := by decide +kernel
theorem dX3_dateBehindNext_32 : decode cX3_dateBehindNext 32 = .ok (.aload_n 0, 1) := by decide +kernel
theorem dX3_dateBehindNext_33 : decode cX3_dateBehindNext 33 = .ok (.getfield 85, 3) := by decide +kernel
theorem dX3_dateBehindNext_36 : decode cX3_dateBehindNext 36 = .ok (.iload_n 1, 1) := by decide +kernel
theorem dX3_dateBehindNext_37 : decode cX3_dateBehindNext 37 = .ok (.iadd, 1) := by decide +kernel
theorem dX3_dateBehindNext_38 : decode cX3_dateBehindNext 38 = .ok (.aload_n 2, 1) := by decide +kernel
theorem dX3_dateBehindNext_39 : decode cX3_dateBehindNext 39 = .ok (.invokevirtual 88, 3) := by decide +kernel
theorem dX3_dateBehindNext_42 : decode cX3_dateBehindNext 42 = .ok (.istore_n 3, 1) := by decide +kernel
theorem dX3_dateBehindNext_43 : decode cX3_dateBehindNext 43 = .ok (.iload_n 3, 1) := by decide +kernel
theorem dX3_dateBehindNext_44 : decode cX3_dateBehindNext 44 = .ok (.bipush (-6), 2) := by decide +kernel
theorem dX3_dateBehindNext_46 : decode cX3_dateBehindNext 46 = .ok (.if_icmp .ne 8, 3) := by decide +kernel
theorem dX3_dateBehindNext_49 : decode cX3_dateBehindNext 49 = .ok (.bipush (-6), 2) := by decide +kernel
theorem dX3_dateBehindNext_51 : decode cX3_dateBehindNext 51 = .ok (.goto 12, 3) := by decide +kernel
theorem dX3_dateBehindNext_54 : decode cX3_dateBehindNext 54 = .ok (.aload_n 2, 1) := by decide +kernel
theorem dX3_dateBehindNext_55 : decode cX3_dateBehindNext 55 = .ok (.iload_n 3, 1) := by decide +kernel
theorem dX3_dateBehindNext_56 : decode cX3_dateBehindNext 56 = .ok (.aload_n 0, 1) := by decide +kernel
theorem dX3_dateBehindNext_57 : decode cX3_dateBehindNext 57 = .ok (.getfield 33, 3) := by decide +kernel
theorem dX3_dateBehindNext_60 : decode cX3_dateBehindNext 60 = .ok (.invokevirtual 95, 3) := by decide +kernel
theorem dX3_dateBehindNext_63 : decode cX3_dateBehindNext 63 = .ok (.ireturn, 1) := by decide +kernel
theorem dX3_numberOf_0 : decode cX3_numberOf 0 = .ok (.iload_n 1, 1) := by decide +kernel
theorem dX3_numberOf_1 : decode cX3_numberOf 1 = .ok (.tableswitch 162 0 14 #[75, 80, 85, 90, 95, 100, 105, 110, 115, 120, 137, 142, 147, 152, 157], 75) := by decide +kernel
theorem dX3_numberOf_76 : decode cX3_numberOf 76 = .ok (.aload_n 0, 1) := by decide +kernel
theorem dX3_numberOf_77 : decode cX3_numberOf 77 = .ok (.getfield 9, 3) := by decide +kernel
theorem dX3_numberOf_80 : decode cX3_numberOf 80 = .ok (.ireturn, 1) := by decide +kernel
theorem dX3_numberOf_81 : decode cX3_numberOf 81 = .ok (.aload_n 0, 1) := by decide +kernel
theorem dX3_numberOf_82 : decode cX3_numberOf 82 = .ok (.getfield 15, 3) := by decide +kernel
theorem dX3_numberOf_85 : decode cX3_numberOf 85 = .ok (.ireturn, 1) := by decide +kernel
theorem dX3_numberOf_86 : decode cX3_numberOf 86 = .ok (.aload_n 0, 1) := by decide +kernel
theorem dX3_numberOf_87 : decode cX3_numberOf 87 = .ok (.getfield 18, 3) := by decide +kernel
theorem dX3_numberOf_90 : decode cX3_numberOf 90 = .ok (.ireturn, 1) := by decide +kernel
theorem dX3_numberOf_91 : decode cX3_numberOf 91 = .ok (.aload_n 0, 1) := by decide +kernel
theorem dX3_numberOf_92 : decode cX3_numberOf 92 = .ok (.getfield 21, 3) := by decide +kernel
theorem dX3_numberOf_95 : decode cX3_numberOf 95 = .ok (.ireturn, 1) := by decide +kernel
theorem dX3_numberOf_96 : decode cX3_numberOf 96 = .ok (.aload_n 0, 1) := by decide +kernel
theorem dX3_numberOf_97 : decode cX3_numberOf 97 = .ok (.getfield 24, 3) := by decide +kernel
theorem dX3_numberOf_100 : decode cX3_numberOf 100 = .ok (.ireturn, 1) := by decide +kernel
theorem dX3_numberOf_101 : decode cX3_numberOf 101 = .ok (.aload_n 0, 1) := by decide +kernel
theorem dX3_numberOf_102 : decode cX3_numberOf 102 = .ok (.getfield 27, 3) := by decide +kernel
theorem dX3_numberOf_105 : decode cX3_numberOf 105 = .ok (.ireturn, 1) := by decide +kernel
theorem dX3_numberOf_106 : decode cX3_numberOf 106 = .ok (.aload_n 0, 1) := by decide +kernel
theorem dX3_numberOf_107 : decode cX3_numberOf 107 = .ok (.getfield 30, 3) := by decide +kernel
theorem dX3_numberOf_110 : decode cX3_numberOf 110 = .ok (.ireturn, 1) := by decide +kernel
theorem dX3_numberOf_111 : decode cX3_numberOf 111 = .ok (.aload_n 0, 1) := by decide +kernel
theorem dX3_numberOf_112 : decode cX3_numberOf 112 = .ok (.getfield 33, 3) := by decide +kernel
theorem dX3_numberOf_115 : decode cX3_numberOf 115 = .ok (.ireturn, 1) := by decide +kernel
theorem dX3_numberOf_116 : decode cX3_numberOf 116 = .ok (.aload_n 0, 1) := by decide +kernel
theorem dX3_numberOf_117 : decode cX3_numberOf 117 = .ok (.getfield 36, 3) := by decide +kernel
theorem dX3_numberOf_120 : decode cX3_numberOf 120 = .ok (.ireturn, 1) := by decide +kernel
theorem dX3_numberOf_121 : decode cX3_numberOf 121 = .ok (.aload_n 0, 1) := by decide +kernel
theorem dX3_numberOf_122 : decode cX3_numberOf 122 = .ok (.getfield 46, 3) := by decide +kernel
theorem dX3_numberOf_125 : decode cX3_numberOf 125 = .ok (.iconst 2, 1) := by decide +kernel
theorem dX3_numberOf_126 : decode cX3_numberOf 126 = .ok (.if_icmp .ne 7, 3) := by decide +kernel
theorem dX3_numberOf_129 : decode cX3_numberOf 129 = .ok (.iconst 0, 1) := by decide +kernel
theorem dX3_numberOf_130 : decode cX3_numberOf 130 = .ok (.goto 7, 3) := by decide +kernel
theorem dX3_numberOf_133 : decode cX3_numberOf 133 = .ok (.aload_n 0, 1) := by decide +kernel
theorem dX3_numberOf_134 : decode cX3_numberOf 134 = .ok (.getfield 43, 3) := by decide +kernel
theorem dX3_numberOf_137 : decode cX3_numberOf 137 = .ok (.ireturn, 1) := by decide +kernel
theorem dX3_numberOf_138 : decode cX3_numberOf 138 = .ok (.aload_n 0, 1) := by decide +kernel
theorem dX3_numberOf_139 : decode cX3_numberOf 139 = .ok (.getfield 46, 3) := by decide +kernel
theorem dX3_numberOf_142 : decode cX3_numberOf 142 = .ok (.ireturn, 1) := by decide +kernel
theorem dX3_numberOf_143 : decode cX3_numberOf 143 = .ok (.aload_n 0, 1) := by decide +kernel
theorem dX3_numberOf_144 : decode cX3_numberOf 144 = .ok (.getfield 49, 3) := by decide +kernel
theorem dX3_numberOf_147 : decode cX3_numberOf 147 = .ok (.ireturn, 1) := by decide +kernel
theorem dX3_numberOf_148 : decode cX3_numberOf 148 = .ok (.aload_n 0, 1) := by decide +kernel
theorem dX3_numberOf_149 : decode cX3_numberOf 149 = .ok (.getfield 52, 3) := by decide +kernel
theorem dX3_numberOf_152 : decode cX3_numberOf 152 = .ok (.ireturn, 1) := by decide +kernel
theorem dX3_numberOf_153 : decode cX3_numberOf 153 = .ok (.aload_n 0, 1) := by decide +kernel
theorem dX3_numberOf_154 : decode cX3_numberOf 154 = .ok (.getfield 55, 3) := by decide +kernel
theorem dX3_numberOf_157 : decode cX3_numberOf 157 = .ok (.ireturn, 1) := by decide +kernel
theorem dX3_numberOf_158 : decode cX3_numberOf 158 = .ok (.aload_n 0, 1) := by decide +kernel
theorem dX3_numberOf_159 : decode cX3_numberOf 159 = .ok (.getfield 58, 3) := by decide +kernel
theorem dX3_numberOf_162 : decode cX3_numberOf 162 = .ok (.ireturn, 1) := by decide +kernel
theorem dX3_numberOf_163 : decode cX3_numberOf 163 = .ok (.bipush (-2), 2) := by decide +kernel
theorem dX3_numberOf_165 : decode cX3_numberOf 165 = .ok (.ireturn, 1) := by decide +kernel
theorem dX4_init_0 : decode cX4_init 0 = .ok (.aload_n 0, 1) := by decide +kernel
theorem dX4_init_1 : decode cX4_init 1 = .ok (.invokespecial 3, 3) := by decide +kernel
theorem dX4_init_4 : decode cX4_init 4 = .ok (.aload_n 0, 1) := by decide +kernel
theorem dX4_init_5 : decode cX4_init 5 = .ok (.bipush 80, 2) := by decide +kernel
theorem dX4_init_7 : decode cX4_init 7 = .ok (.newarray .char, 2) := by decide +kernel
theorem dX4_init_9 : decode cX4_init 9 = .ok (.putfield 11, 3) := by decide +kernel
theorem dX4_init_12 : decode cX4_init 12 = .ok (.return_, 1) := by decide +kernel
theorem dX4_append_0 : decode cX4_append 0 = .ok (.iconst 0, 1) := by decide +kernel
theorem dX4_append_1 : decode cX4_append 1 = .ok (.istore_n 3, 1) := by decide +kernel
theorem dX4_append_2 : decode cX4_append 2 = .ok (.lload_n 1, 1) := by decide +kernel
theorem dX4_append_3 : decode cX4_append 3 = .ok (.lstore 4, 2) := by decide +kernel
theorem dX4_append_5 : decode cX4_append 5 = .ok (.iload_n 3, 1) := by decide +kernel
theorem dX4_append_6 : decode cX4_append 6 = .ok (.bipush 8, 2) := by decide +kernel
theorem dX4_append_8 : decode cX4_append 8 = .ok (.if_icmp .ge 47, 3) := by decide +kernel
theorem dX4_append_11 : decode cX4_append 11 = .ok (.lload 4, 2) := by decide +kernel
theorem dX4_append_13 : decode cX4_append 13 = .ok (.lconst 0, 1) := by decide +kernel
theorem dX4_append_14 : decode cX4_append 14 = .ok (.lcmp, 1) := by decide +kernel
theorem dX4_append_15 : decode cX4_append 15 = .ok (.ifCond .eq 40, 3) := by decide +kernel
theorem dX4_append_18 : decode cX4_append 18 = .ok (.lload 4, 2) := by decide +kernel
theorem dX4_append_20 : decode cX4_append 20 = .ok (.ldc2_w 15, 3) := by decide +kernel
theorem dX4_append_23 : decode cX4_append 23 = .ok (.land, 1) := by decide +kernel
theorem dX4_append_24 : decode cX4_append 24 = .ok (.l2i, 1) := by decide +kernel
theorem dX4_append_25 : decode cX4_append 25 = .ok (.istore 6, 2) := by decide +kernel
theorem dX4_append_27 : decode cX4_append 27 = .ok (.iload 6, 2) := by decide +kernel
theorem dX4_append_29 : decode cX4_append 29 = .ok (.bipush 33, 2) := by decide +kernel
theorem dX4_append_31 : decode cX4_append 31 = .ok (.bipush 126, 2) := by decide +kernel
theorem dX4_append_33 : decode cX4_append 33 = .ok (.invokestatic 17, 3) := by decide +kernel
theorem dX4_append_36 : decode cX4_append 36 = .ok (.ifCond .ne 6, 3) := by decide +kernel
theorem dX4_append_39 : decode cX4_append 39 = .ok (.bipush (-2), 2) := by decide +kernel
theorem dX4_append_41 : decode cX4_append 41 = .ok (.ireturn, 1) := by decide +kernel
theorem dX4_append_42 : decode cX4_append 42 = .ok (.lload 4, 2) := by decide +kernel
theorem dX4_append_44 : decode cX4_append 44 = .ok (.bipush 8, 2) := by decide +kernel
theorem dX4_append_46 : decode cX4_append 46 = .ok (.lushr, 1) := by decide +kernel
theorem dX4_append_47 : decode cX4_append 47 = .ok (.lstore 4, 2) := by decide +kernel
theorem dX4_append_49 : decode cX4_append 49 = .ok (.iinc 3 1, 3) := by decide +kernel
theorem dX4_append_52 : decode cX4_append 52 = .ok (.goto (-47), 3) := by decide +kernel
theorem dX4_append_55 : decode cX4_append 55 = .ok (.iload_n 3, 1) := by decide +kernel
theorem dX4_append_56 : decode cX4_append 56 = .ok (.ifCond .ne 6, 3) := by decide +kernel
theorem dX4_append_59 : decode cX4_append 59 = .ok (.bipush (-2), 2) := by decide +kernel
theorem dX4_append_61 : decode cX4_append 61 = .ok (.ireturn, 1) := by decide +kernel
theorem dX4_append_62 : decode cX4_append 62 = .ok (.aload_n 0, 1) := by decide +kernel
theorem dX4_append_63 : decode cX4_append 63 = .ok (.getfield 21, 3) := by decide +kernel
theorem dX4_append_66 : decode cX4_append 66 = .ok (.iload_n 3, 1) := by decide +kernel
theorem dX4_append_67 : decode cX4_append 67 = .ok (.iadd, 1) := by decide +kernel
theorem dX4_append_68 : decode cX4_append 68 = .ok (.bipush 80, 2) := by decide +kernel
theorem dX4_append_70 : decode cX4_append 70 = .ok (.if_icmp .le 6, 3) := by decide +kernel
theorem dX4_append_73 : decode cX4_append 73 = .ok (.bipush (-4), 2) := by decide +kernel
theorem dX4_append_75 : decode cX4_append 75 = .ok (.ireturn, 1) := by decide +kernel
theorem dX4_append_76 : decode cX4_append 76 = .ok (.iconst 0, 1) := by decide +kernel
theorem dX4_append_77 : decode cX4_append 77 = .ok (.istore 4, 2) := by decide +kernel
theorem dX4_append_79 : decode cX4_append 79 = .ok (.iload 4, 2) := by decide +kernel
theorem dX4_append_81 : decode cX4_append 81 = .ok (.iload_n 3, 1) := by decide +kernel
theorem dX4_append_82 : decode cX4_append 82 = .ok (.if_icmp .ge 38, 3) := by decide +kernel
theorem dX4_append_85 : decode cX4_append 85 = .ok (.aload_n 0, 1) := by decide +kernel
theorem dX4_append_86 : decode cX4_append 86 = .ok (.getfield 11, 3) := by decide +kernel
theorem dX4_append_89 : decode cX4_append 89 = .ok (.aload_n 0, 1) := by decide +kernel
theorem dX4_append_90 : decode cX4_append 90 = .ok (.getfield 21, 3) := by decide +kernel
theorem dX4_append_93 : decode cX4_append 93 = .ok (.iload 4, 2) := by decide +kernel
theorem dX4_append_95 : decode cX4_append 95 = .ok (.iadd, 1) := by decide +kernel
theorem dX4_append_96 : decode cX4_append 96 = .ok (.lload_n 1, 1) := by decide +kernel
theorem dX4_append_97 : decode cX4_append 97 = .ok (.bipush 8, 2) := by decide +kernel
theorem dX4_append_99 : decode cX4_append 99 = .ok (.iload_n 3, 1) := by decide +kernel
theorem dX4_append_100 : decode cX4_append 100 = .ok (.iconst 1, 1) := by decide +kernel
theorem dX4_append_101 : decode cX4_append 101 = .ok (.isub, 1) := by decide +kernel
theorem dX4_append_102 : decode cX4_append 102 = .ok (.iload 4, 2) := by decide +kernel
theorem dX4_append_104 : decode cX4_append 104 = .ok (.isub, 1) := by decide +kernel
theorem dX4_append_105 : decode cX4_append 105 = .ok (.imul, 1) := by decide +kernel
theorem dX4_append_106 : decode cX4_append 106 = .ok (.lushr, 1) := by decide +kernel
theorem dX4_append_107 : decode cX4_append 107 = .ok (.ldc2_w 15, 3) := by decide +kernel
theorem dX4_append_110 : decode cX4_append 110 = .ok (.land, 1) := by decide +kernel
theorem dX4_append_111 : decode cX4_append 111 = .ok (.l2i, 1) := by decide +kernel
theorem dX4_append_112 : decode cX4_append 112 = .ok (.i2c, 1) := by decide +kernel
theorem dX4_append_113 : decode cX4_append 113 = .ok (.castore, 1) := by decide +kernel
theorem dX4_append_114 : decode cX4_append 114 = .ok (.iinc 4 1, 3) := by decide +kernel
theorem dX4_append_117 : decode cX4_append 117 = .ok (.goto (-38), 3) := by decide +kernel
theorem dX4_append_120 : decode cX4_append 120 = .ok (.aload_n 0, 1) := by decide +kernel
theorem dX4_append_121 : decode cX4_append 121 = .ok (.dup, 1) := by decide +kernel
theorem dX4_append_122 : decode cX4_append 122 = .ok (.getfield 21, 3) := by decide +kernel
theorem dX4_append_125 : decode cX4_append 125 = .ok (.iload_n 3, 1) := by decide +kernel
theorem dX4_append_126 : decode cX4_append 126 = .ok (.iadd, 1) := by decide +kernel
theorem dX4_append_127 : decode cX4_append 127 = .ok (.putfield 21, 3) := by decide +kernel
theorem dX4_append_130 : decode cX4_append 130 = .ok (.aload_n 0, 1) := by decide +kernel
theorem dX4_append_131 : decode cX4_append 131 = .ok (.getfield 21, 3) := by decide +kernel
theorem dX4_append_134 : decode cX4_append 134 = .ok (.ireturn, 1) := by decide +kernel
theorem dX4_isSound_0 : decode cX4_isSound 0 = .ok (.aload_n 0, 1) := by decide +kernel
theorem dX4_isSound_1 : decode cX4_isSound 1 = .ok (.iconst 0, 1) := by decide +kernel
theorem dX4_isSound_2 : decode cX4_isSound 2 = .ok (.putfield 25, 3) := by decide +kernel
theorem dX4_isSound_5 : decode cX4_isSound 5 = .ok (.iconst 0, 1) := by decide +kernel
theorem dX4_isSound_6 : decode cX4_isSound 6 = .ok (.istore_n 1, 1) := by decide +kernel
theorem dX4_isSound_7 : decode cX4_isSound 7 = .ok (.iload_n 1, 1) := by decide +kernel
theorem dX4_isSound_8 : decode cX4_isSound 8 = .ok (.bipush 80, 2) := by decide +kernel
theorem dX4_isSound_10 : decode cX4_isSound 10 = .ok (.if_icmp .ge 42, 3) := by decide +kernel
theorem dX4_isSound_13 : decode cX4_isSound 13 = .ok (.aload_n 0, 1) := by decide +kernel
theorem dX4_isSound_14 : decode cX4_isSound 14 = .ok (.invokevirtual 28, 3) := by decide +kernel
theorem dX4_isSound_17 : decode cX4_isSound 17 = .ok (.ifCond .ne 5, 3) := by decide +kernel
theorem dX4_isSound_20 : decode cX4_isSound 20 = .ok (.iconst 0, 1) := by decide +kernel
theorem dX4_isSound_21 : decode cX4_isSound 21 = .ok (.ireturn, 1) := by decide +kernel
theorem dX4_isSound_22 : decode cX4_isSound 22 = .ok (.aload_n 0, 1) := by decide +kernel
theorem dX4_isSound_23 : decode cX4_isSound 23 = .ok (.getfield 25, 3) := by decide +kernel
theorem dX4_isSound_26 : decode cX4_isSound 26 = .ok (.aload_n 0, 1) := by decide +kernel
theorem dX4_isSound_27 : decode cX4_isSound 27 = .ok (.getfield 21, 3) := by decide +kernel
theorem dX4_isSound_30 : decode cX4_isSound 30 = .ok (.if_icmp .lt 5, 3) := by decide +kernel
theorem dX4_isSound_33 : decode cX4_isSound 33 = .ok (.iconst 1, 1) := by decide +kernel
theorem dX4_isSound_34 : decode cX4_isSound 34 = .ok (.ireturn, 1) := by decide +kernel
theorem dX4_isSound_35 : decode cX4_isSound 35 = .ok (.aload_n 0, 1) := by decide +kernel
theorem dX4_isSound_36 : decode cX4_isSound 36 = .ok (.bipush 59, 2) := by decide +kernel
theorem dX4_isSound_38 : decode cX4_isSound 38 = .ok (.invokevirtual 32, 3) := by decide +kernel
theorem dX4_isSound_41 : decode cX4_isSound 41 = .ok (.ifCond .ne 5, 3) := by decide +kernel
theorem dX4_isSound_44 : decode cX4_isSound 44 = .ok (.iconst 0, 1) := by decide +kernel
theorem dX4_isSound_45 : decode cX4_isSound 45 = .ok (.ireturn, 1) := by decide +kernel
theorem dX4_isSound_46 : decode cX4_isSound 46 = .ok (.iinc 1 1, 3) := by decide +kernel
theorem dX4_isSound_49 : decode cX4_isSound 49 = .ok (.goto (-42), 3) := by decide +kernel
theorem dX4_isSound_52 : decode cX4_isSound 52 = .ok (.iconst 0, 1) := by decide +kernel
theorem dX4_isSound_53 : decode cX4_isSound 53 = .ok (.ireturn, 1) := by decide +kernel
theorem dX4_readAct_0 : decode cX4_readAct 0 = .ok (.aload_n 0, 1) := by decide +kernel
theorem dX4_readAct_1 : decode cX4_readAct 1 = .ok (.aload_n 0, 1) := by decide +kernel
theorem dX4_readAct_2 : decode cX4_readAct 2 = .ok (.invokevirtual 36, 3) := by decide +kernel
theorem dX4_readAct_5 : decode cX4_readAct 5 = .ok (.putfield 40, 3) := by decide +kernel
theorem dX4_readAct_8 : decode cX4_readAct 8 = .ok (.aload_n 0, 1) := by decide +kernel
theorem dX4_readAct_9 : decode cX4_readAct 9 = .ok (.getfield 40, 3) := by decide +kernel
theorem dX4_readAct_12 : decode cX4_readAct 12 = .ok (.lookupswitch 170 #[(100, 113), (103, 82), (110, 82), (112, 52), (115, 82)], 52) := by decide +kernel
theorem dX4_readAct_64 : decode cX4_readAct 64 = .ok (.aload_n 0, 1) := by decide +kernel
theorem dX4_readAct_65 : decode cX4_readAct 65 = .ok (.dup, 1) := by decide +kernel
theorem dX4_readAct_66 : decode cX4_readAct 66 = .ok (.getfield 25, 3) := by decide +kernel
theorem dX4_readAct_69 : decode cX4_readAct 69 = .ok (.iconst 1, 1) := by decide +kernel
theorem dX4_readAct_70 : decode cX4_readAct 70 = .ok (.iadd, 1) := by decide +kernel
theorem dX4_readAct_71 : decode cX4_readAct 71 = .ok (.putfield 25, 3) := by decide +kernel
theorem dX4_readAct_74 : decode cX4_readAct 74 = .ok (.aload_n 0, 1) := by decide +kernel
theorem dX4_readAct_75 : decode cX4_readAct 75 = .ok (.invokevirtual 44, 3) := by decide +kernel
theorem dX4_readAct_78 : decode cX4_readAct 78 = .ok (.ifCond .eq 14, 3) := by decide +kernel
theorem dX4_readAct_81 : decode cX4_readAct 81 = .ok (.aload_n 0, 1) := by decide +kernel
theorem dX4_readAct_82 : decode cX4_readAct 82 = .ok (.invokevirtual 47, 3) := by decide +kernel
theorem dX4_readAct_85 : decode cX4_readAct 85 = .ok (.ifCond .eq 7, 3) := by decide +kernel
theorem dX4_readAct_88 : decode cX4_readAct 88 = .ok (.iconst 1, 1) := by decide +kernel
theorem dX4_readAct_89 : decode cX4_readAct 89 = .ok (.goto 4, 3) := by decide +kernel
theorem dX4_readAct_92 : decode cX4_readAct 92 = .ok (.iconst 0, 1) := by decide +kernel
theorem dX4_readAct_93 : decode cX4_readAct 93 = .ok (.ireturn, 1) := by decide +kernel
theorem dX4_readAct_94 : decode cX4_readAct 94 = .ok (.aload_n 0, 1) := by decide +kernel
theorem dX4_readAct_95 : decode cX4_readAct 95 = .ok (.dup, 1) := by decide +kernel
theorem dX4_readAct_96 : decode cX4_readAct 96 = .ok (.getfield 25, 3) := by decide +kernel
theorem dX4_readAct_99 : decode cX4_readAct 99 = .ok (.iconst 1, 1) := by decide +kernel
theorem dX4_readAct_100 : decode cX4_readAct 100 = .ok (.iadd, 1) := by decide +kernel
theorem dX4_readAct_101 : decode cX4_readAct 101 = .ok (.putfield 25, 3) := by decide +kernel
theorem dX4_readAct_104 : decode cX4_readAct 104 = .ok (.aload_n 0, 1) := by decide +kernel
theorem dX4_readAct_105 : decode cX4_readAct 105 = .ok (.aload_n 0, 1) := by decide +kernel
theorem dX4_readAct_106 : decode cX4_readAct 106 = .ok (.invokevirtual 50, 3) := by decide +kernel
theorem dX4_readAct_109 : decode cX4_readAct 109 = .ok (.putfield 54, 3) := by decide +kernel
theorem dX4_readAct_112 : decode cX4_readAct 112 = .ok (.aload_n 0, 1) := by decide +kernel
theorem dX4_readAct_113 : decode cX4_readAct 113 = .ok (.getfield 54, 3) := by decide +kernel
theorem dX4_readAct_116 : decode cX4_readAct 116 = .ok (.ifCond .lt 7, 3) := by decide +kernel
theorem dX4_readAct_119 : decode cX4_readAct 119 = .ok (.iconst 1, 1) := by decide +kernel
theorem dX4_readAct_120 : decode cX4_readAct 120 = .ok (.goto 4, 3) := by decide +kernel
theorem dX4_readAct_123 : decode cX4_readAct 123 = .ok (.iconst 0, 1) := by decide +kernel
theorem dX4_readAct_124 : decode cX4_readAct 124 = .ok (.ireturn, 1) := by decide +kernel
theorem dX4_readAct_125 : decode cX4_readAct 125 = .ok (.aload_n 0, 1) := by decide +kernel
theorem dX4_readAct_126 : decode cX4_readAct 126 = .ok (.dup, 1) := by decide +kernel
theorem dX4_readAct_127 : decode cX4_readAct 127 = .ok (.getfield 25, 3) := by decide +kernel
theorem dX4_readAct_130 : decode cX4_readAct 130 = .ok (.iconst 1, 1) := by decide +kernel
theorem dX4_readAct_131 : decode cX4_readAct 131 = .ok (.iadd, 1) := by decide +kernel
theorem dX4_readAct_132 : decode cX4_readAct 132 = .ok (.putfield 25, 3) := by decide +kernel
theorem dX4_readAct_135 : decode cX4_readAct 135 = .ok (.aload_n 0, 1) := by decide +kernel
theorem dX4_readAct_136 : decode cX4_readAct 136 = .ok (.aload_n 0, 1) := by decide +kernel
theorem dX4_readAct_137 : decode cX4_readAct 137 = .ok (.invokevirtual 57, 3) := by decide +kernel
theorem dX4_readAct_140 : decode cX4_readAct 140 = .ok (.putfield 60, 3) := by decide +kernel
theorem dX4_readAct_143 : decode cX4_readAct 143 = .ok (.aload_n 0, 1) := by decide +kernel
theorem dX4_readAct_144 : decode cX4_readAct 144 = .ok (.getfield 60, 3) := by decide +kernel
theorem dX4_readAct_147 : decode cX4_readAct 147 = .ok (.ifCond .lt 12, 3) := by decide +kernel
theorem dX4_readAct_150 : decode cX4_readAct 150 = .ok (.aload_n 0, 1) := by decide +kernel
theorem dX4_readAct_151 : decode cX4_readAct 151 = .ok (.bipush 43, 2) := by decide +kernel
theorem dX4_readAct_153 : decode cX4_readAct 153 = .ok (.invokevirtual 32, 3) := by decide +kernel
theorem dX4_readAct_156 : decode cX4_readAct 156 = .ok (.ifCond .ne 5, 3) := by decide +kernel
theorem dX4_readAct_159 : decode cX4_readAct 159 = .ok (.iconst 0, 1) := by decide +kernel
theorem dX4_readAct_160 : decode cX4_readAct 160 = .ok (.ireturn, 1) := by decide +kernel
theorem dX4_readAct_161 : decode cX4_readAct 161 = .ok (.aload_n 0, 1) := by decide +kernel
theorem dX4_readAct_162 : decode cX4_readAct 162 = .ok (.aload_n 0, 1) := by decide +kernel
theorem dX4_readAct_163 : decode cX4_readAct 163 = .ok (.invokevirtual 50, 3) := by decide +kernel
theorem dX4_readAct_166 : decode cX4_readAct 166 = .ok (.putfield 54, 3) := by decide +kernel
theorem dX4_readAct_169 : decode cX4_readAct 169 = .ok (.aload_n 0, 1) := by decide +kernel
theorem dX4_readAct_170 : decode cX4_readAct 170 = .ok (.getfield 54, 3) := by decide +kernel
theorem dX4_readAct_173 : decode cX4_readAct 173 = .ok (.ifCond .lt 7, 3) := by decide +kernel
theorem dX4_readAct_176 : decode cX4_readAct 176 = .ok (.iconst 1, 1) := by decide +kernel
theorem dX4_readAct_177 : decode cX4_readAct 177 = .ok (.goto 4, 3) := by decide +kernel
theorem dX4_readAct_180 : decode cX4_readAct 180 = .ok (.iconst 0, 1) := by decide +kernel
theorem dX4_readAct_181 : decode cX4_readAct 181 = .ok (.ireturn, 1) := by decide +kernel
theorem dX4_readAct_182 : decode cX4_readAct 182 = .ok (.iconst 0, 1) := by decide +kernel
theorem dX4_readAct_183 : decode cX4_readAct 183 = .ok (.ireturn, 1) := by decide +kernel
theorem dX4_readParties_0 : decode cX4_readParties 0 = .ok (.aload_n 0, 1) := by decide +kernel
theorem dX4_readParties_1 : decode cX4_readParties 1 = .ok (.aload_n 0, 1) := by decide +kernel
theorem dX4_readParties_2 : decode cX4_readParties 2 = .ok (.invokevirtual 57, 3) := by decide +kernel
theorem dX4_readParties_5 : decode cX4_readParties 5 = .ok (.putfield 60, 3) := by decide +kernel
theorem dX4_readParties_8 : decode cX4_readParties 8 = .ok (.aload_n 0, 1) := by decide +kernel
theorem dX4_readParties_9 : decode cX4_readParties 9 = .ok (.getfield 60, 3) := by decide +kernel
theorem dX4_readParties_12 : decode cX4_readParties 12 = .ok (.ifCond .lt 12, 3) := by decide +kernel
theorem dX4_readParties_15 : decode cX4_readParties 15 = .ok (.aload_n 0, 1) := by decide +kernel
theorem dX4_readParties_16 : decode cX4_readParties 16 = .ok (.bipush 62, 2) := by decide +kernel
theorem dX4_readParties_18 : decode cX4_readParties 18 = .ok (.invokevirtual 32, 3) := by decide +kernel
theorem dX4_readParties_21 : decode cX4_readParties 21 = .ok (.ifCond .ne 5, 3) := by decide +kernel
theorem dX4_readParties_24 : decode cX4_readParties 24 = .ok (.iconst 0, 1) := by decide +kernel
theorem dX4_readParties_25 : decode cX4_readParties 25 = .ok (.ireturn, 1) := by decide +kernel
theorem dX4_readParties_26 : decode cX4_readParties 26 = .ok (.aload_n 0, 1) := by decide +kernel
theorem dX4_readParties_27 : decode cX4_readParties 27 = .ok (.aload_n 0, 1) := by decide +kernel
theorem dX4_readParties_28 : decode cX4_readParties 28 = .ok (.bipush 45, 2) := by decide +kernel
theorem dX4_readParties_30 : decode cX4_readParties 30 = .ok (.invokevirtual 32, 3) := by decide +kernel
theorem dX4_readParties_33 : decode cX4_readParties 33 = .ok (.ifCond .eq 8, 3) := by decide +kernel
theorem dX4_readParties_36 : decode cX4_readParties 36 = .ok (.bipush 8, 2) := by decide +kernel
theorem dX4_readParties_38 : decode cX4_readParties 38 = .ok (.goto 7, 3) := by decide +kernel
theorem dX4_readParties_41 : decode cX4_readParties 41 = .ok (.aload_n 0, 1) := by decide +kernel
theorem dX4_readParties_42 : decode cX4_readParties 42 = .ok (.invokevirtual 57, 3) := by decide +kernel
theorem dX4_readParties_45 : decode cX4_readParties 45 = .ok (.putfield 63, 3) := by decide +kernel
theorem dX4_readParties_48 : decode cX4_readParties 48 = .ok (.aload_n 0, 1) := by decide +kernel
theorem dX4_readParties_49 : decode cX4_readParties 49 = .ok (.getfield 63, 3) := by decide +kernel
theorem dX4_readParties_52 : decode cX4_readParties 52 = .ok (.ifCond .lt 16, 3) := by decide +kernel
theorem dX4_readParties_55 : decode cX4_readParties 55 = .ok (.aload_n 0, 1) := by decide +kernel
theorem dX4_readParties_56 : decode cX4_readParties 56 = .ok (.bipush 42, 2) := by decide +kernel
theorem dX4_readParties_58 : decode cX4_readParties 58 = .ok (.invokevirtual 32, 3) := by decide +kernel
theorem dX4_readParties_61 : decode cX4_readParties 61 = .ok (.ifCond .eq 7, 3) := by decide +kernel
theorem dX4_readParties_64 : decode cX4_readParties 64 = .ok (.iconst 1, 1) := by decide +kernel
theorem dX4_readParties_65 : decode cX4_readParties 65 = .ok (.goto 4, 3) := by decide +kernel
theorem dX4_readParties_68 : decode cX4_readParties 68 = .ok (.iconst 0, 1) := by decide +kernel
theorem dX4_readParties_69 : decode cX4_readParties 69 = .ok (.ireturn, 1) := by decide +kernel
theorem dX4_readAmountAndDates_0 : decode cX4_readAmountAndDates 0 = .ok (.aload_n 0, 1) := by decide +kernel
theorem dX4_readAmountAndDates_1 : decode cX4_readAmountAndDates 1 = .ok (.aload_n 0, 1) := by decide +kernel
theorem dX4_readAmountAndDates_2 : decode cX4_readAmountAndDates 2 = .ok (.invokevirtual 50, 3) := by decide +kernel
theorem dX4_readAmountAndDates_5 : decode cX4_readAmountAndDates 5 = .ok (.putfield 54, 3) := by decide +kernel
theorem dX4_readAmountAndDates_8 : decode cX4_readAmountAndDates 8 = .ok (.aload_n 0, 1) := by decide +kernel
theorem dX4_readAmountAndDates_9 : decode cX4_readAmountAndDates 9 = .ok (.getfield 54, 3) := by decide +kernel
theorem dX4_readAmountAndDates_12 : decode cX4_readAmountAndDates 12 = .ok (.ifCond .ge 5, 3) := by decide +kernel
theorem dX4_readAmountAndDates_15 : decode cX4_readAmountAndDates 15 = .ok (.iconst 0, 1) := by decide +kernel
theorem dX4_readAmountAndDates_16 : decode cX4_readAmountAndDates 16 = .ok (.ireturn, 1) := by decide +kernel
theorem dX4_readAmountAndDates_17 : decode cX4_readAmountAndDates 17 = .ok (.aload_n 0, 1) := by decide +kernel
theorem dX4_readAmountAndDates_18 : decode cX4_readAmountAndDates 18 = .ok (.aload_n 0, 1) := by decide +kernel
theorem dX4_readAmountAndDates_19 : decode cX4_readAmountAndDates 19 = .ok (.ldc 66, 2) := by decide +kernel
theorem dX4_readAmountAndDates_21 : decode cX4_readAmountAndDates 21 = .ok (.invokevirtual 68, 3) := by decide +kernel
theorem dX4_readAmountAndDates_24 : decode cX4_readAmountAndDates 24 = .ok (.putfield 72, 3) := by decide +kernel
theorem dX4_readAmountAndDates_27 : decode cX4_readAmountAndDates 27 = .ok (.aload_n 0, 1) := by decide +kernel
theorem dX4_readAmountAndDates_28 : decode cX4_readAmountAndDates 28 = .ok (.getfield 72, 3) := by decide +kernel
theorem dX4_readAmountAndDates_31 : decode cX4_readAmountAndDates 31 = .ok (.ifCond .ge 5, 3) := by decide +kernel
theorem dX4_readAmountAndDates_34 : decode cX4_readAmountAndDates 34 = .ok (.iconst 0, 1) := by decide +kernel
theorem dX4_readAmountAndDates_35 : decode cX4_readAmountAndDates 35 = .ok (.ireturn, 1) := by decide +kernel
theorem dX4_readAmountAndDates_36 : decode cX4_readAmountAndDates 36 = .ok (.aload_n 0, 1) := by decide +kernel
theorem dX4_readAmountAndDates_37 : decode cX4_readAmountAndDates 37 = .ok (.aload_n 0, 1) := by decide +kernel
theorem dX4_readAmountAndDates_38 : decode cX4_readAmountAndDates 38 = .ok (.invokevirtual 50, 3) := by decide +kernel
theorem dX4_readAmountAndDates_41 : decode cX4_readAmountAndDates 41 = .ok (.putfield 75, 3) := by decide +kernel
theorem dX4_readAmountAndDates_44 : decode cX4_readAmountAndDates 44 = .ok (.aload_n 0, 1) := by decide +kernel
theorem dX4_readAmountAndDates_45 : decode cX4_readAmountAndDates 45 = .ok (.getfield 75, 3) := by decide +kernel
theorem dX4_readAmountAndDates_48 : decode cX4_readAmountAndDates 48 = .ok (.ifCond .ge 5, 3) := by decide +kernel
theorem dX4_readAmountAndDates_51 : decode cX4_readAmountAndDates 51 = .ok (.iconst 0, 1) := by decide +kernel
theorem dX4_readAmountAndDates_52 : decode cX4_readAmountAndDates 52 = .ok (.ireturn, 1) := by decide +kernel
theorem dX4_readAmountAndDates_53 : decode cX4_readAmountAndDates 53 = .ok (.aload_n 0, 1) := by decide +kernel
theorem dX4_readAmountAndDates_54 : decode cX4_readAmountAndDates 54 = .ok (.aload_n 0, 1) := by decide +kernel
theorem dX4_readAmountAndDates_55 : decode cX4_readAmountAndDates 55 = .ok (.bipush 47, 2) := by decide +kernel
theorem dX4_readAmountAndDates_57 : decode cX4_readAmountAndDates 57 = .ok (.invokevirtual 32, 3) := by decide +kernel
theorem dX4_readAmountAndDates_60 : decode cX4_readAmountAndDates 60 = .ok (.ifCond .eq 10, 3) := by decide +kernel
theorem dX4_readAmountAndDates_63 : decode cX4_readAmountAndDates 63 = .ok (.aload_n 0, 1) := by decide +kernel
theorem dX4_readAmountAndDates_64 : decode cX4_readAmountAndDates 64 = .ok (.invokevirtual 50, 3) := by decide +kernel
theorem dX4_readAmountAndDates_67 : decode cX4_readAmountAndDates 67 = .ok (.goto 4, 3) := by decide +kernel
theorem dX4_readAmountAndDates_70 : decode cX4_readAmountAndDates 70 = .ok (.iconst 1, 1) := by decide +kernel
theorem dX4_readAmountAndDates_71 : decode cX4_readAmountAndDates 71 = .ok (.putfield 78, 3) := by decide +kernel
theorem dX4_readAmountAndDates_74 : decode cX4_readAmountAndDates 74 = .ok (.aload_n 0, 1) := by decide +kernel
theorem dX4_readAmountAndDates_75 : decode cX4_readAmountAndDates 75 = .ok (.getfield 78, 3) := by decide +kernel
theorem dX4_readAmountAndDates_78 : decode cX4_readAmountAndDates 78 = .ok (.ifCond .ge 5, 3) := by decide +kernel
theorem dX4_readAmountAndDates_81 : decode cX4_readAmountAndDates 81 = .ok (.iconst 0, 1) := by decide +kernel
theorem dX4_readAmountAndDates_82 : decode cX4_readAmountAndDates 82 = .ok (.ireturn, 1) := by decide +kernel
theorem dX4_readAmountAndDates_83 : decode cX4_readAmountAndDates 83 = .ok (.aload_n 0, 1) := by decide +kernel
theorem dX4_readAmountAndDates_84 : decode cX4_readAmountAndDates 84 = .ok (.aload_n 0, 1) := by decide +kernel
theorem dX4_readAmountAndDates_85 : decode cX4_readAmountAndDates 85 = .ok (.ldc 81, 2) := by decide +kernel
theorem dX4_readAmountAndDates_87 : decode cX4_readAmountAndDates 87 = .ok (.invokevirtual 68, 3) := by decide +kernel
theorem dX4_readAmountAndDates_90 : decode cX4_readAmountAndDates 90 = .ok (.putfield 83, 3) := by decide +kernel
theorem dX4_readAmountAndDates_93 : decode cX4_readAmountAndDates 93 = .ok (.aload_n 0, 1) := by decide +kernel
theorem dX4_readAmountAndDates_94 : decode cX4_readAmountAndDates 94 = .ok (.getfield 83, 3) := by decide +kernel
theorem dX4_readAmountAndDates_97 : decode cX4_readAmountAndDates 97 = .ok (.ifCond .lt 7, 3) := by decide +kernel
theorem dX4_readAmountAndDates_100 : decode cX4_readAmountAndDates 100 = .ok (.iconst 1, 1) := by decide +kernel
theorem dX4_readAmountAndDates_101 : decode cX4_readAmountAndDates 101 = .ok (.goto 4, 3) := by decide +kernel
theorem dX4_readAmountAndDates_104 : decode cX4_readAmountAndDates 104 = .ok (.iconst 0, 1) := by decide +kernel
theorem dX4_readAmountAndDates_105 : decode cX4_readAmountAndDates 105 = .ok (.ireturn, 1) := by decide +kernel
theorem dX4_sign_0 : decode cX4_sign 0 = .ok (.aload_n 0, 1) := by decide +kernel
theorem dX4_sign_1 : decode cX4_sign 1 = .ok (.getfield 25, 3) := by decide +kernel
theorem dX4_sign_4 : decode cX4_sign 4 = .ok (.ifCond .lt 35, 3) := by decide +kernel
theorem dX4_sign_7 : decode cX4_sign 7 = .ok (.aload_n 0, 1) := by decide +kernel
theorem dX4_sign_8 : decode cX4_sign 8 = .ok (.getfield 25, 3) := by decide +kernel
theorem dX4_sign_11 : decode cX4_sign 11 = .ok (.aload_n 0, 1) := by decide +kernel
theorem dX4_sign_12 : decode cX4_sign 12 = .ok (.getfield 21, 3) := by decide +kernel
theorem dX4_sign_15 : decode cX4_sign 15 = .ok (.if_icmp .ge 24, 3) := by decide +kernel
theorem dX4_sign_18 : decode cX4_sign 18 = .ok (.aload_n 0, 1) := by decide +kernel
theorem dX4_sign_19 : decode cX4_sign 19 = .ok (.getfield 25, 3) := by decide +kernel
theorem dX4_sign_22 : decode cX4_sign 22 = .ok (.bipush 80, 2) := by decide +kernel
theorem dX4_sign_24 : decode cX4_sign 24 = .ok (.if_icmp .ge 15, 3) := by decide +kernel
theorem dX4_sign_27 : decode cX4_sign 27 = .ok (.aload_n 0, 1) := by decide +kernel
theorem dX4_sign_28 : decode cX4_sign 28 = .ok (.getfield 11, 3) := by decide +kernel
theorem dX4_sign_31 : decode cX4_sign 31 = .ok (.aload_n 0, 1) := by decide +kernel
theorem dX4_sign_32 : decode cX4_sign 32 = .ok (.getfield 25, 3) := by decide +kernel
theorem dX4_sign_35 : decode cX4_sign 35 = .ok (.caload, 1) := by decide +kernel
theorem dX4_sign_36 : decode cX4_sign 36 = .ok (.goto 4, 3) := by decide +kernel
theorem dX4_sign_39 : decode cX4_sign 39 = .ok (.iconst 0, 1) := by decide +kernel
theorem dX4_sign_40 : decode cX4_sign 40 = .ok (.ireturn, 1) := by decide +kernel
theorem dX4_takes_0 : decode cX4_takes 0 = .ok (.aload_n 0, 1) := by decide +kernel
theorem dX4_takes_1 : decode cX4_takes 1 = .ok (.invokevirtual 36, 3) := by decide +kernel
theorem dX4_takes_4 : decode cX4_takes 4 = .ok (.iload_n 1, 1) := by decide +kernel
theorem dX4_takes_5 : decode cX4_takes 5 = .ok (.if_icmp .eq 5, 3) := by decide +kernel
theorem dX4_takes_8 : decode cX4_takes 8 = .ok (.iconst 0, 1) := by decide +kernel
theorem dX4_takes_9 : decode cX4_takes 9 = .ok (.ireturn, 1) := by decide +kernel
theorem dX4_takes_10 : decode cX4_takes 10 = .ok (.aload_n 0, 1) := by decide +kernel
theorem dX4_takes_11 : decode cX4_takes 11 = .ok (.dup, 1) := by decide +kernel
theorem dX4_takes_12 : decode cX4_takes 12 = .ok (.getfield 25, 3) := by decide +kernel
theorem dX4_takes_15 : decode cX4_takes 15 = .ok (.iconst 1, 1) := by decide +kernel
theorem dX4_takes_16 : decode cX4_takes 16 = .ok (.iadd, 1) := by decide +kernel
theorem dX4_takes_17 : decode cX4_takes 17 = .ok (.putfield 25, 3) := by decide +kernel
theorem dX4_takes_20 : decode cX4_takes 20 = .ok (.iconst 1, 1) := by decide +kernel
theorem dX4_takes_21 : decode cX4_takes 21 = .ok (.ireturn, 1) := by decide +kernel
theorem dX4_readOneOf_0 : decode cX4_readOneOf 0 = .ok (.aload_n 1, 1) := by decide +kernel
theorem dX4_readOneOf_1 : decode cX4_readOneOf 1 = .ok (.aload_n 0, 1) := by decide +kernel
theorem dX4_readOneOf_2 : decode cX4_readOneOf 2 = .ok (.invokevirtual 36, 3) := by decide +kernel
theorem dX4_readOneOf_5 : decode cX4_readOneOf 5 = .ok (.invokevirtual 86, 3) := by decide +kernel
theorem dX4_readOneOf_8 : decode cX4_readOneOf 8 = .ok (.istore_n 2, 1) := by decide +kernel
theorem dX4_readOneOf_9 : decode cX4_readOneOf 9 = .ok (.iload_n 2, 1) := by decide +kernel
theorem dX4_readOneOf_10 : decode cX4_readOneOf 10 = .ok (.ifCond .lt 13, 3) := by decide +kernel
theorem dX4_readOneOf_13 : decode cX4_readOneOf 13 = .ok (.aload_n 0, 1) := by decide +kernel
theorem dX4_readOneOf_14 : decode cX4_readOneOf 14 = .ok (.dup, 1) := by decide +kernel
theorem dX4_readOneOf_15 : decode cX4_readOneOf 15 = .ok (.getfield 25, 3) := by decide +kernel
theorem dX4_readOneOf_18 : decode cX4_readOneOf 18 = .ok (.iconst 1, 1) := by decide +kernel
theorem dX4_readOneOf_19 : decode cX4_readOneOf 19 = .ok (.iadd, 1) := by decide +kernel
theorem dX4_readOneOf_20 : decode cX4_readOneOf 20 = .ok (.putfield 25, 3) := by decide +kernel
theorem dX4_readOneOf_23 : decode cX4_readOneOf 23 = .ok (.iload_n 2, 1) := by decide +kernel
theorem dX4_readOneOf_24 : decode cX4_readOneOf 24 = .ok (.ireturn, 1) := by decide +kernel
theorem dX4_readDigit_0 : decode cX4_readDigit 0 = .ok (.aload_n 0, 1) := by decide +kernel
theorem dX4_readDigit_1 : decode cX4_readDigit 1 = .ok (.ldc 92, 2) := by decide +kernel
theorem dX4_readDigit_3 : decode cX4_readDigit 3 = .ok (.invokevirtual 68, 3) := by decide +kernel
theorem dX4_readDigit_6 : decode cX4_readDigit 6 = .ok (.ireturn, 1) := by decide +kernel
theorem dX4_readNumber_0 : decode cX4_readNumber 0 = .ok (.aload_n 0, 1) := by decide +kernel
theorem dX4_readNumber_1 : decode cX4_readNumber 1 = .ok (.bipush 48, 2) := by decide +kernel
theorem dX4_readNumber_3 : decode cX4_readNumber 3 = .ok (.invokevirtual 32, 3) := by decide +kernel
theorem dX4_readNumber_6 : decode cX4_readNumber 6 = .ok (.ifCond .eq 5, 3) := by decide +kernel
theorem dX4_readNumber_9 : decode cX4_readNumber 9 = .ok (.iconst 0, 1) := by decide +kernel
theorem dX4_readNumber_10 : decode cX4_readNumber 10 = .ok (.ireturn, 1) := by decide +kernel
theorem dX4_readNumber_11 : decode cX4_readNumber 11 = .ok (.iconst 0, 1) := by decide +kernel
theorem dX4_readNumber_12 : decode cX4_readNumber 12 = .ok (.istore_n 1, 1) := by decide +kernel
theorem dX4_readNumber_13 : decode cX4_readNumber 13 = .ok (.iconst 0, 1) := by decide +kernel
theorem dX4_readNumber_14 : decode cX4_readNumber 14 = .ok (.istore_n 2, 1) := by decide +kernel
theorem dX4_readNumber_15 : decode cX4_readNumber 15 = .ok (.iload_n 2, 1) := by decide +kernel
theorem dX4_readNumber_16 : decode cX4_readNumber 16 = .ok (.iconst 5, 1) := by decide +kernel
theorem dX4_readNumber_17 : decode cX4_readNumber 17 = .ok (.if_icmp .ge 50, 3) := by decide +kernel
theorem dX4_readNumber_20 : decode cX4_readNumber 20 = .ok (.aload_n 0, 1) := by decide +kernel
theorem dX4_readNumber_21 : decode cX4_readNumber 21 = .ok (.invokevirtual 36, 3) := by decide +kernel
theorem dX4_readNumber_24 : decode cX4_readNumber 24 = .ok (.bipush 48, 2) := by decide +kernel
theorem dX4_readNumber_26 : decode cX4_readNumber 26 = .ok (.if_icmp .lt 41, 3) := by decide +kernel
theorem dX4_readNumber_29 : decode cX4_readNumber 29 = .ok (.aload_n 0, 1) := by decide +kernel
theorem dX4_readNumber_30 : decode cX4_readNumber 30 = .ok (.invokevirtual 36, 3) := by decide +kernel
theorem dX4_readNumber_33 : decode cX4_readNumber 33 = .ok (.bipush 57, 2) := by decide +kernel
theorem dX4_readNumber_35 : decode cX4_readNumber 35 = .ok (.if_icmp .gt 32, 3) := by decide +kernel
theorem dX4_readNumber_38 : decode cX4_readNumber 38 = .ok (.bipush 10, 2) := by decide +kernel
theorem dX4_readNumber_40 : decode cX4_readNumber 40 = .ok (.iload_n 1, 1) := by decide +kernel
theorem dX4_readNumber_41 : decode cX4_readNumber 41 = .ok (.imul, 1) := by decide +kernel
theorem dX4_readNumber_42 : decode cX4_readNumber 42 = .ok (.aload_n 0, 1) := by decide +kernel
theorem dX4_readNumber_43 : decode cX4_readNumber 43 = .ok (.invokevirtual 36, 3) := by decide +kernel
theorem dX4_readNumber_46 : decode cX4_readNumber 46 = .ok (.bipush 48, 2) := by decide +kernel
theorem dX4_readNumber_48 : decode cX4_readNumber 48 = .ok (.isub, 1) := by decide +kernel
theorem dX4_readNumber_49 : decode cX4_readNumber 49 = .ok (.iadd, 1) := by decide +kernel
theorem dX4_readNumber_50 : decode cX4_readNumber 50 = .ok (.istore_n 1, 1) := by decide +kernel
theorem dX4_readNumber_51 : decode cX4_readNumber 51 = .ok (.aload_n 0, 1) := by decide +kernel
theorem dX4_readNumber_52 : decode cX4_readNumber 52 = .ok (.dup, 1) := by decide +kernel
theorem dX4_readNumber_53 : decode cX4_readNumber 53 = .ok (.getfield 25, 3) := by decide +kernel
theorem dX4_readNumber_56 : decode cX4_readNumber 56 = .ok (.iconst 1, 1) := by decide +kernel
theorem dX4_readNumber_57 : decode cX4_readNumber 57 = .ok (.iadd, 1) := by decide +kernel
theorem dX4_readNumber_58 : decode cX4_readNumber 58 = .ok (.putfield 25, 3) := by decide +kernel
theorem dX4_readNumber_61 : decode cX4_readNumber 61 = .ok (.iinc 2 1, 3) := by decide +kernel
theorem dX4_readNumber_64 : decode cX4_readNumber 64 = .ok (.goto (-49), 3) := by decide +kernel
theorem dX4_readNumber_67 : decode cX4_readNumber 67 = .ok (.iload_n 2, 1) := by decide +kernel
theorem dX4_readNumber_68 : decode cX4_readNumber 68 = .ok (.ifCond .ne 7, 3) := by decide +kernel
theorem dX4_readNumber_71 : decode cX4_readNumber 71 = .ok (.iconst (-1), 1) := by decide +kernel
theorem dX4_readNumber_72 : decode cX4_readNumber 72 = .ok (.goto 4, 3) := by decide +kernel
theorem dX4_readNumber_75 : decode cX4_readNumber 75 = .ok (.iload_n 1, 1) := by decide +kernel
theorem dX4_readNumber_76 : decode cX4_readNumber 76 = .ok (.ireturn, 1) := by decide +kernel
theorem dX5_init_0 : decode cX5_init 0 = .ok (.aload_n 0, 1) := by decide +kernel
theorem dX5_init_1 : decode cX5_init 1 = .ok (.invokespecial 3, 3) := by decide +kernel
theorem dX5_init_4 : decode cX5_init 4 = .ok (.aload_n 0, 1) := by decide +kernel
theorem dX5_init_5 : decode cX5_init 5 = .ok (.iconst 5, 1) := by decide +kernel
theorem dX5_init_6 : decode cX5_init 6 = .ok (.bipush 64, 2) := by decide +kernel
theorem dX5_init_8 : decode cX5_init 8 = .ok (.multianewarray 11 2, 4) := by decide +kernel
theorem dX5_init_12 : decode cX5_init 12 = .ok (.putfield 13, 3) := by decide +kernel
theorem dX5_init_15 : decode cX5_init 15 = .ok (.aload_n 0, 1) := by decide +kernel
theorem dX5_init_16 : decode cX5_init 16 = .ok (.bipush 64, 2) := by decide +kernel
theorem dX5_init_18 : decode cX5_init 18 = .ok (.putfield 16, 3) := by decide +kernel
theorem dX5_init_21 : decode cX5_init 21 = .ok (.return_, 1) := by decide +kernel
theorem dX5_copyFrom_0 : decode cX5_copyFrom 0 = .ok (.aload_n 0, 1) := by decide +kernel
theorem dX5_copyFrom_1 : decode cX5_copyFrom 1 = .ok (.getfield 16, 3) := by decide +kernel
theorem dX5_copyFrom_4 : decode cX5_copyFrom 4 = .ok (.aload_n 1, 1) := by decide +kernel
theorem dX5_copyFrom_5 : decode cX5_copyFrom 5 = .ok (.getfield 20, 3) := by decide +kernel
theorem dX5_copyFrom_8 : decode cX5_copyFrom 8 = .ok (.if_icmp .ge 11, 3) := by decide +kernel
theorem dX5_copyFrom_11 : decode cX5_copyFrom 11 = .ok (.aload_n 0, 1) := by decide +kernel
theorem dX5_copyFrom_12 : decode cX5_copyFrom 12 = .ok (.aload_n 1, 1) := by decide +kernel
theorem dX5_copyFrom_13 : decode cX5_copyFrom 13 = .ok (.getfield 16, 3) := by decide +kernel
theorem dX5_copyFrom_16 : decode cX5_copyFrom 16 = .ok (.invokevirtual 23, 3) := by decide +kernel
theorem dX5_copyFrom_19 : decode cX5_copyFrom 19 = .ok (.iconst 0, 1) := by decide +kernel
theorem dX5_copyFrom_20 : decode cX5_copyFrom 20 = .ok (.istore_n 2, 1) := by decide +kernel
theorem dX5_copyFrom_21 : decode cX5_copyFrom 21 = .ok (.iload_n 2, 1) := by decide +kernel
theorem dX5_copyFrom_22 : decode cX5_copyFrom 22 = .ok (.iconst 5, 1) := by decide +kernel
theorem dX5_copyFrom_23 : decode cX5_copyFrom 23 = .ok (.if_icmp .ge 30, 3) := by decide +kernel
theorem dX5_copyFrom_26 : decode cX5_copyFrom 26 = .ok (.aload_n 1, 1) := by decide +kernel
theorem dX5_copyFrom_27 : decode cX5_copyFrom 27 = .ok (.getfield 13, 3) := by decide +kernel
theorem dX5_copyFrom_30 : decode cX5_copyFrom 30 = .ok (.iload_n 2, 1) := by decide +kernel
theorem dX5_copyFrom_31 : decode cX5_copyFrom 31 = .ok (.aaload, 1) := by decide +kernel
theorem dX5_copyFrom_32 : decode cX5_copyFrom 32 = .ok (.iconst 0, 1) := by decide +kernel
theorem dX5_copyFrom_33 : decode cX5_copyFrom 33 = .ok (.aload_n 0, 1) := by decide +kernel
theorem dX5_copyFrom_34 : decode cX5_copyFrom 34 = .ok (.getfield 13, 3) := by decide +kernel
theorem dX5_copyFrom_37 : decode cX5_copyFrom 37 = .ok (.iload_n 2, 1) := by decide +kernel
theorem dX5_copyFrom_38 : decode cX5_copyFrom 38 = .ok (.aaload, 1) := by decide +kernel
theorem dX5_copyFrom_39 : decode cX5_copyFrom 39 = .ok (.iconst 0, 1) := by decide +kernel
theorem dX5_copyFrom_40 : decode cX5_copyFrom 40 = .ok (.aload_n 1, 1) := by decide +kernel
theorem dX5_copyFrom_41 : decode cX5_copyFrom 41 = .ok (.getfield 20, 3) := by decide +kernel
theorem dX5_copyFrom_44 : decode cX5_copyFrom 44 = .ok (.invokestatic 27, 3) := by decide +kernel
theorem dX5_copyFrom_47 : decode cX5_copyFrom 47 = .ok (.iinc 2 1, 3) := by decide +kernel
theorem dX5_copyFrom_50 : decode cX5_copyFrom 50 = .ok (.goto (-29), 3) := by decide +kernel
theorem dX5_copyFrom_53 : decode cX5_copyFrom 53 = .ok (.aload_n 0, 1) := by decide +kernel
theorem dX5_copyFrom_54 : decode cX5_copyFrom 54 = .ok (.aload_n 1, 1) := by decide +kernel
theorem dX5_copyFrom_55 : decode cX5_copyFrom 55 = .ok (.getfield 20, 3) := by decide +kernel
theorem dX5_copyFrom_58 : decode cX5_copyFrom 58 = .ok (.putfield 20, 3) := by decide +kernel
theorem dX5_copyFrom_61 : decode cX5_copyFrom 61 = .ok (.return_, 1) := by decide +kernel
theorem dX5_makeRoom_0 : decode cX5_makeRoom 0 = .ok (.iload_n 1, 1) := by decide +kernel
theorem dX5_makeRoom_1 : decode cX5_makeRoom 1 = .ok (.aload_n 0, 1) := by decide +kernel
theorem dX5_makeRoom_2 : decode cX5_makeRoom 2 = .ok (.getfield 16, 3) := by decide +kernel
theorem dX5_makeRoom_5 : decode cX5_makeRoom 5 = .ok (.if_icmp .gt 4, 3) := by decide +kernel
theorem dX5_makeRoom_8 : decode cX5_makeRoom 8 = .ok (.return_, 1) := by decide +kernel
theorem dX5_makeRoom_9 : decode cX5_makeRoom 9 = .ok (.iconst 0, 1) := by decide +kernel
theorem dX5_makeRoom_10 : decode cX5_makeRoom 10 = .ok (.istore_n 2, 1) := by decide +kernel
theorem dX5_makeRoom_11 : decode cX5_makeRoom 11 = .ok (.iload_n 2, 1) := by decide +kernel
theorem dX5_makeRoom_12 : decode cX5_makeRoom 12 = .ok (.iconst 5, 1) := by decide +kernel
theorem dX5_makeRoom_13 : decode cX5_makeRoom 13 = .ok (.if_icmp .ge 25, 3) := by decide +kernel
theorem dX5_makeRoom_16 : decode cX5_makeRoom 16 = .ok (.aload_n 0, 1) := by decide +kernel
theorem dX5_makeRoom_17 : decode cX5_makeRoom 17 = .ok (.getfield 13, 3) := by decide +kernel
theorem dX5_makeRoom_20 : decode cX5_makeRoom 20 = .ok (.iload_n 2, 1) := by decide +kernel
theorem dX5_makeRoom_21 : decode cX5_makeRoom 21 = .ok (.aload_n 0, 1) := by decide +kernel
theorem dX5_makeRoom_22 : decode cX5_makeRoom 22 = .ok (.getfield 13, 3) := by decide +kernel
theorem dX5_makeRoom_25 : decode cX5_makeRoom 25 = .ok (.iload_n 2, 1) := by decide +kernel
theorem dX5_makeRoom_26 : decode cX5_makeRoom 26 = .ok (.aaload, 1) := by decide +kernel
theorem dX5_makeRoom_27 : decode cX5_makeRoom 27 = .ok (.iload_n 1, 1) := by decide +kernel
theorem dX5_makeRoom_28 : decode cX5_makeRoom 28 = .ok (.invokestatic 33, 3) := by decide +kernel
theorem dX5_makeRoom_31 : decode cX5_makeRoom 31 = .ok (.aastore, 1) := by decide +kernel
theorem dX5_makeRoom_32 : decode cX5_makeRoom 32 = .ok (.iinc 2 1, 3) := by decide +kernel
theorem dX5_makeRoom_35 : decode cX5_makeRoom 35 = .ok (.goto (-24), 3) := by decide +kernel
theorem dX5_makeRoom_38 : decode cX5_makeRoom 38 = .ok (.aload_n 0, 1) := by decide +kernel
theorem dX5_makeRoom_39 : decode cX5_makeRoom 39 = .ok (.iload_n 1, 1) := by decide +kernel
theorem dX5_makeRoom_40 : decode cX5_makeRoom 40 = .ok (.putfield 16, 3) := by decide +kernel
theorem dX5_makeRoom_43 : decode cX5_makeRoom 43 = .ok (.return_, 1) := by decide +kernel
theorem dX5_add_0 : decode cX5_add 0 = .ok (.aload_n 0, 1) := by decide +kernel
theorem dX5_add_1 : decode cX5_add 1 = .ok (.getfield 20, 3) := by decide +kernel
theorem dX5_add_4 : decode cX5_add 4 = .ok (.sipush 17520, 3) := by decide +kernel
theorem dX5_add_7 : decode cX5_add 7 = .ok (.if_icmp .lt 5, 3) := by decide +kernel
theorem dX5_add_10 : decode cX5_add 10 = .ok (.iconst 0, 1) := by decide +kernel
theorem dX5_add_11 : decode cX5_add 11 = .ok (.ireturn, 1) := by decide +kernel
theorem dX5_add_12 : decode cX5_add 12 = .ok (.aload_n 0, 1) := by decide +kernel
theorem dX5_add_13 : decode cX5_add 13 = .ok (.getfield 20, 3) := by decide +kernel
theorem dX5_add_16 : decode cX5_add 16 = .ok (.aload_n 0, 1) := by decide +kernel
theorem dX5_add_17 : decode cX5_add 17 = .ok (.getfield 16, 3) := by decide +kernel
theorem dX5_add_20 : decode cX5_add 20 = .ok (.if_icmp .lt 19, 3) := by decide +kernel
theorem dX5_add_23 : decode cX5_add 23 = .ok (.aload_n 0, 1) := by decide +kernel
theorem dX5_add_24 : decode cX5_add 24 = .ok (.iconst 2, 1) := by decide +kernel
theorem dX5_add_25 : decode cX5_add 25 = .ok (.aload_n 0, 1) := by decide +kernel
theorem dX5_add_26 : decode cX5_add 26 = .ok (.getfield 16, 3) := by decide +kernel
theorem dX5_add_29 : decode cX5_add 29 = .ok (.imul, 1) := by decide +kernel
theorem dX5_add_30 : decode cX5_add 30 = .ok (.sipush 17520, 3) := by decide +kernel
theorem dX5_add_33 : decode cX5_add 33 = .ok (.invokestatic 39, 3) := by decide +kernel
theorem dX5_add_36 : decode cX5_add 36 = .ok (.invokevirtual 23, 3) := by decide +kernel
theorem dX5_add_39 : decode cX5_add 39 = .ok (.aload_n 0, 1) := by decide +kernel
theorem dX5_add_40 : decode cX5_add 40 = .ok (.getfield 13, 3) := by decide +kernel
theorem dX5_add_43 : decode cX5_add 43 = .ok (.iconst 0, 1) := by decide +kernel
theorem dX5_add_44 : decode cX5_add 44 = .ok (.aaload, 1) := by decide +kernel
theorem dX5_add_45 : decode cX5_add 45 = .ok (.aload_n 0, 1) := by decide +kernel
theorem dX5_add_46 : decode cX5_add 46 = .ok (.getfield 20, 3) := by decide +kernel
theorem dX5_add_49 : decode cX5_add 49 = .ok (.iload_n 1, 1) := by decide +kernel
theorem dX5_add_50 : decode cX5_add 50 = .ok (.iastore, 1) := by decide +kernel
theorem dX5_add_51 : decode cX5_add 51 = .ok (.aload_n 0, 1) := by decide +kernel
theorem dX5_add_52 : decode cX5_add 52 = .ok (.getfield 13, 3) := by decide +kernel
theorem dX5_add_55 : decode cX5_add 55 = .ok (.iconst 1, 1) := by decide +kernel
theorem dX5_add_56 : decode cX5_add 56 = .ok (.aaload, 1) := by decide +kernel
theorem dX5_add_57 : decode cX5_add 57 = .ok (.aload_n 0, 1) := by decide +kernel
theorem dX5_add_58 : decode cX5_add 58 = .ok (.getfield 20, 3) := by decide +kernel
theorem dX5_add_61 : decode cX5_add 61 = .ok (.iload_n 2, 1) := by decide +kernel
theorem dX5_add_62 : decode cX5_add 62 = .ok (.iastore, 1) := by decide +kernel
theorem dX5_add_63 : decode cX5_add 63 = .ok (.aload_n 0, 1) := by decide +kernel
theorem dX5_add_64 : decode cX5_add 64 = .ok (.getfield 13, 3) := by decide +kernel
theorem dX5_add_67 : decode cX5_add 67 = .ok (.iconst 2, 1) := by decide +kernel
theorem dX5_add_68 : decode cX5_add 68 = .ok (.aaload, 1) := by decide +kernel
theorem dX5_add_69 : decode cX5_add 69 = .ok (.aload_n 0, 1) := by decide +kernel
theorem dX5_add_70 : decode cX5_add 70 = .ok (.getfield 20, 3) := by decide +kernel
theorem dX5_add_73 : decode cX5_add 73 = .ok (.iload_n 3, 1) := by decide +kernel
theorem dX5_add_74 : decode cX5_add 74 = .ok (.iastore, 1) := by decide +kernel
theorem dX5_add_75 : decode cX5_add 75 = .ok (.aload_n 0, 1) := by decide +kernel
theorem dX5_add_76 : decode cX5_add 76 = .ok (.getfield 13, 3) := by decide +kernel
theorem dX5_add_79 : decode cX5_add 79 = .ok (.iconst 3, 1) := by decide +kernel
theorem dX5_add_80 : decode cX5_add 80 = .ok (.aaload, 1) := by decide +kernel
theorem dX5_add_81 : decode cX5_add 81 = .ok (.aload_n 0, 1) := by decide +kernel
theorem dX5_add_82 : decode cX5_add 82 = .ok (.getfield 20, 3) := by decide +kernel
theorem dX5_add_85 : decode cX5_add 85 = .ok (.iload 4, 2) := by decide +kernel
theorem dX5_add_87 : decode cX5_add 87 = .ok (.iastore, 1) := by decide +kernel
theorem dX5_add_88 : decode cX5_add 88 = .ok (.aload_n 0, 1) := by decide +kernel
theorem dX5_add_89 : decode cX5_add 89 = .ok (.getfield 13, 3) := by decide +kernel
theorem dX5_add_92 : decode cX5_add 92 = .ok (.iconst 4, 1) := by decide +kernel
theorem dX5_add_93 : decode cX5_add 93 = .ok (.aaload, 1) := by decide +kernel
theorem dX5_add_94 : decode cX5_add 94 = .ok (.aload_n 0, 1) := by decide +kernel
theorem dX5_add_95 : decode cX5_add 95 = .ok (.getfield 20, 3) := by decide +kernel
theorem dX5_add_98 : decode cX5_add 98 = .ok (.iconst 0, 1) := by decide +kernel
theorem dX5_add_99 : decode cX5_add 99 = .ok (.iastore, 1) := by decide +kernel
theorem dX5_add_100 : decode cX5_add 100 = .ok (.aload_n 0, 1) := by decide +kernel
theorem dX5_add_101 : decode cX5_add 101 = .ok (.dup, 1) := by decide +kernel
theorem dX5_add_102 : decode cX5_add 102 = .ok (.getfield 20, 3) := by decide +kernel
theorem dX5_add_105 : decode cX5_add 105 = .ok (.iconst 1, 1) := by decide +kernel
theorem dX5_add_106 : decode cX5_add 106 = .ok (.iadd, 1) := by decide +kernel
theorem dX5_add_107 : decode cX5_add 107 = .ok (.putfield 20, 3) := by decide +kernel
theorem dX5_add_110 : decode cX5_add 110 = .ok (.iconst 1, 1) := by decide +kernel
theorem dX5_add_111 : decode cX5_add 111 = .ok (.ireturn, 1) := by decide +kernel
theorem dX5_dropSettled_0 : decode cX5_dropSettled 0 = .ok (.iconst 0, 1) := by decide +kernel
theorem dX5_dropSettled_1 : decode cX5_dropSettled 1 = .ok (.istore_n 1, 1) := by decide +kernel
theorem dX5_dropSettled_2 : decode cX5_dropSettled 2 = .ok (.iconst 0, 1) := by decide +kernel
theorem dX5_dropSettled_3 : decode cX5_dropSettled 3 = .ok (.istore_n 2, 1) := by decide +kernel
theorem dX5_dropSettled_4 : decode cX5_dropSettled 4 = .ok (.iload_n 2, 1) := by decide +kernel
theorem dX5_dropSettled_5 : decode cX5_dropSettled 5 = .ok (.aload_n 0, 1) := by decide +kernel
theorem dX5_dropSettled_6 : decode cX5_dropSettled 6 = .ok (.getfield 20, 3) := by decide +kernel
theorem dX5_dropSettled_9 : decode cX5_dropSettled 9 = .ok (.if_icmp .ge 55, 3) := by decide +kernel
theorem dX5_dropSettled_12 : decode cX5_dropSettled 12 = .ok (.aload_n 0, 1) := by decide +kernel
theorem dX5_dropSettled_13 : decode cX5_dropSettled 13 = .ok (.getfield 13, 3) := by decide +kernel
theorem dX5_dropSettled_16 : decode cX5_dropSettled 16 = .ok (.iconst 1, 1) := by decide +kernel
theorem dX5_dropSettled_17 : decode cX5_dropSettled 17 = .ok (.aaload, 1) := by decide +kernel
theorem dX5_dropSettled_18 : decode cX5_dropSettled 18 = .ok (.iload_n 2, 1) := by decide +kernel
theorem dX5_dropSettled_19 : decode cX5_dropSettled 19 = .ok (.iaload, 1) := by decide +kernel
theorem dX5_dropSettled_20 : decode cX5_dropSettled 20 = .ok (.ifCond .ne 6, 3) := by decide +kernel
theorem dX5_dropSettled_23 : decode cX5_dropSettled 23 = .ok (.goto 35, 3) := by decide +kernel
theorem dX5_dropSettled_26 : decode cX5_dropSettled 26 = .ok (.iconst 0, 1) := by decide +kernel
theorem dX5_dropSettled_27 : decode cX5_dropSettled 27 = .ok (.istore_n 3, 1) := by decide +kernel
theorem dX5_dropSettled_28 : decode cX5_dropSettled 28 = .ok (.iload_n 3, 1) := by decide +kernel
theorem dX5_dropSettled_29 : decode cX5_dropSettled 29 = .ok (.iconst 5, 1) := by decide +kernel
theorem dX5_dropSettled_30 : decode cX5_dropSettled 30 = .ok (.if_icmp .ge 25, 3) := by decide +kernel
theorem dX5_dropSettled_33 : decode cX5_dropSettled 33 = .ok (.aload_n 0, 1) := by decide +kernel
theorem dX5_dropSettled_34 : decode cX5_dropSettled 34 = .ok (.getfield 13, 3) := by decide +kernel
theorem dX5_dropSettled_37 : decode cX5_dropSettled 37 = .ok (.iload_n 3, 1) := by decide +kernel
theorem dX5_dropSettled_38 : decode cX5_dropSettled 38 = .ok (.aaload, 1) := by decide +kernel
theorem dX5_dropSettled_39 : decode cX5_dropSettled 39 = .ok (.iload_n 1, 1) := by decide +kernel
theorem dX5_dropSettled_40 : decode cX5_dropSettled 40 = .ok (.aload_n 0, 1) := by decide +kernel
theorem dX5_dropSettled_41 : decode cX5_dropSettled 41 = .ok (.getfield 13, 3) := by decide +kernel
theorem dX5_dropSettled_44 : decode cX5_dropSettled 44 = .ok (.iload_n 3, 1) := by decide +kernel
theorem dX5_dropSettled_45 : decode cX5_dropSettled 45 = .ok (.aaload, 1) := by decide +kernel
theorem dX5_dropSettled_46 : decode cX5_dropSettled 46 = .ok (.iload_n 2, 1) := by decide +kernel
theorem dX5_dropSettled_47 : decode cX5_dropSettled 47 = .ok (.iaload, 1) := by decide +kernel
theorem dX5_dropSettled_48 : decode cX5_dropSettled 48 = .ok (.iastore, 1) := by decide +kernel
theorem dX5_dropSettled_49 : decode cX5_dropSettled 49 = .ok (.iinc 3 1, 3) := by decide +kernel
theorem dX5_dropSettled_52 : decode cX5_dropSettled 52 = .ok (.goto (-24), 3) := by decide +kernel
theorem dX5_dropSettled_55 : decode cX5_dropSettled 55 = .ok (.iinc 1 1, 3) := by decide +kernel
theorem dX5_dropSettled_58 : decode cX5_dropSettled 58 = .ok (.iinc 2 1, 3) := by decide +kernel
theorem dX5_dropSettled_61 : decode cX5_dropSettled 61 = .ok (.goto (-57), 3) := by decide +kernel
theorem dX5_dropSettled_64 : decode cX5_dropSettled 64 = .ok (.aload_n 0, 1) := by decide +kernel
theorem dX5_dropSettled_65 : decode cX5_dropSettled 65 = .ok (.iload_n 1, 1) := by decide +kernel
theorem dX5_dropSettled_66 : decode cX5_dropSettled 66 = .ok (.putfield 20, 3) := by decide +kernel
theorem dX5_dropSettled_69 : decode cX5_dropSettled 69 = .ok (.return_, 1) := by decide +kernel
theorem dX6_init_0 : decode cX6_init 0 = .ok (.aload_n 0, 1) := by decide +kernel
theorem dX6_init_1 : decode cX6_init 1 = .ok (.invokespecial 3, 3) := by decide +kernel
theorem dX6_init_4 : decode cX6_init 4 = .ok (.aload_n 0, 1) := by decide +kernel
theorem dX6_init_5 : decode cX6_init 5 = .ok (.new 9, 3) := by decide +kernel
theorem dX6_init_8 : decode cX6_init 8 = .ok (.dup, 1) := by decide +kernel
theorem dX6_init_9 : decode cX6_init 9 = .ok (.invokespecial 11, 3) := by decide +kernel
theorem dX6_init_12 : decode cX6_init 12 = .ok (.putfield 12, 3) := by decide +kernel
theorem dX6_init_15 : decode cX6_init 15 = .ok (.aload_n 0, 1) := by decide +kernel
theorem dX6_init_16 : decode cX6_init 16 = .ok (.new 9, 3) := by decide +kernel
theorem dX6_init_19 : decode cX6_init 19 = .ok (.dup, 1) := by decide +kernel
theorem dX6_init_20 : decode cX6_init 20 = .ok (.invokespecial 11, 3) := by decide +kernel
theorem dX6_init_23 : decode cX6_init 23 = .ok (.putfield 16, 3) := by decide +kernel
theorem dX6_init_26 : decode cX6_init 26 = .ok (.aload_n 0, 1) := by decide +kernel
theorem dX6_init_27 : decode cX6_init 27 = .ok (.bipush 7, 2) := by decide +kernel
theorem dX6_init_29 : decode cX6_init 29 = .ok (.anewarray 9, 3) := by decide +kernel
theorem dX6_init_32 : decode cX6_init 32 = .ok (.putfield 19, 3) := by decide +kernel
theorem dX6_init_35 : decode cX6_init 35 = .ok (.aload_n 0, 1) := by decide +kernel
theorem dX6_init_36 : decode cX6_init 36 = .ok (.iconst 2, 1) := by decide +kernel
theorem dX6_init_37 : decode cX6_init 37 = .ok (.anewarray 9, 3) := by decide +kernel
theorem dX6_init_40 : decode cX6_init 40 = .ok (.putfield 23, 3) := by decide +kernel
theorem dX6_init_43 : decode cX6_init 43 = .ok (.aload_n 0, 1) := by decide +kernel
theorem dX6_init_44 : decode cX6_init 44 = .ok (.iconst 2, 1) := by decide +kernel
theorem dX6_init_45 : decode cX6_init 45 = .ok (.newarray .boolean, 2) := by decide +kernel
theorem dX6_init_47 : decode cX6_init 47 = .ok (.putfield 26, 3) := by decide +kernel
theorem dX6_init_50 : decode cX6_init 50 = .ok (.aload_n 0, 1) := by decide +kernel
theorem dX6_init_51 : decode cX6_init 51 = .ok (.new 30, 3) := by decide +kernel
theorem dX6_init_54 : decode cX6_init 54 = .ok (.dup, 1) := by decide +kernel
theorem dX6_init_55 : decode cX6_init 55 = .ok (.invokespecial 32, 3) := by decide +kernel
theorem dX6_init_58 : decode cX6_init 58 = .ok (.putfield 33, 3) := by decide +kernel
theorem dX6_init_61 : decode cX6_init 61 = .ok (.iconst 0, 1) := by decide +kernel
theorem dX6_init_62 : decode cX6_init 62 = .ok (.istore_n 1, 1) := by decide +kernel
theorem dX6_init_63 : decode cX6_init 63 = .ok (.iload_n 1, 1) := by decide +kernel
theorem dX6_init_64 : decode cX6_init 64 = .ok (.bipush 7, 2) := by decide +kernel
theorem dX6_init_66 : decode cX6_init 66 = .ok (.if_icmp .ge 22, 3) := by decide +kernel
theorem dX6_init_69 : decode cX6_init 69 = .ok (.aload_n 0, 1) := by decide +kernel
theorem dX6_init_70 : decode cX6_init 70 = .ok (.getfield 19, 3) := by decide +kernel
theorem dX6_init_73 : decode cX6_init 73 = .ok (.iload_n 1, 1) := by decide +kernel
theorem dX6_init_74 : decode cX6_init 74 = .ok (.new 9, 3) := by decide +kernel
theorem dX6_init_77 : decode cX6_init 77 = .ok (.dup, 1) := by decide +kernel
theorem dX6_init_78 : decode cX6_init 78 = .ok (.invokespecial 11, 3) := by decide +kernel
theorem dX6_init_81 : decode cX6_init 81 = .ok (.aastore, 1) := by decide +kernel
theorem dX6_init_82 : decode cX6_init 82 = .ok (.iinc 1 1, 3) := by decide +kernel
theorem dX6_init_85 : decode cX6_init 85 = .ok (.goto (-22), 3) := by decide +kernel
theorem dX6_init_88 : decode cX6_init 88 = .ok (.iconst 0, 1) := by decide +kernel
theorem dX6_init_89 : decode cX6_init 89 = .ok (.istore_n 1, 1) := by decide +kernel
theorem dX6_init_90 : decode cX6_init 90 = .ok (.iload_n 1, 1) := by decide +kernel
theorem dX6_init_91 : decode cX6_init 91 = .ok (.iconst 2, 1) := by decide +kernel
theorem dX6_init_92 : decode cX6_init 92 = .ok (.if_icmp .ge 22, 3) := by decide +kernel
theorem dX6_init_95 : decode cX6_init 95 = .ok (.aload_n 0, 1) := by decide +kernel
theorem dX6_init_96 : decode cX6_init 96 = .ok (.getfield 23, 3) := by decide +kernel
theorem dX6_init_99 : decode cX6_init 99 = .ok (.iload_n 1, 1) := by decide +kernel
theorem dX6_init_100 : decode cX6_init 100 = .ok (.new 9, 3) := by decide +kernel
theorem dX6_init_103 : decode cX6_init 103 = .ok (.dup, 1) := by decide +kernel
theorem dX6_init_104 : decode cX6_init 104 = .ok (.invokespecial 11, 3) := by decide +kernel
theorem dX6_init_107 : decode cX6_init 107 = .ok (.aastore, 1) := by decide +kernel
theorem dX6_init_108 : decode cX6_init 108 = .ok (.iinc 1 1, 3) := by decide +kernel
theorem dX6_init_111 : decode cX6_init 111 = .ok (.goto (-21), 3) := by decide +kernel
theorem dX6_init_114 : decode cX6_init 114 = .ok (.return_, 1) := by decide +kernel
theorem dX6_set_0 : decode cX6_set 0 = .ok (.aload_n 0, 1) := by decide +kernel
theorem dX6_set_1 : decode cX6_set 1 = .ok (.invokevirtual 37, 3) := by decide +kernel
theorem dX6_set_4 : decode cX6_set 4 = .ok (.aload_n 0, 1) := by decide +kernel
theorem dX6_set_5 : decode cX6_set 5 = .ok (.aload_n 0, 1) := by decide +kernel
theorem dX6_set_6 : decode cX6_set 6 = .ok (.getfield 12, 3) := by decide +kernel
theorem dX6_set_9 : decode cX6_set 9 = .ok (.iload_n 1, 1) := by decide +kernel
theorem dX6_set_10 : decode cX6_set 10 = .ok (.iload_n 2, 1) := by decide +kernel
theorem dX6_set_11 : decode cX6_set 11 = .ok (.invokevirtual 40, 3) := by decide +kernel
theorem dX6_set_14 : decode cX6_set 14 = .ok (.invokevirtual 44, 3) := by decide +kernel
theorem dX6_set_17 : decode cX6_set 17 = .ok (.ireturn, 1) := by decide +kernel
theorem dX6_holiday_0 : decode cX6_holiday 0 = .ok (.aload_n 0, 1) := by decide +kernel
theorem dX6_holiday_1 : decode cX6_holiday 1 = .ok (.invokevirtual 37, 3) := by decide +kernel
theorem dX6_holiday_4 : decode cX6_holiday 4 = .ok (.aload_n 0, 1) := by decide +kernel
theorem dX6_holiday_5 : decode cX6_holiday 5 = .ok (.aload_n 0, 1) := by decide +kernel
theorem dX6_holiday_6 : decode cX6_holiday 6 = .ok (.getfield 12, 3) := by decide +kernel
theorem dX6_holiday_9 : decode cX6_holiday 9 = .ok (.getfield 48, 3) := by decide +kernel
theorem dX6_holiday_12 : decode cX6_holiday 12 = .ok (.iload_n 1, 1) := by decide +kernel
theorem dX6_holiday_13 : decode cX6_holiday 13 = .ok (.iload_n 2, 1) := by decide +kernel
theorem dX6_holiday_14 : decode cX6_holiday 14 = .ok (.invokevirtual 52, 3) := by decide +kernel
theorem dX6_holiday_17 : decode cX6_holiday 17 = .ok (.invokevirtual 44, 3) := by decide +kernel
theorem dX6_holiday_20 : decode cX6_holiday 20 = .ok (.ireturn, 1) := by decide +kernel
theorem dX6_account_0 : decode cX6_account 0 = .ok (.aload_n 0, 1) := by decide +kernel
theorem dX6_account_1 : decode cX6_account 1 = .ok (.invokevirtual 37, 3) := by decide +kernel
theorem dX6_account_4 : decode cX6_account 4 = .ok (.aload_n 0, 1) := by decide +kernel
theorem dX6_account_5 : decode cX6_account 5 = .ok (.aload_n 0, 1) := by decide +kernel
theorem dX6_account_6 : decode cX6_account 6 = .ok (.getfield 12, 3) := by decide +kernel
theorem dX6_account_9 : decode cX6_account 9 = .ok (.iload_n 1, 1) := by decide +kernel
theorem dX6_account_10 : decode cX6_account 10 = .ok (.iload_n 2, 1) := by decide +kernel
theorem dX6_account_11 : decode cX6_account 11 = .ok (.invokevirtual 57, 3) := by decide +kernel
theorem dX6_account_14 : decode cX6_account 14 = .ok (.invokevirtual 44, 3) := by decide +kernel
theorem dX6_account_17 : decode cX6_account 17 = .ok (.ireturn, 1) := by decide +kernel
theorem dX6_feed_0 : decode cX6_feed 0 = .ok (.aload_n 0, 1) := by decide +kernel
theorem dX6_feed_1 : decode cX6_feed 1 = .ok (.invokevirtual 37, 3) := by decide +kernel
theorem dX6_feed_4 : decode cX6_feed 4 = .ok (.aload_n 0, 1) := by decide +kernel
theorem dX6_feed_5 : decode cX6_feed 5 = .ok (.aload_n 0, 1) := by decide +kernel
theorem dX6_feed_6 : decode cX6_feed 6 = .ok (.getfield 12, 3) := by decide +kernel
theorem dX6_feed_9 : decode cX6_feed 9 = .ok (.iload_n 1, 1) := by decide +kernel
theorem dX6_feed_10 : decode cX6_feed 10 = .ok (.iload_n 2, 1) := by decide +kernel
theorem dX6_feed_11 : decode cX6_feed 11 = .ok (.invokevirtual 60, 3) := by decide +kernel
theorem dX6_feed_14 : decode cX6_feed 14 = .ok (.invokevirtual 44, 3) := by decide +kernel
theorem dX6_feed_17 : decode cX6_feed 17 = .ok (.ireturn, 1) := by decide +kernel
theorem dX6_deposit_0 : decode cX6_deposit 0 = .ok (.aload_n 0, 1) := by decide +kernel
theorem dX6_deposit_1 : decode cX6_deposit 1 = .ok (.invokevirtual 37, 3) := by decide +kernel
theorem dX6_deposit_4 : decode cX6_deposit 4 = .ok (.aload_n 0, 1) := by decide +kernel
theorem dX6_deposit_5 : decode cX6_deposit 5 = .ok (.aload_n 0, 1) := by decide +kernel
theorem dX6_deposit_6 : decode cX6_deposit 6 = .ok (.getfield 12, 3) := by decide +kernel
theorem dX6_deposit_9 : decode cX6_deposit 9 = .ok (.iload_n 1, 1) := by decide +kernel
theorem dX6_deposit_10 : decode cX6_deposit 10 = .ok (.iload_n 2, 1) := by decide +kernel
theorem dX6_deposit_11 : decode cX6_deposit 11 = .ok (.invokevirtual 63, 3) := by decide +kernel
theorem dX6_deposit_14 : decode cX6_deposit 14 = .ok (.invokevirtual 44, 3) := by decide +kernel
theorem dX6_deposit_17 : decode cX6_deposit 17 = .ok (.ireturn, 1) := by decide +kernel
theorem dX6_order_0 : decode cX6_order 0 = .ok (.aload_n 0, 1) := by decide +kernel
theorem dX6_order_1 : decode cX6_order 1 = .ok (.invokevirtual 37, 3) := by decide +kernel
theorem dX6_order_4 : decode cX6_order 4 = .ok (.aload_n 0, 1) := by decide +kernel
theorem dX6_order_5 : decode cX6_order 5 = .ok (.aload_n 0, 1) := by decide +kernel
theorem dX6_order_6 : decode cX6_order 6 = .ok (.getfield 12, 3) := by decide +kernel
theorem dX6_order_9 : decode cX6_order 9 = .ok (.iload_n 1, 1) := by decide +kernel
theorem dX6_order_10 : decode cX6_order 10 = .ok (.iload_n 2, 1) := by decide +kernel
theorem dX6_order_11 : decode cX6_order 11 = .ok (.iload_n 3, 1) := by decide +kernel
theorem dX6_order_12 : decode cX6_order 12 = .ok (.iload 4, 2) := by decide +kernel
theorem dX6_order_14 : decode cX6_order 14 = .ok (.iload 5, 2) := by decide +kernel
theorem dX6_order_16 : decode cX6_order 16 = .ok (.iload 6, 2) := by decide +kernel
theorem dX6_order_18 : decode cX6_order 18 = .ok (.invokevirtual 66, 3) := by decide +kernel
theorem dX6_order_21 : decode cX6_order 21 = .ok (.invokevirtual 44, 3) := by decide +kernel
theorem dX6_order_24 : decode cX6_order 24 = .ok (.ireturn, 1) := by decide +kernel
theorem dX6_change_0 : decode cX6_change 0 = .ok (.aload_n 0, 1) := by decide +kernel
theorem dX6_change_1 : decode cX6_change 1 = .ok (.invokevirtual 37, 3) := by decide +kernel
theorem dX6_change_4 : decode cX6_change 4 = .ok (.aload_n 0, 1) := by decide +kernel
theorem dX6_change_5 : decode cX6_change 5 = .ok (.aload_n 0, 1) := by decide +kernel
theorem dX6_change_6 : decode cX6_change 6 = .ok (.getfield 12, 3) := by decide +kernel
theorem dX6_change_9 : decode cX6_change 9 = .ok (.iload_n 1, 1) := by decide +kernel
theorem dX6_change_10 : decode cX6_change 10 = .ok (.iload_n 2, 1) := by decide +kernel
theorem dX6_change_11 : decode cX6_change 11 = .ok (.iload_n 3, 1) := by decide +kernel
theorem dX6_change_12 : decode cX6_change 12 = .ok (.invokevirtual 70, 3) := by decide +kernel
theorem dX6_change_15 : decode cX6_change 15 = .ok (.invokevirtual 44, 3) := by decide +kernel
theorem dX6_change_18 : decode cX6_change 18 = .ok (.ireturn, 1) := by decide +kernel
theorem dX6_stop_0 : decode cX6_stop 0 = .ok (.aload_n 0, 1) := by decide +kernel
theorem dX6_stop_1 : decode cX6_stop 1 = .ok (.invokevirtual 37, 3) := by decide +kernel
theorem dX6_stop_4 : decode cX6_stop 4 = .ok (.aload_n 0, 1) := by decide +kernel
theorem dX6_stop_5 : decode cX6_stop 5 = .ok (.aload_n 0, 1) := by decide +kernel
theorem dX6_stop_6 : decode cX6_stop 6 = .ok (.getfield 12, 3) := by decide +kernel
theorem dX6_stop_9 : decode cX6_stop 9 = .ok (.iload_n 1, 1) := by decide +kernel
theorem dX6_stop_10 : decode cX6_stop 10 = .ok (.invokevirtual 74, 3) := by decide +kernel
theorem dX6_stop_13 : decode cX6_stop 13 = .ok (.invokevirtual 44, 3) := by decide +kernel
theorem dX6_stop_16 : decode cX6_stop 16 = .ok (.ireturn, 1) := by decide +kernel
theorem dX6_goOn_0 : decode cX6_goOn 0 = .ok (.aload_n 0, 1) := by decide +kernel
theorem dX6_goOn_1 : decode cX6_goOn 1 = .ok (.invokevirtual 37, 3) := by decide +kernel
theorem dX6_goOn_4 : decode cX6_goOn 4 = .ok (.aload_n 0, 1) := by decide +kernel
theorem dX6_goOn_5 : decode cX6_goOn 5 = .ok (.aload_n 0, 1) := by decide +kernel
theorem dX6_goOn_6 : decode cX6_goOn 6 = .ok (.getfield 12, 3) := by decide +kernel
theorem dX6_goOn_9 : decode cX6_goOn 9 = .ok (.iload_n 1, 1) := by decide +kernel
theorem dX6_goOn_10 : decode cX6_goOn 10 = .ok (.invokevirtual 77, 3) := by decide +kernel
theorem dX6_goOn_13 : decode cX6_goOn 13 = .ok (.invokevirtual 44, 3) := by decide +kernel
theorem dX6_goOn_16 : decode cX6_goOn 16 = .ok (.ireturn, 1) := by decide +kernel
theorem dX6_giveUp_0 : decode cX6_giveUp 0 = .ok (.aload_n 0, 1) := by decide +kernel
theorem dX6_giveUp_1 : decode cX6_giveUp 1 = .ok (.invokevirtual 37, 3) := by decide +kernel
theorem dX6_giveUp_4 : decode cX6_giveUp 4 = .ok (.aload_n 0, 1) := by decide +kernel
theorem dX6_giveUp_5 : decode cX6_giveUp 5 = .ok (.aload_n 0, 1) := by decide +kernel
theorem dX6_giveUp_6 : decode cX6_giveUp 6 = .ok (.getfield 12, 3) := by decide +kernel
theorem dX6_giveUp_9 : decode cX6_giveUp 9 = .ok (.iload_n 1, 1) := by decide +kernel
theorem dX6_giveUp_10 : decode cX6_giveUp 10 = .ok (.invokevirtual 80, 3) := by decide +kernel
theorem dX6_giveUp_13 : decode cX6_giveUp 13 = .ok (.invokevirtual 44, 3) := by decide +kernel
theorem dX6_giveUp_16 : decode cX6_giveUp 16 = .ok (.ireturn, 1) := by decide +kernel
theorem dX6_days_0 : decode cX6_days 0 = .ok (.aload_n 0, 1) := by decide +kernel
theorem dX6_days_1 : decode cX6_days 1 = .ok (.getfield 12, 3) := by decide +kernel
theorem dX6_days_4 : decode cX6_days 4 = .ok (.iload_n 1, 1) := by decide +kernel
theorem dX6_days_5 : decode cX6_days 5 = .ok (.invokevirtual 83, 3) := by decide +kernel
theorem dX6_days_8 : decode cX6_days 8 = .ok (.istore_n 2, 1) := by decide +kernel
theorem dX6_days_9 : decode cX6_days 9 = .ok (.iload_n 2, 1) := by decide +kernel
theorem dX6_days_10 : decode cX6_days 10 = .ok (.ifCond .eq 5, 3) := by decide +kernel
theorem dX6_days_13 : decode cX6_days 13 = .ok (.iload_n 2, 1) := by decide +kernel
theorem dX6_days_14 : decode cX6_days 14 = .ok (.ireturn, 1) := by decide +kernel
theorem dX6_days_15 : decode cX6_days 15 = .ok (.aload_n 0, 1) := by decide +kernel
theorem dX6_days_16 : decode cX6_days 16 = .ok (.invokevirtual 37, 3) := by decide +kernel
theorem dX6_days_19 : decode cX6_days 19 = .ok (.aload_n 0, 1) := by decide +kernel
theorem dX6_days_20 : decode cX6_days 20 = .ok (.getfield 12, 3) := by decide +kernel
theorem dX6_days_23 : decode cX6_days 23 = .ok (.iload_n 1, 1) := by decide +kernel
theorem dX6_days_24 : decode cX6_days 24 = .ok (.iconst 0, 1) := by decide +kernel
theorem dX6_days_25 : decode cX6_days 25 = .ok (.invokevirtual 86, 3) := by decide +kernel
theorem dX6_days_28 : decode cX6_days 28 = .ok (.pop, 1) := by decide +kernel
theorem dX6_days_29 : decode cX6_days 29 = .ok (.aload_n 0, 1) := by decide +kernel
theorem dX6_days_30 : decode cX6_days 30 = .ok (.aload_n 0, 1) := by decide +kernel
theorem dX6_days_31 : decode cX6_days 31 = .ok (.getfield 12, 3) := by decide +kernel
theorem dX6_days_34 : decode cX6_days 34 = .ok (.getfield 89, 3) := by decide +kernel
theorem dX6_days_37 : decode cX6_days 37 = .ok (.invokevirtual 44, 3) := by decide +kernel
theorem dX6_days_40 : decode cX6_days 40 = .ok (.ireturn, 1) := by decide +kernel
theorem dX6_ofDay_0 : decode cX6_ofDay 0 = .ok (.iload_n 1, 1) := by decide +kernel
theorem dX6_ofDay_1 : decode cX6_ofDay 1 = .ok (.iconst 0, 1) := by decide +kernel
theorem dX6_ofDay_2 : decode cX6_ofDay 2 = .ok (.sipush 1094, 3) := by decide +kernel
theorem dX6_ofDay_5 : decode cX6_ofDay 5 = .ok (.invokestatic 93, 3) := by decide +kernel
theorem dX6_ofDay_8 : decode cX6_ofDay 8 = .ok (.ifCond .ne 6, 3) := by decide +kernel
theorem dX6_ofDay_11 : decode cX6_ofDay 11 = .ok (.bipush (-2), 2) := by decide +kernel
theorem dX6_ofDay_13 : decode cX6_ofDay 13 = .ok (.ireturn, 1) := by decide +kernel
theorem dX6_ofDay_14 : decode cX6_ofDay 14 = .ok (.aload_n 0, 1) := by decide +kernel
theorem dX6_ofDay_15 : decode cX6_ofDay 15 = .ok (.getfield 12, 3) := by decide +kernel
theorem dX6_ofDay_18 : decode cX6_ofDay 18 = .ok (.getfield 48, 3) := by decide +kernel
theorem dX6_ofDay_21 : decode cX6_ofDay 21 = .ok (.iload_n 1, 1) := by decide +kernel
theorem dX6_ofDay_22 : decode cX6_ofDay 22 = .ok (.iload_n 2, 1) := by decide +kernel
theorem dX6_ofDay_23 : decode cX6_ofDay 23 = .ok (.invokevirtual 97, 3) := by decide +kernel
theorem dX6_ofDay_26 : decode cX6_ofDay 26 = .ok (.ireturn, 1) := by decide +kernel
theorem dX6_money_0 : decode cX6_money 0 = .ok (.aload_n 0, 1) := by decide +kernel
theorem dX6_money_1 : decode cX6_money 1 = .ok (.getfield 12, 3) := by decide +kernel
theorem dX6_money_4 : decode cX6_money 4 = .ok (.iload_n 1, 1) := by decide +kernel
theorem dX6_money_5 : decode cX6_money 5 = .ok (.invokevirtual 100, 3) := by decide +kernel
theorem dX6_money_8 : decode cX6_money 8 = .ok (.ifCond .ne 7, 3) := by decide +kernel
theorem dX6_money_11 : decode cX6_money 11 = .ok (.ldc2_w 104, 3) := by decide +kernel
theorem dX6_money_14 : decode cX6_money 14 = .ok (.lreturn, 1) := by decide +kernel
theorem dX6_money_15 : decode cX6_money 15 = .ok (.aload_n 0, 1) := by decide +kernel
theorem dX6_money_16 : decode cX6_money 16 = .ok (.getfield 12, 3) := by decide +kernel
theorem dX6_money_19 : decode cX6_money 19 = .ok (.getfield 106, 3) := by decide +kernel
theorem dX6_money_22 : decode cX6_money 22 = .ok (.iload_n 1, 1) := by decide +kernel
theorem dX6_money_23 : decode cX6_money 23 = .ok (.aaload, 1) := by decide +kernel
theorem dX6_money_24 : decode cX6_money 24 = .ok (.iload_n 2, 1) := by decide +kernel
theorem dX6_money_25 : decode cX6_money 25 = .ok (.invokevirtual 110, 3) := by decide +kernel
theorem dX6_money_28 : decode cX6_money 28 = .ok (.lreturn, 1) := by decide +kernel
theorem dX6_owedBits_0 : decode cX6_owedBits 0 = .ok (.aload_n 0, 1) := by decide +kernel
theorem dX6_owedBits_1 : decode cX6_owedBits 1 = .ok (.getfield 12, 3) := by decide +kernel
theorem dX6_owedBits_4 : decode cX6_owedBits 4 = .ok (.iload_n 1, 1) := by decide +kernel
theorem dX6_owedBits_5 : decode cX6_owedBits 5 = .ok (.invokevirtual 100, 3) := by decide +kernel
theorem dX6_owedBits_8 : decode cX6_owedBits 8 = .ok (.ifCond .ne 7, 3) := by decide +kernel
theorem dX6_owedBits_11 : decode cX6_owedBits 11 = .ok (.ldc2_w 104, 3) := by decide +kernel
theorem dX6_owedBits_14 : decode cX6_owedBits 14 = .ok (.lreturn, 1) := by decide +kernel
theorem dX6_owedBits_15 : decode cX6_owedBits 15 = .ok (.aload_n 0, 1) := by decide +kernel
theorem dX6_owedBits_16 : decode cX6_owedBits 16 = .ok (.getfield 12, 3) := by decide +kernel
theorem dX6_owedBits_19 : decode cX6_owedBits 19 = .ok (.getfield 106, 3) := by decide +kernel
theorem dX6_owedBits_22 : decode cX6_owedBits 22 = .ok (.iload_n 1, 1) := by decide +kernel
theorem dX6_owedBits_23 : decode cX6_owedBits 23 = .ok (.aaload, 1) := by decide +kernel
theorem dX6_owedBits_24 : decode cX6_owedBits 24 = .ok (.getfield 116, 3) := by decide +kernel
theorem dX6_owedBits_27 : decode cX6_owedBits 27 = .ok (.invokestatic 120, 3) := by decide +kernel
theorem dX6_owedBits_30 : decode cX6_owedBits 30 = .ok (.lreturn, 1) := by decide +kernel
theorem dX6_ofOrder_0 : decode cX6_ofOrder 0 = .ok (.aload_n 0, 1) := by decide +kernel
theorem dX6_ofOrder_1 : decode cX6_ofOrder 1 = .ok (.getfield 12, 3) := by decide +kernel
theorem dX6_ofOrder_4 : decode cX6_ofOrder 4 = .ok (.iload_n 1, 1) := by decide +kernel
theorem dX6_ofOrder_5 : decode cX6_ofOrder 5 = .ok (.invokevirtual 124, 3) := by decide +kernel
theorem dX6_ofOrder_8 : decode cX6_ofOrder 8 = .ok (.ifCond .ne 5, 3) := by decide +kernel
theorem dX6_ofOrder_11 : decode cX6_ofOrder 11 = .ok (.iconst (-1), 1) := by decide +kernel
theorem dX6_ofOrder_12 : decode cX6_ofOrder 12 = .ok (.ireturn, 1) := by decide +kernel
theorem dX6_ofOrder_13 : decode cX6_ofOrder 13 = .ok (.iload_n 2, 1) := by decide +kernel
theorem dX6_ofOrder_14 : decode cX6_ofOrder 14 = .ok (.bipush 15, 2) := by decide +kernel
theorem dX6_ofOrder_16 : decode cX6_ofOrder 16 = .ok (.if_icmp .ne 12, 3) := by decide +kernel
theorem dX6_ofOrder_19 : decode cX6_ofOrder 19 = .ok (.aload_n 0, 1) := by decide +kernel
theorem dX6_ofOrder_20 : decode cX6_ofOrder 20 = .ok (.getfield 12, 3) := by decide +kernel
theorem dX6_ofOrder_23 : decode cX6_ofOrder 23 = .ok (.iload_n 1, 1) := by decide +kernel
theorem dX6_ofOrder_24 : decode cX6_ofOrder 24 = .ok (.invokevirtual 127, 3) := by decide +kernel
theorem dX6_ofOrder_27 : decode cX6_ofOrder 27 = .ok (.ireturn, 1) := by decide +kernel
theorem dX6_ofOrder_28 : decode cX6_ofOrder 28 = .ok (.aload_n 0, 1) := by decide +kernel
theorem dX6_ofOrder_29 : decode cX6_ofOrder 29 = .ok (.getfield 12, 3) := by decide +kernel
theorem dX6_ofOrder_32 : decode cX6_ofOrder 32 = .ok (.getfield 130, 3) := by decide +kernel
theorem dX6_ofOrder_35 : decode cX6_ofOrder 35 = .ok (.iload_n 1, 1) := by decide +kernel
theorem dX6_ofOrder_36 : decode cX6_ofOrder 36 = .ok (.aaload, 1) := by decide +kernel
theorem dX6_ofOrder_37 : decode cX6_ofOrder 37 = .ok (.iload_n 2, 1) := by decide +kernel
theorem dX6_ofOrder_38 : decode cX6_ofOrder 38 = .ok (.invokevirtual 134, 3) := by decide +kernel
theorem dX6_ofOrder_41 : decode cX6_ofOrder 41 = .ok (.ireturn, 1) := by decide +kernel
theorem dX6_ofPayment_0 : decode cX6_ofPayment 0 = .ok (.iload_n 1, 1) := by decide +kernel
theorem dX6_ofPayment_1 : decode cX6_ofPayment 1 = .ok (.iconst 0, 1) := by decide +kernel
theorem dX6_ofPayment_2 : decode cX6_ofPayment 2 = .ok (.aload_n 0, 1) := by decide +kernel
theorem dX6_ofPayment_3 : decode cX6_ofPayment 3 = .ok (.getfield 12, 3) := by decide +kernel
theorem dX6_ofPayment_6 : decode cX6_ofPayment 6 = .ok (.getfield 138, 3) := by decide +kernel
theorem dX6_ofPayment_9 : decode cX6_ofPayment 9 = .ok (.getfield 142, 3) := by decide +kernel
theorem dX6_ofPayment_12 : decode cX6_ofPayment 12 = .ok (.iconst 1, 1) := by decide +kernel
theorem dX6_ofPayment_13 : decode cX6_ofPayment 13 = .ok (.isub, 1) := by decide +kernel
theorem dX6_ofPayment_14 : decode cX6_ofPayment 14 = .ok (.invokestatic 93, 3) := by decide +kernel
theorem dX6_ofPayment_17 : decode cX6_ofPayment 17 = .ok (.ifCond .ne 5, 3) := by decide +kernel
theorem dX6_ofPayment_20 : decode cX6_ofPayment 20 = .ok (.iconst (-1), 1) := by decide +kernel
theorem dX6_ofPayment_21 : decode cX6_ofPayment 21 = .ok (.ireturn, 1) := by decide +kernel
theorem dX6_ofPayment_22 : decode cX6_ofPayment 22 = .ok (.iload_n 2, 1) := by decide +kernel
theorem dX6_ofPayment_23 : decode cX6_ofPayment 23 = .ok (.iconst 0, 1) := by decide +kernel
theorem dX6_ofPayment_24 : decode cX6_ofPayment 24 = .ok (.iconst 4, 1) := by decide +kernel
theorem dX6_ofPayment_25 : decode cX6_ofPayment 25 = .ok (.invokestatic 93, 3) := by decide +kernel
theorem dX6_ofPayment_28 : decode cX6_ofPayment 28 = .ok (.ifCond .ne 6, 3) := by decide +kernel
theorem dX6_ofPayment_31 : decode cX6_ofPayment 31 = .ok (.bipush (-2), 2) := by decide +kernel
theorem dX6_ofPayment_33 : decode cX6_ofPayment 33 = .ok (.ireturn, 1) := by decide +kernel
theorem dX6_ofPayment_34 : decode cX6_ofPayment 34 = .ok (.aload_n 0, 1) := by decide +kernel
theorem dX6_ofPayment_35 : decode cX6_ofPayment 35 = .ok (.getfield 12, 3) := by decide +kernel
theorem dX6_ofPayment_38 : decode cX6_ofPayment 38 = .ok (.getfield 138, 3) := by decide +kernel
theorem dX6_ofPayment_41 : decode cX6_ofPayment 41 = .ok (.getfield 147, 3) := by decide +kernel
theorem dX6_ofPayment_44 : decode cX6_ofPayment 44 = .ok (.iload_n 2, 1) := by decide +kernel
theorem dX6_ofPayment_45 : decode cX6_ofPayment 45 = .ok (.aaload, 1) := by decide +kernel
theorem dX6_ofPayment_46 : decode cX6_ofPayment 46 = .ok (.iload_n 1, 1) := by decide +kernel
theorem dX6_ofPayment_47 : decode cX6_ofPayment 47 = .ok (.iaload, 1) := by decide +kernel
theorem dX6_ofPayment_48 : decode cX6_ofPayment 48 = .ok (.ireturn, 1) := by decide +kernel
theorem dX6_count_0 : decode cX6_count 0 = .ok (.iload_n 1, 1) := by decide +kernel
theorem dX6_count_1 : decode cX6_count 1 = .ok (.bipush 9, 2) := by decide +kernel
theorem dX6_count_3 : decode cX6_count 3 = .ok (.if_icmp .ne 11, 3) := by decide +kernel
theorem dX6_count_6 : decode cX6_count 6 = .ok (.aload_n 0, 1) := by decide +kernel
theorem dX6_count_7 : decode cX6_count 7 = .ok (.getfield 33, 3) := by decide +kernel
theorem dX6_count_10 : decode cX6_count 10 = .ok (.getfield 151, 3) := by decide +kernel
theorem dX6_count_13 : decode cX6_count 13 = .ok (.ireturn, 1) := by decide +kernel
theorem dX6_count_14 : decode cX6_count 14 = .ok (.iload_n 1, 1) := by decide +kernel
theorem dX6_count_15 : decode cX6_count 15 = .ok (.bipush 10, 2) := by decide +kernel
theorem dX6_count_17 : decode cX6_count 17 = .ok (.if_icmp .ne 8, 3) := by decide +kernel
theorem dX6_count_20 : decode cX6_count 20 = .ok (.aload_n 0, 1) := by decide +kernel
theorem dX6_count_21 : decode cX6_count 21 = .ok (.getfield 154, 3) := by decide +kernel
theorem dX6_count_24 : decode cX6_count 24 = .ok (.ireturn, 1) := by decide +kernel
theorem dX6_count_25 : decode cX6_count 25 = .ok (.aload_n 0, 1) := by decide +kernel
theorem dX6_count_26 : decode cX6_count 26 = .ok (.getfield 12, 3) := by decide +kernel
theorem dX6_count_29 : decode cX6_count 29 = .ok (.iload_n 1, 1) := by decide +kernel
theorem dX6_count_30 : decode cX6_count 30 = .ok (.invokevirtual 157, 3) := by decide +kernel
theorem dX6_count_33 : decode cX6_count 33 = .ok (.ireturn, 1) := by decide +kernel
theorem dX6_dateOf_0 : decode cX6_dateOf 0 = .ok (.aload_n 0, 1) := by decide +kernel
theorem dX6_dateOf_1 : decode cX6_dateOf 1 = .ok (.getfield 12, 3) := by decide +kernel
theorem dX6_dateOf_4 : decode cX6_dateOf 4 = .ok (.iload_n 1, 1) := by decide +kernel
theorem dX6_dateOf_5 : decode cX6_dateOf 5 = .ok (.invokevirtual 124, 3) := by decide +kernel
theorem dX6_dateOf_8 : decode cX6_dateOf 8 = .ok (.ifCond .ne 5, 3) := by decide +kernel
theorem dX6_dateOf_11 : decode cX6_dateOf 11 = .ok (.iconst (-1), 1) := by decide +kernel
theorem dX6_dateOf_12 : decode cX6_dateOf 12 = .ok (.ireturn, 1) := by decide +kernel
theorem dX6_dateOf_13 : decode cX6_dateOf 13 = .ok (.iload_n 2, 1) := by decide +kernel
theorem dX6_dateOf_14 : decode cX6_dateOf 14 = .ok (.iconst 0, 1) := by decide +kernel
theorem dX6_dateOf_15 : decode cX6_dateOf 15 = .ok (.bipush 99, 2) := by decide +kernel
theorem dX6_dateOf_17 : decode cX6_dateOf 17 = .ok (.invokestatic 93, 3) := by decide +kernel
theorem dX6_dateOf_20 : decode cX6_dateOf 20 = .ok (.ifCond .ne 6, 3) := by decide +kernel
theorem dX6_dateOf_23 : decode cX6_dateOf 23 = .ok (.bipush (-2), 2) := by decide +kernel
theorem dX6_dateOf_25 : decode cX6_dateOf 25 = .ok (.ireturn, 1) := by decide +kernel
theorem dX6_dateOf_26 : decode cX6_dateOf 26 = .ok (.aload_n 0, 1) := by decide +kernel
theorem dX6_dateOf_27 : decode cX6_dateOf 27 = .ok (.getfield 12, 3) := by decide +kernel
theorem dX6_dateOf_30 : decode cX6_dateOf 30 = .ok (.getfield 130, 3) := by decide +kernel
theorem dX6_dateOf_33 : decode cX6_dateOf 33 = .ok (.iload_n 1, 1) := by decide +kernel
theorem dX6_dateOf_34 : decode cX6_dateOf 34 = .ok (.aaload, 1) := by decide +kernel
theorem dX6_dateOf_35 : decode cX6_dateOf 35 = .ok (.iload_n 2, 1) := by decide +kernel
theorem dX6_dateOf_36 : decode cX6_dateOf 36 = .ok (.aload_n 0, 1) := by decide +kernel
theorem dX6_dateOf_37 : decode cX6_dateOf 37 = .ok (.getfield 12, 3) := by decide +kernel
theorem dX6_dateOf_40 : decode cX6_dateOf 40 = .ok (.getfield 48, 3) := by decide +kernel
theorem dX6_dateOf_43 : decode cX6_dateOf 43 = .ok (.invokevirtual 158, 3) := by decide +kernel
theorem dX6_dateOf_46 : decode cX6_dateOf 46 = .ok (.ireturn, 1) := by decide +kernel
theorem dX6_shift_0 : decode cX6_shift 0 = .ok (.iload_n 1, 1) := by decide +kernel
theorem dX6_shift_1 : decode cX6_shift 1 = .ok (.iconst 0, 1) := by decide +kernel
theorem dX6_shift_2 : decode cX6_shift 2 = .ok (.sipush 1094, 3) := by decide +kernel
theorem dX6_shift_5 : decode cX6_shift 5 = .ok (.invokestatic 93, 3) := by decide +kernel
theorem dX6_shift_8 : decode cX6_shift 8 = .ok (.ifCond .eq 12, 3) := by decide +kernel
theorem dX6_shift_11 : decode cX6_shift 11 = .ok (.iload_n 2, 1) := by decide +kernel
theorem dX6_shift_12 : decode cX6_shift 12 = .ok (.iconst 0, 1) := by decide +kernel
theorem dX6_shift_13 : decode cX6_shift 13 = .ok (.iconst 4, 1) := by decide +kernel
theorem dX6_shift_14 : decode cX6_shift 14 = .ok (.invokestatic 93, 3) := by decide +kernel
theorem dX6_shift_17 : decode cX6_shift 17 = .ok (.ifCond .ne 6, 3) := by decide +kernel
theorem dX6_shift_20 : decode cX6_shift 20 = .ok (.bipush (-2), 2) := by decide +kernel
theorem dX6_shift_22 : decode cX6_shift 22 = .ok (.ireturn, 1) := by decide +kernel
theorem dX6_shift_23 : decode cX6_shift 23 = .ok (.aload_n 0, 1) := by decide +kernel
theorem dX6_shift_24 : decode cX6_shift 24 = .ok (.getfield 12, 3) := by decide +kernel
theorem dX6_shift_27 : decode cX6_shift 27 = .ok (.getfield 48, 3) := by decide +kernel
theorem dX6_shift_30 : decode cX6_shift 30 = .ok (.iload_n 1, 1) := by decide +kernel
theorem dX6_shift_31 : decode cX6_shift 31 = .ok (.iload_n 2, 1) := by decide +kernel
theorem dX6_shift_32 : decode cX6_shift 32 = .ok (.invokevirtual 162, 3) := by decide +kernel
theorem dX6_shift_35 : decode cX6_shift 35 = .ok (.ireturn, 1) := by decide +kernel
theorem dX6_balanceIn_0 : decode cX6_balanceIn 0 = .ok (.aload_n 0, 1) := by decide +kernel
theorem dX6_balanceIn_1 : decode cX6_balanceIn 1 = .ok (.getfield 12, 3) := by decide +kernel
theorem dX6_balanceIn_4 : decode cX6_balanceIn 4 = .ok (.iload_n 1, 1) := by decide +kernel
theorem dX6_balanceIn_5 : decode cX6_balanceIn 5 = .ok (.invokevirtual 100, 3) := by decide +kernel
theorem dX6_balanceIn_8 : decode cX6_balanceIn 8 = .ok (.ifCond .ne 7, 3) := by decide +kernel
theorem dX6_balanceIn_11 : decode cX6_balanceIn 11 = .ok (.ldc2_w 104, 3) := by decide +kernel
theorem dX6_balanceIn_14 : decode cX6_balanceIn 14 = .ok (.lreturn, 1) := by decide +kernel
theorem dX6_balanceIn_15 : decode cX6_balanceIn 15 = .ok (.iload_n 2, 1) := by decide +kernel
theorem dX6_balanceIn_16 : decode cX6_balanceIn 16 = .ok (.iconst 1, 1) := by decide +kernel
theorem dX6_balanceIn_17 : decode cX6_balanceIn 17 = .ok (.sipush 400, 3) := by decide +kernel
theorem dX6_balanceIn_20 : decode cX6_balanceIn 20 = .ok (.invokestatic 93, 3) := by decide +kernel
theorem dX6_balanceIn_23 : decode cX6_balanceIn 23 = .ok (.ifCond .ne 7, 3) := by decide +kernel
theorem dX6_balanceIn_26 : decode cX6_balanceIn 26 = .ok (.ldc2_w 165, 3) := by decide +kernel
theorem dX6_balanceIn_29 : decode cX6_balanceIn 29 = .ok (.lreturn, 1) := by decide +kernel
theorem dX6_balanceIn_30 : decode cX6_balanceIn 30 = .ok (.aload_n 0, 1) := by decide +kernel
theorem dX6_balanceIn_31 : decode cX6_balanceIn 31 = .ok (.getfield 16, 3) := by decide +kernel
theorem dX6_balanceIn_34 : decode cX6_balanceIn 34 = .ok (.aload_n 0, 1) := by decide +kernel
theorem dX6_balanceIn_35 : decode cX6_balanceIn 35 = .ok (.getfield 12, 3) := by decide +kernel
theorem dX6_balanceIn_38 : decode cX6_balanceIn 38 = .ok (.invokevirtual 167, 3) := by decide +kernel
theorem dX6_balanceIn_41 : decode cX6_balanceIn 41 = .ok (.aload_n 0, 1) := by decide +kernel
theorem dX6_balanceIn_42 : decode cX6_balanceIn 42 = .ok (.getfield 16, 3) := by decide +kernel
theorem dX6_balanceIn_45 : decode cX6_balanceIn 45 = .ok (.iload_n 2, 1) := by decide +kernel
theorem dX6_balanceIn_46 : decode cX6_balanceIn 46 = .ok (.iconst 0, 1) := by decide +kernel
theorem dX6_balanceIn_47 : decode cX6_balanceIn 47 = .ok (.invokevirtual 86, 3) := by decide +kernel
theorem dX6_balanceIn_50 : decode cX6_balanceIn 50 = .ok (.pop, 1) := by decide +kernel
theorem dX6_balanceIn_51 : decode cX6_balanceIn 51 = .ok (.aload_n 0, 1) := by decide +kernel
theorem dX6_balanceIn_52 : decode cX6_balanceIn 52 = .ok (.getfield 16, 3) := by decide +kernel
theorem dX6_balanceIn_55 : decode cX6_balanceIn 55 = .ok (.getfield 106, 3) := by decide +kernel
theorem dX6_balanceIn_58 : decode cX6_balanceIn 58 = .ok (.iload_n 1, 1) := by decide +kernel
theorem dX6_balanceIn_59 : decode cX6_balanceIn 59 = .ok (.aaload, 1) := by decide +kernel
theorem dX6_balanceIn_60 : decode cX6_balanceIn 60 = .ok (.getfield 171, 3) := by decide +kernel
theorem dX6_balanceIn_63 : decode cX6_balanceIn 63 = .ok (.lreturn, 1) := by decide +kernel
theorem dX6_firstFailure_0 : decode cX6_firstFailure 0 = .ok (.iload_n 1, 1) := by decide +kernel
theorem dX6_firstFailure_1 : decode cX6_firstFailure 1 = .ok (.bipush (-6), 2) := by decide +kernel
theorem dX6_firstFailure_3 : decode cX6_firstFailure 3 = .ok (.if_icmp .eq 16, 3) := by decide +kernel
theorem dX6_firstFailure_6 : decode cX6_firstFailure 6 = .ok (.aload_n 0, 1) := by decide +kernel
theorem dX6_firstFailure_7 : decode cX6_firstFailure 7 = .ok (.getfield 12, 3) := by decide +kernel
theorem dX6_firstFailure_10 : decode cX6_firstFailure 10 = .ok (.iload_n 1, 1) := by decide +kernel
theorem dX6_firstFailure_11 : decode cX6_firstFailure 11 = .ok (.invokevirtual 100, 3) := by decide +kernel
theorem dX6_firstFailure_14 : decode cX6_firstFailure 14 = .ok (.ifCond .ne 5, 3) := by decide +kernel
theorem dX6_firstFailure_17 : decode cX6_firstFailure 17 = .ok (.iconst (-1), 1) := by decide +kernel
theorem dX6_firstFailure_18 : decode cX6_firstFailure 18 = .ok (.ireturn, 1) := by decide +kernel
theorem dX6_firstFailure_19 : decode cX6_firstFailure 19 = .ok (.aload_n 0, 1) := by decide +kernel
theorem dX6_firstFailure_20 : decode cX6_firstFailure 20 = .ok (.getfield 16, 3) := by decide +kernel
theorem dX6_firstFailure_23 : decode cX6_firstFailure 23 = .ok (.aload_n 0, 1) := by decide +kernel
theorem dX6_firstFailure_24 : decode cX6_firstFailure 24 = .ok (.getfield 12, 3) := by decide +kernel
theorem dX6_firstFailure_27 : decode cX6_firstFailure 27 = .ok (.invokevirtual 167, 3) := by decide +kernel
theorem dX6_firstFailure_30 : decode cX6_firstFailure 30 = .ok (.aload_n 0, 1) := by decide +kernel
theorem dX6_firstFailure_31 : decode cX6_firstFailure 31 = .ok (.getfield 16, 3) := by decide +kernel
theorem dX6_firstFailure_34 : decode cX6_firstFailure 34 = .ok (.sipush 400, 3) := by decide +kernel
theorem dX6_firstFailure_37 : decode cX6_firstFailure 37 = .ok (.iload_n 1, 1) := by decide +kernel
theorem dX6_firstFailure_38 : decode cX6_firstFailure 38 = .ok (.bipush (-6), 2) := by decide +kernel
theorem dX6_firstFailure_40 : decode cX6_firstFailure 40 = .ok (.if_icmp .ne 7, 3) := by decide +kernel
theorem dX6_firstFailure_43 : decode cX6_firstFailure 43 = .ok (.iconst (-1), 1) := by decide +kernel
theorem dX6_firstFailure_44 : decode cX6_firstFailure 44 = .ok (.goto 6, 3) := by decide +kernel
theorem dX6_firstFailure_47 : decode cX6_firstFailure 47 = .ok (.iconst 1, 1) := by decide +kernel
theorem dX6_firstFailure_48 : decode cX6_firstFailure 48 = .ok (.iload_n 1, 1) := by decide +kernel
theorem dX6_firstFailure_49 : decode cX6_firstFailure 49 = .ok (.ishl, 1) := by decide +kernel
theorem dX6_firstFailure_50 : decode cX6_firstFailure 50 = .ok (.invokevirtual 86, 3) := by decide +kernel
theorem dX6_firstFailure_53 : decode cX6_firstFailure 53 = .ok (.ireturn, 1) := by decide +kernel
theorem dX6_leastDeposit_0 : decode cX6_leastDeposit 0 = .ok (.aload_n 0, 1) := by decide +kernel
theorem dX6_leastDeposit_1 : decode cX6_leastDeposit 1 = .ok (.getfield 12, 3) := by decide +kernel
theorem dX6_leastDeposit_4 : decode cX6_leastDeposit 4 = .ok (.iload_n 1, 1) := by decide +kernel
theorem dX6_leastDeposit_5 : decode cX6_leastDeposit 5 = .ok (.invokevirtual 100, 3) := by decide +kernel
theorem dX6_leastDeposit_8 : decode cX6_leastDeposit 8 = .ok (.ifCond .ne 5, 3) := by decide +kernel
theorem dX6_leastDeposit_11 : decode cX6_leastDeposit 11 = .ok (.iconst (-1), 1) := by decide +kernel
theorem dX6_leastDeposit_12 : decode cX6_leastDeposit 12 = .ok (.ireturn, 1) := by decide +kernel
theorem dX6_leastDeposit_13 : decode cX6_leastDeposit 13 = .ok (.iload_n 2, 1) := by decide +kernel
theorem dX6_leastDeposit_14 : decode cX6_leastDeposit 14 = .ok (.iconst 1, 1) := by decide +kernel
theorem dX6_leastDeposit_15 : decode cX6_leastDeposit 15 = .ok (.bipush 100, 2) := by decide +kernel
theorem dX6_leastDeposit_17 : decode cX6_leastDeposit 17 = .ok (.invokestatic 93, 3) := by decide +kernel
theorem dX6_leastDeposit_20 : decode cX6_leastDeposit 20 = .ok (.ifCond .ne 6, 3) := by decide +kernel
theorem dX6_leastDeposit_23 : decode cX6_leastDeposit 23 = .ok (.bipush (-2), 2) := by decide +kernel
theorem dX6_leastDeposit_25 : decode cX6_leastDeposit 25 = .ok (.ireturn, 1) := by decide +kernel
theorem dX6_leastDeposit_26 : decode cX6_leastDeposit 26 = .ok (.iconst 0, 1) := by decide +kernel
theorem dX6_leastDeposit_27 : decode cX6_leastDeposit 27 = .ok (.istore_n 3, 1) := by decide +kernel
theorem dX6_leastDeposit_28 : decode cX6_leastDeposit 28 = .ok (.iload_n 3, 1) := by decide +kernel
theorem dX6_leastDeposit_29 : decode cX6_leastDeposit 29 = .ok (.ldc 175, 2) := by decide +kernel
theorem dX6_leastDeposit_31 : decode cX6_leastDeposit 31 = .ok (.if_icmp .gt 60, 3) := by decide +kernel
theorem dX6_leastDeposit_34 : decode cX6_leastDeposit 34 = .ok (.aload_n 0, 1) := by decide +kernel
theorem dX6_leastDeposit_35 : decode cX6_leastDeposit 35 = .ok (.getfield 16, 3) := by decide +kernel
theorem dX6_leastDeposit_38 : decode cX6_leastDeposit 38 = .ok (.aload_n 0, 1) := by decide +kernel
theorem dX6_leastDeposit_39 : decode cX6_leastDeposit 39 = .ok (.getfield 12, 3) := by decide +kernel
theorem dX6_leastDeposit_42 : decode cX6_leastDeposit 42 = .ok (.invokevirtual 167, 3) := by decide +kernel
theorem dX6_leastDeposit_45 : decode cX6_leastDeposit 45 = .ok (.aload_n 0, 1) := by decide +kernel
theorem dX6_leastDeposit_46 : decode cX6_leastDeposit 46 = .ok (.getfield 16, 3) := by decide +kernel
theorem dX6_leastDeposit_49 : decode cX6_leastDeposit 49 = .ok (.getfield 106, 3) := by decide +kernel
theorem dX6_leastDeposit_52 : decode cX6_leastDeposit 52 = .ok (.iload_n 1, 1) := by decide +kernel
theorem dX6_leastDeposit_53 : decode cX6_leastDeposit 53 = .ok (.aaload, 1) := by decide +kernel
theorem dX6_leastDeposit_54 : decode cX6_leastDeposit 54 = .ok (.dup, 1) := by decide +kernel
theorem dX6_leastDeposit_55 : decode cX6_leastDeposit 55 = .ok (.getfield 171, 3) := by decide +kernel
theorem dX6_leastDeposit_58 : decode cX6_leastDeposit 58 = .ok (.iload_n 3, 1) := by decide +kernel
theorem dX6_leastDeposit_59 : decode cX6_leastDeposit 59 = .ok (.i2l, 1) := by decide +kernel
theorem dX6_leastDeposit_60 : decode cX6_leastDeposit 60 = .ok (.ladd, 1) := by decide +kernel
theorem dX6_leastDeposit_61 : decode cX6_leastDeposit 61 = .ok (.putfield 171, 3) := by decide +kernel
theorem dX6_leastDeposit_64 : decode cX6_leastDeposit 64 = .ok (.aload_n 0, 1) := by decide +kernel
theorem dX6_leastDeposit_65 : decode cX6_leastDeposit 65 = .ok (.getfield 16, 3) := by decide +kernel
theorem dX6_leastDeposit_68 : decode cX6_leastDeposit 68 = .ok (.iload_n 2, 1) := by decide +kernel
theorem dX6_leastDeposit_69 : decode cX6_leastDeposit 69 = .ok (.iconst 1, 1) := by decide +kernel
theorem dX6_leastDeposit_70 : decode cX6_leastDeposit 70 = .ok (.iload_n 1, 1) := by decide +kernel
theorem dX6_leastDeposit_71 : decode cX6_leastDeposit 71 = .ok (.ishl, 1) := by decide +kernel
theorem dX6_leastDeposit_72 : decode cX6_leastDeposit 72 = .ok (.invokevirtual 86, 3) := by decide +kernel
theorem dX6_leastDeposit_75 : decode cX6_leastDeposit 75 = .ok (.bipush (-6), 2) := by decide +kernel
theorem dX6_leastDeposit_77 : decode cX6_leastDeposit 77 = .ok (.if_icmp .ne 5, 3) := by decide +kernel
theorem dX6_leastDeposit_80 : decode cX6_leastDeposit 80 = .ok (.iload_n 3, 1) := by decide +kernel
theorem dX6_leastDeposit_81 : decode cX6_leastDeposit 81 = .ok (.ireturn, 1) := by decide +kernel
theorem dX6_leastDeposit_82 : decode cX6_leastDeposit 82 = .ok (.iinc 3 5000, 6) := by decide +kernel
theorem dX6_leastDeposit_88 : decode cX6_leastDeposit 88 = .ok (.goto (-60), 3) := by decide +kernel
theorem dX6_leastDeposit_91 : decode cX6_leastDeposit 91 = .ok (.bipush (-6), 2) := by decide +kernel
theorem dX6_leastDeposit_93 : decode cX6_leastDeposit 93 = .ok (.ireturn, 1) := by decide +kernel
theorem dX6_ahead_0 : decode cX6_ahead 0 = .ok (.aload_n 0, 1) := by decide +kernel
theorem dX6_ahead_1 : decode cX6_ahead 1 = .ok (.getfield 12, 3) := by decide +kernel
theorem dX6_ahead_4 : decode cX6_ahead 4 = .ok (.iload_n 1, 1) := by decide +kernel
theorem dX6_ahead_5 : decode cX6_ahead 5 = .ok (.invokevirtual 124, 3) := by decide +kernel
theorem dX6_ahead_8 : decode cX6_ahead 8 = .ok (.ifCond .ne 5, 3) := by decide +kernel
theorem dX6_ahead_11 : decode cX6_ahead 11 = .ok (.iconst (-1), 1) := by decide +kernel
theorem dX6_ahead_12 : decode cX6_ahead 12 = .ok (.ireturn, 1) := by decide +kernel
theorem dX6_ahead_13 : decode cX6_ahead 13 = .ok (.iload_n 2, 1) := by decide +kernel
theorem dX6_ahead_14 : decode cX6_ahead 14 = .ok (.iconst 1, 1) := by decide +kernel
theorem dX6_ahead_15 : decode cX6_ahead 15 = .ok (.sipush 400, 3) := by decide +kernel
theorem dX6_ahead_18 : decode cX6_ahead 18 = .ok (.invokestatic 93, 3) := by decide +kernel
theorem dX6_ahead_21 : decode cX6_ahead 21 = .ok (.ifCond .eq 12, 3) := by decide +kernel
theorem dX6_ahead_24 : decode cX6_ahead 24 = .ok (.iload_n 3, 1) := by decide +kernel
theorem dX6_ahead_25 : decode cX6_ahead 25 = .ok (.iconst 0, 1) := by decide +kernel
theorem dX6_ahead_26 : decode cX6_ahead 26 = .ok (.iconst 3, 1) := by decide +kernel
theorem dX6_ahead_27 : decode cX6_ahead 27 = .ok (.invokestatic 93, 3) := by decide +kernel
theorem dX6_ahead_30 : decode cX6_ahead 30 = .ok (.ifCond .ne 6, 3) := by decide +kernel
theorem dX6_ahead_33 : decode cX6_ahead 33 = .ok (.bipush (-2), 2) := by decide +kernel
theorem dX6_ahead_35 : decode cX6_ahead 35 = .ok (.ireturn, 1) := by decide +kernel
theorem dX6_ahead_36 : decode cX6_ahead 36 = .ok (.aload_n 0, 1) := by decide +kernel
theorem dX6_ahead_37 : decode cX6_ahead 37 = .ok (.getfield 16, 3) := by decide +kernel
theorem dX6_ahead_40 : decode cX6_ahead 40 = .ok (.aload_n 0, 1) := by decide +kernel
theorem dX6_ahead_41 : decode cX6_ahead 41 = .ok (.getfield 12, 3) := by decide +kernel
theorem dX6_ahead_44 : decode cX6_ahead 44 = .ok (.invokevirtual 167, 3) := by decide +kernel
theorem dX6_ahead_47 : decode cX6_ahead 47 = .ok (.aload_n 0, 1) := by decide +kernel
theorem dX6_ahead_48 : decode cX6_ahead 48 = .ok (.getfield 16, 3) := by decide +kernel
theorem dX6_ahead_51 : decode cX6_ahead 51 = .ok (.iload_n 2, 1) := by decide +kernel
theorem dX6_ahead_52 : decode cX6_ahead 52 = .ok (.iconst 0, 1) := by decide +kernel
theorem dX6_ahead_53 : decode cX6_ahead 53 = .ok (.invokevirtual 86, 3) := by decide +kernel
theorem dX6_ahead_56 : decode cX6_ahead 56 = .ok (.pop, 1) := by decide +kernel
theorem dX6_ahead_57 : decode cX6_ahead 57 = .ok (.aload_n 0, 1) := by decide +kernel
theorem dX6_ahead_58 : decode cX6_ahead 58 = .ok (.getfield 12, 3) := by decide +kernel
theorem dX6_ahead_61 : decode cX6_ahead 61 = .ok (.getfield 130, 3) := by decide +kernel
theorem dX6_ahead_64 : decode cX6_ahead 64 = .ok (.iload_n 1, 1) := by decide +kernel
theorem dX6_ahead_65 : decode cX6_ahead 65 = .ok (.aaload, 1) := by decide +kernel
theorem dX6_ahead_66 : decode cX6_ahead 66 = .ok (.astore 4, 2) := by decide +kernel
theorem dX6_ahead_68 : decode cX6_ahead 68 = .ok (.aload_n 0, 1) := by decide +kernel
theorem dX6_ahead_69 : decode cX6_ahead 69 = .ok (.getfield 16, 3) := by decide +kernel
theorem dX6_ahead_72 : decode cX6_ahead 72 = .ok (.getfield 130, 3) := by decide +kernel
theorem dX6_ahead_75 : decode cX6_ahead 75 = .ok (.iload_n 1, 1) := by decide +kernel
theorem dX6_ahead_76 : decode cX6_ahead 76 = .ok (.aaload, 1) := by decide +kernel
theorem dX6_ahead_77 : decode cX6_ahead 77 = .ok (.astore 5, 2) := by decide +kernel
theorem dX6_ahead_79 : decode cX6_ahead 79 = .ok (.iload_n 3, 1) := by decide +kernel
theorem dX6_ahead_80 : decode cX6_ahead 80 = .ok (.tableswitch 64 0 2 #[28, 40, 52], 28) := by decide +kernel
theorem dX6_ahead_108 : decode cX6_ahead 108 = .ok (.aload 5, 2) := by decide +kernel
theorem dX6_ahead_110 : decode cX6_ahead 110 = .ok (.getfield 176, 3) := by decide +kernel
theorem dX6_ahead_113 : decode cX6_ahead 113 = .ok (.aload 4, 2) := by decide +kernel
theorem dX6_ahead_115 : decode cX6_ahead 115 = .ok (.getfield 176, 3) := by decide +kernel
theorem dX6_ahead_118 : decode cX6_ahead 118 = .ok (.isub, 1) := by decide +kernel
theorem dX6_ahead_119 : decode cX6_ahead 119 = .ok (.ireturn, 1) := by decide +kernel
theorem dX6_ahead_120 : decode cX6_ahead 120 = .ok (.aload 5, 2) := by decide +kernel
theorem dX6_ahead_122 : decode cX6_ahead 122 = .ok (.getfield 179, 3) := by decide +kernel
theorem dX6_ahead_125 : decode cX6_ahead 125 = .ok (.aload 4, 2) := by decide +kernel
theorem dX6_ahead_127 : decode cX6_ahead 127 = .ok (.getfield 179, 3) := by decide +kernel
theorem dX6_ahead_130 : decode cX6_ahead 130 = .ok (.isub, 1) := by decide +kernel
theorem dX6_ahead_131 : decode cX6_ahead 131 = .ok (.ireturn, 1) := by decide +kernel
theorem dX6_ahead_132 : decode cX6_ahead 132 = .ok (.aload 5, 2) := by decide +kernel
theorem dX6_ahead_134 : decode cX6_ahead 134 = .ok (.getfield 182, 3) := by decide +kernel
theorem dX6_ahead_137 : decode cX6_ahead 137 = .ok (.aload 4, 2) := by decide +kernel
theorem dX6_ahead_139 : decode cX6_ahead 139 = .ok (.getfield 182, 3) := by decide +kernel
theorem dX6_ahead_142 : decode cX6_ahead 142 = .ok (.isub, 1) := by decide +kernel
theorem dX6_ahead_143 : decode cX6_ahead 143 = .ok (.ireturn, 1) := by decide +kernel
theorem dX6_ahead_144 : decode cX6_ahead 144 = .ok (.aload 5, 2) := by decide +kernel
theorem dX6_ahead_146 : decode cX6_ahead 146 = .ok (.getfield 185, 3) := by decide +kernel
theorem dX6_ahead_149 : decode cX6_ahead 149 = .ok (.ireturn, 1) := by decide +kernel
theorem dX6_put_0 : decode cX6_put 0 = .ok (.aload_n 0, 1) := by decide +kernel
theorem dX6_put_1 : decode cX6_put 1 = .ok (.getfield 33, 3) := by decide +kernel
theorem dX6_put_4 : decode cX6_put 4 = .ok (.lload_n 1, 1) := by decide +kernel
theorem dX6_put_5 : decode cX6_put 5 = .ok (.invokevirtual 187, 3) := by decide +kernel
theorem dX6_put_8 : decode cX6_put 8 = .ok (.ireturn, 1) := by decide +kernel
theorem dX6_wipe_0 : decode cX6_wipe 0 = .ok (.aload_n 0, 1) := by decide +kernel
theorem dX6_wipe_1 : decode cX6_wipe 1 = .ok (.getfield 33, 3) := by decide +kernel
theorem dX6_wipe_4 : decode cX6_wipe 4 = .ok (.getfield 151, 3) := by decide +kernel
theorem dX6_wipe_7 : decode cX6_wipe 7 = .ok (.istore_n 1, 1) := by decide +kernel
theorem dX6_wipe_8 : decode cX6_wipe 8 = .ok (.aload_n 0, 1) := by decide +kernel
theorem dX6_wipe_9 : decode cX6_wipe 9 = .ok (.getfield 33, 3) := by decide +kernel
theorem dX6_wipe_12 : decode cX6_wipe 12 = .ok (.iconst 0, 1) := by decide +kernel
theorem dX6_wipe_13 : decode cX6_wipe 13 = .ok (.putfield 151, 3) := by decide +kernel
theorem dX6_wipe_16 : decode cX6_wipe 16 = .ok (.iload_n 1, 1) := by decide +kernel
theorem dX6_wipe_17 : decode cX6_wipe 17 = .ok (.ireturn, 1) := by decide +kernel
theorem dX6_fault_0 : decode cX6_fault 0 = .ok (.aload_n 0, 1) := by decide +kernel
theorem dX6_fault_1 : decode cX6_fault 1 = .ok (.getfield 33, 3) := by decide +kernel
theorem dX6_fault_4 : decode cX6_fault 4 = .ok (.invokevirtual 191, 3) := by decide +kernel
theorem dX6_fault_7 : decode cX6_fault 7 = .ok (.ifCond .eq 8, 3) := by decide +kernel
theorem dX6_fault_10 : decode cX6_fault 10 = .ok (.bipush (-6), 2) := by decide +kernel
theorem dX6_fault_12 : decode cX6_fault 12 = .ok (.goto 10, 3) := by decide +kernel
theorem dX6_fault_15 : decode cX6_fault 15 = .ok (.aload_n 0, 1) := by decide +kernel
theorem dX6_fault_16 : decode cX6_fault 16 = .ok (.getfield 33, 3) := by decide +kernel
theorem dX6_fault_19 : decode cX6_fault 19 = .ok (.getfield 195, 3) := by decide +kernel
theorem dX6_fault_22 : decode cX6_fault 22 = .ok (.ireturn, 1) := by decide +kernel
theorem dX6_carryOut_0 : decode cX6_carryOut 0 = .ok (.aload_n 0, 1) := by decide +kernel
theorem dX6_carryOut_1 : decode cX6_carryOut 1 = .ok (.getfield 33, 3) := by decide +kernel
theorem dX6_carryOut_4 : decode cX6_carryOut 4 = .ok (.invokevirtual 191, 3) := by decide +kernel
theorem dX6_carryOut_7 : decode cX6_carryOut 7 = .ok (.ifCond .ne 6, 3) := by decide +kernel
theorem dX6_carryOut_10 : decode cX6_carryOut 10 = .ok (.bipush (-3), 2) := by decide +kernel
theorem dX6_carryOut_12 : decode cX6_carryOut 12 = .ok (.ireturn, 1) := by decide +kernel
theorem dX6_carryOut_13 : decode cX6_carryOut 13 = .ok (.aload_n 0, 1) := by decide +kernel
theorem dX6_carryOut_14 : decode cX6_carryOut 14 = .ok (.invokevirtual 37, 3) := by decide +kernel
theorem dX6_carryOut_17 : decode cX6_carryOut 17 = .ok (.iconst 0, 1) := by decide +kernel
theorem dX6_carryOut_18 : decode cX6_carryOut 18 = .ok (.istore_n 1, 1) := by decide +kernel
theorem dX6_carryOut_19 : decode cX6_carryOut 19 = .ok (.aload_n 0, 1) := by decide +kernel
theorem dX6_carryOut_20 : decode cX6_carryOut 20 = .ok (.getfield 33, 3) := by decide +kernel
theorem dX6_carryOut_23 : decode cX6_carryOut 23 = .ok (.iconst 0, 1) := by decide +kernel
theorem dX6_carryOut_24 : decode cX6_carryOut 24 = .ok (.putfield 195, 3) := by decide +kernel
theorem dX6_carryOut_27 : decode cX6_carryOut 27 = .ok (.iconst 0, 1) := by decide +kernel
theorem dX6_carryOut_28 : decode cX6_carryOut 28 = .ok (.istore_n 2, 1) := by decide +kernel
theorem dX6_carryOut_29 : decode cX6_carryOut 29 = .ok (.iload_n 2, 1) := by decide +kernel
theorem dX6_carryOut_30 : decode cX6_carryOut 30 = .ok (.bipush 80, 2) := by decide +kernel
theorem dX6_carryOut_32 : decode cX6_carryOut 32 = .ok (.if_icmp .ge 64, 3) := by decide +kernel
theorem dX6_carryOut_35 : decode cX6_carryOut 35 = .ok (.aload_n 0, 1) := by decide +kernel
theorem dX6_carryOut_36 : decode cX6_carryOut 36 = .ok (.getfield 33, 3) := by decide +kernel
theorem dX6_carryOut_39 : decode cX6_carryOut 39 = .ok (.getfield 195, 3) := by decide +kernel
theorem dX6_carryOut_42 : decode cX6_carryOut 42 = .ok (.aload_n 0, 1) := by decide +kernel
theorem dX6_carryOut_43 : decode cX6_carryOut 43 = .ok (.getfield 33, 3) := by decide +kernel
theorem dX6_carryOut_46 : decode cX6_carryOut 46 = .ok (.getfield 151, 3) := by decide +kernel
theorem dX6_carryOut_49 : decode cX6_carryOut 49 = .ok (.if_icmp .ge 47, 3) := by decide +kernel
theorem dX6_carryOut_52 : decode cX6_carryOut 52 = .ok (.aload_n 0, 1) := by decide +kernel
theorem dX6_carryOut_53 : decode cX6_carryOut 53 = .ok (.getfield 33, 3) := by decide +kernel
theorem dX6_carryOut_56 : decode cX6_carryOut 56 = .ok (.invokevirtual 198, 3) := by decide +kernel
theorem dX6_carryOut_59 : decode cX6_carryOut 59 = .ok (.pop, 1) := by decide +kernel
theorem dX6_carryOut_60 : decode cX6_carryOut 60 = .ok (.aload_n 0, 1) := by decide +kernel
theorem dX6_carryOut_61 : decode cX6_carryOut 61 = .ok (.getfield 33, 3) := by decide +kernel
theorem dX6_carryOut_64 : decode cX6_carryOut 64 = .ok (.bipush 59, 2) := by decide +kernel
theorem dX6_carryOut_66 : decode cX6_carryOut 66 = .ok (.invokevirtual 201, 3) := by decide +kernel
theorem dX6_carryOut_69 : decode cX6_carryOut 69 = .ok (.pop, 1) := by decide +kernel
theorem dX6_carryOut_70 : decode cX6_carryOut 70 = .ok (.aload_n 0, 1) := by decide +kernel
theorem dX6_carryOut_71 : decode cX6_carryOut 71 = .ok (.aload_n 0, 1) := by decide +kernel
theorem dX6_carryOut_72 : decode cX6_carryOut 72 = .ok (.getfield 33, 3) := by decide +kernel
theorem dX6_carryOut_75 : decode cX6_carryOut 75 = .ok (.invokevirtual 205, 3) := by decide +kernel
theorem dX6_carryOut_78 : decode cX6_carryOut 78 = .ok (.invokestatic 209, 3) := by decide +kernel
theorem dX6_carryOut_81 : decode cX6_carryOut 81 = .ok (.ifCond .eq 6, 3) := by decide +kernel
theorem dX6_carryOut_84 : decode cX6_carryOut 84 = .ok (.goto 12, 3) := by decide +kernel
theorem dX6_carryOut_87 : decode cX6_carryOut 87 = .ok (.iinc 1 1, 3) := by decide +kernel
theorem dX6_carryOut_90 : decode cX6_carryOut 90 = .ok (.iinc 2 1, 3) := by decide +kernel
theorem dX6_carryOut_93 : decode cX6_carryOut 93 = .ok (.goto (-64), 3) := by decide +kernel
theorem dX6_carryOut_96 : decode cX6_carryOut 96 = .ok (.aload_n 0, 1) := by decide +kernel
theorem dX6_carryOut_97 : decode cX6_carryOut 97 = .ok (.getfield 33, 3) := by decide +kernel
theorem dX6_carryOut_100 : decode cX6_carryOut 100 = .ok (.iconst 0, 1) := by decide +kernel
theorem dX6_carryOut_101 : decode cX6_carryOut 101 = .ok (.putfield 151, 3) := by decide +kernel
theorem dX6_carryOut_104 : decode cX6_carryOut 104 = .ok (.aload_n 0, 1) := by decide +kernel
theorem dX6_carryOut_105 : decode cX6_carryOut 105 = .ok (.iload_n 1, 1) := by decide +kernel
theorem dX6_carryOut_106 : decode cX6_carryOut 106 = .ok (.invokevirtual 44, 3) := by decide +kernel
theorem dX6_carryOut_109 : decode cX6_carryOut 109 = .ok (.ireturn, 1) := by decide +kernel
theorem dX6_undo_0 : decode cX6_undo 0 = .ok (.aload_n 0, 1) := by decide +kernel
theorem dX6_undo_1 : decode cX6_undo 1 = .ok (.getfield 154, 3) := by decide +kernel
theorem dX6_undo_4 : decode cX6_undo 4 = .ok (.ifCond .ne 6, 3) := by decide +kernel
theorem dX6_undo_7 : decode cX6_undo 7 = .ok (.bipush (-5), 2) := by decide +kernel
theorem dX6_undo_9 : decode cX6_undo 9 = .ok (.ireturn, 1) := by decide +kernel
theorem dX6_undo_10 : decode cX6_undo 10 = .ok (.aload_n 0, 1) := by decide +kernel
theorem dX6_undo_11 : decode cX6_undo 11 = .ok (.dup, 1) := by decide +kernel
theorem dX6_undo_12 : decode cX6_undo 12 = .ok (.getfield 154, 3) := by decide +kernel
theorem dX6_undo_15 : decode cX6_undo 15 = .ok (.iconst 1, 1) := by decide +kernel
theorem dX6_undo_16 : decode cX6_undo 16 = .ok (.isub, 1) := by decide +kernel
theorem dX6_undo_17 : decode cX6_undo 17 = .ok (.putfield 154, 3) := by decide +kernel
theorem dX6_undo_20 : decode cX6_undo 20 = .ok (.aload_n 0, 1) := by decide +kernel
theorem dX6_undo_21 : decode cX6_undo 21 = .ok (.getfield 12, 3) := by decide +kernel
theorem dX6_undo_24 : decode cX6_undo 24 = .ok (.aload_n 0, 1) := by decide +kernel
theorem dX6_undo_25 : decode cX6_undo 25 = .ok (.getfield 19, 3) := by decide +kernel
theorem dX6_undo_28 : decode cX6_undo 28 = .ok (.aload_n 0, 1) := by decide +kernel
theorem dX6_undo_29 : decode cX6_undo 29 = .ok (.invokevirtual 212, 3) := by decide +kernel
theorem dX6_undo_32 : decode cX6_undo 32 = .ok (.aaload, 1) := by decide +kernel
theorem dX6_undo_33 : decode cX6_undo 33 = .ok (.invokevirtual 167, 3) := by decide +kernel
theorem dX6_undo_36 : decode cX6_undo 36 = .ok (.aload_n 0, 1) := by decide +kernel
theorem dX6_undo_37 : decode cX6_undo 37 = .ok (.getfield 154, 3) := by decide +kernel
theorem dX6_undo_40 : decode cX6_undo 40 = .ok (.ireturn, 1) := by decide +kernel
theorem dX6_save_0 : decode cX6_save 0 = .ok (.iload_n 1, 1) := by decide +kernel
theorem dX6_save_1 : decode cX6_save 1 = .ok (.iconst 0, 1) := by decide +kernel
theorem dX6_save_2 : decode cX6_save 2 = .ok (.iconst 1, 1) := by decide +kernel
theorem dX6_save_3 : decode cX6_save 3 = .ok (.invokestatic 93, 3) := by decide +kernel
theorem dX6_save_6 : decode cX6_save 6 = .ok (.ifCond .ne 6, 3) := by decide +kernel
theorem dX6_save_9 : decode cX6_save 9 = .ok (.bipush (-2), 2) := by decide +kernel
theorem dX6_save_11 : decode cX6_save 11 = .ok (.ireturn, 1) := by decide +kernel
theorem dX6_save_12 : decode cX6_save 12 = .ok (.aload_n 0, 1) := by decide +kernel
theorem dX6_save_13 : decode cX6_save 13 = .ok (.getfield 23, 3) := by decide +kernel
theorem dX6_save_16 : decode cX6_save 16 = .ok (.iload_n 1, 1) := by decide +kernel
theorem dX6_save_17 : decode cX6_save 17 = .ok (.aaload, 1) := by decide +kernel
theorem dX6_save_18 : decode cX6_save 18 = .ok (.aload_n 0, 1) := by decide +kernel
theorem dX6_save_19 : decode cX6_save 19 = .ok (.getfield 12, 3) := by decide +kernel
theorem dX6_save_22 : decode cX6_save 22 = .ok (.invokevirtual 167, 3) := by decide +kernel
theorem dX6_save_25 : decode cX6_save 25 = .ok (.aload_n 0, 1) := by decide +kernel
theorem dX6_save_26 : decode cX6_save 26 = .ok (.getfield 26, 3) := by decide +kernel
theorem dX6_save_29 : decode cX6_save 29 = .ok (.iload_n 1, 1) := by decide +kernel
theorem dX6_save_30 : decode cX6_save 30 = .ok (.iconst 1, 1) := by decide +kernel
theorem dX6_save_31 : decode cX6_save 31 = .ok (.bastore, 1) := by decide +kernel
theorem dX6_save_32 : decode cX6_save 32 = .ok (.aload_n 0, 1) := by decide +kernel
theorem dX6_save_33 : decode cX6_save 33 = .ok (.getfield 12, 3) := by decide +kernel
theorem dX6_save_36 : decode cX6_save 36 = .ok (.getfield 89, 3) := by decide +kernel
theorem dX6_save_39 : decode cX6_save 39 = .ok (.ireturn, 1) := by decide +kernel
theorem dX6_restore_0 : decode cX6_restore 0 = .ok (.iload_n 1, 1) := by decide +kernel
theorem dX6_restore_1 : decode cX6_restore 1 = .ok (.iconst 0, 1) := by decide +kernel
theorem dX6_restore_2 : decode cX6_restore 2 = .ok (.iconst 1, 1) := by decide +kernel
theorem dX6_restore_3 : decode cX6_restore 3 = .ok (.invokestatic 93, 3) := by decide +kernel
theorem dX6_restore_6 : decode cX6_restore 6 = .ok (.ifCond .ne 6, 3) := by decide +kernel
theorem dX6_restore_9 : decode cX6_restore 9 = .ok (.bipush (-2), 2) := by decide +kernel
theorem dX6_restore_11 : decode cX6_restore 11 = .ok (.ireturn, 1) := by decide +kernel
theorem dX6_restore_12 : decode cX6_restore 12 = .ok (.aload_n 0, 1) := by decide +kernel
theorem dX6_restore_13 : decode cX6_restore 13 = .ok (.getfield 26, 3) := by decide +kernel
theorem dX6_restore_16 : decode cX6_restore 16 = .ok (.iload_n 1, 1) := by decide +kernel
theorem dX6_restore_17 : decode cX6_restore 17 = .ok (.baload, 1) := by decide +kernel
theorem dX6_restore_18 : decode cX6_restore 18 = .ok (.ifCond .ne 6, 3) := by decide +kernel
theorem dX6_restore_21 : decode cX6_restore 21 = .ok (.bipush (-5), 2) := by decide +kernel
theorem dX6_restore_23 : decode cX6_restore 23 = .ok (.ireturn, 1) := by decide +kernel
theorem dX6_restore_24 : decode cX6_restore 24 = .ok (.aload_n 0, 1) := by decide +kernel
theorem dX6_restore_25 : decode cX6_restore 25 = .ok (.invokevirtual 37, 3) := by decide +kernel
theorem dX6_restore_28 : decode cX6_restore 28 = .ok (.aload_n 0, 1) := by decide +kernel
theorem dX6_restore_29 : decode cX6_restore 29 = .ok (.getfield 12, 3) := by decide +kernel
theorem dX6_restore_32 : decode cX6_restore 32 = .ok (.aload_n 0, 1) := by decide +kernel
theorem dX6_restore_33 : decode cX6_restore 33 = .ok (.getfield 23, 3) := by decide +kernel
theorem dX6_restore_36 : decode cX6_restore 36 = .ok (.iload_n 1, 1) := by decide +kernel
theorem dX6_restore_37 : decode cX6_restore 37 = .ok (.aaload, 1) := by decide +kernel
theorem dX6_restore_38 : decode cX6_restore 38 = .ok (.invokevirtual 167, 3) := by decide +kernel
theorem dX6_restore_41 : decode cX6_restore 41 = .ok (.aload_n 0, 1) := by decide +kernel
theorem dX6_restore_42 : decode cX6_restore 42 = .ok (.aload_n 0, 1) := by decide +kernel
theorem dX6_restore_43 : decode cX6_restore 43 = .ok (.getfield 12, 3) := by decide +kernel
theorem dX6_restore_46 : decode cX6_restore 46 = .ok (.getfield 89, 3) := by decide +kernel
theorem dX6_restore_49 : decode cX6_restore 49 = .ok (.invokevirtual 44, 3) := by decide +kernel
theorem dX6_restore_52 : decode cX6_restore 52 = .ok (.ireturn, 1) := by decide +kernel
theorem dX6_remember_0 : decode cX6_remember 0 = .ok (.aload_n 0, 1) := by decide +kernel
theorem dX6_remember_1 : decode cX6_remember 1 = .ok (.getfield 19, 3) := by decide +kernel
theorem dX6_remember_4 : decode cX6_remember 4 = .ok (.aload_n 0, 1) := by decide +kernel
theorem dX6_remember_5 : decode cX6_remember 5 = .ok (.invokevirtual 212, 3) := by decide +kernel
theorem dX6_remember_8 : decode cX6_remember 8 = .ok (.aaload, 1) := by decide +kernel
theorem dX6_remember_9 : decode cX6_remember 9 = .ok (.aload_n 0, 1) := by decide +kernel
theorem dX6_remember_10 : decode cX6_remember 10 = .ok (.getfield 12, 3) := by decide +kernel
theorem dX6_remember_13 : decode cX6_remember 13 = .ok (.invokevirtual 167, 3) := by decide +kernel
theorem dX6_remember_16 : decode cX6_remember 16 = .ok (.return_, 1) := by decide +kernel
theorem dX6_recorded_0 : decode cX6_recorded 0 = .ok (.iload_n 1, 1) := by decide +kernel
theorem dX6_recorded_1 : decode cX6_recorded 1 = .ok (.invokestatic 209, 3) := by decide +kernel
theorem dX6_recorded_4 : decode cX6_recorded 4 = .ok (.ifCond .eq 5, 3) := by decide +kernel
theorem dX6_recorded_7 : decode cX6_recorded 7 = .ok (.iload_n 1, 1) := by decide +kernel
theorem dX6_recorded_8 : decode cX6_recorded 8 = .ok (.ireturn, 1) := by decide +kernel
theorem dX6_recorded_9 : decode cX6_recorded 9 = .ok (.aload_n 0, 1) := by decide +kernel
theorem dX6_recorded_10 : decode cX6_recorded 10 = .ok (.getfield 154, 3) := by decide +kernel
theorem dX6_recorded_13 : decode cX6_recorded 13 = .ok (.bipush 6, 2) := by decide +kernel
theorem dX6_recorded_15 : decode cX6_recorded 15 = .ok (.if_icmp .ge 16, 3) := by decide +kernel
theorem dX6_recorded_18 : decode cX6_recorded 18 = .ok (.aload_n 0, 1) := by decide +kernel
theorem dX6_recorded_19 : decode cX6_recorded 19 = .ok (.dup, 1) := by decide +kernel
theorem dX6_recorded_20 : decode cX6_recorded 20 = .ok (.getfield 154, 3) := by decide +kernel
theorem dX6_recorded_23 : decode cX6_recorded 23 = .ok (.iconst 1, 1) := by decide +kernel
theorem dX6_recorded_24 : decode cX6_recorded 24 = .ok (.iadd, 1) := by decide +kernel
theorem dX6_recorded_25 : decode cX6_recorded 25 = .ok (.putfield 154, 3) := by decide +kernel
theorem dX6_recorded_28 : decode cX6_recorded 28 = .ok (.goto 16, 3) := by decide +kernel
theorem dX6_recorded_31 : decode cX6_recorded 31 = .ok (.aload_n 0, 1) := by decide +kernel
theorem dX6_recorded_32 : decode cX6_recorded 32 = .ok (.aload_n 0, 1) := by decide +kernel
theorem dX6_recorded_33 : decode cX6_recorded 33 = .ok (.getfield 216, 3) := by decide +kernel
theorem dX6_recorded_36 : decode cX6_recorded 36 = .ok (.iconst 1, 1) := by decide +kernel
theorem dX6_recorded_37 : decode cX6_recorded 37 = .ok (.iadd, 1) := by decide +kernel
theorem dX6_recorded_38 : decode cX6_recorded 38 = .ok (.bipush 7, 2) := by decide +kernel
theorem dX6_recorded_40 : decode cX6_recorded 40 = .ok (.irem, 1) := by decide +kernel
theorem dX6_recorded_41 : decode cX6_recorded 41 = .ok (.putfield 216, 3) := by decide +kernel
theorem dX6_recorded_44 : decode cX6_recorded 44 = .ok (.iload_n 1, 1) := by decide +kernel
theorem dX6_recorded_45 : decode cX6_recorded 45 = .ok (.ireturn, 1) := by decide +kernel
theorem dX6_rowBehindLatest_0 : decode cX6_rowBehindLatest 0 = .ok (.aload_n 0, 1) := by decide +kernel
theorem dX6_rowBehindLatest_1 : decode cX6_rowBehindLatest 1 = .ok (.getfield 216, 3) := by decide +kernel
theorem dX6_rowBehindLatest_4 : decode cX6_rowBehindLatest 4 = .ok (.aload_n 0, 1) := by decide +kernel
theorem dX6_rowBehindLatest_5 : decode cX6_rowBehindLatest 5 = .ok (.getfield 154, 3) := by decide +kernel
theorem dX6_rowBehindLatest_8 : decode cX6_rowBehindLatest 8 = .ok (.iadd, 1) := by decide +kernel
theorem dX6_rowBehindLatest_9 : decode cX6_rowBehindLatest 9 = .ok (.bipush 7, 2) := by decide +kernel
theorem dX6_rowBehindLatest_11 : decode cX6_rowBehindLatest 11 = .ok (.irem, 1) := by decide +kernel
theorem dX6_rowBehindLatest_12 : decode cX6_rowBehindLatest 12 = .ok (.ireturn, 1) := by decide +kernel
theorem dX6_perform_0 : decode cX6_perform 0 = .ok (.aload_n 1, 1) := by decide +kernel
theorem dX6_perform_1 : decode cX6_perform 1 = .ok (.getfield 219, 3) := by decide +kernel
theorem dX6_perform_4 : decode cX6_perform 4 = .ok (.lookupswitch 167 #[(100, 151), (103, 139), (112, 44), (115, 127)], 44) := by decide +kernel
theorem dX6_perform_48 : decode cX6_perform 48 = .ok (.aload_n 1, 1) := by decide +kernel
theorem dX6_perform_49 : decode cX6_perform 49 = .ok (.getfield 223, 3) := by decide +kernel
theorem dX6_perform_52 : decode cX6_perform 52 = .ok (.bipush 12, 2) := by decide +kernel
theorem dX6_perform_54 : decode cX6_perform 54 = .ok (.if_icmp .gt 12, 3) := by decide +kernel
theorem dX6_perform_57 : decode cX6_perform 57 = .ok (.aload_n 1, 1) := by decide +kernel
theorem dX6_perform_58 : decode cX6_perform 58 = .ok (.getfield 226, 3) := by decide +kernel
theorem dX6_perform_61 : decode cX6_perform 61 = .ok (.bipush 31, 2) := by decide +kernel
theorem dX6_perform_63 : decode cX6_perform 63 = .ok (.if_icmp .le 6, 3) := by decide +kernel
theorem dX6_perform_66 : decode cX6_perform 66 = .ok (.bipush (-2), 2) := by decide +kernel
theorem dX6_perform_68 : decode cX6_perform 68 = .ok (.ireturn, 1) := by decide +kernel
theorem dX6_perform_69 : decode cX6_perform 69 = .ok (.aload_n 0, 1) := by decide +kernel
theorem dX6_perform_70 : decode cX6_perform 70 = .ok (.getfield 12, 3) := by decide +kernel
theorem dX6_perform_73 : decode cX6_perform 73 = .ok (.bipush 9, 2) := by decide +kernel
theorem dX6_perform_75 : decode cX6_perform 75 = .ok (.aload_n 1, 1) := by decide +kernel
theorem dX6_perform_76 : decode cX6_perform 76 = .ok (.getfield 229, 3) := by decide +kernel
theorem dX6_perform_79 : decode cX6_perform 79 = .ok (.imul, 1) := by decide +kernel
theorem dX6_perform_80 : decode cX6_perform 80 = .ok (.aload_n 1, 1) := by decide +kernel
theorem dX6_perform_81 : decode cX6_perform 81 = .ok (.getfield 232, 3) := by decide +kernel
theorem dX6_perform_84 : decode cX6_perform 84 = .ok (.iadd, 1) := by decide +kernel
theorem dX6_perform_85 : decode cX6_perform 85 = .ok (.aload_n 1, 1) := by decide +kernel
theorem dX6_perform_86 : decode cX6_perform 86 = .ok (.getfield 235, 3) := by decide +kernel
theorem dX6_perform_89 : decode cX6_perform 89 = .ok (.sipush 10000, 3) := by decide +kernel
theorem dX6_perform_92 : decode cX6_perform 92 = .ok (.aload_n 1, 1) := by decide +kernel
theorem dX6_perform_93 : decode cX6_perform 93 = .ok (.getfield 238, 3) := by decide +kernel
theorem dX6_perform_96 : decode cX6_perform 96 = .ok (.imul, 1) := by decide +kernel
theorem dX6_perform_97 : decode cX6_perform 97 = .ok (.bipush 100, 2) := by decide +kernel
theorem dX6_perform_99 : decode cX6_perform 99 = .ok (.aload_n 1, 1) := by decide +kernel
theorem dX6_perform_100 : decode cX6_perform 100 = .ok (.getfield 223, 3) := by decide +kernel
theorem dX6_perform_103 : decode cX6_perform 103 = .ok (.imul, 1) := by decide +kernel
theorem dX6_perform_104 : decode cX6_perform 104 = .ok (.iadd, 1) := by decide +kernel
theorem dX6_perform_105 : decode cX6_perform 105 = .ok (.aload_n 1, 1) := by decide +kernel
theorem dX6_perform_106 : decode cX6_perform 106 = .ok (.getfield 226, 3) := by decide +kernel
theorem dX6_perform_109 : decode cX6_perform 109 = .ok (.iadd, 1) := by decide +kernel
theorem dX6_perform_110 : decode cX6_perform 110 = .ok (.aload_n 0, 1) := by decide +kernel
theorem dX6_perform_111 : decode cX6_perform 111 = .ok (.getfield 12, 3) := by decide +kernel
theorem dX6_perform_114 : decode cX6_perform 114 = .ok (.getfield 89, 3) := by decide +kernel
theorem dX6_perform_117 : decode cX6_perform 117 = .ok (.bipush 10, 2) := by decide +kernel
theorem dX6_perform_119 : decode cX6_perform 119 = .ok (.aload_n 1, 1) := by decide +kernel
theorem dX6_perform_120 : decode cX6_perform 120 = .ok (.getfield 241, 3) := by decide +kernel
theorem dX6_perform_123 : decode cX6_perform 123 = .ok (.imul, 1) := by decide +kernel
theorem dX6_perform_124 : decode cX6_perform 124 = .ok (.iconst 5, 1) := by decide +kernel
theorem dX6_perform_125 : decode cX6_perform 125 = .ok (.iadd, 1) := by decide +kernel
theorem dX6_perform_126 : decode cX6_perform 126 = .ok (.iconst 0, 1) := by decide +kernel
theorem dX6_perform_127 : decode cX6_perform 127 = .ok (.invokevirtual 66, 3) := by decide +kernel
theorem dX6_perform_130 : decode cX6_perform 130 = .ok (.ireturn, 1) := by decide +kernel
theorem dX6_perform_131 : decode cX6_perform 131 = .ok (.aload_n 0, 1) := by decide +kernel
theorem dX6_perform_132 : decode cX6_perform 132 = .ok (.getfield 12, 3) := by decide +kernel
theorem dX6_perform_135 : decode cX6_perform 135 = .ok (.aload_n 1, 1) := by decide +kernel
theorem dX6_perform_136 : decode cX6_perform 136 = .ok (.getfield 235, 3) := by decide +kernel
theorem dX6_perform_139 : decode cX6_perform 139 = .ok (.invokevirtual 74, 3) := by decide +kernel
theorem dX6_perform_142 : decode cX6_perform 142 = .ok (.ireturn, 1) := by decide +kernel
theorem dX6_perform_143 : decode cX6_perform 143 = .ok (.aload_n 0, 1) := by decide +kernel
theorem dX6_perform_144 : decode cX6_perform 144 = .ok (.getfield 12, 3) := by decide +kernel
theorem dX6_perform_147 : decode cX6_perform 147 = .ok (.aload_n 1, 1) := by decide +kernel
theorem dX6_perform_148 : decode cX6_perform 148 = .ok (.getfield 235, 3) := by decide +kernel
theorem dX6_perform_151 : decode cX6_perform 151 = .ok (.invokevirtual 77, 3) := by decide +kernel
theorem dX6_perform_154 : decode cX6_perform 154 = .ok (.ireturn, 1) := by decide +kernel
theorem dX6_perform_155 : decode cX6_perform 155 = .ok (.aload_n 0, 1) := by decide +kernel
theorem dX6_perform_156 : decode cX6_perform 156 = .ok (.getfield 12, 3) := by decide +kernel
theorem dX6_perform_159 : decode cX6_perform 159 = .ok (.aload_n 1, 1) := by decide +kernel
theorem dX6_perform_160 : decode cX6_perform 160 = .ok (.getfield 229, 3) := by decide +kernel
theorem dX6_perform_163 : decode cX6_perform 163 = .ok (.aload_n 1, 1) := by decide +kernel
theorem dX6_perform_164 : decode cX6_perform 164 = .ok (.getfield 235, 3) := by decide +kernel
theorem dX6_perform_167 : decode cX6_perform 167 = .ok (.invokevirtual 63, 3) := by decide +kernel
theorem dX6_perform_170 : decode cX6_perform 170 = .ok (.ireturn, 1) := by decide +kernel
theorem dX6_perform_171 : decode cX6_perform 171 = .ok (.aload_n 0, 1) := by decide +kernel
theorem dX6_perform_172 : decode cX6_perform 172 = .ok (.getfield 12, 3) := by decide +kernel
theorem dX6_perform_175 : decode cX6_perform 175 = .ok (.aload_n 1, 1) := by decide +kernel
theorem dX6_perform_176 : decode cX6_perform 176 = .ok (.getfield 235, 3) := by decide +kernel
theorem dX6_perform_179 : decode cX6_perform 179 = .ok (.invokevirtual 83, 3) := by decide +kernel
theorem dX6_perform_182 : decode cX6_perform 182 = .ok (.istore_n 2, 1) := by decide +kernel
theorem dX6_perform_183 : decode cX6_perform 183 = .ok (.iload_n 2, 1) := by decide +kernel
theorem dX6_perform_184 : decode cX6_perform 184 = .ok (.ifCond .ne 16, 3) := by decide +kernel
theorem dX6_perform_187 : decode cX6_perform 187 = .ok (.aload_n 0, 1) := by decide +kernel
theorem dX6_perform_188 : decode cX6_perform 188 = .ok (.getfield 12, 3) := by decide +kernel
theorem dX6_perform_191 : decode cX6_perform 191 = .ok (.aload_n 1, 1) := by decide +kernel
theorem dX6_perform_192 : decode cX6_perform 192 = .ok (.getfield 235, 3) := by decide +kernel
theorem dX6_perform_195 : decode cX6_perform 195 = .ok (.iconst 0, 1) := by decide +kernel
theorem dX6_perform_196 : decode cX6_perform 196 = .ok (.invokevirtual 86, 3) := by decide +kernel
theorem dX6_perform_199 : decode cX6_perform 199 = .ok (.pop, 1) := by decide +kernel
theorem dX6_perform_200 : decode cX6_perform 200 = .ok (.iload_n 2, 1) := by decide +kernel
theorem dX6_perform_201 : decode cX6_perform 201 = .ok (.ireturn, 1) := by decide +kernel
theorem dX6_isBetween_0 : decode cX6_isBetween 0 = .ok (.iload_n 0, 1) := by decide +kernel
theorem dX6_isBetween_1 : decode cX6_isBetween 1 = .ok (.iload_n 1, 1) := by decide +kernel
theorem dX6_isBetween_2 : decode cX6_isBetween 2 = .ok (.if_icmp .lt 12, 3) := by decide +kernel
theorem dX6_isBetween_5 : decode cX6_isBetween 5 = .ok (.iload_n 0, 1) := by decide +kernel
theorem dX6_isBetween_6 : decode cX6_isBetween 6 = .ok (.iload_n 2, 1) := by decide +kernel
theorem dX6_isBetween_7 : decode cX6_isBetween 7 = .ok (.if_icmp .gt 7, 3) := by decide +kernel
theorem dX6_isBetween_10 : decode cX6_isBetween 10 = .ok (.iconst 1, 1) := by decide +kernel
theorem dX6_isBetween_11 : decode cX6_isBetween 11 = .ok (.goto 4, 3) := by decide +kernel
theorem dX6_isBetween_14 : decode cX6_isBetween 14 = .ok (.iconst 0, 1) := by decide +kernel
theorem dX6_isBetween_15 : decode cX6_isBetween 15 = .ok (.ireturn, 1) := by decide +kernel
theorem dX6_isError_0 : decode cX6_isError 0 = .ok (.iload_n 0, 1) := by decide +kernel
theorem dX6_isError_1 : decode cX6_isError 1 = .ok (.bipush (-5), 2) := by decide +kernel
theorem dX6_isError_3 : decode cX6_isError 3 = .ok (.iconst (-1), 1) := by decide +kernel
theorem dX6_isError_4 : decode cX6_isError 4 = .ok (.invokestatic 93, 3) := by decide +kernel
theorem dX6_isError_7 : decode cX6_isError 7 = .ok (.ireturn, 1) := by decide +kernel
theorem dX6_bitsOf_0 : decode cX6_bitsOf 0 = .ok (.dload_n 0, 1) := by decide +kernel
theorem dX6_bitsOf_1 : decode cX6_bitsOf 1 = .ok (.dconst 0, 1) := by decide +kernel
theorem dX6_bitsOf_2 : decode cX6_bitsOf 2 = .ok (.dcmp .l, 1) := by decide +kernel
theorem dX6_bitsOf_3 : decode cX6_bitsOf 3 = .ok (.ifCond .gt 5, 3) := by decide +kernel
theorem dX6_bitsOf_6 : decode cX6_bitsOf 6 = .ok (.lconst 0, 1) := by decide +kernel
theorem dX6_bitsOf_7 : decode cX6_bitsOf 7 = .ok (.lreturn, 1) := by decide +kernel
theorem dX6_bitsOf_8 : decode cX6_bitsOf 8 = .ok (.dload_n 0, 1) := by decide +kernel
theorem dX6_bitsOf_9 : decode cX6_bitsOf 9 = .ok (.dstore_n 2, 1) := by decide +kernel
theorem dX6_bitsOf_10 : decode cX6_bitsOf 10 = .ok (.ldc2_w 244, 3) := by decide +kernel
theorem dX6_bitsOf_13 : decode cX6_bitsOf 13 = .ok (.lstore 4, 2) := by decide +kernel
theorem dX6_bitsOf_15 : decode cX6_bitsOf 15 = .ok (.iconst 0, 1) := by decide +kernel
theorem dX6_bitsOf_16 : decode cX6_bitsOf 16 = .ok (.istore 6, 2) := by decide +kernel
theorem dX6_bitsOf_18 : decode cX6_bitsOf 18 = .ok (.iload 6, 2) := by decide +kernel
theorem dX6_bitsOf_20 : decode cX6_bitsOf 20 = .ok (.sipush 1023, 3) := by decide +kernel
theorem dX6_bitsOf_23 : decode cX6_bitsOf 23 = .ok (.if_icmp .ge 29, 3) := by decide +kernel
theorem dX6_bitsOf_26 : decode cX6_bitsOf 26 = .ok (.dload_n 2, 1) := by decide +kernel
theorem dX6_bitsOf_27 : decode cX6_bitsOf 27 = .ok (.ldc2_w 246, 3) := by decide +kernel
theorem dX6_bitsOf_30 : decode cX6_bitsOf 30 = .ok (.dcmp .l, 1) := by decide +kernel
theorem dX6_bitsOf_31 : decode cX6_bitsOf 31 = .ok (.ifCond .lt 21, 3) := by decide +kernel
theorem dX6_bitsOf_34 : decode cX6_bitsOf 34 = .ok (.dload_n 2, 1) := by decide +kernel
theorem dX6_bitsOf_35 : decode cX6_bitsOf 35 = .ok (.ldc2_w 246, 3) := by decide +kernel
theorem dX6_bitsOf_38 : decode cX6_bitsOf 38 = .ok (.ddiv, 1) := by decide +kernel
theorem dX6_bitsOf_39 : decode cX6_bitsOf 39 = .ok (.dstore_n 2, 1) := by decide +kernel
theorem dX6_bitsOf_40 : decode cX6_bitsOf 40 = .ok (.lload 4, 2) := by decide +kernel
theorem dX6_bitsOf_42 : decode cX6_bitsOf 42 = .ok (.lconst 1, 1) := by decide +kernel
theorem dX6_bitsOf_43 : decode cX6_bitsOf 43 = .ok (.ladd, 1) := by decide +kernel
theorem dX6_bitsOf_44 : decode cX6_bitsOf 44 = .ok (.lstore 4, 2) := by decide +kernel
theorem dX6_bitsOf_46 : decode cX6_bitsOf 46 = .ok (.iinc 6 1, 3) := by decide +kernel
theorem dX6_bitsOf_49 : decode cX6_bitsOf 49 = .ok (.goto (-31), 3) := by decide +kernel
theorem dX6_bitsOf_52 : decode cX6_bitsOf 52 = .ok (.iconst 0, 1) := by decide +kernel
theorem dX6_bitsOf_53 : decode cX6_bitsOf 53 = .ok (.istore 6, 2) := by decide +kernel
theorem dX6_bitsOf_55 : decode cX6_bitsOf 55 = .ok (.iload 6, 2) := by decide +kernel
theorem dX6_bitsOf_57 : decode cX6_bitsOf 57 = .ok (.sipush 1022, 3) := by decide +kernel
theorem dX6_bitsOf_60 : decode cX6_bitsOf 60 = .ok (.if_icmp .ge 27, 3) := by decide +kernel
theorem dX6_bitsOf_63 : decode cX6_bitsOf 63 = .ok (.dload_n 2, 1) := by decide +kernel
theorem dX6_bitsOf_64 : decode cX6_bitsOf 64 = .ok (.dconst 1, 1) := by decide +kernel
theorem dX6_bitsOf_65 : decode cX6_bitsOf 65 = .ok (.dcmp .g, 1) := by decide +kernel
theorem dX6_bitsOf_66 : decode cX6_bitsOf 66 = .ok (.ifCond .ge 21, 3) := by decide +kernel
theorem dX6_bitsOf_69 : decode cX6_bitsOf 69 = .ok (.dload_n 2, 1) := by decide +kernel
theorem dX6_bitsOf_70 : decode cX6_bitsOf 70 = .ok (.ldc2_w 246, 3) := by decide +kernel
theorem dX6_bitsOf_73 : decode cX6_bitsOf 73 = .ok (.dmul, 1) := by decide +kernel
theorem dX6_bitsOf_74 : decode cX6_bitsOf 74 = .ok (.dstore_n 2, 1) := by decide +kernel
theorem dX6_bitsOf_75 : decode cX6_bitsOf 75 = .ok (.lload 4, 2) := by decide +kernel
theorem dX6_bitsOf_77 : decode cX6_bitsOf 77 = .ok (.lconst 1, 1) := by decide +kernel
theorem dX6_bitsOf_78 : decode cX6_bitsOf 78 = .ok (.lsub, 1) := by decide +kernel
theorem dX6_bitsOf_79 : decode cX6_bitsOf 79 = .ok (.lstore 4, 2) := by decide +kernel
theorem dX6_bitsOf_81 : decode cX6_bitsOf 81 = .ok (.iinc 6 1, 3) := by decide +kernel
theorem dX6_bitsOf_84 : decode cX6_bitsOf 84 = .ok (.goto (-29), 3) := by decide +kernel
theorem dX6_bitsOf_87 : decode cX6_bitsOf 87 = .ok (.lload 4, 2) := by decide +kernel
theorem dX6_bitsOf_89 : decode cX6_bitsOf 89 = .ok (.bipush 52, 2) := by decide +kernel
theorem dX6_bitsOf_91 : decode cX6_bitsOf 91 = .ok (.lshl, 1) := by decide +kernel
theorem dX6_bitsOf_92 : decode cX6_bitsOf 92 = .ok (.dload_n 2, 1) := by decide +kernel
theorem dX6_bitsOf_93 : decode cX6_bitsOf 93 = .ok (.dconst 1, 1) := by decide +kernel
theorem dX6_bitsOf_94 : decode cX6_bitsOf 94 = .ok (.dsub, 1) := by decide +kernel
theorem dX6_bitsOf_95 : decode cX6_bitsOf 95 = .ok (.ldc2_w 248, 3) := by decide +kernel
theorem dX6_bitsOf_98 : decode cX6_bitsOf 98 = .ok (.dmul, 1) := by decide +kernel
theorem dX6_bitsOf_99 : decode cX6_bitsOf 99 = .ok (.d2l, 1) := by decide +kernel
theorem dX6_bitsOf_100 : decode cX6_bitsOf 100 = .ok (.ladd, 1) := by decide +kernel
theorem dX6_bitsOf_101 : decode cX6_bitsOf 101 = .ok (.lreturn, 1) := by decide +kernel
theorem dJ11_isValidCodePoint_9a6ad_0 : decode cJ11_isValidCodePoint_9a6ad 0 = .ok (.iload_n 0, 1) := by decide +kernel
theorem dJ11_isValidCodePoint_9a6ad_1 : decode cJ11_isValidCodePoint_9a6ad 1 = .ok (.bipush 16, 2) := by decide +kernel
theorem dJ11_isValidCodePoint_9a6ad_3 : decode cJ11_isValidCodePoint_9a6ad 3 = .ok (.iushr, 1) := by decide +kernel
theorem dJ11_isValidCodePoint_9a6ad_4 : decode cJ11_isValidCodePoint_9a6ad 4 = .ok (.istore_n 1, 1) := by decide +kernel
theorem dJ11_isValidCodePoint_9a6ad_5 : decode cJ11_isValidCodePoint_9a6ad 5 = .ok (.iload_n 1, 1) := by decide +kernel
theorem dJ11_isValidCodePoint_9a6ad_6 : decode cJ11_isValidCodePoint_9a6ad 6 = .ok (.bipush 17, 2) := by decide +kernel
theorem dJ11_isValidCodePoint_9a6ad_8 : decode cJ11_isValidCodePoint_9a6ad 8 = .ok (.if_icmp .ge 7, 3) := by decide +kernel
theorem dJ11_isValidCodePoint_9a6ad_11 : decode cJ11_isValidCodePoint_9a6ad 11 = .ok (.iconst 1, 1) := by decide +kernel
theorem dJ11_isValidCodePoint_9a6ad_12 : decode cJ11_isValidCodePoint_9a6ad 12 = .ok (.goto 4, 3) := by decide +kernel
theorem dJ11_isValidCodePoint_9a6ad_15 : decode cJ11_isValidCodePoint_9a6ad 15 = .ok (.iconst 0, 1) := by decide +kernel
theorem dJ11_isValidCodePoint_9a6ad_16 : decode cJ11_isValidCodePoint_9a6ad 16 = .ok (.ireturn, 1) := by decide +kernel
theorem dJ11_highSurrogate_5068e_0 : decode cJ11_highSurrogate_5068e 0 = .ok (.iload_n 0, 1) := by decide +kernel
theorem dJ11_highSurrogate_5068e_1 : decode cJ11_highSurrogate_5068e 1 = .ok (.bipush 10, 2) := by decide +kernel
theorem dJ11_highSurrogate_5068e_3 : decode cJ11_highSurrogate_5068e 3 = .ok (.iushr, 1) := by decide +kernel
theorem dJ11_highSurrogate_5068e_4 : decode cJ11_highSurrogate_5068e 4 = .ok (.ldc 110, 2) := by decide +kernel
theorem dJ11_highSurrogate_5068e_6 : decode cJ11_highSurrogate_5068e 6 = .ok (.iadd, 1) := by decide +kernel
theorem dJ11_highSurrogate_5068e_7 : decode cJ11_highSurrogate_5068e 7 = .ok (.i2c, 1) := by decide +kernel
theorem dJ11_highSurrogate_5068e_8 : decode cJ11_highSurrogate_5068e 8 = .ok (.ireturn, 1) := by decide +kernel
theorem dJ11_lowSurrogate_5068e_0 : decode cJ11_lowSurrogate_5068e 0 = .ok (.iload_n 0, 1) := by decide +kernel
theorem dJ11_lowSurrogate_5068e_1 : decode cJ11_lowSurrogate_5068e 1 = .ok (.sipush 1023, 3) := by decide +kernel
theorem dJ11_lowSurrogate_5068e_4 : decode cJ11_lowSurrogate_5068e 4 = .ok (.iand, 1) := by decide +kernel
theorem dJ11_lowSurrogate_5068e_5 : decode cJ11_lowSurrogate_5068e 5 = .ok (.ldc 76, 2) := by decide +kernel
theorem dJ11_lowSurrogate_5068e_7 : decode cJ11_lowSurrogate_5068e 7 = .ok (.iadd, 1) := by decide +kernel
theorem dJ11_lowSurrogate_5068e_8 : decode cJ11_lowSurrogate_5068e 8 = .ok (.i2c, 1) := by decide +kernel
theorem dJ11_lowSurrogate_5068e_9 : decode cJ11_lowSurrogate_5068e 9 = .ok (.ireturn, 1) := by decide +kernel
theorem dJ9_max_7cf53_0 : decode cJ9_max_7cf53 0 = .ok (.iload_n 0, 1) := by decide +kernel
theorem dJ9_max_7cf53_1 : decode cJ9_max_7cf53 1 = .ok (.iload_n 1, 1) := by decide +kernel
theorem dJ9_max_7cf53_2 : decode cJ9_max_7cf53 2 = .ok (.if_icmp .lt 7, 3) := by decide +kernel
theorem dJ9_max_7cf53_5 : decode cJ9_max_7cf53 5 = .ok (.iload_n 0, 1) := by decide +kernel
theorem dJ9_max_7cf53_6 : decode cJ9_max_7cf53 6 = .ok (.goto 4, 3) := by decide +kernel
theorem dJ9_max_7cf53_9 : decode cJ9_max_7cf53 9 = .ok (.iload_n 1, 1) := by decide +kernel
theorem dJ9_max_7cf53_10 : decode cJ9_max_7cf53 10 = .ok (.ireturn, 1) := by decide +kernel
theorem dJ9_min_7cf53_0 : decode cJ9_min_7cf53 0 = .ok (.iload_n 0, 1) := by decide +kernel
theorem dJ9_min_7cf53_1 : decode cJ9_min_7cf53 1 = .ok (.iload_n 1, 1) := by decide +kernel
theorem dJ9_min_7cf53_2 : decode cJ9_min_7cf53 2 = .ok (.if_icmp .gt 7, 3) := by decide +kernel
theorem dJ9_min_7cf53_5 : decode cJ9_min_7cf53 5 = .ok (.iload_n 0, 1) := by decide +kernel
theorem dJ9_min_7cf53_6 : decode cJ9_min_7cf53 6 = .ok (.goto 4, 3) := by decide +kernel
theorem dJ9_min_7cf53_9 : decode cJ9_min_7cf53 9 = .ok (.iload_n 1, 1) := by decide +kernel
theorem dJ9_min_7cf53_10 : decode cJ9_min_7cf53 10 = .ok (.ireturn, 1) := by decide +kernel
theorem dJ9_min_f86c9_0 : decode cJ9_min_f86c9 0 = .ok (.lload_n 0, 1) := by decide +kernel
theorem dJ9_min_f86c9_1 : decode cJ9_min_f86c9 1 = .ok (.lload_n 2, 1) := by decide +kernel
theorem dJ9_min_f86c9_2 : decode cJ9_min_f86c9 2 = .ok (.lcmp, 1) := by decide +kernel
theorem dJ9_min_f86c9_3 : decode cJ9_min_f86c9 3 = .ok (.ifCond .gt 7, 3) := by decide +kernel
theorem dJ9_min_f86c9_6 : decode cJ9_min_f86c9 6 = .ok (.lload_n 0, 1) := by decide +kernel
theorem dJ9_min_f86c9_7 : decode cJ9_min_f86c9 7 = .ok (.goto 4, 3) := by decide +kernel
theorem dJ9_min_f86c9_10 : decode cJ9_min_f86c9 10 = .ok (.lload_n 2, 1) := by decide +kernel
theorem dJ9_min_f86c9_11 : decode cJ9_min_f86c9 11 = .ok (.lreturn, 1) := by decide +kernel
theorem dJ0_length_8abf5_0 : decode cJ0_length_8abf5 0 = .ok (.aload_n 0, 1) := by decide +kernel
theorem dJ0_length_8abf5_1 : decode cJ0_length_8abf5 1 = .ok (.getfield 9, 3) := by decide +kernel
theorem dJ0_length_8abf5_4 : decode cJ0_length_8abf5 4 = .ok (.arraylength, 1) := by decide +kernel
theorem dJ0_length_8abf5_5 : decode cJ0_length_8abf5 5 = .ok (.aload_n 0, 1) := by decide +kernel
theorem dJ0_length_8abf5_6 : decode cJ0_length_8abf5 6 = .ok (.invokevirtual 335, 3) := by decide +kernel
theorem dJ0_length_8abf5_9 : decode cJ0_length_8abf5 9 = .ok (.ishr, 1) := by decide +kernel
theorem dJ0_length_8abf5_10 : decode cJ0_length_8abf5 10 = .ok (.ireturn, 1) := by decide +kernel
theorem dJ0_indexOf_0f7a4_0 : decode cJ0_indexOf_0f7a4 0 = .ok (.aload_n 0, 1) := by decide +kernel
theorem dJ0_indexOf_0f7a4_1 : decode cJ0_indexOf_0f7a4 1 = .ok (.iload_n 1, 1) := by decide +kernel
theorem dJ0_indexOf_0f7a4_2 : decode cJ0_indexOf_0f7a4 2 = .ok (.iconst 0, 1) := by decide +kernel
theorem dJ0_indexOf_0f7a4_3 : decode cJ0_indexOf_0f7a4 3 = .ok (.invokevirtual 633, 3) := by decide +kernel
theorem dJ0_indexOf_0f7a4_6 : decode cJ0_indexOf_0f7a4 6 = .ok (.ireturn, 1) := by decide +kernel
theorem dJ0_indexOf_7cf53_0 : decode cJ0_indexOf_7cf53 0 = .ok (.aload_n 0, 1) := by decide +kernel
theorem dJ0_indexOf_7cf53_1 : decode cJ0_indexOf_7cf53 1 = .ok (.invokevirtual 492, 3) := by decide +kernel
theorem dJ0_indexOf_7cf53_4 : decode cJ0_indexOf_7cf53 4 = .ok (.ifCond .eq 19, 3) := by decide +kernel
theorem dJ0_indexOf_7cf53_7 : decode cJ0_indexOf_7cf53 7 = .ok (.aload_n 0, 1) := by decide +kernel
theorem dJ0_indexOf_7cf53_8 : decode cJ0_indexOf_7cf53 8 = .ok (.getfield 9, 3) := by decide +kernel
theorem dJ0_indexOf_7cf53_11 : decode cJ0_indexOf_7cf53 11 = .ok (.iload_n 1, 1) := by decide +kernel
theorem dJ0_indexOf_7cf53_12 : decode cJ0_indexOf_7cf53 12 = .ok (.iload_n 2, 1) := by decide +kernel
theorem dJ0_indexOf_7cf53_13 : decode cJ0_indexOf_7cf53 13 = .ok (.aload_n 0, 1) := by decide +kernel
theorem dJ0_indexOf_7cf53_14 : decode cJ0_indexOf_7cf53 14 = .ok (.invokevirtual 505, 3) := by decide +kernel
theorem dJ0_indexOf_7cf53_17 : decode cJ0_indexOf_7cf53 17 = .ok (.invokestatic 637, 3) := by decide +kernel
theorem dJ0_indexOf_7cf53_20 : decode cJ0_indexOf_7cf53 20 = .ok (.goto 16, 3) := by decide +kernel
theorem dJ0_indexOf_7cf53_23 : decode cJ0_indexOf_7cf53 23 = .ok (.aload_n 0, 1) := by decide +kernel
theorem dJ0_indexOf_7cf53_24 : decode cJ0_indexOf_7cf53 24 = .ok (.getfield 9, 3) := by decide +kernel
theorem dJ0_indexOf_7cf53_27 : decode cJ0_indexOf_7cf53 27 = .ok (.iload_n 1, 1) := by decide +kernel
theorem dJ0_indexOf_7cf53_28 : decode cJ0_indexOf_7cf53 28 = .ok (.iload_n 2, 1) := by decide +kernel
theorem dJ0_indexOf_7cf53_29 : decode cJ0_indexOf_7cf53 29 = .ok (.aload_n 0, 1) := by decide +kernel
theorem dJ0_indexOf_7cf53_30 : decode cJ0_indexOf_7cf53 30 = .ok (.invokevirtual 505, 3) := by decide +kernel
theorem dJ0_indexOf_7cf53_33 : decode cJ0_indexOf_7cf53 33 = .ok (.invokestatic 640, 3) := by decide +kernel
theorem dJ0_indexOf_7cf53_36 : decode cJ0_indexOf_7cf53 36 = .ok (.ireturn, 1) := by decide +kernel
theorem dJ0_coder_7d493_0 : decode cJ0_coder_7d493 0 = .ok (.getstatic 38, 3) := by decide +kernel
theorem dJ0_coder_7d493_3 : decode cJ0_coder_7d493 3 = .ok (.ifCond .eq 10, 3) := by decide +kernel
theorem dJ0_coder_7d493_6 : decode cJ0_coder_7d493 6 = .ok (.aload_n 0, 1) := by decide +kernel
theorem dJ0_coder_7d493_7 : decode cJ0_coder_7d493 7 = .ok (.getfield 15, 3) := by decide +kernel
theorem dJ0_coder_7d493_10 : decode cJ0_coder_7d493 10 = .ok (.goto 4, 3) := by decide +kernel
theorem dJ0_coder_7d493_13 : decode cJ0_coder_7d493 13 = .ok (.iconst 1, 1) := by decide +kernel
theorem dJ0_coder_7d493_14 : decode cJ0_coder_7d493 14 = .ok (.ireturn, 1) := by decide +kernel
theorem dJ0_isLatin1_aae02_0 : decode cJ0_isLatin1_aae02 0 = .ok (.getstatic 38, 3) := by decide +kernel
theorem dJ0_isLatin1_aae02_3 : decode cJ0_isLatin1_aae02 3 = .ok (.ifCond .eq 14, 3) := by decide +kernel
theorem dJ0_isLatin1_aae02_6 : decode cJ0_isLatin1_aae02 6 = .ok (.aload_n 0, 1) := by decide +kernel
theorem dJ0_isLatin1_aae02_7 : decode cJ0_isLatin1_aae02 7 = .ok (.getfield 15, 3) := by decide +kernel
theorem dJ0_isLatin1_aae02_10 : decode cJ0_isLatin1_aae02 10 = .ok (.ifCond .ne 7, 3) := by decide +kernel
theorem dJ0_isLatin1_aae02_13 : decode cJ0_isLatin1_aae02 13 = .ok (.iconst 1, 1) := by decide +kernel
theorem dJ0_isLatin1_aae02_14 : decode cJ0_isLatin1_aae02 14 = .ok (.goto 4, 3) := by decide +kernel
theorem dJ0_isLatin1_aae02_17 : decode cJ0_isLatin1_aae02 17 = .ok (.iconst 0, 1) := by decide +kernel
theorem dJ0_isLatin1_aae02_18 : decode cJ0_isLatin1_aae02 18 = .ok (.ireturn, 1) := by decide +kernel
theorem dJ0_checkBoundsBeginEnd_23922_0 : decode cJ0_checkBoundsBeginEnd_23922 0 = .ok (.iload_n 0, 1) := by decide +kernel
theorem dJ0_checkBoundsBeginEnd_23922_1 : decode cJ0_checkBoundsBeginEnd_23922 1 = .ok (.iload_n 1, 1) := by decide +kernel
theorem dJ0_checkBoundsBeginEnd_23922_2 : decode cJ0_checkBoundsBeginEnd_23922 2 = .ok (.iload_n 2, 1) := by decide +kernel
theorem dJ0_checkBoundsBeginEnd_23922_3 : decode cJ0_checkBoundsBeginEnd_23922 3 = .ok (.getstatic 1053, 3) := by decide +kernel
theorem dJ0_checkBoundsBeginEnd_23922_6 : decode cJ0_checkBoundsBeginEnd_23922 6 = .ok (.invokestatic 1062, 3) := by decide +kernel
theorem dJ0_checkBoundsBeginEnd_23922_9 : decode cJ0_checkBoundsBeginEnd_23922 9 = .ok (.pop, 1) := by decide +kernel
theorem dJ0_checkBoundsBeginEnd_23922_10 : decode cJ0_checkBoundsBeginEnd_23922 10 = .ok (.return_, 1) := by decide +kernel
theorem dJ1_canEncode_9a6ad_0 : decode cJ1_canEncode_9a6ad 0 = .ok (.iload_n 0, 1) := by decide +kernel
theorem dJ1_canEncode_9a6ad_1 : decode cJ1_canEncode_9a6ad 1 = .ok (.ifCond .lt 14, 3) := by decide +kernel
theorem dJ1_canEncode_9a6ad_4 : decode cJ1_canEncode_9a6ad 4 = .ok (.iload_n 0, 1) := by decide +kernel
theorem dJ1_canEncode_9a6ad_5 : decode cJ1_canEncode_9a6ad 5 = .ok (.sipush 255, 3) := by decide +kernel
theorem dJ1_canEncode_9a6ad_8 : decode cJ1_canEncode_9a6ad 8 = .ok (.if_icmp .gt 7, 3) := by decide +kernel
theorem dJ1_canEncode_9a6ad_11 : decode cJ1_canEncode_9a6ad 11 = .ok (.iconst 1, 1) := by decide +kernel
theorem dJ1_canEncode_9a6ad_12 : decode cJ1_canEncode_9a6ad 12 = .ok (.goto 4, 3) := by decide +kernel
theorem dJ1_canEncode_9a6ad_15 : decode cJ1_canEncode_9a6ad 15 = .ok (.iconst 0, 1) := by decide +kernel
theorem dJ1_canEncode_9a6ad_16 : decode cJ1_canEncode_9a6ad 16 = .ok (.ireturn, 1) := by decide +kernel
theorem dJ1_indexOf_4cfef_0 : decode cJ1_indexOf_4cfef 0 = .ok (.iload_n 1, 1) := by decide +kernel
theorem dJ1_indexOf_4cfef_1 : decode cJ1_indexOf_4cfef 1 = .ok (.invokestatic 88, 3) := by decide +kernel
theorem dJ1_indexOf_4cfef_4 : decode cJ1_indexOf_4cfef 4 = .ok (.ifCond .ne 5, 3) := by decide +kernel
theorem dJ1_indexOf_4cfef_7 : decode cJ1_indexOf_4cfef 7 = .ok (.iconst (-1), 1) := by decide +kernel
theorem dJ1_indexOf_4cfef_8 : decode cJ1_indexOf_4cfef 8 = .ok (.ireturn, 1) := by decide +kernel
theorem dJ1_indexOf_4cfef_9 : decode cJ1_indexOf_4cfef 9 = .ok (.iload_n 2, 1) := by decide +kernel
theorem dJ1_indexOf_4cfef_10 : decode cJ1_indexOf_4cfef 10 = .ok (.iconst 0, 1) := by decide +kernel
theorem dJ1_indexOf_4cfef_11 : decode cJ1_indexOf_4cfef 11 = .ok (.invokestatic 92, 3) := by decide +kernel
theorem dJ1_indexOf_4cfef_14 : decode cJ1_indexOf_4cfef 14 = .ok (.istore_n 2, 1) := by decide +kernel
theorem dJ1_indexOf_4cfef_15 : decode cJ1_indexOf_4cfef 15 = .ok (.iload_n 3, 1) := by decide +kernel
theorem dJ1_indexOf_4cfef_16 : decode cJ1_indexOf_4cfef 16 = .ok (.aload_n 0, 1) := by decide +kernel
theorem dJ1_indexOf_4cfef_17 : decode cJ1_indexOf_4cfef 17 = .ok (.arraylength, 1) := by decide +kernel
theorem dJ1_indexOf_4cfef_18 : decode cJ1_indexOf_4cfef 18 = .ok (.invokestatic 38, 3) := by decide +kernel
theorem dJ1_indexOf_4cfef_21 : decode cJ1_indexOf_4cfef 21 = .ok (.istore_n 3, 1) := by decide +kernel
theorem dJ1_indexOf_4cfef_22 : decode cJ1_indexOf_4cfef 22 = .ok (.iload_n 2, 1) := by decide +kernel
theorem dJ1_indexOf_4cfef_23 : decode cJ1_indexOf_4cfef 23 = .ok (.iload_n 3, 1) := by decide +kernel
theorem dJ1_indexOf_4cfef_24 : decode cJ1_indexOf_4cfef 24 = .ok (.if_icmp .lt 5, 3) := by decide +kernel
theorem dJ1_indexOf_4cfef_27 : decode cJ1_indexOf_4cfef 27 = .ok (.iconst (-1), 1) := by decide +kernel
theorem dJ1_indexOf_4cfef_28 : decode cJ1_indexOf_4cfef 28 = .ok (.ireturn, 1) := by decide +kernel
theorem dJ1_indexOf_4cfef_29 : decode cJ1_indexOf_4cfef 29 = .ok (.aload_n 0, 1) := by decide +kernel
theorem dJ1_indexOf_4cfef_30 : decode cJ1_indexOf_4cfef 30 = .ok (.iload_n 1, 1) := by decide +kernel
theorem dJ1_indexOf_4cfef_31 : decode cJ1_indexOf_4cfef 31 = .ok (.iload_n 2, 1) := by decide +kernel
theorem dJ1_indexOf_4cfef_32 : decode cJ1_indexOf_4cfef 32 = .ok (.iload_n 3, 1) := by decide +kernel
theorem dJ1_indexOf_4cfef_33 : decode cJ1_indexOf_4cfef 33 = .ok (.invokestatic 95, 3) := by decide +kernel
theorem dJ1_indexOf_4cfef_36 : decode cJ1_indexOf_4cfef 36 = .ok (.ireturn, 1) := by decide +kernel
theorem dJ1_indexOfChar_4cfef_0 : decode cJ1_indexOfChar_4cfef 0 = .ok (.iload_n 1, 1) := by decide +kernel
theorem dJ1_indexOfChar_4cfef_1 : decode cJ1_indexOfChar_4cfef 1 = .ok (.i2b, 1) := by decide +kernel
theorem dJ1_indexOfChar_4cfef_2 : decode cJ1_indexOfChar_4cfef 2 = .ok (.istore 4, 2) := by decide +kernel
theorem dJ1_indexOfChar_4cfef_4 : decode cJ1_indexOfChar_4cfef 4 = .ok (.iload_n 2, 1) := by decide +kernel
theorem dJ1_indexOfChar_4cfef_5 : decode cJ1_indexOfChar_4cfef 5 = .ok (.istore 5, 2) := by decide +kernel
theorem dJ1_indexOfChar_4cfef_7 : decode cJ1_indexOfChar_4cfef 7 = .ok (.iload 5, 2) := by decide +kernel
theorem dJ1_indexOfChar_4cfef_9 : decode cJ1_indexOfChar_4cfef 9 = .ok (.iload_n 3, 1) := by decide +kernel
theorem dJ1_indexOfChar_4cfef_10 : decode cJ1_indexOfChar_4cfef 10 = .ok (.if_icmp .ge 21, 3) := by decide +kernel
theorem dJ1_indexOfChar_4cfef_13 : decode cJ1_indexOfChar_4cfef 13 = .ok (.aload_n 0, 1) := by decide +kernel
theorem dJ1_indexOfChar_4cfef_14 : decode cJ1_indexOfChar_4cfef 14 = .ok (.iload 5, 2) := by decide +kernel
theorem dJ1_indexOfChar_4cfef_16 : decode cJ1_indexOfChar_4cfef 16 = .ok (.baload, 1) := by decide +kernel
theorem dJ1_indexOfChar_4cfef_17 : decode cJ1_indexOfChar_4cfef 17 = .ok (.iload 4, 2) := by decide +kernel
theorem dJ1_indexOfChar_4cfef_19 : decode cJ1_indexOfChar_4cfef 19 = .ok (.if_icmp .ne 6, 3) := by decide +kernel
theorem dJ1_indexOfChar_4cfef_22 : decode cJ1_indexOfChar_4cfef 22 = .ok (.iload 5, 2) := by decide +kernel
theorem dJ1_indexOfChar_4cfef_24 : decode cJ1_indexOfChar_4cfef 24 = .ok (.ireturn, 1) := by decide +kernel
theorem dJ1_indexOfChar_4cfef_25 : decode cJ1_indexOfChar_4cfef 25 = .ok (.iinc 5 1, 3) := by decide +kernel
theorem dJ1_indexOfChar_4cfef_28 : decode cJ1_indexOfChar_4cfef 28 = .ok (.goto (-21), 3) := by decide +kernel
theorem dJ1_indexOfChar_4cfef_31 : decode cJ1_indexOfChar_4cfef 31 = .ok (.iconst (-1), 1) := by decide +kernel
theorem dJ1_indexOfChar_4cfef_32 : decode cJ1_indexOfChar_4cfef 32 = .ok (.ireturn, 1) := by decide +kernel
theorem dJ2_getChar_3b067_0 : decode cJ2_getChar_3b067 0 = .ok (.getstatic 44, 3) := by decide +kernel
theorem dJ2_getChar_3b067_3 : decode cJ2_getChar_3b067 3 = .ok (.ifCond .ne 25, 3) := by decide +kernel
theorem dJ2_getChar_3b067_6 : decode cJ2_getChar_3b067 6 = .ok (.iload_n 1, 1) := by decide +kernel
theorem dJ2_getChar_3b067_7 : decode cJ2_getChar_3b067 7 = .ok (.ifCond .lt 11, 3) := by decide +kernel
theorem dJ2_getChar_3b067_10 : decode cJ2_getChar_3b067 10 = .ok (.iload_n 1, 1) := by decide +kernel
theorem dJ2_getChar_3b067_11 : decode cJ2_getChar_3b067 11 = .ok (.aload_n 0, 1) := by decide +kernel
theorem dJ2_getChar_3b067_12 : decode cJ2_getChar_3b067 12 = .ok (.invokestatic 48, 3) := by decide +kernel
theorem dJ2_getChar_3b067_15 : decode cJ2_getChar_3b067 15 = .ok (.if_icmp .lt 13, 3) := by decide +kernel
theorem dJ2_getChar_3b067_18 : decode cJ2_getChar_3b067 18 = .ok (.new 52, 3) := by decide +kernel
theorem dJ2_getChar_3b067_21 : decode cJ2_getChar_3b067 21 = .ok (.dup, 1) := by decide +kernel
theorem dJ2_getChar_3b067_22 : decode cJ2_getChar_3b067 22 = .ok (.ldc 54, 2) := by decide +kernel
theorem dJ2_getChar_3b067_24 : decode cJ2_getChar_3b067 24 = .ok (.invokespecial 56, 3) := by decide +kernel
theorem dJ2_getChar_3b067_27 : decode cJ2_getChar_3b067 27 = .ok (.athrow, 1) := by decide +kernel
theorem dJ2_getChar_3b067_28 : decode cJ2_getChar_3b067 28 = .ok (.iload_n 1, 1) := by decide +kernel
theorem dJ2_getChar_3b067_29 : decode cJ2_getChar_3b067 29 = .ok (.iconst 1, 1) := by decide +kernel
theorem dJ2_getChar_3b067_30 : decode cJ2_getChar_3b067 30 = .ok (.ishl, 1) := by decide +kernel
theorem dJ2_getChar_3b067_31 : decode cJ2_getChar_3b067 31 = .ok (.istore_n 1, 1) := by decide +kernel
theorem dJ2_getChar_3b067_32 : decode cJ2_getChar_3b067 32 = .ok (.aload_n 0, 1) := by decide +kernel
theorem dJ2_getChar_3b067_33 : decode cJ2_getChar_3b067 33 = .ok (.iload_n 1, 1) := by decide +kernel
theorem dJ2_getChar_3b067_34 : decode cJ2_getChar_3b067 34 = .ok (.iinc 1 1, 3) := by decide +kernel
theorem dJ2_getChar_3b067_37 : decode cJ2_getChar_3b067 37 = .ok (.baload, 1) := by decide +kernel
theorem dJ2_getChar_3b067_38 : decode cJ2_getChar_3b067 38 = .ok (.sipush 255, 3) := by decide +kernel
theorem dJ2_getChar_3b067_41 : decode cJ2_getChar_3b067 41 = .ok (.iand, 1) := by decide +kernel
theorem dJ2_getChar_3b067_42 : decode cJ2_getChar_3b067 42 = .ok (.getstatic 59, 3) := by decide +kernel
theorem dJ2_getChar_3b067_45 : decode cJ2_getChar_3b067 45 = .ok (.ishl, 1) := by decide +kernel
theorem dJ2_getChar_3b067_46 : decode cJ2_getChar_3b067 46 = .ok (.aload_n 0, 1) := by decide +kernel
theorem dJ2_getChar_3b067_47 : decode cJ2_getChar_3b067 47 = .ok (.iload_n 1, 1) := by decide +kernel
theorem dJ2_getChar_3b067_48 : decode cJ2_getChar_3b067 48 = .ok (.baload, 1) := by decide +kernel
theorem dJ2_getChar_3b067_49 : decode cJ2_getChar_3b067 49 = .ok (.sipush 255, 3) := by decide +kernel
theorem dJ2_getChar_3b067_52 : decode cJ2_getChar_3b067 52 = .ok (.iand, 1) := by decide +kernel
theorem dJ2_getChar_3b067_53 : decode cJ2_getChar_3b067 53 = .ok (.getstatic 63, 3) := by decide +kernel
theorem dJ2_getChar_3b067_56 : decode cJ2_getChar_3b067 56 = .ok (.ishl, 1) := by decide +kernel
theorem dJ2_getChar_3b067_57 : decode cJ2_getChar_3b067 57 = .ok (.ior, 1) := by decide +kernel
theorem dJ2_getChar_3b067_58 : decode cJ2_getChar_3b067 58 = .ok (.i2c, 1) := by decide +kernel
theorem dJ2_getChar_3b067_59 : decode cJ2_getChar_3b067 59 = .ok (.ireturn, 1) := by decide +kernel
theorem dJ2_length_9d52b_0 : decode cJ2_length_9d52b 0 = .ok (.aload_n 0, 1) := by decide +kernel
theorem dJ2_length_9d52b_1 : decode cJ2_length_9d52b 1 = .ok (.arraylength, 1) := by decide +kernel
theorem dJ2_length_9d52b_2 : decode cJ2_length_9d52b 2 = .ok (.iconst 1, 1) := by decide +kernel
theorem dJ2_length_9d52b_3 : decode cJ2_length_9d52b 3 = .ok (.ishr, 1) := by decide +kernel
theorem dJ2_length_9d52b_4 : decode cJ2_length_9d52b 4 = .ok (.ireturn, 1) := by decide +kernel
theorem dJ2_indexOf_4cfef_0 : decode cJ2_indexOf_4cfef 0 = .ok (.iload_n 2, 1) := by decide +kernel
theorem dJ2_indexOf_4cfef_1 : decode cJ2_indexOf_4cfef 1 = .ok (.iconst 0, 1) := by decide +kernel
theorem dJ2_indexOf_4cfef_2 : decode cJ2_indexOf_4cfef 2 = .ok (.invokestatic 224, 3) := by decide +kernel
theorem dJ2_indexOf_4cfef_5 : decode cJ2_indexOf_4cfef 5 = .ok (.istore_n 2, 1) := by decide +kernel
theorem dJ2_indexOf_4cfef_6 : decode cJ2_indexOf_4cfef 6 = .ok (.iload_n 3, 1) := by decide +kernel
theorem dJ2_indexOf_4cfef_7 : decode cJ2_indexOf_4cfef 7 = .ok (.aload_n 0, 1) := by decide +kernel
theorem dJ2_indexOf_4cfef_8 : decode cJ2_indexOf_4cfef 8 = .ok (.arraylength, 1) := by decide +kernel
theorem dJ2_indexOf_4cfef_9 : decode cJ2_indexOf_4cfef 9 = .ok (.iconst 1, 1) := by decide +kernel
theorem dJ2_indexOf_4cfef_10 : decode cJ2_indexOf_4cfef 10 = .ok (.ishr, 1) := by decide +kernel
theorem dJ2_indexOf_4cfef_11 : decode cJ2_indexOf_4cfef 11 = .ok (.invokestatic 183, 3) := by decide +kernel
theorem dJ2_indexOf_4cfef_14 : decode cJ2_indexOf_4cfef 14 = .ok (.istore_n 3, 1) := by decide +kernel
theorem dJ2_indexOf_4cfef_15 : decode cJ2_indexOf_4cfef 15 = .ok (.iload_n 2, 1) := by decide +kernel
theorem dJ2_indexOf_4cfef_16 : decode cJ2_indexOf_4cfef 16 = .ok (.iload_n 3, 1) := by decide +kernel
theorem dJ2_indexOf_4cfef_17 : decode cJ2_indexOf_4cfef 17 = .ok (.if_icmp .lt 5, 3) := by decide +kernel
theorem dJ2_indexOf_4cfef_20 : decode cJ2_indexOf_4cfef 20 = .ok (.iconst (-1), 1) := by decide +kernel
theorem dJ2_indexOf_4cfef_21 : decode cJ2_indexOf_4cfef 21 = .ok (.ireturn, 1) := by decide +kernel
theorem dJ2_indexOf_4cfef_22 : decode cJ2_indexOf_4cfef 22 = .ok (.iload_n 1, 1) := by decide +kernel
theorem dJ2_indexOf_4cfef_23 : decode cJ2_indexOf_4cfef 23 = .ok (.ldc 227, 2) := by decide +kernel
theorem dJ2_indexOf_4cfef_25 : decode cJ2_indexOf_4cfef 25 = .ok (.if_icmp .ge 11, 3) := by decide +kernel
theorem dJ2_indexOf_4cfef_28 : decode cJ2_indexOf_4cfef 28 = .ok (.aload_n 0, 1) := by decide +kernel
theorem dJ2_indexOf_4cfef_29 : decode cJ2_indexOf_4cfef 29 = .ok (.iload_n 1, 1) := by decide +kernel
theorem dJ2_indexOf_4cfef_30 : decode cJ2_indexOf_4cfef 30 = .ok (.iload_n 2, 1) := by decide +kernel
theorem dJ2_indexOf_4cfef_31 : decode cJ2_indexOf_4cfef 31 = .ok (.iload_n 3, 1) := by decide +kernel
theorem dJ2_indexOf_4cfef_32 : decode cJ2_indexOf_4cfef 32 = .ok (.invokestatic 228, 3) := by decide +kernel
theorem dJ2_indexOf_4cfef_35 : decode cJ2_indexOf_4cfef 35 = .ok (.ireturn, 1) := by decide +kernel
theorem dJ2_indexOf_4cfef_36 : decode cJ2_indexOf_4cfef 36 = .ok (.aload_n 0, 1) := by decide +kernel
theorem dJ2_indexOf_4cfef_37 : decode cJ2_indexOf_4cfef 37 = .ok (.iload_n 1, 1) := by decide +kernel
theorem dJ2_indexOf_4cfef_38 : decode cJ2_indexOf_4cfef 38 = .ok (.iload_n 2, 1) := by decide +kernel
theorem dJ2_indexOf_4cfef_39 : decode cJ2_indexOf_4cfef 39 = .ok (.iload_n 3, 1) := by decide +kernel
theorem dJ2_indexOf_4cfef_40 : decode cJ2_indexOf_4cfef 40 = .ok (.invokestatic 232, 3) := by decide +kernel
theorem dJ2_indexOf_4cfef_43 : decode cJ2_indexOf_4cfef 43 = .ok (.ireturn, 1) := by decide +kernel
theorem dJ2_indexOfChar_4cfef_0 : decode cJ2_indexOfChar_4cfef 0 = .ok (.iload_n 2, 1) := by decide +kernel
theorem dJ2_indexOfChar_4cfef_1 : decode cJ2_indexOfChar_4cfef 1 = .ok (.iload_n 3, 1) := by decide +kernel
theorem dJ2_indexOfChar_4cfef_2 : decode cJ2_indexOfChar_4cfef 2 = .ok (.aload_n 0, 1) := by decide +kernel
theorem dJ2_indexOfChar_4cfef_3 : decode cJ2_indexOfChar_4cfef 3 = .ok (.invokestatic 96, 3) := by decide +kernel
theorem dJ2_indexOfChar_4cfef_6 : decode cJ2_indexOfChar_4cfef 6 = .ok (.aload_n 0, 1) := by decide +kernel
theorem dJ2_indexOfChar_4cfef_7 : decode cJ2_indexOfChar_4cfef 7 = .ok (.iload_n 1, 1) := by decide +kernel
theorem dJ2_indexOfChar_4cfef_8 : decode cJ2_indexOfChar_4cfef 8 = .ok (.iload_n 2, 1) := by decide +kernel
theorem dJ2_indexOfChar_4cfef_9 : decode cJ2_indexOfChar_4cfef 9 = .ok (.iload_n 3, 1) := by decide +kernel
theorem dJ2_indexOfChar_4cfef_10 : decode cJ2_indexOfChar_4cfef 10 = .ok (.invokestatic 244, 3) := by decide +kernel
theorem dJ2_indexOfChar_4cfef_13 : decode cJ2_indexOfChar_4cfef 13 = .ok (.ireturn, 1) := by decide +kernel
theorem dJ2_indexOfCharUnsafe_4cfef_0 : decode cJ2_indexOfCharUnsafe_4cfef 0 = .ok (.iload_n 2, 1) := by decide +kernel
theorem dJ2_indexOfCharUnsafe_4cfef_1 : decode cJ2_indexOfCharUnsafe_4cfef 1 = .ok (.istore 4, 2) := by decide +kernel
theorem dJ2_indexOfCharUnsafe_4cfef_3 : decode cJ2_indexOfCharUnsafe_4cfef 3 = .ok (.iload 4, 2) := by decide +kernel
theorem dJ2_indexOfCharUnsafe_4cfef_5 : decode cJ2_indexOfCharUnsafe_4cfef 5 = .ok (.iload_n 3, 1) := by decide +kernel
theorem dJ2_indexOfCharUnsafe_4cfef_6 : decode cJ2_indexOfCharUnsafe_4cfef 6 = .ok (.if_icmp .ge 22, 3) := by decide +kernel
theorem dJ2_indexOfCharUnsafe_4cfef_9 : decode cJ2_indexOfCharUnsafe_4cfef 9 = .ok (.aload_n 0, 1) := by decide +kernel
theorem dJ2_indexOfCharUnsafe_4cfef_10 : decode cJ2_indexOfCharUnsafe_4cfef 10 = .ok (.iload 4, 2) := by decide +kernel
theorem dJ2_indexOfCharUnsafe_4cfef_12 : decode cJ2_indexOfCharUnsafe_4cfef 12 = .ok (.invokestatic 71, 3) := by decide +kernel
theorem dJ2_indexOfCharUnsafe_4cfef_15 : decode cJ2_indexOfCharUnsafe_4cfef 15 = .ok (.iload_n 1, 1) := by decide +kernel
theorem dJ2_indexOfCharUnsafe_4cfef_16 : decode cJ2_indexOfCharUnsafe_4cfef 16 = .ok (.if_icmp .ne 6, 3) := by decide +kernel
theorem dJ2_indexOfCharUnsafe_4cfef_19 : decode cJ2_indexOfCharUnsafe_4cfef 19 = .ok (.iload 4, 2) := by decide +kernel
theorem dJ2_indexOfCharUnsafe_4cfef_21 : decode cJ2_indexOfCharUnsafe_4cfef 21 = .ok (.ireturn, 1) := by decide +kernel
theorem dJ2_indexOfCharUnsafe_4cfef_22 : decode cJ2_indexOfCharUnsafe_4cfef 22 = .ok (.iinc 4 1, 3) := by decide +kernel
theorem dJ2_indexOfCharUnsafe_4cfef_25 : decode cJ2_indexOfCharUnsafe_4cfef 25 = .ok (.goto (-22), 3) := by decide +kernel
theorem dJ2_indexOfCharUnsafe_4cfef_28 : decode cJ2_indexOfCharUnsafe_4cfef 28 = .ok (.iconst (-1), 1) := by decide +kernel
theorem dJ2_indexOfCharUnsafe_4cfef_29 : decode cJ2_indexOfCharUnsafe_4cfef 29 = .ok (.ireturn, 1) := by decide +kernel
theorem dJ2_indexOfSupplementary_4cfef_0 : decode cJ2_indexOfSupplementary_4cfef 0 = .ok (.iload_n 1, 1) := by decide +kernel
theorem dJ2_indexOfSupplementary_4cfef_1 : decode cJ2_indexOfSupplementary_4cfef 1 = .ok (.invokestatic 164, 3) := by decide +kernel
theorem dJ2_indexOfSupplementary_4cfef_4 : decode cJ2_indexOfSupplementary_4cfef 4 = .ok (.ifCond .eq 65, 3) := by decide +kernel
theorem dJ2_indexOfSupplementary_4cfef_7 : decode cJ2_indexOfSupplementary_4cfef 7 = .ok (.iload_n 1, 1) := by decide +kernel
theorem dJ2_indexOfSupplementary_4cfef_8 : decode cJ2_indexOfSupplementary_4cfef 8 = .ok (.invokestatic 157, 3) := by decide +kernel
theorem dJ2_indexOfSupplementary_4cfef_11 : decode cJ2_indexOfSupplementary_4cfef 11 = .ok (.istore 4, 2) := by decide +kernel
theorem dJ2_indexOfSupplementary_4cfef_13 : decode cJ2_indexOfSupplementary_4cfef 13 = .ok (.iload_n 1, 1) := by decide +kernel
theorem dJ2_indexOfSupplementary_4cfef_14 : decode cJ2_indexOfSupplementary_4cfef 14 = .ok (.invokestatic 161, 3) := by decide +kernel
theorem dJ2_indexOfSupplementary_4cfef_17 : decode cJ2_indexOfSupplementary_4cfef 17 = .ok (.istore 5, 2) := by decide +kernel
theorem dJ2_indexOfSupplementary_4cfef_19 : decode cJ2_indexOfSupplementary_4cfef 19 = .ok (.iload_n 2, 1) := by decide +kernel
theorem dJ2_indexOfSupplementary_4cfef_20 : decode cJ2_indexOfSupplementary_4cfef 20 = .ok (.iload_n 3, 1) := by decide +kernel
theorem dJ2_indexOfSupplementary_4cfef_21 : decode cJ2_indexOfSupplementary_4cfef 21 = .ok (.aload_n 0, 1) := by decide +kernel
theorem dJ2_indexOfSupplementary_4cfef_22 : decode cJ2_indexOfSupplementary_4cfef 22 = .ok (.invokestatic 96, 3) := by decide +kernel
theorem dJ2_indexOfSupplementary_4cfef_25 : decode cJ2_indexOfSupplementary_4cfef 25 = .ok (.iload_n 2, 1) := by decide +kernel
theorem dJ2_indexOfSupplementary_4cfef_26 : decode cJ2_indexOfSupplementary_4cfef 26 = .ok (.istore 6, 2) := by decide +kernel
theorem dJ2_indexOfSupplementary_4cfef_28 : decode cJ2_indexOfSupplementary_4cfef 28 = .ok (.iload 6, 2) := by decide +kernel
theorem dJ2_indexOfSupplementary_4cfef_30 : decode cJ2_indexOfSupplementary_4cfef 30 = .ok (.iload_n 3, 1) := by decide +kernel
theorem dJ2_indexOfSupplementary_4cfef_31 : decode cJ2_indexOfSupplementary_4cfef 31 = .ok (.iconst 1, 1) := by decide +kernel
theorem dJ2_indexOfSupplementary_4cfef_32 : decode cJ2_indexOfSupplementary_4cfef 32 = .ok (.isub, 1) := by decide +kernel
theorem dJ2_indexOfSupplementary_4cfef_33 : decode cJ2_indexOfSupplementary_4cfef 33 = .ok (.if_icmp .ge 36, 3) := by decide +kernel
theorem dJ2_indexOfSupplementary_4cfef_36 : decode cJ2_indexOfSupplementary_4cfef 36 = .ok (.aload_n 0, 1) := by decide +kernel
theorem dJ2_indexOfSupplementary_4cfef_37 : decode cJ2_indexOfSupplementary_4cfef 37 = .ok (.iload 6, 2) := by decide +kernel
theorem dJ2_indexOfSupplementary_4cfef_39 : decode cJ2_indexOfSupplementary_4cfef 39 = .ok (.invokestatic 71, 3) := by decide +kernel
theorem dJ2_indexOfSupplementary_4cfef_42 : decode cJ2_indexOfSupplementary_4cfef 42 = .ok (.iload 4, 2) := by decide +kernel
theorem dJ2_indexOfSupplementary_4cfef_44 : decode cJ2_indexOfSupplementary_4cfef 44 = .ok (.if_icmp .ne 19, 3) := by decide +kernel
theorem dJ2_indexOfSupplementary_4cfef_47 : decode cJ2_indexOfSupplementary_4cfef 47 = .ok (.aload_n 0, 1) := by decide +kernel
theorem dJ2_indexOfSupplementary_4cfef_48 : decode cJ2_indexOfSupplementary_4cfef 48 = .ok (.iload 6, 2) := by decide +kernel
theorem dJ2_indexOfSupplementary_4cfef_50 : decode cJ2_indexOfSupplementary_4cfef 50 = .ok (.iconst 1, 1) := by decide +kernel
theorem dJ2_indexOfSupplementary_4cfef_51 : decode cJ2_indexOfSupplementary_4cfef 51 = .ok (.iadd, 1) := by decide +kernel
theorem dJ2_indexOfSupplementary_4cfef_52 : decode cJ2_indexOfSupplementary_4cfef 52 = .ok (.invokestatic 71, 3) := by decide +kernel
theorem dJ2_indexOfSupplementary_4cfef_55 : decode cJ2_indexOfSupplementary_4cfef 55 = .ok (.iload 5, 2) := by decide +kernel
theorem dJ2_indexOfSupplementary_4cfef_57 : decode cJ2_indexOfSupplementary_4cfef 57 = .ok (.if_icmp .ne 6, 3) := by decide +kernel
theorem dJ2_indexOfSupplementary_4cfef_60 : decode cJ2_indexOfSupplementary_4cfef 60 = .ok (.iload 6, 2) := by decide +kernel
theorem dJ2_indexOfSupplementary_4cfef_62 : decode cJ2_indexOfSupplementary_4cfef 62 = .ok (.ireturn, 1) := by decide +kernel
theorem dJ2_indexOfSupplementary_4cfef_63 : decode cJ2_indexOfSupplementary_4cfef 63 = .ok (.iinc 6 1, 3) := by decide +kernel
theorem dJ2_indexOfSupplementary_4cfef_66 : decode cJ2_indexOfSupplementary_4cfef 66 = .ok (.goto (-38), 3) := by decide +kernel
theorem dJ2_indexOfSupplementary_4cfef_69 : decode cJ2_indexOfSupplementary_4cfef 69 = .ok (.iconst (-1), 1) := by decide +kernel
theorem dJ2_indexOfSupplementary_4cfef_70 : decode cJ2_indexOfSupplementary_4cfef 70 = .ok (.ireturn, 1) := by decide +kernel
theorem dJ2_checkBoundsBeginEnd_d044e_0 : decode cJ2_checkBoundsBeginEnd_d044e 0 = .ok (.iload_n 0, 1) := by decide +kernel
theorem dJ2_checkBoundsBeginEnd_d044e_1 : decode cJ2_checkBoundsBeginEnd_d044e 1 = .ok (.iload_n 1, 1) := by decide +kernel
theorem dJ2_checkBoundsBeginEnd_d044e_2 : decode cJ2_checkBoundsBeginEnd_d044e 2 = .ok (.aload_n 2, 1) := by decide +kernel
theorem dJ2_checkBoundsBeginEnd_d044e_3 : decode cJ2_checkBoundsBeginEnd_d044e 3 = .ok (.invokestatic 48, 3) := by decide +kernel
theorem dJ2_checkBoundsBeginEnd_d044e_6 : decode cJ2_checkBoundsBeginEnd_d044e 6 = .ok (.invokestatic 241, 3) := by decide +kernel
theorem dJ2_checkBoundsBeginEnd_d044e_9 : decode cJ2_checkBoundsBeginEnd_d044e 9 = .ok (.return_, 1) := by decide +kernel
theorem dJ7_copyOf_59c91_0 : decode cJ7_copyOf_59c91 0 = .ok (.iload_n 1, 1) := by decide +kernel
theorem dJ7_copyOf_59c91_1 : decode cJ7_copyOf_59c91 1 = .ok (.aload_n 0, 1) := by decide +kernel
theorem dJ7_copyOf_59c91_2 : decode cJ7_copyOf_59c91 2 = .ok (.arraylength, 1) := by decide +kernel
theorem dJ7_copyOf_59c91_3 : decode cJ7_copyOf_59c91 3 = .ok (.if_icmp .ne 11, 3) := by decide +kernel
theorem dJ7_copyOf_59c91_6 : decode cJ7_copyOf_59c91 6 = .ok (.aload_n 0, 1) := by decide +kernel
theorem dJ7_copyOf_59c91_7 : decode cJ7_copyOf_59c91 7 = .ok (.invokevirtual 316, 3) := by decide +kernel
theorem dJ7_copyOf_59c91_10 : decode cJ7_copyOf_59c91 10 = .ok (.checkcast 317, 3) := by decide +kernel
theorem dJ7_copyOf_59c91_13 : decode cJ7_copyOf_59c91 13 = .ok (.areturn, 1) := by decide +kernel
theorem dJ7_copyOf_59c91_14 : decode cJ7_copyOf_59c91 14 = .ok (.iload_n 1, 1) := by decide +kernel
theorem dJ7_copyOf_59c91_15 : decode cJ7_copyOf_59c91 15 = .ok (.newarray .int, 2) := by decide +kernel
theorem dJ7_copyOf_59c91_17 : decode cJ7_copyOf_59c91 17 = .ok (.astore_n 2, 1) := by decide +kernel
theorem dJ7_copyOf_59c91_18 : decode cJ7_copyOf_59c91 18 = .ok (.aload_n 0, 1) := by decide +kernel
theorem dJ7_copyOf_59c91_19 : decode cJ7_copyOf_59c91 19 = .ok (.iconst 0, 1) := by decide +kernel
theorem dJ7_copyOf_59c91_20 : decode cJ7_copyOf_59c91 20 = .ok (.aload_n 2, 1) := by decide +kernel
theorem dJ7_copyOf_59c91_21 : decode cJ7_copyOf_59c91 21 = .ok (.iconst 0, 1) := by decide +kernel
theorem dJ7_copyOf_59c91_22 : decode cJ7_copyOf_59c91 22 = .ok (.aload_n 0, 1) := by decide +kernel
theorem dJ7_copyOf_59c91_23 : decode cJ7_copyOf_59c91 23 = .ok (.arraylength, 1) := by decide +kernel
theorem dJ7_copyOf_59c91_24 : decode cJ7_copyOf_59c91 24 = .ok (.iload_n 1, 1) := by decide +kernel
theorem dJ7_copyOf_59c91_25 : decode cJ7_copyOf_59c91 25 = .ok (.invokestatic 304, 3) := by decide +kernel
theorem dJ7_copyOf_59c91_28 : decode cJ7_copyOf_59c91 28 = .ok (.invokestatic 150, 3) := by decide +kernel
theorem dJ7_copyOf_59c91_31 : decode cJ7_copyOf_59c91 31 = .ok (.aload_n 2, 1) := by decide +kernel
theorem dJ7_copyOf_59c91_32 : decode cJ7_copyOf_59c91 32 = .ok (.areturn, 1) := by decide +kernel
theorem dJ3_checkFromToIndex_8c36e_0 : decode cJ3_checkFromToIndex_8c36e 0 = .ok (.iload_n 0, 1) := by decide +kernel
theorem dJ3_checkFromToIndex_8c36e_1 : decode cJ3_checkFromToIndex_8c36e 1 = .ok (.ifCond .lt 13, 3) := by decide +kernel
theorem dJ3_checkFromToIndex_8c36e_4 : decode cJ3_checkFromToIndex_8c36e 4 = .ok (.iload_n 0, 1) := by decide +kernel
theorem dJ3_checkFromToIndex_8c36e_5 : decode cJ3_checkFromToIndex_8c36e 5 = .ok (.iload_n 1, 1) := by decide +kernel
theorem dJ3_checkFromToIndex_8c36e_6 : decode cJ3_checkFromToIndex_8c36e 6 = .ok (.if_icmp .gt 8, 3) := by decide +kernel
theorem dJ3_checkFromToIndex_8c36e_9 : decode cJ3_checkFromToIndex_8c36e 9 = .ok (.iload_n 1, 1) := by decide +kernel
theorem dJ3_checkFromToIndex_8c36e_10 : decode cJ3_checkFromToIndex_8c36e 10 = .ok (.iload_n 2, 1) := by decide +kernel
theorem dJ3_checkFromToIndex_8c36e_11 : decode cJ3_checkFromToIndex_8c36e 11 = .ok (.if_icmp .le 11, 3) := by decide +kernel
theorem dJ3_checkFromToIndex_8c36e_14 : decode cJ3_checkFromToIndex_8c36e 14 = .ok (.aload_n 3, 1) := by decide +kernel
theorem dJ3_checkFromToIndex_8c36e_15 : decode cJ3_checkFromToIndex_8c36e 15 = .ok (.iload_n 0, 1) := by decide +kernel
theorem dJ3_checkFromToIndex_8c36e_16 : decode cJ3_checkFromToIndex_8c36e 16 = .ok (.iload_n 1, 1) := by decide +kernel
theorem dJ3_checkFromToIndex_8c36e_17 : decode cJ3_checkFromToIndex_8c36e 17 = .ok (.iload_n 2, 1) := by decide +kernel
theorem dJ3_checkFromToIndex_8c36e_18 : decode cJ3_checkFromToIndex_8c36e 18 = .ok (.invokestatic 99, 3) := by decide +kernel
theorem dJ3_checkFromToIndex_8c36e_21 : decode cJ3_checkFromToIndex_8c36e 21 = .ok (.athrow, 1) := by decide +kernel
theorem dJ3_checkFromToIndex_8c36e_22 : decode cJ3_checkFromToIndex_8c36e 22 = .ok (.iload_n 0, 1) := by decide +kernel
theorem dJ3_checkFromToIndex_8c36e_23 : decode cJ3_checkFromToIndex_8c36e 23 = .ok (.ireturn, 1) := by decide +kernel
end
section
theorem dX7_init_0 : decode cX7_init 0 = .ok (.aload_n 0, 1) := by decide +kernel
theorem dX7_init_1 : decode cX7_init 1 = .ok (.invokespecial 1, 3) := by decide +kernel
theorem dX7_init_4 : decode cX7_init 4 = .ok (.aload_n 0, 1) := by decide +kernel
theorem dX7_init_5 : decode cX7_init 5 = .ok (.sipush 377, 3) := by decide +kernel
theorem dX7_init_8 : decode cX7_init 8 = .ok (.newarray .long, 2) := by decide +kernel
theorem dX7_init_10 : decode cX7_init 10 = .ok (.putfield 7, 3) := by decide +kernel
theorem dX7_init_13 : decode cX7_init 13 = .ok (.aload_n 0, 1) := by decide +kernel
theorem dX7_init_14 : decode cX7_init 14 = .ok (.bipush 8, 2) := by decide +kernel
theorem dX7_init_16 : decode cX7_init 16 = .ok (.newarray .double, 2) := by decide +kernel
theorem dX7_init_18 : decode cX7_init 18 = .ok (.putfield 13, 3) := by decide +kernel
theorem dX7_init_21 : decode cX7_init 21 = .ok (.aload_n 0, 1) := by decide +kernel
theorem dX7_init_22 : decode cX7_init 22 = .ok (.sipush 8400, 3) := by decide +kernel
theorem dX7_init_25 : decode cX7_init 25 = .ok (.newarray .long, 2) := by decide +kernel
theorem dX7_init_27 : decode cX7_init 27 = .ok (.putfield 17, 3) := by decide +kernel
theorem dX7_init_30 : decode cX7_init 30 = .ok (.aload_n 0, 1) := by decide +kernel
theorem dX7_init_31 : decode cX7_init 31 = .ok (.sipush 3393, 3) := by decide +kernel
theorem dX7_init_34 : decode cX7_init 34 = .ok (.newarray .long, 2) := by decide +kernel
theorem dX7_init_36 : decode cX7_init 36 = .ok (.putfield 20, 3) := by decide +kernel
theorem dX7_init_39 : decode cX7_init 39 = .ok (.aload_n 0, 1) := by decide +kernel
theorem dX7_init_40 : decode cX7_init 40 = .ok (.bipush 72, 2) := by decide +kernel
theorem dX7_init_42 : decode cX7_init 42 = .ok (.newarray .double, 2) := by decide +kernel
theorem dX7_init_44 : decode cX7_init 44 = .ok (.putfield 23, 3) := by decide +kernel
theorem dX7_init_47 : decode cX7_init 47 = .ok (.aload_n 0, 1) := by decide +kernel
theorem dX7_init_48 : decode cX7_init 48 = .ok (.ldc 26, 2) := by decide +kernel
theorem dX7_init_50 : decode cX7_init 50 = .ok (.newarray .long, 2) := by decide +kernel
theorem dX7_init_52 : decode cX7_init 52 = .ok (.putfield 27, 3) := by decide +kernel
theorem dX7_init_55 : decode cX7_init 55 = .ok (.aload_n 0, 1) := by decide +kernel
theorem dX7_init_56 : decode cX7_init 56 = .ok (.iconst 2, 1) := by decide +kernel
theorem dX7_init_57 : decode cX7_init 57 = .ok (.newarray .int, 2) := by decide +kernel
theorem dX7_init_59 : decode cX7_init 59 = .ok (.putfield 30, 3) := by decide +kernel
theorem dX7_init_62 : decode cX7_init 62 = .ok (.aload_n 0, 1) := by decide +kernel
theorem dX7_init_63 : decode cX7_init 63 = .ok (.bipush 80, 2) := by decide +kernel
theorem dX7_init_65 : decode cX7_init 65 = .ok (.newarray .int, 2) := by decide +kernel
theorem dX7_init_67 : decode cX7_init 67 = .ok (.putfield 34, 3) := by decide +kernel
theorem dX7_init_70 : decode cX7_init 70 = .ok (.aload_n 0, 1) := by decide +kernel
theorem dX7_init_71 : decode cX7_init 71 = .ok (.getfield 7, 3) := by decide +kernel
theorem dX7_init_74 : decode cX7_init 74 = .ok (.bipush 9, 2) := by decide +kernel
theorem dX7_init_76 : decode cX7_init 76 = .ok (.ldc2_w 37, 3) := by decide +kernel
theorem dX7_init_79 : decode cX7_init 79 = .ok (.lastore, 1) := by decide +kernel
theorem dX7_init_80 : decode cX7_init 80 = .ok (.aload_n 0, 1) := by decide +kernel
theorem dX7_init_81 : decode cX7_init 81 = .ok (.getfield 7, 3) := by decide +kernel
theorem dX7_init_84 : decode cX7_init 84 = .ok (.bipush 10, 2) := by decide +kernel
theorem dX7_init_86 : decode cX7_init 86 = .ok (.ldc2_w 39, 3) := by decide +kernel
theorem dX7_init_89 : decode cX7_init 89 = .ok (.lastore, 1) := by decide +kernel
theorem dX7_init_90 : decode cX7_init 90 = .ok (.aload_n 0, 1) := by decide +kernel
theorem dX7_init_91 : decode cX7_init 91 = .ok (.getfield 7, 3) := by decide +kernel
theorem dX7_init_94 : decode cX7_init 94 = .ok (.bipush 11, 2) := by decide +kernel
theorem dX7_init_96 : decode cX7_init 96 = .ok (.ldc2_w 41, 3) := by decide +kernel
theorem dX7_init_99 : decode cX7_init 99 = .ok (.lastore, 1) := by decide +kernel
theorem dX7_init_100 : decode cX7_init 100 = .ok (.return_, 1) := by decide +kernel
theorem dX7_isIn_0 : decode cX7_isIn 0 = .ok (.lload_n 0, 1) := by decide +kernel
theorem dX7_isIn_1 : decode cX7_isIn 1 = .ok (.lload_n 2, 1) := by decide +kernel
theorem dX7_isIn_2 : decode cX7_isIn 2 = .ok (.lcmp, 1) := by decide +kernel
theorem dX7_isIn_3 : decode cX7_isIn 3 = .ok (.ifCond .lt 14, 3) := by decide +kernel
theorem dX7_isIn_6 : decode cX7_isIn 6 = .ok (.lload_n 0, 1) := by decide +kernel
theorem dX7_isIn_7 : decode cX7_isIn 7 = .ok (.lload 4, 2) := by decide +kernel
theorem dX7_isIn_9 : decode cX7_isIn 9 = .ok (.lcmp, 1) := by decide +kernel
theorem dX7_isIn_10 : decode cX7_isIn 10 = .ok (.ifCond .gt 7, 3) := by decide +kernel
theorem dX7_isIn_13 : decode cX7_isIn 13 = .ok (.iconst 1, 1) := by decide +kernel
theorem dX7_isIn_14 : decode cX7_isIn 14 = .ok (.goto 4, 3) := by decide +kernel
theorem dX7_isIn_17 : decode cX7_isIn 17 = .ok (.iconst 0, 1) := by decide +kernel
theorem dX7_isIn_18 : decode cX7_isIn 18 = .ok (.ireturn, 1) := by decide +kernel
theorem dX7_of_0 : decode cX7_of 0 = .ok (.aload_n 0, 1) := by decide +kernel
theorem dX7_of_1 : decode cX7_of 1 = .ok (.getfield 7, 3) := by decide +kernel
theorem dX7_of_4 : decode cX7_of 4 = .ok (.iload_n 1, 1) := by decide +kernel
theorem dX7_of_5 : decode cX7_of 5 = .ok (.laload, 1) := by decide +kernel
theorem dX7_of_6 : decode cX7_of 6 = .ok (.l2i, 1) := by decide +kernel
theorem dX7_of_7 : decode cX7_of 7 = .ok (.ireturn, 1) := by decide +kernel
theorem dX7_today_0 : decode cX7_today 0 = .ok (.aload_n 0, 1) := by decide +kernel
theorem dX7_today_1 : decode cX7_today 1 = .ok (.iconst 0, 1) := by decide +kernel
theorem dX7_today_2 : decode cX7_today 2 = .ok (.invokevirtual 43, 3) := by decide +kernel
theorem dX7_today_5 : decode cX7_today 5 = .ok (.ireturn, 1) := by decide +kernel
theorem dX7_isAccount_0 : decode cX7_isAccount 0 = .ok (.iload_n 1, 1) := by decide +kernel
theorem dX7_isAccount_1 : decode cX7_isAccount 1 = .ok (.i2l, 1) := by decide +kernel
theorem dX7_isAccount_2 : decode cX7_isAccount 2 = .ok (.lconst 0, 1) := by decide +kernel
theorem dX7_isAccount_3 : decode cX7_isAccount 3 = .ok (.aload_n 0, 1) := by decide +kernel
theorem dX7_isAccount_4 : decode cX7_isAccount 4 = .ok (.getfield 7, 3) := by decide +kernel
theorem dX7_isAccount_7 : decode cX7_isAccount 7 = .ok (.iconst 1, 1) := by decide +kernel
theorem dX7_isAccount_8 : decode cX7_isAccount 8 = .ok (.laload, 1) := by decide +kernel
theorem dX7_isAccount_9 : decode cX7_isAccount 9 = .ok (.lconst 1, 1) := by decide +kernel
theorem dX7_isAccount_10 : decode cX7_isAccount 10 = .ok (.lsub, 1) := by decide +kernel
theorem dX7_isAccount_11 : decode cX7_isAccount 11 = .ok (.invokestatic 47, 3) := by decide +kernel
theorem dX7_isAccount_14 : decode cX7_isAccount 14 = .ok (.ireturn, 1) := by decide +kernel
theorem dX7_isOrder_0 : decode cX7_isOrder 0 = .ok (.iload_n 1, 1) := by decide +kernel
theorem dX7_isOrder_1 : decode cX7_isOrder 1 = .ok (.i2l, 1) := by decide +kernel
theorem dX7_isOrder_2 : decode cX7_isOrder 2 = .ok (.lconst 0, 1) := by decide +kernel
theorem dX7_isOrder_3 : decode cX7_isOrder 3 = .ok (.aload_n 0, 1) := by decide +kernel
theorem dX7_isOrder_4 : decode cX7_isOrder 4 = .ok (.getfield 7, 3) := by decide +kernel
theorem dX7_isOrder_7 : decode cX7_isOrder 7 = .ok (.iconst 2, 1) := by decide +kernel
theorem dX7_isOrder_8 : decode cX7_isOrder 8 = .ok (.laload, 1) := by decide +kernel
theorem dX7_isOrder_9 : decode cX7_isOrder 9 = .ok (.lconst 1, 1) := by decide +kernel
theorem dX7_isOrder_10 : decode cX7_isOrder 10 = .ok (.lsub, 1) := by decide +kernel
theorem dX7_isOrder_11 : decode cX7_isOrder 11 = .ok (.invokestatic 47, 3) := by decide +kernel
theorem dX7_isOrder_14 : decode cX7_isOrder 14 = .ok (.ireturn, 1) := by decide +kernel
theorem dX7_ofA_0 : decode cX7_ofA 0 = .ok (.aload_n 0, 1) := by decide +kernel
theorem dX7_ofA_1 : decode cX7_ofA 1 = .ok (.bipush 33, 2) := by decide +kernel
theorem dX7_ofA_3 : decode cX7_ofA 3 = .ok (.bipush 11, 2) := by decide +kernel
theorem dX7_ofA_5 : decode cX7_ofA 5 = .ok (.iload_n 1, 1) := by decide +kernel
theorem dX7_ofA_6 : decode cX7_ofA 6 = .ok (.imul, 1) := by decide +kernel
theorem dX7_ofA_7 : decode cX7_ofA 7 = .ok (.iadd, 1) := by decide +kernel
theorem dX7_ofA_8 : decode cX7_ofA 8 = .ok (.iload_n 2, 1) := by decide +kernel
theorem dX7_ofA_9 : decode cX7_ofA 9 = .ok (.iadd, 1) := by decide +kernel
theorem dX7_ofA_10 : decode cX7_ofA 10 = .ok (.invokevirtual 43, 3) := by decide +kernel
theorem dX7_ofA_13 : decode cX7_ofA 13 = .ok (.ireturn, 1) := by decide +kernel
theorem dX7_moneyOf_0 : decode cX7_moneyOf 0 = .ok (.aload_n 0, 1) := by decide +kernel
theorem dX7_moneyOf_1 : decode cX7_moneyOf 1 = .ok (.getfield 7, 3) := by decide +kernel
theorem dX7_moneyOf_4 : decode cX7_moneyOf 4 = .ok (.bipush 33, 2) := by decide +kernel
theorem dX7_moneyOf_6 : decode cX7_moneyOf 6 = .ok (.bipush 11, 2) := by decide +kernel
theorem dX7_moneyOf_8 : decode cX7_moneyOf 8 = .ok (.iload_n 1, 1) := by decide +kernel
theorem dX7_moneyOf_9 : decode cX7_moneyOf 9 = .ok (.imul, 1) := by decide +kernel
theorem dX7_moneyOf_10 : decode cX7_moneyOf 10 = .ok (.iadd, 1) := by decide +kernel
theorem dX7_moneyOf_11 : decode cX7_moneyOf 11 = .ok (.iconst 3, 1) := by decide +kernel
theorem dX7_moneyOf_12 : decode cX7_moneyOf 12 = .ok (.iadd, 1) := by decide +kernel
theorem dX7_moneyOf_13 : decode cX7_moneyOf 13 = .ok (.iload_n 2, 1) := by decide +kernel
theorem dX7_moneyOf_14 : decode cX7_moneyOf 14 = .ok (.iadd, 1) := by decide +kernel
theorem dX7_moneyOf_15 : decode cX7_moneyOf 15 = .ok (.laload, 1) := by decide +kernel
theorem dX7_moneyOf_16 : decode cX7_moneyOf 16 = .ok (.lreturn, 1) := by decide +kernel
theorem dX7_moves_0 : decode cX7_moves 0 = .ok (.aload_n 0, 1) := by decide +kernel
theorem dX7_moves_1 : decode cX7_moves 1 = .ok (.getfield 7, 3) := by decide +kernel
theorem dX7_moves_4 : decode cX7_moves 4 = .ok (.bipush 33, 2) := by decide +kernel
theorem dX7_moves_6 : decode cX7_moves 6 = .ok (.bipush 11, 2) := by decide +kernel
theorem dX7_moves_8 : decode cX7_moves 8 = .ok (.iload_n 1, 1) := by decide +kernel
theorem dX7_moves_9 : decode cX7_moves 9 = .ok (.imul, 1) := by decide +kernel
theorem dX7_moves_10 : decode cX7_moves 10 = .ok (.iadd, 1) := by decide +kernel
theorem dX7_moves_11 : decode cX7_moves 11 = .ok (.iconst 3, 1) := by decide +kernel
theorem dX7_moves_12 : decode cX7_moves 12 = .ok (.iadd, 1) := by decide +kernel
theorem dX7_moves_13 : decode cX7_moves 13 = .ok (.iload_n 2, 1) := by decide +kernel
theorem dX7_moves_14 : decode cX7_moves 14 = .ok (.iadd, 1) := by decide +kernel
theorem dX7_moves_15 : decode cX7_moves 15 = .ok (.dup2, 1) := by decide +kernel
theorem dX7_moves_16 : decode cX7_moves 16 = .ok (.laload, 1) := by decide +kernel
theorem dX7_moves_17 : decode cX7_moves 17 = .ok (.lload_n 3, 1) := by decide +kernel
theorem dX7_moves_18 : decode cX7_moves 18 = .ok (.ladd, 1) := by decide +kernel
theorem dX7_moves_19 : decode cX7_moves 19 = .ok (.lastore, 1) := by decide +kernel
theorem dX7_moves_20 : decode cX7_moves 20 = .ok (.return_, 1) := by decide +kernel
theorem dX7_ofO_0 : decode cX7_ofO 0 = .ok (.aload_n 0, 1) := by decide +kernel
theorem dX7_ofO_1 : decode cX7_ofO 1 = .ok (.bipush 121, 2) := by decide +kernel
theorem dX7_ofO_3 : decode cX7_ofO 3 = .ok (.bipush 16, 2) := by decide +kernel
theorem dX7_ofO_5 : decode cX7_ofO 5 = .ok (.iload_n 1, 1) := by decide +kernel
theorem dX7_ofO_6 : decode cX7_ofO 6 = .ok (.imul, 1) := by decide +kernel
theorem dX7_ofO_7 : decode cX7_ofO 7 = .ok (.iadd, 1) := by decide +kernel
theorem dX7_ofO_8 : decode cX7_ofO 8 = .ok (.iload_n 2, 1) := by decide +kernel
theorem dX7_ofO_9 : decode cX7_ofO 9 = .ok (.iadd, 1) := by decide +kernel
theorem dX7_ofO_10 : decode cX7_ofO 10 = .ok (.invokevirtual 43, 3) := by decide +kernel
theorem dX7_ofO_13 : decode cX7_ofO 13 = .ok (.ireturn, 1) := by decide +kernel
theorem dX7_becomes_0 : decode cX7_becomes 0 = .ok (.aload_n 0, 1) := by decide +kernel
theorem dX7_becomes_1 : decode cX7_becomes 1 = .ok (.getfield 7, 3) := by decide +kernel
theorem dX7_becomes_4 : decode cX7_becomes 4 = .ok (.bipush 121, 2) := by decide +kernel
theorem dX7_becomes_6 : decode cX7_becomes 6 = .ok (.bipush 16, 2) := by decide +kernel
theorem dX7_becomes_8 : decode cX7_becomes 8 = .ok (.iload_n 1, 1) := by decide +kernel
theorem dX7_becomes_9 : decode cX7_becomes 9 = .ok (.imul, 1) := by decide +kernel
theorem dX7_becomes_10 : decode cX7_becomes 10 = .ok (.iadd, 1) := by decide +kernel
theorem dX7_becomes_11 : decode cX7_becomes 11 = .ok (.iload_n 2, 1) := by decide +kernel
theorem dX7_becomes_12 : decode cX7_becomes 12 = .ok (.iadd, 1) := by decide +kernel
theorem dX7_becomes_13 : decode cX7_becomes 13 = .ok (.iload_n 3, 1) := by decide +kernel
theorem dX7_becomes_14 : decode cX7_becomes 14 = .ok (.i2l, 1) := by decide +kernel
theorem dX7_becomes_15 : decode cX7_becomes 15 = .ok (.lastore, 1) := by decide +kernel
theorem dX7_becomes_16 : decode cX7_becomes 16 = .ok (.return_, 1) := by decide +kernel
theorem dX7_keeps_0 : decode cX7_keeps 0 = .ok (.iconst 0, 1) := by decide +kernel
theorem dX7_keeps_1 : decode cX7_keeps 1 = .ok (.istore_n 2, 1) := by decide +kernel
theorem dX7_keeps_2 : decode cX7_keeps 2 = .ok (.iload_n 2, 1) := by decide +kernel
theorem dX7_keeps_3 : decode cX7_keeps 3 = .ok (.sipush 377, 3) := by decide +kernel
theorem dX7_keeps_6 : decode cX7_keeps 6 = .ok (.if_icmp .ge 27, 3) := by decide +kernel
theorem dX7_keeps_9 : decode cX7_keeps 9 = .ok (.aload_n 0, 1) := by decide +kernel
theorem dX7_keeps_10 : decode cX7_keeps 10 = .ok (.getfield 20, 3) := by decide +kernel
theorem dX7_keeps_13 : decode cX7_keeps 13 = .ok (.iload_n 1, 1) := by decide +kernel
theorem dX7_keeps_14 : decode cX7_keeps 14 = .ok (.sipush 377, 3) := by decide +kernel
theorem dX7_keeps_17 : decode cX7_keeps 17 = .ok (.imul, 1) := by decide +kernel
theorem dX7_keeps_18 : decode cX7_keeps 18 = .ok (.iload_n 2, 1) := by decide +kernel
theorem dX7_keeps_19 : decode cX7_keeps 19 = .ok (.iadd, 1) := by decide +kernel
theorem dX7_keeps_20 : decode cX7_keeps 20 = .ok (.aload_n 0, 1) := by decide +kernel
theorem dX7_keeps_21 : decode cX7_keeps 21 = .ok (.getfield 7, 3) := by decide +kernel
theorem dX7_keeps_24 : decode cX7_keeps 24 = .ok (.iload_n 2, 1) := by decide +kernel
theorem dX7_keeps_25 : decode cX7_keeps 25 = .ok (.laload, 1) := by decide +kernel
theorem dX7_keeps_26 : decode cX7_keeps 26 = .ok (.lastore, 1) := by decide +kernel
theorem dX7_keeps_27 : decode cX7_keeps 27 = .ok (.iinc 2 1, 3) := by decide +kernel
theorem dX7_keeps_30 : decode cX7_keeps 30 = .ok (.goto (-28), 3) := by decide +kernel
theorem dX7_keeps_33 : decode cX7_keeps 33 = .ok (.iconst 0, 1) := by decide +kernel
theorem dX7_keeps_34 : decode cX7_keeps 34 = .ok (.istore_n 2, 1) := by decide +kernel
theorem dX7_keeps_35 : decode cX7_keeps 35 = .ok (.iload_n 2, 1) := by decide +kernel
theorem dX7_keeps_36 : decode cX7_keeps 36 = .ok (.bipush 8, 2) := by decide +kernel
theorem dX7_keeps_38 : decode cX7_keeps 38 = .ok (.if_icmp .ge 26, 3) := by decide +kernel
theorem dX7_keeps_41 : decode cX7_keeps 41 = .ok (.aload_n 0, 1) := by decide +kernel
theorem dX7_keeps_42 : decode cX7_keeps 42 = .ok (.getfield 23, 3) := by decide +kernel
theorem dX7_keeps_45 : decode cX7_keeps 45 = .ok (.iload_n 1, 1) := by decide +kernel
theorem dX7_keeps_46 : decode cX7_keeps 46 = .ok (.bipush 8, 2) := by decide +kernel
theorem dX7_keeps_48 : decode cX7_keeps 48 = .ok (.imul, 1) := by decide +kernel
theorem dX7_keeps_49 : decode cX7_keeps 49 = .ok (.iload_n 2, 1) := by decide +kernel
theorem dX7_keeps_50 : decode cX7_keeps 50 = .ok (.iadd, 1) := by decide +kernel
theorem dX7_keeps_51 : decode cX7_keeps 51 = .ok (.aload_n 0, 1) := by decide +kernel
theorem dX7_keeps_52 : decode cX7_keeps 52 = .ok (.getfield 13, 3) := by decide +kernel
theorem dX7_keeps_55 : decode cX7_keeps 55 = .ok (.iload_n 2, 1) := by decide +kernel
theorem dX7_keeps_56 : decode cX7_keeps 56 = .ok (.daload, 1) := by decide +kernel
theorem dX7_keeps_57 : decode cX7_keeps 57 = .ok (.dastore, 1) := by decide +kernel
theorem dX7_keeps_58 : decode cX7_keeps 58 = .ok (.iinc 2 1, 3) := by decide +kernel
theorem dX7_keeps_61 : decode cX7_keeps 61 = .ok (.goto (-26), 3) := by decide +kernel
theorem dX7_keeps_64 : decode cX7_keeps 64 = .ok (.iconst 0, 1) := by decide +kernel
theorem dX7_keeps_65 : decode cX7_keeps 65 = .ok (.istore_n 2, 1) := by decide +kernel
theorem dX7_keeps_66 : decode cX7_keeps 66 = .ok (.iload_n 2, 1) := by decide +kernel
theorem dX7_keeps_67 : decode cX7_keeps 67 = .ok (.i2l, 1) := by decide +kernel
theorem dX7_keeps_68 : decode cX7_keeps 68 = .ok (.aload_n 0, 1) := by decide +kernel
theorem dX7_keeps_69 : decode cX7_keeps 69 = .ok (.getfield 7, 3) := by decide +kernel
theorem dX7_keeps_72 : decode cX7_keeps 72 = .ok (.iconst 4, 1) := by decide +kernel
theorem dX7_keeps_73 : decode cX7_keeps 73 = .ok (.laload, 1) := by decide +kernel
theorem dX7_keeps_74 : decode cX7_keeps 74 = .ok (.lcmp, 1) := by decide +kernel
theorem dX7_keeps_75 : decode cX7_keeps 75 = .ok (.ifCond .ge 27, 3) := by decide +kernel
theorem dX7_keeps_78 : decode cX7_keeps 78 = .ok (.aload_n 0, 1) := by decide +kernel
theorem dX7_keeps_79 : decode cX7_keeps 79 = .ok (.getfield 27, 3) := by decide +kernel
theorem dX7_keeps_82 : decode cX7_keeps 82 = .ok (.iload_n 1, 1) := by decide +kernel
theorem dX7_keeps_83 : decode cX7_keeps 83 = .ok (.sipush 8400, 3) := by decide +kernel
theorem dX7_keeps_86 : decode cX7_keeps 86 = .ok (.imul, 1) := by decide +kernel
theorem dX7_keeps_87 : decode cX7_keeps 87 = .ok (.iload_n 2, 1) := by decide +kernel
theorem dX7_keeps_88 : decode cX7_keeps 88 = .ok (.iadd, 1) := by decide +kernel
theorem dX7_keeps_89 : decode cX7_keeps 89 = .ok (.aload_n 0, 1) := by decide +kernel
theorem dX7_keeps_90 : decode cX7_keeps 90 = .ok (.getfield 17, 3) := by decide +kernel
theorem dX7_keeps_93 : decode cX7_keeps 93 = .ok (.iload_n 2, 1) := by decide +kernel
theorem dX7_keeps_94 : decode cX7_keeps 94 = .ok (.laload, 1) := by decide +kernel
theorem dX7_keeps_95 : decode cX7_keeps 95 = .ok (.lastore, 1) := by decide +kernel
theorem dX7_keeps_96 : decode cX7_keeps 96 = .ok (.iinc 2 1, 3) := by decide +kernel
theorem dX7_keeps_99 : decode cX7_keeps 99 = .ok (.goto (-33), 3) := by decide +kernel
theorem dX7_keeps_102 : decode cX7_keeps 102 = .ok (.return_, 1) := by decide +kernel
theorem dX7_brings_0 : decode cX7_brings 0 = .ok (.iconst 0, 1) := by decide +kernel
theorem dX7_brings_1 : decode cX7_brings 1 = .ok (.istore_n 2, 1) := by decide +kernel
theorem dX7_brings_2 : decode cX7_brings 2 = .ok (.iload_n 2, 1) := by decide +kernel
theorem dX7_brings_3 : decode cX7_brings 3 = .ok (.sipush 377, 3) := by decide +kernel
theorem dX7_brings_6 : decode cX7_brings 6 = .ok (.if_icmp .ge 27, 3) := by decide +kernel
theorem dX7_brings_9 : decode cX7_brings 9 = .ok (.aload_n 0, 1) := by decide +kernel
theorem dX7_brings_10 : decode cX7_brings 10 = .ok (.getfield 7, 3) := by decide +kernel
theorem dX7_brings_13 : decode cX7_brings 13 = .ok (.iload_n 2, 1) := by decide +kernel
theorem dX7_brings_14 : decode cX7_brings 14 = .ok (.aload_n 0, 1) := by decide +kernel
theorem dX7_brings_15 : decode cX7_brings 15 = .ok (.getfield 20, 3) := by decide +kernel
theorem dX7_brings_18 : decode cX7_brings 18 = .ok (.iload_n 1, 1) := by decide +kernel
theorem dX7_brings_19 : decode cX7_brings 19 = .ok (.sipush 377, 3) := by decide +kernel
theorem dX7_brings_22 : decode cX7_brings 22 = .ok (.imul, 1) := by decide +kernel
theorem dX7_brings_23 : decode cX7_brings 23 = .ok (.iload_n 2, 1) := by decide +kernel
theorem dX7_brings_24 : decode cX7_brings 24 = .ok (.iadd, 1) := by decide +kernel
theorem dX7_brings_25 : decode cX7_brings 25 = .ok (.laload, 1) := by decide +kernel
theorem dX7_brings_26 : decode cX7_brings 26 = .ok (.lastore, 1) := by decide +kernel
theorem dX7_brings_27 : decode cX7_brings 27 = .ok (.iinc 2 1, 3) := by decide +kernel
theorem dX7_brings_30 : decode cX7_brings 30 = .ok (.goto (-28), 3) := by decide +kernel
theorem dX7_brings_33 : decode cX7_brings 33 = .ok (.iconst 0, 1) := by decide +kernel
theorem dX7_brings_34 : decode cX7_brings 34 = .ok (.istore_n 2, 1) := by decide +kernel
theorem dX7_brings_35 : decode cX7_brings 35 = .ok (.iload_n 2, 1) := by decide +kernel
theorem dX7_brings_36 : decode cX7_brings 36 = .ok (.bipush 8, 2) := by decide +kernel
theorem dX7_brings_38 : decode cX7_brings 38 = .ok (.if_icmp .ge 26, 3) := by decide +kernel
theorem dX7_brings_41 : decode cX7_brings 41 = .ok (.aload_n 0, 1) := by decide +kernel
theorem dX7_brings_42 : decode cX7_brings 42 = .ok (.getfield 13, 3) := by decide +kernel
theorem dX7_brings_45 : decode cX7_brings 45 = .ok (.iload_n 2, 1) := by decide +kernel
theorem dX7_brings_46 : decode cX7_brings 46 = .ok (.aload_n 0, 1) := by decide +kernel
theorem dX7_brings_47 : decode cX7_brings 47 = .ok (.getfield 23, 3) := by decide +kernel
theorem dX7_brings_50 : decode cX7_brings 50 = .ok (.iload_n 1, 1) := by decide +kernel
theorem dX7_brings_51 : decode cX7_brings 51 = .ok (.bipush 8, 2) := by decide +kernel
theorem dX7_brings_53 : decode cX7_brings 53 = .ok (.imul, 1) := by decide +kernel
theorem dX7_brings_54 : decode cX7_brings 54 = .ok (.iload_n 2, 1) := by decide +kernel
theorem dX7_brings_55 : decode cX7_brings 55 = .ok (.iadd, 1) := by decide +kernel
theorem dX7_brings_56 : decode cX7_brings 56 = .ok (.daload, 1) := by decide +kernel
theorem dX7_brings_57 : decode cX7_brings 57 = .ok (.dastore, 1) := by decide +kernel
theorem dX7_brings_58 : decode cX7_brings 58 = .ok (.iinc 2 1, 3) := by decide +kernel
theorem dX7_brings_61 : decode cX7_brings 61 = .ok (.goto (-26), 3) := by decide +kernel
theorem dX7_brings_64 : decode cX7_brings 64 = .ok (.iconst 0, 1) := by decide +kernel
theorem dX7_brings_65 : decode cX7_brings 65 = .ok (.istore_n 2, 1) := by decide +kernel
theorem dX7_brings_66 : decode cX7_brings 66 = .ok (.iload_n 2, 1) := by decide +kernel
theorem dX7_brings_67 : decode cX7_brings 67 = .ok (.i2l, 1) := by decide +kernel
theorem dX7_brings_68 : decode cX7_brings 68 = .ok (.aload_n 0, 1) := by decide +kernel
theorem dX7_brings_69 : decode cX7_brings 69 = .ok (.getfield 7, 3) := by decide +kernel
theorem dX7_brings_72 : decode cX7_brings 72 = .ok (.iconst 4, 1) := by decide +kernel
theorem dX7_brings_73 : decode cX7_brings 73 = .ok (.laload, 1) := by decide +kernel
theorem dX7_brings_74 : decode cX7_brings 74 = .ok (.lcmp, 1) := by decide +kernel
theorem dX7_brings_75 : decode cX7_brings 75 = .ok (.ifCond .ge 27, 3) := by decide +kernel
theorem dX7_brings_78 : decode cX7_brings 78 = .ok (.aload_n 0, 1) := by decide +kernel
theorem dX7_brings_79 : decode cX7_brings 79 = .ok (.getfield 17, 3) := by decide +kernel
theorem dX7_brings_82 : decode cX7_brings 82 = .ok (.iload_n 2, 1) := by decide +kernel
theorem dX7_brings_83 : decode cX7_brings 83 = .ok (.aload_n 0, 1) := by decide +kernel
theorem dX7_brings_84 : decode cX7_brings 84 = .ok (.getfield 27, 3) := by decide +kernel
theorem dX7_brings_87 : decode cX7_brings 87 = .ok (.iload_n 1, 1) := by decide +kernel
theorem dX7_brings_88 : decode cX7_brings 88 = .ok (.sipush 8400, 3) := by decide +kernel
theorem dX7_brings_91 : decode cX7_brings 91 = .ok (.imul, 1) := by decide +kernel
theorem dX7_brings_92 : decode cX7_brings 92 = .ok (.iload_n 2, 1) := by decide +kernel
theorem dX7_brings_93 : decode cX7_brings 93 = .ok (.iadd, 1) := by decide +kernel
theorem dX7_brings_94 : decode cX7_brings 94 = .ok (.laload, 1) := by decide +kernel
theorem dX7_brings_95 : decode cX7_brings 95 = .ok (.lastore, 1) := by decide +kernel
theorem dX7_brings_96 : decode cX7_brings 96 = .ok (.iinc 2 1, 3) := by decide +kernel
theorem dX7_brings_99 : decode cX7_brings 99 = .ok (.goto (-33), 3) := by decide +kernel
theorem dX7_brings_102 : decode cX7_brings 102 = .ok (.return_, 1) := by decide +kernel
theorem dX7_drops_0 : decode cX7_drops 0 = .ok (.iconst 0, 1) := by decide +kernel
theorem dX7_drops_1 : decode cX7_drops 1 = .ok (.istore_n 1, 1) := by decide +kernel
theorem dX7_drops_2 : decode cX7_drops 2 = .ok (.iload_n 1, 1) := by decide +kernel
theorem dX7_drops_3 : decode cX7_drops 3 = .ok (.sipush 1885, 3) := by decide +kernel
theorem dX7_drops_6 : decode cX7_drops 6 = .ok (.if_icmp .ge 25, 3) := by decide +kernel
theorem dX7_drops_9 : decode cX7_drops 9 = .ok (.aload_n 0, 1) := by decide +kernel
theorem dX7_drops_10 : decode cX7_drops 10 = .ok (.getfield 20, 3) := by decide +kernel
theorem dX7_drops_13 : decode cX7_drops 13 = .ok (.iload_n 1, 1) := by decide +kernel
theorem dX7_drops_14 : decode cX7_drops 14 = .ok (.aload_n 0, 1) := by decide +kernel
theorem dX7_drops_15 : decode cX7_drops 15 = .ok (.getfield 20, 3) := by decide +kernel
theorem dX7_drops_18 : decode cX7_drops 18 = .ok (.iload_n 1, 1) := by decide +kernel
theorem dX7_drops_19 : decode cX7_drops 19 = .ok (.sipush 377, 3) := by decide +kernel
theorem dX7_drops_22 : decode cX7_drops 22 = .ok (.iadd, 1) := by decide +kernel
theorem dX7_drops_23 : decode cX7_drops 23 = .ok (.laload, 1) := by decide +kernel
theorem dX7_drops_24 : decode cX7_drops 24 = .ok (.lastore, 1) := by decide +kernel
theorem dX7_drops_25 : decode cX7_drops 25 = .ok (.iinc 1 1, 3) := by decide +kernel
theorem dX7_drops_28 : decode cX7_drops 28 = .ok (.goto (-26), 3) := by decide +kernel
theorem dX7_drops_31 : decode cX7_drops 31 = .ok (.iconst 0, 1) := by decide +kernel
theorem dX7_drops_32 : decode cX7_drops 32 = .ok (.istore_n 1, 1) := by decide +kernel
theorem dX7_drops_33 : decode cX7_drops 33 = .ok (.iload_n 1, 1) := by decide +kernel
theorem dX7_drops_34 : decode cX7_drops 34 = .ok (.bipush 40, 2) := by decide +kernel
theorem dX7_drops_36 : decode cX7_drops 36 = .ok (.if_icmp .ge 24, 3) := by decide +kernel
theorem dX7_drops_39 : decode cX7_drops 39 = .ok (.aload_n 0, 1) := by decide +kernel
theorem dX7_drops_40 : decode cX7_drops 40 = .ok (.getfield 23, 3) := by decide +kernel
theorem dX7_drops_43 : decode cX7_drops 43 = .ok (.iload_n 1, 1) := by decide +kernel
theorem dX7_drops_44 : decode cX7_drops 44 = .ok (.aload_n 0, 1) := by decide +kernel
theorem dX7_drops_45 : decode cX7_drops 45 = .ok (.getfield 23, 3) := by decide +kernel
theorem dX7_drops_48 : decode cX7_drops 48 = .ok (.iload_n 1, 1) := by decide +kernel
theorem dX7_drops_49 : decode cX7_drops 49 = .ok (.bipush 8, 2) := by decide +kernel
theorem dX7_drops_51 : decode cX7_drops 51 = .ok (.iadd, 1) := by decide +kernel
theorem dX7_drops_52 : decode cX7_drops 52 = .ok (.daload, 1) := by decide +kernel
theorem dX7_drops_53 : decode cX7_drops 53 = .ok (.dastore, 1) := by decide +kernel
theorem dX7_drops_54 : decode cX7_drops 54 = .ok (.iinc 1 1, 3) := by decide +kernel
theorem dX7_drops_57 : decode cX7_drops 57 = .ok (.goto (-24), 3) := by decide +kernel
theorem dX7_drops_60 : decode cX7_drops 60 = .ok (.iconst 0, 1) := by decide +kernel
theorem dX7_drops_61 : decode cX7_drops 61 = .ok (.istore_n 1, 1) := by decide +kernel
theorem dX7_drops_62 : decode cX7_drops 62 = .ok (.iload_n 1, 1) := by decide +kernel
theorem dX7_drops_63 : decode cX7_drops 63 = .ok (.ldc 51, 2) := by decide +kernel
theorem dX7_drops_65 : decode cX7_drops 65 = .ok (.if_icmp .ge 25, 3) := by decide +kernel
theorem dX7_drops_68 : decode cX7_drops 68 = .ok (.aload_n 0, 1) := by decide +kernel
theorem dX7_drops_69 : decode cX7_drops 69 = .ok (.getfield 27, 3) := by decide +kernel
theorem dX7_drops_72 : decode cX7_drops 72 = .ok (.iload_n 1, 1) := by decide +kernel
theorem dX7_drops_73 : decode cX7_drops 73 = .ok (.aload_n 0, 1) := by decide +kernel
theorem dX7_drops_74 : decode cX7_drops 74 = .ok (.getfield 27, 3) := by decide +kernel
theorem dX7_drops_77 : decode cX7_drops 77 = .ok (.iload_n 1, 1) := by decide +kernel
theorem dX7_drops_78 : decode cX7_drops 78 = .ok (.sipush 8400, 3) := by decide +kernel
theorem dX7_drops_81 : decode cX7_drops 81 = .ok (.iadd, 1) := by decide +kernel
theorem dX7_drops_82 : decode cX7_drops 82 = .ok (.laload, 1) := by decide +kernel
theorem dX7_drops_83 : decode cX7_drops 83 = .ok (.lastore, 1) := by decide +kernel
theorem dX7_drops_84 : decode cX7_drops 84 = .ok (.iinc 1 1, 3) := by decide +kernel
theorem dX7_drops_87 : decode cX7_drops 87 = .ok (.goto (-25), 3) := by decide +kernel
theorem dX7_drops_90 : decode cX7_drops 90 = .ok (.aload_n 0, 1) := by decide +kernel
theorem dX7_drops_91 : decode cX7_drops 91 = .ok (.dup, 1) := by decide +kernel
theorem dX7_drops_92 : decode cX7_drops 92 = .ok (.getfield 52, 3) := by decide +kernel
theorem dX7_drops_95 : decode cX7_drops 95 = .ok (.iconst 1, 1) := by decide +kernel
theorem dX7_drops_96 : decode cX7_drops 96 = .ok (.isub, 1) := by decide +kernel
theorem dX7_drops_97 : decode cX7_drops 97 = .ok (.putfield 52, 3) := by decide +kernel
theorem dX7_drops_100 : decode cX7_drops 100 = .ok (.return_, 1) := by decide +kernel
theorem dX7_records_0 : decode cX7_records 0 = .ok (.aload_n 0, 1) := by decide +kernel
theorem dX7_records_1 : decode cX7_records 1 = .ok (.getfield 52, 3) := by decide +kernel
theorem dX7_records_4 : decode cX7_records 4 = .ok (.bipush 6, 2) := by decide +kernel
theorem dX7_records_6 : decode cX7_records 6 = .ok (.if_icmp .ne 7, 3) := by decide +kernel
theorem dX7_records_9 : decode cX7_records 9 = .ok (.aload_n 0, 1) := by decide +kernel
theorem dX7_records_10 : decode cX7_records 10 = .ok (.invokevirtual 56, 3) := by decide +kernel
theorem dX7_records_13 : decode cX7_records 13 = .ok (.aload_n 0, 1) := by decide +kernel
theorem dX7_records_14 : decode cX7_records 14 = .ok (.aload_n 0, 1) := by decide +kernel
theorem dX7_records_15 : decode cX7_records 15 = .ok (.getfield 52, 3) := by decide +kernel
theorem dX7_records_18 : decode cX7_records 18 = .ok (.invokevirtual 59, 3) := by decide +kernel
theorem dX7_records_21 : decode cX7_records 21 = .ok (.aload_n 0, 1) := by decide +kernel
theorem dX7_records_22 : decode cX7_records 22 = .ok (.dup, 1) := by decide +kernel
theorem dX7_records_23 : decode cX7_records 23 = .ok (.getfield 52, 3) := by decide +kernel
theorem dX7_records_26 : decode cX7_records 26 = .ok (.iconst 1, 1) := by decide +kernel
theorem dX7_records_27 : decode cX7_records 27 = .ok (.iadd, 1) := by decide +kernel
theorem dX7_records_28 : decode cX7_records 28 = .ok (.putfield 52, 3) := by decide +kernel
theorem dX7_records_31 : decode cX7_records 31 = .ok (.return_, 1) := by decide +kernel
theorem dX7_undo_0 : decode cX7_undo 0 = .ok (.aload_n 0, 1) := by decide +kernel
theorem dX7_undo_1 : decode cX7_undo 1 = .ok (.getfield 52, 3) := by decide +kernel
theorem dX7_undo_4 : decode cX7_undo 4 = .ok (.ifCond .ne 6, 3) := by decide +kernel
theorem dX7_undo_7 : decode cX7_undo 7 = .ok (.bipush (-5), 2) := by decide +kernel
theorem dX7_undo_9 : decode cX7_undo 9 = .ok (.ireturn, 1) := by decide +kernel
theorem dX7_undo_10 : decode cX7_undo 10 = .ok (.aload_n 0, 1) := by decide +kernel
theorem dX7_undo_11 : decode cX7_undo 11 = .ok (.dup, 1) := by decide +kernel
theorem dX7_undo_12 : decode cX7_undo 12 = .ok (.getfield 52, 3) := by decide +kernel
theorem dX7_undo_15 : decode cX7_undo 15 = .ok (.iconst 1, 1) := by decide +kernel
theorem dX7_undo_16 : decode cX7_undo 16 = .ok (.isub, 1) := by decide +kernel
theorem dX7_undo_17 : decode cX7_undo 17 = .ok (.putfield 52, 3) := by decide +kernel
theorem dX7_undo_20 : decode cX7_undo 20 = .ok (.aload_n 0, 1) := by decide +kernel
theorem dX7_undo_21 : decode cX7_undo 21 = .ok (.aload_n 0, 1) := by decide +kernel
theorem dX7_undo_22 : decode cX7_undo 22 = .ok (.getfield 52, 3) := by decide +kernel
theorem dX7_undo_25 : decode cX7_undo 25 = .ok (.invokevirtual 63, 3) := by decide +kernel
theorem dX7_undo_28 : decode cX7_undo 28 = .ok (.aload_n 0, 1) := by decide +kernel
theorem dX7_undo_29 : decode cX7_undo 29 = .ok (.getfield 52, 3) := by decide +kernel
theorem dX7_undo_32 : decode cX7_undo 32 = .ok (.ireturn, 1) := by decide +kernel
theorem dX7_save_0 : decode cX7_save 0 = .ok (.iload_n 1, 1) := by decide +kernel
theorem dX7_save_1 : decode cX7_save 1 = .ok (.i2l, 1) := by decide +kernel
theorem dX7_save_2 : decode cX7_save 2 = .ok (.lconst 0, 1) := by decide +kernel
theorem dX7_save_3 : decode cX7_save 3 = .ok (.lconst 1, 1) := by decide +kernel
theorem dX7_save_4 : decode cX7_save 4 = .ok (.invokestatic 47, 3) := by decide +kernel
theorem dX7_save_7 : decode cX7_save 7 = .ok (.ifCond .ne 6, 3) := by decide +kernel
theorem dX7_save_10 : decode cX7_save 10 = .ok (.bipush (-2), 2) := by decide +kernel
theorem dX7_save_12 : decode cX7_save 12 = .ok (.ireturn, 1) := by decide +kernel
theorem dX7_save_13 : decode cX7_save 13 = .ok (.aload_n 0, 1) := by decide +kernel
theorem dX7_save_14 : decode cX7_save 14 = .ok (.bipush 6, 2) := by decide +kernel
theorem dX7_save_16 : decode cX7_save 16 = .ok (.iload_n 1, 1) := by decide +kernel
theorem dX7_save_17 : decode cX7_save 17 = .ok (.iadd, 1) := by decide +kernel
theorem dX7_save_18 : decode cX7_save 18 = .ok (.invokevirtual 59, 3) := by decide +kernel
theorem dX7_save_21 : decode cX7_save 21 = .ok (.aload_n 0, 1) := by decide +kernel
theorem dX7_save_22 : decode cX7_save 22 = .ok (.getfield 30, 3) := by decide +kernel
theorem dX7_save_25 : decode cX7_save 25 = .ok (.iload_n 1, 1) := by decide +kernel
theorem dX7_save_26 : decode cX7_save 26 = .ok (.iconst 1, 1) := by decide +kernel
theorem dX7_save_27 : decode cX7_save 27 = .ok (.iastore, 1) := by decide +kernel
theorem dX7_save_28 : decode cX7_save 28 = .ok (.aload_n 0, 1) := by decide +kernel
theorem dX7_save_29 : decode cX7_save 29 = .ok (.invokevirtual 66, 3) := by decide +kernel
theorem dX7_save_32 : decode cX7_save 32 = .ok (.ireturn, 1) := by decide +kernel
theorem dX7_restore_0 : decode cX7_restore 0 = .ok (.iload_n 1, 1) := by decide +kernel
theorem dX7_restore_1 : decode cX7_restore 1 = .ok (.i2l, 1) := by decide +kernel
theorem dX7_restore_2 : decode cX7_restore 2 = .ok (.lconst 0, 1) := by decide +kernel
theorem dX7_restore_3 : decode cX7_restore 3 = .ok (.lconst 1, 1) := by decide +kernel
theorem dX7_restore_4 : decode cX7_restore 4 = .ok (.invokestatic 47, 3) := by decide +kernel
theorem dX7_restore_7 : decode cX7_restore 7 = .ok (.ifCond .ne 6, 3) := by decide +kernel
theorem dX7_restore_10 : decode cX7_restore 10 = .ok (.bipush (-2), 2) := by decide +kernel
theorem dX7_restore_12 : decode cX7_restore 12 = .ok (.ireturn, 1) := by decide +kernel
theorem dX7_restore_13 : decode cX7_restore 13 = .ok (.aload_n 0, 1) := by decide +kernel
theorem dX7_restore_14 : decode cX7_restore 14 = .ok (.getfield 30, 3) := by decide +kernel
theorem dX7_restore_17 : decode cX7_restore 17 = .ok (.iload_n 1, 1) := by decide +kernel
theorem dX7_restore_18 : decode cX7_restore 18 = .ok (.iaload, 1) := by decide +kernel
theorem dX7_restore_19 : decode cX7_restore 19 = .ok (.ifCond .ne 6, 3) := by decide +kernel
theorem dX7_restore_22 : decode cX7_restore 22 = .ok (.bipush (-5), 2) := by decide +kernel
theorem dX7_restore_24 : decode cX7_restore 24 = .ok (.ireturn, 1) := by decide +kernel
theorem dX7_restore_25 : decode cX7_restore 25 = .ok (.aload_n 0, 1) := by decide +kernel
theorem dX7_restore_26 : decode cX7_restore 26 = .ok (.invokevirtual 70, 3) := by decide +kernel
theorem dX7_restore_29 : decode cX7_restore 29 = .ok (.aload_n 0, 1) := by decide +kernel
theorem dX7_restore_30 : decode cX7_restore 30 = .ok (.bipush 6, 2) := by decide +kernel
theorem dX7_restore_32 : decode cX7_restore 32 = .ok (.iload_n 1, 1) := by decide +kernel
theorem dX7_restore_33 : decode cX7_restore 33 = .ok (.iadd, 1) := by decide +kernel
theorem dX7_restore_34 : decode cX7_restore 34 = .ok (.invokevirtual 63, 3) := by decide +kernel
theorem dX7_restore_37 : decode cX7_restore 37 = .ok (.aload_n 0, 1) := by decide +kernel
theorem dX7_restore_38 : decode cX7_restore 38 = .ok (.invokevirtual 66, 3) := by decide +kernel
theorem dX7_restore_41 : decode cX7_restore 41 = .ok (.ireturn, 1) := by decide +kernel
theorem dX7_isDay_0 : decode cX7_isDay 0 = .ok (.iload_n 0, 1) := by decide +kernel
theorem dX7_isDay_1 : decode cX7_isDay 1 = .ok (.i2l, 1) := by decide +kernel
theorem dX7_isDay_2 : decode cX7_isDay 2 = .ok (.lconst 0, 1) := by decide +kernel
theorem dX7_isDay_3 : decode cX7_isDay 3 = .ok (.ldc2_w 73, 3) := by decide +kernel
theorem dX7_isDay_6 : decode cX7_isDay 6 = .ok (.invokestatic 47, 3) := by decide +kernel
theorem dX7_isDay_9 : decode cX7_isDay 9 = .ok (.ireturn, 1) := by decide +kernel
theorem dX7_monthLength_0 : decode cX7_monthLength 0 = .ok (.iload_n 0, 1) := by decide +kernel
theorem dX7_monthLength_1 : decode cX7_monthLength 1 = .ok (.bipush 12, 2) := by decide +kernel
theorem dX7_monthLength_3 : decode cX7_monthLength 3 = .ok (.irem, 1) := by decide +kernel
theorem dX7_monthLength_4 : decode cX7_monthLength 4 = .ok (.istore_n 1, 1) := by decide +kernel
theorem dX7_monthLength_5 : decode cX7_monthLength 5 = .ok (.iload_n 1, 1) := by decide +kernel
theorem dX7_monthLength_6 : decode cX7_monthLength 6 = .ok (.iconst 1, 1) := by decide +kernel
theorem dX7_monthLength_7 : decode cX7_monthLength 7 = .ok (.if_icmp .ne 6, 3) := by decide +kernel
theorem dX7_monthLength_10 : decode cX7_monthLength 10 = .ok (.bipush 28, 2) := by decide +kernel
theorem dX7_monthLength_12 : decode cX7_monthLength 12 = .ok (.ireturn, 1) := by decide +kernel
theorem dX7_monthLength_13 : decode cX7_monthLength 13 = .ok (.iload_n 1, 1) := by decide +kernel
theorem dX7_monthLength_14 : decode cX7_monthLength 14 = .ok (.iconst 3, 1) := by decide +kernel
theorem dX7_monthLength_15 : decode cX7_monthLength 15 = .ok (.if_icmp .eq 20, 3) := by decide +kernel
theorem dX7_monthLength_18 : decode cX7_monthLength 18 = .ok (.iload_n 1, 1) := by decide +kernel
theorem dX7_monthLength_19 : decode cX7_monthLength 19 = .ok (.iconst 5, 1) := by decide +kernel
theorem dX7_monthLength_20 : decode cX7_monthLength 20 = .ok (.if_icmp .eq 15, 3) := by decide +kernel
theorem dX7_monthLength_23 : decode cX7_monthLength 23 = .ok (.iload_n 1, 1) := by decide +kernel
theorem dX7_monthLength_24 : decode cX7_monthLength 24 = .ok (.bipush 8, 2) := by decide +kernel
theorem dX7_monthLength_26 : decode cX7_monthLength 26 = .ok (.if_icmp .eq 9, 3) := by decide +kernel
theorem dX7_monthLength_29 : decode cX7_monthLength 29 = .ok (.iload_n 1, 1) := by decide +kernel
theorem dX7_monthLength_30 : decode cX7_monthLength 30 = .ok (.bipush 10, 2) := by decide +kernel
theorem dX7_monthLength_32 : decode cX7_monthLength 32 = .ok (.if_icmp .ne 8, 3) := by decide +kernel
theorem dX7_monthLength_35 : decode cX7_monthLength 35 = .ok (.bipush 30, 2) := by decide +kernel
theorem dX7_monthLength_37 : decode cX7_monthLength 37 = .ok (.goto 5, 3) := by decide +kernel
theorem dX7_monthLength_40 : decode cX7_monthLength 40 = .ok (.bipush 31, 2) := by decide +kernel
theorem dX7_monthLength_42 : decode cX7_monthLength 42 = .ok (.ireturn, 1) := by decide +kernel
theorem dX7_monthStart_0 : decode cX7_monthStart 0 = .ok (.iload_n 0, 1) := by decide +kernel
theorem dX7_monthStart_1 : decode cX7_monthStart 1 = .ok (.bipush 12, 2) := by decide +kernel
theorem dX7_monthStart_3 : decode cX7_monthStart 3 = .ok (.idiv, 1) := by decide +kernel
theorem dX7_monthStart_4 : decode cX7_monthStart 4 = .ok (.sipush 365, 3) := by decide +kernel
theorem dX7_monthStart_7 : decode cX7_monthStart 7 = .ok (.imul, 1) := by decide +kernel
theorem dX7_monthStart_8 : decode cX7_monthStart 8 = .ok (.istore_n 1, 1) := by decide +kernel
theorem dX7_monthStart_9 : decode cX7_monthStart 9 = .ok (.iload_n 0, 1) := by decide +kernel
theorem dX7_monthStart_10 : decode cX7_monthStart 10 = .ok (.bipush 12, 2) := by decide +kernel
theorem dX7_monthStart_12 : decode cX7_monthStart 12 = .ok (.idiv, 1) := by decide +kernel
theorem dX7_monthStart_13 : decode cX7_monthStart 13 = .ok (.bipush 12, 2) := by decide +kernel
theorem dX7_monthStart_15 : decode cX7_monthStart 15 = .ok (.imul, 1) := by decide +kernel
theorem dX7_monthStart_16 : decode cX7_monthStart 16 = .ok (.istore_n 2, 1) := by decide +kernel
theorem dX7_monthStart_17 : decode cX7_monthStart 17 = .ok (.iload_n 2, 1) := by decide +kernel
theorem dX7_monthStart_18 : decode cX7_monthStart 18 = .ok (.iload_n 0, 1) := by decide +kernel
theorem dX7_monthStart_19 : decode cX7_monthStart 19 = .ok (.if_icmp .ge 16, 3) := by decide +kernel
theorem dX7_monthStart_22 : decode cX7_monthStart 22 = .ok (.iload_n 1, 1) := by decide +kernel
theorem dX7_monthStart_23 : decode cX7_monthStart 23 = .ok (.iload_n 2, 1) := by decide +kernel
theorem dX7_monthStart_24 : decode cX7_monthStart 24 = .ok (.invokestatic 75, 3) := by decide +kernel
theorem dX7_monthStart_27 : decode cX7_monthStart 27 = .ok (.iadd, 1) := by decide +kernel
theorem dX7_monthStart_28 : decode cX7_monthStart 28 = .ok (.istore_n 1, 1) := by decide +kernel
theorem dX7_monthStart_29 : decode cX7_monthStart 29 = .ok (.iinc 2 1, 3) := by decide +kernel
theorem dX7_monthStart_32 : decode cX7_monthStart 32 = .ok (.goto (-15), 3) := by decide +kernel
theorem dX7_monthStart_35 : decode cX7_monthStart 35 = .ok (.iload_n 1, 1) := by decide +kernel
theorem dX7_monthStart_36 : decode cX7_monthStart 36 = .ok (.ireturn, 1) := by decide +kernel
theorem dX7_monthOf_0 : decode cX7_monthOf 0 = .ok (.iload_n 0, 1) := by decide +kernel
theorem dX7_monthOf_1 : decode cX7_monthOf 1 = .ok (.sipush 365, 3) := by decide +kernel
theorem dX7_monthOf_4 : decode cX7_monthOf 4 = .ok (.idiv, 1) := by decide +kernel
theorem dX7_monthOf_5 : decode cX7_monthOf 5 = .ok (.bipush 12, 2) := by decide +kernel
theorem dX7_monthOf_7 : decode cX7_monthOf 7 = .ok (.imul, 1) := by decide +kernel
theorem dX7_monthOf_8 : decode cX7_monthOf 8 = .ok (.istore_n 1, 1) := by decide +kernel
theorem dX7_monthOf_9 : decode cX7_monthOf 9 = .ok (.iload_n 1, 1) := by decide +kernel
theorem dX7_monthOf_10 : decode cX7_monthOf 10 = .ok (.invokestatic 78, 3) := by decide +kernel
theorem dX7_monthOf_13 : decode cX7_monthOf 13 = .ok (.iload_n 1, 1) := by decide +kernel
theorem dX7_monthOf_14 : decode cX7_monthOf 14 = .ok (.invokestatic 75, 3) := by decide +kernel
theorem dX7_monthOf_17 : decode cX7_monthOf 17 = .ok (.iadd, 1) := by decide +kernel
theorem dX7_monthOf_18 : decode cX7_monthOf 18 = .ok (.iload_n 0, 1) := by decide +kernel
theorem dX7_monthOf_19 : decode cX7_monthOf 19 = .ok (.if_icmp .gt 9, 3) := by decide +kernel
theorem dX7_monthOf_22 : decode cX7_monthOf 22 = .ok (.iinc 1 1, 3) := by decide +kernel
theorem dX7_monthOf_25 : decode cX7_monthOf 25 = .ok (.goto (-16), 3) := by decide +kernel
theorem dX7_monthOf_28 : decode cX7_monthOf 28 = .ok (.iload_n 1, 1) := by decide +kernel
theorem dX7_monthOf_29 : decode cX7_monthOf 29 = .ok (.ireturn, 1) := by decide +kernel
theorem dX7_weekdayOf_0 : decode cX7_weekdayOf 0 = .ok (.iload_n 1, 1) := by decide +kernel
theorem dX7_weekdayOf_1 : decode cX7_weekdayOf 1 = .ok (.aload_n 0, 1) := by decide +kernel
theorem dX7_weekdayOf_2 : decode cX7_weekdayOf 2 = .ok (.bipush 12, 2) := by decide +kernel
theorem dX7_weekdayOf_4 : decode cX7_weekdayOf 4 = .ok (.invokevirtual 43, 3) := by decide +kernel
theorem dX7_weekdayOf_7 : decode cX7_weekdayOf 7 = .ok (.iadd, 1) := by decide +kernel
theorem dX7_weekdayOf_8 : decode cX7_weekdayOf 8 = .ok (.bipush 7, 2) := by decide +kernel
theorem dX7_weekdayOf_10 : decode cX7_weekdayOf 10 = .ok (.irem, 1) := by decide +kernel
theorem dX7_weekdayOf_11 : decode cX7_weekdayOf 11 = .ok (.ireturn, 1) := by decide +kernel
theorem dX7_isHoliday_0 : decode cX7_isHoliday 0 = .ok (.iconst 0, 1) := by decide +kernel
theorem dX7_isHoliday_1 : decode cX7_isHoliday 1 = .ok (.istore_n 2, 1) := by decide +kernel
theorem dX7_isHoliday_2 : decode cX7_isHoliday 2 = .ok (.iconst 0, 1) := by decide +kernel
theorem dX7_isHoliday_3 : decode cX7_isHoliday 3 = .ok (.istore_n 3, 1) := by decide +kernel
theorem dX7_isHoliday_4 : decode cX7_isHoliday 4 = .ok (.iload_n 3, 1) := by decide +kernel
theorem dX7_isHoliday_5 : decode cX7_isHoliday 5 = .ok (.i2l, 1) := by decide +kernel
theorem dX7_isHoliday_6 : decode cX7_isHoliday 6 = .ok (.aload_n 0, 1) := by decide +kernel
theorem dX7_isHoliday_7 : decode cX7_isHoliday 7 = .ok (.getfield 7, 3) := by decide +kernel
theorem dX7_isHoliday_10 : decode cX7_isHoliday 10 = .ok (.iconst 3, 1) := by decide +kernel
theorem dX7_isHoliday_11 : decode cX7_isHoliday 11 = .ok (.laload, 1) := by decide +kernel
theorem dX7_isHoliday_12 : decode cX7_isHoliday 12 = .ok (.lcmp, 1) := by decide +kernel
theorem dX7_isHoliday_13 : decode cX7_isHoliday 13 = .ok (.ifCond .ge 34, 3) := by decide +kernel
theorem dX7_isHoliday_16 : decode cX7_isHoliday 16 = .ok (.iload_n 2, 1) := by decide +kernel
theorem dX7_isHoliday_17 : decode cX7_isHoliday 17 = .ok (.ifCond .ne 18, 3) := by decide +kernel
theorem dX7_isHoliday_20 : decode cX7_isHoliday 20 = .ok (.aload_n 0, 1) := by decide +kernel
theorem dX7_isHoliday_21 : decode cX7_isHoliday 21 = .ok (.getfield 7, 3) := by decide +kernel
theorem dX7_isHoliday_24 : decode cX7_isHoliday 24 = .ok (.bipush 13, 2) := by decide +kernel
theorem dX7_isHoliday_26 : decode cX7_isHoliday 26 = .ok (.iload_n 3, 1) := by decide +kernel
theorem dX7_isHoliday_27 : decode cX7_isHoliday 27 = .ok (.iadd, 1) := by decide +kernel
theorem dX7_isHoliday_28 : decode cX7_isHoliday 28 = .ok (.laload, 1) := by decide +kernel
theorem dX7_isHoliday_29 : decode cX7_isHoliday 29 = .ok (.iload_n 1, 1) := by decide +kernel
theorem dX7_isHoliday_30 : decode cX7_isHoliday 30 = .ok (.i2l, 1) := by decide +kernel
theorem dX7_isHoliday_31 : decode cX7_isHoliday 31 = .ok (.lcmp, 1) := by decide +kernel
theorem dX7_isHoliday_32 : decode cX7_isHoliday 32 = .ok (.ifCond .ne 7, 3) := by decide +kernel
theorem dX7_isHoliday_35 : decode cX7_isHoliday 35 = .ok (.iconst 1, 1) := by decide +kernel
theorem dX7_isHoliday_36 : decode cX7_isHoliday 36 = .ok (.goto 4, 3) := by decide +kernel
theorem dX7_isHoliday_39 : decode cX7_isHoliday 39 = .ok (.iconst 0, 1) := by decide +kernel
theorem dX7_isHoliday_40 : decode cX7_isHoliday 40 = .ok (.istore_n 2, 1) := by decide +kernel
theorem dX7_isHoliday_41 : decode cX7_isHoliday 41 = .ok (.iinc 3 1, 3) := by decide +kernel
theorem dX7_isHoliday_44 : decode cX7_isHoliday 44 = .ok (.goto (-40), 3) := by decide +kernel
theorem dX7_isHoliday_47 : decode cX7_isHoliday 47 = .ok (.iload_n 2, 1) := by decide +kernel
theorem dX7_isHoliday_48 : decode cX7_isHoliday 48 = .ok (.ireturn, 1) := by decide +kernel
theorem dX7_isBusiness_0 : decode cX7_isBusiness 0 = .ok (.aload_n 0, 1) := by decide +kernel
theorem dX7_isBusiness_1 : decode cX7_isBusiness 1 = .ok (.iload_n 1, 1) := by decide +kernel
theorem dX7_isBusiness_2 : decode cX7_isBusiness 2 = .ok (.invokevirtual 81, 3) := by decide +kernel
theorem dX7_isBusiness_5 : decode cX7_isBusiness 5 = .ok (.iconst 5, 1) := by decide +kernel
theorem dX7_isBusiness_6 : decode cX7_isBusiness 6 = .ok (.if_icmp .ge 15, 3) := by decide +kernel
theorem dX7_isBusiness_9 : decode cX7_isBusiness 9 = .ok (.aload_n 0, 1) := by decide +kernel
theorem dX7_isBusiness_10 : decode cX7_isBusiness 10 = .ok (.iload_n 1, 1) := by decide +kernel
theorem dX7_isBusiness_11 : decode cX7_isBusiness 11 = .ok (.invokevirtual 84, 3) := by decide +kernel
theorem dX7_isBusiness_14 : decode cX7_isBusiness 14 = .ok (.ifCond .ne 7, 3) := by decide +kernel
theorem dX7_isBusiness_17 : decode cX7_isBusiness 17 = .ok (.iconst 1, 1) := by decide +kernel
theorem dX7_isBusiness_18 : decode cX7_isBusiness 18 = .ok (.goto 4, 3) := by decide +kernel
theorem dX7_isBusiness_21 : decode cX7_isBusiness 21 = .ok (.iconst 0, 1) := by decide +kernel
theorem dX7_isBusiness_22 : decode cX7_isBusiness 22 = .ok (.ireturn, 1) := by decide +kernel
theorem dX7_nextBusiness_0 : decode cX7_nextBusiness 0 = .ok (.iload_n 1, 1) := by decide +kernel
theorem dX7_nextBusiness_1 : decode cX7_nextBusiness 1 = .ok (.istore_n 2, 1) := by decide +kernel
theorem dX7_nextBusiness_2 : decode cX7_nextBusiness 2 = .ok (.iload_n 2, 1) := by decide +kernel
theorem dX7_nextBusiness_3 : decode cX7_nextBusiness 3 = .ok (.sipush 1094, 3) := by decide +kernel
theorem dX7_nextBusiness_6 : decode cX7_nextBusiness 6 = .ok (.if_icmp .gt 19, 3) := by decide +kernel
theorem dX7_nextBusiness_9 : decode cX7_nextBusiness 9 = .ok (.aload_n 0, 1) := by decide +kernel
theorem dX7_nextBusiness_10 : decode cX7_nextBusiness 10 = .ok (.iload_n 2, 1) := by decide +kernel
theorem dX7_nextBusiness_11 : decode cX7_nextBusiness 11 = .ok (.invokevirtual 88, 3) := by decide +kernel
theorem dX7_nextBusiness_14 : decode cX7_nextBusiness 14 = .ok (.ifCond .eq 5, 3) := by decide +kernel
theorem dX7_nextBusiness_17 : decode cX7_nextBusiness 17 = .ok (.iload_n 2, 1) := by decide +kernel
theorem dX7_nextBusiness_18 : decode cX7_nextBusiness 18 = .ok (.ireturn, 1) := by decide +kernel
theorem dX7_nextBusiness_19 : decode cX7_nextBusiness 19 = .ok (.iinc 2 1, 3) := by decide +kernel
theorem dX7_nextBusiness_22 : decode cX7_nextBusiness 22 = .ok (.goto (-20), 3) := by decide +kernel
theorem dX7_nextBusiness_25 : decode cX7_nextBusiness 25 = .ok (.bipush (-6), 2) := by decide +kernel
theorem dX7_nextBusiness_27 : decode cX7_nextBusiness 27 = .ok (.ireturn, 1) := by decide +kernel
theorem dX7_lastBusiness_0 : decode cX7_lastBusiness 0 = .ok (.iload_n 1, 1) := by decide +kernel
theorem dX7_lastBusiness_1 : decode cX7_lastBusiness 1 = .ok (.istore_n 2, 1) := by decide +kernel
theorem dX7_lastBusiness_2 : decode cX7_lastBusiness 2 = .ok (.iload_n 2, 1) := by decide +kernel
theorem dX7_lastBusiness_3 : decode cX7_lastBusiness 3 = .ok (.ifCond .lt 19, 3) := by decide +kernel
theorem dX7_lastBusiness_6 : decode cX7_lastBusiness 6 = .ok (.aload_n 0, 1) := by decide +kernel
theorem dX7_lastBusiness_7 : decode cX7_lastBusiness 7 = .ok (.iload_n 2, 1) := by decide +kernel
theorem dX7_lastBusiness_8 : decode cX7_lastBusiness 8 = .ok (.invokevirtual 88, 3) := by decide +kernel
theorem dX7_lastBusiness_11 : decode cX7_lastBusiness 11 = .ok (.ifCond .eq 5, 3) := by decide +kernel
theorem dX7_lastBusiness_14 : decode cX7_lastBusiness 14 = .ok (.iload_n 2, 1) := by decide +kernel
theorem dX7_lastBusiness_15 : decode cX7_lastBusiness 15 = .ok (.ireturn, 1) := by decide +kernel
theorem dX7_lastBusiness_16 : decode cX7_lastBusiness 16 = .ok (.iinc 2 (-1), 3) := by decide +kernel
theorem dX7_lastBusiness_19 : decode cX7_lastBusiness 19 = .ok (.goto (-17), 3) := by decide +kernel
theorem dX7_lastBusiness_22 : decode cX7_lastBusiness 22 = .ok (.bipush (-6), 2) := by decide +kernel
theorem dX7_lastBusiness_24 : decode cX7_lastBusiness 24 = .ok (.ireturn, 1) := by decide +kernel
theorem dX7_ofDay_0 : decode cX7_ofDay 0 = .ok (.iload_n 1, 1) := by decide +kernel
theorem dX7_ofDay_1 : decode cX7_ofDay 1 = .ok (.invokestatic 91, 3) := by decide +kernel
theorem dX7_ofDay_4 : decode cX7_ofDay 4 = .ok (.ifCond .ne 6, 3) := by decide +kernel
theorem dX7_ofDay_7 : decode cX7_ofDay 7 = .ok (.bipush (-2), 2) := by decide +kernel
theorem dX7_ofDay_9 : decode cX7_ofDay 9 = .ok (.ireturn, 1) := by decide +kernel
theorem dX7_ofDay_10 : decode cX7_ofDay 10 = .ok (.iload_n 2, 1) := by decide +kernel
theorem dX7_ofDay_11 : decode cX7_ofDay 11 = .ok (.tableswitch 86 0 5 #[37, 43, 48, 60, 74, 80], 37) := by decide +kernel
theorem dX7_ofDay_48 : decode cX7_ofDay 48 = .ok (.aload_n 0, 1) := by decide +kernel
theorem dX7_ofDay_49 : decode cX7_ofDay 49 = .ok (.iload_n 1, 1) := by decide +kernel
theorem dX7_ofDay_50 : decode cX7_ofDay 50 = .ok (.invokevirtual 81, 3) := by decide +kernel
theorem dX7_ofDay_53 : decode cX7_ofDay 53 = .ok (.ireturn, 1) := by decide +kernel
theorem dX7_ofDay_54 : decode cX7_ofDay 54 = .ok (.iload_n 1, 1) := by decide +kernel
theorem dX7_ofDay_55 : decode cX7_ofDay 55 = .ok (.invokestatic 94, 3) := by decide +kernel
theorem dX7_ofDay_58 : decode cX7_ofDay 58 = .ok (.ireturn, 1) := by decide +kernel
theorem dX7_ofDay_59 : decode cX7_ofDay 59 = .ok (.iload_n 1, 1) := by decide +kernel
theorem dX7_ofDay_60 : decode cX7_ofDay 60 = .ok (.iload_n 1, 1) := by decide +kernel
theorem dX7_ofDay_61 : decode cX7_ofDay 61 = .ok (.invokestatic 94, 3) := by decide +kernel
theorem dX7_ofDay_64 : decode cX7_ofDay 64 = .ok (.invokestatic 78, 3) := by decide +kernel
theorem dX7_ofDay_67 : decode cX7_ofDay 67 = .ok (.isub, 1) := by decide +kernel
theorem dX7_ofDay_68 : decode cX7_ofDay 68 = .ok (.iconst 1, 1) := by decide +kernel
theorem dX7_ofDay_69 : decode cX7_ofDay 69 = .ok (.iadd, 1) := by decide +kernel
theorem dX7_ofDay_70 : decode cX7_ofDay 70 = .ok (.ireturn, 1) := by decide +kernel
theorem dX7_ofDay_71 : decode cX7_ofDay 71 = .ok (.aload_n 0, 1) := by decide +kernel
theorem dX7_ofDay_72 : decode cX7_ofDay 72 = .ok (.iload_n 1, 1) := by decide +kernel
theorem dX7_ofDay_73 : decode cX7_ofDay 73 = .ok (.invokevirtual 88, 3) := by decide +kernel
theorem dX7_ofDay_76 : decode cX7_ofDay 76 = .ok (.ifCond .eq 7, 3) := by decide +kernel
theorem dX7_ofDay_79 : decode cX7_ofDay 79 = .ok (.iconst 1, 1) := by decide +kernel
theorem dX7_ofDay_80 : decode cX7_ofDay 80 = .ok (.goto 4, 3) := by decide +kernel
theorem dX7_ofDay_83 : decode cX7_ofDay 83 = .ok (.iconst 0, 1) := by decide +kernel
theorem dX7_ofDay_84 : decode cX7_ofDay 84 = .ok (.ireturn, 1) := by decide +kernel
theorem dX7_ofDay_85 : decode cX7_ofDay 85 = .ok (.aload_n 0, 1) := by decide +kernel
theorem dX7_ofDay_86 : decode cX7_ofDay 86 = .ok (.iload_n 1, 1) := by decide +kernel
theorem dX7_ofDay_87 : decode cX7_ofDay 87 = .ok (.invokevirtual 97, 3) := by decide +kernel
theorem dX7_ofDay_90 : decode cX7_ofDay 90 = .ok (.ireturn, 1) := by decide +kernel
theorem dX7_ofDay_91 : decode cX7_ofDay 91 = .ok (.aload_n 0, 1) := by decide +kernel
theorem dX7_ofDay_92 : decode cX7_ofDay 92 = .ok (.iload_n 1, 1) := by decide +kernel
theorem dX7_ofDay_93 : decode cX7_ofDay 93 = .ok (.invokevirtual 100, 3) := by decide +kernel
theorem dX7_ofDay_96 : decode cX7_ofDay 96 = .ok (.ireturn, 1) := by decide +kernel
theorem dX7_ofDay_97 : decode cX7_ofDay 97 = .ok (.bipush (-2), 2) := by decide +kernel
theorem dX7_ofDay_99 : decode cX7_ofDay 99 = .ok (.ireturn, 1) := by decide +kernel
theorem dX7_shifted_0 : decode cX7_shifted 0 = .ok (.iload_n 2, 1) := by decide +kernel
theorem dX7_shifted_1 : decode cX7_shifted 1 = .ok (.ifCond .eq 16, 3) := by decide +kernel
theorem dX7_shifted_4 : decode cX7_shifted 4 = .ok (.iload_n 2, 1) := by decide +kernel
theorem dX7_shifted_5 : decode cX7_shifted 5 = .ok (.iconst 4, 1) := by decide +kernel
theorem dX7_shifted_6 : decode cX7_shifted 6 = .ok (.if_icmp .eq 11, 3) := by decide +kernel
theorem dX7_shifted_9 : decode cX7_shifted 9 = .ok (.aload_n 0, 1) := by decide +kernel
theorem dX7_shifted_10 : decode cX7_shifted 10 = .ok (.iload_n 1, 1) := by decide +kernel
theorem dX7_shifted_11 : decode cX7_shifted 11 = .ok (.invokevirtual 88, 3) := by decide +kernel
theorem dX7_shifted_14 : decode cX7_shifted 14 = .ok (.ifCond .eq 5, 3) := by decide +kernel
theorem dX7_shifted_17 : decode cX7_shifted 17 = .ok (.iload_n 1, 1) := by decide +kernel
theorem dX7_shifted_18 : decode cX7_shifted 18 = .ok (.ireturn, 1) := by decide +kernel
theorem dX7_shifted_19 : decode cX7_shifted 19 = .ok (.aload_n 0, 1) := by decide +kernel
theorem dX7_shifted_20 : decode cX7_shifted 20 = .ok (.iload_n 1, 1) := by decide +kernel
theorem dX7_shifted_21 : decode cX7_shifted 21 = .ok (.invokevirtual 97, 3) := by decide +kernel
theorem dX7_shifted_24 : decode cX7_shifted 24 = .ok (.istore_n 3, 1) := by decide +kernel
theorem dX7_shifted_25 : decode cX7_shifted 25 = .ok (.aload_n 0, 1) := by decide +kernel
theorem dX7_shifted_26 : decode cX7_shifted 26 = .ok (.iload_n 1, 1) := by decide +kernel
theorem dX7_shifted_27 : decode cX7_shifted 27 = .ok (.invokevirtual 100, 3) := by decide +kernel
theorem dX7_shifted_30 : decode cX7_shifted 30 = .ok (.istore 4, 2) := by decide +kernel
theorem dX7_shifted_32 : decode cX7_shifted 32 = .ok (.iload_n 2, 1) := by decide +kernel
theorem dX7_shifted_33 : decode cX7_shifted 33 = .ok (.iconst 1, 1) := by decide +kernel
theorem dX7_shifted_34 : decode cX7_shifted 34 = .ok (.if_icmp .ne 15, 3) := by decide +kernel
theorem dX7_shifted_37 : decode cX7_shifted 37 = .ok (.iload_n 3, 1) := by decide +kernel
theorem dX7_shifted_38 : decode cX7_shifted 38 = .ok (.bipush (-6), 2) := by decide +kernel
theorem dX7_shifted_40 : decode cX7_shifted 40 = .ok (.if_icmp .ne 7, 3) := by decide +kernel
theorem dX7_shifted_43 : decode cX7_shifted 43 = .ok (.iload_n 1, 1) := by decide +kernel
theorem dX7_shifted_44 : decode cX7_shifted 44 = .ok (.goto 4, 3) := by decide +kernel
theorem dX7_shifted_47 : decode cX7_shifted 47 = .ok (.iload_n 3, 1) := by decide +kernel
theorem dX7_shifted_48 : decode cX7_shifted 48 = .ok (.ireturn, 1) := by decide +kernel
theorem dX7_shifted_49 : decode cX7_shifted 49 = .ok (.iload_n 2, 1) := by decide +kernel
theorem dX7_shifted_50 : decode cX7_shifted 50 = .ok (.iconst 3, 1) := by decide +kernel
theorem dX7_shifted_51 : decode cX7_shifted 51 = .ok (.if_icmp .ne 22, 3) := by decide +kernel
theorem dX7_shifted_54 : decode cX7_shifted 54 = .ok (.iload_n 3, 1) := by decide +kernel
theorem dX7_shifted_55 : decode cX7_shifted 55 = .ok (.bipush (-6), 2) := by decide +kernel
theorem dX7_shifted_57 : decode cX7_shifted 57 = .ok (.if_icmp .eq 16, 3) := by decide +kernel
theorem dX7_shifted_60 : decode cX7_shifted 60 = .ok (.iload_n 3, 1) := by decide +kernel
theorem dX7_shifted_61 : decode cX7_shifted 61 = .ok (.invokestatic 94, 3) := by decide +kernel
theorem dX7_shifted_64 : decode cX7_shifted 64 = .ok (.iload_n 1, 1) := by decide +kernel
theorem dX7_shifted_65 : decode cX7_shifted 65 = .ok (.invokestatic 94, 3) := by decide +kernel
theorem dX7_shifted_68 : decode cX7_shifted 68 = .ok (.if_icmp .ne 5, 3) := by decide +kernel
theorem dX7_shifted_71 : decode cX7_shifted 71 = .ok (.iload_n 3, 1) := by decide +kernel
theorem dX7_shifted_72 : decode cX7_shifted 72 = .ok (.ireturn, 1) := by decide +kernel
theorem dX7_shifted_73 : decode cX7_shifted 73 = .ok (.iload 4, 2) := by decide +kernel
theorem dX7_shifted_75 : decode cX7_shifted 75 = .ok (.bipush (-6), 2) := by decide +kernel
theorem dX7_shifted_77 : decode cX7_shifted 77 = .ok (.if_icmp .ne 7, 3) := by decide +kernel
theorem dX7_shifted_80 : decode cX7_shifted 80 = .ok (.iload_n 1, 1) := by decide +kernel
theorem dX7_shifted_81 : decode cX7_shifted 81 = .ok (.goto 5, 3) := by decide +kernel
theorem dX7_shifted_84 : decode cX7_shifted 84 = .ok (.iload 4, 2) := by decide +kernel
theorem dX7_shifted_86 : decode cX7_shifted 86 = .ok (.ireturn, 1) := by decide +kernel
theorem dX7_shift_0 : decode cX7_shift 0 = .ok (.iload_n 1, 1) := by decide +kernel
theorem dX7_shift_1 : decode cX7_shift 1 = .ok (.invokestatic 91, 3) := by decide +kernel
theorem dX7_shift_4 : decode cX7_shift 4 = .ok (.ifCond .eq 24, 3) := by decide +kernel
theorem dX7_shift_7 : decode cX7_shift 7 = .ok (.iload_n 2, 1) := by decide +kernel
theorem dX7_shift_8 : decode cX7_shift 8 = .ok (.i2l, 1) := by decide +kernel
theorem dX7_shift_9 : decode cX7_shift 9 = .ok (.lconst 0, 1) := by decide +kernel
theorem dX7_shift_10 : decode cX7_shift 10 = .ok (.ldc2_w 103, 3) := by decide +kernel
theorem dX7_shift_13 : decode cX7_shift 13 = .ok (.invokestatic 47, 3) := by decide +kernel
theorem dX7_shift_16 : decode cX7_shift 16 = .ok (.ifCond .eq 12, 3) := by decide +kernel
theorem dX7_shift_19 : decode cX7_shift 19 = .ok (.aload_n 0, 1) := by decide +kernel
theorem dX7_shift_20 : decode cX7_shift 20 = .ok (.iload_n 1, 1) := by decide +kernel
theorem dX7_shift_21 : decode cX7_shift 21 = .ok (.iload_n 2, 1) := by decide +kernel
theorem dX7_shift_22 : decode cX7_shift 22 = .ok (.invokevirtual 105, 3) := by decide +kernel
theorem dX7_shift_25 : decode cX7_shift 25 = .ok (.goto 5, 3) := by decide +kernel
theorem dX7_shift_28 : decode cX7_shift 28 = .ok (.bipush (-2), 2) := by decide +kernel
theorem dX7_shift_30 : decode cX7_shift 30 = .ok (.ireturn, 1) := by decide +kernel
theorem dX7_isSetting_0 : decode cX7_isSetting 0 = .ok (.iload_n 1, 1) := by decide +kernel
theorem dX7_isSetting_1 : decode cX7_isSetting 1 = .ok (.tableswitch 57 0 2 #[27, 37, 47], 27) := by decide +kernel
theorem dX7_isSetting_28 : decode cX7_isSetting 28 = .ok (.iload_n 2, 1) := by decide +kernel
theorem dX7_isSetting_29 : decode cX7_isSetting 29 = .ok (.i2l, 1) := by decide +kernel
theorem dX7_isSetting_30 : decode cX7_isSetting 30 = .ok (.lconst 1, 1) := by decide +kernel
theorem dX7_isSetting_31 : decode cX7_isSetting 31 = .ok (.ldc2_w 109, 3) := by decide +kernel
theorem dX7_isSetting_34 : decode cX7_isSetting 34 = .ok (.invokestatic 47, 3) := by decide +kernel
theorem dX7_isSetting_37 : decode cX7_isSetting 37 = .ok (.ireturn, 1) := by decide +kernel
theorem dX7_isSetting_38 : decode cX7_isSetting 38 = .ok (.iload_n 2, 1) := by decide +kernel
theorem dX7_isSetting_39 : decode cX7_isSetting 39 = .ok (.i2l, 1) := by decide +kernel
theorem dX7_isSetting_40 : decode cX7_isSetting 40 = .ok (.lconst 0, 1) := by decide +kernel
theorem dX7_isSetting_41 : decode cX7_isSetting 41 = .ok (.ldc2_w 111, 3) := by decide +kernel
theorem dX7_isSetting_44 : decode cX7_isSetting 44 = .ok (.invokestatic 47, 3) := by decide +kernel
theorem dX7_isSetting_47 : decode cX7_isSetting 47 = .ok (.ireturn, 1) := by decide +kernel
theorem dX7_isSetting_48 : decode cX7_isSetting 48 = .ok (.iload_n 2, 1) := by decide +kernel
theorem dX7_isSetting_49 : decode cX7_isSetting 49 = .ok (.i2l, 1) := by decide +kernel
theorem dX7_isSetting_50 : decode cX7_isSetting 50 = .ok (.lconst 0, 1) := by decide +kernel
theorem dX7_isSetting_51 : decode cX7_isSetting 51 = .ok (.ldc2_w 113, 3) := by decide +kernel
theorem dX7_isSetting_54 : decode cX7_isSetting 54 = .ok (.invokestatic 47, 3) := by decide +kernel
theorem dX7_isSetting_57 : decode cX7_isSetting 57 = .ok (.ireturn, 1) := by decide +kernel
theorem dX7_isSetting_58 : decode cX7_isSetting 58 = .ok (.iload_n 1, 1) := by decide +kernel
theorem dX7_isSetting_59 : decode cX7_isSetting 59 = .ok (.iconst 3, 1) := by decide +kernel
theorem dX7_isSetting_60 : decode cX7_isSetting 60 = .ok (.if_icmp .ne 19, 3) := by decide +kernel
theorem dX7_isSetting_63 : decode cX7_isSetting 63 = .ok (.iload_n 2, 1) := by decide +kernel
theorem dX7_isSetting_64 : decode cX7_isSetting 64 = .ok (.i2l, 1) := by decide +kernel
theorem dX7_isSetting_65 : decode cX7_isSetting 65 = .ok (.lconst 0, 1) := by decide +kernel
theorem dX7_isSetting_66 : decode cX7_isSetting 66 = .ok (.ldc2_w 115, 3) := by decide +kernel
theorem dX7_isSetting_69 : decode cX7_isSetting 69 = .ok (.invokestatic 47, 3) := by decide +kernel
theorem dX7_isSetting_72 : decode cX7_isSetting 72 = .ok (.ifCond .eq 7, 3) := by decide +kernel
theorem dX7_isSetting_75 : decode cX7_isSetting 75 = .ok (.iconst 1, 1) := by decide +kernel
theorem dX7_isSetting_76 : decode cX7_isSetting 76 = .ok (.goto 4, 3) := by decide +kernel
theorem dX7_isSetting_79 : decode cX7_isSetting 79 = .ok (.iconst 0, 1) := by decide +kernel
theorem dX7_isSetting_80 : decode cX7_isSetting 80 = .ok (.ireturn, 1) := by decide +kernel
theorem dX7_set_0 : decode cX7_set 0 = .ok (.aload_n 0, 1) := by decide +kernel
theorem dX7_set_1 : decode cX7_set 1 = .ok (.iload_n 1, 1) := by decide +kernel
theorem dX7_set_2 : decode cX7_set 2 = .ok (.iload_n 2, 1) := by decide +kernel
theorem dX7_set_3 : decode cX7_set 3 = .ok (.invokevirtual 117, 3) := by decide +kernel
theorem dX7_set_6 : decode cX7_set 6 = .ok (.ifCond .ne 6, 3) := by decide +kernel
theorem dX7_set_9 : decode cX7_set 9 = .ok (.bipush (-2), 2) := by decide +kernel
theorem dX7_set_11 : decode cX7_set 11 = .ok (.ireturn, 1) := by decide +kernel
theorem dX7_set_12 : decode cX7_set 12 = .ok (.aload_n 0, 1) := by decide +kernel
theorem dX7_set_13 : decode cX7_set 13 = .ok (.invokevirtual 70, 3) := by decide +kernel
theorem dX7_set_16 : decode cX7_set 16 = .ok (.aload_n 0, 1) := by decide +kernel
theorem dX7_set_17 : decode cX7_set 17 = .ok (.bipush 9, 2) := by decide +kernel
theorem dX7_set_19 : decode cX7_set 19 = .ok (.iload_n 1, 1) := by decide +kernel
theorem dX7_set_20 : decode cX7_set 20 = .ok (.iadd, 1) := by decide +kernel
theorem dX7_set_21 : decode cX7_set 21 = .ok (.invokevirtual 43, 3) := by decide +kernel
theorem dX7_set_24 : decode cX7_set 24 = .ok (.istore_n 3, 1) := by decide +kernel
theorem dX7_set_25 : decode cX7_set 25 = .ok (.aload_n 0, 1) := by decide +kernel
theorem dX7_set_26 : decode cX7_set 26 = .ok (.getfield 7, 3) := by decide +kernel
theorem dX7_set_29 : decode cX7_set 29 = .ok (.bipush 9, 2) := by decide +kernel
theorem dX7_set_31 : decode cX7_set 31 = .ok (.iload_n 1, 1) := by decide +kernel
theorem dX7_set_32 : decode cX7_set 32 = .ok (.iadd, 1) := by decide +kernel
theorem dX7_set_33 : decode cX7_set 33 = .ok (.iload_n 2, 1) := by decide +kernel
theorem dX7_set_34 : decode cX7_set 34 = .ok (.i2l, 1) := by decide +kernel
theorem dX7_set_35 : decode cX7_set 35 = .ok (.lastore, 1) := by decide +kernel
theorem dX7_set_36 : decode cX7_set 36 = .ok (.iload_n 3, 1) := by decide +kernel
theorem dX7_set_37 : decode cX7_set 37 = .ok (.ireturn, 1) := by decide +kernel
theorem dX7_holiday_0 : decode cX7_holiday 0 = .ok (.iload_n 1, 1) := by decide +kernel
theorem dX7_holiday_1 : decode cX7_holiday 1 = .ok (.invokestatic 91, 3) := by decide +kernel
theorem dX7_holiday_4 : decode cX7_holiday 4 = .ok (.ifCond .eq 13, 3) := by decide +kernel
theorem dX7_holiday_7 : decode cX7_holiday 7 = .ok (.iload_n 2, 1) := by decide +kernel
theorem dX7_holiday_8 : decode cX7_holiday 8 = .ok (.i2l, 1) := by decide +kernel
theorem dX7_holiday_9 : decode cX7_holiday 9 = .ok (.lconst 0, 1) := by decide +kernel
theorem dX7_holiday_10 : decode cX7_holiday 10 = .ok (.lconst 1, 1) := by decide +kernel
theorem dX7_holiday_11 : decode cX7_holiday 11 = .ok (.invokestatic 47, 3) := by decide +kernel
theorem dX7_holiday_14 : decode cX7_holiday 14 = .ok (.ifCond .ne 6, 3) := by decide +kernel
theorem dX7_holiday_17 : decode cX7_holiday 17 = .ok (.bipush (-2), 2) := by decide +kernel
theorem dX7_holiday_19 : decode cX7_holiday 19 = .ok (.ireturn, 1) := by decide +kernel
theorem dX7_holiday_20 : decode cX7_holiday 20 = .ok (.aload_n 0, 1) := by decide +kernel
theorem dX7_holiday_21 : decode cX7_holiday 21 = .ok (.iload_n 1, 1) := by decide +kernel
theorem dX7_holiday_22 : decode cX7_holiday 22 = .ok (.invokevirtual 84, 3) := by decide +kernel
theorem dX7_holiday_25 : decode cX7_holiday 25 = .ok (.istore_n 3, 1) := by decide +kernel
theorem dX7_holiday_26 : decode cX7_holiday 26 = .ok (.iload_n 2, 1) := by decide +kernel
theorem dX7_holiday_27 : decode cX7_holiday 27 = .ok (.iconst 1, 1) := by decide +kernel
theorem dX7_holiday_28 : decode cX7_holiday 28 = .ok (.if_icmp .ne 23, 3) := by decide +kernel
theorem dX7_holiday_31 : decode cX7_holiday 31 = .ok (.iload_n 3, 1) := by decide +kernel
theorem dX7_holiday_32 : decode cX7_holiday 32 = .ok (.ifCond .ne 19, 3) := by decide +kernel
theorem dX7_holiday_35 : decode cX7_holiday 35 = .ok (.aload_n 0, 1) := by decide +kernel
theorem dX7_holiday_36 : decode cX7_holiday 36 = .ok (.getfield 7, 3) := by decide +kernel
theorem dX7_holiday_39 : decode cX7_holiday 39 = .ok (.iconst 3, 1) := by decide +kernel
theorem dX7_holiday_40 : decode cX7_holiday 40 = .ok (.laload, 1) := by decide +kernel
theorem dX7_holiday_41 : decode cX7_holiday 41 = .ok (.ldc2_w 121, 3) := by decide +kernel
theorem dX7_holiday_44 : decode cX7_holiday 44 = .ok (.lcmp, 1) := by decide +kernel
theorem dX7_holiday_45 : decode cX7_holiday 45 = .ok (.ifCond .ne 6, 3) := by decide +kernel
theorem dX7_holiday_48 : decode cX7_holiday 48 = .ok (.bipush (-4), 2) := by decide +kernel
theorem dX7_holiday_50 : decode cX7_holiday 50 = .ok (.ireturn, 1) := by decide +kernel
theorem dX7_holiday_51 : decode cX7_holiday 51 = .ok (.aload_n 0, 1) := by decide +kernel
theorem dX7_holiday_52 : decode cX7_holiday 52 = .ok (.invokevirtual 70, 3) := by decide +kernel
theorem dX7_holiday_55 : decode cX7_holiday 55 = .ok (.iload_n 2, 1) := by decide +kernel
theorem dX7_holiday_56 : decode cX7_holiday 56 = .ok (.iconst 1, 1) := by decide +kernel
theorem dX7_holiday_57 : decode cX7_holiday 57 = .ok (.if_icmp .ne 35, 3) := by decide +kernel
theorem dX7_holiday_60 : decode cX7_holiday 60 = .ok (.iload_n 3, 1) := by decide +kernel
theorem dX7_holiday_61 : decode cX7_holiday 61 = .ok (.ifCond .ne 31, 3) := by decide +kernel
theorem dX7_holiday_64 : decode cX7_holiday 64 = .ok (.aload_n 0, 1) := by decide +kernel
theorem dX7_holiday_65 : decode cX7_holiday 65 = .ok (.getfield 7, 3) := by decide +kernel
theorem dX7_holiday_68 : decode cX7_holiday 68 = .ok (.bipush 13, 2) := by decide +kernel
theorem dX7_holiday_70 : decode cX7_holiday 70 = .ok (.aload_n 0, 1) := by decide +kernel
theorem dX7_holiday_71 : decode cX7_holiday 71 = .ok (.iconst 3, 1) := by decide +kernel
theorem dX7_holiday_72 : decode cX7_holiday 72 = .ok (.invokevirtual 43, 3) := by decide +kernel
theorem dX7_holiday_75 : decode cX7_holiday 75 = .ok (.iadd, 1) := by decide +kernel
theorem dX7_holiday_76 : decode cX7_holiday 76 = .ok (.iload_n 1, 1) := by decide +kernel
theorem dX7_holiday_77 : decode cX7_holiday 77 = .ok (.i2l, 1) := by decide +kernel
theorem dX7_holiday_78 : decode cX7_holiday 78 = .ok (.lastore, 1) := by decide +kernel
theorem dX7_holiday_79 : decode cX7_holiday 79 = .ok (.aload_n 0, 1) := by decide +kernel
theorem dX7_holiday_80 : decode cX7_holiday 80 = .ok (.getfield 7, 3) := by decide +kernel
theorem dX7_holiday_83 : decode cX7_holiday 83 = .ok (.iconst 3, 1) := by decide +kernel
theorem dX7_holiday_84 : decode cX7_holiday 84 = .ok (.dup2, 1) := by decide +kernel
theorem dX7_holiday_85 : decode cX7_holiday 85 = .ok (.laload, 1) := by decide +kernel
theorem dX7_holiday_86 : decode cX7_holiday 86 = .ok (.lconst 1, 1) := by decide +kernel
theorem dX7_holiday_87 : decode cX7_holiday 87 = .ok (.ladd, 1) := by decide +kernel
theorem dX7_holiday_88 : decode cX7_holiday 88 = .ok (.lastore, 1) := by decide +kernel
theorem dX7_holiday_89 : decode cX7_holiday 89 = .ok (.goto 95, 3) := by decide +kernel
theorem dX7_holiday_92 : decode cX7_holiday 92 = .ok (.iload_n 2, 1) := by decide +kernel
theorem dX7_holiday_93 : decode cX7_holiday 93 = .ok (.ifCond .ne 91, 3) := by decide +kernel
theorem dX7_holiday_96 : decode cX7_holiday 96 = .ok (.iload_n 3, 1) := by decide +kernel
theorem dX7_holiday_97 : decode cX7_holiday 97 = .ok (.ifCond .eq 87, 3) := by decide +kernel
theorem dX7_holiday_100 : decode cX7_holiday 100 = .ok (.aload_n 0, 1) := by decide +kernel
theorem dX7_holiday_101 : decode cX7_holiday 101 = .ok (.getfield 7, 3) := by decide +kernel
theorem dX7_holiday_104 : decode cX7_holiday 104 = .ok (.iconst 3, 1) := by decide +kernel
theorem dX7_holiday_105 : decode cX7_holiday 105 = .ok (.dup2, 1) := by decide +kernel
theorem dX7_holiday_106 : decode cX7_holiday 106 = .ok (.laload, 1) := by decide +kernel
theorem dX7_holiday_107 : decode cX7_holiday 107 = .ok (.lconst 1, 1) := by decide +kernel
theorem dX7_holiday_108 : decode cX7_holiday 108 = .ok (.lsub, 1) := by decide +kernel
theorem dX7_holiday_109 : decode cX7_holiday 109 = .ok (.lastore, 1) := by decide +kernel
theorem dX7_holiday_110 : decode cX7_holiday 110 = .ok (.iconst 0, 1) := by decide +kernel
theorem dX7_holiday_111 : decode cX7_holiday 111 = .ok (.istore 4, 2) := by decide +kernel
theorem dX7_holiday_113 : decode cX7_holiday 113 = .ok (.iload 4, 2) := by decide +kernel
theorem dX7_holiday_115 : decode cX7_holiday 115 = .ok (.i2l, 1) := by decide +kernel
theorem dX7_holiday_116 : decode cX7_holiday 116 = .ok (.aload_n 0, 1) := by decide +kernel
theorem dX7_holiday_117 : decode cX7_holiday 117 = .ok (.getfield 7, 3) := by decide +kernel
theorem dX7_holiday_120 : decode cX7_holiday 120 = .ok (.iconst 3, 1) := by decide +kernel
theorem dX7_holiday_121 : decode cX7_holiday 121 = .ok (.laload, 1) := by decide +kernel
theorem dX7_holiday_122 : decode cX7_holiday 122 = .ok (.lcmp, 1) := by decide +kernel
theorem dX7_holiday_123 : decode cX7_holiday 123 = .ok (.ifCond .ge 61, 3) := by decide +kernel
theorem dX7_holiday_126 : decode cX7_holiday 126 = .ok (.aload_n 0, 1) := by decide +kernel
theorem dX7_holiday_127 : decode cX7_holiday 127 = .ok (.getfield 7, 3) := by decide +kernel
theorem dX7_holiday_130 : decode cX7_holiday 130 = .ok (.bipush 13, 2) := by decide +kernel
theorem dX7_holiday_132 : decode cX7_holiday 132 = .ok (.iload 4, 2) := by decide +kernel
theorem dX7_holiday_134 : decode cX7_holiday 134 = .ok (.iadd, 1) := by decide +kernel
theorem dX7_holiday_135 : decode cX7_holiday 135 = .ok (.aload_n 0, 1) := by decide +kernel
theorem dX7_holiday_136 : decode cX7_holiday 136 = .ok (.getfield 7, 3) := by decide +kernel
theorem dX7_holiday_139 : decode cX7_holiday 139 = .ok (.bipush 13, 2) := by decide +kernel
theorem dX7_holiday_141 : decode cX7_holiday 141 = .ok (.iload 4, 2) := by decide +kernel
theorem dX7_holiday_143 : decode cX7_holiday 143 = .ok (.iadd, 1) := by decide +kernel
theorem dX7_holiday_144 : decode cX7_holiday 144 = .ok (.laload, 1) := by decide +kernel
theorem dX7_holiday_145 : decode cX7_holiday 145 = .ok (.iload_n 1, 1) := by decide +kernel
theorem dX7_holiday_146 : decode cX7_holiday 146 = .ok (.i2l, 1) := by decide +kernel
theorem dX7_holiday_147 : decode cX7_holiday 147 = .ok (.lcmp, 1) := by decide +kernel
theorem dX7_holiday_148 : decode cX7_holiday 148 = .ok (.ifCond .ne 19, 3) := by decide +kernel
theorem dX7_holiday_151 : decode cX7_holiday 151 = .ok (.aload_n 0, 1) := by decide +kernel
theorem dX7_holiday_152 : decode cX7_holiday 152 = .ok (.getfield 7, 3) := by decide +kernel
theorem dX7_holiday_155 : decode cX7_holiday 155 = .ok (.bipush 13, 2) := by decide +kernel
theorem dX7_holiday_157 : decode cX7_holiday 157 = .ok (.aload_n 0, 1) := by decide +kernel
theorem dX7_holiday_158 : decode cX7_holiday 158 = .ok (.iconst 3, 1) := by decide +kernel
theorem dX7_holiday_159 : decode cX7_holiday 159 = .ok (.invokevirtual 43, 3) := by decide +kernel
theorem dX7_holiday_162 : decode cX7_holiday 162 = .ok (.iadd, 1) := by decide +kernel
theorem dX7_holiday_163 : decode cX7_holiday 163 = .ok (.laload, 1) := by decide +kernel
theorem dX7_holiday_164 : decode cX7_holiday 164 = .ok (.goto 13, 3) := by decide +kernel
theorem dX7_holiday_167 : decode cX7_holiday 167 = .ok (.aload_n 0, 1) := by decide +kernel
theorem dX7_holiday_168 : decode cX7_holiday 168 = .ok (.getfield 7, 3) := by decide +kernel
theorem dX7_holiday_171 : decode cX7_holiday 171 = .ok (.bipush 13, 2) := by decide +kernel
theorem dX7_holiday_173 : decode cX7_holiday 173 = .ok (.iload 4, 2) := by decide +kernel
theorem dX7_holiday_175 : decode cX7_holiday 175 = .ok (.iadd, 1) := by decide +kernel
theorem dX7_holiday_176 : decode cX7_holiday 176 = .ok (.laload, 1) := by decide +kernel
theorem dX7_holiday_177 : decode cX7_holiday 177 = .ok (.lastore, 1) := by decide +kernel
theorem dX7_holiday_178 : decode cX7_holiday 178 = .ok (.iinc 4 1, 3) := by decide +kernel
theorem dX7_holiday_181 : decode cX7_holiday 181 = .ok (.goto (-68), 3) := by decide +kernel
theorem dX7_holiday_184 : decode cX7_holiday 184 = .ok (.aload_n 0, 1) := by decide +kernel
theorem dX7_holiday_185 : decode cX7_holiday 185 = .ok (.iconst 3, 1) := by decide +kernel
theorem dX7_holiday_186 : decode cX7_holiday 186 = .ok (.invokevirtual 43, 3) := by decide +kernel
theorem dX7_holiday_189 : decode cX7_holiday 189 = .ok (.ireturn, 1) := by decide +kernel
theorem dX7_account_0 : decode cX7_account 0 = .ok (.iload_n 1, 1) := by decide +kernel
theorem dX7_account_1 : decode cX7_account 1 = .ok (.i2l, 1) := by decide +kernel
theorem dX7_account_2 : decode cX7_account 2 = .ok (.lconst 0, 1) := by decide +kernel
theorem dX7_account_3 : decode cX7_account 3 = .ok (.ldc2_w 123, 3) := by decide +kernel
theorem dX7_account_6 : decode cX7_account 6 = .ok (.invokestatic 47, 3) := by decide +kernel
theorem dX7_account_9 : decode cX7_account 9 = .ok (.ifCond .eq 15, 3) := by decide +kernel
theorem dX7_account_12 : decode cX7_account 12 = .ok (.iload_n 2, 1) := by decide +kernel
theorem dX7_account_13 : decode cX7_account 13 = .ok (.i2l, 1) := by decide +kernel
theorem dX7_account_14 : decode cX7_account 14 = .ok (.lconst 0, 1) := by decide +kernel
theorem dX7_account_15 : decode cX7_account 15 = .ok (.ldc2_w 123, 3) := by decide +kernel
theorem dX7_account_18 : decode cX7_account 18 = .ok (.invokestatic 47, 3) := by decide +kernel
theorem dX7_account_21 : decode cX7_account 21 = .ok (.ifCond .ne 6, 3) := by decide +kernel
theorem dX7_account_24 : decode cX7_account 24 = .ok (.bipush (-2), 2) := by decide +kernel
theorem dX7_account_26 : decode cX7_account 26 = .ok (.ireturn, 1) := by decide +kernel
theorem dX7_account_27 : decode cX7_account 27 = .ok (.aload_n 0, 1) := by decide +kernel
theorem dX7_account_28 : decode cX7_account 28 = .ok (.getfield 7, 3) := by decide +kernel
theorem dX7_account_31 : decode cX7_account 31 = .ok (.iconst 1, 1) := by decide +kernel
theorem dX7_account_32 : decode cX7_account 32 = .ok (.laload, 1) := by decide +kernel
theorem dX7_account_33 : decode cX7_account 33 = .ok (.ldc2_w 125, 3) := by decide +kernel
theorem dX7_account_36 : decode cX7_account 36 = .ok (.lcmp, 1) := by decide +kernel
theorem dX7_account_37 : decode cX7_account 37 = .ok (.ifCond .ne 6, 3) := by decide +kernel
theorem dX7_account_40 : decode cX7_account 40 = .ok (.bipush (-4), 2) := by decide +kernel
theorem dX7_account_42 : decode cX7_account 42 = .ok (.ireturn, 1) := by decide +kernel
theorem dX7_account_43 : decode cX7_account 43 = .ok (.aload_n 0, 1) := by decide +kernel
theorem dX7_account_44 : decode cX7_account 44 = .ok (.invokevirtual 70, 3) := by decide +kernel
theorem dX7_account_47 : decode cX7_account 47 = .ok (.aload_n 0, 1) := by decide +kernel
theorem dX7_account_48 : decode cX7_account 48 = .ok (.iconst 1, 1) := by decide +kernel
theorem dX7_account_49 : decode cX7_account 49 = .ok (.invokevirtual 43, 3) := by decide +kernel
theorem dX7_account_52 : decode cX7_account 52 = .ok (.istore_n 3, 1) := by decide +kernel
theorem dX7_account_53 : decode cX7_account 53 = .ok (.aload_n 0, 1) := by decide +kernel
theorem dX7_account_54 : decode cX7_account 54 = .ok (.getfield 7, 3) := by decide +kernel
theorem dX7_account_57 : decode cX7_account 57 = .ok (.bipush 33, 2) := by decide +kernel
theorem dX7_account_59 : decode cX7_account 59 = .ok (.bipush 11, 2) := by decide +kernel
theorem dX7_account_61 : decode cX7_account 61 = .ok (.iload_n 3, 1) := by decide +kernel
theorem dX7_account_62 : decode cX7_account 62 = .ok (.imul, 1) := by decide +kernel
theorem dX7_account_63 : decode cX7_account 63 = .ok (.iadd, 1) := by decide +kernel
theorem dX7_account_64 : decode cX7_account 64 = .ok (.iconst 0, 1) := by decide +kernel
theorem dX7_account_65 : decode cX7_account 65 = .ok (.iadd, 1) := by decide +kernel
theorem dX7_account_66 : decode cX7_account 66 = .ok (.iload_n 1, 1) := by decide +kernel
theorem dX7_account_67 : decode cX7_account 67 = .ok (.i2l, 1) := by decide +kernel
theorem dX7_account_68 : decode cX7_account 68 = .ok (.lastore, 1) := by decide +kernel
theorem dX7_account_69 : decode cX7_account 69 = .ok (.aload_n 0, 1) := by decide +kernel
theorem dX7_account_70 : decode cX7_account 70 = .ok (.getfield 7, 3) := by decide +kernel
theorem dX7_account_73 : decode cX7_account 73 = .ok (.bipush 33, 2) := by decide +kernel
theorem dX7_account_75 : decode cX7_account 75 = .ok (.bipush 11, 2) := by decide +kernel
theorem dX7_account_77 : decode cX7_account 77 = .ok (.iload_n 3, 1) := by decide +kernel
theorem dX7_account_78 : decode cX7_account 78 = .ok (.imul, 1) := by decide +kernel
theorem dX7_account_79 : decode cX7_account 79 = .ok (.iadd, 1) := by decide +kernel
theorem dX7_account_80 : decode cX7_account 80 = .ok (.iconst 1, 1) := by decide +kernel
theorem dX7_account_81 : decode cX7_account 81 = .ok (.iadd, 1) := by decide +kernel
theorem dX7_account_82 : decode cX7_account 82 = .ok (.iload_n 2, 1) := by decide +kernel
theorem dX7_account_83 : decode cX7_account 83 = .ok (.i2l, 1) := by decide +kernel
theorem dX7_account_84 : decode cX7_account 84 = .ok (.lastore, 1) := by decide +kernel
theorem dX7_account_85 : decode cX7_account 85 = .ok (.aload_n 0, 1) := by decide +kernel
theorem dX7_account_86 : decode cX7_account 86 = .ok (.getfield 7, 3) := by decide +kernel
theorem dX7_account_89 : decode cX7_account 89 = .ok (.bipush 33, 2) := by decide +kernel
theorem dX7_account_91 : decode cX7_account 91 = .ok (.bipush 11, 2) := by decide +kernel
theorem dX7_account_93 : decode cX7_account 93 = .ok (.iload_n 3, 1) := by decide +kernel
theorem dX7_account_94 : decode cX7_account 94 = .ok (.imul, 1) := by decide +kernel
theorem dX7_account_95 : decode cX7_account 95 = .ok (.iadd, 1) := by decide +kernel
theorem dX7_account_96 : decode cX7_account 96 = .ok (.iconst 2, 1) := by decide +kernel
theorem dX7_account_97 : decode cX7_account 97 = .ok (.iadd, 1) := by decide +kernel
theorem dX7_account_98 : decode cX7_account 98 = .ok (.ldc2_w 127, 3) := by decide +kernel
theorem dX7_account_101 : decode cX7_account 101 = .ok (.lastore, 1) := by decide +kernel
theorem dX7_account_102 : decode cX7_account 102 = .ok (.iconst 0, 1) := by decide +kernel
theorem dX7_account_103 : decode cX7_account 103 = .ok (.istore 4, 2) := by decide +kernel
theorem dX7_account_105 : decode cX7_account 105 = .ok (.iload 4, 2) := by decide +kernel
theorem dX7_account_107 : decode cX7_account 107 = .ok (.bipush 8, 2) := by decide +kernel
theorem dX7_account_109 : decode cX7_account 109 = .ok (.if_icmp .ge 27, 3) := by decide +kernel
theorem dX7_account_112 : decode cX7_account 112 = .ok (.aload_n 0, 1) := by decide +kernel
theorem dX7_account_113 : decode cX7_account 113 = .ok (.getfield 7, 3) := by decide +kernel
theorem dX7_account_116 : decode cX7_account 116 = .ok (.bipush 33, 2) := by decide +kernel
theorem dX7_account_118 : decode cX7_account 118 = .ok (.bipush 11, 2) := by decide +kernel
theorem dX7_account_120 : decode cX7_account 120 = .ok (.iload_n 3, 1) := by decide +kernel
theorem dX7_account_121 : decode cX7_account 121 = .ok (.imul, 1) := by decide +kernel
theorem dX7_account_122 : decode cX7_account 122 = .ok (.iadd, 1) := by decide +kernel
theorem dX7_account_123 : decode cX7_account 123 = .ok (.iconst 3, 1) := by decide +kernel
theorem dX7_account_124 : decode cX7_account 124 = .ok (.iadd, 1) := by decide +kernel
theorem dX7_account_125 : decode cX7_account 125 = .ok (.iload 4, 2) := by decide +kernel
theorem dX7_account_127 : decode cX7_account 127 = .ok (.iadd, 1) := by decide +kernel
theorem dX7_account_128 : decode cX7_account 128 = .ok (.lconst 0, 1) := by decide +kernel
theorem dX7_account_129 : decode cX7_account 129 = .ok (.lastore, 1) := by decide +kernel
theorem dX7_account_130 : decode cX7_account 130 = .ok (.iinc 4 1, 3) := by decide +kernel
theorem dX7_account_133 : decode cX7_account 133 = .ok (.goto (-28), 3) := by decide +kernel
theorem dX7_account_136 : decode cX7_account 136 = .ok (.aload_n 0, 1) := by decide +kernel
theorem dX7_account_137 : decode cX7_account 137 = .ok (.getfield 13, 3) := by decide +kernel
theorem dX7_account_140 : decode cX7_account 140 = .ok (.iload_n 3, 1) := by decide +kernel
theorem dX7_account_141 : decode cX7_account 141 = .ok (.dconst 0, 1) := by decide +kernel
theorem dX7_account_142 : decode cX7_account 142 = .ok (.dastore, 1) := by decide +kernel
theorem dX7_account_143 : decode cX7_account 143 = .ok (.aload_n 0, 1) := by decide +kernel
theorem dX7_account_144 : decode cX7_account 144 = .ok (.getfield 7, 3) := by decide +kernel
theorem dX7_account_147 : decode cX7_account 147 = .ok (.iconst 1, 1) := by decide +kernel
theorem dX7_account_148 : decode cX7_account 148 = .ok (.dup2, 1) := by decide +kernel
theorem dX7_account_149 : decode cX7_account 149 = .ok (.laload, 1) := by decide +kernel
theorem dX7_account_150 : decode cX7_account 150 = .ok (.lconst 1, 1) := by decide +kernel
theorem dX7_account_151 : decode cX7_account 151 = .ok (.ladd, 1) := by decide +kernel
theorem dX7_account_152 : decode cX7_account 152 = .ok (.lastore, 1) := by decide +kernel
theorem dX7_account_153 : decode cX7_account 153 = .ok (.iload_n 3, 1) := by decide +kernel
theorem dX7_account_154 : decode cX7_account 154 = .ok (.ireturn, 1) := by decide +kernel
theorem dX7_feed_0 : decode cX7_feed 0 = .ok (.aload_n 0, 1) := by decide +kernel
theorem dX7_feed_1 : decode cX7_feed 1 = .ok (.iload_n 1, 1) := by decide +kernel
theorem dX7_feed_2 : decode cX7_feed 2 = .ok (.invokevirtual 129, 3) := by decide +kernel
theorem dX7_feed_5 : decode cX7_feed 5 = .ok (.ifCond .eq 22, 3) := by decide +kernel
theorem dX7_feed_8 : decode cX7_feed 8 = .ok (.iload_n 2, 1) := by decide +kernel
theorem dX7_feed_9 : decode cX7_feed 9 = .ok (.bipush (-6), 2) := by decide +kernel
theorem dX7_feed_11 : decode cX7_feed 11 = .ok (.if_icmp .eq 18, 3) := by decide +kernel
theorem dX7_feed_14 : decode cX7_feed 14 = .ok (.aload_n 0, 1) := by decide +kernel
theorem dX7_feed_15 : decode cX7_feed 15 = .ok (.iload_n 2, 1) := by decide +kernel
theorem dX7_feed_16 : decode cX7_feed 16 = .ok (.invokevirtual 129, 3) := by decide +kernel
theorem dX7_feed_19 : decode cX7_feed 19 = .ok (.ifCond .eq 8, 3) := by decide +kernel
theorem dX7_feed_22 : decode cX7_feed 22 = .ok (.iload_n 2, 1) := by decide +kernel
theorem dX7_feed_23 : decode cX7_feed 23 = .ok (.iload_n 1, 1) := by decide +kernel
theorem dX7_feed_24 : decode cX7_feed 24 = .ok (.if_icmp .ne 5, 3) := by decide +kernel
theorem dX7_feed_27 : decode cX7_feed 27 = .ok (.iconst (-1), 1) := by decide +kernel
theorem dX7_feed_28 : decode cX7_feed 28 = .ok (.ireturn, 1) := by decide +kernel
theorem dX7_feed_29 : decode cX7_feed 29 = .ok (.aload_n 0, 1) := by decide +kernel
theorem dX7_feed_30 : decode cX7_feed 30 = .ok (.invokevirtual 70, 3) := by decide +kernel
theorem dX7_feed_33 : decode cX7_feed 33 = .ok (.aload_n 0, 1) := by decide +kernel
theorem dX7_feed_34 : decode cX7_feed 34 = .ok (.iload_n 1, 1) := by decide +kernel
theorem dX7_feed_35 : decode cX7_feed 35 = .ok (.iconst 2, 1) := by decide +kernel
theorem dX7_feed_36 : decode cX7_feed 36 = .ok (.invokevirtual 132, 3) := by decide +kernel
theorem dX7_feed_39 : decode cX7_feed 39 = .ok (.istore_n 3, 1) := by decide +kernel
theorem dX7_feed_40 : decode cX7_feed 40 = .ok (.aload_n 0, 1) := by decide +kernel
theorem dX7_feed_41 : decode cX7_feed 41 = .ok (.getfield 7, 3) := by decide +kernel
theorem dX7_feed_44 : decode cX7_feed 44 = .ok (.bipush 33, 2) := by decide +kernel
theorem dX7_feed_46 : decode cX7_feed 46 = .ok (.bipush 11, 2) := by decide +kernel
theorem dX7_feed_48 : decode cX7_feed 48 = .ok (.iload_n 1, 1) := by decide +kernel
theorem dX7_feed_49 : decode cX7_feed 49 = .ok (.imul, 1) := by decide +kernel
theorem dX7_feed_50 : decode cX7_feed 50 = .ok (.iadd, 1) := by decide +kernel
theorem dX7_feed_51 : decode cX7_feed 51 = .ok (.iconst 2, 1) := by decide +kernel
theorem dX7_feed_52 : decode cX7_feed 52 = .ok (.iadd, 1) := by decide +kernel
theorem dX7_feed_53 : decode cX7_feed 53 = .ok (.iload_n 2, 1) := by decide +kernel
theorem dX7_feed_54 : decode cX7_feed 54 = .ok (.i2l, 1) := by decide +kernel
theorem dX7_feed_55 : decode cX7_feed 55 = .ok (.lastore, 1) := by decide +kernel
theorem dX7_feed_56 : decode cX7_feed 56 = .ok (.iload_n 3, 1) := by decide +kernel
theorem dX7_feed_57 : decode cX7_feed 57 = .ok (.ireturn, 1) := by decide +kernel
theorem dX7_checksDeposit_0 : decode cX7_checksDeposit 0 = .ok (.aload_n 0, 1) := by decide +kernel
theorem dX7_checksDeposit_1 : decode cX7_checksDeposit 1 = .ok (.iload_n 1, 1) := by decide +kernel
theorem dX7_checksDeposit_2 : decode cX7_checksDeposit 2 = .ok (.invokevirtual 129, 3) := by decide +kernel
theorem dX7_checksDeposit_5 : decode cX7_checksDeposit 5 = .ok (.ifCond .ne 5, 3) := by decide +kernel
theorem dX7_checksDeposit_8 : decode cX7_checksDeposit 8 = .ok (.iconst (-1), 1) := by decide +kernel
theorem dX7_checksDeposit_9 : decode cX7_checksDeposit 9 = .ok (.ireturn, 1) := by decide +kernel
theorem dX7_checksDeposit_10 : decode cX7_checksDeposit 10 = .ok (.iload_n 2, 1) := by decide +kernel
theorem dX7_checksDeposit_11 : decode cX7_checksDeposit 11 = .ok (.i2l, 1) := by decide +kernel
theorem dX7_checksDeposit_12 : decode cX7_checksDeposit 12 = .ok (.lconst 1, 1) := by decide +kernel
theorem dX7_checksDeposit_13 : decode cX7_checksDeposit 13 = .ok (.ldc2_w 135, 3) := by decide +kernel
theorem dX7_checksDeposit_16 : decode cX7_checksDeposit 16 = .ok (.invokestatic 47, 3) := by decide +kernel
theorem dX7_checksDeposit_19 : decode cX7_checksDeposit 19 = .ok (.ifCond .eq 7, 3) := by decide +kernel
theorem dX7_checksDeposit_22 : decode cX7_checksDeposit 22 = .ok (.iconst 0, 1) := by decide +kernel
theorem dX7_checksDeposit_23 : decode cX7_checksDeposit 23 = .ok (.goto 5, 3) := by decide +kernel
theorem dX7_checksDeposit_26 : decode cX7_checksDeposit 26 = .ok (.bipush (-2), 2) := by decide +kernel
theorem dX7_checksDeposit_28 : decode cX7_checksDeposit 28 = .ok (.ireturn, 1) := by decide +kernel
theorem dX7_deposits_0 : decode cX7_deposits 0 = .ok (.aload_n 0, 1) := by decide +kernel
theorem dX7_deposits_1 : decode cX7_deposits 1 = .ok (.iload_n 1, 1) := by decide +kernel
theorem dX7_deposits_2 : decode cX7_deposits 2 = .ok (.iconst 0, 1) := by decide +kernel
theorem dX7_deposits_3 : decode cX7_deposits 3 = .ok (.iload_n 2, 1) := by decide +kernel
theorem dX7_deposits_4 : decode cX7_deposits 4 = .ok (.i2l, 1) := by decide +kernel
theorem dX7_deposits_5 : decode cX7_deposits 5 = .ok (.invokevirtual 137, 3) := by decide +kernel
theorem dX7_deposits_8 : decode cX7_deposits 8 = .ok (.aload_n 0, 1) := by decide +kernel
theorem dX7_deposits_9 : decode cX7_deposits 9 = .ok (.iload_n 1, 1) := by decide +kernel
theorem dX7_deposits_10 : decode cX7_deposits 10 = .ok (.iconst 1, 1) := by decide +kernel
theorem dX7_deposits_11 : decode cX7_deposits 11 = .ok (.iload_n 2, 1) := by decide +kernel
theorem dX7_deposits_12 : decode cX7_deposits 12 = .ok (.i2l, 1) := by decide +kernel
theorem dX7_deposits_13 : decode cX7_deposits 13 = .ok (.invokevirtual 137, 3) := by decide +kernel
theorem dX7_deposits_16 : decode cX7_deposits 16 = .ok (.aload_n 0, 1) := by decide +kernel
theorem dX7_deposits_17 : decode cX7_deposits 17 = .ok (.iload_n 1, 1) := by decide +kernel
theorem dX7_deposits_18 : decode cX7_deposits 18 = .ok (.iconst 0, 1) := by decide +kernel
theorem dX7_deposits_19 : decode cX7_deposits 19 = .ok (.invokevirtual 141, 3) := by decide +kernel
theorem dX7_deposits_22 : decode cX7_deposits 22 = .ok (.lconst 0, 1) := by decide +kernel
theorem dX7_deposits_23 : decode cX7_deposits 23 = .ok (.lcmp, 1) := by decide +kernel
theorem dX7_deposits_24 : decode cX7_deposits 24 = .ok (.ifCond .lt 7, 3) := by decide +kernel
theorem dX7_deposits_27 : decode cX7_deposits 27 = .ok (.iconst 1, 1) := by decide +kernel
theorem dX7_deposits_28 : decode cX7_deposits 28 = .ok (.goto 4, 3) := by decide +kernel
theorem dX7_deposits_31 : decode cX7_deposits 31 = .ok (.iconst 0, 1) := by decide +kernel
theorem dX7_deposits_32 : decode cX7_deposits 32 = .ok (.ireturn, 1) := by decide +kernel
theorem dX7_deposit_0 : decode cX7_deposit 0 = .ok (.aload_n 0, 1) := by decide +kernel
theorem dX7_deposit_1 : decode cX7_deposit 1 = .ok (.iload_n 1, 1) := by decide +kernel
theorem dX7_deposit_2 : decode cX7_deposit 2 = .ok (.iload_n 2, 1) := by decide +kernel
theorem dX7_deposit_3 : decode cX7_deposit 3 = .ok (.invokevirtual 145, 3) := by decide +kernel
theorem dX7_deposit_6 : decode cX7_deposit 6 = .ok (.istore_n 3, 1) := by decide +kernel
theorem dX7_deposit_7 : decode cX7_deposit 7 = .ok (.iload_n 3, 1) := by decide +kernel
theorem dX7_deposit_8 : decode cX7_deposit 8 = .ok (.ifCond .eq 5, 3) := by decide +kernel
theorem dX7_deposit_11 : decode cX7_deposit 11 = .ok (.iload_n 3, 1) := by decide +kernel
theorem dX7_deposit_12 : decode cX7_deposit 12 = .ok (.ireturn, 1) := by decide +kernel
theorem dX7_deposit_13 : decode cX7_deposit 13 = .ok (.aload_n 0, 1) := by decide +kernel
theorem dX7_deposit_14 : decode cX7_deposit 14 = .ok (.invokevirtual 70, 3) := by decide +kernel
theorem dX7_deposit_17 : decode cX7_deposit 17 = .ok (.aload_n 0, 1) := by decide +kernel
theorem dX7_deposit_18 : decode cX7_deposit 18 = .ok (.iload_n 1, 1) := by decide +kernel
theorem dX7_deposit_19 : decode cX7_deposit 19 = .ok (.iload_n 2, 1) := by decide +kernel
theorem dX7_deposit_20 : decode cX7_deposit 20 = .ok (.invokevirtual 148, 3) := by decide +kernel
theorem dX7_deposit_23 : decode cX7_deposit 23 = .ok (.ireturn, 1) := by decide +kernel
theorem dX7_nominal_0 : decode cX7_nominal 0 = .ok (.aload_n 0, 1) := by decide +kernel
theorem dX7_nominal_1 : decode cX7_nominal 1 = .ok (.iload_n 1, 1) := by decide +kernel
theorem dX7_nominal_2 : decode cX7_nominal 2 = .ok (.bipush 6, 2) := by decide +kernel
theorem dX7_nominal_4 : decode cX7_nominal 4 = .ok (.invokevirtual 151, 3) := by decide +kernel
theorem dX7_nominal_7 : decode cX7_nominal 7 = .ok (.istore_n 3, 1) := by decide +kernel
theorem dX7_nominal_8 : decode cX7_nominal 8 = .ok (.aload_n 0, 1) := by decide +kernel
theorem dX7_nominal_9 : decode cX7_nominal 9 = .ok (.iload_n 1, 1) := by decide +kernel
theorem dX7_nominal_10 : decode cX7_nominal 10 = .ok (.iconst 3, 1) := by decide +kernel
theorem dX7_nominal_11 : decode cX7_nominal 11 = .ok (.invokevirtual 151, 3) := by decide +kernel
theorem dX7_nominal_14 : decode cX7_nominal 14 = .ok (.istore 4, 2) := by decide +kernel
theorem dX7_nominal_16 : decode cX7_nominal 16 = .ok (.iload_n 2, 1) := by decide +kernel
theorem dX7_nominal_17 : decode cX7_nominal 17 = .ok (.aload_n 0, 1) := by decide +kernel
theorem dX7_nominal_18 : decode cX7_nominal 18 = .ok (.iload_n 1, 1) := by decide +kernel
theorem dX7_nominal_19 : decode cX7_nominal 19 = .ok (.iconst 4, 1) := by decide +kernel
theorem dX7_nominal_20 : decode cX7_nominal 20 = .ok (.invokevirtual 151, 3) := by decide +kernel
theorem dX7_nominal_23 : decode cX7_nominal 23 = .ok (.imul, 1) := by decide +kernel
theorem dX7_nominal_24 : decode cX7_nominal 24 = .ok (.istore 5, 2) := by decide +kernel
theorem dX7_nominal_26 : decode cX7_nominal 26 = .ok (.iload 4, 2) := by decide +kernel
theorem dX7_nominal_28 : decode cX7_nominal 28 = .ok (.iconst 2, 1) := by decide +kernel
theorem dX7_nominal_29 : decode cX7_nominal 29 = .ok (.if_icmp .ge 25, 3) := by decide +kernel
theorem dX7_nominal_32 : decode cX7_nominal 32 = .ok (.iload_n 3, 1) := by decide +kernel
theorem dX7_nominal_33 : decode cX7_nominal 33 = .ok (.iload 4, 2) := by decide +kernel
theorem dX7_nominal_35 : decode cX7_nominal 35 = .ok (.ifCond .ne 8, 3) := by decide +kernel
theorem dX7_nominal_38 : decode cX7_nominal 38 = .ok (.iload 5, 2) := by decide +kernel
theorem dX7_nominal_40 : decode cX7_nominal 40 = .ok (.goto 8, 3) := by decide +kernel
theorem dX7_nominal_43 : decode cX7_nominal 43 = .ok (.bipush 7, 2) := by decide +kernel
theorem dX7_nominal_45 : decode cX7_nominal 45 = .ok (.iload 5, 2) := by decide +kernel
theorem dX7_nominal_47 : decode cX7_nominal 47 = .ok (.imul, 1) := by decide +kernel
theorem dX7_nominal_48 : decode cX7_nominal 48 = .ok (.iadd, 1) := by decide +kernel
theorem dX7_nominal_49 : decode cX7_nominal 49 = .ok (.istore 6, 2) := by decide +kernel
theorem dX7_nominal_51 : decode cX7_nominal 51 = .ok (.goto 51, 3) := by decide +kernel
theorem dX7_nominal_54 : decode cX7_nominal 54 = .ok (.iload_n 3, 1) := by decide +kernel
theorem dX7_nominal_55 : decode cX7_nominal 55 = .ok (.invokestatic 94, 3) := by decide +kernel
theorem dX7_nominal_58 : decode cX7_nominal 58 = .ok (.iload 5, 2) := by decide +kernel
theorem dX7_nominal_60 : decode cX7_nominal 60 = .ok (.iadd, 1) := by decide +kernel
theorem dX7_nominal_61 : decode cX7_nominal 61 = .ok (.istore 7, 2) := by decide +kernel
theorem dX7_nominal_63 : decode cX7_nominal 63 = .ok (.iload 7, 2) := by decide +kernel
theorem dX7_nominal_65 : decode cX7_nominal 65 = .ok (.bipush 36, 2) := by decide +kernel
theorem dX7_nominal_67 : decode cX7_nominal 67 = .ok (.if_icmp .lt 7, 3) := by decide +kernel
theorem dX7_nominal_70 : decode cX7_nominal 70 = .ok (.sipush 5000, 3) := by decide +kernel
theorem dX7_nominal_73 : decode cX7_nominal 73 = .ok (.ireturn, 1) := by decide +kernel
theorem dX7_nominal_74 : decode cX7_nominal 74 = .ok (.iload 4, 2) := by decide +kernel
theorem dX7_nominal_76 : decode cX7_nominal 76 = .ok (.iconst 2, 1) := by decide +kernel
theorem dX7_nominal_77 : decode cX7_nominal 77 = .ok (.if_icmp .ne 17, 3) := by decide +kernel
theorem dX7_nominal_80 : decode cX7_nominal 80 = .ok (.iload 7, 2) := by decide +kernel
theorem dX7_nominal_82 : decode cX7_nominal 82 = .ok (.aload_n 0, 1) := by decide +kernel
theorem dX7_nominal_83 : decode cX7_nominal 83 = .ok (.iload_n 1, 1) := by decide +kernel
theorem dX7_nominal_84 : decode cX7_nominal 84 = .ok (.iconst 5, 1) := by decide +kernel
theorem dX7_nominal_85 : decode cX7_nominal 85 = .ok (.invokevirtual 151, 3) := by decide +kernel
theorem dX7_nominal_88 : decode cX7_nominal 88 = .ok (.invokestatic 154, 3) := by decide +kernel
theorem dX7_nominal_91 : decode cX7_nominal 91 = .ok (.goto 9, 3) := by decide +kernel
theorem dX7_nominal_94 : decode cX7_nominal 94 = .ok (.aload_n 0, 1) := by decide +kernel
theorem dX7_nominal_95 : decode cX7_nominal 95 = .ok (.iload 7, 2) := by decide +kernel
theorem dX7_nominal_97 : decode cX7_nominal 97 = .ok (.invokevirtual 157, 3) := by decide +kernel
theorem dX7_nominal_100 : decode cX7_nominal 100 = .ok (.istore 6, 2) := by decide +kernel
theorem dX7_nominal_102 : decode cX7_nominal 102 = .ok (.iload 6, 2) := by decide +kernel
theorem dX7_nominal_104 : decode cX7_nominal 104 = .ok (.sipush 1094, 3) := by decide +kernel
theorem dX7_nominal_107 : decode cX7_nominal 107 = .ok (.if_icmp .le 7, 3) := by decide +kernel
theorem dX7_nominal_110 : decode cX7_nominal 110 = .ok (.sipush 5000, 3) := by decide +kernel
theorem dX7_nominal_113 : decode cX7_nominal 113 = .ok (.ireturn, 1) := by decide +kernel
theorem dX7_nominal_114 : decode cX7_nominal 114 = .ok (.iload 6, 2) := by decide +kernel
theorem dX7_nominal_116 : decode cX7_nominal 116 = .ok (.iload_n 3, 1) := by decide +kernel
theorem dX7_nominal_117 : decode cX7_nominal 117 = .ok (.if_icmp .ge 8, 3) := by decide +kernel
theorem dX7_nominal_120 : decode cX7_nominal 120 = .ok (.bipush (-6), 2) := by decide +kernel
theorem dX7_nominal_122 : decode cX7_nominal 122 = .ok (.goto 5, 3) := by decide +kernel
theorem dX7_nominal_125 : decode cX7_nominal 125 = .ok (.iload 6, 2) := by decide +kernel
theorem dX7_nominal_127 : decode cX7_nominal 127 = .ok (.ireturn, 1) := by decide +kernel
theorem dX7_dayIn_0 : decode cX7_dayIn 0 = .ok (.iload_n 0, 1) := by decide +kernel
theorem dX7_dayIn_1 : decode cX7_dayIn 1 = .ok (.invokestatic 75, 3) := by decide +kernel
theorem dX7_dayIn_4 : decode cX7_dayIn 4 = .ok (.istore_n 2, 1) := by decide +kernel
theorem dX7_dayIn_5 : decode cX7_dayIn 5 = .ok (.iload_n 0, 1) := by decide +kernel
theorem dX7_dayIn_6 : decode cX7_dayIn 6 = .ok (.invokestatic 78, 3) := by decide +kernel
theorem dX7_dayIn_9 : decode cX7_dayIn 9 = .ok (.iload_n 1, 1) := by decide +kernel
theorem dX7_dayIn_10 : decode cX7_dayIn 10 = .ok (.iload_n 2, 1) := by decide +kernel
theorem dX7_dayIn_11 : decode cX7_dayIn 11 = .ok (.if_icmp .ge 7, 3) := by decide +kernel
theorem dX7_dayIn_14 : decode cX7_dayIn 14 = .ok (.iload_n 1, 1) := by decide +kernel
theorem dX7_dayIn_15 : decode cX7_dayIn 15 = .ok (.goto 4, 3) := by decide +kernel
theorem dX7_dayIn_18 : decode cX7_dayIn 18 = .ok (.iload_n 2, 1) := by decide +kernel
theorem dX7_dayIn_19 : decode cX7_dayIn 19 = .ok (.iadd, 1) := by decide +kernel
theorem dX7_dayIn_20 : decode cX7_dayIn 20 = .ok (.iconst 1, 1) := by decide +kernel
theorem dX7_dayIn_21 : decode cX7_dayIn 21 = .ok (.isub, 1) := by decide +kernel
theorem dX7_dayIn_22 : decode cX7_dayIn 22 = .ok (.ireturn, 1) := by decide +kernel
theorem dX7_lastOf_0 : decode cX7_lastOf 0 = .ok (.iload_n 1, 1) := by decide +kernel
theorem dX7_lastOf_1 : decode cX7_lastOf 1 = .ok (.invokestatic 78, 3) := by decide +kernel
theorem dX7_lastOf_4 : decode cX7_lastOf 4 = .ok (.iload_n 1, 1) := by decide +kernel
theorem dX7_lastOf_5 : decode cX7_lastOf 5 = .ok (.invokestatic 75, 3) := by decide +kernel
theorem dX7_lastOf_8 : decode cX7_lastOf 8 = .ok (.iadd, 1) := by decide +kernel
theorem dX7_lastOf_9 : decode cX7_lastOf 9 = .ok (.iconst 1, 1) := by decide +kernel
theorem dX7_lastOf_10 : decode cX7_lastOf 10 = .ok (.isub, 1) := by decide +kernel
theorem dX7_lastOf_11 : decode cX7_lastOf 11 = .ok (.istore_n 2, 1) := by decide +kernel
theorem dX7_lastOf_12 : decode cX7_lastOf 12 = .ok (.aload_n 0, 1) := by decide +kernel
theorem dX7_lastOf_13 : decode cX7_lastOf 13 = .ok (.iload_n 2, 1) := by decide +kernel
theorem dX7_lastOf_14 : decode cX7_lastOf 14 = .ok (.invokevirtual 100, 3) := by decide +kernel
theorem dX7_lastOf_17 : decode cX7_lastOf 17 = .ok (.istore_n 3, 1) := by decide +kernel
theorem dX7_lastOf_18 : decode cX7_lastOf 18 = .ok (.iload_n 3, 1) := by decide +kernel
theorem dX7_lastOf_19 : decode cX7_lastOf 19 = .ok (.bipush (-6), 2) := by decide +kernel
theorem dX7_lastOf_21 : decode cX7_lastOf 21 = .ok (.if_icmp .eq 11, 3) := by decide +kernel
theorem dX7_lastOf_24 : decode cX7_lastOf 24 = .ok (.iload_n 3, 1) := by decide +kernel
theorem dX7_lastOf_25 : decode cX7_lastOf 25 = .ok (.iload_n 1, 1) := by decide +kernel
theorem dX7_lastOf_26 : decode cX7_lastOf 26 = .ok (.invokestatic 78, 3) := by decide +kernel
theorem dX7_lastOf_29 : decode cX7_lastOf 29 = .ok (.if_icmp .ge 7, 3) := by decide +kernel
theorem dX7_lastOf_32 : decode cX7_lastOf 32 = .ok (.iload_n 2, 1) := by decide +kernel
theorem dX7_lastOf_33 : decode cX7_lastOf 33 = .ok (.goto 4, 3) := by decide +kernel
theorem dX7_lastOf_36 : decode cX7_lastOf 36 = .ok (.iload_n 3, 1) := by decide +kernel
theorem dX7_lastOf_37 : decode cX7_lastOf 37 = .ok (.ireturn, 1) := by decide +kernel
theorem dX7_occurrence_0 : decode cX7_occurrence 0 = .ok (.iload_n 2, 1) := by decide +kernel
theorem dX7_occurrence_1 : decode cX7_occurrence 1 = .ok (.istore_n 3, 1) := by decide +kernel
theorem dX7_occurrence_2 : decode cX7_occurrence 2 = .ok (.aload_n 0, 1) := by decide +kernel
theorem dX7_occurrence_3 : decode cX7_occurrence 3 = .ok (.iload_n 1, 1) := by decide +kernel
theorem dX7_occurrence_4 : decode cX7_occurrence 4 = .ok (.iload_n 3, 1) := by decide +kernel
theorem dX7_occurrence_5 : decode cX7_occurrence 5 = .ok (.invokevirtual 160, 3) := by decide +kernel
theorem dX7_occurrence_8 : decode cX7_occurrence 8 = .ok (.bipush (-6), 2) := by decide +kernel
theorem dX7_occurrence_10 : decode cX7_occurrence 10 = .ok (.if_icmp .ne 9, 3) := by decide +kernel
theorem dX7_occurrence_13 : decode cX7_occurrence 13 = .ok (.iinc 3 1, 3) := by decide +kernel
theorem dX7_occurrence_16 : decode cX7_occurrence 16 = .ok (.goto (-14), 3) := by decide +kernel
theorem dX7_occurrence_19 : decode cX7_occurrence 19 = .ok (.aload_n 0, 1) := by decide +kernel
theorem dX7_occurrence_20 : decode cX7_occurrence 20 = .ok (.iload_n 1, 1) := by decide +kernel
theorem dX7_occurrence_21 : decode cX7_occurrence 21 = .ok (.iload_n 3, 1) := by decide +kernel
theorem dX7_occurrence_22 : decode cX7_occurrence 22 = .ok (.invokevirtual 160, 3) := by decide +kernel
theorem dX7_occurrence_25 : decode cX7_occurrence 25 = .ok (.sipush 5000, 3) := by decide +kernel
theorem dX7_occurrence_28 : decode cX7_occurrence 28 = .ok (.if_icmp .ne 8, 3) := by decide +kernel
theorem dX7_occurrence_31 : decode cX7_occurrence 31 = .ok (.bipush (-6), 2) := by decide +kernel
theorem dX7_occurrence_33 : decode cX7_occurrence 33 = .ok (.goto 4, 3) := by decide +kernel
theorem dX7_occurrence_36 : decode cX7_occurrence 36 = .ok (.iload_n 3, 1) := by decide +kernel
theorem dX7_occurrence_37 : decode cX7_occurrence 37 = .ok (.ireturn, 1) := by decide +kernel
theorem dX7_dateBy_0 : decode cX7_dateBy 0 = .ok (.aload_n 0, 1) := by decide +kernel
theorem dX7_dateBy_1 : decode cX7_dateBy 1 = .ok (.aload_n 0, 1) := by decide +kernel
theorem dX7_dateBy_2 : decode cX7_dateBy 2 = .ok (.iload_n 1, 1) := by decide +kernel
theorem dX7_dateBy_3 : decode cX7_dateBy 3 = .ok (.iload_n 2, 1) := by decide +kernel
theorem dX7_dateBy_4 : decode cX7_dateBy 4 = .ok (.invokevirtual 160, 3) := by decide +kernel
theorem dX7_dateBy_7 : decode cX7_dateBy 7 = .ok (.aload_n 0, 1) := by decide +kernel
theorem dX7_dateBy_8 : decode cX7_dateBy 8 = .ok (.iload_n 1, 1) := by decide +kernel
theorem dX7_dateBy_9 : decode cX7_dateBy 9 = .ok (.bipush 7, 2) := by decide +kernel
theorem dX7_dateBy_11 : decode cX7_dateBy 11 = .ok (.invokevirtual 151, 3) := by decide +kernel
theorem dX7_dateBy_14 : decode cX7_dateBy 14 = .ok (.invokevirtual 105, 3) := by decide +kernel
theorem dX7_dateBy_17 : decode cX7_dateBy 17 = .ok (.ireturn, 1) := by decide +kernel
theorem dX7_leavesOut_0 : decode cX7_leavesOut 0 = .ok (.iconst 0, 1) := by decide +kernel
theorem dX7_leavesOut_1 : decode cX7_leavesOut 1 = .ok (.istore_n 2, 1) := by decide +kernel
theorem dX7_leavesOut_2 : decode cX7_leavesOut 2 = .ok (.aload_n 0, 1) := by decide +kernel
theorem dX7_leavesOut_3 : decode cX7_leavesOut 3 = .ok (.iload_n 1, 1) := by decide +kernel
theorem dX7_leavesOut_4 : decode cX7_leavesOut 4 = .ok (.aload_n 0, 1) := by decide +kernel
theorem dX7_leavesOut_5 : decode cX7_leavesOut 5 = .ok (.iload_n 1, 1) := by decide +kernel
theorem dX7_leavesOut_6 : decode cX7_leavesOut 6 = .ok (.bipush 14, 2) := by decide +kernel
theorem dX7_leavesOut_8 : decode cX7_leavesOut 8 = .ok (.invokevirtual 151, 3) := by decide +kernel
theorem dX7_leavesOut_11 : decode cX7_leavesOut 11 = .ok (.invokevirtual 163, 3) := by decide +kernel
theorem dX7_leavesOut_14 : decode cX7_leavesOut 14 = .ok (.istore_n 3, 1) := by decide +kernel
theorem dX7_leavesOut_15 : decode cX7_leavesOut 15 = .ok (.iload_n 3, 1) := by decide +kernel
theorem dX7_leavesOut_16 : decode cX7_leavesOut 16 = .ok (.bipush (-6), 2) := by decide +kernel
theorem dX7_leavesOut_18 : decode cX7_leavesOut 18 = .ok (.if_icmp .eq 41, 3) := by decide +kernel
theorem dX7_leavesOut_21 : decode cX7_leavesOut 21 = .ok (.aload_n 0, 1) := by decide +kernel
theorem dX7_leavesOut_22 : decode cX7_leavesOut 22 = .ok (.iload_n 1, 1) := by decide +kernel
theorem dX7_leavesOut_23 : decode cX7_leavesOut 23 = .ok (.iload_n 3, 1) := by decide +kernel
theorem dX7_leavesOut_24 : decode cX7_leavesOut 24 = .ok (.invokevirtual 166, 3) := by decide +kernel
theorem dX7_leavesOut_27 : decode cX7_leavesOut 27 = .ok (.aload_n 0, 1) := by decide +kernel
theorem dX7_leavesOut_28 : decode cX7_leavesOut 28 = .ok (.invokevirtual 66, 3) := by decide +kernel
theorem dX7_leavesOut_31 : decode cX7_leavesOut 31 = .ok (.if_icmp .ge 28, 3) := by decide +kernel
theorem dX7_leavesOut_34 : decode cX7_leavesOut 34 = .ok (.iinc 2 1, 3) := by decide +kernel
theorem dX7_leavesOut_37 : decode cX7_leavesOut 37 = .ok (.aload_n 0, 1) := by decide +kernel
theorem dX7_leavesOut_38 : decode cX7_leavesOut 38 = .ok (.iload_n 1, 1) := by decide +kernel
theorem dX7_leavesOut_39 : decode cX7_leavesOut 39 = .ok (.bipush 14, 2) := by decide +kernel
theorem dX7_leavesOut_41 : decode cX7_leavesOut 41 = .ok (.iload_n 3, 1) := by decide +kernel
theorem dX7_leavesOut_42 : decode cX7_leavesOut 42 = .ok (.iconst 1, 1) := by decide +kernel
theorem dX7_leavesOut_43 : decode cX7_leavesOut 43 = .ok (.iadd, 1) := by decide +kernel
theorem dX7_leavesOut_44 : decode cX7_leavesOut 44 = .ok (.invokevirtual 169, 3) := by decide +kernel
theorem dX7_leavesOut_47 : decode cX7_leavesOut 47 = .ok (.aload_n 0, 1) := by decide +kernel
theorem dX7_leavesOut_48 : decode cX7_leavesOut 48 = .ok (.iload_n 1, 1) := by decide +kernel
theorem dX7_leavesOut_49 : decode cX7_leavesOut 49 = .ok (.iload_n 3, 1) := by decide +kernel
theorem dX7_leavesOut_50 : decode cX7_leavesOut 50 = .ok (.iconst 1, 1) := by decide +kernel
theorem dX7_leavesOut_51 : decode cX7_leavesOut 51 = .ok (.iadd, 1) := by decide +kernel
theorem dX7_leavesOut_52 : decode cX7_leavesOut 52 = .ok (.invokevirtual 163, 3) := by decide +kernel
theorem dX7_leavesOut_55 : decode cX7_leavesOut 55 = .ok (.istore_n 3, 1) := by decide +kernel
theorem dX7_leavesOut_56 : decode cX7_leavesOut 56 = .ok (.goto (-41), 3) := by decide +kernel
theorem dX7_leavesOut_59 : decode cX7_leavesOut 59 = .ok (.iload_n 2, 1) := by decide +kernel
theorem dX7_leavesOut_60 : decode cX7_leavesOut 60 = .ok (.ireturn, 1) := by decide +kernel
theorem dX7_hasLeft_0 : decode cX7_hasLeft 0 = .ok (.aload_n 0, 1) := by decide +kernel
theorem dX7_hasLeft_1 : decode cX7_hasLeft 1 = .ok (.iload_n 1, 1) := by decide +kernel
theorem dX7_hasLeft_2 : decode cX7_hasLeft 2 = .ok (.bipush 15, 2) := by decide +kernel
theorem dX7_hasLeft_4 : decode cX7_hasLeft 4 = .ok (.invokevirtual 151, 3) := by decide +kernel
theorem dX7_hasLeft_7 : decode cX7_hasLeft 7 = .ok (.iconst 1, 1) := by decide +kernel
theorem dX7_hasLeft_8 : decode cX7_hasLeft 8 = .ok (.if_icmp .eq 13, 3) := by decide +kernel
theorem dX7_hasLeft_11 : decode cX7_hasLeft 11 = .ok (.aload_n 0, 1) := by decide +kernel
theorem dX7_hasLeft_12 : decode cX7_hasLeft 12 = .ok (.iload_n 1, 1) := by decide +kernel
theorem dX7_hasLeft_13 : decode cX7_hasLeft 13 = .ok (.bipush 9, 2) := by decide +kernel
theorem dX7_hasLeft_15 : decode cX7_hasLeft 15 = .ok (.invokevirtual 151, 3) := by decide +kernel
theorem dX7_hasLeft_18 : decode cX7_hasLeft 18 = .ok (.ifCond .le 7, 3) := by decide +kernel
theorem dX7_hasLeft_21 : decode cX7_hasLeft 21 = .ok (.iconst 1, 1) := by decide +kernel
theorem dX7_hasLeft_22 : decode cX7_hasLeft 22 = .ok (.goto 4, 3) := by decide +kernel
theorem dX7_hasLeft_25 : decode cX7_hasLeft 25 = .ok (.iconst 0, 1) := by decide +kernel
theorem dX7_hasLeft_26 : decode cX7_hasLeft 26 = .ok (.ireturn, 1) := by decide +kernel
theorem dX7_dateOf_0 : decode cX7_dateOf 0 = .ok (.aload_n 0, 1) := by decide +kernel
theorem dX7_dateOf_1 : decode cX7_dateOf 1 = .ok (.iload_n 1, 1) := by decide +kernel
theorem dX7_dateOf_2 : decode cX7_dateOf 2 = .ok (.invokevirtual 173, 3) := by decide +kernel
theorem dX7_dateOf_5 : decode cX7_dateOf 5 = .ok (.ifCond .ne 5, 3) := by decide +kernel
theorem dX7_dateOf_8 : decode cX7_dateOf 8 = .ok (.iconst (-1), 1) := by decide +kernel
theorem dX7_dateOf_9 : decode cX7_dateOf 9 = .ok (.ireturn, 1) := by decide +kernel
theorem dX7_dateOf_10 : decode cX7_dateOf 10 = .ok (.iload_n 2, 1) := by decide +kernel
theorem dX7_dateOf_11 : decode cX7_dateOf 11 = .ok (.i2l, 1) := by decide +kernel
theorem dX7_dateOf_12 : decode cX7_dateOf 12 = .ok (.lconst 0, 1) := by decide +kernel
theorem dX7_dateOf_13 : decode cX7_dateOf 13 = .ok (.ldc2_w 176, 3) := by decide +kernel
theorem dX7_dateOf_16 : decode cX7_dateOf 16 = .ok (.invokestatic 47, 3) := by decide +kernel
theorem dX7_dateOf_19 : decode cX7_dateOf 19 = .ok (.ifCond .ne 6, 3) := by decide +kernel
theorem dX7_dateOf_22 : decode cX7_dateOf 22 = .ok (.bipush (-2), 2) := by decide +kernel
theorem dX7_dateOf_24 : decode cX7_dateOf 24 = .ok (.ireturn, 1) := by decide +kernel
theorem dX7_dateOf_25 : decode cX7_dateOf 25 = .ok (.aload_n 0, 1) := by decide +kernel
theorem dX7_dateOf_26 : decode cX7_dateOf 26 = .ok (.iload_n 1, 1) := by decide +kernel
theorem dX7_dateOf_27 : decode cX7_dateOf 27 = .ok (.bipush 10, 2) := by decide +kernel
theorem dX7_dateOf_29 : decode cX7_dateOf 29 = .ok (.invokevirtual 151, 3) := by decide +kernel
theorem dX7_dateOf_32 : decode cX7_dateOf 32 = .ok (.iconst 2, 1) := by decide +kernel
theorem dX7_dateOf_33 : decode cX7_dateOf 33 = .ok (.if_icmp .eq 24, 3) := by decide +kernel
theorem dX7_dateOf_36 : decode cX7_dateOf 36 = .ok (.aload_n 0, 1) := by decide +kernel
theorem dX7_dateOf_37 : decode cX7_dateOf 37 = .ok (.iload_n 1, 1) := by decide +kernel
theorem dX7_dateOf_38 : decode cX7_dateOf 38 = .ok (.bipush 15, 2) := by decide +kernel
theorem dX7_dateOf_40 : decode cX7_dateOf 40 = .ok (.invokevirtual 151, 3) := by decide +kernel
theorem dX7_dateOf_43 : decode cX7_dateOf 43 = .ok (.ifCond .ne 17, 3) := by decide +kernel
theorem dX7_dateOf_46 : decode cX7_dateOf 46 = .ok (.iload_n 2, 1) := by decide +kernel
theorem dX7_dateOf_47 : decode cX7_dateOf 47 = .ok (.aload_n 0, 1) := by decide +kernel
theorem dX7_dateOf_48 : decode cX7_dateOf 48 = .ok (.iload_n 1, 1) := by decide +kernel
theorem dX7_dateOf_49 : decode cX7_dateOf 49 = .ok (.bipush 9, 2) := by decide +kernel
theorem dX7_dateOf_51 : decode cX7_dateOf 51 = .ok (.invokevirtual 151, 3) := by decide +kernel
theorem dX7_dateOf_54 : decode cX7_dateOf 54 = .ok (.if_icmp .lt 6, 3) := by decide +kernel
theorem dX7_dateOf_57 : decode cX7_dateOf 57 = .ok (.bipush (-6), 2) := by decide +kernel
theorem dX7_dateOf_59 : decode cX7_dateOf 59 = .ok (.ireturn, 1) := by decide +kernel
theorem dX7_dateOf_60 : decode cX7_dateOf 60 = .ok (.aload_n 0, 1) := by decide +kernel
theorem dX7_dateOf_61 : decode cX7_dateOf 61 = .ok (.iload_n 1, 1) := by decide +kernel
theorem dX7_dateOf_62 : decode cX7_dateOf 62 = .ok (.aload_n 0, 1) := by decide +kernel
theorem dX7_dateOf_63 : decode cX7_dateOf 63 = .ok (.iload_n 1, 1) := by decide +kernel
theorem dX7_dateOf_64 : decode cX7_dateOf 64 = .ok (.bipush 14, 2) := by decide +kernel
theorem dX7_dateOf_66 : decode cX7_dateOf 66 = .ok (.invokevirtual 151, 3) := by decide +kernel
theorem dX7_dateOf_69 : decode cX7_dateOf 69 = .ok (.invokevirtual 163, 3) := by decide +kernel
theorem dX7_dateOf_72 : decode cX7_dateOf 72 = .ok (.istore_n 3, 1) := by decide +kernel
theorem dX7_dateOf_73 : decode cX7_dateOf 73 = .ok (.iconst 0, 1) := by decide +kernel
theorem dX7_dateOf_74 : decode cX7_dateOf 74 = .ok (.istore 4, 2) := by decide +kernel
theorem dX7_dateOf_76 : decode cX7_dateOf 76 = .ok (.iload 4, 2) := by decide +kernel
theorem dX7_dateOf_78 : decode cX7_dateOf 78 = .ok (.iload_n 2, 1) := by decide +kernel
theorem dX7_dateOf_79 : decode cX7_dateOf 79 = .ok (.if_icmp .ge 24, 3) := by decide +kernel
theorem dX7_dateOf_82 : decode cX7_dateOf 82 = .ok (.iload_n 3, 1) := by decide +kernel
theorem dX7_dateOf_83 : decode cX7_dateOf 83 = .ok (.bipush (-6), 2) := by decide +kernel
theorem dX7_dateOf_85 : decode cX7_dateOf 85 = .ok (.if_icmp .eq 18, 3) := by decide +kernel
theorem dX7_dateOf_88 : decode cX7_dateOf 88 = .ok (.aload_n 0, 1) := by decide +kernel
theorem dX7_dateOf_89 : decode cX7_dateOf 89 = .ok (.iload_n 1, 1) := by decide +kernel
theorem dX7_dateOf_90 : decode cX7_dateOf 90 = .ok (.iload_n 3, 1) := by decide +kernel
theorem dX7_dateOf_91 : decode cX7_dateOf 91 = .ok (.iconst 1, 1) := by decide +kernel
theorem dX7_dateOf_92 : decode cX7_dateOf 92 = .ok (.iadd, 1) := by decide +kernel
theorem dX7_dateOf_93 : decode cX7_dateOf 93 = .ok (.invokevirtual 163, 3) := by decide +kernel
theorem dX7_dateOf_96 : decode cX7_dateOf 96 = .ok (.istore_n 3, 1) := by decide +kernel
theorem dX7_dateOf_97 : decode cX7_dateOf 97 = .ok (.iinc 4 1, 3) := by decide +kernel
theorem dX7_dateOf_100 : decode cX7_dateOf 100 = .ok (.goto (-24), 3) := by decide +kernel
theorem dX7_dateOf_103 : decode cX7_dateOf 103 = .ok (.iload_n 3, 1) := by decide +kernel
theorem dX7_dateOf_104 : decode cX7_dateOf 104 = .ok (.bipush (-6), 2) := by decide +kernel
theorem dX7_dateOf_106 : decode cX7_dateOf 106 = .ok (.if_icmp .ne 8, 3) := by decide +kernel
theorem dX7_dateOf_109 : decode cX7_dateOf 109 = .ok (.bipush (-6), 2) := by decide +kernel
theorem dX7_dateOf_111 : decode cX7_dateOf 111 = .ok (.goto 9, 3) := by decide +kernel
theorem dX7_dateOf_114 : decode cX7_dateOf 114 = .ok (.aload_n 0, 1) := by decide +kernel
theorem dX7_dateOf_115 : decode cX7_dateOf 115 = .ok (.iload_n 1, 1) := by decide +kernel
theorem dX7_dateOf_116 : decode cX7_dateOf 116 = .ok (.iload_n 3, 1) := by decide +kernel
theorem dX7_dateOf_117 : decode cX7_dateOf 117 = .ok (.invokevirtual 166, 3) := by decide +kernel
theorem dX7_dateOf_120 : decode cX7_dateOf 120 = .ok (.ireturn, 1) := by decide +kernel
theorem dX7_checksOrder_0 : decode cX7_checksOrder 0 = .ok (.iload_n 1, 1) := by decide +kernel
theorem dX7_checksOrder_1 : decode cX7_checksOrder 1 = .ok (.bipush 9, 2) := by decide +kernel
theorem dX7_checksOrder_3 : decode cX7_checksOrder 3 = .ok (.idiv, 1) := by decide +kernel
theorem dX7_checksOrder_4 : decode cX7_checksOrder 4 = .ok (.istore 7, 2) := by decide +kernel
theorem dX7_checksOrder_6 : decode cX7_checksOrder 6 = .ok (.iload_n 1, 1) := by decide +kernel
theorem dX7_checksOrder_7 : decode cX7_checksOrder 7 = .ok (.bipush 9, 2) := by decide +kernel
theorem dX7_checksOrder_9 : decode cX7_checksOrder 9 = .ok (.irem, 1) := by decide +kernel
theorem dX7_checksOrder_10 : decode cX7_checksOrder 10 = .ok (.istore 8, 2) := by decide +kernel
theorem dX7_checksOrder_12 : decode cX7_checksOrder 12 = .ok (.iload_n 1, 1) := by decide +kernel
theorem dX7_checksOrder_13 : decode cX7_checksOrder 13 = .ok (.ifCond .lt 35, 3) := by decide +kernel
theorem dX7_checksOrder_16 : decode cX7_checksOrder 16 = .ok (.aload_n 0, 1) := by decide +kernel
theorem dX7_checksOrder_17 : decode cX7_checksOrder 17 = .ok (.iload 7, 2) := by decide +kernel
theorem dX7_checksOrder_19 : decode cX7_checksOrder 19 = .ok (.invokevirtual 129, 3) := by decide +kernel
theorem dX7_checksOrder_22 : decode cX7_checksOrder 22 = .ok (.ifCond .eq 26, 3) := by decide +kernel
theorem dX7_checksOrder_25 : decode cX7_checksOrder 25 = .ok (.iload 8, 2) := by decide +kernel
theorem dX7_checksOrder_27 : decode cX7_checksOrder 27 = .ok (.bipush 8, 2) := by decide +kernel
theorem dX7_checksOrder_29 : decode cX7_checksOrder 29 = .ok (.if_icmp .eq 12, 3) := by decide +kernel
theorem dX7_checksOrder_32 : decode cX7_checksOrder 32 = .ok (.aload_n 0, 1) := by decide +kernel
theorem dX7_checksOrder_33 : decode cX7_checksOrder 33 = .ok (.iload 8, 2) := by decide +kernel
theorem dX7_checksOrder_35 : decode cX7_checksOrder 35 = .ok (.invokevirtual 129, 3) := by decide +kernel
theorem dX7_checksOrder_38 : decode cX7_checksOrder 38 = .ok (.ifCond .eq 10, 3) := by decide +kernel
theorem dX7_checksOrder_41 : decode cX7_checksOrder 41 = .ok (.iload 7, 2) := by decide +kernel
theorem dX7_checksOrder_43 : decode cX7_checksOrder 43 = .ok (.iload 8, 2) := by decide +kernel
theorem dX7_checksOrder_45 : decode cX7_checksOrder 45 = .ok (.if_icmp .ne 5, 3) := by decide +kernel
theorem dX7_checksOrder_48 : decode cX7_checksOrder 48 = .ok (.iconst (-1), 1) := by decide +kernel
theorem dX7_checksOrder_49 : decode cX7_checksOrder 49 = .ok (.ireturn, 1) := by decide +kernel
theorem dX7_checksOrder_50 : decode cX7_checksOrder 50 = .ok (.iload_n 3, 1) := by decide +kernel
theorem dX7_checksOrder_51 : decode cX7_checksOrder 51 = .ok (.i2l, 1) := by decide +kernel
theorem dX7_checksOrder_52 : decode cX7_checksOrder 52 = .ok (.lconst 0, 1) := by decide +kernel
theorem dX7_checksOrder_53 : decode cX7_checksOrder 53 = .ok (.ldc2_w 178, 3) := by decide +kernel
theorem dX7_checksOrder_56 : decode cX7_checksOrder 56 = .ok (.invokestatic 47, 3) := by decide +kernel
theorem dX7_checksOrder_59 : decode cX7_checksOrder 59 = .ok (.ifCond .eq 40, 3) := by decide +kernel
theorem dX7_checksOrder_62 : decode cX7_checksOrder 62 = .ok (.iload_n 3, 1) := by decide +kernel
theorem dX7_checksOrder_63 : decode cX7_checksOrder 63 = .ok (.bipush 100, 2) := by decide +kernel
theorem dX7_checksOrder_65 : decode cX7_checksOrder 65 = .ok (.idiv, 1) := by decide +kernel
theorem dX7_checksOrder_66 : decode cX7_checksOrder 66 = .ok (.bipush 100, 2) := by decide +kernel
theorem dX7_checksOrder_68 : decode cX7_checksOrder 68 = .ok (.irem, 1) := by decide +kernel
theorem dX7_checksOrder_69 : decode cX7_checksOrder 69 = .ok (.i2l, 1) := by decide +kernel
theorem dX7_checksOrder_70 : decode cX7_checksOrder 70 = .ok (.lconst 1, 1) := by decide +kernel
theorem dX7_checksOrder_71 : decode cX7_checksOrder 71 = .ok (.ldc2_w 180, 3) := by decide +kernel
theorem dX7_checksOrder_74 : decode cX7_checksOrder 74 = .ok (.invokestatic 47, 3) := by decide +kernel
theorem dX7_checksOrder_77 : decode cX7_checksOrder 77 = .ok (.ifCond .eq 22, 3) := by decide +kernel
theorem dX7_checksOrder_80 : decode cX7_checksOrder 80 = .ok (.iload_n 3, 1) := by decide +kernel
theorem dX7_checksOrder_81 : decode cX7_checksOrder 81 = .ok (.bipush 100, 2) := by decide +kernel
theorem dX7_checksOrder_83 : decode cX7_checksOrder 83 = .ok (.irem, 1) := by decide +kernel
theorem dX7_checksOrder_84 : decode cX7_checksOrder 84 = .ok (.i2l, 1) := by decide +kernel
theorem dX7_checksOrder_85 : decode cX7_checksOrder 85 = .ok (.lconst 1, 1) := by decide +kernel
theorem dX7_checksOrder_86 : decode cX7_checksOrder 86 = .ok (.ldc2_w 182, 3) := by decide +kernel
theorem dX7_checksOrder_89 : decode cX7_checksOrder 89 = .ok (.invokestatic 47, 3) := by decide +kernel
theorem dX7_checksOrder_92 : decode cX7_checksOrder 92 = .ok (.ifCond .eq 7, 3) := by decide +kernel
theorem dX7_checksOrder_95 : decode cX7_checksOrder 95 = .ok (.iconst 1, 1) := by decide +kernel
theorem dX7_checksOrder_96 : decode cX7_checksOrder 96 = .ok (.goto 4, 3) := by decide +kernel
theorem dX7_checksOrder_99 : decode cX7_checksOrder 99 = .ok (.iconst 0, 1) := by decide +kernel
theorem dX7_checksOrder_100 : decode cX7_checksOrder 100 = .ok (.istore 9, 2) := by decide +kernel
theorem dX7_checksOrder_102 : decode cX7_checksOrder 102 = .ok (.iload_n 2, 1) := by decide +kernel
theorem dX7_checksOrder_103 : decode cX7_checksOrder 103 = .ok (.i2l, 1) := by decide +kernel
theorem dX7_checksOrder_104 : decode cX7_checksOrder 104 = .ok (.lconst 1, 1) := by decide +kernel
theorem dX7_checksOrder_105 : decode cX7_checksOrder 105 = .ok (.ldc2_w 123, 3) := by decide +kernel
theorem dX7_checksOrder_108 : decode cX7_checksOrder 108 = .ok (.invokestatic 47, 3) := by decide +kernel
theorem dX7_checksOrder_111 : decode cX7_checksOrder 111 = .ok (.ifCond .eq 51, 3) := by decide +kernel
theorem dX7_checksOrder_114 : decode cX7_checksOrder 114 = .ok (.iload 9, 2) := by decide +kernel
theorem dX7_checksOrder_116 : decode cX7_checksOrder 116 = .ok (.ifCond .eq 46, 3) := by decide +kernel
theorem dX7_checksOrder_119 : decode cX7_checksOrder 119 = .ok (.iload 4, 2) := by decide +kernel
theorem dX7_checksOrder_121 : decode cX7_checksOrder 121 = .ok (.i2l, 1) := by decide +kernel
theorem dX7_checksOrder_122 : decode cX7_checksOrder 122 = .ok (.aload_n 0, 1) := by decide +kernel
theorem dX7_checksOrder_123 : decode cX7_checksOrder 123 = .ok (.invokevirtual 66, 3) := by decide +kernel
theorem dX7_checksOrder_126 : decode cX7_checksOrder 126 = .ok (.i2l, 1) := by decide +kernel
theorem dX7_checksOrder_127 : decode cX7_checksOrder 127 = .ok (.ldc2_w 73, 3) := by decide +kernel
theorem dX7_checksOrder_130 : decode cX7_checksOrder 130 = .ok (.invokestatic 47, 3) := by decide +kernel
theorem dX7_checksOrder_133 : decode cX7_checksOrder 133 = .ok (.ifCond .eq 29, 3) := by decide +kernel
theorem dX7_checksOrder_136 : decode cX7_checksOrder 136 = .ok (.iload 5, 2) := by decide +kernel
theorem dX7_checksOrder_138 : decode cX7_checksOrder 138 = .ok (.i2l, 1) := by decide +kernel
theorem dX7_checksOrder_139 : decode cX7_checksOrder 139 = .ok (.lconst 0, 1) := by decide +kernel
theorem dX7_checksOrder_140 : decode cX7_checksOrder 140 = .ok (.ldc2_w 184, 3) := by decide +kernel
theorem dX7_checksOrder_143 : decode cX7_checksOrder 143 = .ok (.invokestatic 47, 3) := by decide +kernel
theorem dX7_checksOrder_146 : decode cX7_checksOrder 146 = .ok (.ifCond .eq 16, 3) := by decide +kernel
theorem dX7_checksOrder_149 : decode cX7_checksOrder 149 = .ok (.iload 6, 2) := by decide +kernel
theorem dX7_checksOrder_151 : decode cX7_checksOrder 151 = .ok (.i2l, 1) := by decide +kernel
theorem dX7_checksOrder_152 : decode cX7_checksOrder 152 = .ok (.lconst 0, 1) := by decide +kernel
theorem dX7_checksOrder_153 : decode cX7_checksOrder 153 = .ok (.ldc2_w 176, 3) := by decide +kernel
theorem dX7_checksOrder_156 : decode cX7_checksOrder 156 = .ok (.invokestatic 47, 3) := by decide +kernel
theorem dX7_checksOrder_159 : decode cX7_checksOrder 159 = .ok (.ifCond .ne 6, 3) := by decide +kernel
theorem dX7_checksOrder_162 : decode cX7_checksOrder 162 = .ok (.bipush (-2), 2) := by decide +kernel
theorem dX7_checksOrder_164 : decode cX7_checksOrder 164 = .ok (.ireturn, 1) := by decide +kernel
theorem dX7_checksOrder_165 : decode cX7_checksOrder 165 = .ok (.aload_n 0, 1) := by decide +kernel
theorem dX7_checksOrder_166 : decode cX7_checksOrder 166 = .ok (.getfield 7, 3) := by decide +kernel
theorem dX7_checksOrder_169 : decode cX7_checksOrder 169 = .ok (.iconst 2, 1) := by decide +kernel
theorem dX7_checksOrder_170 : decode cX7_checksOrder 170 = .ok (.laload, 1) := by decide +kernel
theorem dX7_checksOrder_171 : decode cX7_checksOrder 171 = .ok (.ldc2_w 186, 3) := by decide +kernel
theorem dX7_checksOrder_174 : decode cX7_checksOrder 174 = .ok (.lcmp, 1) := by decide +kernel
theorem dX7_checksOrder_175 : decode cX7_checksOrder 175 = .ok (.ifCond .ne 8, 3) := by decide +kernel
theorem dX7_checksOrder_178 : decode cX7_checksOrder 178 = .ok (.bipush (-4), 2) := by decide +kernel
theorem dX7_checksOrder_180 : decode cX7_checksOrder 180 = .ok (.goto 4, 3) := by decide +kernel
theorem dX7_checksOrder_183 : decode cX7_checksOrder 183 = .ok (.iconst 0, 1) := by decide +kernel
theorem dX7_checksOrder_184 : decode cX7_checksOrder 184 = .ok (.ireturn, 1) := by decide +kernel
theorem dX7_makes_0 : decode cX7_makes 0 = .ok (.aload_n 0, 1) := by decide +kernel
theorem dX7_makes_1 : decode cX7_makes 1 = .ok (.iconst 2, 1) := by decide +kernel
theorem dX7_makes_2 : decode cX7_makes 2 = .ok (.invokevirtual 43, 3) := by decide +kernel
theorem dX7_makes_5 : decode cX7_makes 5 = .ok (.istore 7, 2) := by decide +kernel
theorem dX7_makes_7 : decode cX7_makes 7 = .ok (.aload_n 0, 1) := by decide +kernel
theorem dX7_makes_8 : decode cX7_makes 8 = .ok (.getfield 7, 3) := by decide +kernel
theorem dX7_makes_11 : decode cX7_makes 11 = .ok (.iconst 2, 1) := by decide +kernel
theorem dX7_makes_12 : decode cX7_makes 12 = .ok (.dup2, 1) := by decide +kernel
theorem dX7_makes_13 : decode cX7_makes 13 = .ok (.laload, 1) := by decide +kernel
theorem dX7_makes_14 : decode cX7_makes 14 = .ok (.lconst 1, 1) := by decide +kernel
theorem dX7_makes_15 : decode cX7_makes 15 = .ok (.ladd, 1) := by decide +kernel
theorem dX7_makes_16 : decode cX7_makes 16 = .ok (.lastore, 1) := by decide +kernel
theorem dX7_makes_17 : decode cX7_makes 17 = .ok (.iconst 0, 1) := by decide +kernel
theorem dX7_makes_18 : decode cX7_makes 18 = .ok (.istore 8, 2) := by decide +kernel
theorem dX7_makes_20 : decode cX7_makes 20 = .ok (.iload 8, 2) := by decide +kernel
theorem dX7_makes_22 : decode cX7_makes 22 = .ok (.bipush 16, 2) := by decide +kernel
theorem dX7_makes_24 : decode cX7_makes 24 = .ok (.if_icmp .ge 18, 3) := by decide +kernel
theorem dX7_makes_27 : decode cX7_makes 27 = .ok (.aload_n 0, 1) := by decide +kernel
theorem dX7_makes_28 : decode cX7_makes 28 = .ok (.iload 7, 2) := by decide +kernel
theorem dX7_makes_30 : decode cX7_makes 30 = .ok (.iload 8, 2) := by decide +kernel
theorem dX7_makes_32 : decode cX7_makes 32 = .ok (.iconst 0, 1) := by decide +kernel
theorem dX7_makes_33 : decode cX7_makes 33 = .ok (.invokevirtual 169, 3) := by decide +kernel
theorem dX7_makes_36 : decode cX7_makes 36 = .ok (.iinc 8 1, 3) := by decide +kernel
theorem dX7_makes_39 : decode cX7_makes 39 = .ok (.goto (-19), 3) := by decide +kernel
theorem dX7_makes_42 : decode cX7_makes 42 = .ok (.aload_n 0, 1) := by decide +kernel
theorem dX7_makes_43 : decode cX7_makes 43 = .ok (.iload 7, 2) := by decide +kernel
theorem dX7_makes_45 : decode cX7_makes 45 = .ok (.iconst 0, 1) := by decide +kernel
theorem dX7_makes_46 : decode cX7_makes 46 = .ok (.iload_n 1, 1) := by decide +kernel
theorem dX7_makes_47 : decode cX7_makes 47 = .ok (.bipush 9, 2) := by decide +kernel
theorem dX7_makes_49 : decode cX7_makes 49 = .ok (.idiv, 1) := by decide +kernel
theorem dX7_makes_50 : decode cX7_makes 50 = .ok (.invokevirtual 169, 3) := by decide +kernel
theorem dX7_makes_53 : decode cX7_makes 53 = .ok (.aload_n 0, 1) := by decide +kernel
theorem dX7_makes_54 : decode cX7_makes 54 = .ok (.iload 7, 2) := by decide +kernel
theorem dX7_makes_56 : decode cX7_makes 56 = .ok (.iconst 1, 1) := by decide +kernel
theorem dX7_makes_57 : decode cX7_makes 57 = .ok (.iload_n 1, 1) := by decide +kernel
theorem dX7_makes_58 : decode cX7_makes 58 = .ok (.bipush 9, 2) := by decide +kernel
theorem dX7_makes_60 : decode cX7_makes 60 = .ok (.irem, 1) := by decide +kernel
theorem dX7_makes_61 : decode cX7_makes 61 = .ok (.invokevirtual 169, 3) := by decide +kernel
theorem dX7_makes_64 : decode cX7_makes 64 = .ok (.aload_n 0, 1) := by decide +kernel
theorem dX7_makes_65 : decode cX7_makes 65 = .ok (.iload 7, 2) := by decide +kernel
theorem dX7_makes_67 : decode cX7_makes 67 = .ok (.iconst 2, 1) := by decide +kernel
theorem dX7_makes_68 : decode cX7_makes 68 = .ok (.iload_n 2, 1) := by decide +kernel
theorem dX7_makes_69 : decode cX7_makes 69 = .ok (.invokevirtual 169, 3) := by decide +kernel
theorem dX7_makes_72 : decode cX7_makes 72 = .ok (.aload_n 0, 1) := by decide +kernel
theorem dX7_makes_73 : decode cX7_makes 73 = .ok (.iload 7, 2) := by decide +kernel
theorem dX7_makes_75 : decode cX7_makes 75 = .ok (.iconst 3, 1) := by decide +kernel
theorem dX7_makes_76 : decode cX7_makes 76 = .ok (.iload_n 3, 1) := by decide +kernel
theorem dX7_makes_77 : decode cX7_makes 77 = .ok (.sipush 10000, 3) := by decide +kernel
theorem dX7_makes_80 : decode cX7_makes 80 = .ok (.idiv, 1) := by decide +kernel
theorem dX7_makes_81 : decode cX7_makes 81 = .ok (.invokevirtual 169, 3) := by decide +kernel
theorem dX7_makes_84 : decode cX7_makes 84 = .ok (.aload_n 0, 1) := by decide +kernel
theorem dX7_makes_85 : decode cX7_makes 85 = .ok (.iload 7, 2) := by decide +kernel
theorem dX7_makes_87 : decode cX7_makes 87 = .ok (.iconst 4, 1) := by decide +kernel
theorem dX7_makes_88 : decode cX7_makes 88 = .ok (.iload_n 3, 1) := by decide +kernel
theorem dX7_makes_89 : decode cX7_makes 89 = .ok (.bipush 100, 2) := by decide +kernel
theorem dX7_makes_91 : decode cX7_makes 91 = .ok (.idiv, 1) := by decide +kernel
theorem dX7_makes_92 : decode cX7_makes 92 = .ok (.bipush 100, 2) := by decide +kernel
theorem dX7_makes_94 : decode cX7_makes 94 = .ok (.irem, 1) := by decide +kernel
theorem dX7_makes_95 : decode cX7_makes 95 = .ok (.invokevirtual 169, 3) := by decide +kernel
theorem dX7_makes_98 : decode cX7_makes 98 = .ok (.aload_n 0, 1) := by decide +kernel
theorem dX7_makes_99 : decode cX7_makes 99 = .ok (.iload 7, 2) := by decide +kernel
theorem dX7_makes_101 : decode cX7_makes 101 = .ok (.iconst 5, 1) := by decide +kernel
theorem dX7_makes_102 : decode cX7_makes 102 = .ok (.iload_n 3, 1) := by decide +kernel
theorem dX7_makes_103 : decode cX7_makes 103 = .ok (.bipush 100, 2) := by decide +kernel
theorem dX7_makes_105 : decode cX7_makes 105 = .ok (.irem, 1) := by decide +kernel
theorem dX7_makes_106 : decode cX7_makes 106 = .ok (.invokevirtual 169, 3) := by decide +kernel
theorem dX7_makes_109 : decode cX7_makes 109 = .ok (.aload_n 0, 1) := by decide +kernel
theorem dX7_makes_110 : decode cX7_makes 110 = .ok (.iload 7, 2) := by decide +kernel
theorem dX7_makes_112 : decode cX7_makes 112 = .ok (.bipush 6, 2) := by decide +kernel
theorem dX7_makes_114 : decode cX7_makes 114 = .ok (.iload 4, 2) := by decide +kernel
theorem dX7_makes_116 : decode cX7_makes 116 = .ok (.invokevirtual 169, 3) := by decide +kernel
theorem dX7_makes_119 : decode cX7_makes 119 = .ok (.aload_n 0, 1) := by decide +kernel
theorem dX7_makes_120 : decode cX7_makes 120 = .ok (.iload 7, 2) := by decide +kernel
theorem dX7_makes_122 : decode cX7_makes 122 = .ok (.bipush 7, 2) := by decide +kernel
theorem dX7_makes_124 : decode cX7_makes 124 = .ok (.iload 5, 2) := by decide +kernel
theorem dX7_makes_126 : decode cX7_makes 126 = .ok (.bipush 10, 2) := by decide +kernel
theorem dX7_makes_128 : decode cX7_makes 128 = .ok (.idiv, 1) := by decide +kernel
theorem dX7_makes_129 : decode cX7_makes 129 = .ok (.invokevirtual 169, 3) := by decide +kernel
theorem dX7_makes_132 : decode cX7_makes 132 = .ok (.aload_n 0, 1) := by decide +kernel
theorem dX7_makes_133 : decode cX7_makes 133 = .ok (.iload 7, 2) := by decide +kernel
theorem dX7_makes_135 : decode cX7_makes 135 = .ok (.bipush 8, 2) := by decide +kernel
theorem dX7_makes_137 : decode cX7_makes 137 = .ok (.iload 5, 2) := by decide +kernel
theorem dX7_makes_139 : decode cX7_makes 139 = .ok (.bipush 10, 2) := by decide +kernel
theorem dX7_makes_141 : decode cX7_makes 141 = .ok (.irem, 1) := by decide +kernel
theorem dX7_makes_142 : decode cX7_makes 142 = .ok (.invokevirtual 169, 3) := by decide +kernel
theorem dX7_makes_145 : decode cX7_makes 145 = .ok (.aload_n 0, 1) := by decide +kernel
theorem dX7_makes_146 : decode cX7_makes 146 = .ok (.iload 7, 2) := by decide +kernel
theorem dX7_makes_148 : decode cX7_makes 148 = .ok (.bipush 9, 2) := by decide +kernel
theorem dX7_makes_150 : decode cX7_makes 150 = .ok (.iload 6, 2) := by decide +kernel
theorem dX7_makes_152 : decode cX7_makes 152 = .ok (.invokevirtual 169, 3) := by decide +kernel
theorem dX7_makes_155 : decode cX7_makes 155 = .ok (.aload_n 0, 1) := by decide +kernel
theorem dX7_makes_156 : decode cX7_makes 156 = .ok (.iload 7, 2) := by decide +kernel
theorem dX7_makes_158 : decode cX7_makes 158 = .ok (.bipush 15, 2) := by decide +kernel
theorem dX7_makes_160 : decode cX7_makes 160 = .ok (.iload 6, 2) := by decide +kernel
theorem dX7_makes_162 : decode cX7_makes 162 = .ok (.ifCond .ne 7, 3) := by decide +kernel
theorem dX7_makes_165 : decode cX7_makes 165 = .ok (.iconst 1, 1) := by decide +kernel
theorem dX7_makes_166 : decode cX7_makes 166 = .ok (.goto 4, 3) := by decide +kernel
theorem dX7_makes_169 : decode cX7_makes 169 = .ok (.iconst 0, 1) := by decide +kernel
theorem dX7_makes_170 : decode cX7_makes 170 = .ok (.invokevirtual 169, 3) := by decide +kernel
theorem dX7_makes_173 : decode cX7_makes 173 = .ok (.aload_n 0, 1) := by decide +kernel
theorem dX7_makes_174 : decode cX7_makes 174 = .ok (.iload 7, 2) := by decide +kernel
theorem dX7_makes_176 : decode cX7_makes 176 = .ok (.invokevirtual 188, 3) := by decide +kernel
theorem dX7_makes_179 : decode cX7_makes 179 = .ok (.pop, 1) := by decide +kernel
theorem dX7_makes_180 : decode cX7_makes 180 = .ok (.iload 7, 2) := by decide +kernel
theorem dX7_makes_182 : decode cX7_makes 182 = .ok (.ireturn, 1) := by decide +kernel
theorem dX7_order_0 : decode cX7_order 0 = .ok (.aload_n 0, 1) := by decide +kernel
theorem dX7_order_1 : decode cX7_order 1 = .ok (.iload_n 1, 1) := by decide +kernel
theorem dX7_order_2 : decode cX7_order 2 = .ok (.iload_n 2, 1) := by decide +kernel
theorem dX7_order_3 : decode cX7_order 3 = .ok (.iload_n 3, 1) := by decide +kernel
theorem dX7_order_4 : decode cX7_order 4 = .ok (.iload 4, 2) := by decide +kernel
theorem dX7_order_6 : decode cX7_order 6 = .ok (.iload 5, 2) := by decide +kernel
theorem dX7_order_8 : decode cX7_order 8 = .ok (.iload 6, 2) := by decide +kernel
theorem dX7_order_10 : decode cX7_order 10 = .ok (.invokevirtual 191, 3) := by decide +kernel
theorem dX7_order_13 : decode cX7_order 13 = .ok (.istore 7, 2) := by decide +kernel
theorem dX7_order_15 : decode cX7_order 15 = .ok (.iload 7, 2) := by decide +kernel
theorem dX7_order_17 : decode cX7_order 17 = .ok (.ifCond .eq 6, 3) := by decide +kernel
theorem dX7_order_20 : decode cX7_order 20 = .ok (.iload 7, 2) := by decide +kernel
theorem dX7_order_22 : decode cX7_order 22 = .ok (.ireturn, 1) := by decide +kernel
theorem dX7_order_23 : decode cX7_order 23 = .ok (.aload_n 0, 1) := by decide +kernel
theorem dX7_order_24 : decode cX7_order 24 = .ok (.invokevirtual 70, 3) := by decide +kernel
theorem dX7_order_27 : decode cX7_order 27 = .ok (.aload_n 0, 1) := by decide +kernel
theorem dX7_order_28 : decode cX7_order 28 = .ok (.iload_n 1, 1) := by decide +kernel
theorem dX7_order_29 : decode cX7_order 29 = .ok (.iload_n 2, 1) := by decide +kernel
theorem dX7_order_30 : decode cX7_order 30 = .ok (.iload_n 3, 1) := by decide +kernel
theorem dX7_order_31 : decode cX7_order 31 = .ok (.iload 4, 2) := by decide +kernel
theorem dX7_order_33 : decode cX7_order 33 = .ok (.iload 5, 2) := by decide +kernel
theorem dX7_order_35 : decode cX7_order 35 = .ok (.iload 6, 2) := by decide +kernel
theorem dX7_order_37 : decode cX7_order 37 = .ok (.invokevirtual 195, 3) := by decide +kernel
theorem dX7_order_40 : decode cX7_order 40 = .ok (.ireturn, 1) := by decide +kernel
theorem dX7_change_0 : decode cX7_change 0 = .ok (.aload_n 0, 1) := by decide +kernel
theorem dX7_change_1 : decode cX7_change 1 = .ok (.iload_n 1, 1) := by decide +kernel
theorem dX7_change_2 : decode cX7_change 2 = .ok (.invokevirtual 173, 3) := by decide +kernel
theorem dX7_change_5 : decode cX7_change 5 = .ok (.ifCond .ne 5, 3) := by decide +kernel
theorem dX7_change_8 : decode cX7_change 8 = .ok (.iconst (-1), 1) := by decide +kernel
theorem dX7_change_9 : decode cX7_change 9 = .ok (.ireturn, 1) := by decide +kernel
theorem dX7_change_10 : decode cX7_change 10 = .ok (.iload_n 2, 1) := by decide +kernel
theorem dX7_change_11 : decode cX7_change 11 = .ok (.i2l, 1) := by decide +kernel
theorem dX7_change_12 : decode cX7_change 12 = .ok (.lconst 1, 1) := by decide +kernel
theorem dX7_change_13 : decode cX7_change 13 = .ok (.ldc2_w 123, 3) := by decide +kernel
theorem dX7_change_16 : decode cX7_change 16 = .ok (.invokestatic 47, 3) := by decide +kernel
theorem dX7_change_19 : decode cX7_change 19 = .ok (.ifCond .eq 15, 3) := by decide +kernel
theorem dX7_change_22 : decode cX7_change 22 = .ok (.iload_n 3, 1) := by decide +kernel
theorem dX7_change_23 : decode cX7_change 23 = .ok (.i2l, 1) := by decide +kernel
theorem dX7_change_24 : decode cX7_change 24 = .ok (.lconst 0, 1) := by decide +kernel
theorem dX7_change_25 : decode cX7_change 25 = .ok (.ldc2_w 109, 3) := by decide +kernel
theorem dX7_change_28 : decode cX7_change 28 = .ok (.invokestatic 47, 3) := by decide +kernel
theorem dX7_change_31 : decode cX7_change 31 = .ok (.ifCond .ne 6, 3) := by decide +kernel
theorem dX7_change_34 : decode cX7_change 34 = .ok (.bipush (-2), 2) := by decide +kernel
theorem dX7_change_36 : decode cX7_change 36 = .ok (.ireturn, 1) := by decide +kernel
theorem dX7_change_37 : decode cX7_change 37 = .ok (.aload_n 0, 1) := by decide +kernel
theorem dX7_change_38 : decode cX7_change 38 = .ok (.iload_n 1, 1) := by decide +kernel
theorem dX7_change_39 : decode cX7_change 39 = .ok (.bipush 10, 2) := by decide +kernel
theorem dX7_change_41 : decode cX7_change 41 = .ok (.invokevirtual 151, 3) := by decide +kernel
theorem dX7_change_44 : decode cX7_change 44 = .ok (.iconst 2, 1) := by decide +kernel
theorem dX7_change_45 : decode cX7_change 45 = .ok (.if_icmp .ne 6, 3) := by decide +kernel
theorem dX7_change_48 : decode cX7_change 48 = .ok (.bipush (-5), 2) := by decide +kernel
theorem dX7_change_50 : decode cX7_change 50 = .ok (.ireturn, 1) := by decide +kernel
theorem dX7_change_51 : decode cX7_change 51 = .ok (.aload_n 0, 1) := by decide +kernel
theorem dX7_change_52 : decode cX7_change 52 = .ok (.invokevirtual 70, 3) := by decide +kernel
theorem dX7_change_55 : decode cX7_change 55 = .ok (.aload_n 0, 1) := by decide +kernel
theorem dX7_change_56 : decode cX7_change 56 = .ok (.iload_n 1, 1) := by decide +kernel
theorem dX7_change_57 : decode cX7_change 57 = .ok (.iconst 2, 1) := by decide +kernel
theorem dX7_change_58 : decode cX7_change 58 = .ok (.invokevirtual 151, 3) := by decide +kernel
theorem dX7_change_61 : decode cX7_change 61 = .ok (.istore 4, 2) := by decide +kernel
theorem dX7_change_63 : decode cX7_change 63 = .ok (.aload_n 0, 1) := by decide +kernel
theorem dX7_change_64 : decode cX7_change 64 = .ok (.iload_n 1, 1) := by decide +kernel
theorem dX7_change_65 : decode cX7_change 65 = .ok (.iconst 2, 1) := by decide +kernel
theorem dX7_change_66 : decode cX7_change 66 = .ok (.iload_n 2, 1) := by decide +kernel
theorem dX7_change_67 : decode cX7_change 67 = .ok (.invokevirtual 169, 3) := by decide +kernel
theorem dX7_change_70 : decode cX7_change 70 = .ok (.aload_n 0, 1) := by decide +kernel
theorem dX7_change_71 : decode cX7_change 71 = .ok (.iload_n 1, 1) := by decide +kernel
theorem dX7_change_72 : decode cX7_change 72 = .ok (.bipush 8, 2) := by decide +kernel
theorem dX7_change_74 : decode cX7_change 74 = .ok (.iload_n 3, 1) := by decide +kernel
theorem dX7_change_75 : decode cX7_change 75 = .ok (.invokevirtual 169, 3) := by decide +kernel
theorem dX7_change_78 : decode cX7_change 78 = .ok (.iload 4, 2) := by decide +kernel
theorem dX7_change_80 : decode cX7_change 80 = .ok (.ireturn, 1) := by decide +kernel
theorem dX7_partOf_0 : decode cX7_partOf 0 = .ok (.aload_n 0, 1) := by decide +kernel
theorem dX7_partOf_1 : decode cX7_partOf 1 = .ok (.getfield 17, 3) := by decide +kernel
theorem dX7_partOf_4 : decode cX7_partOf 4 = .ok (.iload_n 1, 1) := by decide +kernel
theorem dX7_partOf_5 : decode cX7_partOf 5 = .ok (.laload, 1) := by decide +kernel
theorem dX7_partOf_6 : decode cX7_partOf 6 = .ok (.lstore_n 3, 1) := by decide +kernel
theorem dX7_partOf_7 : decode cX7_partOf 7 = .ok (.iload_n 2, 1) := by decide +kernel
theorem dX7_partOf_8 : decode cX7_partOf 8 = .ok (.tableswitch 87 0 4 #[36, 43, 54, 65, 76], 36) := by decide +kernel
theorem dX7_partOf_44 : decode cX7_partOf 44 = .ok (.lload_n 3, 1) := by decide +kernel
theorem dX7_partOf_45 : decode cX7_partOf 45 = .ok (.ldc2_w 186, 3) := by decide +kernel
theorem dX7_partOf_48 : decode cX7_partOf 48 = .ok (.lrem, 1) := by decide +kernel
theorem dX7_partOf_49 : decode cX7_partOf 49 = .ok (.l2i, 1) := by decide +kernel
theorem dX7_partOf_50 : decode cX7_partOf 50 = .ok (.ireturn, 1) := by decide +kernel
theorem dX7_partOf_51 : decode cX7_partOf 51 = .ok (.lload_n 3, 1) := by decide +kernel
theorem dX7_partOf_52 : decode cX7_partOf 52 = .ok (.ldc2_w 186, 3) := by decide +kernel
theorem dX7_partOf_55 : decode cX7_partOf 55 = .ok (.ldiv, 1) := by decide +kernel
theorem dX7_partOf_56 : decode cX7_partOf 56 = .ok (.ldc2_w 198, 3) := by decide +kernel
theorem dX7_partOf_59 : decode cX7_partOf 59 = .ok (.lrem, 1) := by decide +kernel
theorem dX7_partOf_60 : decode cX7_partOf 60 = .ok (.l2i, 1) := by decide +kernel
theorem dX7_partOf_61 : decode cX7_partOf 61 = .ok (.ireturn, 1) := by decide +kernel
theorem dX7_partOf_62 : decode cX7_partOf 62 = .ok (.lload_n 3, 1) := by decide +kernel
theorem dX7_partOf_63 : decode cX7_partOf 63 = .ok (.ldc2_w 200, 3) := by decide +kernel
theorem dX7_partOf_66 : decode cX7_partOf 66 = .ok (.ldiv, 1) := by decide +kernel
theorem dX7_partOf_67 : decode cX7_partOf 67 = .ok (.ldc2_w 202, 3) := by decide +kernel
theorem dX7_partOf_70 : decode cX7_partOf 70 = .ok (.lrem, 1) := by decide +kernel
theorem dX7_partOf_71 : decode cX7_partOf 71 = .ok (.l2i, 1) := by decide +kernel
theorem dX7_partOf_72 : decode cX7_partOf 72 = .ok (.ireturn, 1) := by decide +kernel
theorem dX7_partOf_73 : decode cX7_partOf 73 = .ok (.lload_n 3, 1) := by decide +kernel
theorem dX7_partOf_74 : decode cX7_partOf 74 = .ok (.ldc2_w 204, 3) := by decide +kernel
theorem dX7_partOf_77 : decode cX7_partOf 77 = .ok (.ldiv, 1) := by decide +kernel
theorem dX7_partOf_78 : decode cX7_partOf 78 = .ok (.ldc2_w 202, 3) := by decide +kernel
theorem dX7_partOf_81 : decode cX7_partOf 81 = .ok (.lrem, 1) := by decide +kernel
theorem dX7_partOf_82 : decode cX7_partOf 82 = .ok (.l2i, 1) := by decide +kernel
theorem dX7_partOf_83 : decode cX7_partOf 83 = .ok (.ireturn, 1) := by decide +kernel
theorem dX7_partOf_84 : decode cX7_partOf 84 = .ok (.lload_n 3, 1) := by decide +kernel
theorem dX7_partOf_85 : decode cX7_partOf 85 = .ok (.ldc2_w 206, 3) := by decide +kernel
theorem dX7_partOf_88 : decode cX7_partOf 88 = .ok (.ldiv, 1) := by decide +kernel
theorem dX7_partOf_89 : decode cX7_partOf 89 = .ok (.ldc2_w 186, 3) := by decide +kernel
theorem dX7_partOf_92 : decode cX7_partOf 92 = .ok (.lrem, 1) := by decide +kernel
theorem dX7_partOf_93 : decode cX7_partOf 93 = .ok (.l2i, 1) := by decide +kernel
theorem dX7_partOf_94 : decode cX7_partOf 94 = .ok (.ireturn, 1) := by decide +kernel
theorem dX7_partOf_95 : decode cX7_partOf 95 = .ok (.lload_n 3, 1) := by decide +kernel
theorem dX7_partOf_96 : decode cX7_partOf 96 = .ok (.ldc2_w 208, 3) := by decide +kernel
theorem dX7_partOf_99 : decode cX7_partOf 99 = .ok (.ldiv, 1) := by decide +kernel
theorem dX7_partOf_100 : decode cX7_partOf 100 = .ok (.l2i, 1) := by decide +kernel
theorem dX7_partOf_101 : decode cX7_partOf 101 = .ok (.ireturn, 1) := by decide +kernel
theorem dX7_waitsOf_0 : decode cX7_waitsOf 0 = .ok (.iconst 0, 1) := by decide +kernel
theorem dX7_waitsOf_1 : decode cX7_waitsOf 1 = .ok (.istore_n 2, 1) := by decide +kernel
theorem dX7_waitsOf_2 : decode cX7_waitsOf 2 = .ok (.iconst 0, 1) := by decide +kernel
theorem dX7_waitsOf_3 : decode cX7_waitsOf 3 = .ok (.istore_n 3, 1) := by decide +kernel
theorem dX7_waitsOf_4 : decode cX7_waitsOf 4 = .ok (.iload_n 3, 1) := by decide +kernel
theorem dX7_waitsOf_5 : decode cX7_waitsOf 5 = .ok (.i2l, 1) := by decide +kernel
theorem dX7_waitsOf_6 : decode cX7_waitsOf 6 = .ok (.aload_n 0, 1) := by decide +kernel
theorem dX7_waitsOf_7 : decode cX7_waitsOf 7 = .ok (.getfield 7, 3) := by decide +kernel
theorem dX7_waitsOf_10 : decode cX7_waitsOf 10 = .ok (.iconst 4, 1) := by decide +kernel
theorem dX7_waitsOf_11 : decode cX7_waitsOf 11 = .ok (.laload, 1) := by decide +kernel
theorem dX7_waitsOf_12 : decode cX7_waitsOf 12 = .ok (.lcmp, 1) := by decide +kernel
theorem dX7_waitsOf_13 : decode cX7_waitsOf 13 = .ok (.ifCond .ge 27, 3) := by decide +kernel
theorem dX7_waitsOf_16 : decode cX7_waitsOf 16 = .ok (.iload_n 2, 1) := by decide +kernel
theorem dX7_waitsOf_17 : decode cX7_waitsOf 17 = .ok (.aload_n 0, 1) := by decide +kernel
theorem dX7_waitsOf_18 : decode cX7_waitsOf 18 = .ok (.iload_n 3, 1) := by decide +kernel
theorem dX7_waitsOf_19 : decode cX7_waitsOf 19 = .ok (.iconst 0, 1) := by decide +kernel
theorem dX7_waitsOf_20 : decode cX7_waitsOf 20 = .ok (.invokevirtual 210, 3) := by decide +kernel
theorem dX7_waitsOf_23 : decode cX7_waitsOf 23 = .ok (.iload_n 1, 1) := by decide +kernel
theorem dX7_waitsOf_24 : decode cX7_waitsOf 24 = .ok (.if_icmp .ne 7, 3) := by decide +kernel
theorem dX7_waitsOf_27 : decode cX7_waitsOf 27 = .ok (.iconst 1, 1) := by decide +kernel
theorem dX7_waitsOf_28 : decode cX7_waitsOf 28 = .ok (.goto 4, 3) := by decide +kernel
theorem dX7_waitsOf_31 : decode cX7_waitsOf 31 = .ok (.iconst 0, 1) := by decide +kernel
theorem dX7_waitsOf_32 : decode cX7_waitsOf 32 = .ok (.iadd, 1) := by decide +kernel
theorem dX7_waitsOf_33 : decode cX7_waitsOf 33 = .ok (.istore_n 2, 1) := by decide +kernel
theorem dX7_waitsOf_34 : decode cX7_waitsOf 34 = .ok (.iinc 3 1, 3) := by decide +kernel
theorem dX7_waitsOf_37 : decode cX7_waitsOf 37 = .ok (.goto (-33), 3) := by decide +kernel
theorem dX7_waitsOf_40 : decode cX7_waitsOf 40 = .ok (.iload_n 2, 1) := by decide +kernel
theorem dX7_waitsOf_41 : decode cX7_waitsOf 41 = .ok (.ireturn, 1) := by decide +kernel
theorem dX7_checksState_0 : decode cX7_checksState 0 = .ok (.aload_n 0, 1) := by decide +kernel
theorem dX7_checksState_1 : decode cX7_checksState 1 = .ok (.iload_n 1, 1) := by decide +kernel
theorem dX7_checksState_2 : decode cX7_checksState 2 = .ok (.invokevirtual 173, 3) := by decide +kernel
theorem dX7_checksState_5 : decode cX7_checksState 5 = .ok (.ifCond .ne 5, 3) := by decide +kernel
theorem dX7_checksState_8 : decode cX7_checksState 8 = .ok (.iconst (-1), 1) := by decide +kernel
theorem dX7_checksState_9 : decode cX7_checksState 9 = .ok (.ireturn, 1) := by decide +kernel
theorem dX7_checksState_10 : decode cX7_checksState 10 = .ok (.aload_n 0, 1) := by decide +kernel
theorem dX7_checksState_11 : decode cX7_checksState 11 = .ok (.iload_n 1, 1) := by decide +kernel
theorem dX7_checksState_12 : decode cX7_checksState 12 = .ok (.bipush 10, 2) := by decide +kernel
theorem dX7_checksState_14 : decode cX7_checksState 14 = .ok (.invokevirtual 151, 3) := by decide +kernel
theorem dX7_checksState_17 : decode cX7_checksState 17 = .ok (.iload_n 2, 1) := by decide +kernel
theorem dX7_checksState_18 : decode cX7_checksState 18 = .ok (.if_icmp .ne 7, 3) := by decide +kernel
theorem dX7_checksState_21 : decode cX7_checksState 21 = .ok (.iconst 0, 1) := by decide +kernel
theorem dX7_checksState_22 : decode cX7_checksState 22 = .ok (.goto 5, 3) := by decide +kernel
theorem dX7_checksState_25 : decode cX7_checksState 25 = .ok (.bipush (-5), 2) := by decide +kernel
theorem dX7_checksState_27 : decode cX7_checksState 27 = .ok (.ireturn, 1) := by decide +kernel
theorem dX7_stops_0 : decode cX7_stops 0 = .ok (.aload_n 0, 1) := by decide +kernel
theorem dX7_stops_1 : decode cX7_stops 1 = .ok (.iload_n 1, 1) := by decide +kernel
theorem dX7_stops_2 : decode cX7_stops 2 = .ok (.bipush 10, 2) := by decide +kernel
theorem dX7_stops_4 : decode cX7_stops 4 = .ok (.iconst 1, 1) := by decide +kernel
theorem dX7_stops_5 : decode cX7_stops 5 = .ok (.invokevirtual 169, 3) := by decide +kernel
theorem dX7_stops_8 : decode cX7_stops 8 = .ok (.aload_n 0, 1) := by decide +kernel
theorem dX7_stops_9 : decode cX7_stops 9 = .ok (.iload_n 1, 1) := by decide +kernel
theorem dX7_stops_10 : decode cX7_stops 10 = .ok (.invokevirtual 213, 3) := by decide +kernel
theorem dX7_stops_13 : decode cX7_stops 13 = .ok (.ireturn, 1) := by decide +kernel
theorem dX7_stop_0 : decode cX7_stop 0 = .ok (.aload_n 0, 1) := by decide +kernel
theorem dX7_stop_1 : decode cX7_stop 1 = .ok (.iload_n 1, 1) := by decide +kernel
theorem dX7_stop_2 : decode cX7_stop 2 = .ok (.iconst 0, 1) := by decide +kernel
theorem dX7_stop_3 : decode cX7_stop 3 = .ok (.invokevirtual 216, 3) := by decide +kernel
theorem dX7_stop_6 : decode cX7_stop 6 = .ok (.istore_n 2, 1) := by decide +kernel
theorem dX7_stop_7 : decode cX7_stop 7 = .ok (.iload_n 2, 1) := by decide +kernel
theorem dX7_stop_8 : decode cX7_stop 8 = .ok (.ifCond .eq 5, 3) := by decide +kernel
theorem dX7_stop_11 : decode cX7_stop 11 = .ok (.iload_n 2, 1) := by decide +kernel
theorem dX7_stop_12 : decode cX7_stop 12 = .ok (.ireturn, 1) := by decide +kernel
theorem dX7_stop_13 : decode cX7_stop 13 = .ok (.aload_n 0, 1) := by decide +kernel
theorem dX7_stop_14 : decode cX7_stop 14 = .ok (.invokevirtual 70, 3) := by decide +kernel
theorem dX7_stop_17 : decode cX7_stop 17 = .ok (.aload_n 0, 1) := by decide +kernel
theorem dX7_stop_18 : decode cX7_stop 18 = .ok (.iload_n 1, 1) := by decide +kernel
theorem dX7_stop_19 : decode cX7_stop 19 = .ok (.invokevirtual 219, 3) := by decide +kernel
theorem dX7_stop_22 : decode cX7_stop 22 = .ok (.ireturn, 1) := by decide +kernel
theorem dX7_goesOn_0 : decode cX7_goesOn 0 = .ok (.aload_n 0, 1) := by decide +kernel
theorem dX7_goesOn_1 : decode cX7_goesOn 1 = .ok (.iload_n 1, 1) := by decide +kernel
theorem dX7_goesOn_2 : decode cX7_goesOn 2 = .ok (.bipush 10, 2) := by decide +kernel
theorem dX7_goesOn_4 : decode cX7_goesOn 4 = .ok (.iconst 0, 1) := by decide +kernel
theorem dX7_goesOn_5 : decode cX7_goesOn 5 = .ok (.invokevirtual 169, 3) := by decide +kernel
theorem dX7_goesOn_8 : decode cX7_goesOn 8 = .ok (.aload_n 0, 1) := by decide +kernel
theorem dX7_goesOn_9 : decode cX7_goesOn 9 = .ok (.iload_n 1, 1) := by decide +kernel
theorem dX7_goesOn_10 : decode cX7_goesOn 10 = .ok (.invokevirtual 188, 3) := by decide +kernel
theorem dX7_goesOn_13 : decode cX7_goesOn 13 = .ok (.ireturn, 1) := by decide +kernel
theorem dX7_goOn_0 : decode cX7_goOn 0 = .ok (.aload_n 0, 1) := by decide +kernel
theorem dX7_goOn_1 : decode cX7_goOn 1 = .ok (.iload_n 1, 1) := by decide +kernel
theorem dX7_goOn_2 : decode cX7_goOn 2 = .ok (.iconst 1, 1) := by decide +kernel
theorem dX7_goOn_3 : decode cX7_goOn 3 = .ok (.invokevirtual 216, 3) := by decide +kernel
theorem dX7_goOn_6 : decode cX7_goOn 6 = .ok (.istore_n 2, 1) := by decide +kernel
theorem dX7_goOn_7 : decode cX7_goOn 7 = .ok (.iload_n 2, 1) := by decide +kernel
theorem dX7_goOn_8 : decode cX7_goOn 8 = .ok (.ifCond .eq 5, 3) := by decide +kernel
theorem dX7_goOn_11 : decode cX7_goOn 11 = .ok (.iload_n 2, 1) := by decide +kernel
theorem dX7_goOn_12 : decode cX7_goOn 12 = .ok (.ireturn, 1) := by decide +kernel
theorem dX7_goOn_13 : decode cX7_goOn 13 = .ok (.aload_n 0, 1) := by decide +kernel
theorem dX7_goOn_14 : decode cX7_goOn 14 = .ok (.invokevirtual 70, 3) := by decide +kernel
theorem dX7_goOn_17 : decode cX7_goOn 17 = .ok (.aload_n 0, 1) := by decide +kernel
theorem dX7_goOn_18 : decode cX7_goOn 18 = .ok (.iload_n 1, 1) := by decide +kernel
theorem dX7_goOn_19 : decode cX7_goOn 19 = .ok (.invokevirtual 222, 3) := by decide +kernel
theorem dX7_goOn_22 : decode cX7_goOn 22 = .ok (.ireturn, 1) := by decide +kernel
theorem dX7_removes_0 : decode cX7_removes 0 = .ok (.aload_n 0, 1) := by decide +kernel
theorem dX7_removes_1 : decode cX7_removes 1 = .ok (.getfield 7, 3) := by decide +kernel
theorem dX7_removes_4 : decode cX7_removes 4 = .ok (.iconst 4, 1) := by decide +kernel
theorem dX7_removes_5 : decode cX7_removes 5 = .ok (.dup2, 1) := by decide +kernel
theorem dX7_removes_6 : decode cX7_removes 6 = .ok (.laload, 1) := by decide +kernel
theorem dX7_removes_7 : decode cX7_removes 7 = .ok (.lconst 1, 1) := by decide +kernel
theorem dX7_removes_8 : decode cX7_removes 8 = .ok (.lsub, 1) := by decide +kernel
theorem dX7_removes_9 : decode cX7_removes 9 = .ok (.lastore, 1) := by decide +kernel
theorem dX7_removes_10 : decode cX7_removes 10 = .ok (.iload_n 1, 1) := by decide +kernel
theorem dX7_removes_11 : decode cX7_removes 11 = .ok (.istore_n 2, 1) := by decide +kernel
theorem dX7_removes_12 : decode cX7_removes 12 = .ok (.iload_n 2, 1) := by decide +kernel
theorem dX7_removes_13 : decode cX7_removes 13 = .ok (.i2l, 1) := by decide +kernel
theorem dX7_removes_14 : decode cX7_removes 14 = .ok (.aload_n 0, 1) := by decide +kernel
theorem dX7_removes_15 : decode cX7_removes 15 = .ok (.getfield 7, 3) := by decide +kernel
theorem dX7_removes_18 : decode cX7_removes 18 = .ok (.iconst 4, 1) := by decide +kernel
theorem dX7_removes_19 : decode cX7_removes 19 = .ok (.laload, 1) := by decide +kernel
theorem dX7_removes_20 : decode cX7_removes 20 = .ok (.lcmp, 1) := by decide +kernel
theorem dX7_removes_21 : decode cX7_removes 21 = .ok (.ifCond .ge 23, 3) := by decide +kernel
theorem dX7_removes_24 : decode cX7_removes 24 = .ok (.aload_n 0, 1) := by decide +kernel
theorem dX7_removes_25 : decode cX7_removes 25 = .ok (.getfield 17, 3) := by decide +kernel
theorem dX7_removes_28 : decode cX7_removes 28 = .ok (.iload_n 2, 1) := by decide +kernel
theorem dX7_removes_29 : decode cX7_removes 29 = .ok (.aload_n 0, 1) := by decide +kernel
theorem dX7_removes_30 : decode cX7_removes 30 = .ok (.getfield 17, 3) := by decide +kernel
theorem dX7_removes_33 : decode cX7_removes 33 = .ok (.iload_n 2, 1) := by decide +kernel
theorem dX7_removes_34 : decode cX7_removes 34 = .ok (.iconst 1, 1) := by decide +kernel
theorem dX7_removes_35 : decode cX7_removes 35 = .ok (.iadd, 1) := by decide +kernel
theorem dX7_removes_36 : decode cX7_removes 36 = .ok (.laload, 1) := by decide +kernel
theorem dX7_removes_37 : decode cX7_removes 37 = .ok (.lastore, 1) := by decide +kernel
theorem dX7_removes_38 : decode cX7_removes 38 = .ok (.iinc 2 1, 3) := by decide +kernel
theorem dX7_removes_41 : decode cX7_removes 41 = .ok (.goto (-29), 3) := by decide +kernel
theorem dX7_removes_44 : decode cX7_removes 44 = .ok (.return_, 1) := by decide +kernel
theorem dX7_misses_0 : decode cX7_misses 0 = .ok (.aload_n 0, 1) := by decide +kernel
theorem dX7_misses_1 : decode cX7_misses 1 = .ok (.getfield 7, 3) := by decide +kernel
theorem dX7_misses_4 : decode cX7_misses 4 = .ok (.bipush 121, 2) := by decide +kernel
theorem dX7_misses_6 : decode cX7_misses 6 = .ok (.bipush 16, 2) := by decide +kernel
theorem dX7_misses_8 : decode cX7_misses 8 = .ok (.aload_n 0, 1) := by decide +kernel
theorem dX7_misses_9 : decode cX7_misses 9 = .ok (.iload_n 1, 1) := by decide +kernel
theorem dX7_misses_10 : decode cX7_misses 10 = .ok (.iconst 0, 1) := by decide +kernel
theorem dX7_misses_11 : decode cX7_misses 11 = .ok (.invokevirtual 210, 3) := by decide +kernel
theorem dX7_misses_14 : decode cX7_misses 14 = .ok (.imul, 1) := by decide +kernel
theorem dX7_misses_15 : decode cX7_misses 15 = .ok (.iadd, 1) := by decide +kernel
theorem dX7_misses_16 : decode cX7_misses 16 = .ok (.bipush 12, 2) := by decide +kernel
theorem dX7_misses_18 : decode cX7_misses 18 = .ok (.iadd, 1) := by decide +kernel
theorem dX7_misses_19 : decode cX7_misses 19 = .ok (.dup2, 1) := by decide +kernel
theorem dX7_misses_20 : decode cX7_misses 20 = .ok (.laload, 1) := by decide +kernel
theorem dX7_misses_21 : decode cX7_misses 21 = .ok (.lconst 1, 1) := by decide +kernel
theorem dX7_misses_22 : decode cX7_misses 22 = .ok (.ladd, 1) := by decide +kernel
theorem dX7_misses_23 : decode cX7_misses 23 = .ok (.lastore, 1) := by decide +kernel
theorem dX7_misses_24 : decode cX7_misses 24 = .ok (.aload_n 0, 1) := by decide +kernel
theorem dX7_misses_25 : decode cX7_misses 25 = .ok (.getfield 7, 3) := by decide +kernel
theorem dX7_misses_28 : decode cX7_misses 28 = .ok (.bipush 6, 2) := by decide +kernel
theorem dX7_misses_30 : decode cX7_misses 30 = .ok (.dup2, 1) := by decide +kernel
theorem dX7_misses_31 : decode cX7_misses 31 = .ok (.laload, 1) := by decide +kernel
theorem dX7_misses_32 : decode cX7_misses 32 = .ok (.lconst 1, 1) := by decide +kernel
theorem dX7_misses_33 : decode cX7_misses 33 = .ok (.ladd, 1) := by decide +kernel
theorem dX7_misses_34 : decode cX7_misses 34 = .ok (.lastore, 1) := by decide +kernel
theorem dX7_misses_35 : decode cX7_misses 35 = .ok (.aload_n 0, 1) := by decide +kernel
theorem dX7_misses_36 : decode cX7_misses 36 = .ok (.iload_n 1, 1) := by decide +kernel
theorem dX7_misses_37 : decode cX7_misses 37 = .ok (.invokevirtual 225, 3) := by decide +kernel
theorem dX7_misses_40 : decode cX7_misses 40 = .ok (.return_, 1) := by decide +kernel
theorem dX7_giveUp_0 : decode cX7_giveUp 0 = .ok (.iload_n 1, 1) := by decide +kernel
theorem dX7_giveUp_1 : decode cX7_giveUp 1 = .ok (.i2l, 1) := by decide +kernel
theorem dX7_giveUp_2 : decode cX7_giveUp 2 = .ok (.lconst 0, 1) := by decide +kernel
theorem dX7_giveUp_3 : decode cX7_giveUp 3 = .ok (.aload_n 0, 1) := by decide +kernel
theorem dX7_giveUp_4 : decode cX7_giveUp 4 = .ok (.getfield 7, 3) := by decide +kernel
theorem dX7_giveUp_7 : decode cX7_giveUp 7 = .ok (.iconst 4, 1) := by decide +kernel
theorem dX7_giveUp_8 : decode cX7_giveUp 8 = .ok (.laload, 1) := by decide +kernel
theorem dX7_giveUp_9 : decode cX7_giveUp 9 = .ok (.lconst 1, 1) := by decide +kernel
theorem dX7_giveUp_10 : decode cX7_giveUp 10 = .ok (.lsub, 1) := by decide +kernel
theorem dX7_giveUp_11 : decode cX7_giveUp 11 = .ok (.invokestatic 47, 3) := by decide +kernel
theorem dX7_giveUp_14 : decode cX7_giveUp 14 = .ok (.ifCond .ne 5, 3) := by decide +kernel
theorem dX7_giveUp_17 : decode cX7_giveUp 17 = .ok (.iconst (-1), 1) := by decide +kernel
theorem dX7_giveUp_18 : decode cX7_giveUp 18 = .ok (.ireturn, 1) := by decide +kernel
theorem dX7_giveUp_19 : decode cX7_giveUp 19 = .ok (.aload_n 0, 1) := by decide +kernel
theorem dX7_giveUp_20 : decode cX7_giveUp 20 = .ok (.invokevirtual 70, 3) := by decide +kernel
theorem dX7_giveUp_23 : decode cX7_giveUp 23 = .ok (.aload_n 0, 1) := by decide +kernel
theorem dX7_giveUp_24 : decode cX7_giveUp 24 = .ok (.iload_n 1, 1) := by decide +kernel
theorem dX7_giveUp_25 : decode cX7_giveUp 25 = .ok (.invokevirtual 228, 3) := by decide +kernel
theorem dX7_giveUp_28 : decode cX7_giveUp 28 = .ok (.aload_n 0, 1) := by decide +kernel
theorem dX7_giveUp_29 : decode cX7_giveUp 29 = .ok (.iconst 4, 1) := by decide +kernel
theorem dX7_giveUp_30 : decode cX7_giveUp 30 = .ok (.invokevirtual 43, 3) := by decide +kernel
theorem dX7_giveUp_33 : decode cX7_giveUp 33 = .ok (.ireturn, 1) := by decide +kernel
theorem dX7_comesDue_0 : decode cX7_comesDue 0 = .ok (.aload_n 0, 1) := by decide +kernel
theorem dX7_comesDue_1 : decode cX7_comesDue 1 = .ok (.iload_n 1, 1) := by decide +kernel
theorem dX7_comesDue_2 : decode cX7_comesDue 2 = .ok (.aload_n 0, 1) := by decide +kernel
theorem dX7_comesDue_3 : decode cX7_comesDue 3 = .ok (.iload_n 1, 1) := by decide +kernel
theorem dX7_comesDue_4 : decode cX7_comesDue 4 = .ok (.bipush 14, 2) := by decide +kernel
theorem dX7_comesDue_6 : decode cX7_comesDue 6 = .ok (.invokevirtual 151, 3) := by decide +kernel
theorem dX7_comesDue_9 : decode cX7_comesDue 9 = .ok (.invokevirtual 163, 3) := by decide +kernel
theorem dX7_comesDue_12 : decode cX7_comesDue 12 = .ok (.istore_n 2, 1) := by decide +kernel
theorem dX7_comesDue_13 : decode cX7_comesDue 13 = .ok (.iload_n 2, 1) := by decide +kernel
theorem dX7_comesDue_14 : decode cX7_comesDue 14 = .ok (.bipush (-6), 2) := by decide +kernel
theorem dX7_comesDue_16 : decode cX7_comesDue 16 = .ok (.if_icmp .eq 191, 3) := by decide +kernel
theorem dX7_comesDue_19 : decode cX7_comesDue 19 = .ok (.aload_n 0, 1) := by decide +kernel
theorem dX7_comesDue_20 : decode cX7_comesDue 20 = .ok (.iload_n 1, 1) := by decide +kernel
theorem dX7_comesDue_21 : decode cX7_comesDue 21 = .ok (.invokevirtual 231, 3) := by decide +kernel
theorem dX7_comesDue_24 : decode cX7_comesDue 24 = .ok (.ifCond .eq 183, 3) := by decide +kernel
theorem dX7_comesDue_27 : decode cX7_comesDue 27 = .ok (.aload_n 0, 1) := by decide +kernel
theorem dX7_comesDue_28 : decode cX7_comesDue 28 = .ok (.iload_n 1, 1) := by decide +kernel
theorem dX7_comesDue_29 : decode cX7_comesDue 29 = .ok (.iload_n 2, 1) := by decide +kernel
theorem dX7_comesDue_30 : decode cX7_comesDue 30 = .ok (.invokevirtual 166, 3) := by decide +kernel
theorem dX7_comesDue_33 : decode cX7_comesDue 33 = .ok (.aload_n 0, 1) := by decide +kernel
theorem dX7_comesDue_34 : decode cX7_comesDue 34 = .ok (.invokevirtual 66, 3) := by decide +kernel
theorem dX7_comesDue_37 : decode cX7_comesDue 37 = .ok (.if_icmp .gt 170, 3) := by decide +kernel
theorem dX7_comesDue_40 : decode cX7_comesDue 40 = .ok (.aload_n 0, 1) := by decide +kernel
theorem dX7_comesDue_41 : decode cX7_comesDue 41 = .ok (.iload_n 1, 1) := by decide +kernel
theorem dX7_comesDue_42 : decode cX7_comesDue 42 = .ok (.iload_n 2, 1) := by decide +kernel
theorem dX7_comesDue_43 : decode cX7_comesDue 43 = .ok (.invokevirtual 160, 3) := by decide +kernel
theorem dX7_comesDue_46 : decode cX7_comesDue 46 = .ok (.istore_n 3, 1) := by decide +kernel
theorem dX7_comesDue_47 : decode cX7_comesDue 47 = .ok (.aload_n 0, 1) := by decide +kernel
theorem dX7_comesDue_48 : decode cX7_comesDue 48 = .ok (.iload_n 1, 1) := by decide +kernel
theorem dX7_comesDue_49 : decode cX7_comesDue 49 = .ok (.bipush 7, 2) := by decide +kernel
theorem dX7_comesDue_51 : decode cX7_comesDue 51 = .ok (.invokevirtual 151, 3) := by decide +kernel
theorem dX7_comesDue_54 : decode cX7_comesDue 54 = .ok (.iconst 4, 1) := by decide +kernel
theorem dX7_comesDue_55 : decode cX7_comesDue 55 = .ok (.if_icmp .ne 44, 3) := by decide +kernel
theorem dX7_comesDue_58 : decode cX7_comesDue 58 = .ok (.aload_n 0, 1) := by decide +kernel
theorem dX7_comesDue_59 : decode cX7_comesDue 59 = .ok (.iload_n 3, 1) := by decide +kernel
theorem dX7_comesDue_60 : decode cX7_comesDue 60 = .ok (.invokevirtual 88, 3) := by decide +kernel
theorem dX7_comesDue_63 : decode cX7_comesDue 63 = .ok (.ifCond .ne 36, 3) := by decide +kernel
theorem dX7_comesDue_66 : decode cX7_comesDue 66 = .ok (.aload_n 0, 1) := by decide +kernel
theorem dX7_comesDue_67 : decode cX7_comesDue 67 = .ok (.getfield 7, 3) := by decide +kernel
theorem dX7_comesDue_70 : decode cX7_comesDue 70 = .ok (.bipush 121, 2) := by decide +kernel
theorem dX7_comesDue_72 : decode cX7_comesDue 72 = .ok (.bipush 16, 2) := by decide +kernel
theorem dX7_comesDue_74 : decode cX7_comesDue 74 = .ok (.iload_n 1, 1) := by decide +kernel
theorem dX7_comesDue_75 : decode cX7_comesDue 75 = .ok (.imul, 1) := by decide +kernel
theorem dX7_comesDue_76 : decode cX7_comesDue 76 = .ok (.iadd, 1) := by decide +kernel
theorem dX7_comesDue_77 : decode cX7_comesDue 77 = .ok (.bipush 13, 2) := by decide +kernel
theorem dX7_comesDue_79 : decode cX7_comesDue 79 = .ok (.iadd, 1) := by decide +kernel
theorem dX7_comesDue_80 : decode cX7_comesDue 80 = .ok (.dup2, 1) := by decide +kernel
theorem dX7_comesDue_81 : decode cX7_comesDue 81 = .ok (.laload, 1) := by decide +kernel
theorem dX7_comesDue_82 : decode cX7_comesDue 82 = .ok (.lconst 1, 1) := by decide +kernel
theorem dX7_comesDue_83 : decode cX7_comesDue 83 = .ok (.ladd, 1) := by decide +kernel
theorem dX7_comesDue_84 : decode cX7_comesDue 84 = .ok (.lastore, 1) := by decide +kernel
theorem dX7_comesDue_85 : decode cX7_comesDue 85 = .ok (.aload_n 0, 1) := by decide +kernel
theorem dX7_comesDue_86 : decode cX7_comesDue 86 = .ok (.getfield 7, 3) := by decide +kernel
theorem dX7_comesDue_89 : decode cX7_comesDue 89 = .ok (.bipush 7, 2) := by decide +kernel
theorem dX7_comesDue_91 : decode cX7_comesDue 91 = .ok (.dup2, 1) := by decide +kernel
theorem dX7_comesDue_92 : decode cX7_comesDue 92 = .ok (.laload, 1) := by decide +kernel
theorem dX7_comesDue_93 : decode cX7_comesDue 93 = .ok (.lconst 1, 1) := by decide +kernel
theorem dX7_comesDue_94 : decode cX7_comesDue 94 = .ok (.ladd, 1) := by decide +kernel
theorem dX7_comesDue_95 : decode cX7_comesDue 95 = .ok (.lastore, 1) := by decide +kernel
theorem dX7_comesDue_96 : decode cX7_comesDue 96 = .ok (.goto 58, 3) := by decide +kernel
theorem dX7_comesDue_99 : decode cX7_comesDue 99 = .ok (.iload_n 3, 1) := by decide +kernel
theorem dX7_comesDue_100 : decode cX7_comesDue 100 = .ok (.i2l, 1) := by decide +kernel
theorem dX7_comesDue_101 : decode cX7_comesDue 101 = .ok (.ldc2_w 202, 3) := by decide +kernel
theorem dX7_comesDue_104 : decode cX7_comesDue 104 = .ok (.aload_n 0, 1) := by decide +kernel
theorem dX7_comesDue_105 : decode cX7_comesDue 105 = .ok (.invokevirtual 66, 3) := by decide +kernel
theorem dX7_comesDue_108 : decode cX7_comesDue 108 = .ok (.i2l, 1) := by decide +kernel
theorem dX7_comesDue_109 : decode cX7_comesDue 109 = .ok (.lmul, 1) := by decide +kernel
theorem dX7_comesDue_110 : decode cX7_comesDue 110 = .ok (.ladd, 1) := by decide +kernel
theorem dX7_comesDue_111 : decode cX7_comesDue 111 = .ok (.lstore 4, 2) := by decide +kernel
theorem dX7_comesDue_113 : decode cX7_comesDue 113 = .ok (.aload_n 0, 1) := by decide +kernel
theorem dX7_comesDue_114 : decode cX7_comesDue 114 = .ok (.getfield 17, 3) := by decide +kernel
theorem dX7_comesDue_117 : decode cX7_comesDue 117 = .ok (.aload_n 0, 1) := by decide +kernel
theorem dX7_comesDue_118 : decode cX7_comesDue 118 = .ok (.iconst 4, 1) := by decide +kernel
theorem dX7_comesDue_119 : decode cX7_comesDue 119 = .ok (.invokevirtual 43, 3) := by decide +kernel
theorem dX7_comesDue_122 : decode cX7_comesDue 122 = .ok (.iload_n 1, 1) := by decide +kernel
theorem dX7_comesDue_123 : decode cX7_comesDue 123 = .ok (.i2l, 1) := by decide +kernel
theorem dX7_comesDue_124 : decode cX7_comesDue 124 = .ok (.ldc2_w 186, 3) := by decide +kernel
theorem dX7_comesDue_127 : decode cX7_comesDue 127 = .ok (.aload_n 0, 1) := by decide +kernel
theorem dX7_comesDue_128 : decode cX7_comesDue 128 = .ok (.iload_n 1, 1) := by decide +kernel
theorem dX7_comesDue_129 : decode cX7_comesDue 129 = .ok (.iconst 2, 1) := by decide +kernel
theorem dX7_comesDue_130 : decode cX7_comesDue 130 = .ok (.invokevirtual 151, 3) := by decide +kernel
theorem dX7_comesDue_133 : decode cX7_comesDue 133 = .ok (.i2l, 1) := by decide +kernel
theorem dX7_comesDue_134 : decode cX7_comesDue 134 = .ok (.ldc2_w 198, 3) := by decide +kernel
theorem dX7_comesDue_137 : decode cX7_comesDue 137 = .ok (.lload 4, 2) := by decide +kernel
theorem dX7_comesDue_139 : decode cX7_comesDue 139 = .ok (.lmul, 1) := by decide +kernel
theorem dX7_comesDue_140 : decode cX7_comesDue 140 = .ok (.ladd, 1) := by decide +kernel
theorem dX7_comesDue_141 : decode cX7_comesDue 141 = .ok (.lmul, 1) := by decide +kernel
theorem dX7_comesDue_142 : decode cX7_comesDue 142 = .ok (.ladd, 1) := by decide +kernel
theorem dX7_comesDue_143 : decode cX7_comesDue 143 = .ok (.lastore, 1) := by decide +kernel
theorem dX7_comesDue_144 : decode cX7_comesDue 144 = .ok (.aload_n 0, 1) := by decide +kernel
theorem dX7_comesDue_145 : decode cX7_comesDue 145 = .ok (.getfield 7, 3) := by decide +kernel
theorem dX7_comesDue_148 : decode cX7_comesDue 148 = .ok (.iconst 4, 1) := by decide +kernel
theorem dX7_comesDue_149 : decode cX7_comesDue 149 = .ok (.dup2, 1) := by decide +kernel
theorem dX7_comesDue_150 : decode cX7_comesDue 150 = .ok (.laload, 1) := by decide +kernel
theorem dX7_comesDue_151 : decode cX7_comesDue 151 = .ok (.lconst 1, 1) := by decide +kernel
theorem dX7_comesDue_152 : decode cX7_comesDue 152 = .ok (.ladd, 1) := by decide +kernel
theorem dX7_comesDue_153 : decode cX7_comesDue 153 = .ok (.lastore, 1) := by decide +kernel
theorem dX7_comesDue_154 : decode cX7_comesDue 154 = .ok (.aload_n 0, 1) := by decide +kernel
theorem dX7_comesDue_155 : decode cX7_comesDue 155 = .ok (.iload_n 1, 1) := by decide +kernel
theorem dX7_comesDue_156 : decode cX7_comesDue 156 = .ok (.bipush 9, 2) := by decide +kernel
theorem dX7_comesDue_158 : decode cX7_comesDue 158 = .ok (.aload_n 0, 1) := by decide +kernel
theorem dX7_comesDue_159 : decode cX7_comesDue 159 = .ok (.iload_n 1, 1) := by decide +kernel
theorem dX7_comesDue_160 : decode cX7_comesDue 160 = .ok (.bipush 15, 2) := by decide +kernel
theorem dX7_comesDue_162 : decode cX7_comesDue 162 = .ok (.invokevirtual 151, 3) := by decide +kernel
theorem dX7_comesDue_165 : decode cX7_comesDue 165 = .ok (.iconst 1, 1) := by decide +kernel
theorem dX7_comesDue_166 : decode cX7_comesDue 166 = .ok (.if_icmp .ne 7, 3) := by decide +kernel
theorem dX7_comesDue_169 : decode cX7_comesDue 169 = .ok (.iconst 0, 1) := by decide +kernel
theorem dX7_comesDue_170 : decode cX7_comesDue 170 = .ok (.goto 12, 3) := by decide +kernel
theorem dX7_comesDue_173 : decode cX7_comesDue 173 = .ok (.aload_n 0, 1) := by decide +kernel
theorem dX7_comesDue_174 : decode cX7_comesDue 174 = .ok (.iload_n 1, 1) := by decide +kernel
theorem dX7_comesDue_175 : decode cX7_comesDue 175 = .ok (.bipush 9, 2) := by decide +kernel
theorem dX7_comesDue_177 : decode cX7_comesDue 177 = .ok (.invokevirtual 151, 3) := by decide +kernel
theorem dX7_comesDue_180 : decode cX7_comesDue 180 = .ok (.iconst 1, 1) := by decide +kernel
theorem dX7_comesDue_181 : decode cX7_comesDue 181 = .ok (.isub, 1) := by decide +kernel
theorem dX7_comesDue_182 : decode cX7_comesDue 182 = .ok (.invokevirtual 169, 3) := by decide +kernel
theorem dX7_comesDue_185 : decode cX7_comesDue 185 = .ok (.aload_n 0, 1) := by decide +kernel
theorem dX7_comesDue_186 : decode cX7_comesDue 186 = .ok (.iload_n 1, 1) := by decide +kernel
theorem dX7_comesDue_187 : decode cX7_comesDue 187 = .ok (.bipush 14, 2) := by decide +kernel
theorem dX7_comesDue_189 : decode cX7_comesDue 189 = .ok (.iload_n 2, 1) := by decide +kernel
theorem dX7_comesDue_190 : decode cX7_comesDue 190 = .ok (.iconst 1, 1) := by decide +kernel
theorem dX7_comesDue_191 : decode cX7_comesDue 191 = .ok (.iadd, 1) := by decide +kernel
theorem dX7_comesDue_192 : decode cX7_comesDue 192 = .ok (.invokevirtual 169, 3) := by decide +kernel
theorem dX7_comesDue_195 : decode cX7_comesDue 195 = .ok (.aload_n 0, 1) := by decide +kernel
theorem dX7_comesDue_196 : decode cX7_comesDue 196 = .ok (.iload_n 1, 1) := by decide +kernel
theorem dX7_comesDue_197 : decode cX7_comesDue 197 = .ok (.iload_n 2, 1) := by decide +kernel
theorem dX7_comesDue_198 : decode cX7_comesDue 198 = .ok (.iconst 1, 1) := by decide +kernel
theorem dX7_comesDue_199 : decode cX7_comesDue 199 = .ok (.iadd, 1) := by decide +kernel
theorem dX7_comesDue_200 : decode cX7_comesDue 200 = .ok (.invokevirtual 163, 3) := by decide +kernel
theorem dX7_comesDue_203 : decode cX7_comesDue 203 = .ok (.istore_n 2, 1) := by decide +kernel
theorem dX7_comesDue_204 : decode cX7_comesDue 204 = .ok (.goto (-191), 3) := by decide +kernel
theorem dX7_comesDue_207 : decode cX7_comesDue 207 = .ok (.iload_n 2, 1) := by decide +kernel
theorem dX7_comesDue_208 : decode cX7_comesDue 208 = .ok (.bipush (-6), 2) := by decide +kernel
theorem dX7_comesDue_210 : decode cX7_comesDue 210 = .ok (.if_icmp .eq 11, 3) := by decide +kernel
theorem dX7_comesDue_213 : decode cX7_comesDue 213 = .ok (.aload_n 0, 1) := by decide +kernel
theorem dX7_comesDue_214 : decode cX7_comesDue 214 = .ok (.iload_n 1, 1) := by decide +kernel
theorem dX7_comesDue_215 : decode cX7_comesDue 215 = .ok (.invokevirtual 231, 3) := by decide +kernel
theorem dX7_comesDue_218 : decode cX7_comesDue 218 = .ok (.ifCond .ne 19, 3) := by decide +kernel
theorem dX7_comesDue_221 : decode cX7_comesDue 221 = .ok (.aload_n 0, 1) := by decide +kernel
theorem dX7_comesDue_222 : decode cX7_comesDue 222 = .ok (.iload_n 1, 1) := by decide +kernel
theorem dX7_comesDue_223 : decode cX7_comesDue 223 = .ok (.bipush 10, 2) := by decide +kernel
theorem dX7_comesDue_225 : decode cX7_comesDue 225 = .ok (.iconst 2, 1) := by decide +kernel
theorem dX7_comesDue_226 : decode cX7_comesDue 226 = .ok (.invokevirtual 169, 3) := by decide +kernel
theorem dX7_comesDue_229 : decode cX7_comesDue 229 = .ok (.aload_n 0, 1) := by decide +kernel
theorem dX7_comesDue_230 : decode cX7_comesDue 230 = .ok (.iload_n 1, 1) := by decide +kernel
theorem dX7_comesDue_231 : decode cX7_comesDue 231 = .ok (.bipush 9, 2) := by decide +kernel
theorem dX7_comesDue_233 : decode cX7_comesDue 233 = .ok (.iconst 0, 1) := by decide +kernel
theorem dX7_comesDue_234 : decode cX7_comesDue 234 = .ok (.invokevirtual 169, 3) := by decide +kernel
theorem dX7_comesDue_237 : decode cX7_comesDue 237 = .ok (.return_, 1) := by decide +kernel
theorem dX7_waitsFor_0 : decode cX7_waitsFor 0 = .ok (.lconst 0, 1) := by decide +kernel
theorem dX7_waitsFor_1 : decode cX7_waitsFor 1 = .ok (.lstore_n 2, 1) := by decide +kernel
theorem dX7_waitsFor_2 : decode cX7_waitsFor 2 = .ok (.iconst 0, 1) := by decide +kernel
theorem dX7_waitsFor_3 : decode cX7_waitsFor 3 = .ok (.istore 4, 2) := by decide +kernel
theorem dX7_waitsFor_5 : decode cX7_waitsFor 5 = .ok (.iload 4, 2) := by decide +kernel
theorem dX7_waitsFor_7 : decode cX7_waitsFor 7 = .ok (.i2l, 1) := by decide +kernel
theorem dX7_waitsFor_8 : decode cX7_waitsFor 8 = .ok (.aload_n 0, 1) := by decide +kernel
theorem dX7_waitsFor_9 : decode cX7_waitsFor 9 = .ok (.getfield 7, 3) := by decide +kernel
theorem dX7_waitsFor_12 : decode cX7_waitsFor 12 = .ok (.iconst 4, 1) := by decide +kernel
theorem dX7_waitsFor_13 : decode cX7_waitsFor 13 = .ok (.laload, 1) := by decide +kernel
theorem dX7_waitsFor_14 : decode cX7_waitsFor 14 = .ok (.lcmp, 1) := by decide +kernel
theorem dX7_waitsFor_15 : decode cX7_waitsFor 15 = .ok (.ifCond .ge 40, 3) := by decide +kernel
theorem dX7_waitsFor_18 : decode cX7_waitsFor 18 = .ok (.lload_n 2, 1) := by decide +kernel
theorem dX7_waitsFor_19 : decode cX7_waitsFor 19 = .ok (.aload_n 0, 1) := by decide +kernel
theorem dX7_waitsFor_20 : decode cX7_waitsFor 20 = .ok (.aload_n 0, 1) := by decide +kernel
theorem dX7_waitsFor_21 : decode cX7_waitsFor 21 = .ok (.iload 4, 2) := by decide +kernel
theorem dX7_waitsFor_23 : decode cX7_waitsFor 23 = .ok (.iconst 0, 1) := by decide +kernel
theorem dX7_waitsFor_24 : decode cX7_waitsFor 24 = .ok (.invokevirtual 210, 3) := by decide +kernel
theorem dX7_waitsFor_27 : decode cX7_waitsFor 27 = .ok (.iconst 0, 1) := by decide +kernel
theorem dX7_waitsFor_28 : decode cX7_waitsFor 28 = .ok (.invokevirtual 151, 3) := by decide +kernel
theorem dX7_waitsFor_31 : decode cX7_waitsFor 31 = .ok (.iload_n 1, 1) := by decide +kernel
theorem dX7_waitsFor_32 : decode cX7_waitsFor 32 = .ok (.if_icmp .ne 14, 3) := by decide +kernel
theorem dX7_waitsFor_35 : decode cX7_waitsFor 35 = .ok (.aload_n 0, 1) := by decide +kernel
theorem dX7_waitsFor_36 : decode cX7_waitsFor 36 = .ok (.iload 4, 2) := by decide +kernel
theorem dX7_waitsFor_38 : decode cX7_waitsFor 38 = .ok (.iconst 1, 1) := by decide +kernel
theorem dX7_waitsFor_39 : decode cX7_waitsFor 39 = .ok (.invokevirtual 210, 3) := by decide +kernel
theorem dX7_waitsFor_42 : decode cX7_waitsFor 42 = .ok (.i2l, 1) := by decide +kernel
theorem dX7_waitsFor_43 : decode cX7_waitsFor 43 = .ok (.goto 4, 3) := by decide +kernel
theorem dX7_waitsFor_46 : decode cX7_waitsFor 46 = .ok (.lconst 0, 1) := by decide +kernel
theorem dX7_waitsFor_47 : decode cX7_waitsFor 47 = .ok (.ladd, 1) := by decide +kernel
theorem dX7_waitsFor_48 : decode cX7_waitsFor 48 = .ok (.lstore_n 2, 1) := by decide +kernel
theorem dX7_waitsFor_49 : decode cX7_waitsFor 49 = .ok (.iinc 4 1, 3) := by decide +kernel
theorem dX7_waitsFor_52 : decode cX7_waitsFor 52 = .ok (.goto (-47), 3) := by decide +kernel
theorem dX7_waitsFor_55 : decode cX7_waitsFor 55 = .ok (.lload_n 2, 1) := by decide +kernel
theorem dX7_waitsFor_56 : decode cX7_waitsFor 56 = .ok (.lreturn, 1) := by decide +kernel
theorem dX7_sweeps_0 : decode cX7_sweeps 0 = .ok (.aload_n 0, 1) := by decide +kernel
theorem dX7_sweeps_1 : decode cX7_sweeps 1 = .ok (.iload_n 1, 1) := by decide +kernel
theorem dX7_sweeps_2 : decode cX7_sweeps 2 = .ok (.iconst 2, 1) := by decide +kernel
theorem dX7_sweeps_3 : decode cX7_sweeps 3 = .ok (.invokevirtual 132, 3) := by decide +kernel
theorem dX7_sweeps_6 : decode cX7_sweeps 6 = .ok (.istore_n 2, 1) := by decide +kernel
theorem dX7_sweeps_7 : decode cX7_sweeps 7 = .ok (.iload_n 2, 1) := by decide +kernel
theorem dX7_sweeps_8 : decode cX7_sweeps 8 = .ok (.bipush (-6), 2) := by decide +kernel
theorem dX7_sweeps_10 : decode cX7_sweeps 10 = .ok (.if_icmp .ne 4, 3) := by decide +kernel
theorem dX7_sweeps_13 : decode cX7_sweeps 13 = .ok (.return_, 1) := by decide +kernel
theorem dX7_sweeps_14 : decode cX7_sweeps 14 = .ok (.aload_n 0, 1) := by decide +kernel
theorem dX7_sweeps_15 : decode cX7_sweeps 15 = .ok (.iload_n 1, 1) := by decide +kernel
theorem dX7_sweeps_16 : decode cX7_sweeps 16 = .ok (.invokevirtual 234, 3) := by decide +kernel
theorem dX7_sweeps_19 : decode cX7_sweeps 19 = .ok (.aload_n 0, 1) := by decide +kernel
theorem dX7_sweeps_20 : decode cX7_sweeps 20 = .ok (.iload_n 1, 1) := by decide +kernel
theorem dX7_sweeps_21 : decode cX7_sweeps 21 = .ok (.iconst 0, 1) := by decide +kernel
theorem dX7_sweeps_22 : decode cX7_sweeps 22 = .ok (.invokevirtual 141, 3) := by decide +kernel
theorem dX7_sweeps_25 : decode cX7_sweeps 25 = .ok (.lsub, 1) := by decide +kernel
theorem dX7_sweeps_26 : decode cX7_sweeps 26 = .ok (.aload_n 0, 1) := by decide +kernel
theorem dX7_sweeps_27 : decode cX7_sweeps 27 = .ok (.iload_n 1, 1) := by decide +kernel
theorem dX7_sweeps_28 : decode cX7_sweeps 28 = .ok (.iconst 0, 1) := by decide +kernel
theorem dX7_sweeps_29 : decode cX7_sweeps 29 = .ok (.invokevirtual 132, 3) := by decide +kernel
theorem dX7_sweeps_32 : decode cX7_sweeps 32 = .ok (.i2l, 1) := by decide +kernel
theorem dX7_sweeps_33 : decode cX7_sweeps 33 = .ok (.lsub, 1) := by decide +kernel
theorem dX7_sweeps_34 : decode cX7_sweeps 34 = .ok (.lstore_n 3, 1) := by decide +kernel
theorem dX7_sweeps_35 : decode cX7_sweeps 35 = .ok (.aload_n 0, 1) := by decide +kernel
theorem dX7_sweeps_36 : decode cX7_sweeps 36 = .ok (.iload_n 2, 1) := by decide +kernel
theorem dX7_sweeps_37 : decode cX7_sweeps 37 = .ok (.iconst 0, 1) := by decide +kernel
theorem dX7_sweeps_38 : decode cX7_sweeps 38 = .ok (.invokevirtual 141, 3) := by decide +kernel
theorem dX7_sweeps_41 : decode cX7_sweeps 41 = .ok (.aload_n 0, 1) := by decide +kernel
theorem dX7_sweeps_42 : decode cX7_sweeps 42 = .ok (.iload_n 2, 1) := by decide +kernel
theorem dX7_sweeps_43 : decode cX7_sweeps 43 = .ok (.iconst 1, 1) := by decide +kernel
theorem dX7_sweeps_44 : decode cX7_sweeps 44 = .ok (.invokevirtual 132, 3) := by decide +kernel
theorem dX7_sweeps_47 : decode cX7_sweeps 47 = .ok (.i2l, 1) := by decide +kernel
theorem dX7_sweeps_48 : decode cX7_sweeps 48 = .ok (.lsub, 1) := by decide +kernel
theorem dX7_sweeps_49 : decode cX7_sweeps 49 = .ok (.lstore 5, 2) := by decide +kernel
theorem dX7_sweeps_51 : decode cX7_sweeps 51 = .ok (.lload_n 3, 1) := by decide +kernel
theorem dX7_sweeps_52 : decode cX7_sweeps 52 = .ok (.lload 5, 2) := by decide +kernel
theorem dX7_sweeps_54 : decode cX7_sweeps 54 = .ok (.lcmp, 1) := by decide +kernel
theorem dX7_sweeps_55 : decode cX7_sweeps 55 = .ok (.ifCond .ge 7, 3) := by decide +kernel
theorem dX7_sweeps_58 : decode cX7_sweeps 58 = .ok (.lload_n 3, 1) := by decide +kernel
theorem dX7_sweeps_59 : decode cX7_sweeps 59 = .ok (.goto 5, 3) := by decide +kernel
theorem dX7_sweeps_62 : decode cX7_sweeps 62 = .ok (.lload 5, 2) := by decide +kernel
theorem dX7_sweeps_64 : decode cX7_sweeps 64 = .ok (.lstore 7, 2) := by decide +kernel
theorem dX7_sweeps_66 : decode cX7_sweeps 66 = .ok (.lload 7, 2) := by decide +kernel
theorem dX7_sweeps_68 : decode cX7_sweeps 68 = .ok (.lconst 0, 1) := by decide +kernel
theorem dX7_sweeps_69 : decode cX7_sweeps 69 = .ok (.lcmp, 1) := by decide +kernel
theorem dX7_sweeps_70 : decode cX7_sweeps 70 = .ok (.ifCond .le 36, 3) := by decide +kernel
theorem dX7_sweeps_73 : decode cX7_sweeps 73 = .ok (.aload_n 0, 1) := by decide +kernel
theorem dX7_sweeps_74 : decode cX7_sweeps 74 = .ok (.iload_n 2, 1) := by decide +kernel
theorem dX7_sweeps_75 : decode cX7_sweeps 75 = .ok (.iconst 0, 1) := by decide +kernel
theorem dX7_sweeps_76 : decode cX7_sweeps 76 = .ok (.lload 7, 2) := by decide +kernel
theorem dX7_sweeps_78 : decode cX7_sweeps 78 = .ok (.lneg, 1) := by decide +kernel
theorem dX7_sweeps_79 : decode cX7_sweeps 79 = .ok (.invokevirtual 137, 3) := by decide +kernel
theorem dX7_sweeps_82 : decode cX7_sweeps 82 = .ok (.aload_n 0, 1) := by decide +kernel
theorem dX7_sweeps_83 : decode cX7_sweeps 83 = .ok (.iload_n 2, 1) := by decide +kernel
theorem dX7_sweeps_84 : decode cX7_sweeps 84 = .ok (.iconst 5, 1) := by decide +kernel
theorem dX7_sweeps_85 : decode cX7_sweeps 85 = .ok (.lload 7, 2) := by decide +kernel
theorem dX7_sweeps_87 : decode cX7_sweeps 87 = .ok (.invokevirtual 137, 3) := by decide +kernel
theorem dX7_sweeps_90 : decode cX7_sweeps 90 = .ok (.aload_n 0, 1) := by decide +kernel
theorem dX7_sweeps_91 : decode cX7_sweeps 91 = .ok (.iload_n 1, 1) := by decide +kernel
theorem dX7_sweeps_92 : decode cX7_sweeps 92 = .ok (.iconst 0, 1) := by decide +kernel
theorem dX7_sweeps_93 : decode cX7_sweeps 93 = .ok (.lload 7, 2) := by decide +kernel
theorem dX7_sweeps_95 : decode cX7_sweeps 95 = .ok (.invokevirtual 137, 3) := by decide +kernel
theorem dX7_sweeps_98 : decode cX7_sweeps 98 = .ok (.aload_n 0, 1) := by decide +kernel
theorem dX7_sweeps_99 : decode cX7_sweeps 99 = .ok (.iload_n 1, 1) := by decide +kernel
theorem dX7_sweeps_100 : decode cX7_sweeps 100 = .ok (.iconst 4, 1) := by decide +kernel
theorem dX7_sweeps_101 : decode cX7_sweeps 101 = .ok (.lload 7, 2) := by decide +kernel
theorem dX7_sweeps_103 : decode cX7_sweeps 103 = .ok (.invokevirtual 137, 3) := by decide +kernel
theorem dX7_sweeps_106 : decode cX7_sweeps 106 = .ok (.return_, 1) := by decide +kernel
theorem dX7_isAhead_0 : decode cX7_isAhead 0 = .ok (.aload_n 0, 1) := by decide +kernel
theorem dX7_isAhead_1 : decode cX7_isAhead 1 = .ok (.aload_n 0, 1) := by decide +kernel
theorem dX7_isAhead_2 : decode cX7_isAhead 2 = .ok (.iload_n 1, 1) := by decide +kernel
theorem dX7_isAhead_3 : decode cX7_isAhead 3 = .ok (.iconst 0, 1) := by decide +kernel
theorem dX7_isAhead_4 : decode cX7_isAhead 4 = .ok (.invokevirtual 210, 3) := by decide +kernel
theorem dX7_isAhead_7 : decode cX7_isAhead 7 = .ok (.bipush 8, 2) := by decide +kernel
theorem dX7_isAhead_9 : decode cX7_isAhead 9 = .ok (.invokevirtual 151, 3) := by decide +kernel
theorem dX7_isAhead_12 : decode cX7_isAhead 12 = .ok (.istore_n 3, 1) := by decide +kernel
theorem dX7_isAhead_13 : decode cX7_isAhead 13 = .ok (.aload_n 0, 1) := by decide +kernel
theorem dX7_isAhead_14 : decode cX7_isAhead 14 = .ok (.aload_n 0, 1) := by decide +kernel
theorem dX7_isAhead_15 : decode cX7_isAhead 15 = .ok (.iload_n 2, 1) := by decide +kernel
theorem dX7_isAhead_16 : decode cX7_isAhead 16 = .ok (.iconst 0, 1) := by decide +kernel
theorem dX7_isAhead_17 : decode cX7_isAhead 17 = .ok (.invokevirtual 210, 3) := by decide +kernel
theorem dX7_isAhead_20 : decode cX7_isAhead 20 = .ok (.bipush 8, 2) := by decide +kernel
theorem dX7_isAhead_22 : decode cX7_isAhead 22 = .ok (.invokevirtual 151, 3) := by decide +kernel
theorem dX7_isAhead_25 : decode cX7_isAhead 25 = .ok (.istore 4, 2) := by decide +kernel
theorem dX7_isAhead_27 : decode cX7_isAhead 27 = .ok (.iload_n 3, 1) := by decide +kernel
theorem dX7_isAhead_28 : decode cX7_isAhead 28 = .ok (.iload 4, 2) := by decide +kernel
theorem dX7_isAhead_30 : decode cX7_isAhead 30 = .ok (.if_icmp .eq 15, 3) := by decide +kernel
theorem dX7_isAhead_33 : decode cX7_isAhead 33 = .ok (.iload_n 3, 1) := by decide +kernel
theorem dX7_isAhead_34 : decode cX7_isAhead 34 = .ok (.iload 4, 2) := by decide +kernel
theorem dX7_isAhead_36 : decode cX7_isAhead 36 = .ok (.if_icmp .le 7, 3) := by decide +kernel
theorem dX7_isAhead_39 : decode cX7_isAhead 39 = .ok (.iconst 1, 1) := by decide +kernel
theorem dX7_isAhead_40 : decode cX7_isAhead 40 = .ok (.goto 4, 3) := by decide +kernel
theorem dX7_isAhead_43 : decode cX7_isAhead 43 = .ok (.iconst 0, 1) := by decide +kernel
theorem dX7_isAhead_44 : decode cX7_isAhead 44 = .ok (.ireturn, 1) := by decide +kernel
theorem dX7_isAhead_45 : decode cX7_isAhead 45 = .ok (.aload_n 0, 1) := by decide +kernel
theorem dX7_isAhead_46 : decode cX7_isAhead 46 = .ok (.iload_n 1, 1) := by decide +kernel
theorem dX7_isAhead_47 : decode cX7_isAhead 47 = .ok (.iconst 3, 1) := by decide +kernel
theorem dX7_isAhead_48 : decode cX7_isAhead 48 = .ok (.invokevirtual 210, 3) := by decide +kernel
theorem dX7_isAhead_51 : decode cX7_isAhead 51 = .ok (.istore 5, 2) := by decide +kernel
theorem dX7_isAhead_53 : decode cX7_isAhead 53 = .ok (.iload 5, 2) := by decide +kernel
theorem dX7_isAhead_55 : decode cX7_isAhead 55 = .ok (.aload_n 0, 1) := by decide +kernel
theorem dX7_isAhead_56 : decode cX7_isAhead 56 = .ok (.iload_n 2, 1) := by decide +kernel
theorem dX7_isAhead_57 : decode cX7_isAhead 57 = .ok (.iconst 3, 1) := by decide +kernel
theorem dX7_isAhead_58 : decode cX7_isAhead 58 = .ok (.invokevirtual 210, 3) := by decide +kernel
theorem dX7_isAhead_61 : decode cX7_isAhead 61 = .ok (.if_icmp .eq 22, 3) := by decide +kernel
theorem dX7_isAhead_64 : decode cX7_isAhead 64 = .ok (.iload 5, 2) := by decide +kernel
theorem dX7_isAhead_66 : decode cX7_isAhead 66 = .ok (.aload_n 0, 1) := by decide +kernel
theorem dX7_isAhead_67 : decode cX7_isAhead 67 = .ok (.iload_n 2, 1) := by decide +kernel
theorem dX7_isAhead_68 : decode cX7_isAhead 68 = .ok (.iconst 3, 1) := by decide +kernel
theorem dX7_isAhead_69 : decode cX7_isAhead 69 = .ok (.invokevirtual 210, 3) := by decide +kernel
theorem dX7_isAhead_72 : decode cX7_isAhead 72 = .ok (.if_icmp .ge 7, 3) := by decide +kernel
theorem dX7_isAhead_75 : decode cX7_isAhead 75 = .ok (.iconst 1, 1) := by decide +kernel
theorem dX7_isAhead_76 : decode cX7_isAhead 76 = .ok (.goto 27, 3) := by decide +kernel
theorem dX7_isAhead_79 : decode cX7_isAhead 79 = .ok (.iconst 0, 1) := by decide +kernel
theorem dX7_isAhead_80 : decode cX7_isAhead 80 = .ok (.goto 23, 3) := by decide +kernel
theorem dX7_isAhead_83 : decode cX7_isAhead 83 = .ok (.aload_n 0, 1) := by decide +kernel
theorem dX7_isAhead_84 : decode cX7_isAhead 84 = .ok (.iload_n 1, 1) := by decide +kernel
theorem dX7_isAhead_85 : decode cX7_isAhead 85 = .ok (.iconst 0, 1) := by decide +kernel
theorem dX7_isAhead_86 : decode cX7_isAhead 86 = .ok (.invokevirtual 210, 3) := by decide +kernel
theorem dX7_isAhead_89 : decode cX7_isAhead 89 = .ok (.aload_n 0, 1) := by decide +kernel
theorem dX7_isAhead_90 : decode cX7_isAhead 90 = .ok (.iload_n 2, 1) := by decide +kernel
theorem dX7_isAhead_91 : decode cX7_isAhead 91 = .ok (.iconst 0, 1) := by decide +kernel
theorem dX7_isAhead_92 : decode cX7_isAhead 92 = .ok (.invokevirtual 210, 3) := by decide +kernel
theorem dX7_isAhead_95 : decode cX7_isAhead 95 = .ok (.if_icmp .ge 7, 3) := by decide +kernel
theorem dX7_isAhead_98 : decode cX7_isAhead 98 = .ok (.iconst 1, 1) := by decide +kernel
theorem dX7_isAhead_99 : decode cX7_isAhead 99 = .ok (.goto 4, 3) := by decide +kernel
theorem dX7_isAhead_102 : decode cX7_isAhead 102 = .ok (.iconst 0, 1) := by decide +kernel
theorem dX7_isAhead_103 : decode cX7_isAhead 103 = .ok (.ireturn, 1) := by decide +kernel
theorem dX7_nextToTry_0 : decode cX7_nextToTry 0 = .ok (.bipush (-6), 2) := by decide +kernel
theorem dX7_nextToTry_2 : decode cX7_nextToTry 2 = .ok (.istore_n 1, 1) := by decide +kernel
theorem dX7_nextToTry_3 : decode cX7_nextToTry 3 = .ok (.iconst 0, 1) := by decide +kernel
theorem dX7_nextToTry_4 : decode cX7_nextToTry 4 = .ok (.istore_n 2, 1) := by decide +kernel
theorem dX7_nextToTry_5 : decode cX7_nextToTry 5 = .ok (.iload_n 2, 1) := by decide +kernel
theorem dX7_nextToTry_6 : decode cX7_nextToTry 6 = .ok (.i2l, 1) := by decide +kernel
theorem dX7_nextToTry_7 : decode cX7_nextToTry 7 = .ok (.aload_n 0, 1) := by decide +kernel
theorem dX7_nextToTry_8 : decode cX7_nextToTry 8 = .ok (.getfield 7, 3) := by decide +kernel
theorem dX7_nextToTry_11 : decode cX7_nextToTry 11 = .ok (.iconst 4, 1) := by decide +kernel
theorem dX7_nextToTry_12 : decode cX7_nextToTry 12 = .ok (.laload, 1) := by decide +kernel
theorem dX7_nextToTry_13 : decode cX7_nextToTry 13 = .ok (.lcmp, 1) := by decide +kernel
theorem dX7_nextToTry_14 : decode cX7_nextToTry 14 = .ok (.ifCond .ge 39, 3) := by decide +kernel
theorem dX7_nextToTry_17 : decode cX7_nextToTry 17 = .ok (.aload_n 0, 1) := by decide +kernel
theorem dX7_nextToTry_18 : decode cX7_nextToTry 18 = .ok (.iload_n 2, 1) := by decide +kernel
theorem dX7_nextToTry_19 : decode cX7_nextToTry 19 = .ok (.iconst 5, 1) := by decide +kernel
theorem dX7_nextToTry_20 : decode cX7_nextToTry 20 = .ok (.invokevirtual 210, 3) := by decide +kernel
theorem dX7_nextToTry_23 : decode cX7_nextToTry 23 = .ok (.ifCond .ne 22, 3) := by decide +kernel
theorem dX7_nextToTry_26 : decode cX7_nextToTry 26 = .ok (.iload_n 1, 1) := by decide +kernel
theorem dX7_nextToTry_27 : decode cX7_nextToTry 27 = .ok (.bipush (-6), 2) := by decide +kernel
theorem dX7_nextToTry_29 : decode cX7_nextToTry 29 = .ok (.if_icmp .eq 12, 3) := by decide +kernel
theorem dX7_nextToTry_32 : decode cX7_nextToTry 32 = .ok (.aload_n 0, 1) := by decide +kernel
theorem dX7_nextToTry_33 : decode cX7_nextToTry 33 = .ok (.iload_n 2, 1) := by decide +kernel
theorem dX7_nextToTry_34 : decode cX7_nextToTry 34 = .ok (.iload_n 1, 1) := by decide +kernel
theorem dX7_nextToTry_35 : decode cX7_nextToTry 35 = .ok (.invokevirtual 238, 3) := by decide +kernel
theorem dX7_nextToTry_38 : decode cX7_nextToTry 38 = .ok (.ifCond .eq 7, 3) := by decide +kernel
theorem dX7_nextToTry_41 : decode cX7_nextToTry 41 = .ok (.iload_n 2, 1) := by decide +kernel
theorem dX7_nextToTry_42 : decode cX7_nextToTry 42 = .ok (.goto 4, 3) := by decide +kernel
theorem dX7_nextToTry_45 : decode cX7_nextToTry 45 = .ok (.iload_n 1, 1) := by decide +kernel
theorem dX7_nextToTry_46 : decode cX7_nextToTry 46 = .ok (.istore_n 1, 1) := by decide +kernel
theorem dX7_nextToTry_47 : decode cX7_nextToTry 47 = .ok (.iinc 2 1, 3) := by decide +kernel
theorem dX7_nextToTry_50 : decode cX7_nextToTry 50 = .ok (.goto (-45), 3) := by decide +kernel
theorem dX7_nextToTry_53 : decode cX7_nextToTry 53 = .ok (.iload_n 1, 1) := by decide +kernel
theorem dX7_nextToTry_54 : decode cX7_nextToTry 54 = .ok (.ireturn, 1) := by decide +kernel
theorem dX7_tries_0 : decode cX7_tries 0 = .ok (.aload_n 0, 1) := by decide +kernel
theorem dX7_tries_1 : decode cX7_tries 1 = .ok (.iload_n 1, 1) := by decide +kernel
theorem dX7_tries_2 : decode cX7_tries 2 = .ok (.iconst 0, 1) := by decide +kernel
theorem dX7_tries_3 : decode cX7_tries 3 = .ok (.invokevirtual 210, 3) := by decide +kernel
theorem dX7_tries_6 : decode cX7_tries 6 = .ok (.istore_n 2, 1) := by decide +kernel
theorem dX7_tries_7 : decode cX7_tries 7 = .ok (.aload_n 0, 1) := by decide +kernel
theorem dX7_tries_8 : decode cX7_tries 8 = .ok (.iload_n 2, 1) := by decide +kernel
theorem dX7_tries_9 : decode cX7_tries 9 = .ok (.iconst 0, 1) := by decide +kernel
theorem dX7_tries_10 : decode cX7_tries 10 = .ok (.invokevirtual 151, 3) := by decide +kernel
theorem dX7_tries_13 : decode cX7_tries 13 = .ok (.istore_n 3, 1) := by decide +kernel
theorem dX7_tries_14 : decode cX7_tries 14 = .ok (.aload_n 0, 1) := by decide +kernel
theorem dX7_tries_15 : decode cX7_tries 15 = .ok (.iload_n 2, 1) := by decide +kernel
theorem dX7_tries_16 : decode cX7_tries 16 = .ok (.iconst 1, 1) := by decide +kernel
theorem dX7_tries_17 : decode cX7_tries 17 = .ok (.invokevirtual 151, 3) := by decide +kernel
theorem dX7_tries_20 : decode cX7_tries 20 = .ok (.istore 4, 2) := by decide +kernel
theorem dX7_tries_22 : decode cX7_tries 22 = .ok (.aload_n 0, 1) := by decide +kernel
theorem dX7_tries_23 : decode cX7_tries 23 = .ok (.iload_n 1, 1) := by decide +kernel
theorem dX7_tries_24 : decode cX7_tries 24 = .ok (.iconst 1, 1) := by decide +kernel
theorem dX7_tries_25 : decode cX7_tries 25 = .ok (.invokevirtual 210, 3) := by decide +kernel
theorem dX7_tries_28 : decode cX7_tries 28 = .ok (.i2l, 1) := by decide +kernel
theorem dX7_tries_29 : decode cX7_tries 29 = .ok (.lstore 5, 2) := by decide +kernel
theorem dX7_tries_31 : decode cX7_tries 31 = .ok (.aload_n 0, 1) := by decide +kernel
theorem dX7_tries_32 : decode cX7_tries 32 = .ok (.iload_n 3, 1) := by decide +kernel
theorem dX7_tries_33 : decode cX7_tries 33 = .ok (.iconst 0, 1) := by decide +kernel
theorem dX7_tries_34 : decode cX7_tries 34 = .ok (.invokevirtual 141, 3) := by decide +kernel
theorem dX7_tries_37 : decode cX7_tries 37 = .ok (.aload_n 0, 1) := by decide +kernel
theorem dX7_tries_38 : decode cX7_tries 38 = .ok (.iload_n 3, 1) := by decide +kernel
theorem dX7_tries_39 : decode cX7_tries 39 = .ok (.iconst 0, 1) := by decide +kernel
theorem dX7_tries_40 : decode cX7_tries 40 = .ok (.invokevirtual 132, 3) := by decide +kernel
theorem dX7_tries_43 : decode cX7_tries 43 = .ok (.i2l, 1) := by decide +kernel
theorem dX7_tries_44 : decode cX7_tries 44 = .ok (.ladd, 1) := by decide +kernel
theorem dX7_tries_45 : decode cX7_tries 45 = .ok (.lload 5, 2) := by decide +kernel
theorem dX7_tries_47 : decode cX7_tries 47 = .ok (.lcmp, 1) := by decide +kernel
theorem dX7_tries_48 : decode cX7_tries 48 = .ok (.ifCond .lt 80, 3) := by decide +kernel
theorem dX7_tries_51 : decode cX7_tries 51 = .ok (.aload_n 0, 1) := by decide +kernel
theorem dX7_tries_52 : decode cX7_tries 52 = .ok (.iload_n 3, 1) := by decide +kernel
theorem dX7_tries_53 : decode cX7_tries 53 = .ok (.iconst 0, 1) := by decide +kernel
theorem dX7_tries_54 : decode cX7_tries 54 = .ok (.lload 5, 2) := by decide +kernel
theorem dX7_tries_56 : decode cX7_tries 56 = .ok (.lneg, 1) := by decide +kernel
theorem dX7_tries_57 : decode cX7_tries 57 = .ok (.invokevirtual 137, 3) := by decide +kernel
theorem dX7_tries_60 : decode cX7_tries 60 = .ok (.aload_n 0, 1) := by decide +kernel
theorem dX7_tries_61 : decode cX7_tries 61 = .ok (.iload_n 3, 1) := by decide +kernel
theorem dX7_tries_62 : decode cX7_tries 62 = .ok (.iconst 2, 1) := by decide +kernel
theorem dX7_tries_63 : decode cX7_tries 63 = .ok (.lload 5, 2) := by decide +kernel
theorem dX7_tries_65 : decode cX7_tries 65 = .ok (.invokevirtual 137, 3) := by decide +kernel
theorem dX7_tries_68 : decode cX7_tries 68 = .ok (.iload 4, 2) := by decide +kernel
theorem dX7_tries_70 : decode cX7_tries 70 = .ok (.bipush 8, 2) := by decide +kernel
theorem dX7_tries_72 : decode cX7_tries 72 = .ok (.if_icmp .eq 21, 3) := by decide +kernel
theorem dX7_tries_75 : decode cX7_tries 75 = .ok (.aload_n 0, 1) := by decide +kernel
theorem dX7_tries_76 : decode cX7_tries 76 = .ok (.iload 4, 2) := by decide +kernel
theorem dX7_tries_78 : decode cX7_tries 78 = .ok (.iconst 0, 1) := by decide +kernel
theorem dX7_tries_79 : decode cX7_tries 79 = .ok (.lload 5, 2) := by decide +kernel
theorem dX7_tries_81 : decode cX7_tries 81 = .ok (.invokevirtual 137, 3) := by decide +kernel
theorem dX7_tries_84 : decode cX7_tries 84 = .ok (.aload_n 0, 1) := by decide +kernel
theorem dX7_tries_85 : decode cX7_tries 85 = .ok (.iload 4, 2) := by decide +kernel
theorem dX7_tries_87 : decode cX7_tries 87 = .ok (.iconst 3, 1) := by decide +kernel
theorem dX7_tries_88 : decode cX7_tries 88 = .ok (.lload 5, 2) := by decide +kernel
theorem dX7_tries_90 : decode cX7_tries 90 = .ok (.invokevirtual 137, 3) := by decide +kernel
theorem dX7_tries_93 : decode cX7_tries 93 = .ok (.aload_n 0, 1) := by decide +kernel
theorem dX7_tries_94 : decode cX7_tries 94 = .ok (.getfield 7, 3) := by decide +kernel
theorem dX7_tries_97 : decode cX7_tries 97 = .ok (.bipush 121, 2) := by decide +kernel
theorem dX7_tries_99 : decode cX7_tries 99 = .ok (.bipush 16, 2) := by decide +kernel
theorem dX7_tries_101 : decode cX7_tries 101 = .ok (.iload_n 2, 1) := by decide +kernel
theorem dX7_tries_102 : decode cX7_tries 102 = .ok (.imul, 1) := by decide +kernel
theorem dX7_tries_103 : decode cX7_tries 103 = .ok (.iadd, 1) := by decide +kernel
theorem dX7_tries_104 : decode cX7_tries 104 = .ok (.bipush 11, 2) := by decide +kernel
theorem dX7_tries_106 : decode cX7_tries 106 = .ok (.iadd, 1) := by decide +kernel
theorem dX7_tries_107 : decode cX7_tries 107 = .ok (.dup2, 1) := by decide +kernel
theorem dX7_tries_108 : decode cX7_tries 108 = .ok (.laload, 1) := by decide +kernel
theorem dX7_tries_109 : decode cX7_tries 109 = .ok (.lconst 1, 1) := by decide +kernel
theorem dX7_tries_110 : decode cX7_tries 110 = .ok (.ladd, 1) := by decide +kernel
theorem dX7_tries_111 : decode cX7_tries 111 = .ok (.lastore, 1) := by decide +kernel
theorem dX7_tries_112 : decode cX7_tries 112 = .ok (.aload_n 0, 1) := by decide +kernel
theorem dX7_tries_113 : decode cX7_tries 113 = .ok (.getfield 7, 3) := by decide +kernel
theorem dX7_tries_116 : decode cX7_tries 116 = .ok (.iconst 5, 1) := by decide +kernel
theorem dX7_tries_117 : decode cX7_tries 117 = .ok (.dup2, 1) := by decide +kernel
theorem dX7_tries_118 : decode cX7_tries 118 = .ok (.laload, 1) := by decide +kernel
theorem dX7_tries_119 : decode cX7_tries 119 = .ok (.lconst 1, 1) := by decide +kernel
theorem dX7_tries_120 : decode cX7_tries 120 = .ok (.ladd, 1) := by decide +kernel
theorem dX7_tries_121 : decode cX7_tries 121 = .ok (.lastore, 1) := by decide +kernel
theorem dX7_tries_122 : decode cX7_tries 122 = .ok (.aload_n 0, 1) := by decide +kernel
theorem dX7_tries_123 : decode cX7_tries 123 = .ok (.iload_n 1, 1) := by decide +kernel
theorem dX7_tries_124 : decode cX7_tries 124 = .ok (.invokevirtual 225, 3) := by decide +kernel
theorem dX7_tries_127 : decode cX7_tries 127 = .ok (.return_, 1) := by decide +kernel
theorem dX7_tries_128 : decode cX7_tries 128 = .ok (.aload_n 0, 1) := by decide +kernel
theorem dX7_tries_129 : decode cX7_tries 129 = .ok (.iload_n 3, 1) := by decide +kernel
theorem dX7_tries_130 : decode cX7_tries 130 = .ok (.iconst 0, 1) := by decide +kernel
theorem dX7_tries_131 : decode cX7_tries 131 = .ok (.aload_n 0, 1) := by decide +kernel
theorem dX7_tries_132 : decode cX7_tries 132 = .ok (.getfield 7, 3) := by decide +kernel
theorem dX7_tries_135 : decode cX7_tries 135 = .ok (.bipush 10, 2) := by decide +kernel
theorem dX7_tries_137 : decode cX7_tries 137 = .ok (.laload, 1) := by decide +kernel
theorem dX7_tries_138 : decode cX7_tries 138 = .ok (.lneg, 1) := by decide +kernel
theorem dX7_tries_139 : decode cX7_tries 139 = .ok (.invokevirtual 137, 3) := by decide +kernel
theorem dX7_tries_142 : decode cX7_tries 142 = .ok (.aload_n 0, 1) := by decide +kernel
theorem dX7_tries_143 : decode cX7_tries 143 = .ok (.iload_n 3, 1) := by decide +kernel
theorem dX7_tries_144 : decode cX7_tries 144 = .ok (.bipush 6, 2) := by decide +kernel
theorem dX7_tries_146 : decode cX7_tries 146 = .ok (.aload_n 0, 1) := by decide +kernel
theorem dX7_tries_147 : decode cX7_tries 147 = .ok (.getfield 7, 3) := by decide +kernel
theorem dX7_tries_150 : decode cX7_tries 150 = .ok (.bipush 10, 2) := by decide +kernel
theorem dX7_tries_152 : decode cX7_tries 152 = .ok (.laload, 1) := by decide +kernel
theorem dX7_tries_153 : decode cX7_tries 153 = .ok (.invokevirtual 137, 3) := by decide +kernel
theorem dX7_tries_156 : decode cX7_tries 156 = .ok (.aload_n 0, 1) := by decide +kernel
theorem dX7_tries_157 : decode cX7_tries 157 = .ok (.getfield 7, 3) := by decide +kernel
theorem dX7_tries_160 : decode cX7_tries 160 = .ok (.bipush 8, 2) := by decide +kernel
theorem dX7_tries_162 : decode cX7_tries 162 = .ok (.dup2, 1) := by decide +kernel
theorem dX7_tries_163 : decode cX7_tries 163 = .ok (.laload, 1) := by decide +kernel
theorem dX7_tries_164 : decode cX7_tries 164 = .ok (.lconst 1, 1) := by decide +kernel
theorem dX7_tries_165 : decode cX7_tries 165 = .ok (.ladd, 1) := by decide +kernel
theorem dX7_tries_166 : decode cX7_tries 166 = .ok (.lastore, 1) := by decide +kernel
theorem dX7_tries_167 : decode cX7_tries 167 = .ok (.aload_n 0, 1) := by decide +kernel
theorem dX7_tries_168 : decode cX7_tries 168 = .ok (.dup, 1) := by decide +kernel
theorem dX7_tries_169 : decode cX7_tries 169 = .ok (.getfield 241, 3) := by decide +kernel
theorem dX7_tries_172 : decode cX7_tries 172 = .ok (.iconst 1, 1) := by decide +kernel
theorem dX7_tries_173 : decode cX7_tries 173 = .ok (.iload_n 3, 1) := by decide +kernel
theorem dX7_tries_174 : decode cX7_tries 174 = .ok (.ishl, 1) := by decide +kernel
theorem dX7_tries_175 : decode cX7_tries 175 = .ok (.ior, 1) := by decide +kernel
theorem dX7_tries_176 : decode cX7_tries 176 = .ok (.putfield 241, 3) := by decide +kernel
theorem dX7_tries_179 : decode cX7_tries 179 = .ok (.aload_n 0, 1) := by decide +kernel
theorem dX7_tries_180 : decode cX7_tries 180 = .ok (.iload_n 1, 1) := by decide +kernel
theorem dX7_tries_181 : decode cX7_tries 181 = .ok (.iconst 4, 1) := by decide +kernel
theorem dX7_tries_182 : decode cX7_tries 182 = .ok (.invokevirtual 210, 3) := by decide +kernel
theorem dX7_tries_185 : decode cX7_tries 185 = .ok (.iconst 1, 1) := by decide +kernel
theorem dX7_tries_186 : decode cX7_tries 186 = .ok (.iadd, 1) := by decide +kernel
theorem dX7_tries_187 : decode cX7_tries 187 = .ok (.i2l, 1) := by decide +kernel
theorem dX7_tries_188 : decode cX7_tries 188 = .ok (.aload_n 0, 1) := by decide +kernel
theorem dX7_tries_189 : decode cX7_tries 189 = .ok (.getfield 7, 3) := by decide +kernel
theorem dX7_tries_192 : decode cX7_tries 192 = .ok (.bipush 9, 2) := by decide +kernel
theorem dX7_tries_194 : decode cX7_tries 194 = .ok (.laload, 1) := by decide +kernel
theorem dX7_tries_195 : decode cX7_tries 195 = .ok (.lcmp, 1) := by decide +kernel
theorem dX7_tries_196 : decode cX7_tries 196 = .ok (.ifCond .lt 11, 3) := by decide +kernel
theorem dX7_tries_199 : decode cX7_tries 199 = .ok (.aload_n 0, 1) := by decide +kernel
theorem dX7_tries_200 : decode cX7_tries 200 = .ok (.iload_n 1, 1) := by decide +kernel
theorem dX7_tries_201 : decode cX7_tries 201 = .ok (.invokevirtual 228, 3) := by decide +kernel
theorem dX7_tries_204 : decode cX7_tries 204 = .ok (.goto 15, 3) := by decide +kernel
theorem dX7_tries_207 : decode cX7_tries 207 = .ok (.aload_n 0, 1) := by decide +kernel
theorem dX7_tries_208 : decode cX7_tries 208 = .ok (.getfield 17, 3) := by decide +kernel
theorem dX7_tries_211 : decode cX7_tries 211 = .ok (.iload_n 1, 1) := by decide +kernel
theorem dX7_tries_212 : decode cX7_tries 212 = .ok (.dup2, 1) := by decide +kernel
theorem dX7_tries_213 : decode cX7_tries 213 = .ok (.laload, 1) := by decide +kernel
theorem dX7_tries_214 : decode cX7_tries 214 = .ok (.ldc2_w 244, 3) := by decide +kernel
theorem dX7_tries_217 : decode cX7_tries 217 = .ok (.ladd, 1) := by decide +kernel
theorem dX7_tries_218 : decode cX7_tries 218 = .ok (.lastore, 1) := by decide +kernel
theorem dX7_tries_219 : decode cX7_tries 219 = .ok (.return_, 1) := by decide +kernel
theorem dX7_paysAll_0 : decode cX7_paysAll 0 = .ok (.aload_n 0, 1) := by decide +kernel
theorem dX7_paysAll_1 : decode cX7_paysAll 1 = .ok (.invokevirtual 246, 3) := by decide +kernel
theorem dX7_paysAll_4 : decode cX7_paysAll 4 = .ok (.istore_n 1, 1) := by decide +kernel
theorem dX7_paysAll_5 : decode cX7_paysAll 5 = .ok (.iload_n 1, 1) := by decide +kernel
theorem dX7_paysAll_6 : decode cX7_paysAll 6 = .ok (.bipush (-6), 2) := by decide +kernel
theorem dX7_paysAll_8 : decode cX7_paysAll 8 = .ok (.if_icmp .eq 16, 3) := by decide +kernel
theorem dX7_paysAll_11 : decode cX7_paysAll 11 = .ok (.aload_n 0, 1) := by decide +kernel
theorem dX7_paysAll_12 : decode cX7_paysAll 12 = .ok (.iload_n 1, 1) := by decide +kernel
theorem dX7_paysAll_13 : decode cX7_paysAll 13 = .ok (.invokevirtual 249, 3) := by decide +kernel
theorem dX7_paysAll_16 : decode cX7_paysAll 16 = .ok (.aload_n 0, 1) := by decide +kernel
theorem dX7_paysAll_17 : decode cX7_paysAll 17 = .ok (.invokevirtual 246, 3) := by decide +kernel
theorem dX7_paysAll_20 : decode cX7_paysAll 20 = .ok (.istore_n 1, 1) := by decide +kernel
theorem dX7_paysAll_21 : decode cX7_paysAll 21 = .ok (.goto (-16), 3) := by decide +kernel
theorem dX7_paysAll_24 : decode cX7_paysAll 24 = .ok (.iconst 0, 1) := by decide +kernel
theorem dX7_paysAll_25 : decode cX7_paysAll 25 = .ok (.istore_n 2, 1) := by decide +kernel
theorem dX7_paysAll_26 : decode cX7_paysAll 26 = .ok (.iload_n 2, 1) := by decide +kernel
theorem dX7_paysAll_27 : decode cX7_paysAll 27 = .ok (.i2l, 1) := by decide +kernel
theorem dX7_paysAll_28 : decode cX7_paysAll 28 = .ok (.aload_n 0, 1) := by decide +kernel
theorem dX7_paysAll_29 : decode cX7_paysAll 29 = .ok (.getfield 7, 3) := by decide +kernel
theorem dX7_paysAll_32 : decode cX7_paysAll 32 = .ok (.iconst 4, 1) := by decide +kernel
theorem dX7_paysAll_33 : decode cX7_paysAll 33 = .ok (.laload, 1) := by decide +kernel
theorem dX7_paysAll_34 : decode cX7_paysAll 34 = .ok (.lcmp, 1) := by decide +kernel
theorem dX7_paysAll_35 : decode cX7_paysAll 35 = .ok (.ifCond .ge 21, 3) := by decide +kernel
theorem dX7_paysAll_38 : decode cX7_paysAll 38 = .ok (.aload_n 0, 1) := by decide +kernel
theorem dX7_paysAll_39 : decode cX7_paysAll 39 = .ok (.getfield 17, 3) := by decide +kernel
theorem dX7_paysAll_42 : decode cX7_paysAll 42 = .ok (.iload_n 2, 1) := by decide +kernel
theorem dX7_paysAll_43 : decode cX7_paysAll 43 = .ok (.dup2, 1) := by decide +kernel
theorem dX7_paysAll_44 : decode cX7_paysAll 44 = .ok (.laload, 1) := by decide +kernel
theorem dX7_paysAll_45 : decode cX7_paysAll 45 = .ok (.ldc2_w 208, 3) := by decide +kernel
theorem dX7_paysAll_48 : decode cX7_paysAll 48 = .ok (.lrem, 1) := by decide +kernel
theorem dX7_paysAll_49 : decode cX7_paysAll 49 = .ok (.lastore, 1) := by decide +kernel
theorem dX7_paysAll_50 : decode cX7_paysAll 50 = .ok (.iinc 2 1, 3) := by decide +kernel
theorem dX7_paysAll_53 : decode cX7_paysAll 53 = .ok (.goto (-27), 3) := by decide +kernel
theorem dX7_paysAll_56 : decode cX7_paysAll 56 = .ok (.return_, 1) := by decide +kernel
theorem dX7_owes_0 : decode cX7_owes 0 = .ok (.aload_n 0, 1) := by decide +kernel
theorem dX7_owes_1 : decode cX7_owes 1 = .ok (.iload_n 1, 1) := by decide +kernel
theorem dX7_owes_2 : decode cX7_owes 2 = .ok (.iconst 0, 1) := by decide +kernel
theorem dX7_owes_3 : decode cX7_owes 3 = .ok (.invokevirtual 141, 3) := by decide +kernel
theorem dX7_owes_6 : decode cX7_owes 6 = .ok (.lstore_n 2, 1) := by decide +kernel
theorem dX7_owes_7 : decode cX7_owes 7 = .ok (.aload_n 0, 1) := by decide +kernel
theorem dX7_owes_8 : decode cX7_owes 8 = .ok (.getfield 7, 3) := by decide +kernel
theorem dX7_owes_11 : decode cX7_owes 11 = .ok (.bipush 11, 2) := by decide +kernel
theorem dX7_owes_13 : decode cX7_owes 13 = .ok (.laload, 1) := by decide +kernel
theorem dX7_owes_14 : decode cX7_owes 14 = .ok (.l2f, 1) := by decide +kernel
theorem dX7_owes_15 : decode cX7_owes 15 = .ok (.ldc 252, 2) := by decide +kernel
theorem dX7_owes_17 : decode cX7_owes 17 = .ok (.fdiv, 1) := by decide +kernel
theorem dX7_owes_18 : decode cX7_owes 18 = .ok (.fstore 4, 2) := by decide +kernel
theorem dX7_owes_20 : decode cX7_owes 20 = .ok (.lload_n 2, 1) := by decide +kernel
theorem dX7_owes_21 : decode cX7_owes 21 = .ok (.lconst 0, 1) := by decide +kernel
theorem dX7_owes_22 : decode cX7_owes 22 = .ok (.lcmp, 1) := by decide +kernel
theorem dX7_owes_23 : decode cX7_owes 23 = .ok (.ifCond .ge 23, 3) := by decide +kernel
theorem dX7_owes_26 : decode cX7_owes 26 = .ok (.aload_n 0, 1) := by decide +kernel
theorem dX7_owes_27 : decode cX7_owes 27 = .ok (.getfield 13, 3) := by decide +kernel
theorem dX7_owes_30 : decode cX7_owes 30 = .ok (.iload_n 1, 1) := by decide +kernel
theorem dX7_owes_31 : decode cX7_owes 31 = .ok (.dup2, 1) := by decide +kernel
theorem dX7_owes_32 : decode cX7_owes 32 = .ok (.daload, 1) := by decide +kernel
theorem dX7_owes_33 : decode cX7_owes 33 = .ok (.lload_n 2, 1) := by decide +kernel
theorem dX7_owes_34 : decode cX7_owes 34 = .ok (.lneg, 1) := by decide +kernel
theorem dX7_owes_35 : decode cX7_owes 35 = .ok (.l2d, 1) := by decide +kernel
theorem dX7_owes_36 : decode cX7_owes 36 = .ok (.fload 4, 2) := by decide +kernel
theorem dX7_owes_38 : decode cX7_owes 38 = .ok (.f2d, 1) := by decide +kernel
theorem dX7_owes_39 : decode cX7_owes 39 = .ok (.dmul, 1) := by decide +kernel
theorem dX7_owes_40 : decode cX7_owes 40 = .ok (.ldc2_w 253, 3) := by decide +kernel
theorem dX7_owes_43 : decode cX7_owes 43 = .ok (.ddiv, 1) := by decide +kernel
theorem dX7_owes_44 : decode cX7_owes 44 = .ok (.dadd, 1) := by decide +kernel
theorem dX7_owes_45 : decode cX7_owes 45 = .ok (.dastore, 1) := by decide +kernel
theorem dX7_owes_46 : decode cX7_owes 46 = .ok (.aload_n 0, 1) := by decide +kernel
theorem dX7_owes_47 : decode cX7_owes 47 = .ok (.invokevirtual 66, 3) := by decide +kernel
theorem dX7_owes_50 : decode cX7_owes 50 = .ok (.invokestatic 94, 3) := by decide +kernel
theorem dX7_owes_53 : decode cX7_owes 53 = .ok (.istore 5, 2) := by decide +kernel
theorem dX7_owes_55 : decode cX7_owes 55 = .ok (.aload_n 0, 1) := by decide +kernel
theorem dX7_owes_56 : decode cX7_owes 56 = .ok (.invokevirtual 66, 3) := by decide +kernel
theorem dX7_owes_59 : decode cX7_owes 59 = .ok (.iload 5, 2) := by decide +kernel
theorem dX7_owes_61 : decode cX7_owes 61 = .ok (.invokestatic 78, 3) := by decide +kernel
theorem dX7_owes_64 : decode cX7_owes 64 = .ok (.iload 5, 2) := by decide +kernel
theorem dX7_owes_66 : decode cX7_owes 66 = .ok (.invokestatic 75, 3) := by decide +kernel
theorem dX7_owes_69 : decode cX7_owes 69 = .ok (.iadd, 1) := by decide +kernel
theorem dX7_owes_70 : decode cX7_owes 70 = .ok (.iconst 1, 1) := by decide +kernel
theorem dX7_owes_71 : decode cX7_owes 71 = .ok (.isub, 1) := by decide +kernel
theorem dX7_owes_72 : decode cX7_owes 72 = .ok (.if_icmp .ne 42, 3) := by decide +kernel
theorem dX7_owes_75 : decode cX7_owes 75 = .ok (.aload_n 0, 1) := by decide +kernel
theorem dX7_owes_76 : decode cX7_owes 76 = .ok (.getfield 13, 3) := by decide +kernel
theorem dX7_owes_79 : decode cX7_owes 79 = .ok (.iload_n 1, 1) := by decide +kernel
theorem dX7_owes_80 : decode cX7_owes 80 = .ok (.daload, 1) := by decide +kernel
theorem dX7_owes_81 : decode cX7_owes 81 = .ok (.d2l, 1) := by decide +kernel
theorem dX7_owes_82 : decode cX7_owes 82 = .ok (.lstore 6, 2) := by decide +kernel
theorem dX7_owes_84 : decode cX7_owes 84 = .ok (.aload_n 0, 1) := by decide +kernel
theorem dX7_owes_85 : decode cX7_owes 85 = .ok (.iload_n 1, 1) := by decide +kernel
theorem dX7_owes_86 : decode cX7_owes 86 = .ok (.iconst 0, 1) := by decide +kernel
theorem dX7_owes_87 : decode cX7_owes 87 = .ok (.lload 6, 2) := by decide +kernel
theorem dX7_owes_89 : decode cX7_owes 89 = .ok (.lneg, 1) := by decide +kernel
theorem dX7_owes_90 : decode cX7_owes 90 = .ok (.invokevirtual 137, 3) := by decide +kernel
theorem dX7_owes_93 : decode cX7_owes 93 = .ok (.aload_n 0, 1) := by decide +kernel
theorem dX7_owes_94 : decode cX7_owes 94 = .ok (.iload_n 1, 1) := by decide +kernel
theorem dX7_owes_95 : decode cX7_owes 95 = .ok (.bipush 7, 2) := by decide +kernel
theorem dX7_owes_97 : decode cX7_owes 97 = .ok (.lload 6, 2) := by decide +kernel
theorem dX7_owes_99 : decode cX7_owes 99 = .ok (.invokevirtual 137, 3) := by decide +kernel
theorem dX7_owes_102 : decode cX7_owes 102 = .ok (.aload_n 0, 1) := by decide +kernel
theorem dX7_owes_103 : decode cX7_owes 103 = .ok (.getfield 13, 3) := by decide +kernel
theorem dX7_owes_106 : decode cX7_owes 106 = .ok (.iload_n 1, 1) := by decide +kernel
theorem dX7_owes_107 : decode cX7_owes 107 = .ok (.dup2, 1) := by decide +kernel
theorem dX7_owes_108 : decode cX7_owes 108 = .ok (.daload, 1) := by decide +kernel
theorem dX7_owes_109 : decode cX7_owes 109 = .ok (.lload 6, 2) := by decide +kernel
theorem dX7_owes_111 : decode cX7_owes 111 = .ok (.l2d, 1) := by decide +kernel
theorem dX7_owes_112 : decode cX7_owes 112 = .ok (.dsub, 1) := by decide +kernel
theorem dX7_owes_113 : decode cX7_owes 113 = .ok (.dastore, 1) := by decide +kernel
theorem dX7_owes_114 : decode cX7_owes 114 = .ok (.return_, 1) := by decide +kernel
theorem dX7_passesDay_0 : decode cX7_passesDay 0 = .ok (.aload_n 0, 1) := by decide +kernel
theorem dX7_passesDay_1 : decode cX7_passesDay 1 = .ok (.iconst 0, 1) := by decide +kernel
theorem dX7_passesDay_2 : decode cX7_passesDay 2 = .ok (.putfield 241, 3) := by decide +kernel
theorem dX7_passesDay_5 : decode cX7_passesDay 5 = .ok (.iconst 0, 1) := by decide +kernel
theorem dX7_passesDay_6 : decode cX7_passesDay 6 = .ok (.istore_n 1, 1) := by decide +kernel
theorem dX7_passesDay_7 : decode cX7_passesDay 7 = .ok (.iload_n 1, 1) := by decide +kernel
theorem dX7_passesDay_8 : decode cX7_passesDay 8 = .ok (.i2l, 1) := by decide +kernel
theorem dX7_passesDay_9 : decode cX7_passesDay 9 = .ok (.aload_n 0, 1) := by decide +kernel
theorem dX7_passesDay_10 : decode cX7_passesDay 10 = .ok (.getfield 7, 3) := by decide +kernel
theorem dX7_passesDay_13 : decode cX7_passesDay 13 = .ok (.iconst 2, 1) := by decide +kernel
theorem dX7_passesDay_14 : decode cX7_passesDay 14 = .ok (.laload, 1) := by decide +kernel
theorem dX7_passesDay_15 : decode cX7_passesDay 15 = .ok (.lcmp, 1) := by decide +kernel
theorem dX7_passesDay_16 : decode cX7_passesDay 16 = .ok (.ifCond .ge 24, 3) := by decide +kernel
theorem dX7_passesDay_19 : decode cX7_passesDay 19 = .ok (.aload_n 0, 1) := by decide +kernel
theorem dX7_passesDay_20 : decode cX7_passesDay 20 = .ok (.iload_n 1, 1) := by decide +kernel
theorem dX7_passesDay_21 : decode cX7_passesDay 21 = .ok (.bipush 10, 2) := by decide +kernel
theorem dX7_passesDay_23 : decode cX7_passesDay 23 = .ok (.invokevirtual 151, 3) := by decide +kernel
theorem dX7_passesDay_26 : decode cX7_passesDay 26 = .ok (.ifCond .ne 8, 3) := by decide +kernel
theorem dX7_passesDay_29 : decode cX7_passesDay 29 = .ok (.aload_n 0, 1) := by decide +kernel
theorem dX7_passesDay_30 : decode cX7_passesDay 30 = .ok (.iload_n 1, 1) := by decide +kernel
theorem dX7_passesDay_31 : decode cX7_passesDay 31 = .ok (.invokevirtual 255, 3) := by decide +kernel
theorem dX7_passesDay_34 : decode cX7_passesDay 34 = .ok (.iinc 1 1, 3) := by decide +kernel
theorem dX7_passesDay_37 : decode cX7_passesDay 37 = .ok (.goto (-30), 3) := by decide +kernel
theorem dX7_passesDay_40 : decode cX7_passesDay 40 = .ok (.iconst 0, 1) := by decide +kernel
theorem dX7_passesDay_41 : decode cX7_passesDay 41 = .ok (.istore_n 1, 1) := by decide +kernel
theorem dX7_passesDay_42 : decode cX7_passesDay 42 = .ok (.iload_n 1, 1) := by decide +kernel
theorem dX7_passesDay_43 : decode cX7_passesDay 43 = .ok (.i2l, 1) := by decide +kernel
theorem dX7_passesDay_44 : decode cX7_passesDay 44 = .ok (.aload_n 0, 1) := by decide +kernel
theorem dX7_passesDay_45 : decode cX7_passesDay 45 = .ok (.getfield 7, 3) := by decide +kernel
theorem dX7_passesDay_48 : decode cX7_passesDay 48 = .ok (.iconst 1, 1) := by decide +kernel
theorem dX7_passesDay_49 : decode cX7_passesDay 49 = .ok (.laload, 1) := by decide +kernel
theorem dX7_passesDay_50 : decode cX7_passesDay 50 = .ok (.lcmp, 1) := by decide +kernel
theorem dX7_passesDay_51 : decode cX7_passesDay 51 = .ok (.ifCond .ge 14, 3) := by decide +kernel
theorem dX7_passesDay_54 : decode cX7_passesDay 54 = .ok (.aload_n 0, 1) := by decide +kernel
theorem dX7_passesDay_55 : decode cX7_passesDay 55 = .ok (.iload_n 1, 1) := by decide +kernel
theorem dX7_passesDay_56 : decode cX7_passesDay 56 = .ok (.invokevirtual 258, 3) := by decide +kernel
theorem dX7_passesDay_59 : decode cX7_passesDay 59 = .ok (.iinc 1 1, 3) := by decide +kernel
theorem dX7_passesDay_62 : decode cX7_passesDay 62 = .ok (.goto (-20), 3) := by decide +kernel
theorem dX7_passesDay_65 : decode cX7_passesDay 65 = .ok (.aload_n 0, 1) := by decide +kernel
theorem dX7_passesDay_66 : decode cX7_passesDay 66 = .ok (.aload_n 0, 1) := by decide +kernel
theorem dX7_passesDay_67 : decode cX7_passesDay 67 = .ok (.invokevirtual 66, 3) := by decide +kernel
theorem dX7_passesDay_70 : decode cX7_passesDay 70 = .ok (.invokevirtual 88, 3) := by decide +kernel
theorem dX7_passesDay_73 : decode cX7_passesDay 73 = .ok (.ifCond .eq 7, 3) := by decide +kernel
theorem dX7_passesDay_76 : decode cX7_passesDay 76 = .ok (.aload_n 0, 1) := by decide +kernel
theorem dX7_passesDay_77 : decode cX7_passesDay 77 = .ok (.invokevirtual 261, 3) := by decide +kernel
theorem dX7_passesDay_80 : decode cX7_passesDay 80 = .ok (.iconst 0, 1) := by decide +kernel
theorem dX7_passesDay_81 : decode cX7_passesDay 81 = .ok (.istore_n 1, 1) := by decide +kernel
theorem dX7_passesDay_82 : decode cX7_passesDay 82 = .ok (.iload_n 1, 1) := by decide +kernel
theorem dX7_passesDay_83 : decode cX7_passesDay 83 = .ok (.i2l, 1) := by decide +kernel
theorem dX7_passesDay_84 : decode cX7_passesDay 84 = .ok (.aload_n 0, 1) := by decide +kernel
theorem dX7_passesDay_85 : decode cX7_passesDay 85 = .ok (.getfield 7, 3) := by decide +kernel
theorem dX7_passesDay_88 : decode cX7_passesDay 88 = .ok (.iconst 1, 1) := by decide +kernel
theorem dX7_passesDay_89 : decode cX7_passesDay 89 = .ok (.laload, 1) := by decide +kernel
theorem dX7_passesDay_90 : decode cX7_passesDay 90 = .ok (.lcmp, 1) := by decide +kernel
theorem dX7_passesDay_91 : decode cX7_passesDay 91 = .ok (.ifCond .ge 14, 3) := by decide +kernel
theorem dX7_passesDay_94 : decode cX7_passesDay 94 = .ok (.aload_n 0, 1) := by decide +kernel
theorem dX7_passesDay_95 : decode cX7_passesDay 95 = .ok (.iload_n 1, 1) := by decide +kernel
theorem dX7_passesDay_96 : decode cX7_passesDay 96 = .ok (.invokevirtual 264, 3) := by decide +kernel
theorem dX7_passesDay_99 : decode cX7_passesDay 99 = .ok (.iinc 1 1, 3) := by decide +kernel
theorem dX7_passesDay_102 : decode cX7_passesDay 102 = .ok (.goto (-20), 3) := by decide +kernel
theorem dX7_passesDay_105 : decode cX7_passesDay 105 = .ok (.aload_n 0, 1) := by decide +kernel
theorem dX7_passesDay_106 : decode cX7_passesDay 106 = .ok (.getfield 7, 3) := by decide +kernel
theorem dX7_passesDay_109 : decode cX7_passesDay 109 = .ok (.iconst 0, 1) := by decide +kernel
theorem dX7_passesDay_110 : decode cX7_passesDay 110 = .ok (.dup2, 1) := by decide +kernel
theorem dX7_passesDay_111 : decode cX7_passesDay 111 = .ok (.laload, 1) := by decide +kernel
theorem dX7_passesDay_112 : decode cX7_passesDay 112 = .ok (.lconst 1, 1) := by decide +kernel
theorem dX7_passesDay_113 : decode cX7_passesDay 113 = .ok (.ladd, 1) := by decide +kernel
theorem dX7_passesDay_114 : decode cX7_passesDay 114 = .ok (.lastore, 1) := by decide +kernel
theorem dX7_passesDay_115 : decode cX7_passesDay 115 = .ok (.return_, 1) := by decide +kernel
theorem dX7_checksDays_0 : decode cX7_checksDays 0 = .ok (.iload_n 1, 1) := by decide +kernel
theorem dX7_checksDays_1 : decode cX7_checksDays 1 = .ok (.i2l, 1) := by decide +kernel
theorem dX7_checksDays_2 : decode cX7_checksDays 2 = .ok (.lconst 1, 1) := by decide +kernel
theorem dX7_checksDays_3 : decode cX7_checksDays 3 = .ok (.ldc2_w 267, 3) := by decide +kernel
theorem dX7_checksDays_6 : decode cX7_checksDays 6 = .ok (.invokestatic 47, 3) := by decide +kernel
theorem dX7_checksDays_9 : decode cX7_checksDays 9 = .ok (.ifCond .ne 6, 3) := by decide +kernel
theorem dX7_checksDays_12 : decode cX7_checksDays 12 = .ok (.bipush (-2), 2) := by decide +kernel
theorem dX7_checksDays_14 : decode cX7_checksDays 14 = .ok (.ireturn, 1) := by decide +kernel
theorem dX7_checksDays_15 : decode cX7_checksDays 15 = .ok (.aload_n 0, 1) := by decide +kernel
theorem dX7_checksDays_16 : decode cX7_checksDays 16 = .ok (.invokevirtual 66, 3) := by decide +kernel
theorem dX7_checksDays_19 : decode cX7_checksDays 19 = .ok (.iload_n 1, 1) := by decide +kernel
theorem dX7_checksDays_20 : decode cX7_checksDays 20 = .ok (.iadd, 1) := by decide +kernel
theorem dX7_checksDays_21 : decode cX7_checksDays 21 = .ok (.sipush 1094, 3) := by decide +kernel
theorem dX7_checksDays_24 : decode cX7_checksDays 24 = .ok (.if_icmp .le 8, 3) := by decide +kernel
theorem dX7_checksDays_27 : decode cX7_checksDays 27 = .ok (.bipush (-5), 2) := by decide +kernel
theorem dX7_checksDays_29 : decode cX7_checksDays 29 = .ok (.goto 4, 3) := by decide +kernel
theorem dX7_checksDays_32 : decode cX7_checksDays 32 = .ok (.iconst 0, 1) := by decide +kernel
theorem dX7_checksDays_33 : decode cX7_checksDays 33 = .ok (.ireturn, 1) := by decide +kernel
theorem dX7_passesDays_0 : decode cX7_passesDays 0 = .ok (.iconst 0, 1) := by decide +kernel
theorem dX7_passesDays_1 : decode cX7_passesDays 1 = .ok (.istore_n 2, 1) := by decide +kernel
theorem dX7_passesDays_2 : decode cX7_passesDays 2 = .ok (.iload_n 2, 1) := by decide +kernel
theorem dX7_passesDays_3 : decode cX7_passesDays 3 = .ok (.iload_n 1, 1) := by decide +kernel
theorem dX7_passesDays_4 : decode cX7_passesDays 4 = .ok (.if_icmp .ge 23, 3) := by decide +kernel
theorem dX7_passesDays_7 : decode cX7_passesDays 7 = .ok (.aload_n 0, 1) := by decide +kernel
theorem dX7_passesDays_8 : decode cX7_passesDays 8 = .ok (.invokevirtual 66, 3) := by decide +kernel
theorem dX7_passesDays_11 : decode cX7_passesDays 11 = .ok (.sipush 1094, 3) := by decide +kernel
theorem dX7_passesDays_14 : decode cX7_passesDays 14 = .ok (.if_icmp .ge 13, 3) := by decide +kernel
theorem dX7_passesDays_17 : decode cX7_passesDays 17 = .ok (.aload_n 0, 1) := by decide +kernel
theorem dX7_passesDays_18 : decode cX7_passesDays 18 = .ok (.invokevirtual 269, 3) := by decide +kernel
theorem dX7_passesDays_21 : decode cX7_passesDays 21 = .ok (.iinc 2 1, 3) := by decide +kernel
theorem dX7_passesDays_24 : decode cX7_passesDays 24 = .ok (.goto (-22), 3) := by decide +kernel
theorem dX7_passesDays_27 : decode cX7_passesDays 27 = .ok (.aload_n 0, 1) := by decide +kernel
theorem dX7_passesDays_28 : decode cX7_passesDays 28 = .ok (.invokevirtual 66, 3) := by decide +kernel
theorem dX7_passesDays_31 : decode cX7_passesDays 31 = .ok (.ireturn, 1) := by decide +kernel
theorem dX7_days_0 : decode cX7_days 0 = .ok (.aload_n 0, 1) := by decide +kernel
theorem dX7_days_1 : decode cX7_days 1 = .ok (.iload_n 1, 1) := by decide +kernel
theorem dX7_days_2 : decode cX7_days 2 = .ok (.invokevirtual 272, 3) := by decide +kernel
theorem dX7_days_5 : decode cX7_days 5 = .ok (.istore_n 2, 1) := by decide +kernel
theorem dX7_days_6 : decode cX7_days 6 = .ok (.iload_n 2, 1) := by decide +kernel
theorem dX7_days_7 : decode cX7_days 7 = .ok (.ifCond .eq 5, 3) := by decide +kernel
theorem dX7_days_10 : decode cX7_days 10 = .ok (.iload_n 2, 1) := by decide +kernel
theorem dX7_days_11 : decode cX7_days 11 = .ok (.ireturn, 1) := by decide +kernel
theorem dX7_days_12 : decode cX7_days 12 = .ok (.aload_n 0, 1) := by decide +kernel
theorem dX7_days_13 : decode cX7_days 13 = .ok (.invokevirtual 70, 3) := by decide +kernel
theorem dX7_days_16 : decode cX7_days 16 = .ok (.aload_n 0, 1) := by decide +kernel
theorem dX7_days_17 : decode cX7_days 17 = .ok (.iload_n 1, 1) := by decide +kernel
theorem dX7_days_18 : decode cX7_days 18 = .ok (.invokevirtual 275, 3) := by decide +kernel
theorem dX7_days_21 : decode cX7_days 21 = .ok (.ireturn, 1) := by decide +kernel
theorem dX7_money_0 : decode cX7_money 0 = .ok (.aload_n 0, 1) := by decide +kernel
theorem dX7_money_1 : decode cX7_money 1 = .ok (.iload_n 1, 1) := by decide +kernel
theorem dX7_money_2 : decode cX7_money 2 = .ok (.invokevirtual 129, 3) := by decide +kernel
theorem dX7_money_5 : decode cX7_money 5 = .ok (.ifCond .ne 7, 3) := by decide +kernel
theorem dX7_money_8 : decode cX7_money 8 = .ok (.ldc2_w 278, 3) := by decide +kernel
theorem dX7_money_11 : decode cX7_money 11 = .ok (.lreturn, 1) := by decide +kernel
theorem dX7_money_12 : decode cX7_money 12 = .ok (.iload_n 2, 1) := by decide +kernel
theorem dX7_money_13 : decode cX7_money 13 = .ok (.i2l, 1) := by decide +kernel
theorem dX7_money_14 : decode cX7_money 14 = .ok (.lconst 0, 1) := by decide +kernel
theorem dX7_money_15 : decode cX7_money 15 = .ok (.ldc2_w 125, 3) := by decide +kernel
theorem dX7_money_18 : decode cX7_money 18 = .ok (.invokestatic 47, 3) := by decide +kernel
theorem dX7_money_21 : decode cX7_money 21 = .ok (.ifCond .ne 7, 3) := by decide +kernel
theorem dX7_money_24 : decode cX7_money 24 = .ok (.ldc2_w 280, 3) := by decide +kernel
theorem dX7_money_27 : decode cX7_money 27 = .ok (.lreturn, 1) := by decide +kernel
theorem dX7_money_28 : decode cX7_money 28 = .ok (.iload_n 2, 1) := by decide +kernel
theorem dX7_money_29 : decode cX7_money 29 = .ok (.bipush 8, 2) := by decide +kernel
theorem dX7_money_31 : decode cX7_money 31 = .ok (.if_icmp .ne 11, 3) := by decide +kernel
theorem dX7_money_34 : decode cX7_money 34 = .ok (.aload_n 0, 1) := by decide +kernel
theorem dX7_money_35 : decode cX7_money 35 = .ok (.iload_n 1, 1) := by decide +kernel
theorem dX7_money_36 : decode cX7_money 36 = .ok (.invokevirtual 234, 3) := by decide +kernel
theorem dX7_money_39 : decode cX7_money 39 = .ok (.goto 9, 3) := by decide +kernel
theorem dX7_money_42 : decode cX7_money 42 = .ok (.aload_n 0, 1) := by decide +kernel
theorem dX7_money_43 : decode cX7_money 43 = .ok (.iload_n 1, 1) := by decide +kernel
theorem dX7_money_44 : decode cX7_money 44 = .ok (.iload_n 2, 1) := by decide +kernel
theorem dX7_money_45 : decode cX7_money 45 = .ok (.invokevirtual 141, 3) := by decide +kernel
theorem dX7_money_48 : decode cX7_money 48 = .ok (.lreturn, 1) := by decide +kernel
theorem dX7_bitsOf_0 : decode cX7_bitsOf 0 = .ok (.dload_n 0, 1) := by decide +kernel
theorem dX7_bitsOf_1 : decode cX7_bitsOf 1 = .ok (.dconst 0, 1) := by decide +kernel
theorem dX7_bitsOf_2 : decode cX7_bitsOf 2 = .ok (.dcmp .l, 1) := by decide +kernel
theorem dX7_bitsOf_3 : decode cX7_bitsOf 3 = .ok (.ifCond .ne 5, 3) := by decide +kernel
theorem dX7_bitsOf_6 : decode cX7_bitsOf 6 = .ok (.lconst 0, 1) := by decide +kernel
theorem dX7_bitsOf_7 : decode cX7_bitsOf 7 = .ok (.lreturn, 1) := by decide +kernel
theorem dX7_bitsOf_8 : decode cX7_bitsOf 8 = .ok (.ldc2_w 282, 3) := by decide +kernel
theorem dX7_bitsOf_11 : decode cX7_bitsOf 11 = .ok (.lstore_n 2, 1) := by decide +kernel
theorem dX7_bitsOf_12 : decode cX7_bitsOf 12 = .ok (.dload_n 0, 1) := by decide +kernel
theorem dX7_bitsOf_13 : decode cX7_bitsOf 13 = .ok (.dstore 4, 2) := by decide +kernel
theorem dX7_bitsOf_15 : decode cX7_bitsOf 15 = .ok (.dload 4, 2) := by decide +kernel
theorem dX7_bitsOf_17 : decode cX7_bitsOf 17 = .ok (.ldc2_w 284, 3) := by decide +kernel
theorem dX7_bitsOf_20 : decode cX7_bitsOf 20 = .ok (.dcmp .l, 1) := by decide +kernel
theorem dX7_bitsOf_21 : decode cX7_bitsOf 21 = .ok (.ifCond .lt 18, 3) := by decide +kernel
theorem dX7_bitsOf_24 : decode cX7_bitsOf 24 = .ok (.dload 4, 2) := by decide +kernel
theorem dX7_bitsOf_26 : decode cX7_bitsOf 26 = .ok (.ldc2_w 284, 3) := by decide +kernel
theorem dX7_bitsOf_29 : decode cX7_bitsOf 29 = .ok (.ddiv, 1) := by decide +kernel
theorem dX7_bitsOf_30 : decode cX7_bitsOf 30 = .ok (.dstore 4, 2) := by decide +kernel
theorem dX7_bitsOf_32 : decode cX7_bitsOf 32 = .ok (.lload_n 2, 1) := by decide +kernel
theorem dX7_bitsOf_33 : decode cX7_bitsOf 33 = .ok (.lconst 1, 1) := by decide +kernel
theorem dX7_bitsOf_34 : decode cX7_bitsOf 34 = .ok (.ladd, 1) := by decide +kernel
theorem dX7_bitsOf_35 : decode cX7_bitsOf 35 = .ok (.lstore_n 2, 1) := by decide +kernel
theorem dX7_bitsOf_36 : decode cX7_bitsOf 36 = .ok (.goto (-21), 3) := by decide +kernel
theorem dX7_bitsOf_39 : decode cX7_bitsOf 39 = .ok (.dload 4, 2) := by decide +kernel
theorem dX7_bitsOf_41 : decode cX7_bitsOf 41 = .ok (.dconst 1, 1) := by decide +kernel
theorem dX7_bitsOf_42 : decode cX7_bitsOf 42 = .ok (.dcmp .g, 1) := by decide +kernel
theorem dX7_bitsOf_43 : decode cX7_bitsOf 43 = .ok (.ifCond .ge 18, 3) := by decide +kernel
theorem dX7_bitsOf_46 : decode cX7_bitsOf 46 = .ok (.dload 4, 2) := by decide +kernel
theorem dX7_bitsOf_48 : decode cX7_bitsOf 48 = .ok (.ldc2_w 284, 3) := by decide +kernel
theorem dX7_bitsOf_51 : decode cX7_bitsOf 51 = .ok (.dmul, 1) := by decide +kernel
theorem dX7_bitsOf_52 : decode cX7_bitsOf 52 = .ok (.dstore 4, 2) := by decide +kernel
theorem dX7_bitsOf_54 : decode cX7_bitsOf 54 = .ok (.lload_n 2, 1) := by decide +kernel
theorem dX7_bitsOf_55 : decode cX7_bitsOf 55 = .ok (.lconst 1, 1) := by decide +kernel
theorem dX7_bitsOf_56 : decode cX7_bitsOf 56 = .ok (.lsub, 1) := by decide +kernel
theorem dX7_bitsOf_57 : decode cX7_bitsOf 57 = .ok (.lstore_n 2, 1) := by decide +kernel
theorem dX7_bitsOf_58 : decode cX7_bitsOf 58 = .ok (.goto (-19), 3) := by decide +kernel
theorem dX7_bitsOf_61 : decode cX7_bitsOf 61 = .ok (.lload_n 2, 1) := by decide +kernel
theorem dX7_bitsOf_62 : decode cX7_bitsOf 62 = .ok (.bipush 52, 2) := by decide +kernel
theorem dX7_bitsOf_64 : decode cX7_bitsOf 64 = .ok (.lshl, 1) := by decide +kernel
theorem dX7_bitsOf_65 : decode cX7_bitsOf 65 = .ok (.dload 4, 2) := by decide +kernel
theorem dX7_bitsOf_67 : decode cX7_bitsOf 67 = .ok (.dconst 1, 1) := by decide +kernel
theorem dX7_bitsOf_68 : decode cX7_bitsOf 68 = .ok (.dsub, 1) := by decide +kernel
theorem dX7_bitsOf_69 : decode cX7_bitsOf 69 = .ok (.ldc2_w 286, 3) := by decide +kernel
theorem dX7_bitsOf_72 : decode cX7_bitsOf 72 = .ok (.dmul, 1) := by decide +kernel
theorem dX7_bitsOf_73 : decode cX7_bitsOf 73 = .ok (.d2l, 1) := by decide +kernel
theorem dX7_bitsOf_74 : decode cX7_bitsOf 74 = .ok (.ladd, 1) := by decide +kernel
theorem dX7_bitsOf_75 : decode cX7_bitsOf 75 = .ok (.lreturn, 1) := by decide +kernel
theorem dX7_owedBits_0 : decode cX7_owedBits 0 = .ok (.aload_n 0, 1) := by decide +kernel
theorem dX7_owedBits_1 : decode cX7_owedBits 1 = .ok (.iload_n 1, 1) := by decide +kernel
theorem dX7_owedBits_2 : decode cX7_owedBits 2 = .ok (.invokevirtual 129, 3) := by decide +kernel
theorem dX7_owedBits_5 : decode cX7_owedBits 5 = .ok (.ifCond .eq 15, 3) := by decide +kernel
theorem dX7_owedBits_8 : decode cX7_owedBits 8 = .ok (.aload_n 0, 1) := by decide +kernel
theorem dX7_owedBits_9 : decode cX7_owedBits 9 = .ok (.getfield 13, 3) := by decide +kernel
theorem dX7_owedBits_12 : decode cX7_owedBits 12 = .ok (.iload_n 1, 1) := by decide +kernel
theorem dX7_owedBits_13 : decode cX7_owedBits 13 = .ok (.daload, 1) := by decide +kernel
theorem dX7_owedBits_14 : decode cX7_owedBits 14 = .ok (.invokestatic 288, 3) := by decide +kernel
theorem dX7_owedBits_17 : decode cX7_owedBits 17 = .ok (.goto 6, 3) := by decide +kernel
theorem dX7_owedBits_20 : decode cX7_owedBits 20 = .ok (.ldc2_w 278, 3) := by decide +kernel
theorem dX7_owedBits_23 : decode cX7_owedBits 23 = .ok (.lreturn, 1) := by decide +kernel
theorem dX7_ofOrder_0 : decode cX7_ofOrder 0 = .ok (.aload_n 0, 1) := by decide +kernel
theorem dX7_ofOrder_1 : decode cX7_ofOrder 1 = .ok (.iload_n 1, 1) := by decide +kernel
theorem dX7_ofOrder_2 : decode cX7_ofOrder 2 = .ok (.invokevirtual 173, 3) := by decide +kernel
theorem dX7_ofOrder_5 : decode cX7_ofOrder 5 = .ok (.ifCond .ne 5, 3) := by decide +kernel
theorem dX7_ofOrder_8 : decode cX7_ofOrder 8 = .ok (.iconst (-1), 1) := by decide +kernel
theorem dX7_ofOrder_9 : decode cX7_ofOrder 9 = .ok (.ireturn, 1) := by decide +kernel
theorem dX7_ofOrder_10 : decode cX7_ofOrder 10 = .ok (.iload_n 2, 1) := by decide +kernel
theorem dX7_ofOrder_11 : decode cX7_ofOrder 11 = .ok (.i2l, 1) := by decide +kernel
theorem dX7_ofOrder_12 : decode cX7_ofOrder 12 = .ok (.lconst 0, 1) := by decide +kernel
theorem dX7_ofOrder_13 : decode cX7_ofOrder 13 = .ok (.ldc2_w 292, 3) := by decide +kernel
theorem dX7_ofOrder_16 : decode cX7_ofOrder 16 = .ok (.invokestatic 47, 3) := by decide +kernel
theorem dX7_ofOrder_19 : decode cX7_ofOrder 19 = .ok (.ifCond .ne 6, 3) := by decide +kernel
theorem dX7_ofOrder_22 : decode cX7_ofOrder 22 = .ok (.bipush (-2), 2) := by decide +kernel
theorem dX7_ofOrder_24 : decode cX7_ofOrder 24 = .ok (.ireturn, 1) := by decide +kernel
theorem dX7_ofOrder_25 : decode cX7_ofOrder 25 = .ok (.iload_n 2, 1) := by decide +kernel
theorem dX7_ofOrder_26 : decode cX7_ofOrder 26 = .ok (.iconst 1, 1) := by decide +kernel
theorem dX7_ofOrder_27 : decode cX7_ofOrder 27 = .ok (.if_icmp .ne 26, 3) := by decide +kernel
theorem dX7_ofOrder_30 : decode cX7_ofOrder 30 = .ok (.aload_n 0, 1) := by decide +kernel
theorem dX7_ofOrder_31 : decode cX7_ofOrder 31 = .ok (.iload_n 1, 1) := by decide +kernel
theorem dX7_ofOrder_32 : decode cX7_ofOrder 32 = .ok (.iconst 1, 1) := by decide +kernel
theorem dX7_ofOrder_33 : decode cX7_ofOrder 33 = .ok (.invokevirtual 151, 3) := by decide +kernel
theorem dX7_ofOrder_36 : decode cX7_ofOrder 36 = .ok (.bipush 8, 2) := by decide +kernel
theorem dX7_ofOrder_38 : decode cX7_ofOrder 38 = .ok (.if_icmp .ne 8, 3) := by decide +kernel
theorem dX7_ofOrder_41 : decode cX7_ofOrder 41 = .ok (.bipush (-6), 2) := by decide +kernel
theorem dX7_ofOrder_43 : decode cX7_ofOrder 43 = .ok (.goto 9, 3) := by decide +kernel
theorem dX7_ofOrder_46 : decode cX7_ofOrder 46 = .ok (.aload_n 0, 1) := by decide +kernel
theorem dX7_ofOrder_47 : decode cX7_ofOrder 47 = .ok (.iload_n 1, 1) := by decide +kernel
theorem dX7_ofOrder_48 : decode cX7_ofOrder 48 = .ok (.iconst 1, 1) := by decide +kernel
theorem dX7_ofOrder_49 : decode cX7_ofOrder 49 = .ok (.invokevirtual 151, 3) := by decide +kernel
theorem dX7_ofOrder_52 : decode cX7_ofOrder 52 = .ok (.ireturn, 1) := by decide +kernel
theorem dX7_ofOrder_53 : decode cX7_ofOrder 53 = .ok (.iload_n 2, 1) := by decide +kernel
theorem dX7_ofOrder_54 : decode cX7_ofOrder 54 = .ok (.bipush 14, 2) := by decide +kernel
theorem dX7_ofOrder_56 : decode cX7_ofOrder 56 = .ok (.if_icmp .ne 9, 3) := by decide +kernel
theorem dX7_ofOrder_59 : decode cX7_ofOrder 59 = .ok (.aload_n 0, 1) := by decide +kernel
theorem dX7_ofOrder_60 : decode cX7_ofOrder 60 = .ok (.iload_n 1, 1) := by decide +kernel
theorem dX7_ofOrder_61 : decode cX7_ofOrder 61 = .ok (.invokevirtual 213, 3) := by decide +kernel
theorem dX7_ofOrder_64 : decode cX7_ofOrder 64 = .ok (.ireturn, 1) := by decide +kernel
theorem dX7_ofOrder_65 : decode cX7_ofOrder 65 = .ok (.iload_n 2, 1) := by decide +kernel
theorem dX7_ofOrder_66 : decode cX7_ofOrder 66 = .ok (.bipush 15, 2) := by decide +kernel
theorem dX7_ofOrder_68 : decode cX7_ofOrder 68 = .ok (.if_icmp .ge 10, 3) := by decide +kernel
theorem dX7_ofOrder_71 : decode cX7_ofOrder 71 = .ok (.aload_n 0, 1) := by decide +kernel
theorem dX7_ofOrder_72 : decode cX7_ofOrder 72 = .ok (.iload_n 1, 1) := by decide +kernel
theorem dX7_ofOrder_73 : decode cX7_ofOrder 73 = .ok (.iload_n 2, 1) := by decide +kernel
theorem dX7_ofOrder_74 : decode cX7_ofOrder 74 = .ok (.invokevirtual 151, 3) := by decide +kernel
theorem dX7_ofOrder_77 : decode cX7_ofOrder 77 = .ok (.ireturn, 1) := by decide +kernel
theorem dX7_ofOrder_78 : decode cX7_ofOrder 78 = .ok (.aload_n 0, 1) := by decide +kernel
theorem dX7_ofOrder_79 : decode cX7_ofOrder 79 = .ok (.iload_n 1, 1) := by decide +kernel
theorem dX7_ofOrder_80 : decode cX7_ofOrder 80 = .ok (.bipush 10, 2) := by decide +kernel
theorem dX7_ofOrder_82 : decode cX7_ofOrder 82 = .ok (.invokevirtual 151, 3) := by decide +kernel
theorem dX7_ofOrder_85 : decode cX7_ofOrder 85 = .ok (.iconst 2, 1) := by decide +kernel
theorem dX7_ofOrder_86 : decode cX7_ofOrder 86 = .ok (.if_icmp .ne 8, 3) := by decide +kernel
theorem dX7_ofOrder_89 : decode cX7_ofOrder 89 = .ok (.bipush (-6), 2) := by decide +kernel
theorem dX7_ofOrder_91 : decode cX7_ofOrder 91 = .ok (.goto 15, 3) := by decide +kernel
theorem dX7_ofOrder_94 : decode cX7_ofOrder 94 = .ok (.aload_n 0, 1) := by decide +kernel
theorem dX7_ofOrder_95 : decode cX7_ofOrder 95 = .ok (.iload_n 1, 1) := by decide +kernel
theorem dX7_ofOrder_96 : decode cX7_ofOrder 96 = .ok (.aload_n 0, 1) := by decide +kernel
theorem dX7_ofOrder_97 : decode cX7_ofOrder 97 = .ok (.iload_n 1, 1) := by decide +kernel
theorem dX7_ofOrder_98 : decode cX7_ofOrder 98 = .ok (.bipush 14, 2) := by decide +kernel
theorem dX7_ofOrder_100 : decode cX7_ofOrder 100 = .ok (.invokevirtual 151, 3) := by decide +kernel
theorem dX7_ofOrder_103 : decode cX7_ofOrder 103 = .ok (.invokevirtual 163, 3) := by decide +kernel
theorem dX7_ofOrder_106 : decode cX7_ofOrder 106 = .ok (.istore_n 3, 1) := by decide +kernel
theorem dX7_ofOrder_107 : decode cX7_ofOrder 107 = .ok (.iload_n 3, 1) := by decide +kernel
theorem dX7_ofOrder_108 : decode cX7_ofOrder 108 = .ok (.bipush (-6), 2) := by decide +kernel
theorem dX7_ofOrder_110 : decode cX7_ofOrder 110 = .ok (.if_icmp .ne 8, 3) := by decide +kernel
theorem dX7_ofOrder_113 : decode cX7_ofOrder 113 = .ok (.bipush (-6), 2) := by decide +kernel
theorem dX7_ofOrder_115 : decode cX7_ofOrder 115 = .ok (.goto 9, 3) := by decide +kernel
theorem dX7_ofOrder_118 : decode cX7_ofOrder 118 = .ok (.aload_n 0, 1) := by decide +kernel
theorem dX7_ofOrder_119 : decode cX7_ofOrder 119 = .ok (.iload_n 1, 1) := by decide +kernel
theorem dX7_ofOrder_120 : decode cX7_ofOrder 120 = .ok (.iload_n 3, 1) := by decide +kernel
theorem dX7_ofOrder_121 : decode cX7_ofOrder 121 = .ok (.invokevirtual 160, 3) := by decide +kernel
theorem dX7_ofOrder_124 : decode cX7_ofOrder 124 = .ok (.ireturn, 1) := by decide +kernel
theorem dX7_ofPayment_0 : decode cX7_ofPayment 0 = .ok (.iload_n 1, 1) := by decide +kernel
theorem dX7_ofPayment_1 : decode cX7_ofPayment 1 = .ok (.i2l, 1) := by decide +kernel
theorem dX7_ofPayment_2 : decode cX7_ofPayment 2 = .ok (.lconst 0, 1) := by decide +kernel
theorem dX7_ofPayment_3 : decode cX7_ofPayment 3 = .ok (.aload_n 0, 1) := by decide +kernel
theorem dX7_ofPayment_4 : decode cX7_ofPayment 4 = .ok (.getfield 7, 3) := by decide +kernel
theorem dX7_ofPayment_7 : decode cX7_ofPayment 7 = .ok (.iconst 4, 1) := by decide +kernel
theorem dX7_ofPayment_8 : decode cX7_ofPayment 8 = .ok (.laload, 1) := by decide +kernel
theorem dX7_ofPayment_9 : decode cX7_ofPayment 9 = .ok (.lconst 1, 1) := by decide +kernel
theorem dX7_ofPayment_10 : decode cX7_ofPayment 10 = .ok (.lsub, 1) := by decide +kernel
theorem dX7_ofPayment_11 : decode cX7_ofPayment 11 = .ok (.invokestatic 47, 3) := by decide +kernel
theorem dX7_ofPayment_14 : decode cX7_ofPayment 14 = .ok (.ifCond .ne 5, 3) := by decide +kernel
theorem dX7_ofPayment_17 : decode cX7_ofPayment 17 = .ok (.iconst (-1), 1) := by decide +kernel
theorem dX7_ofPayment_18 : decode cX7_ofPayment 18 = .ok (.ireturn, 1) := by decide +kernel
theorem dX7_ofPayment_19 : decode cX7_ofPayment 19 = .ok (.iload_n 2, 1) := by decide +kernel
theorem dX7_ofPayment_20 : decode cX7_ofPayment 20 = .ok (.i2l, 1) := by decide +kernel
theorem dX7_ofPayment_21 : decode cX7_ofPayment 21 = .ok (.lconst 0, 1) := by decide +kernel
theorem dX7_ofPayment_22 : decode cX7_ofPayment 22 = .ok (.ldc2_w 103, 3) := by decide +kernel
theorem dX7_ofPayment_25 : decode cX7_ofPayment 25 = .ok (.invokestatic 47, 3) := by decide +kernel
theorem dX7_ofPayment_28 : decode cX7_ofPayment 28 = .ok (.ifCond .eq 12, 3) := by decide +kernel
theorem dX7_ofPayment_31 : decode cX7_ofPayment 31 = .ok (.aload_n 0, 1) := by decide +kernel
theorem dX7_ofPayment_32 : decode cX7_ofPayment 32 = .ok (.iload_n 1, 1) := by decide +kernel
theorem dX7_ofPayment_33 : decode cX7_ofPayment 33 = .ok (.iload_n 2, 1) := by decide +kernel
theorem dX7_ofPayment_34 : decode cX7_ofPayment 34 = .ok (.invokevirtual 210, 3) := by decide +kernel
theorem dX7_ofPayment_37 : decode cX7_ofPayment 37 = .ok (.goto 5, 3) := by decide +kernel
theorem dX7_ofPayment_40 : decode cX7_ofPayment 40 = .ok (.bipush (-2), 2) := by decide +kernel
theorem dX7_ofPayment_42 : decode cX7_ofPayment 42 = .ok (.ireturn, 1) := by decide +kernel
theorem dX7_count_0 : decode cX7_count 0 = .ok (.iload_n 1, 1) := by decide +kernel
theorem dX7_count_1 : decode cX7_count 1 = .ok (.i2l, 1) := by decide +kernel
theorem dX7_count_2 : decode cX7_count 2 = .ok (.lconst 0, 1) := by decide +kernel
theorem dX7_count_3 : decode cX7_count 3 = .ok (.ldc2_w 125, 3) := by decide +kernel
theorem dX7_count_6 : decode cX7_count 6 = .ok (.invokestatic 47, 3) := by decide +kernel
theorem dX7_count_9 : decode cX7_count 9 = .ok (.ifCond .eq 9, 3) := by decide +kernel
theorem dX7_count_12 : decode cX7_count 12 = .ok (.aload_n 0, 1) := by decide +kernel
theorem dX7_count_13 : decode cX7_count 13 = .ok (.iload_n 1, 1) := by decide +kernel
theorem dX7_count_14 : decode cX7_count 14 = .ok (.invokevirtual 43, 3) := by decide +kernel
theorem dX7_count_17 : decode cX7_count 17 = .ok (.ireturn, 1) := by decide +kernel
theorem dX7_count_18 : decode cX7_count 18 = .ok (.iload_n 1, 1) := by decide +kernel
theorem dX7_count_19 : decode cX7_count 19 = .ok (.i2l, 1) := by decide +kernel
theorem dX7_count_20 : decode cX7_count 20 = .ok (.ldc2_w 294, 3) := by decide +kernel
theorem dX7_count_23 : decode cX7_count 23 = .ok (.ldc2_w 296, 3) := by decide +kernel
theorem dX7_count_26 : decode cX7_count 26 = .ok (.invokestatic 47, 3) := by decide +kernel
theorem dX7_count_29 : decode cX7_count 29 = .ok (.ifCond .eq 15, 3) := by decide +kernel
theorem dX7_count_32 : decode cX7_count 32 = .ok (.aload_n 0, 1) := by decide +kernel
theorem dX7_count_33 : decode cX7_count 33 = .ok (.bipush 9, 2) := by decide +kernel
theorem dX7_count_35 : decode cX7_count 35 = .ok (.iload_n 1, 1) := by decide +kernel
theorem dX7_count_36 : decode cX7_count 36 = .ok (.iadd, 1) := by decide +kernel
theorem dX7_count_37 : decode cX7_count 37 = .ok (.bipush 11, 2) := by decide +kernel
theorem dX7_count_39 : decode cX7_count 39 = .ok (.isub, 1) := by decide +kernel
theorem dX7_count_40 : decode cX7_count 40 = .ok (.invokevirtual 43, 3) := by decide +kernel
theorem dX7_count_43 : decode cX7_count 43 = .ok (.ireturn, 1) := by decide +kernel
theorem dX7_count_44 : decode cX7_count 44 = .ok (.iload_n 1, 1) := by decide +kernel
theorem dX7_count_45 : decode cX7_count 45 = .ok (.bipush 9, 2) := by decide +kernel
theorem dX7_count_47 : decode cX7_count 47 = .ok (.if_icmp .ne 8, 3) := by decide +kernel
theorem dX7_count_50 : decode cX7_count 50 = .ok (.aload_n 0, 1) := by decide +kernel
theorem dX7_count_51 : decode cX7_count 51 = .ok (.getfield 298, 3) := by decide +kernel
theorem dX7_count_54 : decode cX7_count 54 = .ok (.ireturn, 1) := by decide +kernel
theorem dX7_count_55 : decode cX7_count 55 = .ok (.iload_n 1, 1) := by decide +kernel
theorem dX7_count_56 : decode cX7_count 56 = .ok (.bipush 10, 2) := by decide +kernel
theorem dX7_count_58 : decode cX7_count 58 = .ok (.if_icmp .ne 10, 3) := by decide +kernel
theorem dX7_count_61 : decode cX7_count 61 = .ok (.aload_n 0, 1) := by decide +kernel
theorem dX7_count_62 : decode cX7_count 62 = .ok (.getfield 52, 3) := by decide +kernel
theorem dX7_count_65 : decode cX7_count 65 = .ok (.goto 5, 3) := by decide +kernel
theorem dX7_count_68 : decode cX7_count 68 = .ok (.bipush (-2), 2) := by decide +kernel
theorem dX7_count_70 : decode cX7_count 70 = .ok (.ireturn, 1) := by decide +kernel
theorem dX7_balanceIn_0 : decode cX7_balanceIn 0 = .ok (.aload_n 0, 1) := by decide +kernel
theorem dX7_balanceIn_1 : decode cX7_balanceIn 1 = .ok (.iload_n 1, 1) := by decide +kernel
theorem dX7_balanceIn_2 : decode cX7_balanceIn 2 = .ok (.invokevirtual 129, 3) := by decide +kernel
theorem dX7_balanceIn_5 : decode cX7_balanceIn 5 = .ok (.ifCond .ne 7, 3) := by decide +kernel
theorem dX7_balanceIn_8 : decode cX7_balanceIn 8 = .ok (.ldc2_w 278, 3) := by decide +kernel
theorem dX7_balanceIn_11 : decode cX7_balanceIn 11 = .ok (.lreturn, 1) := by decide +kernel
theorem dX7_balanceIn_12 : decode cX7_balanceIn 12 = .ok (.iload_n 2, 1) := by decide +kernel
theorem dX7_balanceIn_13 : decode cX7_balanceIn 13 = .ok (.i2l, 1) := by decide +kernel
theorem dX7_balanceIn_14 : decode cX7_balanceIn 14 = .ok (.lconst 1, 1) := by decide +kernel
theorem dX7_balanceIn_15 : decode cX7_balanceIn 15 = .ok (.ldc2_w 267, 3) := by decide +kernel
theorem dX7_balanceIn_18 : decode cX7_balanceIn 18 = .ok (.invokestatic 47, 3) := by decide +kernel
theorem dX7_balanceIn_21 : decode cX7_balanceIn 21 = .ok (.ifCond .ne 7, 3) := by decide +kernel
theorem dX7_balanceIn_24 : decode cX7_balanceIn 24 = .ok (.ldc2_w 280, 3) := by decide +kernel
theorem dX7_balanceIn_27 : decode cX7_balanceIn 27 = .ok (.lreturn, 1) := by decide +kernel
theorem dX7_balanceIn_28 : decode cX7_balanceIn 28 = .ok (.aload_n 0, 1) := by decide +kernel
theorem dX7_balanceIn_29 : decode cX7_balanceIn 29 = .ok (.bipush 8, 2) := by decide +kernel
theorem dX7_balanceIn_31 : decode cX7_balanceIn 31 = .ok (.invokevirtual 59, 3) := by decide +kernel
theorem dX7_balanceIn_34 : decode cX7_balanceIn 34 = .ok (.aload_n 0, 1) := by decide +kernel
theorem dX7_balanceIn_35 : decode cX7_balanceIn 35 = .ok (.iload_n 2, 1) := by decide +kernel
theorem dX7_balanceIn_36 : decode cX7_balanceIn 36 = .ok (.invokevirtual 275, 3) := by decide +kernel
theorem dX7_balanceIn_39 : decode cX7_balanceIn 39 = .ok (.pop, 1) := by decide +kernel
theorem dX7_balanceIn_40 : decode cX7_balanceIn 40 = .ok (.aload_n 0, 1) := by decide +kernel
theorem dX7_balanceIn_41 : decode cX7_balanceIn 41 = .ok (.iload_n 1, 1) := by decide +kernel
theorem dX7_balanceIn_42 : decode cX7_balanceIn 42 = .ok (.iconst 0, 1) := by decide +kernel
theorem dX7_balanceIn_43 : decode cX7_balanceIn 43 = .ok (.invokevirtual 141, 3) := by decide +kernel
theorem dX7_balanceIn_46 : decode cX7_balanceIn 46 = .ok (.lstore_n 3, 1) := by decide +kernel
theorem dX7_balanceIn_47 : decode cX7_balanceIn 47 = .ok (.aload_n 0, 1) := by decide +kernel
theorem dX7_balanceIn_48 : decode cX7_balanceIn 48 = .ok (.bipush 8, 2) := by decide +kernel
theorem dX7_balanceIn_50 : decode cX7_balanceIn 50 = .ok (.invokevirtual 63, 3) := by decide +kernel
theorem dX7_balanceIn_53 : decode cX7_balanceIn 53 = .ok (.lload_n 3, 1) := by decide +kernel
theorem dX7_balanceIn_54 : decode cX7_balanceIn 54 = .ok (.lreturn, 1) := by decide +kernel
theorem dX7_failsIn_0 : decode cX7_failsIn 0 = .ok (.iconst 0, 1) := by decide +kernel
theorem dX7_failsIn_1 : decode cX7_failsIn 1 = .ok (.istore_n 3, 1) := by decide +kernel
theorem dX7_failsIn_2 : decode cX7_failsIn 2 = .ok (.iload_n 3, 1) := by decide +kernel
theorem dX7_failsIn_3 : decode cX7_failsIn 3 = .ok (.iload_n 2, 1) := by decide +kernel
theorem dX7_failsIn_4 : decode cX7_failsIn 4 = .ok (.if_icmp .ge 41, 3) := by decide +kernel
theorem dX7_failsIn_7 : decode cX7_failsIn 7 = .ok (.aload_n 0, 1) := by decide +kernel
theorem dX7_failsIn_8 : decode cX7_failsIn 8 = .ok (.invokevirtual 66, 3) := by decide +kernel
theorem dX7_failsIn_11 : decode cX7_failsIn 11 = .ok (.sipush 1094, 3) := by decide +kernel
theorem dX7_failsIn_14 : decode cX7_failsIn 14 = .ok (.if_icmp .ge 31, 3) := by decide +kernel
theorem dX7_failsIn_17 : decode cX7_failsIn 17 = .ok (.aload_n 0, 1) := by decide +kernel
theorem dX7_failsIn_18 : decode cX7_failsIn 18 = .ok (.invokevirtual 66, 3) := by decide +kernel
theorem dX7_failsIn_21 : decode cX7_failsIn 21 = .ok (.istore 4, 2) := by decide +kernel
theorem dX7_failsIn_23 : decode cX7_failsIn 23 = .ok (.aload_n 0, 1) := by decide +kernel
theorem dX7_failsIn_24 : decode cX7_failsIn 24 = .ok (.invokevirtual 269, 3) := by decide +kernel
theorem dX7_failsIn_27 : decode cX7_failsIn 27 = .ok (.aload_n 0, 1) := by decide +kernel
theorem dX7_failsIn_28 : decode cX7_failsIn 28 = .ok (.getfield 241, 3) := by decide +kernel
theorem dX7_failsIn_31 : decode cX7_failsIn 31 = .ok (.iload_n 1, 1) := by decide +kernel
theorem dX7_failsIn_32 : decode cX7_failsIn 32 = .ok (.iand, 1) := by decide +kernel
theorem dX7_failsIn_33 : decode cX7_failsIn 33 = .ok (.ifCond .eq 6, 3) := by decide +kernel
theorem dX7_failsIn_36 : decode cX7_failsIn 36 = .ok (.iload 4, 2) := by decide +kernel
theorem dX7_failsIn_38 : decode cX7_failsIn 38 = .ok (.ireturn, 1) := by decide +kernel
theorem dX7_failsIn_39 : decode cX7_failsIn 39 = .ok (.iinc 3 1, 3) := by decide +kernel
theorem dX7_failsIn_42 : decode cX7_failsIn 42 = .ok (.goto (-40), 3) := by decide +kernel
theorem dX7_failsIn_45 : decode cX7_failsIn 45 = .ok (.bipush (-6), 2) := by decide +kernel
theorem dX7_failsIn_47 : decode cX7_failsIn 47 = .ok (.ireturn, 1) := by decide +kernel
theorem dX7_firstFailure_0 : decode cX7_firstFailure 0 = .ok (.iload_n 1, 1) := by decide +kernel
theorem dX7_firstFailure_1 : decode cX7_firstFailure 1 = .ok (.bipush (-6), 2) := by decide +kernel
theorem dX7_firstFailure_3 : decode cX7_firstFailure 3 = .ok (.if_icmp .eq 13, 3) := by decide +kernel
theorem dX7_firstFailure_6 : decode cX7_firstFailure 6 = .ok (.aload_n 0, 1) := by decide +kernel
theorem dX7_firstFailure_7 : decode cX7_firstFailure 7 = .ok (.iload_n 1, 1) := by decide +kernel
theorem dX7_firstFailure_8 : decode cX7_firstFailure 8 = .ok (.invokevirtual 129, 3) := by decide +kernel
theorem dX7_firstFailure_11 : decode cX7_firstFailure 11 = .ok (.ifCond .ne 5, 3) := by decide +kernel
theorem dX7_firstFailure_14 : decode cX7_firstFailure 14 = .ok (.iconst (-1), 1) := by decide +kernel
theorem dX7_firstFailure_15 : decode cX7_firstFailure 15 = .ok (.ireturn, 1) := by decide +kernel
theorem dX7_firstFailure_16 : decode cX7_firstFailure 16 = .ok (.aload_n 0, 1) := by decide +kernel
theorem dX7_firstFailure_17 : decode cX7_firstFailure 17 = .ok (.bipush 8, 2) := by decide +kernel
theorem dX7_firstFailure_19 : decode cX7_firstFailure 19 = .ok (.invokevirtual 59, 3) := by decide +kernel
theorem dX7_firstFailure_22 : decode cX7_firstFailure 22 = .ok (.aload_n 0, 1) := by decide +kernel
theorem dX7_firstFailure_23 : decode cX7_firstFailure 23 = .ok (.iload_n 1, 1) := by decide +kernel
theorem dX7_firstFailure_24 : decode cX7_firstFailure 24 = .ok (.bipush (-6), 2) := by decide +kernel
theorem dX7_firstFailure_26 : decode cX7_firstFailure 26 = .ok (.if_icmp .ne 9, 3) := by decide +kernel
theorem dX7_firstFailure_29 : decode cX7_firstFailure 29 = .ok (.sipush 255, 3) := by decide +kernel
theorem dX7_firstFailure_32 : decode cX7_firstFailure 32 = .ok (.goto 6, 3) := by decide +kernel
theorem dX7_firstFailure_35 : decode cX7_firstFailure 35 = .ok (.iconst 1, 1) := by decide +kernel
theorem dX7_firstFailure_36 : decode cX7_firstFailure 36 = .ok (.iload_n 1, 1) := by decide +kernel
theorem dX7_firstFailure_37 : decode cX7_firstFailure 37 = .ok (.ishl, 1) := by decide +kernel
theorem dX7_firstFailure_38 : decode cX7_firstFailure 38 = .ok (.sipush 400, 3) := by decide +kernel
theorem dX7_firstFailure_41 : decode cX7_firstFailure 41 = .ok (.invokevirtual 301, 3) := by decide +kernel
theorem dX7_firstFailure_44 : decode cX7_firstFailure 44 = .ok (.istore_n 2, 1) := by decide +kernel
theorem dX7_firstFailure_45 : decode cX7_firstFailure 45 = .ok (.aload_n 0, 1) := by decide +kernel
theorem dX7_firstFailure_46 : decode cX7_firstFailure 46 = .ok (.bipush 8, 2) := by decide +kernel
theorem dX7_firstFailure_48 : decode cX7_firstFailure 48 = .ok (.invokevirtual 63, 3) := by decide +kernel
theorem dX7_firstFailure_51 : decode cX7_firstFailure 51 = .ok (.iload_n 2, 1) := by decide +kernel
theorem dX7_firstFailure_52 : decode cX7_firstFailure 52 = .ok (.ireturn, 1) := by decide +kernel
theorem dX7_leastDeposit_0 : decode cX7_leastDeposit 0 = .ok (.aload_n 0, 1) := by decide +kernel
theorem dX7_leastDeposit_1 : decode cX7_leastDeposit 1 = .ok (.iload_n 1, 1) := by decide +kernel
theorem dX7_leastDeposit_2 : decode cX7_leastDeposit 2 = .ok (.invokevirtual 129, 3) := by decide +kernel
theorem dX7_leastDeposit_5 : decode cX7_leastDeposit 5 = .ok (.ifCond .ne 5, 3) := by decide +kernel
theorem dX7_leastDeposit_8 : decode cX7_leastDeposit 8 = .ok (.iconst (-1), 1) := by decide +kernel
theorem dX7_leastDeposit_9 : decode cX7_leastDeposit 9 = .ok (.ireturn, 1) := by decide +kernel
theorem dX7_leastDeposit_10 : decode cX7_leastDeposit 10 = .ok (.iload_n 2, 1) := by decide +kernel
theorem dX7_leastDeposit_11 : decode cX7_leastDeposit 11 = .ok (.i2l, 1) := by decide +kernel
theorem dX7_leastDeposit_12 : decode cX7_leastDeposit 12 = .ok (.lconst 1, 1) := by decide +kernel
theorem dX7_leastDeposit_13 : decode cX7_leastDeposit 13 = .ok (.ldc2_w 304, 3) := by decide +kernel
theorem dX7_leastDeposit_16 : decode cX7_leastDeposit 16 = .ok (.invokestatic 47, 3) := by decide +kernel
theorem dX7_leastDeposit_19 : decode cX7_leastDeposit 19 = .ok (.ifCond .ne 6, 3) := by decide +kernel
theorem dX7_leastDeposit_22 : decode cX7_leastDeposit 22 = .ok (.bipush (-2), 2) := by decide +kernel
theorem dX7_leastDeposit_24 : decode cX7_leastDeposit 24 = .ok (.ireturn, 1) := by decide +kernel
theorem dX7_leastDeposit_25 : decode cX7_leastDeposit 25 = .ok (.iconst 0, 1) := by decide +kernel
theorem dX7_leastDeposit_26 : decode cX7_leastDeposit 26 = .ok (.istore_n 3, 1) := by decide +kernel
theorem dX7_leastDeposit_27 : decode cX7_leastDeposit 27 = .ok (.iload_n 3, 1) := by decide +kernel
theorem dX7_leastDeposit_28 : decode cX7_leastDeposit 28 = .ok (.ldc_w 306, 3) := by decide +kernel
theorem dX7_leastDeposit_31 : decode cX7_leastDeposit 31 = .ok (.if_icmp .gt 51, 3) := by decide +kernel
theorem dX7_leastDeposit_34 : decode cX7_leastDeposit 34 = .ok (.aload_n 0, 1) := by decide +kernel
theorem dX7_leastDeposit_35 : decode cX7_leastDeposit 35 = .ok (.bipush 8, 2) := by decide +kernel
theorem dX7_leastDeposit_37 : decode cX7_leastDeposit 37 = .ok (.invokevirtual 59, 3) := by decide +kernel
theorem dX7_leastDeposit_40 : decode cX7_leastDeposit 40 = .ok (.aload_n 0, 1) := by decide +kernel
theorem dX7_leastDeposit_41 : decode cX7_leastDeposit 41 = .ok (.iload_n 1, 1) := by decide +kernel
theorem dX7_leastDeposit_42 : decode cX7_leastDeposit 42 = .ok (.iconst 0, 1) := by decide +kernel
theorem dX7_leastDeposit_43 : decode cX7_leastDeposit 43 = .ok (.iload_n 3, 1) := by decide +kernel
theorem dX7_leastDeposit_44 : decode cX7_leastDeposit 44 = .ok (.i2l, 1) := by decide +kernel
theorem dX7_leastDeposit_45 : decode cX7_leastDeposit 45 = .ok (.invokevirtual 137, 3) := by decide +kernel
theorem dX7_leastDeposit_48 : decode cX7_leastDeposit 48 = .ok (.aload_n 0, 1) := by decide +kernel
theorem dX7_leastDeposit_49 : decode cX7_leastDeposit 49 = .ok (.iconst 1, 1) := by decide +kernel
theorem dX7_leastDeposit_50 : decode cX7_leastDeposit 50 = .ok (.iload_n 1, 1) := by decide +kernel
theorem dX7_leastDeposit_51 : decode cX7_leastDeposit 51 = .ok (.ishl, 1) := by decide +kernel
theorem dX7_leastDeposit_52 : decode cX7_leastDeposit 52 = .ok (.iload_n 2, 1) := by decide +kernel
theorem dX7_leastDeposit_53 : decode cX7_leastDeposit 53 = .ok (.invokevirtual 301, 3) := by decide +kernel
theorem dX7_leastDeposit_56 : decode cX7_leastDeposit 56 = .ok (.istore 4, 2) := by decide +kernel
theorem dX7_leastDeposit_58 : decode cX7_leastDeposit 58 = .ok (.aload_n 0, 1) := by decide +kernel
theorem dX7_leastDeposit_59 : decode cX7_leastDeposit 59 = .ok (.bipush 8, 2) := by decide +kernel
theorem dX7_leastDeposit_61 : decode cX7_leastDeposit 61 = .ok (.invokevirtual 63, 3) := by decide +kernel
theorem dX7_leastDeposit_64 : decode cX7_leastDeposit 64 = .ok (.iload 4, 2) := by decide +kernel
theorem dX7_leastDeposit_66 : decode cX7_leastDeposit 66 = .ok (.bipush (-6), 2) := by decide +kernel
theorem dX7_leastDeposit_68 : decode cX7_leastDeposit 68 = .ok (.if_icmp .ne 5, 3) := by decide +kernel
theorem dX7_leastDeposit_71 : decode cX7_leastDeposit 71 = .ok (.iload_n 3, 1) := by decide +kernel
theorem dX7_leastDeposit_72 : decode cX7_leastDeposit 72 = .ok (.ireturn, 1) := by decide +kernel
theorem dX7_leastDeposit_73 : decode cX7_leastDeposit 73 = .ok (.iinc 3 5000, 6) := by decide +kernel
theorem dX7_leastDeposit_79 : decode cX7_leastDeposit 79 = .ok (.goto (-52), 3) := by decide +kernel
theorem dX7_leastDeposit_82 : decode cX7_leastDeposit 82 = .ok (.bipush (-6), 2) := by decide +kernel
theorem dX7_leastDeposit_84 : decode cX7_leastDeposit 84 = .ok (.ireturn, 1) := by decide +kernel
theorem dX7_ahead_0 : decode cX7_ahead 0 = .ok (.aload_n 0, 1) := by decide +kernel
theorem dX7_ahead_1 : decode cX7_ahead 1 = .ok (.iload_n 1, 1) := by decide +kernel
theorem dX7_ahead_2 : decode cX7_ahead 2 = .ok (.invokevirtual 173, 3) := by decide +kernel
theorem dX7_ahead_5 : decode cX7_ahead 5 = .ok (.ifCond .ne 5, 3) := by decide +kernel
theorem dX7_ahead_8 : decode cX7_ahead 8 = .ok (.iconst (-1), 1) := by decide +kernel
theorem dX7_ahead_9 : decode cX7_ahead 9 = .ok (.ireturn, 1) := by decide +kernel
theorem dX7_ahead_10 : decode cX7_ahead 10 = .ok (.iload_n 2, 1) := by decide +kernel
theorem dX7_ahead_11 : decode cX7_ahead 11 = .ok (.i2l, 1) := by decide +kernel
theorem dX7_ahead_12 : decode cX7_ahead 12 = .ok (.lconst 1, 1) := by decide +kernel
theorem dX7_ahead_13 : decode cX7_ahead 13 = .ok (.ldc2_w 267, 3) := by decide +kernel
theorem dX7_ahead_16 : decode cX7_ahead 16 = .ok (.invokestatic 47, 3) := by decide +kernel
theorem dX7_ahead_19 : decode cX7_ahead 19 = .ok (.ifCond .eq 15, 3) := by decide +kernel
theorem dX7_ahead_22 : decode cX7_ahead 22 = .ok (.iload_n 3, 1) := by decide +kernel
theorem dX7_ahead_23 : decode cX7_ahead 23 = .ok (.i2l, 1) := by decide +kernel
theorem dX7_ahead_24 : decode cX7_ahead 24 = .ok (.lconst 0, 1) := by decide +kernel
theorem dX7_ahead_25 : decode cX7_ahead 25 = .ok (.ldc2_w 37, 3) := by decide +kernel
theorem dX7_ahead_28 : decode cX7_ahead 28 = .ok (.invokestatic 47, 3) := by decide +kernel
theorem dX7_ahead_31 : decode cX7_ahead 31 = .ok (.ifCond .ne 6, 3) := by decide +kernel
theorem dX7_ahead_34 : decode cX7_ahead 34 = .ok (.bipush (-2), 2) := by decide +kernel
theorem dX7_ahead_36 : decode cX7_ahead 36 = .ok (.ireturn, 1) := by decide +kernel
theorem dX7_ahead_37 : decode cX7_ahead 37 = .ok (.aload_n 0, 1) := by decide +kernel
theorem dX7_ahead_38 : decode cX7_ahead 38 = .ok (.bipush 8, 2) := by decide +kernel
theorem dX7_ahead_40 : decode cX7_ahead 40 = .ok (.invokevirtual 59, 3) := by decide +kernel
theorem dX7_ahead_43 : decode cX7_ahead 43 = .ok (.iload_n 3, 1) := by decide +kernel
theorem dX7_ahead_44 : decode cX7_ahead 44 = .ok (.iconst 3, 1) := by decide +kernel
theorem dX7_ahead_45 : decode cX7_ahead 45 = .ok (.if_icmp .ne 7, 3) := by decide +kernel
theorem dX7_ahead_48 : decode cX7_ahead 48 = .ok (.iconst 0, 1) := by decide +kernel
theorem dX7_ahead_49 : decode cX7_ahead 49 = .ok (.goto 12, 3) := by decide +kernel
theorem dX7_ahead_52 : decode cX7_ahead 52 = .ok (.aload_n 0, 1) := by decide +kernel
theorem dX7_ahead_53 : decode cX7_ahead 53 = .ok (.iload_n 1, 1) := by decide +kernel
theorem dX7_ahead_54 : decode cX7_ahead 54 = .ok (.bipush 11, 2) := by decide +kernel
theorem dX7_ahead_56 : decode cX7_ahead 56 = .ok (.iload_n 3, 1) := by decide +kernel
theorem dX7_ahead_57 : decode cX7_ahead 57 = .ok (.iadd, 1) := by decide +kernel
theorem dX7_ahead_58 : decode cX7_ahead 58 = .ok (.invokevirtual 151, 3) := by decide +kernel
theorem dX7_ahead_61 : decode cX7_ahead 61 = .ok (.istore 4, 2) := by decide +kernel
theorem dX7_ahead_63 : decode cX7_ahead 63 = .ok (.aload_n 0, 1) := by decide +kernel
theorem dX7_ahead_64 : decode cX7_ahead 64 = .ok (.iload_n 2, 1) := by decide +kernel
theorem dX7_ahead_65 : decode cX7_ahead 65 = .ok (.invokevirtual 275, 3) := by decide +kernel
theorem dX7_ahead_68 : decode cX7_ahead 68 = .ok (.pop, 1) := by decide +kernel
theorem dX7_ahead_69 : decode cX7_ahead 69 = .ok (.iload_n 3, 1) := by decide +kernel
theorem dX7_ahead_70 : decode cX7_ahead 70 = .ok (.iconst 3, 1) := by decide +kernel
theorem dX7_ahead_71 : decode cX7_ahead 71 = .ok (.if_icmp .ne 11, 3) := by decide +kernel
theorem dX7_ahead_74 : decode cX7_ahead 74 = .ok (.aload_n 0, 1) := by decide +kernel
theorem dX7_ahead_75 : decode cX7_ahead 75 = .ok (.iload_n 1, 1) := by decide +kernel
theorem dX7_ahead_76 : decode cX7_ahead 76 = .ok (.invokevirtual 213, 3) := by decide +kernel
theorem dX7_ahead_79 : decode cX7_ahead 79 = .ok (.goto 12, 3) := by decide +kernel
theorem dX7_ahead_82 : decode cX7_ahead 82 = .ok (.aload_n 0, 1) := by decide +kernel
theorem dX7_ahead_83 : decode cX7_ahead 83 = .ok (.iload_n 1, 1) := by decide +kernel
theorem dX7_ahead_84 : decode cX7_ahead 84 = .ok (.bipush 11, 2) := by decide +kernel
theorem dX7_ahead_86 : decode cX7_ahead 86 = .ok (.iload_n 3, 1) := by decide +kernel
theorem dX7_ahead_87 : decode cX7_ahead 87 = .ok (.iadd, 1) := by decide +kernel
theorem dX7_ahead_88 : decode cX7_ahead 88 = .ok (.invokevirtual 151, 3) := by decide +kernel
theorem dX7_ahead_91 : decode cX7_ahead 91 = .ok (.istore 5, 2) := by decide +kernel
theorem dX7_ahead_93 : decode cX7_ahead 93 = .ok (.aload_n 0, 1) := by decide +kernel
theorem dX7_ahead_94 : decode cX7_ahead 94 = .ok (.bipush 8, 2) := by decide +kernel
theorem dX7_ahead_96 : decode cX7_ahead 96 = .ok (.invokevirtual 63, 3) := by decide +kernel
theorem dX7_ahead_99 : decode cX7_ahead 99 = .ok (.iload 5, 2) := by decide +kernel
theorem dX7_ahead_101 : decode cX7_ahead 101 = .ok (.iload 4, 2) := by decide +kernel
theorem dX7_ahead_103 : decode cX7_ahead 103 = .ok (.isub, 1) := by decide +kernel
theorem dX7_ahead_104 : decode cX7_ahead 104 = .ok (.ireturn, 1) := by decide +kernel
theorem dX7_put_0 : decode cX7_put 0 = .ok (.iconst 0, 1) := by decide +kernel
theorem dX7_put_1 : decode cX7_put 1 = .ok (.istore_n 3, 1) := by decide +kernel
theorem dX7_put_2 : decode cX7_put 2 = .ok (.iload_n 3, 1) := by decide +kernel
theorem dX7_put_3 : decode cX7_put 3 = .ok (.bipush 8, 2) := by decide +kernel
theorem dX7_put_5 : decode cX7_put 5 = .ok (.if_icmp .ge 55, 3) := by decide +kernel
theorem dX7_put_8 : decode cX7_put 8 = .ok (.lload_n 1, 1) := by decide +kernel
theorem dX7_put_9 : decode cX7_put 9 = .ok (.bipush 8, 2) := by decide +kernel
theorem dX7_put_11 : decode cX7_put 11 = .ok (.iload_n 3, 1) := by decide +kernel
theorem dX7_put_12 : decode cX7_put 12 = .ok (.imul, 1) := by decide +kernel
theorem dX7_put_13 : decode cX7_put 13 = .ok (.lshr, 1) := by decide +kernel
theorem dX7_put_14 : decode cX7_put 14 = .ok (.ldc2_w 307, 3) := by decide +kernel
theorem dX7_put_17 : decode cX7_put 17 = .ok (.land, 1) := by decide +kernel
theorem dX7_put_18 : decode cX7_put 18 = .ok (.lconst 0, 1) := by decide +kernel
theorem dX7_put_19 : decode cX7_put 19 = .ok (.lcmp, 1) := by decide +kernel
theorem dX7_put_20 : decode cX7_put 20 = .ok (.ifCond .eq 40, 3) := by decide +kernel
theorem dX7_put_23 : decode cX7_put 23 = .ok (.lload_n 1, 1) := by decide +kernel
theorem dX7_put_24 : decode cX7_put 24 = .ok (.bipush 8, 2) := by decide +kernel
theorem dX7_put_26 : decode cX7_put 26 = .ok (.iload_n 3, 1) := by decide +kernel
theorem dX7_put_27 : decode cX7_put 27 = .ok (.imul, 1) := by decide +kernel
theorem dX7_put_28 : decode cX7_put 28 = .ok (.lshr, 1) := by decide +kernel
theorem dX7_put_29 : decode cX7_put 29 = .ok (.ldc2_w 307, 3) := by decide +kernel
theorem dX7_put_32 : decode cX7_put 32 = .ok (.land, 1) := by decide +kernel
theorem dX7_put_33 : decode cX7_put 33 = .ok (.l2i, 1) := by decide +kernel
theorem dX7_put_34 : decode cX7_put 34 = .ok (.istore 4, 2) := by decide +kernel
theorem dX7_put_36 : decode cX7_put 36 = .ok (.iload 4, 2) := by decide +kernel
theorem dX7_put_38 : decode cX7_put 38 = .ok (.i2l, 1) := by decide +kernel
theorem dX7_put_39 : decode cX7_put 39 = .ok (.ldc2_w 309, 3) := by decide +kernel
theorem dX7_put_42 : decode cX7_put 42 = .ok (.ldc2_w 311, 3) := by decide +kernel
theorem dX7_put_45 : decode cX7_put 45 = .ok (.invokestatic 47, 3) := by decide +kernel
theorem dX7_put_48 : decode cX7_put 48 = .ok (.ifCond .ne 6, 3) := by decide +kernel
theorem dX7_put_51 : decode cX7_put 51 = .ok (.bipush (-2), 2) := by decide +kernel
theorem dX7_put_53 : decode cX7_put 53 = .ok (.ireturn, 1) := by decide +kernel
theorem dX7_put_54 : decode cX7_put 54 = .ok (.iinc 3 1, 3) := by decide +kernel
theorem dX7_put_57 : decode cX7_put 57 = .ok (.goto (-55), 3) := by decide +kernel
theorem dX7_put_60 : decode cX7_put 60 = .ok (.iload_n 3, 1) := by decide +kernel
theorem dX7_put_61 : decode cX7_put 61 = .ok (.ifCond .eq 20, 3) := by decide +kernel
theorem dX7_put_64 : decode cX7_put 64 = .ok (.iload_n 3, 1) := by decide +kernel
theorem dX7_put_65 : decode cX7_put 65 = .ok (.bipush 8, 2) := by decide +kernel
theorem dX7_put_67 : decode cX7_put 67 = .ok (.if_icmp .ge 17, 3) := by decide +kernel
theorem dX7_put_70 : decode cX7_put 70 = .ok (.lload_n 1, 1) := by decide +kernel
theorem dX7_put_71 : decode cX7_put 71 = .ok (.bipush 8, 2) := by decide +kernel
theorem dX7_put_73 : decode cX7_put 73 = .ok (.iload_n 3, 1) := by decide +kernel
theorem dX7_put_74 : decode cX7_put 74 = .ok (.imul, 1) := by decide +kernel
theorem dX7_put_75 : decode cX7_put 75 = .ok (.lshr, 1) := by decide +kernel
theorem dX7_put_76 : decode cX7_put 76 = .ok (.lconst 0, 1) := by decide +kernel
theorem dX7_put_77 : decode cX7_put 77 = .ok (.lcmp, 1) := by decide +kernel
theorem dX7_put_78 : decode cX7_put 78 = .ok (.ifCond .eq 6, 3) := by decide +kernel
theorem dX7_put_81 : decode cX7_put 81 = .ok (.bipush (-2), 2) := by decide +kernel
theorem dX7_put_83 : decode cX7_put 83 = .ok (.ireturn, 1) := by decide +kernel
theorem dX7_put_84 : decode cX7_put 84 = .ok (.aload_n 0, 1) := by decide +kernel
theorem dX7_put_85 : decode cX7_put 85 = .ok (.getfield 298, 3) := by decide +kernel
theorem dX7_put_88 : decode cX7_put 88 = .ok (.iload_n 3, 1) := by decide +kernel
theorem dX7_put_89 : decode cX7_put 89 = .ok (.iadd, 1) := by decide +kernel
theorem dX7_put_90 : decode cX7_put 90 = .ok (.bipush 80, 2) := by decide +kernel
theorem dX7_put_92 : decode cX7_put 92 = .ok (.if_icmp .le 6, 3) := by decide +kernel
theorem dX7_put_95 : decode cX7_put 95 = .ok (.bipush (-4), 2) := by decide +kernel
theorem dX7_put_97 : decode cX7_put 97 = .ok (.ireturn, 1) := by decide +kernel
theorem dX7_put_98 : decode cX7_put 98 = .ok (.iload_n 3, 1) := by decide +kernel
theorem dX7_put_99 : decode cX7_put 99 = .ok (.iconst 1, 1) := by decide +kernel
theorem dX7_put_100 : decode cX7_put 100 = .ok (.isub, 1) := by decide +kernel
theorem dX7_put_101 : decode cX7_put 101 = .ok (.istore 4, 2) := by decide +kernel
theorem dX7_put_103 : decode cX7_put 103 = .ok (.iload 4, 2) := by decide +kernel
theorem dX7_put_105 : decode cX7_put 105 = .ok (.ifCond .lt 40, 3) := by decide +kernel
theorem dX7_put_108 : decode cX7_put 108 = .ok (.aload_n 0, 1) := by decide +kernel
theorem dX7_put_109 : decode cX7_put 109 = .ok (.getfield 34, 3) := by decide +kernel
theorem dX7_put_112 : decode cX7_put 112 = .ok (.aload_n 0, 1) := by decide +kernel
theorem dX7_put_113 : decode cX7_put 113 = .ok (.getfield 298, 3) := by decide +kernel
theorem dX7_put_116 : decode cX7_put 116 = .ok (.lload_n 1, 1) := by decide +kernel
theorem dX7_put_117 : decode cX7_put 117 = .ok (.bipush 8, 2) := by decide +kernel
theorem dX7_put_119 : decode cX7_put 119 = .ok (.iload 4, 2) := by decide +kernel
theorem dX7_put_121 : decode cX7_put 121 = .ok (.imul, 1) := by decide +kernel
theorem dX7_put_122 : decode cX7_put 122 = .ok (.lshr, 1) := by decide +kernel
theorem dX7_put_123 : decode cX7_put 123 = .ok (.ldc2_w 307, 3) := by decide +kernel
theorem dX7_put_126 : decode cX7_put 126 = .ok (.land, 1) := by decide +kernel
theorem dX7_put_127 : decode cX7_put 127 = .ok (.l2i, 1) := by decide +kernel
theorem dX7_put_128 : decode cX7_put 128 = .ok (.iastore, 1) := by decide +kernel
theorem dX7_put_129 : decode cX7_put 129 = .ok (.aload_n 0, 1) := by decide +kernel
theorem dX7_put_130 : decode cX7_put 130 = .ok (.dup, 1) := by decide +kernel
theorem dX7_put_131 : decode cX7_put 131 = .ok (.getfield 298, 3) := by decide +kernel
theorem dX7_put_134 : decode cX7_put 134 = .ok (.iconst 1, 1) := by decide +kernel
theorem dX7_put_135 : decode cX7_put 135 = .ok (.iadd, 1) := by decide +kernel
theorem dX7_put_136 : decode cX7_put 136 = .ok (.putfield 298, 3) := by decide +kernel
theorem dX7_put_139 : decode cX7_put 139 = .ok (.iinc 4 (-1), 3) := by decide +kernel
theorem dX7_put_142 : decode cX7_put 142 = .ok (.goto (-39), 3) := by decide +kernel
theorem dX7_put_145 : decode cX7_put 145 = .ok (.aload_n 0, 1) := by decide +kernel
theorem dX7_put_146 : decode cX7_put 146 = .ok (.getfield 298, 3) := by decide +kernel
theorem dX7_put_149 : decode cX7_put 149 = .ok (.ireturn, 1) := by decide +kernel
theorem dX7_wipe_0 : decode cX7_wipe 0 = .ok (.aload_n 0, 1) := by decide +kernel
theorem dX7_wipe_1 : decode cX7_wipe 1 = .ok (.getfield 298, 3) := by decide +kernel
theorem dX7_wipe_4 : decode cX7_wipe 4 = .ok (.istore_n 1, 1) := by decide +kernel
theorem dX7_wipe_5 : decode cX7_wipe 5 = .ok (.aload_n 0, 1) := by decide +kernel
theorem dX7_wipe_6 : decode cX7_wipe 6 = .ok (.iconst 0, 1) := by decide +kernel
theorem dX7_wipe_7 : decode cX7_wipe 7 = .ok (.putfield 298, 3) := by decide +kernel
theorem dX7_wipe_10 : decode cX7_wipe 10 = .ok (.iload_n 1, 1) := by decide +kernel
theorem dX7_wipe_11 : decode cX7_wipe 11 = .ok (.ireturn, 1) := by decide +kernel
theorem dX7_passes_0 : decode cX7_passes 0 = .ok (.aload_n 0, 1) := by decide +kernel
theorem dX7_passes_1 : decode cX7_passes 1 = .ok (.getfield 313, 3) := by decide +kernel
theorem dX7_passes_4 : decode cX7_passes 4 = .ok (.aload_n 0, 1) := by decide +kernel
theorem dX7_passes_5 : decode cX7_passes 5 = .ok (.getfield 298, 3) := by decide +kernel
theorem dX7_passes_8 : decode cX7_passes 8 = .ok (.if_icmp .eq 23, 3) := by decide +kernel
theorem dX7_passes_11 : decode cX7_passes 11 = .ok (.aload_n 0, 1) := by decide +kernel
theorem dX7_passes_12 : decode cX7_passes 12 = .ok (.getfield 34, 3) := by decide +kernel
theorem dX7_passes_15 : decode cX7_passes 15 = .ok (.aload_n 0, 1) := by decide +kernel
theorem dX7_passes_16 : decode cX7_passes 16 = .ok (.getfield 313, 3) := by decide +kernel
theorem dX7_passes_19 : decode cX7_passes 19 = .ok (.iaload, 1) := by decide +kernel
theorem dX7_passes_20 : decode cX7_passes 20 = .ok (.i2l, 1) := by decide +kernel
theorem dX7_passes_21 : decode cX7_passes 21 = .ok (.iload_n 1, 1) := by decide +kernel
theorem dX7_passes_22 : decode cX7_passes 22 = .ok (.i2l, 1) := by decide +kernel
theorem dX7_passes_23 : decode cX7_passes 23 = .ok (.iload_n 2, 1) := by decide +kernel
theorem dX7_passes_24 : decode cX7_passes 24 = .ok (.i2l, 1) := by decide +kernel
theorem dX7_passes_25 : decode cX7_passes 25 = .ok (.invokestatic 47, 3) := by decide +kernel
theorem dX7_passes_28 : decode cX7_passes 28 = .ok (.ifCond .ne 5, 3) := by decide +kernel
theorem dX7_passes_31 : decode cX7_passes 31 = .ok (.iconst 0, 1) := by decide +kernel
theorem dX7_passes_32 : decode cX7_passes 32 = .ok (.ireturn, 1) := by decide +kernel
theorem dX7_passes_33 : decode cX7_passes 33 = .ok (.aload_n 0, 1) := by decide +kernel
theorem dX7_passes_34 : decode cX7_passes 34 = .ok (.aload_n 0, 1) := by decide +kernel
theorem dX7_passes_35 : decode cX7_passes 35 = .ok (.getfield 34, 3) := by decide +kernel
theorem dX7_passes_38 : decode cX7_passes 38 = .ok (.aload_n 0, 1) := by decide +kernel
theorem dX7_passes_39 : decode cX7_passes 39 = .ok (.getfield 313, 3) := by decide +kernel
theorem dX7_passes_42 : decode cX7_passes 42 = .ok (.iaload, 1) := by decide +kernel
theorem dX7_passes_43 : decode cX7_passes 43 = .ok (.bipush 48, 2) := by decide +kernel
theorem dX7_passes_45 : decode cX7_passes 45 = .ok (.isub, 1) := by decide +kernel
theorem dX7_passes_46 : decode cX7_passes 46 = .ok (.putfield 316, 3) := by decide +kernel
theorem dX7_passes_49 : decode cX7_passes 49 = .ok (.aload_n 0, 1) := by decide +kernel
theorem dX7_passes_50 : decode cX7_passes 50 = .ok (.dup, 1) := by decide +kernel
theorem dX7_passes_51 : decode cX7_passes 51 = .ok (.getfield 313, 3) := by decide +kernel
theorem dX7_passes_54 : decode cX7_passes 54 = .ok (.iconst 1, 1) := by decide +kernel
theorem dX7_passes_55 : decode cX7_passes 55 = .ok (.iadd, 1) := by decide +kernel
theorem dX7_passes_56 : decode cX7_passes 56 = .ok (.putfield 313, 3) := by decide +kernel
theorem dX7_passes_59 : decode cX7_passes 59 = .ok (.iconst 1, 1) := by decide +kernel
theorem dX7_passes_60 : decode cX7_passes 60 = .ok (.ireturn, 1) := by decide +kernel
theorem dX7_isDigitHere_0 : decode cX7_isDigitHere 0 = .ok (.aload_n 0, 1) := by decide +kernel
theorem dX7_isDigitHere_1 : decode cX7_isDigitHere 1 = .ok (.getfield 313, 3) := by decide +kernel
theorem dX7_isDigitHere_4 : decode cX7_isDigitHere 4 = .ok (.aload_n 0, 1) := by decide +kernel
theorem dX7_isDigitHere_5 : decode cX7_isDigitHere 5 = .ok (.getfield 298, 3) := by decide +kernel
theorem dX7_isDigitHere_8 : decode cX7_isDigitHere 8 = .ok (.if_icmp .ge 29, 3) := by decide +kernel
theorem dX7_isDigitHere_11 : decode cX7_isDigitHere 11 = .ok (.aload_n 0, 1) := by decide +kernel
theorem dX7_isDigitHere_12 : decode cX7_isDigitHere 12 = .ok (.getfield 34, 3) := by decide +kernel
theorem dX7_isDigitHere_15 : decode cX7_isDigitHere 15 = .ok (.aload_n 0, 1) := by decide +kernel
theorem dX7_isDigitHere_16 : decode cX7_isDigitHere 16 = .ok (.getfield 313, 3) := by decide +kernel
theorem dX7_isDigitHere_19 : decode cX7_isDigitHere 19 = .ok (.iaload, 1) := by decide +kernel
theorem dX7_isDigitHere_20 : decode cX7_isDigitHere 20 = .ok (.i2l, 1) := by decide +kernel
theorem dX7_isDigitHere_21 : decode cX7_isDigitHere 21 = .ok (.ldc2_w 319, 3) := by decide +kernel
theorem dX7_isDigitHere_24 : decode cX7_isDigitHere 24 = .ok (.ldc2_w 321, 3) := by decide +kernel
theorem dX7_isDigitHere_27 : decode cX7_isDigitHere 27 = .ok (.invokestatic 47, 3) := by decide +kernel
theorem dX7_isDigitHere_30 : decode cX7_isDigitHere 30 = .ok (.ifCond .eq 7, 3) := by decide +kernel
theorem dX7_isDigitHere_33 : decode cX7_isDigitHere 33 = .ok (.iconst 1, 1) := by decide +kernel
theorem dX7_isDigitHere_34 : decode cX7_isDigitHere 34 = .ok (.goto 4, 3) := by decide +kernel
theorem dX7_isDigitHere_37 : decode cX7_isDigitHere 37 = .ok (.iconst 0, 1) := by decide +kernel
theorem dX7_isDigitHere_38 : decode cX7_isDigitHere 38 = .ok (.ireturn, 1) := by decide +kernel
theorem dX7_passesNumber_0 : decode cX7_passesNumber 0 = .ok (.aload_n 0, 1) := by decide +kernel
theorem dX7_passesNumber_1 : decode cX7_passesNumber 1 = .ok (.bipush 48, 2) := by decide +kernel
theorem dX7_passesNumber_3 : decode cX7_passesNumber 3 = .ok (.bipush 57, 2) := by decide +kernel
theorem dX7_passesNumber_5 : decode cX7_passesNumber 5 = .ok (.invokevirtual 323, 3) := by decide +kernel
theorem dX7_passesNumber_8 : decode cX7_passesNumber 8 = .ok (.ifCond .ne 5, 3) := by decide +kernel
theorem dX7_passesNumber_11 : decode cX7_passesNumber 11 = .ok (.iconst 0, 1) := by decide +kernel
theorem dX7_passesNumber_12 : decode cX7_passesNumber 12 = .ok (.ireturn, 1) := by decide +kernel
theorem dX7_passesNumber_13 : decode cX7_passesNumber 13 = .ok (.aload_n 0, 1) := by decide +kernel
theorem dX7_passesNumber_14 : decode cX7_passesNumber 14 = .ok (.getfield 316, 3) := by decide +kernel
theorem dX7_passesNumber_17 : decode cX7_passesNumber 17 = .ok (.istore_n 1, 1) := by decide +kernel
theorem dX7_passesNumber_18 : decode cX7_passesNumber 18 = .ok (.iload_n 1, 1) := by decide +kernel
theorem dX7_passesNumber_19 : decode cX7_passesNumber 19 = .ok (.ifCond .le 52, 3) := by decide +kernel
theorem dX7_passesNumber_22 : decode cX7_passesNumber 22 = .ok (.aload_n 0, 1) := by decide +kernel
theorem dX7_passesNumber_23 : decode cX7_passesNumber 23 = .ok (.invokevirtual 326, 3) := by decide +kernel
theorem dX7_passesNumber_26 : decode cX7_passesNumber 26 = .ok (.ifCond .eq 45, 3) := by decide +kernel
theorem dX7_passesNumber_29 : decode cX7_passesNumber 29 = .ok (.bipush 10, 2) := by decide +kernel
theorem dX7_passesNumber_31 : decode cX7_passesNumber 31 = .ok (.iload_n 1, 1) := by decide +kernel
theorem dX7_passesNumber_32 : decode cX7_passesNumber 32 = .ok (.imul, 1) := by decide +kernel
theorem dX7_passesNumber_33 : decode cX7_passesNumber 33 = .ok (.aload_n 0, 1) := by decide +kernel
theorem dX7_passesNumber_34 : decode cX7_passesNumber 34 = .ok (.getfield 34, 3) := by decide +kernel
theorem dX7_passesNumber_37 : decode cX7_passesNumber 37 = .ok (.aload_n 0, 1) := by decide +kernel
theorem dX7_passesNumber_38 : decode cX7_passesNumber 38 = .ok (.getfield 313, 3) := by decide +kernel
theorem dX7_passesNumber_41 : decode cX7_passesNumber 41 = .ok (.iaload, 1) := by decide +kernel
theorem dX7_passesNumber_42 : decode cX7_passesNumber 42 = .ok (.iadd, 1) := by decide +kernel
theorem dX7_passesNumber_43 : decode cX7_passesNumber 43 = .ok (.bipush 48, 2) := by decide +kernel
theorem dX7_passesNumber_45 : decode cX7_passesNumber 45 = .ok (.isub, 1) := by decide +kernel
theorem dX7_passesNumber_46 : decode cX7_passesNumber 46 = .ok (.istore_n 2, 1) := by decide +kernel
theorem dX7_passesNumber_47 : decode cX7_passesNumber 47 = .ok (.iload_n 2, 1) := by decide +kernel
theorem dX7_passesNumber_48 : decode cX7_passesNumber 48 = .ok (.ldc_w 330, 3) := by decide +kernel
theorem dX7_passesNumber_51 : decode cX7_passesNumber 51 = .ok (.if_icmp .le 5, 3) := by decide +kernel
theorem dX7_passesNumber_54 : decode cX7_passesNumber 54 = .ok (.iconst 0, 1) := by decide +kernel
theorem dX7_passesNumber_55 : decode cX7_passesNumber 55 = .ok (.ireturn, 1) := by decide +kernel
theorem dX7_passesNumber_56 : decode cX7_passesNumber 56 = .ok (.iload_n 2, 1) := by decide +kernel
theorem dX7_passesNumber_57 : decode cX7_passesNumber 57 = .ok (.istore_n 1, 1) := by decide +kernel
theorem dX7_passesNumber_58 : decode cX7_passesNumber 58 = .ok (.aload_n 0, 1) := by decide +kernel
theorem dX7_passesNumber_59 : decode cX7_passesNumber 59 = .ok (.dup, 1) := by decide +kernel
theorem dX7_passesNumber_60 : decode cX7_passesNumber 60 = .ok (.getfield 313, 3) := by decide +kernel
theorem dX7_passesNumber_63 : decode cX7_passesNumber 63 = .ok (.iconst 1, 1) := by decide +kernel
theorem dX7_passesNumber_64 : decode cX7_passesNumber 64 = .ok (.iadd, 1) := by decide +kernel
theorem dX7_passesNumber_65 : decode cX7_passesNumber 65 = .ok (.putfield 313, 3) := by decide +kernel
theorem dX7_passesNumber_68 : decode cX7_passesNumber 68 = .ok (.goto (-50), 3) := by decide +kernel
theorem dX7_passesNumber_71 : decode cX7_passesNumber 71 = .ok (.aload_n 0, 1) := by decide +kernel
theorem dX7_passesNumber_72 : decode cX7_passesNumber 72 = .ok (.iload_n 1, 1) := by decide +kernel
theorem dX7_passesNumber_73 : decode cX7_passesNumber 73 = .ok (.putfield 316, 3) := by decide +kernel
theorem dX7_passesNumber_76 : decode cX7_passesNumber 76 = .ok (.iconst 1, 1) := by decide +kernel
theorem dX7_passesNumber_77 : decode cX7_passesNumber 77 = .ok (.ireturn, 1) := by decide +kernel
theorem dX7_passesOne_0 : decode cX7_passesOne 0 = .ok (.aload_n 0, 1) := by decide +kernel
theorem dX7_passesOne_1 : decode cX7_passesOne 1 = .ok (.iload_n 1, 1) := by decide +kernel
theorem dX7_passesOne_2 : decode cX7_passesOne 2 = .ok (.iload_n 1, 1) := by decide +kernel
theorem dX7_passesOne_3 : decode cX7_passesOne 3 = .ok (.invokevirtual 323, 3) := by decide +kernel
theorem dX7_passesOne_6 : decode cX7_passesOne 6 = .ok (.ifCond .eq 5, 3) := by decide +kernel
theorem dX7_passesOne_9 : decode cX7_passesOne 9 = .ok (.iconst 0, 1) := by decide +kernel
theorem dX7_passesOne_10 : decode cX7_passesOne 10 = .ok (.ireturn, 1) := by decide +kernel
theorem dX7_passesOne_11 : decode cX7_passesOne 11 = .ok (.aload_n 0, 1) := by decide +kernel
theorem dX7_passesOne_12 : decode cX7_passesOne 12 = .ok (.iload_n 2, 1) := by decide +kernel
theorem dX7_passesOne_13 : decode cX7_passesOne 13 = .ok (.iload_n 2, 1) := by decide +kernel
theorem dX7_passesOne_14 : decode cX7_passesOne 14 = .ok (.invokevirtual 323, 3) := by decide +kernel
theorem dX7_passesOne_17 : decode cX7_passesOne 17 = .ok (.ifCond .eq 5, 3) := by decide +kernel
theorem dX7_passesOne_20 : decode cX7_passesOne 20 = .ok (.iconst 1, 1) := by decide +kernel
theorem dX7_passesOne_21 : decode cX7_passesOne 21 = .ok (.ireturn, 1) := by decide +kernel
theorem dX7_passesOne_22 : decode cX7_passesOne 22 = .ok (.aload_n 0, 1) := by decide +kernel
theorem dX7_passesOne_23 : decode cX7_passesOne 23 = .ok (.iload_n 3, 1) := by decide +kernel
theorem dX7_passesOne_24 : decode cX7_passesOne 24 = .ok (.iload_n 3, 1) := by decide +kernel
theorem dX7_passesOne_25 : decode cX7_passesOne 25 = .ok (.invokevirtual 323, 3) := by decide +kernel
theorem dX7_passesOne_28 : decode cX7_passesOne 28 = .ok (.ifCond .eq 5, 3) := by decide +kernel
theorem dX7_passesOne_31 : decode cX7_passesOne 31 = .ok (.iconst 2, 1) := by decide +kernel
theorem dX7_passesOne_32 : decode cX7_passesOne 32 = .ok (.ireturn, 1) := by decide +kernel
theorem dX7_passesOne_33 : decode cX7_passesOne 33 = .ok (.aload_n 0, 1) := by decide +kernel
theorem dX7_passesOne_34 : decode cX7_passesOne 34 = .ok (.iload 4, 2) := by decide +kernel
theorem dX7_passesOne_36 : decode cX7_passesOne 36 = .ok (.iload 4, 2) := by decide +kernel
theorem dX7_passesOne_38 : decode cX7_passesOne 38 = .ok (.invokevirtual 323, 3) := by decide +kernel
theorem dX7_passesOne_41 : decode cX7_passesOne 41 = .ok (.ifCond .eq 7, 3) := by decide +kernel
theorem dX7_passesOne_44 : decode cX7_passesOne 44 = .ok (.iconst 3, 1) := by decide +kernel
theorem dX7_passesOne_45 : decode cX7_passesOne 45 = .ok (.goto 5, 3) := by decide +kernel
theorem dX7_passesOne_48 : decode cX7_passesOne 48 = .ok (.bipush (-6), 2) := by decide +kernel
theorem dX7_passesOne_50 : decode cX7_passesOne 50 = .ok (.ireturn, 1) := by decide +kernel
theorem dX7_passesParties_0 : decode cX7_passesParties 0 = .ok (.aload_n 0, 1) := by decide +kernel
theorem dX7_passesParties_1 : decode cX7_passesParties 1 = .ok (.bipush 48, 2) := by decide +kernel
theorem dX7_passesParties_3 : decode cX7_passesParties 3 = .ok (.bipush 55, 2) := by decide +kernel
theorem dX7_passesParties_5 : decode cX7_passesParties 5 = .ok (.invokevirtual 323, 3) := by decide +kernel
theorem dX7_passesParties_8 : decode cX7_passesParties 8 = .ok (.ifCond .ne 5, 3) := by decide +kernel
theorem dX7_passesParties_11 : decode cX7_passesParties 11 = .ok (.iconst 0, 1) := by decide +kernel
theorem dX7_passesParties_12 : decode cX7_passesParties 12 = .ok (.ireturn, 1) := by decide +kernel
theorem dX7_passesParties_13 : decode cX7_passesParties 13 = .ok (.aload_n 0, 1) := by decide +kernel
theorem dX7_passesParties_14 : decode cX7_passesParties 14 = .ok (.aload_n 0, 1) := by decide +kernel
theorem dX7_passesParties_15 : decode cX7_passesParties 15 = .ok (.getfield 316, 3) := by decide +kernel
theorem dX7_passesParties_18 : decode cX7_passesParties 18 = .ok (.putfield 331, 3) := by decide +kernel
theorem dX7_passesParties_21 : decode cX7_passesParties 21 = .ok (.aload_n 0, 1) := by decide +kernel
theorem dX7_passesParties_22 : decode cX7_passesParties 22 = .ok (.bipush 62, 2) := by decide +kernel
theorem dX7_passesParties_24 : decode cX7_passesParties 24 = .ok (.bipush 62, 2) := by decide +kernel
theorem dX7_passesParties_26 : decode cX7_passesParties 26 = .ok (.invokevirtual 323, 3) := by decide +kernel
theorem dX7_passesParties_29 : decode cX7_passesParties 29 = .ok (.ifCond .ne 5, 3) := by decide +kernel
theorem dX7_passesParties_32 : decode cX7_passesParties 32 = .ok (.iconst 0, 1) := by decide +kernel
theorem dX7_passesParties_33 : decode cX7_passesParties 33 = .ok (.ireturn, 1) := by decide +kernel
theorem dX7_passesParties_34 : decode cX7_passesParties 34 = .ok (.aload_n 0, 1) := by decide +kernel
theorem dX7_passesParties_35 : decode cX7_passesParties 35 = .ok (.bipush 8, 2) := by decide +kernel
theorem dX7_passesParties_37 : decode cX7_passesParties 37 = .ok (.putfield 334, 3) := by decide +kernel
theorem dX7_passesParties_40 : decode cX7_passesParties 40 = .ok (.aload_n 0, 1) := by decide +kernel
theorem dX7_passesParties_41 : decode cX7_passesParties 41 = .ok (.bipush 45, 2) := by decide +kernel
theorem dX7_passesParties_43 : decode cX7_passesParties 43 = .ok (.bipush 45, 2) := by decide +kernel
theorem dX7_passesParties_45 : decode cX7_passesParties 45 = .ok (.invokevirtual 323, 3) := by decide +kernel
theorem dX7_passesParties_48 : decode cX7_passesParties 48 = .ok (.ifCond .ne 24, 3) := by decide +kernel
theorem dX7_passesParties_51 : decode cX7_passesParties 51 = .ok (.aload_n 0, 1) := by decide +kernel
theorem dX7_passesParties_52 : decode cX7_passesParties 52 = .ok (.bipush 48, 2) := by decide +kernel
theorem dX7_passesParties_54 : decode cX7_passesParties 54 = .ok (.bipush 55, 2) := by decide +kernel
theorem dX7_passesParties_56 : decode cX7_passesParties 56 = .ok (.invokevirtual 323, 3) := by decide +kernel
theorem dX7_passesParties_59 : decode cX7_passesParties 59 = .ok (.ifCond .ne 5, 3) := by decide +kernel
theorem dX7_passesParties_62 : decode cX7_passesParties 62 = .ok (.iconst 0, 1) := by decide +kernel
theorem dX7_passesParties_63 : decode cX7_passesParties 63 = .ok (.ireturn, 1) := by decide +kernel
theorem dX7_passesParties_64 : decode cX7_passesParties 64 = .ok (.aload_n 0, 1) := by decide +kernel
theorem dX7_passesParties_65 : decode cX7_passesParties 65 = .ok (.aload_n 0, 1) := by decide +kernel
theorem dX7_passesParties_66 : decode cX7_passesParties 66 = .ok (.getfield 316, 3) := by decide +kernel
theorem dX7_passesParties_69 : decode cX7_passesParties 69 = .ok (.putfield 334, 3) := by decide +kernel
theorem dX7_passesParties_72 : decode cX7_passesParties 72 = .ok (.aload_n 0, 1) := by decide +kernel
theorem dX7_passesParties_73 : decode cX7_passesParties 73 = .ok (.bipush 42, 2) := by decide +kernel
theorem dX7_passesParties_75 : decode cX7_passesParties 75 = .ok (.bipush 42, 2) := by decide +kernel
theorem dX7_passesParties_77 : decode cX7_passesParties 77 = .ok (.invokevirtual 323, 3) := by decide +kernel
theorem dX7_passesParties_80 : decode cX7_passesParties 80 = .ok (.ireturn, 1) := by decide +kernel
theorem dX7_passesRule_0 : decode cX7_passesRule 0 = .ok (.aload_n 0, 1) := by decide +kernel
theorem dX7_passesRule_1 : decode cX7_passesRule 1 = .ok (.aload_n 0, 1) := by decide +kernel
theorem dX7_passesRule_2 : decode cX7_passesRule 2 = .ok (.bipush 46, 2) := by decide +kernel
theorem dX7_passesRule_4 : decode cX7_passesRule 4 = .ok (.bipush 102, 2) := by decide +kernel
theorem dX7_passesRule_6 : decode cX7_passesRule 6 = .ok (.bipush 98, 2) := by decide +kernel
theorem dX7_passesRule_8 : decode cX7_passesRule 8 = .ok (.bipush 120, 2) := by decide +kernel
theorem dX7_passesRule_10 : decode cX7_passesRule 10 = .ok (.invokevirtual 337, 3) := by decide +kernel
theorem dX7_passesRule_13 : decode cX7_passesRule 13 = .ok (.putfield 341, 3) := by decide +kernel
theorem dX7_passesRule_16 : decode cX7_passesRule 16 = .ok (.aload_n 0, 1) := by decide +kernel
theorem dX7_passesRule_17 : decode cX7_passesRule 17 = .ok (.getfield 341, 3) := by decide +kernel
theorem dX7_passesRule_20 : decode cX7_passesRule 20 = .ok (.bipush (-6), 2) := by decide +kernel
theorem dX7_passesRule_22 : decode cX7_passesRule 22 = .ok (.if_icmp .ne 19, 3) := by decide +kernel
theorem dX7_passesRule_25 : decode cX7_passesRule 25 = .ok (.aload_n 0, 1) := by decide +kernel
theorem dX7_passesRule_26 : decode cX7_passesRule 26 = .ok (.bipush 33, 2) := by decide +kernel
theorem dX7_passesRule_28 : decode cX7_passesRule 28 = .ok (.bipush 33, 2) := by decide +kernel
theorem dX7_passesRule_30 : decode cX7_passesRule 30 = .ok (.invokevirtual 323, 3) := by decide +kernel
theorem dX7_passesRule_33 : decode cX7_passesRule 33 = .ok (.ifCond .eq 8, 3) := by decide +kernel
theorem dX7_passesRule_36 : decode cX7_passesRule 36 = .ok (.aload_n 0, 1) := by decide +kernel
theorem dX7_passesRule_37 : decode cX7_passesRule 37 = .ok (.iconst 4, 1) := by decide +kernel
theorem dX7_passesRule_38 : decode cX7_passesRule 38 = .ok (.putfield 341, 3) := by decide +kernel
theorem dX7_passesRule_41 : decode cX7_passesRule 41 = .ok (.aload_n 0, 1) := by decide +kernel
theorem dX7_passesRule_42 : decode cX7_passesRule 42 = .ok (.getfield 341, 3) := by decide +kernel
theorem dX7_passesRule_45 : decode cX7_passesRule 45 = .ok (.bipush (-6), 2) := by decide +kernel
theorem dX7_passesRule_47 : decode cX7_passesRule 47 = .ok (.if_icmp .eq 7, 3) := by decide +kernel
theorem dX7_passesRule_50 : decode cX7_passesRule 50 = .ok (.iconst 1, 1) := by decide +kernel
theorem dX7_passesRule_51 : decode cX7_passesRule 51 = .ok (.goto 4, 3) := by decide +kernel
theorem dX7_passesRule_54 : decode cX7_passesRule 54 = .ok (.iconst 0, 1) := by decide +kernel
theorem dX7_passesRule_55 : decode cX7_passesRule 55 = .ok (.ireturn, 1) := by decide +kernel
theorem dX7_passesNewOrder_0 : decode cX7_passesNewOrder 0 = .ok (.aload_n 0, 1) := by decide +kernel
theorem dX7_passesNewOrder_1 : decode cX7_passesNewOrder 1 = .ok (.invokevirtual 344, 3) := by decide +kernel
theorem dX7_passesNewOrder_4 : decode cX7_passesNewOrder 4 = .ok (.ifCond .eq 10, 3) := by decide +kernel
theorem dX7_passesNewOrder_7 : decode cX7_passesNewOrder 7 = .ok (.aload_n 0, 1) := by decide +kernel
theorem dX7_passesNewOrder_8 : decode cX7_passesNewOrder 8 = .ok (.invokevirtual 347, 3) := by decide +kernel
theorem dX7_passesNewOrder_11 : decode cX7_passesNewOrder 11 = .ok (.ifCond .ne 5, 3) := by decide +kernel
theorem dX7_passesNewOrder_14 : decode cX7_passesNewOrder 14 = .ok (.iconst 0, 1) := by decide +kernel
theorem dX7_passesNewOrder_15 : decode cX7_passesNewOrder 15 = .ok (.ireturn, 1) := by decide +kernel
theorem dX7_passesNewOrder_16 : decode cX7_passesNewOrder 16 = .ok (.aload_n 0, 1) := by decide +kernel
theorem dX7_passesNewOrder_17 : decode cX7_passesNewOrder 17 = .ok (.aload_n 0, 1) := by decide +kernel
theorem dX7_passesNewOrder_18 : decode cX7_passesNewOrder 18 = .ok (.getfield 316, 3) := by decide +kernel
theorem dX7_passesNewOrder_21 : decode cX7_passesNewOrder 21 = .ok (.putfield 350, 3) := by decide +kernel
theorem dX7_passesNewOrder_24 : decode cX7_passesNewOrder 24 = .ok (.aload_n 0, 1) := by decide +kernel
theorem dX7_passesNewOrder_25 : decode cX7_passesNewOrder 25 = .ok (.aload_n 0, 1) := by decide +kernel
theorem dX7_passesNewOrder_26 : decode cX7_passesNewOrder 26 = .ok (.bipush 100, 2) := by decide +kernel
theorem dX7_passesNewOrder_28 : decode cX7_passesNewOrder 28 = .ok (.bipush 119, 2) := by decide +kernel
theorem dX7_passesNewOrder_30 : decode cX7_passesNewOrder 30 = .ok (.bipush 109, 2) := by decide +kernel
theorem dX7_passesNewOrder_32 : decode cX7_passesNewOrder 32 = .ok (.bipush 101, 2) := by decide +kernel
theorem dX7_passesNewOrder_34 : decode cX7_passesNewOrder 34 = .ok (.invokevirtual 337, 3) := by decide +kernel
theorem dX7_passesNewOrder_37 : decode cX7_passesNewOrder 37 = .ok (.putfield 353, 3) := by decide +kernel
theorem dX7_passesNewOrder_40 : decode cX7_passesNewOrder 40 = .ok (.aload_n 0, 1) := by decide +kernel
theorem dX7_passesNewOrder_41 : decode cX7_passesNewOrder 41 = .ok (.getfield 353, 3) := by decide +kernel
theorem dX7_passesNewOrder_44 : decode cX7_passesNewOrder 44 = .ok (.bipush (-6), 2) := by decide +kernel
theorem dX7_passesNewOrder_46 : decode cX7_passesNewOrder 46 = .ok (.if_icmp .eq 10, 3) := by decide +kernel
theorem dX7_passesNewOrder_49 : decode cX7_passesNewOrder 49 = .ok (.aload_n 0, 1) := by decide +kernel
theorem dX7_passesNewOrder_50 : decode cX7_passesNewOrder 50 = .ok (.invokevirtual 347, 3) := by decide +kernel
theorem dX7_passesNewOrder_53 : decode cX7_passesNewOrder 53 = .ok (.ifCond .ne 5, 3) := by decide +kernel
theorem dX7_passesNewOrder_56 : decode cX7_passesNewOrder 56 = .ok (.iconst 0, 1) := by decide +kernel
theorem dX7_passesNewOrder_57 : decode cX7_passesNewOrder 57 = .ok (.ireturn, 1) := by decide +kernel
theorem dX7_passesNewOrder_58 : decode cX7_passesNewOrder 58 = .ok (.aload_n 0, 1) := by decide +kernel
theorem dX7_passesNewOrder_59 : decode cX7_passesNewOrder 59 = .ok (.aload_n 0, 1) := by decide +kernel
theorem dX7_passesNewOrder_60 : decode cX7_passesNewOrder 60 = .ok (.getfield 316, 3) := by decide +kernel
theorem dX7_passesNewOrder_63 : decode cX7_passesNewOrder 63 = .ok (.putfield 356, 3) := by decide +kernel
theorem dX7_passesNewOrder_66 : decode cX7_passesNewOrder 66 = .ok (.aload_n 0, 1) := by decide +kernel
theorem dX7_passesNewOrder_67 : decode cX7_passesNewOrder 67 = .ok (.iconst 1, 1) := by decide +kernel
theorem dX7_passesNewOrder_68 : decode cX7_passesNewOrder 68 = .ok (.putfield 359, 3) := by decide +kernel
theorem dX7_passesNewOrder_71 : decode cX7_passesNewOrder 71 = .ok (.aload_n 0, 1) := by decide +kernel
theorem dX7_passesNewOrder_72 : decode cX7_passesNewOrder 72 = .ok (.bipush 47, 2) := by decide +kernel
theorem dX7_passesNewOrder_74 : decode cX7_passesNewOrder 74 = .ok (.bipush 47, 2) := by decide +kernel
theorem dX7_passesNewOrder_76 : decode cX7_passesNewOrder 76 = .ok (.invokevirtual 323, 3) := by decide +kernel
theorem dX7_passesNewOrder_79 : decode cX7_passesNewOrder 79 = .ok (.ifCond .eq 20, 3) := by decide +kernel
theorem dX7_passesNewOrder_82 : decode cX7_passesNewOrder 82 = .ok (.aload_n 0, 1) := by decide +kernel
theorem dX7_passesNewOrder_83 : decode cX7_passesNewOrder 83 = .ok (.invokevirtual 347, 3) := by decide +kernel
theorem dX7_passesNewOrder_86 : decode cX7_passesNewOrder 86 = .ok (.ifCond .ne 5, 3) := by decide +kernel
theorem dX7_passesNewOrder_89 : decode cX7_passesNewOrder 89 = .ok (.iconst 0, 1) := by decide +kernel
theorem dX7_passesNewOrder_90 : decode cX7_passesNewOrder 90 = .ok (.ireturn, 1) := by decide +kernel
theorem dX7_passesNewOrder_91 : decode cX7_passesNewOrder 91 = .ok (.aload_n 0, 1) := by decide +kernel
theorem dX7_passesNewOrder_92 : decode cX7_passesNewOrder 92 = .ok (.aload_n 0, 1) := by decide +kernel
theorem dX7_passesNewOrder_93 : decode cX7_passesNewOrder 93 = .ok (.getfield 316, 3) := by decide +kernel
theorem dX7_passesNewOrder_96 : decode cX7_passesNewOrder 96 = .ok (.putfield 359, 3) := by decide +kernel
theorem dX7_passesNewOrder_99 : decode cX7_passesNewOrder 99 = .ok (.aload_n 0, 1) := by decide +kernel
theorem dX7_passesNewOrder_100 : decode cX7_passesNewOrder 100 = .ok (.invokevirtual 362, 3) := by decide +kernel
theorem dX7_passesNewOrder_103 : decode cX7_passesNewOrder 103 = .ok (.ireturn, 1) := by decide +kernel
theorem dX7_passesDeposit_0 : decode cX7_passesDeposit 0 = .ok (.aload_n 0, 1) := by decide +kernel
theorem dX7_passesDeposit_1 : decode cX7_passesDeposit 1 = .ok (.bipush 48, 2) := by decide +kernel
theorem dX7_passesDeposit_3 : decode cX7_passesDeposit 3 = .ok (.bipush 55, 2) := by decide +kernel
theorem dX7_passesDeposit_5 : decode cX7_passesDeposit 5 = .ok (.invokevirtual 323, 3) := by decide +kernel
theorem dX7_passesDeposit_8 : decode cX7_passesDeposit 8 = .ok (.ifCond .ne 5, 3) := by decide +kernel
theorem dX7_passesDeposit_11 : decode cX7_passesDeposit 11 = .ok (.iconst 0, 1) := by decide +kernel
theorem dX7_passesDeposit_12 : decode cX7_passesDeposit 12 = .ok (.ireturn, 1) := by decide +kernel
theorem dX7_passesDeposit_13 : decode cX7_passesDeposit 13 = .ok (.aload_n 0, 1) := by decide +kernel
theorem dX7_passesDeposit_14 : decode cX7_passesDeposit 14 = .ok (.aload_n 0, 1) := by decide +kernel
theorem dX7_passesDeposit_15 : decode cX7_passesDeposit 15 = .ok (.getfield 316, 3) := by decide +kernel
theorem dX7_passesDeposit_18 : decode cX7_passesDeposit 18 = .ok (.putfield 331, 3) := by decide +kernel
theorem dX7_passesDeposit_21 : decode cX7_passesDeposit 21 = .ok (.aload_n 0, 1) := by decide +kernel
theorem dX7_passesDeposit_22 : decode cX7_passesDeposit 22 = .ok (.bipush 43, 2) := by decide +kernel
theorem dX7_passesDeposit_24 : decode cX7_passesDeposit 24 = .ok (.bipush 43, 2) := by decide +kernel
theorem dX7_passesDeposit_26 : decode cX7_passesDeposit 26 = .ok (.invokevirtual 323, 3) := by decide +kernel
theorem dX7_passesDeposit_29 : decode cX7_passesDeposit 29 = .ok (.ifCond .eq 10, 3) := by decide +kernel
theorem dX7_passesDeposit_32 : decode cX7_passesDeposit 32 = .ok (.aload_n 0, 1) := by decide +kernel
theorem dX7_passesDeposit_33 : decode cX7_passesDeposit 33 = .ok (.invokevirtual 347, 3) := by decide +kernel
theorem dX7_passesDeposit_36 : decode cX7_passesDeposit 36 = .ok (.ifCond .ne 5, 3) := by decide +kernel
theorem dX7_passesDeposit_39 : decode cX7_passesDeposit 39 = .ok (.iconst 0, 1) := by decide +kernel
theorem dX7_passesDeposit_40 : decode cX7_passesDeposit 40 = .ok (.ireturn, 1) := by decide +kernel
theorem dX7_passesDeposit_41 : decode cX7_passesDeposit 41 = .ok (.aload_n 0, 1) := by decide +kernel
theorem dX7_passesDeposit_42 : decode cX7_passesDeposit 42 = .ok (.aload_n 0, 1) := by decide +kernel
theorem dX7_passesDeposit_43 : decode cX7_passesDeposit 43 = .ok (.getfield 316, 3) := by decide +kernel
theorem dX7_passesDeposit_46 : decode cX7_passesDeposit 46 = .ok (.putfield 350, 3) := by decide +kernel
theorem dX7_passesDeposit_49 : decode cX7_passesDeposit 49 = .ok (.iconst 1, 1) := by decide +kernel
theorem dX7_passesDeposit_50 : decode cX7_passesDeposit 50 = .ok (.ireturn, 1) := by decide +kernel
theorem dX7_passesAct_0 : decode cX7_passesAct 0 = .ok (.aload_n 0, 1) := by decide +kernel
theorem dX7_passesAct_1 : decode cX7_passesAct 1 = .ok (.bipush 112, 2) := by decide +kernel
theorem dX7_passesAct_3 : decode cX7_passesAct 3 = .ok (.bipush 112, 2) := by decide +kernel
theorem dX7_passesAct_5 : decode cX7_passesAct 5 = .ok (.invokevirtual 323, 3) := by decide +kernel
theorem dX7_passesAct_8 : decode cX7_passesAct 8 = .ok (.ifCond .eq 13, 3) := by decide +kernel
theorem dX7_passesAct_11 : decode cX7_passesAct 11 = .ok (.aload_n 0, 1) := by decide +kernel
theorem dX7_passesAct_12 : decode cX7_passesAct 12 = .ok (.iconst 0, 1) := by decide +kernel
theorem dX7_passesAct_13 : decode cX7_passesAct 13 = .ok (.putfield 365, 3) := by decide +kernel
theorem dX7_passesAct_16 : decode cX7_passesAct 16 = .ok (.aload_n 0, 1) := by decide +kernel
theorem dX7_passesAct_17 : decode cX7_passesAct 17 = .ok (.invokevirtual 368, 3) := by decide +kernel
theorem dX7_passesAct_20 : decode cX7_passesAct 20 = .ok (.ireturn, 1) := by decide +kernel
theorem dX7_passesAct_21 : decode cX7_passesAct 21 = .ok (.aload_n 0, 1) := by decide +kernel
theorem dX7_passesAct_22 : decode cX7_passesAct 22 = .ok (.bipush 100, 2) := by decide +kernel
theorem dX7_passesAct_24 : decode cX7_passesAct 24 = .ok (.bipush 100, 2) := by decide +kernel
theorem dX7_passesAct_26 : decode cX7_passesAct 26 = .ok (.invokevirtual 323, 3) := by decide +kernel
theorem dX7_passesAct_29 : decode cX7_passesAct 29 = .ok (.ifCond .eq 13, 3) := by decide +kernel
theorem dX7_passesAct_32 : decode cX7_passesAct 32 = .ok (.aload_n 0, 1) := by decide +kernel
theorem dX7_passesAct_33 : decode cX7_passesAct 33 = .ok (.iconst 1, 1) := by decide +kernel
theorem dX7_passesAct_34 : decode cX7_passesAct 34 = .ok (.putfield 365, 3) := by decide +kernel
theorem dX7_passesAct_37 : decode cX7_passesAct 37 = .ok (.aload_n 0, 1) := by decide +kernel
theorem dX7_passesAct_38 : decode cX7_passesAct 38 = .ok (.invokevirtual 371, 3) := by decide +kernel
theorem dX7_passesAct_41 : decode cX7_passesAct 41 = .ok (.ireturn, 1) := by decide +kernel
theorem dX7_passesAct_42 : decode cX7_passesAct 42 = .ok (.aload_n 0, 1) := by decide +kernel
theorem dX7_passesAct_43 : decode cX7_passesAct 43 = .ok (.bipush 115, 2) := by decide +kernel
theorem dX7_passesAct_45 : decode cX7_passesAct 45 = .ok (.bipush 103, 2) := by decide +kernel
theorem dX7_passesAct_47 : decode cX7_passesAct 47 = .ok (.bipush 110, 2) := by decide +kernel
theorem dX7_passesAct_49 : decode cX7_passesAct 49 = .ok (.bipush 110, 2) := by decide +kernel
theorem dX7_passesAct_51 : decode cX7_passesAct 51 = .ok (.invokevirtual 337, 3) := by decide +kernel
theorem dX7_passesAct_54 : decode cX7_passesAct 54 = .ok (.istore_n 1, 1) := by decide +kernel
theorem dX7_passesAct_55 : decode cX7_passesAct 55 = .ok (.iload_n 1, 1) := by decide +kernel
theorem dX7_passesAct_56 : decode cX7_passesAct 56 = .ok (.bipush (-6), 2) := by decide +kernel
theorem dX7_passesAct_58 : decode cX7_passesAct 58 = .ok (.if_icmp .eq 10, 3) := by decide +kernel
theorem dX7_passesAct_61 : decode cX7_passesAct 61 = .ok (.aload_n 0, 1) := by decide +kernel
theorem dX7_passesAct_62 : decode cX7_passesAct 62 = .ok (.invokevirtual 347, 3) := by decide +kernel
theorem dX7_passesAct_65 : decode cX7_passesAct 65 = .ok (.ifCond .ne 5, 3) := by decide +kernel
theorem dX7_passesAct_68 : decode cX7_passesAct 68 = .ok (.iconst 0, 1) := by decide +kernel
theorem dX7_passesAct_69 : decode cX7_passesAct 69 = .ok (.ireturn, 1) := by decide +kernel
theorem dX7_passesAct_70 : decode cX7_passesAct 70 = .ok (.aload_n 0, 1) := by decide +kernel
theorem dX7_passesAct_71 : decode cX7_passesAct 71 = .ok (.iconst 2, 1) := by decide +kernel
theorem dX7_passesAct_72 : decode cX7_passesAct 72 = .ok (.iload_n 1, 1) := by decide +kernel
theorem dX7_passesAct_73 : decode cX7_passesAct 73 = .ok (.iadd, 1) := by decide +kernel
theorem dX7_passesAct_74 : decode cX7_passesAct 74 = .ok (.putfield 365, 3) := by decide +kernel
theorem dX7_passesAct_77 : decode cX7_passesAct 77 = .ok (.aload_n 0, 1) := by decide +kernel
theorem dX7_passesAct_78 : decode cX7_passesAct 78 = .ok (.aload_n 0, 1) := by decide +kernel
theorem dX7_passesAct_79 : decode cX7_passesAct 79 = .ok (.getfield 316, 3) := by decide +kernel
theorem dX7_passesAct_82 : decode cX7_passesAct 82 = .ok (.putfield 350, 3) := by decide +kernel
theorem dX7_passesAct_85 : decode cX7_passesAct 85 = .ok (.iconst 1, 1) := by decide +kernel
theorem dX7_passesAct_86 : decode cX7_passesAct 86 = .ok (.ireturn, 1) := by decide +kernel
theorem dX7_fault_0 : decode cX7_fault 0 = .ok (.aload_n 0, 1) := by decide +kernel
theorem dX7_fault_1 : decode cX7_fault 1 = .ok (.iconst 0, 1) := by decide +kernel
theorem dX7_fault_2 : decode cX7_fault 2 = .ok (.putfield 313, 3) := by decide +kernel
theorem dX7_fault_5 : decode cX7_fault 5 = .ok (.aload_n 0, 1) := by decide +kernel
theorem dX7_fault_6 : decode cX7_fault 6 = .ok (.invokevirtual 374, 3) := by decide +kernel
theorem dX7_fault_9 : decode cX7_fault 9 = .ok (.ifCond .ne 8, 3) := by decide +kernel
theorem dX7_fault_12 : decode cX7_fault 12 = .ok (.aload_n 0, 1) := by decide +kernel
theorem dX7_fault_13 : decode cX7_fault 13 = .ok (.getfield 313, 3) := by decide +kernel
theorem dX7_fault_16 : decode cX7_fault 16 = .ok (.ireturn, 1) := by decide +kernel
theorem dX7_fault_17 : decode cX7_fault 17 = .ok (.aload_n 0, 1) := by decide +kernel
theorem dX7_fault_18 : decode cX7_fault 18 = .ok (.getfield 313, 3) := by decide +kernel
theorem dX7_fault_21 : decode cX7_fault 21 = .ok (.aload_n 0, 1) := by decide +kernel
theorem dX7_fault_22 : decode cX7_fault 22 = .ok (.getfield 298, 3) := by decide +kernel
theorem dX7_fault_25 : decode cX7_fault 25 = .ok (.if_icmp .ge 26, 3) := by decide +kernel
theorem dX7_fault_28 : decode cX7_fault 28 = .ok (.aload_n 0, 1) := by decide +kernel
theorem dX7_fault_29 : decode cX7_fault 29 = .ok (.bipush 59, 2) := by decide +kernel
theorem dX7_fault_31 : decode cX7_fault 31 = .ok (.bipush 59, 2) := by decide +kernel
theorem dX7_fault_33 : decode cX7_fault 33 = .ok (.invokevirtual 323, 3) := by decide +kernel
theorem dX7_fault_36 : decode cX7_fault 36 = .ok (.ifCond .eq 10, 3) := by decide +kernel
theorem dX7_fault_39 : decode cX7_fault 39 = .ok (.aload_n 0, 1) := by decide +kernel
theorem dX7_fault_40 : decode cX7_fault 40 = .ok (.invokevirtual 374, 3) := by decide +kernel
theorem dX7_fault_43 : decode cX7_fault 43 = .ok (.ifCond .ne (-26), 3) := by decide +kernel
theorem dX7_fault_46 : decode cX7_fault 46 = .ok (.aload_n 0, 1) := by decide +kernel
theorem dX7_fault_47 : decode cX7_fault 47 = .ok (.getfield 313, 3) := by decide +kernel
theorem dX7_fault_50 : decode cX7_fault 50 = .ok (.ireturn, 1) := by decide +kernel
theorem dX7_fault_51 : decode cX7_fault 51 = .ok (.bipush (-6), 2) := by decide +kernel
theorem dX7_fault_53 : decode cX7_fault 53 = .ok (.ireturn, 1) := by decide +kernel
theorem dX7_doesNewOrder_0 : decode cX7_doesNewOrder 0 = .ok (.aload_n 0, 1) := by decide +kernel
theorem dX7_doesNewOrder_1 : decode cX7_doesNewOrder 1 = .ok (.getfield 356, 3) := by decide +kernel
theorem dX7_doesNewOrder_4 : decode cX7_doesNewOrder 4 = .ok (.bipush 99, 2) := by decide +kernel
theorem dX7_doesNewOrder_6 : decode cX7_doesNewOrder 6 = .ok (.if_icmp .gt 12, 3) := by decide +kernel
theorem dX7_doesNewOrder_9 : decode cX7_doesNewOrder 9 = .ok (.aload_n 0, 1) := by decide +kernel
theorem dX7_doesNewOrder_10 : decode cX7_doesNewOrder 10 = .ok (.getfield 359, 3) := by decide +kernel
theorem dX7_doesNewOrder_13 : decode cX7_doesNewOrder 13 = .ok (.bipush 99, 2) := by decide +kernel
theorem dX7_doesNewOrder_15 : decode cX7_doesNewOrder 15 = .ok (.if_icmp .le 13, 3) := by decide +kernel
theorem dX7_doesNewOrder_18 : decode cX7_doesNewOrder 18 = .ok (.aload_n 0, 1) := by decide +kernel
theorem dX7_doesNewOrder_19 : decode cX7_doesNewOrder 19 = .ok (.iconst 0, 1) := by decide +kernel
theorem dX7_doesNewOrder_20 : decode cX7_doesNewOrder 20 = .ok (.putfield 356, 3) := by decide +kernel
theorem dX7_doesNewOrder_23 : decode cX7_doesNewOrder 23 = .ok (.aload_n 0, 1) := by decide +kernel
theorem dX7_doesNewOrder_24 : decode cX7_doesNewOrder 24 = .ok (.iconst 0, 1) := by decide +kernel
theorem dX7_doesNewOrder_25 : decode cX7_doesNewOrder 25 = .ok (.putfield 359, 3) := by decide +kernel
theorem dX7_doesNewOrder_28 : decode cX7_doesNewOrder 28 = .ok (.bipush 9, 2) := by decide +kernel
theorem dX7_doesNewOrder_30 : decode cX7_doesNewOrder 30 = .ok (.aload_n 0, 1) := by decide +kernel
theorem dX7_doesNewOrder_31 : decode cX7_doesNewOrder 31 = .ok (.getfield 331, 3) := by decide +kernel
theorem dX7_doesNewOrder_34 : decode cX7_doesNewOrder 34 = .ok (.imul, 1) := by decide +kernel
theorem dX7_doesNewOrder_35 : decode cX7_doesNewOrder 35 = .ok (.aload_n 0, 1) := by decide +kernel
theorem dX7_doesNewOrder_36 : decode cX7_doesNewOrder 36 = .ok (.getfield 334, 3) := by decide +kernel
theorem dX7_doesNewOrder_39 : decode cX7_doesNewOrder 39 = .ok (.iadd, 1) := by decide +kernel
theorem dX7_doesNewOrder_40 : decode cX7_doesNewOrder 40 = .ok (.istore_n 1, 1) := by decide +kernel
theorem dX7_doesNewOrder_41 : decode cX7_doesNewOrder 41 = .ok (.sipush 10000, 3) := by decide +kernel
theorem dX7_doesNewOrder_44 : decode cX7_doesNewOrder 44 = .ok (.aload_n 0, 1) := by decide +kernel
theorem dX7_doesNewOrder_45 : decode cX7_doesNewOrder 45 = .ok (.getfield 353, 3) := by decide +kernel
theorem dX7_doesNewOrder_48 : decode cX7_doesNewOrder 48 = .ok (.imul, 1) := by decide +kernel
theorem dX7_doesNewOrder_49 : decode cX7_doesNewOrder 49 = .ok (.bipush 100, 2) := by decide +kernel
theorem dX7_doesNewOrder_51 : decode cX7_doesNewOrder 51 = .ok (.aload_n 0, 1) := by decide +kernel
theorem dX7_doesNewOrder_52 : decode cX7_doesNewOrder 52 = .ok (.getfield 356, 3) := by decide +kernel
theorem dX7_doesNewOrder_55 : decode cX7_doesNewOrder 55 = .ok (.imul, 1) := by decide +kernel
theorem dX7_doesNewOrder_56 : decode cX7_doesNewOrder 56 = .ok (.iadd, 1) := by decide +kernel
theorem dX7_doesNewOrder_57 : decode cX7_doesNewOrder 57 = .ok (.aload_n 0, 1) := by decide +kernel
theorem dX7_doesNewOrder_58 : decode cX7_doesNewOrder 58 = .ok (.getfield 359, 3) := by decide +kernel
theorem dX7_doesNewOrder_61 : decode cX7_doesNewOrder 61 = .ok (.iadd, 1) := by decide +kernel
theorem dX7_doesNewOrder_62 : decode cX7_doesNewOrder 62 = .ok (.istore_n 2, 1) := by decide +kernel
theorem dX7_doesNewOrder_63 : decode cX7_doesNewOrder 63 = .ok (.aload_n 0, 1) := by decide +kernel
theorem dX7_doesNewOrder_64 : decode cX7_doesNewOrder 64 = .ok (.iload_n 1, 1) := by decide +kernel
theorem dX7_doesNewOrder_65 : decode cX7_doesNewOrder 65 = .ok (.aload_n 0, 1) := by decide +kernel
theorem dX7_doesNewOrder_66 : decode cX7_doesNewOrder 66 = .ok (.getfield 350, 3) := by decide +kernel
theorem dX7_doesNewOrder_69 : decode cX7_doesNewOrder 69 = .ok (.iload_n 2, 1) := by decide +kernel
theorem dX7_doesNewOrder_70 : decode cX7_doesNewOrder 70 = .ok (.aload_n 0, 1) := by decide +kernel
theorem dX7_doesNewOrder_71 : decode cX7_doesNewOrder 71 = .ok (.invokevirtual 66, 3) := by decide +kernel
theorem dX7_doesNewOrder_74 : decode cX7_doesNewOrder 74 = .ok (.bipush 10, 2) := by decide +kernel
theorem dX7_doesNewOrder_76 : decode cX7_doesNewOrder 76 = .ok (.aload_n 0, 1) := by decide +kernel
theorem dX7_doesNewOrder_77 : decode cX7_doesNewOrder 77 = .ok (.getfield 341, 3) := by decide +kernel
theorem dX7_doesNewOrder_80 : decode cX7_doesNewOrder 80 = .ok (.imul, 1) := by decide +kernel
theorem dX7_doesNewOrder_81 : decode cX7_doesNewOrder 81 = .ok (.iconst 5, 1) := by decide +kernel
theorem dX7_doesNewOrder_82 : decode cX7_doesNewOrder 82 = .ok (.iadd, 1) := by decide +kernel
theorem dX7_doesNewOrder_83 : decode cX7_doesNewOrder 83 = .ok (.iconst 0, 1) := by decide +kernel
theorem dX7_doesNewOrder_84 : decode cX7_doesNewOrder 84 = .ok (.invokevirtual 191, 3) := by decide +kernel
theorem dX7_doesNewOrder_87 : decode cX7_doesNewOrder 87 = .ok (.istore_n 3, 1) := by decide +kernel
theorem dX7_doesNewOrder_88 : decode cX7_doesNewOrder 88 = .ok (.iload_n 3, 1) := by decide +kernel
theorem dX7_doesNewOrder_89 : decode cX7_doesNewOrder 89 = .ok (.ifCond .eq 7, 3) := by decide +kernel
theorem dX7_doesNewOrder_92 : decode cX7_doesNewOrder 92 = .ok (.iload_n 3, 1) := by decide +kernel
theorem dX7_doesNewOrder_93 : decode cX7_doesNewOrder 93 = .ok (.goto 27, 3) := by decide +kernel
theorem dX7_doesNewOrder_96 : decode cX7_doesNewOrder 96 = .ok (.aload_n 0, 1) := by decide +kernel
theorem dX7_doesNewOrder_97 : decode cX7_doesNewOrder 97 = .ok (.iload_n 1, 1) := by decide +kernel
theorem dX7_doesNewOrder_98 : decode cX7_doesNewOrder 98 = .ok (.aload_n 0, 1) := by decide +kernel
theorem dX7_doesNewOrder_99 : decode cX7_doesNewOrder 99 = .ok (.getfield 350, 3) := by decide +kernel
theorem dX7_doesNewOrder_102 : decode cX7_doesNewOrder 102 = .ok (.iload_n 2, 1) := by decide +kernel
theorem dX7_doesNewOrder_103 : decode cX7_doesNewOrder 103 = .ok (.aload_n 0, 1) := by decide +kernel
theorem dX7_doesNewOrder_104 : decode cX7_doesNewOrder 104 = .ok (.invokevirtual 66, 3) := by decide +kernel
theorem dX7_doesNewOrder_107 : decode cX7_doesNewOrder 107 = .ok (.bipush 10, 2) := by decide +kernel
theorem dX7_doesNewOrder_109 : decode cX7_doesNewOrder 109 = .ok (.aload_n 0, 1) := by decide +kernel
theorem dX7_doesNewOrder_110 : decode cX7_doesNewOrder 110 = .ok (.getfield 341, 3) := by decide +kernel
theorem dX7_doesNewOrder_113 : decode cX7_doesNewOrder 113 = .ok (.imul, 1) := by decide +kernel
theorem dX7_doesNewOrder_114 : decode cX7_doesNewOrder 114 = .ok (.iconst 5, 1) := by decide +kernel
theorem dX7_doesNewOrder_115 : decode cX7_doesNewOrder 115 = .ok (.iadd, 1) := by decide +kernel
theorem dX7_doesNewOrder_116 : decode cX7_doesNewOrder 116 = .ok (.iconst 0, 1) := by decide +kernel
theorem dX7_doesNewOrder_117 : decode cX7_doesNewOrder 117 = .ok (.invokevirtual 195, 3) := by decide +kernel
theorem dX7_doesNewOrder_120 : decode cX7_doesNewOrder 120 = .ok (.ireturn, 1) := by decide +kernel
theorem dX7_does_0 : decode cX7_does 0 = .ok (.aload_n 0, 1) := by decide +kernel
theorem dX7_does_1 : decode cX7_does 1 = .ok (.getfield 365, 3) := by decide +kernel
theorem dX7_does_4 : decode cX7_does 4 = .ok (.tableswitch 125 0 3 #[32, 37, 71, 98], 32) := by decide +kernel
theorem dX7_does_36 : decode cX7_does 36 = .ok (.aload_n 0, 1) := by decide +kernel
theorem dX7_does_37 : decode cX7_does 37 = .ok (.invokevirtual 377, 3) := by decide +kernel
theorem dX7_does_40 : decode cX7_does 40 = .ok (.ireturn, 1) := by decide +kernel
theorem dX7_does_41 : decode cX7_does 41 = .ok (.aload_n 0, 1) := by decide +kernel
theorem dX7_does_42 : decode cX7_does 42 = .ok (.aload_n 0, 1) := by decide +kernel
theorem dX7_does_43 : decode cX7_does 43 = .ok (.getfield 331, 3) := by decide +kernel
theorem dX7_does_46 : decode cX7_does 46 = .ok (.aload_n 0, 1) := by decide +kernel
theorem dX7_does_47 : decode cX7_does 47 = .ok (.getfield 350, 3) := by decide +kernel
theorem dX7_does_50 : decode cX7_does 50 = .ok (.invokevirtual 145, 3) := by decide +kernel
theorem dX7_does_53 : decode cX7_does 53 = .ok (.istore_n 1, 1) := by decide +kernel
theorem dX7_does_54 : decode cX7_does 54 = .ok (.iload_n 1, 1) := by decide +kernel
theorem dX7_does_55 : decode cX7_does 55 = .ok (.ifCond .eq 7, 3) := by decide +kernel
theorem dX7_does_58 : decode cX7_does 58 = .ok (.iload_n 1, 1) := by decide +kernel
theorem dX7_does_59 : decode cX7_does 59 = .ok (.goto 15, 3) := by decide +kernel
theorem dX7_does_62 : decode cX7_does 62 = .ok (.aload_n 0, 1) := by decide +kernel
theorem dX7_does_63 : decode cX7_does 63 = .ok (.aload_n 0, 1) := by decide +kernel
theorem dX7_does_64 : decode cX7_does 64 = .ok (.getfield 331, 3) := by decide +kernel
theorem dX7_does_67 : decode cX7_does 67 = .ok (.aload_n 0, 1) := by decide +kernel
theorem dX7_does_68 : decode cX7_does 68 = .ok (.getfield 350, 3) := by decide +kernel
theorem dX7_does_71 : decode cX7_does 71 = .ok (.invokevirtual 148, 3) := by decide +kernel
theorem dX7_does_74 : decode cX7_does 74 = .ok (.ireturn, 1) := by decide +kernel
theorem dX7_does_75 : decode cX7_does 75 = .ok (.aload_n 0, 1) := by decide +kernel
theorem dX7_does_76 : decode cX7_does 76 = .ok (.aload_n 0, 1) := by decide +kernel
theorem dX7_does_77 : decode cX7_does 77 = .ok (.getfield 350, 3) := by decide +kernel
theorem dX7_does_80 : decode cX7_does 80 = .ok (.iconst 0, 1) := by decide +kernel
theorem dX7_does_81 : decode cX7_does 81 = .ok (.invokevirtual 216, 3) := by decide +kernel
theorem dX7_does_84 : decode cX7_does 84 = .ok (.istore_n 1, 1) := by decide +kernel
theorem dX7_does_85 : decode cX7_does 85 = .ok (.iload_n 1, 1) := by decide +kernel
theorem dX7_does_86 : decode cX7_does 86 = .ok (.ifCond .eq 7, 3) := by decide +kernel
theorem dX7_does_89 : decode cX7_does 89 = .ok (.iload_n 1, 1) := by decide +kernel
theorem dX7_does_90 : decode cX7_does 90 = .ok (.goto 11, 3) := by decide +kernel
theorem dX7_does_93 : decode cX7_does 93 = .ok (.aload_n 0, 1) := by decide +kernel
theorem dX7_does_94 : decode cX7_does 94 = .ok (.aload_n 0, 1) := by decide +kernel
theorem dX7_does_95 : decode cX7_does 95 = .ok (.getfield 350, 3) := by decide +kernel
theorem dX7_does_98 : decode cX7_does 98 = .ok (.invokevirtual 219, 3) := by decide +kernel
theorem dX7_does_101 : decode cX7_does 101 = .ok (.ireturn, 1) := by decide +kernel
theorem dX7_does_102 : decode cX7_does 102 = .ok (.aload_n 0, 1) := by decide +kernel
theorem dX7_does_103 : decode cX7_does 103 = .ok (.aload_n 0, 1) := by decide +kernel
theorem dX7_does_104 : decode cX7_does 104 = .ok (.getfield 350, 3) := by decide +kernel
theorem dX7_does_107 : decode cX7_does 107 = .ok (.iconst 1, 1) := by decide +kernel
theorem dX7_does_108 : decode cX7_does 108 = .ok (.invokevirtual 216, 3) := by decide +kernel
theorem dX7_does_111 : decode cX7_does 111 = .ok (.istore_n 1, 1) := by decide +kernel
theorem dX7_does_112 : decode cX7_does 112 = .ok (.iload_n 1, 1) := by decide +kernel
theorem dX7_does_113 : decode cX7_does 113 = .ok (.ifCond .eq 7, 3) := by decide +kernel
theorem dX7_does_116 : decode cX7_does 116 = .ok (.iload_n 1, 1) := by decide +kernel
theorem dX7_does_117 : decode cX7_does 117 = .ok (.goto 11, 3) := by decide +kernel
theorem dX7_does_120 : decode cX7_does 120 = .ok (.aload_n 0, 1) := by decide +kernel
theorem dX7_does_121 : decode cX7_does 121 = .ok (.aload_n 0, 1) := by decide +kernel
theorem dX7_does_122 : decode cX7_does 122 = .ok (.getfield 350, 3) := by decide +kernel
theorem dX7_does_125 : decode cX7_does 125 = .ok (.invokevirtual 222, 3) := by decide +kernel
theorem dX7_does_128 : decode cX7_does 128 = .ok (.ireturn, 1) := by decide +kernel
theorem dX7_does_129 : decode cX7_does 129 = .ok (.aload_n 0, 1) := by decide +kernel
theorem dX7_does_130 : decode cX7_does 130 = .ok (.aload_n 0, 1) := by decide +kernel
theorem dX7_does_131 : decode cX7_does 131 = .ok (.getfield 350, 3) := by decide +kernel
theorem dX7_does_134 : decode cX7_does 134 = .ok (.invokevirtual 272, 3) := by decide +kernel
theorem dX7_does_137 : decode cX7_does 137 = .ok (.istore_n 1, 1) := by decide +kernel
theorem dX7_does_138 : decode cX7_does 138 = .ok (.iload_n 1, 1) := by decide +kernel
theorem dX7_does_139 : decode cX7_does 139 = .ok (.ifCond .eq 7, 3) := by decide +kernel
theorem dX7_does_142 : decode cX7_does 142 = .ok (.iload_n 1, 1) := by decide +kernel
theorem dX7_does_143 : decode cX7_does 143 = .ok (.goto 11, 3) := by decide +kernel
theorem dX7_does_146 : decode cX7_does 146 = .ok (.aload_n 0, 1) := by decide +kernel
theorem dX7_does_147 : decode cX7_does 147 = .ok (.aload_n 0, 1) := by decide +kernel
theorem dX7_does_148 : decode cX7_does 148 = .ok (.getfield 350, 3) := by decide +kernel
theorem dX7_does_151 : decode cX7_does 151 = .ok (.invokevirtual 275, 3) := by decide +kernel
theorem dX7_does_154 : decode cX7_does 154 = .ok (.ireturn, 1) := by decide +kernel
theorem dX7_carryOut_0 : decode cX7_carryOut 0 = .ok (.aload_n 0, 1) := by decide +kernel
theorem dX7_carryOut_1 : decode cX7_carryOut 1 = .ok (.invokevirtual 380, 3) := by decide +kernel
theorem dX7_carryOut_4 : decode cX7_carryOut 4 = .ok (.bipush (-6), 2) := by decide +kernel
theorem dX7_carryOut_6 : decode cX7_carryOut 6 = .ok (.if_icmp .eq 6, 3) := by decide +kernel
theorem dX7_carryOut_9 : decode cX7_carryOut 9 = .ok (.bipush (-3), 2) := by decide +kernel
theorem dX7_carryOut_11 : decode cX7_carryOut 11 = .ok (.ireturn, 1) := by decide +kernel
theorem dX7_carryOut_12 : decode cX7_carryOut 12 = .ok (.aload_n 0, 1) := by decide +kernel
theorem dX7_carryOut_13 : decode cX7_carryOut 13 = .ok (.invokevirtual 70, 3) := by decide +kernel
theorem dX7_carryOut_16 : decode cX7_carryOut 16 = .ok (.iconst 0, 1) := by decide +kernel
theorem dX7_carryOut_17 : decode cX7_carryOut 17 = .ok (.istore_n 1, 1) := by decide +kernel
theorem dX7_carryOut_18 : decode cX7_carryOut 18 = .ok (.iconst 1, 1) := by decide +kernel
theorem dX7_carryOut_19 : decode cX7_carryOut 19 = .ok (.istore_n 2, 1) := by decide +kernel
theorem dX7_carryOut_20 : decode cX7_carryOut 20 = .ok (.aload_n 0, 1) := by decide +kernel
theorem dX7_carryOut_21 : decode cX7_carryOut 21 = .ok (.iconst 0, 1) := by decide +kernel
theorem dX7_carryOut_22 : decode cX7_carryOut 22 = .ok (.putfield 313, 3) := by decide +kernel
theorem dX7_carryOut_25 : decode cX7_carryOut 25 = .ok (.iload_n 2, 1) := by decide +kernel
theorem dX7_carryOut_26 : decode cX7_carryOut 26 = .ok (.ifCond .eq 69, 3) := by decide +kernel
theorem dX7_carryOut_29 : decode cX7_carryOut 29 = .ok (.aload_n 0, 1) := by decide +kernel
theorem dX7_carryOut_30 : decode cX7_carryOut 30 = .ok (.invokevirtual 374, 3) := by decide +kernel
theorem dX7_carryOut_33 : decode cX7_carryOut 33 = .ok (.ifCond .eq 14, 3) := by decide +kernel
theorem dX7_carryOut_36 : decode cX7_carryOut 36 = .ok (.aload_n 0, 1) := by decide +kernel
theorem dX7_carryOut_37 : decode cX7_carryOut 37 = .ok (.invokevirtual 383, 3) := by decide +kernel
theorem dX7_carryOut_40 : decode cX7_carryOut 40 = .ok (.ifCond .lt 7, 3) := by decide +kernel
theorem dX7_carryOut_43 : decode cX7_carryOut 43 = .ok (.iconst 1, 1) := by decide +kernel
theorem dX7_carryOut_44 : decode cX7_carryOut 44 = .ok (.goto 4, 3) := by decide +kernel
theorem dX7_carryOut_47 : decode cX7_carryOut 47 = .ok (.iconst 0, 1) := by decide +kernel
theorem dX7_carryOut_48 : decode cX7_carryOut 48 = .ok (.istore_n 2, 1) := by decide +kernel
theorem dX7_carryOut_49 : decode cX7_carryOut 49 = .ok (.iload_n 1, 1) := by decide +kernel
theorem dX7_carryOut_50 : decode cX7_carryOut 50 = .ok (.iload_n 2, 1) := by decide +kernel
theorem dX7_carryOut_51 : decode cX7_carryOut 51 = .ok (.ifCond .eq 7, 3) := by decide +kernel
theorem dX7_carryOut_54 : decode cX7_carryOut 54 = .ok (.iconst 1, 1) := by decide +kernel
theorem dX7_carryOut_55 : decode cX7_carryOut 55 = .ok (.goto 4, 3) := by decide +kernel
theorem dX7_carryOut_58 : decode cX7_carryOut 58 = .ok (.iconst 0, 1) := by decide +kernel
theorem dX7_carryOut_59 : decode cX7_carryOut 59 = .ok (.iadd, 1) := by decide +kernel
theorem dX7_carryOut_60 : decode cX7_carryOut 60 = .ok (.istore_n 1, 1) := by decide +kernel
theorem dX7_carryOut_61 : decode cX7_carryOut 61 = .ok (.iload_n 2, 1) := by decide +kernel
theorem dX7_carryOut_62 : decode cX7_carryOut 62 = .ok (.ifCond .eq 18, 3) := by decide +kernel
theorem dX7_carryOut_65 : decode cX7_carryOut 65 = .ok (.aload_n 0, 1) := by decide +kernel
theorem dX7_carryOut_66 : decode cX7_carryOut 66 = .ok (.getfield 313, 3) := by decide +kernel
theorem dX7_carryOut_69 : decode cX7_carryOut 69 = .ok (.aload_n 0, 1) := by decide +kernel
theorem dX7_carryOut_70 : decode cX7_carryOut 70 = .ok (.getfield 298, 3) := by decide +kernel
theorem dX7_carryOut_73 : decode cX7_carryOut 73 = .ok (.if_icmp .ge 7, 3) := by decide +kernel
theorem dX7_carryOut_76 : decode cX7_carryOut 76 = .ok (.iconst 1, 1) := by decide +kernel
theorem dX7_carryOut_77 : decode cX7_carryOut 77 = .ok (.goto 4, 3) := by decide +kernel
theorem dX7_carryOut_80 : decode cX7_carryOut 80 = .ok (.iconst 0, 1) := by decide +kernel
theorem dX7_carryOut_81 : decode cX7_carryOut 81 = .ok (.istore_n 2, 1) := by decide +kernel
theorem dX7_carryOut_82 : decode cX7_carryOut 82 = .ok (.aload_n 0, 1) := by decide +kernel
theorem dX7_carryOut_83 : decode cX7_carryOut 83 = .ok (.dup, 1) := by decide +kernel
theorem dX7_carryOut_84 : decode cX7_carryOut 84 = .ok (.getfield 313, 3) := by decide +kernel
theorem dX7_carryOut_87 : decode cX7_carryOut 87 = .ok (.iconst 1, 1) := by decide +kernel
theorem dX7_carryOut_88 : decode cX7_carryOut 88 = .ok (.iadd, 1) := by decide +kernel
theorem dX7_carryOut_89 : decode cX7_carryOut 89 = .ok (.putfield 313, 3) := by decide +kernel
theorem dX7_carryOut_92 : decode cX7_carryOut 92 = .ok (.goto (-67), 3) := by decide +kernel
theorem dX7_carryOut_95 : decode cX7_carryOut 95 = .ok (.aload_n 0, 1) := by decide +kernel
theorem dX7_carryOut_96 : decode cX7_carryOut 96 = .ok (.iconst 0, 1) := by decide +kernel
theorem dX7_carryOut_97 : decode cX7_carryOut 97 = .ok (.putfield 298, 3) := by decide +kernel
theorem dX7_carryOut_100 : decode cX7_carryOut 100 = .ok (.iload_n 1, 1) := by decide +kernel
theorem dX7_carryOut_101 : decode cX7_carryOut 101 = .ok (.ireturn, 1) := by decide +kernel
theorem dL_law_0 : decode cL_law 0 = .ok (.new 7, 3) := by decide +kernel
theorem dL_law_3 : decode cL_law 3 = .ok (.dup, 1) := by decide +kernel
theorem dL_law_4 : decode cL_law 4 = .ok (.invokespecial 9, 3) := by decide +kernel
theorem dL_law_7 : decode cL_law 7 = .ok (.astore_n 1, 1) := by decide +kernel
theorem dL_law_8 : decode cL_law 8 = .ok (.new 10, 3) := by decide +kernel
theorem dL_law_11 : decode cL_law 11 = .ok (.dup, 1) := by decide +kernel
theorem dL_law_12 : decode cL_law 12 = .ok (.invokespecial 12, 3) := by decide +kernel
theorem dL_law_15 : decode cL_law 15 = .ok (.astore_n 2, 1) := by decide +kernel
theorem dL_law_16 : decode cL_law 16 = .ok (.iconst 0, 1) := by decide +kernel
theorem dL_law_17 : decode cL_law 17 = .ok (.istore_n 3, 1) := by decide +kernel
theorem dL_law_18 : decode cL_law 18 = .ok (.iload_n 3, 1) := by decide +kernel
theorem dL_law_19 : decode cL_law 19 = .ok (.aload_n 0, 1) := by decide +kernel
theorem dL_law_20 : decode cL_law 20 = .ok (.arraylength, 1) := by decide +kernel
theorem dL_law_21 : decode cL_law 21 = .ok (.bipush 7, 2) := by decide +kernel
theorem dL_law_23 : decode cL_law 23 = .ok (.isub, 1) := by decide +kernel
theorem dL_law_24 : decode cL_law 24 = .ok (.if_icmp .gt 1055, 3) := by decide +kernel
theorem dL_law_27 : decode cL_law 27 = .ok (.aload_n 0, 1) := by decide +kernel
theorem dL_law_28 : decode cL_law 28 = .ok (.iload_n 3, 1) := by decide +kernel
theorem dL_law_29 : decode cL_law 29 = .ok (.iaload, 1) := by decide +kernel
theorem dL_law_30 : decode cL_law 30 = .ok (.bipush 31, 2) := by decide +kernel
theorem dL_law_32 : decode cL_law 32 = .ok (.iand, 1) := by decide +kernel
theorem dL_law_33 : decode cL_law 33 = .ok (.tableswitch 1040 0 29 #[135, 168, 201, 234, 267, 300, 375, 418, 441, 464, 487, 510, 543, 577, 601, 634, 667, 690, 723, 756, 790, 813, 846, 889, 942, 955, 968, 981, 994, 1017], 135) := by decide +kernel
theorem dL_law_168 : decode cL_law 168 = .ok (.aload_n 1, 1) := by decide +kernel
theorem dL_law_169 : decode cL_law 169 = .ok (.aload_n 0, 1) := by decide +kernel
theorem dL_law_170 : decode cL_law 170 = .ok (.iload_n 3, 1) := by decide +kernel
theorem dL_law_171 : decode cL_law 171 = .ok (.iconst 1, 1) := by decide +kernel
theorem dL_law_172 : decode cL_law 172 = .ok (.iadd, 1) := by decide +kernel
theorem dL_law_173 : decode cL_law 173 = .ok (.iaload, 1) := by decide +kernel
theorem dL_law_174 : decode cL_law 174 = .ok (.aload_n 0, 1) := by decide +kernel
theorem dL_law_175 : decode cL_law 175 = .ok (.iload_n 3, 1) := by decide +kernel
theorem dL_law_176 : decode cL_law 176 = .ok (.iconst 2, 1) := by decide +kernel
theorem dL_law_177 : decode cL_law 177 = .ok (.iadd, 1) := by decide +kernel
theorem dL_law_178 : decode cL_law 178 = .ok (.iaload, 1) := by decide +kernel
theorem dL_law_179 : decode cL_law 179 = .ok (.invokevirtual 13, 3) := by decide +kernel
theorem dL_law_182 : decode cL_law 182 = .ok (.aload_n 2, 1) := by decide +kernel
theorem dL_law_183 : decode cL_law 183 = .ok (.aload_n 0, 1) := by decide +kernel
theorem dL_law_184 : decode cL_law 184 = .ok (.iload_n 3, 1) := by decide +kernel
theorem dL_law_185 : decode cL_law 185 = .ok (.iconst 1, 1) := by decide +kernel
theorem dL_law_186 : decode cL_law 186 = .ok (.iadd, 1) := by decide +kernel
theorem dL_law_187 : decode cL_law 187 = .ok (.iaload, 1) := by decide +kernel
theorem dL_law_188 : decode cL_law 188 = .ok (.aload_n 0, 1) := by decide +kernel
theorem dL_law_189 : decode cL_law 189 = .ok (.iload_n 3, 1) := by decide +kernel
theorem dL_law_190 : decode cL_law 190 = .ok (.iconst 2, 1) := by decide +kernel
theorem dL_law_191 : decode cL_law 191 = .ok (.iadd, 1) := by decide +kernel
theorem dL_law_192 : decode cL_law 192 = .ok (.iaload, 1) := by decide +kernel
theorem dL_law_193 : decode cL_law 193 = .ok (.invokevirtual 17, 3) := by decide +kernel
theorem dL_law_196 : decode cL_law 196 = .ok (.if_icmp .eq 877, 3) := by decide +kernel
theorem dL_law_199 : decode cL_law 199 = .ok (.iconst 0, 1) := by decide +kernel
theorem dL_law_200 : decode cL_law 200 = .ok (.ireturn, 1) := by decide +kernel
theorem dL_law_201 : decode cL_law 201 = .ok (.aload_n 1, 1) := by decide +kernel
theorem dL_law_202 : decode cL_law 202 = .ok (.aload_n 0, 1) := by decide +kernel
theorem dL_law_203 : decode cL_law 203 = .ok (.iload_n 3, 1) := by decide +kernel
theorem dL_law_204 : decode cL_law 204 = .ok (.iconst 1, 1) := by decide +kernel
theorem dL_law_205 : decode cL_law 205 = .ok (.iadd, 1) := by decide +kernel
theorem dL_law_206 : decode cL_law 206 = .ok (.iaload, 1) := by decide +kernel
theorem dL_law_207 : decode cL_law 207 = .ok (.aload_n 0, 1) := by decide +kernel
theorem dL_law_208 : decode cL_law 208 = .ok (.iload_n 3, 1) := by decide +kernel
theorem dL_law_209 : decode cL_law 209 = .ok (.iconst 2, 1) := by decide +kernel
theorem dL_law_210 : decode cL_law 210 = .ok (.iadd, 1) := by decide +kernel
theorem dL_law_211 : decode cL_law 211 = .ok (.iaload, 1) := by decide +kernel
theorem dL_law_212 : decode cL_law 212 = .ok (.invokevirtual 18, 3) := by decide +kernel
theorem dL_law_215 : decode cL_law 215 = .ok (.aload_n 2, 1) := by decide +kernel
theorem dL_law_216 : decode cL_law 216 = .ok (.aload_n 0, 1) := by decide +kernel
theorem dL_law_217 : decode cL_law 217 = .ok (.iload_n 3, 1) := by decide +kernel
theorem dL_law_218 : decode cL_law 218 = .ok (.iconst 1, 1) := by decide +kernel
theorem dL_law_219 : decode cL_law 219 = .ok (.iadd, 1) := by decide +kernel
theorem dL_law_220 : decode cL_law 220 = .ok (.iaload, 1) := by decide +kernel
theorem dL_law_221 : decode cL_law 221 = .ok (.aload_n 0, 1) := by decide +kernel
theorem dL_law_222 : decode cL_law 222 = .ok (.iload_n 3, 1) := by decide +kernel
theorem dL_law_223 : decode cL_law 223 = .ok (.iconst 2, 1) := by decide +kernel
theorem dL_law_224 : decode cL_law 224 = .ok (.iadd, 1) := by decide +kernel
theorem dL_law_225 : decode cL_law 225 = .ok (.iaload, 1) := by decide +kernel
theorem dL_law_226 : decode cL_law 226 = .ok (.invokevirtual 21, 3) := by decide +kernel
theorem dL_law_229 : decode cL_law 229 = .ok (.if_icmp .eq 844, 3) := by decide +kernel
theorem dL_law_232 : decode cL_law 232 = .ok (.iconst 0, 1) := by decide +kernel
theorem dL_law_233 : decode cL_law 233 = .ok (.ireturn, 1) := by decide +kernel
theorem dL_law_234 : decode cL_law 234 = .ok (.aload_n 1, 1) := by decide +kernel
theorem dL_law_235 : decode cL_law 235 = .ok (.aload_n 0, 1) := by decide +kernel
theorem dL_law_236 : decode cL_law 236 = .ok (.iload_n 3, 1) := by decide +kernel
theorem dL_law_237 : decode cL_law 237 = .ok (.iconst 1, 1) := by decide +kernel
theorem dL_law_238 : decode cL_law 238 = .ok (.iadd, 1) := by decide +kernel
theorem dL_law_239 : decode cL_law 239 = .ok (.iaload, 1) := by decide +kernel
theorem dL_law_240 : decode cL_law 240 = .ok (.aload_n 0, 1) := by decide +kernel
theorem dL_law_241 : decode cL_law 241 = .ok (.iload_n 3, 1) := by decide +kernel
theorem dL_law_242 : decode cL_law 242 = .ok (.iconst 2, 1) := by decide +kernel
theorem dL_law_243 : decode cL_law 243 = .ok (.iadd, 1) := by decide +kernel
theorem dL_law_244 : decode cL_law 244 = .ok (.iaload, 1) := by decide +kernel
theorem dL_law_245 : decode cL_law 245 = .ok (.invokevirtual 22, 3) := by decide +kernel
theorem dL_law_248 : decode cL_law 248 = .ok (.aload_n 2, 1) := by decide +kernel
theorem dL_law_249 : decode cL_law 249 = .ok (.aload_n 0, 1) := by decide +kernel
theorem dL_law_250 : decode cL_law 250 = .ok (.iload_n 3, 1) := by decide +kernel
theorem dL_law_251 : decode cL_law 251 = .ok (.iconst 1, 1) := by decide +kernel
theorem dL_law_252 : decode cL_law 252 = .ok (.iadd, 1) := by decide +kernel
theorem dL_law_253 : decode cL_law 253 = .ok (.iaload, 1) := by decide +kernel
theorem dL_law_254 : decode cL_law 254 = .ok (.aload_n 0, 1) := by decide +kernel
theorem dL_law_255 : decode cL_law 255 = .ok (.iload_n 3, 1) := by decide +kernel
theorem dL_law_256 : decode cL_law 256 = .ok (.iconst 2, 1) := by decide +kernel
theorem dL_law_257 : decode cL_law 257 = .ok (.iadd, 1) := by decide +kernel
theorem dL_law_258 : decode cL_law 258 = .ok (.iaload, 1) := by decide +kernel
theorem dL_law_259 : decode cL_law 259 = .ok (.invokevirtual 25, 3) := by decide +kernel
theorem dL_law_262 : decode cL_law 262 = .ok (.if_icmp .eq 811, 3) := by decide +kernel
theorem dL_law_265 : decode cL_law 265 = .ok (.iconst 0, 1) := by decide +kernel
theorem dL_law_266 : decode cL_law 266 = .ok (.ireturn, 1) := by decide +kernel
theorem dL_law_267 : decode cL_law 267 = .ok (.aload_n 1, 1) := by decide +kernel
theorem dL_law_268 : decode cL_law 268 = .ok (.aload_n 0, 1) := by decide +kernel
theorem dL_law_269 : decode cL_law 269 = .ok (.iload_n 3, 1) := by decide +kernel
theorem dL_law_270 : decode cL_law 270 = .ok (.iconst 1, 1) := by decide +kernel
theorem dL_law_271 : decode cL_law 271 = .ok (.iadd, 1) := by decide +kernel
theorem dL_law_272 : decode cL_law 272 = .ok (.iaload, 1) := by decide +kernel
theorem dL_law_273 : decode cL_law 273 = .ok (.aload_n 0, 1) := by decide +kernel
theorem dL_law_274 : decode cL_law 274 = .ok (.iload_n 3, 1) := by decide +kernel
theorem dL_law_275 : decode cL_law 275 = .ok (.iconst 2, 1) := by decide +kernel
theorem dL_law_276 : decode cL_law 276 = .ok (.iadd, 1) := by decide +kernel
theorem dL_law_277 : decode cL_law 277 = .ok (.iaload, 1) := by decide +kernel
theorem dL_law_278 : decode cL_law 278 = .ok (.invokevirtual 26, 3) := by decide +kernel
theorem dL_law_281 : decode cL_law 281 = .ok (.aload_n 2, 1) := by decide +kernel
theorem dL_law_282 : decode cL_law 282 = .ok (.aload_n 0, 1) := by decide +kernel
theorem dL_law_283 : decode cL_law 283 = .ok (.iload_n 3, 1) := by decide +kernel
theorem dL_law_284 : decode cL_law 284 = .ok (.iconst 1, 1) := by decide +kernel
theorem dL_law_285 : decode cL_law 285 = .ok (.iadd, 1) := by decide +kernel
theorem dL_law_286 : decode cL_law 286 = .ok (.iaload, 1) := by decide +kernel
theorem dL_law_287 : decode cL_law 287 = .ok (.aload_n 0, 1) := by decide +kernel
theorem dL_law_288 : decode cL_law 288 = .ok (.iload_n 3, 1) := by decide +kernel
theorem dL_law_289 : decode cL_law 289 = .ok (.iconst 2, 1) := by decide +kernel
theorem dL_law_290 : decode cL_law 290 = .ok (.iadd, 1) := by decide +kernel
theorem dL_law_291 : decode cL_law 291 = .ok (.iaload, 1) := by decide +kernel
theorem dL_law_292 : decode cL_law 292 = .ok (.invokevirtual 29, 3) := by decide +kernel
theorem dL_law_295 : decode cL_law 295 = .ok (.if_icmp .eq 778, 3) := by decide +kernel
theorem dL_law_298 : decode cL_law 298 = .ok (.iconst 0, 1) := by decide +kernel
theorem dL_law_299 : decode cL_law 299 = .ok (.ireturn, 1) := by decide +kernel
theorem dL_law_300 : decode cL_law 300 = .ok (.aload_n 1, 1) := by decide +kernel
theorem dL_law_301 : decode cL_law 301 = .ok (.aload_n 0, 1) := by decide +kernel
theorem dL_law_302 : decode cL_law 302 = .ok (.iload_n 3, 1) := by decide +kernel
theorem dL_law_303 : decode cL_law 303 = .ok (.iconst 1, 1) := by decide +kernel
theorem dL_law_304 : decode cL_law 304 = .ok (.iadd, 1) := by decide +kernel
theorem dL_law_305 : decode cL_law 305 = .ok (.iaload, 1) := by decide +kernel
theorem dL_law_306 : decode cL_law 306 = .ok (.aload_n 0, 1) := by decide +kernel
theorem dL_law_307 : decode cL_law 307 = .ok (.iload_n 3, 1) := by decide +kernel
theorem dL_law_308 : decode cL_law 308 = .ok (.iconst 2, 1) := by decide +kernel
theorem dL_law_309 : decode cL_law 309 = .ok (.iadd, 1) := by decide +kernel
theorem dL_law_310 : decode cL_law 310 = .ok (.iaload, 1) := by decide +kernel
theorem dL_law_311 : decode cL_law 311 = .ok (.invokevirtual 30, 3) := by decide +kernel
theorem dL_law_314 : decode cL_law 314 = .ok (.aload_n 2, 1) := by decide +kernel
theorem dL_law_315 : decode cL_law 315 = .ok (.aload_n 0, 1) := by decide +kernel
theorem dL_law_316 : decode cL_law 316 = .ok (.iload_n 3, 1) := by decide +kernel
theorem dL_law_317 : decode cL_law 317 = .ok (.iconst 1, 1) := by decide +kernel
theorem dL_law_318 : decode cL_law 318 = .ok (.iadd, 1) := by decide +kernel
theorem dL_law_319 : decode cL_law 319 = .ok (.iaload, 1) := by decide +kernel
theorem dL_law_320 : decode cL_law 320 = .ok (.aload_n 0, 1) := by decide +kernel
theorem dL_law_321 : decode cL_law 321 = .ok (.iload_n 3, 1) := by decide +kernel
theorem dL_law_322 : decode cL_law 322 = .ok (.iconst 2, 1) := by decide +kernel
theorem dL_law_323 : decode cL_law 323 = .ok (.iadd, 1) := by decide +kernel
theorem dL_law_324 : decode cL_law 324 = .ok (.iaload, 1) := by decide +kernel
theorem dL_law_325 : decode cL_law 325 = .ok (.invokevirtual 33, 3) := by decide +kernel
theorem dL_law_328 : decode cL_law 328 = .ok (.if_icmp .eq 745, 3) := by decide +kernel
theorem dL_law_331 : decode cL_law 331 = .ok (.iconst 0, 1) := by decide +kernel
theorem dL_law_332 : decode cL_law 332 = .ok (.ireturn, 1) := by decide +kernel
theorem dL_law_333 : decode cL_law 333 = .ok (.aload_n 1, 1) := by decide +kernel
theorem dL_law_334 : decode cL_law 334 = .ok (.aload_n 0, 1) := by decide +kernel
theorem dL_law_335 : decode cL_law 335 = .ok (.iload_n 3, 1) := by decide +kernel
theorem dL_law_336 : decode cL_law 336 = .ok (.iconst 1, 1) := by decide +kernel
theorem dL_law_337 : decode cL_law 337 = .ok (.iadd, 1) := by decide +kernel
theorem dL_law_338 : decode cL_law 338 = .ok (.iaload, 1) := by decide +kernel
theorem dL_law_339 : decode cL_law 339 = .ok (.aload_n 0, 1) := by decide +kernel
theorem dL_law_340 : decode cL_law 340 = .ok (.iload_n 3, 1) := by decide +kernel
theorem dL_law_341 : decode cL_law 341 = .ok (.iconst 2, 1) := by decide +kernel
theorem dL_law_342 : decode cL_law 342 = .ok (.iadd, 1) := by decide +kernel
theorem dL_law_343 : decode cL_law 343 = .ok (.iaload, 1) := by decide +kernel
theorem dL_law_344 : decode cL_law 344 = .ok (.aload_n 0, 1) := by decide +kernel
theorem dL_law_345 : decode cL_law 345 = .ok (.iload_n 3, 1) := by decide +kernel
theorem dL_law_346 : decode cL_law 346 = .ok (.iconst 3, 1) := by decide +kernel
theorem dL_law_347 : decode cL_law 347 = .ok (.iadd, 1) := by decide +kernel
theorem dL_law_348 : decode cL_law 348 = .ok (.iaload, 1) := by decide +kernel
theorem dL_law_349 : decode cL_law 349 = .ok (.aload_n 0, 1) := by decide +kernel
theorem dL_law_350 : decode cL_law 350 = .ok (.iload_n 3, 1) := by decide +kernel
theorem dL_law_351 : decode cL_law 351 = .ok (.iconst 4, 1) := by decide +kernel
theorem dL_law_352 : decode cL_law 352 = .ok (.iadd, 1) := by decide +kernel
theorem dL_law_353 : decode cL_law 353 = .ok (.iaload, 1) := by decide +kernel
theorem dL_law_354 : decode cL_law 354 = .ok (.aload_n 0, 1) := by decide +kernel
theorem dL_law_355 : decode cL_law 355 = .ok (.iload_n 3, 1) := by decide +kernel
theorem dL_law_356 : decode cL_law 356 = .ok (.iconst 5, 1) := by decide +kernel
theorem dL_law_357 : decode cL_law 357 = .ok (.iadd, 1) := by decide +kernel
theorem dL_law_358 : decode cL_law 358 = .ok (.iaload, 1) := by decide +kernel
theorem dL_law_359 : decode cL_law 359 = .ok (.aload_n 0, 1) := by decide +kernel
theorem dL_law_360 : decode cL_law 360 = .ok (.iload_n 3, 1) := by decide +kernel
theorem dL_law_361 : decode cL_law 361 = .ok (.bipush 6, 2) := by decide +kernel
theorem dL_law_363 : decode cL_law 363 = .ok (.iadd, 1) := by decide +kernel
theorem dL_law_364 : decode cL_law 364 = .ok (.iaload, 1) := by decide +kernel
theorem dL_law_365 : decode cL_law 365 = .ok (.invokevirtual 34, 3) := by decide +kernel
theorem dL_law_368 : decode cL_law 368 = .ok (.aload_n 2, 1) := by decide +kernel
theorem dL_law_369 : decode cL_law 369 = .ok (.aload_n 0, 1) := by decide +kernel
theorem dL_law_370 : decode cL_law 370 = .ok (.iload_n 3, 1) := by decide +kernel
theorem dL_law_371 : decode cL_law 371 = .ok (.iconst 1, 1) := by decide +kernel
theorem dL_law_372 : decode cL_law 372 = .ok (.iadd, 1) := by decide +kernel
theorem dL_law_373 : decode cL_law 373 = .ok (.iaload, 1) := by decide +kernel
theorem dL_law_374 : decode cL_law 374 = .ok (.aload_n 0, 1) := by decide +kernel
theorem dL_law_375 : decode cL_law 375 = .ok (.iload_n 3, 1) := by decide +kernel
theorem dL_law_376 : decode cL_law 376 = .ok (.iconst 2, 1) := by decide +kernel
theorem dL_law_377 : decode cL_law 377 = .ok (.iadd, 1) := by decide +kernel
theorem dL_law_378 : decode cL_law 378 = .ok (.iaload, 1) := by decide +kernel
theorem dL_law_379 : decode cL_law 379 = .ok (.aload_n 0, 1) := by decide +kernel
theorem dL_law_380 : decode cL_law 380 = .ok (.iload_n 3, 1) := by decide +kernel
theorem dL_law_381 : decode cL_law 381 = .ok (.iconst 3, 1) := by decide +kernel
theorem dL_law_382 : decode cL_law 382 = .ok (.iadd, 1) := by decide +kernel
theorem dL_law_383 : decode cL_law 383 = .ok (.iaload, 1) := by decide +kernel
theorem dL_law_384 : decode cL_law 384 = .ok (.aload_n 0, 1) := by decide +kernel
theorem dL_law_385 : decode cL_law 385 = .ok (.iload_n 3, 1) := by decide +kernel
theorem dL_law_386 : decode cL_law 386 = .ok (.iconst 4, 1) := by decide +kernel
theorem dL_law_387 : decode cL_law 387 = .ok (.iadd, 1) := by decide +kernel
theorem dL_law_388 : decode cL_law 388 = .ok (.iaload, 1) := by decide +kernel
theorem dL_law_389 : decode cL_law 389 = .ok (.aload_n 0, 1) := by decide +kernel
theorem dL_law_390 : decode cL_law 390 = .ok (.iload_n 3, 1) := by decide +kernel
theorem dL_law_391 : decode cL_law 391 = .ok (.iconst 5, 1) := by decide +kernel
theorem dL_law_392 : decode cL_law 392 = .ok (.iadd, 1) := by decide +kernel
theorem dL_law_393 : decode cL_law 393 = .ok (.iaload, 1) := by decide +kernel
theorem dL_law_394 : decode cL_law 394 = .ok (.aload_n 0, 1) := by decide +kernel
theorem dL_law_395 : decode cL_law 395 = .ok (.iload_n 3, 1) := by decide +kernel
theorem dL_law_396 : decode cL_law 396 = .ok (.bipush 6, 2) := by decide +kernel
theorem dL_law_398 : decode cL_law 398 = .ok (.iadd, 1) := by decide +kernel
theorem dL_law_399 : decode cL_law 399 = .ok (.iaload, 1) := by decide +kernel
theorem dL_law_400 : decode cL_law 400 = .ok (.invokevirtual 38, 3) := by decide +kernel
theorem dL_law_403 : decode cL_law 403 = .ok (.if_icmp .eq 670, 3) := by decide +kernel
theorem dL_law_406 : decode cL_law 406 = .ok (.iconst 0, 1) := by decide +kernel
theorem dL_law_407 : decode cL_law 407 = .ok (.ireturn, 1) := by decide +kernel
theorem dL_law_408 : decode cL_law 408 = .ok (.aload_n 1, 1) := by decide +kernel
theorem dL_law_409 : decode cL_law 409 = .ok (.aload_n 0, 1) := by decide +kernel
theorem dL_law_410 : decode cL_law 410 = .ok (.iload_n 3, 1) := by decide +kernel
theorem dL_law_411 : decode cL_law 411 = .ok (.iconst 1, 1) := by decide +kernel
theorem dL_law_412 : decode cL_law 412 = .ok (.iadd, 1) := by decide +kernel
theorem dL_law_413 : decode cL_law 413 = .ok (.iaload, 1) := by decide +kernel
theorem dL_law_414 : decode cL_law 414 = .ok (.aload_n 0, 1) := by decide +kernel
theorem dL_law_415 : decode cL_law 415 = .ok (.iload_n 3, 1) := by decide +kernel
theorem dL_law_416 : decode cL_law 416 = .ok (.iconst 2, 1) := by decide +kernel
theorem dL_law_417 : decode cL_law 417 = .ok (.iadd, 1) := by decide +kernel
theorem dL_law_418 : decode cL_law 418 = .ok (.iaload, 1) := by decide +kernel
theorem dL_law_419 : decode cL_law 419 = .ok (.aload_n 0, 1) := by decide +kernel
theorem dL_law_420 : decode cL_law 420 = .ok (.iload_n 3, 1) := by decide +kernel
theorem dL_law_421 : decode cL_law 421 = .ok (.iconst 3, 1) := by decide +kernel
theorem dL_law_422 : decode cL_law 422 = .ok (.iadd, 1) := by decide +kernel
theorem dL_law_423 : decode cL_law 423 = .ok (.iaload, 1) := by decide +kernel
theorem dL_law_424 : decode cL_law 424 = .ok (.invokevirtual 39, 3) := by decide +kernel
theorem dL_law_427 : decode cL_law 427 = .ok (.aload_n 2, 1) := by decide +kernel
theorem dL_law_428 : decode cL_law 428 = .ok (.aload_n 0, 1) := by decide +kernel
theorem dL_law_429 : decode cL_law 429 = .ok (.iload_n 3, 1) := by decide +kernel
theorem dL_law_430 : decode cL_law 430 = .ok (.iconst 1, 1) := by decide +kernel
theorem dL_law_431 : decode cL_law 431 = .ok (.iadd, 1) := by decide +kernel
theorem dL_law_432 : decode cL_law 432 = .ok (.iaload, 1) := by decide +kernel
theorem dL_law_433 : decode cL_law 433 = .ok (.aload_n 0, 1) := by decide +kernel
theorem dL_law_434 : decode cL_law 434 = .ok (.iload_n 3, 1) := by decide +kernel
theorem dL_law_435 : decode cL_law 435 = .ok (.iconst 2, 1) := by decide +kernel
theorem dL_law_436 : decode cL_law 436 = .ok (.iadd, 1) := by decide +kernel
theorem dL_law_437 : decode cL_law 437 = .ok (.iaload, 1) := by decide +kernel
theorem dL_law_438 : decode cL_law 438 = .ok (.aload_n 0, 1) := by decide +kernel
theorem dL_law_439 : decode cL_law 439 = .ok (.iload_n 3, 1) := by decide +kernel
theorem dL_law_440 : decode cL_law 440 = .ok (.iconst 3, 1) := by decide +kernel
theorem dL_law_441 : decode cL_law 441 = .ok (.iadd, 1) := by decide +kernel
theorem dL_law_442 : decode cL_law 442 = .ok (.iaload, 1) := by decide +kernel
theorem dL_law_443 : decode cL_law 443 = .ok (.invokevirtual 43, 3) := by decide +kernel
theorem dL_law_446 : decode cL_law 446 = .ok (.if_icmp .eq 627, 3) := by decide +kernel
theorem dL_law_449 : decode cL_law 449 = .ok (.iconst 0, 1) := by decide +kernel
theorem dL_law_450 : decode cL_law 450 = .ok (.ireturn, 1) := by decide +kernel
theorem dL_law_451 : decode cL_law 451 = .ok (.aload_n 1, 1) := by decide +kernel
theorem dL_law_452 : decode cL_law 452 = .ok (.aload_n 0, 1) := by decide +kernel
theorem dL_law_453 : decode cL_law 453 = .ok (.iload_n 3, 1) := by decide +kernel
theorem dL_law_454 : decode cL_law 454 = .ok (.iconst 1, 1) := by decide +kernel
theorem dL_law_455 : decode cL_law 455 = .ok (.iadd, 1) := by decide +kernel
theorem dL_law_456 : decode cL_law 456 = .ok (.iaload, 1) := by decide +kernel
theorem dL_law_457 : decode cL_law 457 = .ok (.invokevirtual 44, 3) := by decide +kernel
theorem dL_law_460 : decode cL_law 460 = .ok (.aload_n 2, 1) := by decide +kernel
theorem dL_law_461 : decode cL_law 461 = .ok (.aload_n 0, 1) := by decide +kernel
theorem dL_law_462 : decode cL_law 462 = .ok (.iload_n 3, 1) := by decide +kernel
theorem dL_law_463 : decode cL_law 463 = .ok (.iconst 1, 1) := by decide +kernel
theorem dL_law_464 : decode cL_law 464 = .ok (.iadd, 1) := by decide +kernel
theorem dL_law_465 : decode cL_law 465 = .ok (.iaload, 1) := by decide +kernel
theorem dL_law_466 : decode cL_law 466 = .ok (.invokevirtual 48, 3) := by decide +kernel
theorem dL_law_469 : decode cL_law 469 = .ok (.if_icmp .eq 604, 3) := by decide +kernel
theorem dL_law_472 : decode cL_law 472 = .ok (.iconst 0, 1) := by decide +kernel
theorem dL_law_473 : decode cL_law 473 = .ok (.ireturn, 1) := by decide +kernel
theorem dL_law_474 : decode cL_law 474 = .ok (.aload_n 1, 1) := by decide +kernel
theorem dL_law_475 : decode cL_law 475 = .ok (.aload_n 0, 1) := by decide +kernel
theorem dL_law_476 : decode cL_law 476 = .ok (.iload_n 3, 1) := by decide +kernel
theorem dL_law_477 : decode cL_law 477 = .ok (.iconst 1, 1) := by decide +kernel
theorem dL_law_478 : decode cL_law 478 = .ok (.iadd, 1) := by decide +kernel
theorem dL_law_479 : decode cL_law 479 = .ok (.iaload, 1) := by decide +kernel
theorem dL_law_480 : decode cL_law 480 = .ok (.invokevirtual 49, 3) := by decide +kernel
theorem dL_law_483 : decode cL_law 483 = .ok (.aload_n 2, 1) := by decide +kernel
theorem dL_law_484 : decode cL_law 484 = .ok (.aload_n 0, 1) := by decide +kernel
theorem dL_law_485 : decode cL_law 485 = .ok (.iload_n 3, 1) := by decide +kernel
theorem dL_law_486 : decode cL_law 486 = .ok (.iconst 1, 1) := by decide +kernel
theorem dL_law_487 : decode cL_law 487 = .ok (.iadd, 1) := by decide +kernel
theorem dL_law_488 : decode cL_law 488 = .ok (.iaload, 1) := by decide +kernel
theorem dL_law_489 : decode cL_law 489 = .ok (.invokevirtual 52, 3) := by decide +kernel
theorem dL_law_492 : decode cL_law 492 = .ok (.if_icmp .eq 581, 3) := by decide +kernel
theorem dL_law_495 : decode cL_law 495 = .ok (.iconst 0, 1) := by decide +kernel
theorem dL_law_496 : decode cL_law 496 = .ok (.ireturn, 1) := by decide +kernel
theorem dL_law_497 : decode cL_law 497 = .ok (.aload_n 1, 1) := by decide +kernel
theorem dL_law_498 : decode cL_law 498 = .ok (.aload_n 0, 1) := by decide +kernel
theorem dL_law_499 : decode cL_law 499 = .ok (.iload_n 3, 1) := by decide +kernel
theorem dL_law_500 : decode cL_law 500 = .ok (.iconst 1, 1) := by decide +kernel
theorem dL_law_501 : decode cL_law 501 = .ok (.iadd, 1) := by decide +kernel
theorem dL_law_502 : decode cL_law 502 = .ok (.iaload, 1) := by decide +kernel
theorem dL_law_503 : decode cL_law 503 = .ok (.invokevirtual 53, 3) := by decide +kernel
theorem dL_law_506 : decode cL_law 506 = .ok (.aload_n 2, 1) := by decide +kernel
theorem dL_law_507 : decode cL_law 507 = .ok (.aload_n 0, 1) := by decide +kernel
theorem dL_law_508 : decode cL_law 508 = .ok (.iload_n 3, 1) := by decide +kernel
theorem dL_law_509 : decode cL_law 509 = .ok (.iconst 1, 1) := by decide +kernel
theorem dL_law_510 : decode cL_law 510 = .ok (.iadd, 1) := by decide +kernel
theorem dL_law_511 : decode cL_law 511 = .ok (.iaload, 1) := by decide +kernel
theorem dL_law_512 : decode cL_law 512 = .ok (.invokevirtual 56, 3) := by decide +kernel
theorem dL_law_515 : decode cL_law 515 = .ok (.if_icmp .eq 558, 3) := by decide +kernel
theorem dL_law_518 : decode cL_law 518 = .ok (.iconst 0, 1) := by decide +kernel
theorem dL_law_519 : decode cL_law 519 = .ok (.ireturn, 1) := by decide +kernel
theorem dL_law_520 : decode cL_law 520 = .ok (.aload_n 1, 1) := by decide +kernel
theorem dL_law_521 : decode cL_law 521 = .ok (.aload_n 0, 1) := by decide +kernel
theorem dL_law_522 : decode cL_law 522 = .ok (.iload_n 3, 1) := by decide +kernel
theorem dL_law_523 : decode cL_law 523 = .ok (.iconst 1, 1) := by decide +kernel
theorem dL_law_524 : decode cL_law 524 = .ok (.iadd, 1) := by decide +kernel
theorem dL_law_525 : decode cL_law 525 = .ok (.iaload, 1) := by decide +kernel
theorem dL_law_526 : decode cL_law 526 = .ok (.invokevirtual 57, 3) := by decide +kernel
theorem dL_law_529 : decode cL_law 529 = .ok (.aload_n 2, 1) := by decide +kernel
theorem dL_law_530 : decode cL_law 530 = .ok (.aload_n 0, 1) := by decide +kernel
theorem dL_law_531 : decode cL_law 531 = .ok (.iload_n 3, 1) := by decide +kernel
theorem dL_law_532 : decode cL_law 532 = .ok (.iconst 1, 1) := by decide +kernel
theorem dL_law_533 : decode cL_law 533 = .ok (.iadd, 1) := by decide +kernel
theorem dL_law_534 : decode cL_law 534 = .ok (.iaload, 1) := by decide +kernel
theorem dL_law_535 : decode cL_law 535 = .ok (.invokevirtual 60, 3) := by decide +kernel
theorem dL_law_538 : decode cL_law 538 = .ok (.if_icmp .eq 535, 3) := by decide +kernel
theorem dL_law_541 : decode cL_law 541 = .ok (.iconst 0, 1) := by decide +kernel
theorem dL_law_542 : decode cL_law 542 = .ok (.ireturn, 1) := by decide +kernel
theorem dL_law_543 : decode cL_law 543 = .ok (.aload_n 1, 1) := by decide +kernel
theorem dL_law_544 : decode cL_law 544 = .ok (.aload_n 0, 1) := by decide +kernel
theorem dL_law_545 : decode cL_law 545 = .ok (.iload_n 3, 1) := by decide +kernel
theorem dL_law_546 : decode cL_law 546 = .ok (.iconst 1, 1) := by decide +kernel
theorem dL_law_547 : decode cL_law 547 = .ok (.iadd, 1) := by decide +kernel
theorem dL_law_548 : decode cL_law 548 = .ok (.iaload, 1) := by decide +kernel
theorem dL_law_549 : decode cL_law 549 = .ok (.aload_n 0, 1) := by decide +kernel
theorem dL_law_550 : decode cL_law 550 = .ok (.iload_n 3, 1) := by decide +kernel
theorem dL_law_551 : decode cL_law 551 = .ok (.iconst 2, 1) := by decide +kernel
theorem dL_law_552 : decode cL_law 552 = .ok (.iadd, 1) := by decide +kernel
theorem dL_law_553 : decode cL_law 553 = .ok (.iaload, 1) := by decide +kernel
theorem dL_law_554 : decode cL_law 554 = .ok (.invokevirtual 61, 3) := by decide +kernel
theorem dL_law_557 : decode cL_law 557 = .ok (.aload_n 2, 1) := by decide +kernel
theorem dL_law_558 : decode cL_law 558 = .ok (.aload_n 0, 1) := by decide +kernel
theorem dL_law_559 : decode cL_law 559 = .ok (.iload_n 3, 1) := by decide +kernel
theorem dL_law_560 : decode cL_law 560 = .ok (.iconst 1, 1) := by decide +kernel
theorem dL_law_561 : decode cL_law 561 = .ok (.iadd, 1) := by decide +kernel
theorem dL_law_562 : decode cL_law 562 = .ok (.iaload, 1) := by decide +kernel
theorem dL_law_563 : decode cL_law 563 = .ok (.aload_n 0, 1) := by decide +kernel
theorem dL_law_564 : decode cL_law 564 = .ok (.iload_n 3, 1) := by decide +kernel
theorem dL_law_565 : decode cL_law 565 = .ok (.iconst 2, 1) := by decide +kernel
theorem dL_law_566 : decode cL_law 566 = .ok (.iadd, 1) := by decide +kernel
theorem dL_law_567 : decode cL_law 567 = .ok (.iaload, 1) := by decide +kernel
theorem dL_law_568 : decode cL_law 568 = .ok (.invokevirtual 64, 3) := by decide +kernel
theorem dL_law_571 : decode cL_law 571 = .ok (.if_icmp .eq 502, 3) := by decide +kernel
theorem dL_law_574 : decode cL_law 574 = .ok (.iconst 0, 1) := by decide +kernel
theorem dL_law_575 : decode cL_law 575 = .ok (.ireturn, 1) := by decide +kernel
theorem dL_law_576 : decode cL_law 576 = .ok (.aload_n 1, 1) := by decide +kernel
theorem dL_law_577 : decode cL_law 577 = .ok (.aload_n 0, 1) := by decide +kernel
theorem dL_law_578 : decode cL_law 578 = .ok (.iload_n 3, 1) := by decide +kernel
theorem dL_law_579 : decode cL_law 579 = .ok (.iconst 1, 1) := by decide +kernel
theorem dL_law_580 : decode cL_law 580 = .ok (.iadd, 1) := by decide +kernel
theorem dL_law_581 : decode cL_law 581 = .ok (.iaload, 1) := by decide +kernel
theorem dL_law_582 : decode cL_law 582 = .ok (.aload_n 0, 1) := by decide +kernel
theorem dL_law_583 : decode cL_law 583 = .ok (.iload_n 3, 1) := by decide +kernel
theorem dL_law_584 : decode cL_law 584 = .ok (.iconst 2, 1) := by decide +kernel
theorem dL_law_585 : decode cL_law 585 = .ok (.iadd, 1) := by decide +kernel
theorem dL_law_586 : decode cL_law 586 = .ok (.iaload, 1) := by decide +kernel
theorem dL_law_587 : decode cL_law 587 = .ok (.invokevirtual 65, 3) := by decide +kernel
theorem dL_law_590 : decode cL_law 590 = .ok (.aload_n 2, 1) := by decide +kernel
theorem dL_law_591 : decode cL_law 591 = .ok (.aload_n 0, 1) := by decide +kernel
theorem dL_law_592 : decode cL_law 592 = .ok (.iload_n 3, 1) := by decide +kernel
theorem dL_law_593 : decode cL_law 593 = .ok (.iconst 1, 1) := by decide +kernel
theorem dL_law_594 : decode cL_law 594 = .ok (.iadd, 1) := by decide +kernel
theorem dL_law_595 : decode cL_law 595 = .ok (.iaload, 1) := by decide +kernel
theorem dL_law_596 : decode cL_law 596 = .ok (.aload_n 0, 1) := by decide +kernel
theorem dL_law_597 : decode cL_law 597 = .ok (.iload_n 3, 1) := by decide +kernel
theorem dL_law_598 : decode cL_law 598 = .ok (.iconst 2, 1) := by decide +kernel
theorem dL_law_599 : decode cL_law 599 = .ok (.iadd, 1) := by decide +kernel
theorem dL_law_600 : decode cL_law 600 = .ok (.iaload, 1) := by decide +kernel
theorem dL_law_601 : decode cL_law 601 = .ok (.invokevirtual 69, 3) := by decide +kernel
theorem dL_law_604 : decode cL_law 604 = .ok (.lcmp, 1) := by decide +kernel
theorem dL_law_605 : decode cL_law 605 = .ok (.ifCond .eq 468, 3) := by decide +kernel
theorem dL_law_608 : decode cL_law 608 = .ok (.iconst 0, 1) := by decide +kernel
theorem dL_law_609 : decode cL_law 609 = .ok (.ireturn, 1) := by decide +kernel
theorem dL_law_610 : decode cL_law 610 = .ok (.aload_n 1, 1) := by decide +kernel
theorem dL_law_611 : decode cL_law 611 = .ok (.aload_n 0, 1) := by decide +kernel
theorem dL_law_612 : decode cL_law 612 = .ok (.iload_n 3, 1) := by decide +kernel
theorem dL_law_613 : decode cL_law 613 = .ok (.iconst 1, 1) := by decide +kernel
theorem dL_law_614 : decode cL_law 614 = .ok (.iadd, 1) := by decide +kernel
theorem dL_law_615 : decode cL_law 615 = .ok (.iaload, 1) := by decide +kernel
theorem dL_law_616 : decode cL_law 616 = .ok (.invokevirtual 70, 3) := by decide +kernel
theorem dL_law_619 : decode cL_law 619 = .ok (.aload_n 2, 1) := by decide +kernel
theorem dL_law_620 : decode cL_law 620 = .ok (.aload_n 0, 1) := by decide +kernel
theorem dL_law_621 : decode cL_law 621 = .ok (.iload_n 3, 1) := by decide +kernel
theorem dL_law_622 : decode cL_law 622 = .ok (.iconst 1, 1) := by decide +kernel
theorem dL_law_623 : decode cL_law 623 = .ok (.iadd, 1) := by decide +kernel
theorem dL_law_624 : decode cL_law 624 = .ok (.iaload, 1) := by decide +kernel
theorem dL_law_625 : decode cL_law 625 = .ok (.invokevirtual 74, 3) := by decide +kernel
theorem dL_law_628 : decode cL_law 628 = .ok (.lcmp, 1) := by decide +kernel
theorem dL_law_629 : decode cL_law 629 = .ok (.ifCond .eq 444, 3) := by decide +kernel
theorem dL_law_632 : decode cL_law 632 = .ok (.iconst 0, 1) := by decide +kernel
theorem dL_law_633 : decode cL_law 633 = .ok (.ireturn, 1) := by decide +kernel
theorem dL_law_634 : decode cL_law 634 = .ok (.aload_n 1, 1) := by decide +kernel
theorem dL_law_635 : decode cL_law 635 = .ok (.aload_n 0, 1) := by decide +kernel
theorem dL_law_636 : decode cL_law 636 = .ok (.iload_n 3, 1) := by decide +kernel
theorem dL_law_637 : decode cL_law 637 = .ok (.iconst 1, 1) := by decide +kernel
theorem dL_law_638 : decode cL_law 638 = .ok (.iadd, 1) := by decide +kernel
theorem dL_law_639 : decode cL_law 639 = .ok (.iaload, 1) := by decide +kernel
theorem dL_law_640 : decode cL_law 640 = .ok (.aload_n 0, 1) := by decide +kernel
theorem dL_law_641 : decode cL_law 641 = .ok (.iload_n 3, 1) := by decide +kernel
theorem dL_law_642 : decode cL_law 642 = .ok (.iconst 2, 1) := by decide +kernel
theorem dL_law_643 : decode cL_law 643 = .ok (.iadd, 1) := by decide +kernel
theorem dL_law_644 : decode cL_law 644 = .ok (.iaload, 1) := by decide +kernel
theorem dL_law_645 : decode cL_law 645 = .ok (.invokevirtual 75, 3) := by decide +kernel
theorem dL_law_648 : decode cL_law 648 = .ok (.aload_n 2, 1) := by decide +kernel
theorem dL_law_649 : decode cL_law 649 = .ok (.aload_n 0, 1) := by decide +kernel
theorem dL_law_650 : decode cL_law 650 = .ok (.iload_n 3, 1) := by decide +kernel
theorem dL_law_651 : decode cL_law 651 = .ok (.iconst 1, 1) := by decide +kernel
theorem dL_law_652 : decode cL_law 652 = .ok (.iadd, 1) := by decide +kernel
theorem dL_law_653 : decode cL_law 653 = .ok (.iaload, 1) := by decide +kernel
theorem dL_law_654 : decode cL_law 654 = .ok (.aload_n 0, 1) := by decide +kernel
theorem dL_law_655 : decode cL_law 655 = .ok (.iload_n 3, 1) := by decide +kernel
theorem dL_law_656 : decode cL_law 656 = .ok (.iconst 2, 1) := by decide +kernel
theorem dL_law_657 : decode cL_law 657 = .ok (.iadd, 1) := by decide +kernel
theorem dL_law_658 : decode cL_law 658 = .ok (.iaload, 1) := by decide +kernel
theorem dL_law_659 : decode cL_law 659 = .ok (.invokevirtual 78, 3) := by decide +kernel
theorem dL_law_662 : decode cL_law 662 = .ok (.if_icmp .eq 411, 3) := by decide +kernel
theorem dL_law_665 : decode cL_law 665 = .ok (.iconst 0, 1) := by decide +kernel
theorem dL_law_666 : decode cL_law 666 = .ok (.ireturn, 1) := by decide +kernel
theorem dL_law_667 : decode cL_law 667 = .ok (.aload_n 1, 1) := by decide +kernel
theorem dL_law_668 : decode cL_law 668 = .ok (.aload_n 0, 1) := by decide +kernel
theorem dL_law_669 : decode cL_law 669 = .ok (.iload_n 3, 1) := by decide +kernel
theorem dL_law_670 : decode cL_law 670 = .ok (.iconst 1, 1) := by decide +kernel
theorem dL_law_671 : decode cL_law 671 = .ok (.iadd, 1) := by decide +kernel
theorem dL_law_672 : decode cL_law 672 = .ok (.iaload, 1) := by decide +kernel
theorem dL_law_673 : decode cL_law 673 = .ok (.aload_n 0, 1) := by decide +kernel
theorem dL_law_674 : decode cL_law 674 = .ok (.iload_n 3, 1) := by decide +kernel
theorem dL_law_675 : decode cL_law 675 = .ok (.iconst 2, 1) := by decide +kernel
theorem dL_law_676 : decode cL_law 676 = .ok (.iadd, 1) := by decide +kernel
theorem dL_law_677 : decode cL_law 677 = .ok (.iaload, 1) := by decide +kernel
theorem dL_law_678 : decode cL_law 678 = .ok (.invokevirtual 79, 3) := by decide +kernel
theorem dL_law_681 : decode cL_law 681 = .ok (.aload_n 2, 1) := by decide +kernel
theorem dL_law_682 : decode cL_law 682 = .ok (.aload_n 0, 1) := by decide +kernel
theorem dL_law_683 : decode cL_law 683 = .ok (.iload_n 3, 1) := by decide +kernel
theorem dL_law_684 : decode cL_law 684 = .ok (.iconst 1, 1) := by decide +kernel
theorem dL_law_685 : decode cL_law 685 = .ok (.iadd, 1) := by decide +kernel
theorem dL_law_686 : decode cL_law 686 = .ok (.iaload, 1) := by decide +kernel
theorem dL_law_687 : decode cL_law 687 = .ok (.aload_n 0, 1) := by decide +kernel
theorem dL_law_688 : decode cL_law 688 = .ok (.iload_n 3, 1) := by decide +kernel
theorem dL_law_689 : decode cL_law 689 = .ok (.iconst 2, 1) := by decide +kernel
theorem dL_law_690 : decode cL_law 690 = .ok (.iadd, 1) := by decide +kernel
theorem dL_law_691 : decode cL_law 691 = .ok (.iaload, 1) := by decide +kernel
theorem dL_law_692 : decode cL_law 692 = .ok (.invokevirtual 82, 3) := by decide +kernel
theorem dL_law_695 : decode cL_law 695 = .ok (.if_icmp .eq 378, 3) := by decide +kernel
theorem dL_law_698 : decode cL_law 698 = .ok (.iconst 0, 1) := by decide +kernel
theorem dL_law_699 : decode cL_law 699 = .ok (.ireturn, 1) := by decide +kernel
theorem dL_law_700 : decode cL_law 700 = .ok (.aload_n 1, 1) := by decide +kernel
theorem dL_law_701 : decode cL_law 701 = .ok (.aload_n 0, 1) := by decide +kernel
theorem dL_law_702 : decode cL_law 702 = .ok (.iload_n 3, 1) := by decide +kernel
theorem dL_law_703 : decode cL_law 703 = .ok (.iconst 1, 1) := by decide +kernel
theorem dL_law_704 : decode cL_law 704 = .ok (.iadd, 1) := by decide +kernel
theorem dL_law_705 : decode cL_law 705 = .ok (.iaload, 1) := by decide +kernel
theorem dL_law_706 : decode cL_law 706 = .ok (.invokevirtual 83, 3) := by decide +kernel
theorem dL_law_709 : decode cL_law 709 = .ok (.aload_n 2, 1) := by decide +kernel
theorem dL_law_710 : decode cL_law 710 = .ok (.aload_n 0, 1) := by decide +kernel
theorem dL_law_711 : decode cL_law 711 = .ok (.iload_n 3, 1) := by decide +kernel
theorem dL_law_712 : decode cL_law 712 = .ok (.iconst 1, 1) := by decide +kernel
theorem dL_law_713 : decode cL_law 713 = .ok (.iadd, 1) := by decide +kernel
theorem dL_law_714 : decode cL_law 714 = .ok (.iaload, 1) := by decide +kernel
theorem dL_law_715 : decode cL_law 715 = .ok (.invokevirtual 86, 3) := by decide +kernel
theorem dL_law_718 : decode cL_law 718 = .ok (.if_icmp .eq 355, 3) := by decide +kernel
theorem dL_law_721 : decode cL_law 721 = .ok (.iconst 0, 1) := by decide +kernel
theorem dL_law_722 : decode cL_law 722 = .ok (.ireturn, 1) := by decide +kernel
theorem dL_law_723 : decode cL_law 723 = .ok (.aload_n 1, 1) := by decide +kernel
theorem dL_law_724 : decode cL_law 724 = .ok (.aload_n 0, 1) := by decide +kernel
theorem dL_law_725 : decode cL_law 725 = .ok (.iload_n 3, 1) := by decide +kernel
theorem dL_law_726 : decode cL_law 726 = .ok (.iconst 1, 1) := by decide +kernel
theorem dL_law_727 : decode cL_law 727 = .ok (.iadd, 1) := by decide +kernel
theorem dL_law_728 : decode cL_law 728 = .ok (.iaload, 1) := by decide +kernel
theorem dL_law_729 : decode cL_law 729 = .ok (.aload_n 0, 1) := by decide +kernel
theorem dL_law_730 : decode cL_law 730 = .ok (.iload_n 3, 1) := by decide +kernel
theorem dL_law_731 : decode cL_law 731 = .ok (.iconst 2, 1) := by decide +kernel
theorem dL_law_732 : decode cL_law 732 = .ok (.iadd, 1) := by decide +kernel
theorem dL_law_733 : decode cL_law 733 = .ok (.iaload, 1) := by decide +kernel
theorem dL_law_734 : decode cL_law 734 = .ok (.invokevirtual 87, 3) := by decide +kernel
theorem dL_law_737 : decode cL_law 737 = .ok (.aload_n 2, 1) := by decide +kernel
theorem dL_law_738 : decode cL_law 738 = .ok (.aload_n 0, 1) := by decide +kernel
theorem dL_law_739 : decode cL_law 739 = .ok (.iload_n 3, 1) := by decide +kernel
theorem dL_law_740 : decode cL_law 740 = .ok (.iconst 1, 1) := by decide +kernel
theorem dL_law_741 : decode cL_law 741 = .ok (.iadd, 1) := by decide +kernel
theorem dL_law_742 : decode cL_law 742 = .ok (.iaload, 1) := by decide +kernel
theorem dL_law_743 : decode cL_law 743 = .ok (.aload_n 0, 1) := by decide +kernel
theorem dL_law_744 : decode cL_law 744 = .ok (.iload_n 3, 1) := by decide +kernel
theorem dL_law_745 : decode cL_law 745 = .ok (.iconst 2, 1) := by decide +kernel
theorem dL_law_746 : decode cL_law 746 = .ok (.iadd, 1) := by decide +kernel
theorem dL_law_747 : decode cL_law 747 = .ok (.iaload, 1) := by decide +kernel
theorem dL_law_748 : decode cL_law 748 = .ok (.invokevirtual 90, 3) := by decide +kernel
theorem dL_law_751 : decode cL_law 751 = .ok (.if_icmp .eq 322, 3) := by decide +kernel
theorem dL_law_754 : decode cL_law 754 = .ok (.iconst 0, 1) := by decide +kernel
theorem dL_law_755 : decode cL_law 755 = .ok (.ireturn, 1) := by decide +kernel
theorem dL_law_756 : decode cL_law 756 = .ok (.aload_n 1, 1) := by decide +kernel
theorem dL_law_757 : decode cL_law 757 = .ok (.aload_n 0, 1) := by decide +kernel
theorem dL_law_758 : decode cL_law 758 = .ok (.iload_n 3, 1) := by decide +kernel
theorem dL_law_759 : decode cL_law 759 = .ok (.iconst 1, 1) := by decide +kernel
theorem dL_law_760 : decode cL_law 760 = .ok (.iadd, 1) := by decide +kernel
theorem dL_law_761 : decode cL_law 761 = .ok (.iaload, 1) := by decide +kernel
theorem dL_law_762 : decode cL_law 762 = .ok (.aload_n 0, 1) := by decide +kernel
theorem dL_law_763 : decode cL_law 763 = .ok (.iload_n 3, 1) := by decide +kernel
theorem dL_law_764 : decode cL_law 764 = .ok (.iconst 2, 1) := by decide +kernel
theorem dL_law_765 : decode cL_law 765 = .ok (.iadd, 1) := by decide +kernel
theorem dL_law_766 : decode cL_law 766 = .ok (.iaload, 1) := by decide +kernel
theorem dL_law_767 : decode cL_law 767 = .ok (.invokevirtual 91, 3) := by decide +kernel
theorem dL_law_770 : decode cL_law 770 = .ok (.aload_n 2, 1) := by decide +kernel
theorem dL_law_771 : decode cL_law 771 = .ok (.aload_n 0, 1) := by decide +kernel
theorem dL_law_772 : decode cL_law 772 = .ok (.iload_n 3, 1) := by decide +kernel
theorem dL_law_773 : decode cL_law 773 = .ok (.iconst 1, 1) := by decide +kernel
theorem dL_law_774 : decode cL_law 774 = .ok (.iadd, 1) := by decide +kernel
theorem dL_law_775 : decode cL_law 775 = .ok (.iaload, 1) := by decide +kernel
theorem dL_law_776 : decode cL_law 776 = .ok (.aload_n 0, 1) := by decide +kernel
theorem dL_law_777 : decode cL_law 777 = .ok (.iload_n 3, 1) := by decide +kernel
theorem dL_law_778 : decode cL_law 778 = .ok (.iconst 2, 1) := by decide +kernel
theorem dL_law_779 : decode cL_law 779 = .ok (.iadd, 1) := by decide +kernel
theorem dL_law_780 : decode cL_law 780 = .ok (.iaload, 1) := by decide +kernel
theorem dL_law_781 : decode cL_law 781 = .ok (.invokevirtual 94, 3) := by decide +kernel
theorem dL_law_784 : decode cL_law 784 = .ok (.if_icmp .eq 289, 3) := by decide +kernel
theorem dL_law_787 : decode cL_law 787 = .ok (.iconst 0, 1) := by decide +kernel
theorem dL_law_788 : decode cL_law 788 = .ok (.ireturn, 1) := by decide +kernel
theorem dL_law_789 : decode cL_law 789 = .ok (.aload_n 1, 1) := by decide +kernel
theorem dL_law_790 : decode cL_law 790 = .ok (.aload_n 0, 1) := by decide +kernel
theorem dL_law_791 : decode cL_law 791 = .ok (.iload_n 3, 1) := by decide +kernel
theorem dL_law_792 : decode cL_law 792 = .ok (.iconst 1, 1) := by decide +kernel
theorem dL_law_793 : decode cL_law 793 = .ok (.iadd, 1) := by decide +kernel
theorem dL_law_794 : decode cL_law 794 = .ok (.iaload, 1) := by decide +kernel
theorem dL_law_795 : decode cL_law 795 = .ok (.aload_n 0, 1) := by decide +kernel
theorem dL_law_796 : decode cL_law 796 = .ok (.iload_n 3, 1) := by decide +kernel
theorem dL_law_797 : decode cL_law 797 = .ok (.iconst 2, 1) := by decide +kernel
theorem dL_law_798 : decode cL_law 798 = .ok (.iadd, 1) := by decide +kernel
theorem dL_law_799 : decode cL_law 799 = .ok (.iaload, 1) := by decide +kernel
theorem dL_law_800 : decode cL_law 800 = .ok (.invokevirtual 95, 3) := by decide +kernel
theorem dL_law_803 : decode cL_law 803 = .ok (.aload_n 2, 1) := by decide +kernel
theorem dL_law_804 : decode cL_law 804 = .ok (.aload_n 0, 1) := by decide +kernel
theorem dL_law_805 : decode cL_law 805 = .ok (.iload_n 3, 1) := by decide +kernel
theorem dL_law_806 : decode cL_law 806 = .ok (.iconst 1, 1) := by decide +kernel
theorem dL_law_807 : decode cL_law 807 = .ok (.iadd, 1) := by decide +kernel
theorem dL_law_808 : decode cL_law 808 = .ok (.iaload, 1) := by decide +kernel
theorem dL_law_809 : decode cL_law 809 = .ok (.aload_n 0, 1) := by decide +kernel
theorem dL_law_810 : decode cL_law 810 = .ok (.iload_n 3, 1) := by decide +kernel
theorem dL_law_811 : decode cL_law 811 = .ok (.iconst 2, 1) := by decide +kernel
theorem dL_law_812 : decode cL_law 812 = .ok (.iadd, 1) := by decide +kernel
theorem dL_law_813 : decode cL_law 813 = .ok (.iaload, 1) := by decide +kernel
theorem dL_law_814 : decode cL_law 814 = .ok (.invokevirtual 98, 3) := by decide +kernel
theorem dL_law_817 : decode cL_law 817 = .ok (.lcmp, 1) := by decide +kernel
theorem dL_law_818 : decode cL_law 818 = .ok (.ifCond .eq 255, 3) := by decide +kernel
theorem dL_law_821 : decode cL_law 821 = .ok (.iconst 0, 1) := by decide +kernel
theorem dL_law_822 : decode cL_law 822 = .ok (.ireturn, 1) := by decide +kernel
theorem dL_law_823 : decode cL_law 823 = .ok (.aload_n 1, 1) := by decide +kernel
theorem dL_law_824 : decode cL_law 824 = .ok (.aload_n 0, 1) := by decide +kernel
theorem dL_law_825 : decode cL_law 825 = .ok (.iload_n 3, 1) := by decide +kernel
theorem dL_law_826 : decode cL_law 826 = .ok (.iconst 1, 1) := by decide +kernel
theorem dL_law_827 : decode cL_law 827 = .ok (.iadd, 1) := by decide +kernel
theorem dL_law_828 : decode cL_law 828 = .ok (.iaload, 1) := by decide +kernel
theorem dL_law_829 : decode cL_law 829 = .ok (.invokevirtual 99, 3) := by decide +kernel
theorem dL_law_832 : decode cL_law 832 = .ok (.aload_n 2, 1) := by decide +kernel
theorem dL_law_833 : decode cL_law 833 = .ok (.aload_n 0, 1) := by decide +kernel
theorem dL_law_834 : decode cL_law 834 = .ok (.iload_n 3, 1) := by decide +kernel
theorem dL_law_835 : decode cL_law 835 = .ok (.iconst 1, 1) := by decide +kernel
theorem dL_law_836 : decode cL_law 836 = .ok (.iadd, 1) := by decide +kernel
theorem dL_law_837 : decode cL_law 837 = .ok (.iaload, 1) := by decide +kernel
theorem dL_law_838 : decode cL_law 838 = .ok (.invokevirtual 102, 3) := by decide +kernel
theorem dL_law_841 : decode cL_law 841 = .ok (.if_icmp .eq 232, 3) := by decide +kernel
theorem dL_law_844 : decode cL_law 844 = .ok (.iconst 0, 1) := by decide +kernel
theorem dL_law_845 : decode cL_law 845 = .ok (.ireturn, 1) := by decide +kernel
theorem dL_law_846 : decode cL_law 846 = .ok (.aload_n 1, 1) := by decide +kernel
theorem dL_law_847 : decode cL_law 847 = .ok (.aload_n 0, 1) := by decide +kernel
theorem dL_law_848 : decode cL_law 848 = .ok (.iload_n 3, 1) := by decide +kernel
theorem dL_law_849 : decode cL_law 849 = .ok (.iconst 1, 1) := by decide +kernel
theorem dL_law_850 : decode cL_law 850 = .ok (.iadd, 1) := by decide +kernel
theorem dL_law_851 : decode cL_law 851 = .ok (.iaload, 1) := by decide +kernel
theorem dL_law_852 : decode cL_law 852 = .ok (.aload_n 0, 1) := by decide +kernel
theorem dL_law_853 : decode cL_law 853 = .ok (.iload_n 3, 1) := by decide +kernel
theorem dL_law_854 : decode cL_law 854 = .ok (.iconst 2, 1) := by decide +kernel
theorem dL_law_855 : decode cL_law 855 = .ok (.iadd, 1) := by decide +kernel
theorem dL_law_856 : decode cL_law 856 = .ok (.iaload, 1) := by decide +kernel
theorem dL_law_857 : decode cL_law 857 = .ok (.invokevirtual 103, 3) := by decide +kernel
theorem dL_law_860 : decode cL_law 860 = .ok (.aload_n 2, 1) := by decide +kernel
theorem dL_law_861 : decode cL_law 861 = .ok (.aload_n 0, 1) := by decide +kernel
theorem dL_law_862 : decode cL_law 862 = .ok (.iload_n 3, 1) := by decide +kernel
theorem dL_law_863 : decode cL_law 863 = .ok (.iconst 1, 1) := by decide +kernel
theorem dL_law_864 : decode cL_law 864 = .ok (.iadd, 1) := by decide +kernel
theorem dL_law_865 : decode cL_law 865 = .ok (.iaload, 1) := by decide +kernel
theorem dL_law_866 : decode cL_law 866 = .ok (.aload_n 0, 1) := by decide +kernel
theorem dL_law_867 : decode cL_law 867 = .ok (.iload_n 3, 1) := by decide +kernel
theorem dL_law_868 : decode cL_law 868 = .ok (.iconst 2, 1) := by decide +kernel
theorem dL_law_869 : decode cL_law 869 = .ok (.iadd, 1) := by decide +kernel
theorem dL_law_870 : decode cL_law 870 = .ok (.iaload, 1) := by decide +kernel
theorem dL_law_871 : decode cL_law 871 = .ok (.invokevirtual 106, 3) := by decide +kernel
theorem dL_law_874 : decode cL_law 874 = .ok (.if_icmp .eq 199, 3) := by decide +kernel
theorem dL_law_877 : decode cL_law 877 = .ok (.iconst 0, 1) := by decide +kernel
theorem dL_law_878 : decode cL_law 878 = .ok (.ireturn, 1) := by decide +kernel
theorem dL_law_879 : decode cL_law 879 = .ok (.aload_n 1, 1) := by decide +kernel
theorem dL_law_880 : decode cL_law 880 = .ok (.aload_n 0, 1) := by decide +kernel
theorem dL_law_881 : decode cL_law 881 = .ok (.iload_n 3, 1) := by decide +kernel
theorem dL_law_882 : decode cL_law 882 = .ok (.iconst 1, 1) := by decide +kernel
theorem dL_law_883 : decode cL_law 883 = .ok (.iadd, 1) := by decide +kernel
theorem dL_law_884 : decode cL_law 884 = .ok (.iaload, 1) := by decide +kernel
theorem dL_law_885 : decode cL_law 885 = .ok (.aload_n 0, 1) := by decide +kernel
theorem dL_law_886 : decode cL_law 886 = .ok (.iload_n 3, 1) := by decide +kernel
theorem dL_law_887 : decode cL_law 887 = .ok (.iconst 2, 1) := by decide +kernel
theorem dL_law_888 : decode cL_law 888 = .ok (.iadd, 1) := by decide +kernel
theorem dL_law_889 : decode cL_law 889 = .ok (.iaload, 1) := by decide +kernel
theorem dL_law_890 : decode cL_law 890 = .ok (.aload_n 0, 1) := by decide +kernel
theorem dL_law_891 : decode cL_law 891 = .ok (.iload_n 3, 1) := by decide +kernel
theorem dL_law_892 : decode cL_law 892 = .ok (.iconst 3, 1) := by decide +kernel
theorem dL_law_893 : decode cL_law 893 = .ok (.iadd, 1) := by decide +kernel
theorem dL_law_894 : decode cL_law 894 = .ok (.iaload, 1) := by decide +kernel
theorem dL_law_895 : decode cL_law 895 = .ok (.invokevirtual 107, 3) := by decide +kernel
theorem dL_law_898 : decode cL_law 898 = .ok (.aload_n 2, 1) := by decide +kernel
theorem dL_law_899 : decode cL_law 899 = .ok (.aload_n 0, 1) := by decide +kernel
theorem dL_law_900 : decode cL_law 900 = .ok (.iload_n 3, 1) := by decide +kernel
theorem dL_law_901 : decode cL_law 901 = .ok (.iconst 1, 1) := by decide +kernel
theorem dL_law_902 : decode cL_law 902 = .ok (.iadd, 1) := by decide +kernel
theorem dL_law_903 : decode cL_law 903 = .ok (.iaload, 1) := by decide +kernel
theorem dL_law_904 : decode cL_law 904 = .ok (.aload_n 0, 1) := by decide +kernel
theorem dL_law_905 : decode cL_law 905 = .ok (.iload_n 3, 1) := by decide +kernel
theorem dL_law_906 : decode cL_law 906 = .ok (.iconst 2, 1) := by decide +kernel
theorem dL_law_907 : decode cL_law 907 = .ok (.iadd, 1) := by decide +kernel
theorem dL_law_908 : decode cL_law 908 = .ok (.iaload, 1) := by decide +kernel
theorem dL_law_909 : decode cL_law 909 = .ok (.aload_n 0, 1) := by decide +kernel
theorem dL_law_910 : decode cL_law 910 = .ok (.iload_n 3, 1) := by decide +kernel
theorem dL_law_911 : decode cL_law 911 = .ok (.iconst 3, 1) := by decide +kernel
theorem dL_law_912 : decode cL_law 912 = .ok (.iadd, 1) := by decide +kernel
theorem dL_law_913 : decode cL_law 913 = .ok (.iaload, 1) := by decide +kernel
theorem dL_law_914 : decode cL_law 914 = .ok (.invokevirtual 110, 3) := by decide +kernel
theorem dL_law_917 : decode cL_law 917 = .ok (.if_icmp .eq 156, 3) := by decide +kernel
theorem dL_law_920 : decode cL_law 920 = .ok (.iconst 0, 1) := by decide +kernel
theorem dL_law_921 : decode cL_law 921 = .ok (.ireturn, 1) := by decide +kernel
theorem dL_law_922 : decode cL_law 922 = .ok (.aload_n 1, 1) := by decide +kernel
theorem dL_law_923 : decode cL_law 923 = .ok (.aload_n 0, 1) := by decide +kernel
theorem dL_law_924 : decode cL_law 924 = .ok (.iload_n 3, 1) := by decide +kernel
theorem dL_law_925 : decode cL_law 925 = .ok (.iconst 1, 1) := by decide +kernel
theorem dL_law_926 : decode cL_law 926 = .ok (.iadd, 1) := by decide +kernel
theorem dL_law_927 : decode cL_law 927 = .ok (.iaload, 1) := by decide +kernel
theorem dL_law_928 : decode cL_law 928 = .ok (.i2l, 1) := by decide +kernel
theorem dL_law_929 : decode cL_law 929 = .ok (.bipush 32, 2) := by decide +kernel
theorem dL_law_931 : decode cL_law 931 = .ok (.lshl, 1) := by decide +kernel
theorem dL_law_932 : decode cL_law 932 = .ok (.aload_n 0, 1) := by decide +kernel
theorem dL_law_933 : decode cL_law 933 = .ok (.iload_n 3, 1) := by decide +kernel
theorem dL_law_934 : decode cL_law 934 = .ok (.iconst 2, 1) := by decide +kernel
theorem dL_law_935 : decode cL_law 935 = .ok (.iadd, 1) := by decide +kernel
theorem dL_law_936 : decode cL_law 936 = .ok (.iaload, 1) := by decide +kernel
theorem dL_law_937 : decode cL_law 937 = .ok (.i2l, 1) := by decide +kernel
theorem dL_law_938 : decode cL_law 938 = .ok (.ldc2_w 111, 3) := by decide +kernel
theorem dL_law_941 : decode cL_law 941 = .ok (.land, 1) := by decide +kernel
theorem dL_law_942 : decode cL_law 942 = .ok (.lor, 1) := by decide +kernel
theorem dL_law_943 : decode cL_law 943 = .ok (.invokevirtual 113, 3) := by decide +kernel
theorem dL_law_946 : decode cL_law 946 = .ok (.aload_n 2, 1) := by decide +kernel
theorem dL_law_947 : decode cL_law 947 = .ok (.aload_n 0, 1) := by decide +kernel
theorem dL_law_948 : decode cL_law 948 = .ok (.iload_n 3, 1) := by decide +kernel
theorem dL_law_949 : decode cL_law 949 = .ok (.iconst 1, 1) := by decide +kernel
theorem dL_law_950 : decode cL_law 950 = .ok (.iadd, 1) := by decide +kernel
theorem dL_law_951 : decode cL_law 951 = .ok (.iaload, 1) := by decide +kernel
theorem dL_law_952 : decode cL_law 952 = .ok (.i2l, 1) := by decide +kernel
theorem dL_law_953 : decode cL_law 953 = .ok (.bipush 32, 2) := by decide +kernel
theorem dL_law_955 : decode cL_law 955 = .ok (.lshl, 1) := by decide +kernel
theorem dL_law_956 : decode cL_law 956 = .ok (.aload_n 0, 1) := by decide +kernel
theorem dL_law_957 : decode cL_law 957 = .ok (.iload_n 3, 1) := by decide +kernel
theorem dL_law_958 : decode cL_law 958 = .ok (.iconst 2, 1) := by decide +kernel
theorem dL_law_959 : decode cL_law 959 = .ok (.iadd, 1) := by decide +kernel
theorem dL_law_960 : decode cL_law 960 = .ok (.iaload, 1) := by decide +kernel
theorem dL_law_961 : decode cL_law 961 = .ok (.i2l, 1) := by decide +kernel
theorem dL_law_962 : decode cL_law 962 = .ok (.ldc2_w 111, 3) := by decide +kernel
theorem dL_law_965 : decode cL_law 965 = .ok (.land, 1) := by decide +kernel
theorem dL_law_966 : decode cL_law 966 = .ok (.lor, 1) := by decide +kernel
theorem dL_law_967 : decode cL_law 967 = .ok (.invokevirtual 117, 3) := by decide +kernel
theorem dL_law_970 : decode cL_law 970 = .ok (.if_icmp .eq 103, 3) := by decide +kernel
theorem dL_law_973 : decode cL_law 973 = .ok (.iconst 0, 1) := by decide +kernel
theorem dL_law_974 : decode cL_law 974 = .ok (.ireturn, 1) := by decide +kernel
theorem dL_law_975 : decode cL_law 975 = .ok (.aload_n 1, 1) := by decide +kernel
theorem dL_law_976 : decode cL_law 976 = .ok (.invokevirtual 118, 3) := by decide +kernel
theorem dL_law_979 : decode cL_law 979 = .ok (.aload_n 2, 1) := by decide +kernel
theorem dL_law_980 : decode cL_law 980 = .ok (.invokevirtual 122, 3) := by decide +kernel
theorem dL_law_983 : decode cL_law 983 = .ok (.if_icmp .eq 90, 3) := by decide +kernel
theorem dL_law_986 : decode cL_law 986 = .ok (.iconst 0, 1) := by decide +kernel
theorem dL_law_987 : decode cL_law 987 = .ok (.ireturn, 1) := by decide +kernel
theorem dL_law_988 : decode cL_law 988 = .ok (.aload_n 1, 1) := by decide +kernel
theorem dL_law_989 : decode cL_law 989 = .ok (.invokevirtual 123, 3) := by decide +kernel
theorem dL_law_992 : decode cL_law 992 = .ok (.aload_n 2, 1) := by decide +kernel
theorem dL_law_993 : decode cL_law 993 = .ok (.invokevirtual 126, 3) := by decide +kernel
theorem dL_law_996 : decode cL_law 996 = .ok (.if_icmp .eq 77, 3) := by decide +kernel
theorem dL_law_999 : decode cL_law 999 = .ok (.iconst 0, 1) := by decide +kernel
theorem dL_law_1000 : decode cL_law 1000 = .ok (.ireturn, 1) := by decide +kernel
theorem dL_law_1001 : decode cL_law 1001 = .ok (.aload_n 1, 1) := by decide +kernel
theorem dL_law_1002 : decode cL_law 1002 = .ok (.invokevirtual 127, 3) := by decide +kernel
theorem dL_law_1005 : decode cL_law 1005 = .ok (.aload_n 2, 1) := by decide +kernel
theorem dL_law_1006 : decode cL_law 1006 = .ok (.invokevirtual 130, 3) := by decide +kernel
theorem dL_law_1009 : decode cL_law 1009 = .ok (.if_icmp .eq 64, 3) := by decide +kernel
theorem dL_law_1012 : decode cL_law 1012 = .ok (.iconst 0, 1) := by decide +kernel
theorem dL_law_1013 : decode cL_law 1013 = .ok (.ireturn, 1) := by decide +kernel
theorem dL_law_1014 : decode cL_law 1014 = .ok (.aload_n 1, 1) := by decide +kernel
theorem dL_law_1015 : decode cL_law 1015 = .ok (.invokevirtual 131, 3) := by decide +kernel
theorem dL_law_1018 : decode cL_law 1018 = .ok (.aload_n 2, 1) := by decide +kernel
theorem dL_law_1019 : decode cL_law 1019 = .ok (.invokevirtual 134, 3) := by decide +kernel
theorem dL_law_1022 : decode cL_law 1022 = .ok (.if_icmp .eq 51, 3) := by decide +kernel
theorem dL_law_1025 : decode cL_law 1025 = .ok (.iconst 0, 1) := by decide +kernel
theorem dL_law_1026 : decode cL_law 1026 = .ok (.ireturn, 1) := by decide +kernel
theorem dL_law_1027 : decode cL_law 1027 = .ok (.aload_n 1, 1) := by decide +kernel
theorem dL_law_1028 : decode cL_law 1028 = .ok (.aload_n 0, 1) := by decide +kernel
theorem dL_law_1029 : decode cL_law 1029 = .ok (.iload_n 3, 1) := by decide +kernel
theorem dL_law_1030 : decode cL_law 1030 = .ok (.iconst 1, 1) := by decide +kernel
theorem dL_law_1031 : decode cL_law 1031 = .ok (.iadd, 1) := by decide +kernel
theorem dL_law_1032 : decode cL_law 1032 = .ok (.iaload, 1) := by decide +kernel
theorem dL_law_1033 : decode cL_law 1033 = .ok (.invokevirtual 135, 3) := by decide +kernel
theorem dL_law_1036 : decode cL_law 1036 = .ok (.aload_n 2, 1) := by decide +kernel
theorem dL_law_1037 : decode cL_law 1037 = .ok (.aload_n 0, 1) := by decide +kernel
theorem dL_law_1038 : decode cL_law 1038 = .ok (.iload_n 3, 1) := by decide +kernel
theorem dL_law_1039 : decode cL_law 1039 = .ok (.iconst 1, 1) := by decide +kernel
theorem dL_law_1040 : decode cL_law 1040 = .ok (.iadd, 1) := by decide +kernel
theorem dL_law_1041 : decode cL_law 1041 = .ok (.iaload, 1) := by decide +kernel
theorem dL_law_1042 : decode cL_law 1042 = .ok (.invokevirtual 138, 3) := by decide +kernel
theorem dL_law_1045 : decode cL_law 1045 = .ok (.if_icmp .eq 28, 3) := by decide +kernel
theorem dL_law_1048 : decode cL_law 1048 = .ok (.iconst 0, 1) := by decide +kernel
theorem dL_law_1049 : decode cL_law 1049 = .ok (.ireturn, 1) := by decide +kernel
theorem dL_law_1050 : decode cL_law 1050 = .ok (.aload_n 1, 1) := by decide +kernel
theorem dL_law_1051 : decode cL_law 1051 = .ok (.aload_n 0, 1) := by decide +kernel
theorem dL_law_1052 : decode cL_law 1052 = .ok (.iload_n 3, 1) := by decide +kernel
theorem dL_law_1053 : decode cL_law 1053 = .ok (.iconst 1, 1) := by decide +kernel
theorem dL_law_1054 : decode cL_law 1054 = .ok (.iadd, 1) := by decide +kernel
theorem dL_law_1055 : decode cL_law 1055 = .ok (.iaload, 1) := by decide +kernel
theorem dL_law_1056 : decode cL_law 1056 = .ok (.invokevirtual 139, 3) := by decide +kernel
theorem dL_law_1059 : decode cL_law 1059 = .ok (.aload_n 2, 1) := by decide +kernel
theorem dL_law_1060 : decode cL_law 1060 = .ok (.aload_n 0, 1) := by decide +kernel
theorem dL_law_1061 : decode cL_law 1061 = .ok (.iload_n 3, 1) := by decide +kernel
theorem dL_law_1062 : decode cL_law 1062 = .ok (.iconst 1, 1) := by decide +kernel
theorem dL_law_1063 : decode cL_law 1063 = .ok (.iadd, 1) := by decide +kernel
theorem dL_law_1064 : decode cL_law 1064 = .ok (.iaload, 1) := by decide +kernel
theorem dL_law_1065 : decode cL_law 1065 = .ok (.invokevirtual 142, 3) := by decide +kernel
theorem dL_law_1068 : decode cL_law 1068 = .ok (.if_icmp .eq 5, 3) := by decide +kernel
theorem dL_law_1071 : decode cL_law 1071 = .ok (.iconst 0, 1) := by decide +kernel
theorem dL_law_1072 : decode cL_law 1072 = .ok (.ireturn, 1) := by decide +kernel
theorem dL_law_1073 : decode cL_law 1073 = .ok (.iinc 3 7, 3) := by decide +kernel
theorem dL_law_1076 : decode cL_law 1076 = .ok (.goto (-1058), 3) := by decide +kernel
theorem dL_law_1079 : decode cL_law 1079 = .ok (.iconst 1, 1) := by decide +kernel
theorem dL_law_1080 : decode cL_law 1080 = .ok (.ireturn, 1) := by decide +kernel
end
section
/-! ===== numbers: an int as the image of an integer ===== -/
def iI (z : Int) : Int32 := Int32.ofInt z
def jL (z : Int) : Int64 := Int64.ofInt z
abbrev wR (z : Int) : Prop := -2147483648 ≤ z ∧ z ≤ 2147483647
abbrev wR64 (z : Int) : Prop := -9223372036854775808 ≤ z ∧ z ≤ 9223372036854775807
theorem iI_add (a b : Int) : iI a + iI b = iI (a + b) := (Int32.ofInt_add a b).symm
theorem iI_sub (a b : Int) : iI a - iI b = iI (a - b) := (Int32.ofInt_sub a b).symm
theorem iI_mul (a b : Int) : iI a * iI b = iI (a * b) := (Int32.ofInt_mul a b).symm
theorem iI_neg (a : Int) : -iI a = iI (-a) := (Int32.ofInt_neg a).symm
theorem iI_toInt {a : Int} (h : wR a) : (iI a).toInt = a := Int32.toInt_ofInt_of_le (by omega) (by omega)
theorem iI_of (x : Int32) : x = iI x.toInt := (Int32.ofInt_toInt x).symm
theorem iI_nat {a : Int} (h : wR a) : (iI a).toNatClampNeg = a.toNat := by rw [← Int32.toNat_toInt, iI_toInt h]
theorem iI_lt {a b : Int} (ha : wR a) (hb : wR b) : iI a < iI b ↔ a < b := by rw [Int32.lt_iff_toInt_lt, iI_toInt ha, iI_toInt hb]
theorem iI_le {a b : Int} (ha : wR a) (hb : wR b) : iI a ≤ iI b ↔ a ≤ b := by rw [Int32.le_iff_toInt_le, iI_toInt ha, iI_toInt hb]
theorem iI_eq {a b : Int} (ha : wR a) (hb : wR b) : iI a = iI b ↔ a = b := by rw [← Int32.toInt_inj, iI_toInt ha, iI_toInt hb]
theorem iI_0 : (0 : Int32) = iI 0 := rfl
theorem iI_div {a b : Int} (ha : 0 ≤ a ∧ a ≤ 2147483647) (hb : 0 < b ∧ b ≤ 2147483647) : iI a / iI b = iI (a / b) := by
  have h := Int32.ofInt_tdiv (a := a) (b := b) (by have : Int32.minValue.toInt = -2147483648 := rfl; omega) (by have : Int32.maxValue.toInt = 2147483647 := rfl; omega) (by have : Int32.minValue.toInt = -2147483648 := rfl; omega) (by have : Int32.maxValue.toInt = 2147483647 := rfl; omega)
  rw [Int.tdiv_eq_ediv_of_nonneg ha.1] at h
  exact h.symm
theorem iI_rem {a b : Int} (ha : 0 ≤ a ∧ a ≤ 2147483647) (hb : 0 < b ∧ b ≤ 2147483647) : iI a - iI a / iI b * iI b = iI (a % b) := by
  rw [iI_div ha hb, iI_mul, iI_sub, Int.emod_def, Int.mul_comm b]
theorem jL_add (a b : Int) : jL a + jL b = jL (a + b) := (Int64.ofInt_add a b).symm
theorem jL_sub (a b : Int) : jL a - jL b = jL (a - b) := (Int64.ofInt_sub a b).symm
theorem jL_mul (a b : Int) : jL a * jL b = jL (a * b) := (Int64.ofInt_mul a b).symm
theorem jL_neg (a : Int) : -jL a = jL (-a) := (Int64.ofInt_neg a).symm
theorem jL_toInt {a : Int} (h : wR64 a) : (jL a).toInt = a := Int64.toInt_ofInt_of_le (by omega) (by omega)
theorem jL_of (x : Int64) : x = jL x.toInt := (Int64.ofInt_toInt x).symm
theorem jL_lt {a b : Int} (ha : wR64 a) (hb : wR64 b) : jL a < jL b ↔ a < b := by rw [Int64.lt_iff_toInt_lt, jL_toInt ha, jL_toInt hb]
theorem jL_le {a b : Int} (ha : wR64 a) (hb : wR64 b) : jL a ≤ jL b ↔ a ≤ b := by rw [Int64.le_iff_toInt_le, jL_toInt ha, jL_toInt hb]
theorem jL_eq {a b : Int} (ha : wR64 a) (hb : wR64 b) : jL a = jL b ↔ a = b := by rw [← Int64.toInt_inj, jL_toInt ha, jL_toInt hb]
theorem jL_i (z : Int) : (jL z).toInt32 = iI z := Int64.toInt32_ofInt
theorem iI_j {z : Int} (h : wR z) : (iI z).toInt64 = jL z := by rw [← Int64.ofInt_int32ToInt, iI_toInt h]; rfl
theorem iI_of64 (x : Int64) : x.toInt32 = iI x.toInt := by
  have h := jL_i x.toInt
  rw [← jL_of] at h
  exact h
theorem jL_div {a b : Int} (ha : 0 ≤ a ∧ a ≤ 9223372036854775807) (hb : 0 < b ∧ b ≤ 9223372036854775807) : jL a / jL b = jL (a / b) := by
  have h := Int64.ofInt_tdiv (a := a) (b := b) (by have : Int64.minValue.toInt = -9223372036854775808 := rfl; omega) (by have : Int64.maxValue.toInt = 9223372036854775807 := rfl; omega) (by have : Int64.minValue.toInt = -9223372036854775808 := rfl; omega) (by have : Int64.maxValue.toInt = 9223372036854775807 := rfl; omega)
  rw [Int.tdiv_eq_ediv_of_nonneg ha.1] at h
  exact h.symm
theorem jL_rem {a b : Int} (ha : 0 ≤ a ∧ a ≤ 9223372036854775807) (hb : 0 < b ∧ b ≤ 9223372036854775807) : jL a - jL a / jL b * jL b = jL (a % b) := by
  rw [jL_div ha hb, jL_mul, jL_sub, Int.emod_def, Int.mul_comm b]
/-! ===== the words that every method may use ===== -/
def wAll : List Cond := lw_tbl.filter goodWord
theorem wIn {w : Cond} (i : Nat) (h : lw_tbl[i]? = some w) (hg : goodWord w = true) : w ∈ wAll := List.mem_filter.mpr ⟨List.mem_of_getElem? h, hg⟩
theorem wAll_good : GoodIn wAll wAll := fun _ hw => ⟨hw, good_of_word (List.mem_filter.mp hw).2⟩
/-! ===== a run's fixed things: classes, array classes, the first own address, statics, what is only read, the text constants ===== -/
abbrev wE : Type := va_G × (Nat → ClassId) × Nat × (Nat → Value) × (Nat → Option (FieldType × Nat × (Nat → Value))) × (Nat → Nat) × (Nat → Nat)
abbrev wD (E : wE) : va_G := E.1
abbrev wcA (E : wE) : Nat → ClassId := E.2.1
abbrev wb (E : wE) : Nat := E.2.2.1
abbrev wsv (E : wE) : Nat → Value := E.2.2.2.1
abbrev wro (E : wE) : Nat → Option (FieldType × Nat × (Nat → Value)) := E.2.2.2.2.1
abbrev waK (E : wE) : Nat → Nat := E.2.2.2.2.2.1
abbrev waV (E : wE) : Nat → Nat := E.2.2.2.2.2.2
def wA (E : wE) : Nat → Prop := fun q => wb E ≤ q
abbrev wTys (E : wE) : List (ClassId × FieldType) := [(wcA E 0, .int), (wcA E 1, .long), (wcA E 2, .double), (wcA E 3, .char), (wcA E 4, .boolean), (wcA E 5, .array .int), (wcA E 6, .object RX0), (wcA E 7, .object RX3), (wcA E 8, .object RX2)]
abbrev wSts : List (String × String × String) := [("StandingPayments", "LEAST_SETTINGS", "[I"), ("StandingPayments", "MOST_SETTINGS", "[I"), ("StandingPayments$Calendar", "MONTH_STARTS", "[I"), ("java/lang/String", "COMPACT_STRINGS", "Z")]
abbrev wLen : List Nat := [8, 4, 5]
abbrev wByt : List (List Int32) := [[48, 49, 50, 51, 52, 53, 54, 55], [100, 119, 109, 101], [46, 102, 98, 120, 33]]
abbrev wTx : List (Nat × String) := [(92, "01234567"), (66, "dwme"), (81, ".fbx!")]
abbrev wNM : List (String × Nat × MethodName × String) := [("StandingPayments", 32, yX4_init, "StandingPayments"), ("StandingPayments$Calendar", 46, yX6_isBetween, "StandingPayments"), ("StandingPayments$House", 11, yX1_init, "StandingPayments"), ("StandingPayments$House", 32, yX5_init, "StandingPayments"), ("StandingPayments$House", 47, yX0_init, "StandingPayments"), ("StandingPayments$House", 48, yX3_init, "StandingPayments"), ("StandingPayments$House", 77, yX6_isBetween, "StandingPayments"), ("StandingPayments$Pad", 17, yX6_isBetween, "StandingPayments")]
abbrev wNF : List (String × Nat × String × String × String × String) := [("StandingPayments$House", 81, "StandingPayments", "LEAST_SETTINGS", "[I", "StandingPayments"), ("StandingPayments$House", 85, "StandingPayments", "MOST_SETTINGS", "[I", "StandingPayments")]
/-- arrays of int arrays: their class, and its component -/
def wAI (E : wE) (s : State) : Prop := (Cond.arrayOver (.array .int)).before #[] s = true ∧ ∃ kA : Class, s.vm.classes[wcA E 5]? = some kA ∧ kA.kind = .array (wcA E 0) (.array .int)
theorem w_AOspec {s : State} (h : (Cond.arrayOver (.array .int)).before #[] s = true) : ∃ comp c k, s.vm.findClass (FieldType.array .int).toString = some comp ∧ (s.vm.classes.findIdx? fun (x : Class) => match x.kind with | .array component _ => component == comp | _ => false) = some c ∧ s.vm.classes[c]? = some k ∧ k.kind = .array comp (.array .int) ∧ s.vm.findClass ("[" ++ (FieldType.array .int).toString) = some c := by
  simp only [Cond.before, Cond.holds, Cond.value, beq_iff_eq] at h
  cases hc : s.vm.findClass (FieldType.array .int).toString with
  | none => simp [hc] at h
  | some comp =>
    simp only [hc, Option.bind_some, Option.bind_eq_some_iff, Option.map_eq_some_iff] at h
    obtain ⟨c, hi, k, hk, hb⟩ := h
    obtain ⟨hlt, hp, -⟩ := Array.findIdx?_eq_some_iff_getElem.mp hi
    have hkk : s.vm.classes[c] = k := (Array.getElem?_eq_some_iff.mp hk).2
    rw [hkk] at hp
    cases hkind : k.kind with
    | array component ty =>
      rw [hkind] at hb hp
      simp at hb hp
      exact ⟨comp, c, k, rfl, hi, hk, by rw [hkind, hp, hb.1], hb.2⟩
    | _ => rw [hkind] at hb; simp at hb
theorem wAI.moved {E : wE} {u U : State} (hvm : u.vm.Alike U.vm) (h : wAI E u) : wAI E U := by
  obtain ⟨h, kA, g1, g2⟩ := h
  refine ⟨?_, ?_⟩
  · obtain ⟨comp, c, k, h1, h2, h3, h4, h5⟩ := w_AOspec h
    obtain ⟨k', hk', he⟩ := hvm.2.2 _ _ h3
    have hi : (U.vm.classes.findIdx? fun (x : Class) => match x.kind with | .array component _ => component == comp | _ => false) = some c := by
      have e3 : U.vm.bare = u.vm.bare := by first | exact hvm.bare_eq | exact hvm.bare_eq.symm
      have e1 := va_idx_bare U.vm comp
      rw [e3] at e1
      exact e1.symm.trans ((va_idx_bare u.vm comp).trans h2)
    have hkind : k'.kind = .array comp (.array .int) := by rw [he]; exact h4
    have f1 : U.vm.findClass (FieldType.array .int).toString = some comp := by rw [hvm.findClass]; exact h1
    have f2 : U.vm.findClass ("[" ++ (FieldType.array .int).toString) = some c := by rw [hvm.findClass]; exact h5
    unfold Cond.before Cond.holds
    simp only [Cond.value]
    rw [f1, Option.bind_some]
    refine (congrArg (fun o : Option Nat => (o.bind (fun c => (U.vm.classes[c]?).map fun (k : Class) => match k.kind with | .array _ ty => decide (ty = FieldType.array .int) && decide (U.vm.findClass ("[" ++ (FieldType.array .int).toString) = some c) | _ => false) == some true)) hi).trans ?_
    simp [hk', hkind, f2]
  · obtain ⟨k', hk', he⟩ := hvm.2.2 _ _ g1
    exact ⟨k', hk', by rw [he]; exact g2⟩
def wK (E : wE) (s : State) : Prop :=
  va_K (wD E) vwCl (wTys E) s ∧
  (∀ (k : Nat) (q : String × String × String), wSts[k]? = some q → va_Z q.1 q.2.1 q.2.2 (wsv E k) (wA E) s s.heap) ∧
  (∀ (a : Nat) (ty : FieldType) (N : Nat) (f : Nat → Value), wro E a = some (ty, N, f) → va_T ty a N f (wA E) s s.heap) ∧
  vk_S 3 wLen wByt (waK E) (waV E) (wA E) s s.heap ∧
  (∀ (i : Nat) (q : Nat × String), wTx[i]? = some q → vk_R RX4 q.1 q.2 (waK E i) s) ∧
  (∀ q ∈ wNM, va_Nw (.methodLinkNest q.1 q.2.1 q.2.2.1 q.2.2.2) s) ∧
  (∀ q ∈ wNF, va_Nw (.fieldLinkNest q.1 q.2.1 q.2.2.1 q.2.2.2.1 q.2.2.2.2.1 q.2.2.2.2.2) s) ∧
  (va_AO RX0 s ∧ va_AO RX3 s ∧ va_AO RX2 s ∧ wAI E s)
/-- the same things known in another state of the run: warmed tables, nothing outside written -/
theorem wK.on {E : wE} {s U : State} {H : Heap} {locs : List Loc} (h : wK E s) (hS : va_S (wA E) s.heap H locs) (hU : U.heap = H) (hW : s.WarmedH U.vm) : wK E U := by
  obtain ⟨h1, h2, h3, h4, h5, h6, h7, h8, h9, h10, h11⟩ := h
  have hq : ∀ a : Nat, a < s.heap.size → ¬ wA E a → U.heap[a]? = s.heap[a]? := by rw [hU]; exact hS.2.1
  have hvm := hW.alike
  exact ⟨h1.moved hvm, fun k q hk => ((h2 k q hk).kept hq).moved hvm, fun a ty N f ha => ((h3 a ty N f ha).kept hq).moved hvm, (h4.kept hq).moved hvm, fun i q hi => (h5 i q hi).warm hW, fun q hq => (h6 q hq).warmM hW, fun q hq => (h7 q hq).warmF hW, h8.moved hvm, h9.moved hvm, h10.moved hvm, h11.moved hvm⟩
theorem wK.calling {E : wE} {U : State} (h : wK E U) (g : JFrame) (mk : MethodId) (a : Array Value) : wK E (U.calling g mk a) := by
  obtain ⟨h1, h2, h3, h4, h5, h6, h7, h8, h9, h10, h11⟩ := h
  have hv : (U.calling g mk a).vm = U.vm := rfl
  have hvm : U.vm.Alike (U.calling g mk a).vm := Vm.Alike.refl U.vm
  exact ⟨h1.moved (u := U) (U := U.calling g mk a) hvm, fun k q hk => (h2 k q hk).moved (u := U) (U := U.calling g mk a) hvm, fun a' ty N f ha => (h3 a' ty N f ha).moved (u := U) (U := U.calling g mk a) hvm, h4.moved (u := U) (U := U.calling g mk a) hvm, fun i q hi => (h5 i q hi).same hv, fun q hq => (h6 q hq).same rfl hv.symm, fun q hq => (h7 q hq).same rfl hv.symm, h8.moved (u := U) (U := U.calling g mk a) hvm, h9.moved (u := U) (U := U.calling g mk a) hvm, h10.moved (u := U) (U := U.calling g mk a) hvm, h11.moved (u := U) (U := U.calling g mk a) hvm⟩
/-! ===== the heap as a function; the locals as a function ===== -/
theorem w_bF {a b : Nat} (h : ¬ a = b) : Nat.beq a b = false := by
  cases hb : Nat.beq a b with
  | false => rfl
  | true => exact absurd (Nat.eq_of_beq_eq_true hb) h
abbrev hW : Type := (Nat → Option va_E) × Nat
def wUp (h : hW) (a : Nat) (e : va_E) : hW := (fun q => bif Nat.beq q a then some e else h.1 q, h.2)
def wRep (E : wE) (h : hW) (H : Heap) : Prop := H.size = h.2 ∧ ∀ (a : Nat) (e : va_E), h.1 a = some e → wb E ≤ a ∧ va_at (wD E) vwCl (a, e) H
theorem wRep.put {E : wE} {h : hW} {H H1 : Heap} {a : Nat} {e0 e : va_E} (hr : wRep E h H) (ha : h.1 a = some e0) (z : H1.size = H.size) (oq : ∀ q : Nat, q ≠ a → H1[q]? = H[q]?) (he : va_at (wD E) vwCl (a, e) H1) : wRep E (wUp h a e) H1 := by
  refine ⟨z.trans hr.1, fun q e' hq => ?_⟩
  by_cases hqa : q = a
  · subst hqa
    simp only [wUp, Nat.beq_refl, cond_true, Option.some.injEq] at hq
    subst hq
    exact ⟨(hr.2 q e0 ha).1, he⟩
  · have hb : Nat.beq q a = false := w_bF hqa
    simp only [wUp, hb, cond_false] at hq
    obtain ⟨h1, h2⟩ := hr.2 q e' hq
    exact ⟨h1, h2.kept (oq q hqa)⟩
theorem wRep.one {E : wE} {h : hW} {H : Heap} {a : Nat} {e : va_E} (hr : wRep E h H) (ha : h.1 a = some e) : va_P (wD E) vwCl [(a, e)] H := by
  intro k q hk
  have h0 : k < 1 := (List.getElem?_eq_some_iff.mp hk).1
  rw [show k = 0 by omega] at hk
  cases hk
  exact (hr.2 a e ha).2
/-- one more cell at the end -/
def wPush (h : hW) (e : va_E) : hW := (fun q => bif Nat.beq q h.2 then some e else h.1 q, h.2 + 1)
theorem wRep.push {E : wE} {h : hW} {H H1 : Heap} {e : va_E} (hr : wRep E h H) (hb : wb E ≤ h.2) (z : H1.size = H.size + 1) (oq : ∀ q : Nat, q < H.size → H1[q]? = H[q]?) (he : va_at (wD E) vwCl (H.size, e) H1) : wRep E (wPush h e) H1 := by
  refine ⟨by rw [z, hr.1]; rfl, fun q e' hq => ?_⟩
  by_cases hqa : q = h.2
  · subst hqa
    simp only [wPush, Nat.beq_refl, cond_true, Option.some.injEq] at hq
    subst hq
    rw [hr.1] at he
    exact ⟨hb, he⟩
  · have hb : Nat.beq q h.2 = false := w_bF hqa
    simp only [wPush, hb, cond_false] at hq
    obtain ⟨h1, h2⟩ := hr.2 q e' hq
    exact ⟨h1, h2.kept (oq q h2.lt)⟩
def wC2 : Option Value → Option Value
  | some (.long _) => none
  | some (.double _) => none
  | o => o
abbrev wLoc : Type := Nat → Option Value
def wSt (ls : wLoc) (i : Nat) (v : Value) : wLoc := fun k => bif Nat.beq k i then some v else bif Nat.beq (k + 1) i then wC2 (ls k) else ls k
def wSt2 (ls : wLoc) (i : Nat) (v : Value) : wLoc := fun k => bif Nat.beq k i then some v else bif Nat.beq k (i + 1) then none else bif Nat.beq (k + 1) i then wC2 (ls k) else ls k
def wFind : List (Nat × Value) → wLoc
  | [], _ => none
  | q :: l, k => bif Nat.beq q.1 k then some q.2 else wFind l k
def wArgs (vs : List Value) : wLoc := wFind (lv_args 0 vs)
/-- a loop's locals, written out -/
def wLs (l : List (Option Value)) : wLoc := fun k => (l[k]?).getD none
def wL (ls : wLoc) (lsa : Array Slot) (n : Nat) : Prop := lsa.size = n ∧ lv_wf lsa ∧ ∀ (k : Nat) (v : Value), ls k = some v → lsa[k]? = some (.val v)
def wLst (ls : wLoc) (n : Nat) : List (Nat × Value) := (List.range n).filterMap (fun k => (ls k).map fun v => (k, v))
theorem wC2_some {o : Option Value} {w : Value} (h : wC2 o = some w) : o = some w ∧ ¬ w.category = 2 := by
  cases o with
  | none => cases h
  | some v => cases v <;> first | (cases h; done) | (cases h; exact ⟨rfl, by decide⟩) | (cases h; exact ⟨rfl, by simp [Value.category]⟩)
theorem wL.has {ls : wLoc} {lsa : Array Slot} {n : Nat} (h : wL ls lsa n) : lv_has lsa n (wLst ls n) := ⟨h.1, h.2.1, fun q hq => by
  obtain ⟨k, -, hk⟩ := List.mem_filterMap.mp hq
  cases hv : ls k with
  | none => rw [hv] at hk; cases hk
  | some v => rw [hv] at hk; cases hk; exact h.2.2 k v hv⟩
theorem wL.mem {ls : wLoc} {lsa : Array Slot} {n k : Nat} {v : Value} (h : wL ls lsa n) (hk : ls k = some v) : (k, v) ∈ wLst ls n := by
  have h1 : k < lsa.size := lv_lt (h.2.2 k v hk)
  rw [h.1] at h1
  exact List.mem_filterMap.mpr ⟨k, List.mem_range.mpr h1, by rw [hk]; rfl⟩
theorem wL.st1 {ls : wLoc} {lsa lsb : Array Slot} {n i : Nat} {v : Value} (h : wL ls lsa n) (h' : lv_has lsb n ((i, v) :: (wLst ls n).filter (fun q => !(q.1 == i) && !(q.1 + 1 == i && q.2.category == 2)))) : wL (wSt ls i v) lsb n := by
  refine ⟨h'.1, h'.2.1, fun k w hk => ?_⟩
  unfold wSt at hk
  by_cases h1 : k = i
  · subst h1
    simp only [Nat.beq_refl, cond_true, Option.some.injEq] at hk
    subst hk
    exact h'.2.2 _ List.mem_cons_self
  · rw [w_bF h1, cond_false] at hk
    have key : ls k = some w ∧ ¬ (k + 1 = i ∧ w.category = 2) := by
      by_cases h2 : k + 1 = i
      · subst h2
        rw [Nat.beq_refl, cond_true] at hk
        exact ⟨(wC2_some hk).1, fun q => (wC2_some hk).2 q.2⟩
      · rw [w_bF h2, cond_false] at hk
        exact ⟨hk, fun q => h2 q.1⟩
    refine h'.2.2 (k, w) (List.mem_cons_of_mem _ (List.mem_filter.mpr ⟨h.mem key.1, ?_⟩))
    have := key.2
    simp only [Bool.and_eq_true, Bool.not_eq_true', beq_eq_false_iff_ne, ne_eq, Bool.and_eq_false_iff]
    refine ⟨h1, ?_⟩
    by_cases h2 : k + 1 = i
    · exact Or.inr (fun q => this ⟨h2, q⟩)
    · exact Or.inl h2
theorem wL.st2 {ls : wLoc} {lsa lsb : Array Slot} {n i : Nat} {v : Value} (h : wL ls lsa n) (h' : lv_has lsb n ((i, v) :: (wLst ls n).filter (fun q => !(q.1 == i) && (!(q.1 == i + 1) && !(q.1 + 1 == i && q.2.category == 2))))) : wL (wSt2 ls i v) lsb n := by
  refine ⟨h'.1, h'.2.1, fun k w hk => ?_⟩
  unfold wSt2 at hk
  by_cases h1 : k = i
  · subst h1
    simp only [Nat.beq_refl, cond_true, Option.some.injEq] at hk
    subst hk
    exact h'.2.2 _ List.mem_cons_self
  · rw [w_bF h1, cond_false] at hk
    by_cases h3 : k = i + 1
    · subst h3
      rw [Nat.beq_refl, cond_true] at hk
      cases hk
    · rw [w_bF h3, cond_false] at hk
      have key : ls k = some w ∧ ¬ (k + 1 = i ∧ w.category = 2) := by
        by_cases h2 : k + 1 = i
        · subst h2
          rw [Nat.beq_refl, cond_true] at hk
          exact ⟨(wC2_some hk).1, fun q => (wC2_some hk).2 q.2⟩
        · rw [w_bF h2, cond_false] at hk
          exact ⟨hk, fun q => h2 q.1⟩
      refine h'.2.2 (k, w) (List.mem_cons_of_mem _ (List.mem_filter.mpr ⟨h.mem key.1, ?_⟩))
      have := key.2
      simp only [Bool.and_eq_true, Bool.not_eq_true', beq_eq_false_iff_ne, ne_eq, Bool.and_eq_false_iff]
      refine ⟨h1, h3, ?_⟩
      by_cases h2 : k + 1 = i
      · exact Or.inr (fun q => this ⟨h2, q⟩)
      · exact Or.inl h2
theorem wFind_mem : ∀ (l : List (Nat × Value)) (k : Nat) (v : Value), wFind l k = some v → (k, v) ∈ l
  | [], _, _, h => by cases h
  | q :: l, k, v, h => by
    unfold wFind at h
    by_cases hq : q.1 = k
    · subst hq
      rw [Nat.beq_refl, cond_true] at h
      cases h
      exact List.mem_cons_self
    · rw [w_bF hq, cond_false] at h
      exact List.mem_cons_of_mem _ (wFind_mem l k v h)
/-! ===== the weakest precondition of a place in a method ===== -/
def wCx (E : wE) (n : Nat) (y : MethodName) (cc : ByteArray) (ml : Nat) (rt : Option FieldType) (p : Program) (R : Room) (s : State) (m : MethodId) (args : Array Value) (meth : Method) (c : Code) : Prop :=
  p.tables.exec = Jvm.exec ∧ c.code = cc ∧ c.maxLocals = ml ∧ meth.sig.returnType = rt ∧ s.vm.findClass y.cls = some m.cls ∧ (∀ w ∈ wAll, w.before args s = true) ∧ meth.locks = false ∧ n ≤ R.frames ∧ 38 * n ≤ R.locals ∧ wK E s ∧ meth.name = y.name
def wRI : Option Value → Instr
  | none => .return_
  | some (.int _) => .ireturn
  | some (.long _) => .lreturn
  | some (.double _) => .dreturn
  | some (.float _) => .freturn
  | _ => .areturn
def wNar (rt : Option FieldType) : Option Value → Prop
  | none => rt = none
  | some (.int x) => ∃ ty, rt = some ty ∧ narrow ty (.int x) = .int x
  | some (.long _) => rt = some .long
  | some (.double _) => rt = some .double
  | some (.ref _) => ∃ ty, rt = some (.array ty)
  | _ => False
def wRet (E : wE) (cc : ByteArray) (rt : Option FieldType) (p : Program) (l : Launch) (e : Env) (R : Room) (s : State) (m : MethodId) (args : Array Value) (below : List Frame) (meth : Method) (c : Code) (Z : State → Prop) (CB SB : Nat) (v : Option Value) (h1 : hW) : Prop :=
  ∀ (H1 : Heap) (locs1 : List Loc) (cells1 slots1 pc : Nat) (lsa : Array Slot), wRep E h1 H1 → va_S (wA E) s.heap H1 locs1 → cells1 ≤ CB → slots1 ≤ SB → decode cc pc = .ok (wRI v, 1) → wNar rt v → W p l e R s m args below meth c H1 locs1 cells1 slots1 Z (F0 m pc lsa v.toList)
def WP (E : wE) (n : Nat) (y : MethodName) (cc : ByteArray) (ml : Nat) (rt : Option FieldType) (pc : Nat) (ls : wLoc) (st : List Value) (h : hW) (bc bs : Nat) (Q : Option Value → hW → Prop) : Prop :=
  ∀ (p : Program) (l : Launch) (e : Env) (R : Room) (s : State) (m : MethodId) (args : Array Value) (below : List Frame) (meth : Method) (c : Code) (H : Heap) (locs : List Loc) (cells slots : Nat) (lsa : Array Slot) (Z : State → Prop),
    wCx E n y cc ml rt p R s m args meth c → wRep E h H → va_S (wA E) s.heap H locs → wL ls lsa ml → cells + bc ≤ R.cells → slots + bs ≤ R.slots →
    (∀ (v : Option Value) (h1 : hW), Q v h1 → wRet E cc rt p l e R s m args below meth c Z (cells + bc) (slots + bs) v h1) →
    W p l e R s m args below meth c H locs cells slots Z (F0 m pc lsa st)
section WPB
variable {E : wE} {n : Nat} {y : MethodName} {cc : ByteArray} {ml : Nat} {rt : Option FieldType} {pc : Nat} {ls : wLoc} {st : List Value} {h : hW} {bc bs : Nat} {Q : Option Value → hW → Prop}
theorem WP.post {Q' : Option Value → hW → Prop} (k : WP E n y cc ml rt pc ls st h bc bs Q') (hq : ∀ v h1, Q' v h1 → Q v h1) : WP E n y cc ml rt pc ls st h bc bs Q :=
  fun p l e R s m args below meth c H locs cells slots lsa Z C hr hs hl hc1 hc2 hz => k p l e R s m args below meth c H locs cells slots lsa Z C hr hs hl hc1 hc2 (fun v h1 q => hz v h1 (hq v h1 q))
/-- fewer locals known -/
theorem WP.loc {ls' : wLoc} (hl' : ∀ (k : Nat) (v : Value), ls' k = some v → ls k = some v) (k : WP E n y cc ml rt pc ls' st h bc bs Q) : WP E n y cc ml rt pc ls st h bc bs Q :=
  fun p l e R s m args below meth c H locs cells slots lsa Z C hr hs hl hc1 hc2 hz => k p l e R s m args below meth c H locs cells slots lsa Z C hr hs ⟨hl.1, hl.2.1, fun j v hj => hl.2.2 j v (hl' j v hj)⟩ hc1 hc2 hz
theorem WP.room {bc' bs' : Nat} (h1 : bc' ≤ bc) (h2 : bs' ≤ bs) (k : WP E n y cc ml rt pc ls st h bc' bs' Q) : WP E n y cc ml rt pc ls st h bc bs Q :=
  fun p l e R s m args below meth c H locs cells slots lsa Z C hr hs hl hc1 hc2 hz => k p l e R s m args below meth c H locs cells slots lsa Z C hr hs hl (by omega) (by omega) (fun v h3 q H1 locs1 cells1 slots1 pc1 lsa1 a1 a2 a3 a4 => hz v h3 q H1 locs1 cells1 slots1 pc1 lsa1 a1 a2 (by omega) (by omega))
theorem WP.deep {n' : Nat} (h1 : n' ≤ n) (k : WP E n' y cc ml rt pc ls st h bc bs Q) : WP E n y cc ml rt pc ls st h bc bs Q :=
  fun p l e R s m args below meth c H locs cells slots lsa Z C hr hs hl hc1 hc2 hz => k p l e R s m args below meth c H locs cells slots lsa Z (by
    obtain ⟨a1, a2, a3, a4, a5, a6, a7, a8, a9, a10⟩ := C
    exact ⟨a1, a2, a3, a4, a5, a6, a7, by omega, by omega, a10⟩) hr hs hl hc1 hc2 hz
end WPB
/-! ===== a method's contract out of its walk ===== -/
def wWs (y : MethodName) (cc : ByteArray) (ml : Nat) (rt : Option FieldType) : List Cond := Cond.code y cc ml rt :: wAll
def wRm (n mc ms : Nat) : Room := { frames := n, cells := mc, slots := ms, locals := 38 * n }
def wPc (E : wE) (As : List Value) (h : hW) : Array Value → State → Prop := fun v U => v = As.toArray ∧ wK E U ∧ wRep E h U.heap
def wQc (E : wE) (Q : Option Value → hW → Prop) : Array Value → State → Outcome → State → Prop := fun _ st o t => (∃ v h1, o = .returned v ∧ Q v h1 ∧ wRep E h1 t.heap) ∧ va_F (wA E) st t
/-- a method's contract: from these arguments and this heap it returns so -/
abbrev WM (E : wE) (n : Nat) (y : MethodName) (cc : ByteArray) (ml : Nat) (rt : Option FieldType) (As : List Value) (h : hW) (mc ms : Nat) (Q : Option Value → hW → Prop) : Prop := WP E n y cc ml rt 0 (wArgs As) [] h mc ms Q
theorem wMet {E : wE} {n : Nat} {y : MethodName} {cc : ByteArray} {ml : Nat} {rt : Option FieldType} {As : List Value} {h : hW} {mc ms : Nat} {Q : Option Value → hW → Prop} (hy : plainName y.cls = true) (hn : (lg_sl As).length ≤ ml) (hW : WM E n y cc ml rt As h mc ms Q) (l : Launch) :
    Met l y (wWs y cc ml rt) (wRm n mc ms) (wPc E As h) (wQc E Q) mc ms (wA E) := by
  refine Met.ofW hy rfl ?_
  intro p e s m args below meth c s₁ B hml hP
  obtain ⟨rfl, hK, hr⟩ := hP
  have hpre := atoms_spec (ws := wWs y cc ml rt) B.pre
  have hl := lv_entry As (n := ml) hn
  rw [lg_entry_eq]
  refine hW p l e _ s m As.toArray below meth c s.heap [] 0 0 _ _ ⟨B.exec, B.bytes, hml, B.returns, findClass_of_methodNamed B.named, fun w hw => hpre w (List.mem_cons_of_mem _ hw), B.notSynchronized, Nat.le_refl _, Nat.le_refl _, hK, (name_of_methodNamed B.named B.method).1⟩ hr va_S.rf ⟨hl.1, hl.2.1, fun k v hk => hl.2.2 (k, v) (wFind_mem _ k v hk)⟩ (by show 0 + mc ≤ mc; omega) (by show 0 + ms ≤ ms; omega) ?_
  intro v h1 hq H1 locs1 cells1 slots1 pc lsa hr1 hS1 hc1 hs1 hd hnar
  refine W.widen (k := mc) (n := ms) (by omega) (by omega) ?_
  have hpost : ∀ t : State, t.heap = H1 → s.WarmedH t.vm → wQc E Q As.toArray s (.returned v) t := fun t ht _ => ⟨⟨v, h1, rfl, hq, by rw [ht]; exact hr1⟩, hS1.F ht⟩
  have hf : ∀ q ∈ locs1, wA E q.base := hS1.2.2
  have hlocks := B.notSynchronized
  match v, hpost, hd, hnar with
  | none, hpost, hd, hnar => exact W.vret B.exec B.bytes (B.returns.trans hnar) hpost hf hd hlocks
  | some (.int x), hpost, hd, hnar =>
    obtain ⟨ty, h2, h3⟩ := hnar
    exact W.zret B.exec B.bytes (B.returns.trans h2) h3 hpost hf hd hlocks
  | some (.long x), hpost, hd, hnar => exact W.lret B.exec B.bytes (B.returns.trans hnar) hpost hf hd hlocks
  | some (.double x), hpost, hd, hnar => exact W.dret B.exec B.bytes (B.returns.trans hnar) hpost hf hd hlocks
  | some (.ref x), hpost, hd, hnar =>
    obtain ⟨ty, h2⟩ := hnar
    exact W.aret B.exec B.bytes (B.returns.trans h2) (Or.inr ⟨ty, rfl⟩) (Or.inr ⟨x, rfl⟩) hpost hf hd hlocks
end
section
/-! ===== rows: an instruction each, over WP (by program: wip/whole/gen_rows.py) ===== -/
theorem w_lgc {v w : Int64} : (v < w ∧ lg_cmp v w = -1) ∨ (v = w ∧ lg_cmp v w = 0) ∨ (w < v ∧ lg_cmp v w = 1) := by
  unfold lg_cmp
  by_cases h : w < v
  · exact Or.inr (Or.inr ⟨h, by rw [if_pos h]⟩)
  · by_cases h2 : v = w
    · exact Or.inr (Or.inl ⟨h2, by rw [if_neg h, if_pos h2]⟩)
    · refine Or.inl ⟨?_, by rw [if_neg h, if_neg h2]⟩
      rw [Int64.lt_iff_toInt_lt] at h ⊢
      have h3 : ¬ v.toInt = w.toInt := fun q => h2 (Int64.toInt_inj.mp q)
      omega
theorem w_lc_eq {v w : Int64} : lg_cmp v w = 0 ↔ v = w := by
  rcases w_lgc (v := v) (w := w) with ⟨h1, h2⟩ | ⟨h1, h2⟩ | ⟨h1, h2⟩ <;> rw [h2]
  · have e1 := Int64.ne_of_lt h1
    have e2 := Int64.lt_asymm h1
    simp [h1, e1, e2]
  · subst h1
    simp
  · have e1 := (Int64.ne_of_lt h1).symm
    have e2 := Int64.lt_asymm h1
    simp [h1, e1, e2]
theorem w_lcn_eq {v w : Int64} (q : ¬ lg_cmp v w = 0) : ¬ v = w := fun e => q (w_lc_eq.mpr e)
theorem w_lc_ne {v w : Int64} : ¬ lg_cmp v w = 0 ↔ ¬ v = w := by
  rcases w_lgc (v := v) (w := w) with ⟨h1, h2⟩ | ⟨h1, h2⟩ | ⟨h1, h2⟩ <;> rw [h2]
  · have e1 := Int64.ne_of_lt h1
    have e2 := Int64.lt_asymm h1
    simp [h1, e1, e2]
  · subst h1
    simp
  · have e1 := (Int64.ne_of_lt h1).symm
    have e2 := Int64.lt_asymm h1
    simp [h1, e1, e2]
theorem w_lcn_ne {v w : Int64} (q : lg_cmp v w = 0) : v = w := w_lc_eq.mp q
theorem w_lc_lt {v w : Int64} : lg_cmp v w < 0 ↔ v < w := by
  rcases w_lgc (v := v) (w := w) with ⟨h1, h2⟩ | ⟨h1, h2⟩ | ⟨h1, h2⟩ <;> rw [h2]
  · have e1 := Int64.ne_of_lt h1
    have e2 := Int64.lt_asymm h1
    simp [h1, e1, e2]
  · subst h1
    simp
  · have e1 := (Int64.ne_of_lt h1).symm
    have e2 := Int64.lt_asymm h1
    simp [h1, e1, e2]
theorem w_lcn_lt {v w : Int64} (q : ¬ lg_cmp v w < 0) : ¬ v < w := fun e => q (w_lc_lt.mpr e)
theorem w_lc_ge {v w : Int64} : 0 ≤ lg_cmp v w ↔ ¬ v < w := by
  rcases w_lgc (v := v) (w := w) with ⟨h1, h2⟩ | ⟨h1, h2⟩ | ⟨h1, h2⟩ <;> rw [h2]
  · have e1 := Int64.ne_of_lt h1
    have e2 := Int64.lt_asymm h1
    simp [h1, e1, e2]
  · subst h1
    simp
  · have e1 := (Int64.ne_of_lt h1).symm
    have e2 := Int64.lt_asymm h1
    simp [h1, e1, e2]
theorem w_lcn_ge {v w : Int64} (q : ¬ 0 ≤ lg_cmp v w) : v < w := Classical.not_not.mp (fun e => q (w_lc_ge.mpr e))
theorem w_lc_gt {v w : Int64} : 0 < lg_cmp v w ↔ w < v := by
  rcases w_lgc (v := v) (w := w) with ⟨h1, h2⟩ | ⟨h1, h2⟩ | ⟨h1, h2⟩ <;> rw [h2]
  · have e1 := Int64.ne_of_lt h1
    have e2 := Int64.lt_asymm h1
    simp [h1, e1, e2]
  · subst h1
    simp
  · have e1 := (Int64.ne_of_lt h1).symm
    have e2 := Int64.lt_asymm h1
    simp [h1, e1, e2]
theorem w_lcn_gt {v w : Int64} (q : ¬ 0 < lg_cmp v w) : ¬ w < v := fun e => q (w_lc_gt.mpr e)
theorem w_lc_le {v w : Int64} : lg_cmp v w ≤ 0 ↔ ¬ w < v := by
  rcases w_lgc (v := v) (w := w) with ⟨h1, h2⟩ | ⟨h1, h2⟩ | ⟨h1, h2⟩ <;> rw [h2]
  · have e1 := Int64.ne_of_lt h1
    have e2 := Int64.lt_asymm h1
    simp [h1, e1, e2]
  · subst h1
    simp
  · have e1 := (Int64.ne_of_lt h1).symm
    have e2 := Int64.lt_asymm h1
    simp [h1, e1, e2]
theorem w_lcn_le {v w : Int64} (q : ¬ lg_cmp v w ≤ 0) : w < v := Classical.not_not.mp (fun e => q (w_lc_le.mpr e))
section WQ
variable {E : wE} {n : Nat} {y : MethodName} {cc : ByteArray} {ml : Nat} {rt : Option FieldType} {pc : Nat} {ls : wLoc} {st : List Value} {h : hW} {bc bs : Nat} {Q : Option Value → hW → Prop}
theorem wq_iconst {z : Int} (hdg : decode cc pc = .ok (.iconst z, 1))  (k : WP E n y cc ml rt (pc + 1) ls (.int (iI z) :: st) (h) bc bs Q) : WP E n y cc ml rt (pc) ls (st) (h) bc bs Q := fun p l e R s m args below meth c H locs cells slots lsa Z C hr hs hl hc1 hc2 hz => lv_iconst C.1 C.2.1 hdg rfl (k p l e R s m args below meth c H locs cells slots lsa Z C hr hs hl hc1 hc2 hz)
theorem wq_bipush {z : Int} (hdg : decode cc pc = .ok (.bipush z, 2)) (hv : -128 ≤ z ∧ z ≤ 127 := by decide) (k : WP E n y cc ml rt (pc + 2) ls (.int (iI z) :: st) (h) bc bs Q) : WP E n y cc ml rt (pc) ls (st) (h) bc bs Q := fun p l e R s m args below meth c H locs cells slots lsa Z C hr hs hl hc1 hc2 hz => lv_bipush C.1 C.2.1 hdg (Int8.toInt32_ofInt hv.1 hv.2) (k p l e R s m args below meth c H locs cells slots lsa Z C hr hs hl hc1 hc2 hz)
theorem wq_sipush {z : Int} (hdg : decode cc pc = .ok (.sipush z, 3)) (hv : -32768 ≤ z ∧ z ≤ 32767 := by decide) (k : WP E n y cc ml rt (pc + 3) ls (.int (iI z) :: st) (h) bc bs Q) : WP E n y cc ml rt (pc) ls (st) (h) bc bs Q := fun p l e R s m args below meth c H locs cells slots lsa Z C hr hs hl hc1 hc2 hz => lv_sipush C.1 C.2.1 hdg (Int16.toInt32_ofInt hv.1 hv.2) (k p l e R s m args below meth c H locs cells slots lsa Z C hr hs hl hc1 hc2 hz)
theorem wq_lconst {z : Fin 2} (hdg : decode cc pc = .ok (.lconst z, 1))  (k : WP E n y cc ml rt (pc + 1) ls (.long (jL (z.val : Nat)) :: st) (h) bc bs Q) : WP E n y cc ml rt (pc) ls (st) (h) bc bs Q := fun p l e R s m args below meth c H locs cells slots lsa Z C hr hs hl hc1 hc2 hz => lv_lconst C.1 C.2.1 hdg rfl (k p l e R s m args below meth c H locs cells slots lsa Z C hr hs hl hc1 hc2 hz)
theorem wq_dconst0  (hdg : decode cc pc = .ok (.dconst 0, 1))  (k : WP E n y cc ml rt (pc + 1) ls (.double FP.dconst0 :: st) (h) bc bs Q) : WP E n y cc ml rt (pc) ls (st) (h) bc bs Q := fun p l e R s m args below meth c H locs cells slots lsa Z C hr hs hl hc1 hc2 hz => lv_dconst0 C.1 C.2.1 hdg (k p l e R s m args below meth c H locs cells slots lsa Z C hr hs hl hc1 hc2 hz)
theorem wq_dconst1  (hdg : decode cc pc = .ok (.dconst 1, 1))  (k : WP E n y cc ml rt (pc + 1) ls (.double FP.dconst1 :: st) (h) bc bs Q) : WP E n y cc ml rt (pc) ls (st) (h) bc bs Q := fun p l e R s m args below meth c H locs cells slots lsa Z C hr hs hl hc1 hc2 hz => lv_dconst1 C.1 C.2.1 hdg (k p l e R s m args below meth c H locs cells slots lsa Z C hr hs hl hc1 hc2 hz)
theorem wq_ldc {i : Nat} {z : Int} (hdg : decode cc pc = .ok (.ldc i, 2)) (hw : Cond.constant y.cls i (iI z) ∈ wAll) (k : WP E n y cc ml rt (pc + 2) ls (.int (iI z) :: st) (h) bc bs Q) : WP E n y cc ml rt (pc) ls (st) (h) bc bs Q := fun p l e R s m args below meth c H locs cells slots lsa Z C hr hs hl hc1 hc2 hz => lv_ldc C.1 C.2.1 C.2.2.2.2.1 (C.2.2.2.2.2.1 _ hw) hdg (k p l e R s m args below meth c H locs cells slots lsa Z C hr hs hl hc1 hc2 hz)
theorem wq_ldc2 {i : Nat} {z : Int} (hdg : decode cc pc = .ok (.ldc2_w i, 3)) (hw : Cond.constantLong y.cls i (jL z) ∈ wAll) (k : WP E n y cc ml rt (pc + 3) ls (.long (jL z) :: st) (h) bc bs Q) : WP E n y cc ml rt (pc) ls (st) (h) bc bs Q := fun p l e R s m args below meth c H locs cells slots lsa Z C hr hs hl hc1 hc2 hz => lv_ldc2 C.1 C.2.1 C.2.2.2.2.1 (C.2.2.2.2.2.1 _ hw) hdg (k p l e R s m args below meth c H locs cells slots lsa Z C hr hs hl hc1 hc2 hz)
theorem wq_ldcf {i : Nat} {v : UInt32} (hdg : decode cc pc = .ok (.ldc i, 2)) (hw : Cond.constantFloat y.cls i v ∈ wAll) (k : WP E n y cc ml rt (pc + 2) ls (.float v :: st) (h) bc bs Q) : WP E n y cc ml rt (pc) ls (st) (h) bc bs Q := fun p l e R s m args below meth c H locs cells slots lsa Z C hr hs hl hc1 hc2 hz => lv_ldcf C.1 C.2.1 C.2.2.2.2.1 (C.2.2.2.2.2.1 _ hw) hdg (k p l e R s m args below meth c H locs cells slots lsa Z C hr hs hl hc1 hc2 hz)
theorem wq_ldc2d {i : Nat} {v : UInt64} (hdg : decode cc pc = .ok (.ldc2_w i, 3)) (hw : Cond.constantDouble y.cls i v ∈ wAll) (k : WP E n y cc ml rt (pc + 3) ls (.double v :: st) (h) bc bs Q) : WP E n y cc ml rt (pc) ls (st) (h) bc bs Q := fun p l e R s m args below meth c H locs cells slots lsa Z C hr hs hl hc1 hc2 hz => lv_ldc2d C.1 C.2.1 C.2.2.2.2.1 (C.2.2.2.2.2.1 _ hw) hdg (k p l e R s m args below meth c H locs cells slots lsa Z C hr hs hl hc1 hc2 hz)
theorem wq_ldcw {i : Nat} {z : Int} (hdg : decode cc pc = .ok (.ldc_w i, 3)) (hw : Cond.constant y.cls i (iI z) ∈ wAll) (k : WP E n y cc ml rt (pc + 3) ls (.int (iI z) :: st) (h) bc bs Q) : WP E n y cc ml rt (pc) ls (st) (h) bc bs Q := fun p l e R s m args below meth c H locs cells slots lsa Z C hr hs hl hc1 hc2 hz => lv_ldcw C.1 C.2.1 C.2.2.2.2.1 (C.2.2.2.2.2.1 _ hw) hdg (k p l e R s m args below meth c H locs cells slots lsa Z C hr hs hl hc1 hc2 hz)
theorem wq_iload_n {k : Fin 4} {v : Int32} (hdg : decode cc pc = .ok (.iload_n k, 1)) (hv : ls (k : Nat) = some (.int v)) (k : WP E n y cc ml rt (pc + 1) ls (.int v :: st) (h) bc bs Q) : WP E n y cc ml rt (pc) ls (st) (h) bc bs Q := fun p l e R s m args below meth c H locs cells slots lsa Z C hr hs hl hc1 hc2 hz => lv_iload_n C.1 C.2.1 hdg rfl (hl.2.2 _ _ hv) (k p l e R s m args below meth c H locs cells slots lsa Z C hr hs hl hc1 hc2 hz)
theorem wq_iload {i : Nat} {v : Int32} (hdg : decode cc pc = .ok (.iload i, 2)) (hv : ls i = some (.int v)) (k : WP E n y cc ml rt (pc + 2) ls (.int v :: st) (h) bc bs Q) : WP E n y cc ml rt (pc) ls (st) (h) bc bs Q := fun p l e R s m args below meth c H locs cells slots lsa Z C hr hs hl hc1 hc2 hz => lv_iload C.1 C.2.1 hdg (hl.2.2 _ _ hv) (k p l e R s m args below meth c H locs cells slots lsa Z C hr hs hl hc1 hc2 hz)
theorem wq_lload_n {k : Fin 4} {v : Int64} (hdg : decode cc pc = .ok (.lload_n k, 1)) (hv : ls (k : Nat) = some (.long v)) (k : WP E n y cc ml rt (pc + 1) ls (.long v :: st) (h) bc bs Q) : WP E n y cc ml rt (pc) ls (st) (h) bc bs Q := fun p l e R s m args below meth c H locs cells slots lsa Z C hr hs hl hc1 hc2 hz => lv_lload_n C.1 C.2.1 hdg rfl (hl.2.2 _ _ hv) (k p l e R s m args below meth c H locs cells slots lsa Z C hr hs hl hc1 hc2 hz)
theorem wq_lload {i : Nat} {v : Int64} (hdg : decode cc pc = .ok (.lload i, 2)) (hv : ls i = some (.long v)) (k : WP E n y cc ml rt (pc + 2) ls (.long v :: st) (h) bc bs Q) : WP E n y cc ml rt (pc) ls (st) (h) bc bs Q := fun p l e R s m args below meth c H locs cells slots lsa Z C hr hs hl hc1 hc2 hz => lv_lload C.1 C.2.1 hdg (hl.2.2 _ _ hv) (k p l e R s m args below meth c H locs cells slots lsa Z C hr hs hl hc1 hc2 hz)
theorem wq_dload_n {k : Fin 4} {v : UInt64} (hdg : decode cc pc = .ok (.dload_n k, 1)) (hv : ls (k : Nat) = some (.double v)) (k : WP E n y cc ml rt (pc + 1) ls (.double v :: st) (h) bc bs Q) : WP E n y cc ml rt (pc) ls (st) (h) bc bs Q := fun p l e R s m args below meth c H locs cells slots lsa Z C hr hs hl hc1 hc2 hz => lv_dload_n C.1 C.2.1 hdg rfl (hl.2.2 _ _ hv) (k p l e R s m args below meth c H locs cells slots lsa Z C hr hs hl hc1 hc2 hz)
theorem wq_dload {i : Nat} {v : UInt64} (hdg : decode cc pc = .ok (.dload i, 2)) (hv : ls i = some (.double v)) (k : WP E n y cc ml rt (pc + 2) ls (.double v :: st) (h) bc bs Q) : WP E n y cc ml rt (pc) ls (st) (h) bc bs Q := fun p l e R s m args below meth c H locs cells slots lsa Z C hr hs hl hc1 hc2 hz => lv_dload C.1 C.2.1 hdg (hl.2.2 _ _ hv) (k p l e R s m args below meth c H locs cells slots lsa Z C hr hs hl hc1 hc2 hz)
theorem wq_fload_n {k : Fin 4} {v : UInt32} (hdg : decode cc pc = .ok (.fload_n k, 1)) (hv : ls (k : Nat) = some (.float v)) (k : WP E n y cc ml rt (pc + 1) ls (.float v :: st) (h) bc bs Q) : WP E n y cc ml rt (pc) ls (st) (h) bc bs Q := fun p l e R s m args below meth c H locs cells slots lsa Z C hr hs hl hc1 hc2 hz => lv_fload_n C.1 C.2.1 hdg rfl (hl.2.2 _ _ hv) (k p l e R s m args below meth c H locs cells slots lsa Z C hr hs hl hc1 hc2 hz)
theorem wq_fload {i : Nat} {v : UInt32} (hdg : decode cc pc = .ok (.fload i, 2)) (hv : ls i = some (.float v)) (k : WP E n y cc ml rt (pc + 2) ls (.float v :: st) (h) bc bs Q) : WP E n y cc ml rt (pc) ls (st) (h) bc bs Q := fun p l e R s m args below meth c H locs cells slots lsa Z C hr hs hl hc1 hc2 hz => lv_fload C.1 C.2.1 hdg (hl.2.2 _ _ hv) (k p l e R s m args below meth c H locs cells slots lsa Z C hr hs hl hc1 hc2 hz)
theorem wq_aload_n {k : Fin 4} {v : Nat} (hdg : decode cc pc = .ok (.aload_n k, 1)) (hv : ls (k : Nat) = some (.ref v)) (k : WP E n y cc ml rt (pc + 1) ls (.ref v :: st) (h) bc bs Q) : WP E n y cc ml rt (pc) ls (st) (h) bc bs Q := fun p l e R s m args below meth c H locs cells slots lsa Z C hr hs hl hc1 hc2 hz => lv_aload_n C.1 C.2.1 hdg rfl (hl.2.2 _ _ hv) (k p l e R s m args below meth c H locs cells slots lsa Z C hr hs hl hc1 hc2 hz)
theorem wq_aload {i : Nat} {v : Nat} (hdg : decode cc pc = .ok (.aload i, 2)) (hv : ls i = some (.ref v)) (k : WP E n y cc ml rt (pc + 2) ls (.ref v :: st) (h) bc bs Q) : WP E n y cc ml rt (pc) ls (st) (h) bc bs Q := fun p l e R s m args below meth c H locs cells slots lsa Z C hr hs hl hc1 hc2 hz => lv_aload C.1 C.2.1 hdg (hl.2.2 _ _ hv) (k p l e R s m args below meth c H locs cells slots lsa Z C hr hs hl hc1 hc2 hz)
theorem wq_istore_n {k : Fin 4} {v : Int32} (hdg : decode cc pc = .ok (.istore_n k, 1)) (kk : WP E n y cc ml rt (pc + 1) (wSt ls (k : Nat) (.int v)) (st) (h) bc bs Q) (hi : (k : Nat) < ml := by decide) : WP E n y cc ml rt (pc) ls (.int v :: st) (h) bc bs Q := fun p l e R s m args below meth c H locs cells slots lsa Z C hr hs hl hc1 hc2 hz => lv_istore_n C.1 C.2.1 hdg rfl hl.has hi rfl (fun lsb hb => kk p l e R s m args below meth c H locs cells slots lsb Z C hr hs (hl.st1 hb) hc1 hc2 hz)
theorem wq_istore {i : Nat} {v : Int32} (hdg : decode cc pc = .ok (.istore i, 2)) (kk : WP E n y cc ml rt (pc + 2) (wSt ls i (.int v)) (st) (h) bc bs Q) (hi : i < ml := by decide) : WP E n y cc ml rt (pc) ls (.int v :: st) (h) bc bs Q := fun p l e R s m args below meth c H locs cells slots lsa Z C hr hs hl hc1 hc2 hz => lv_istore C.1 C.2.1 hdg hl.has hi rfl (fun lsb hb => kk p l e R s m args below meth c H locs cells slots lsb Z C hr hs (hl.st1 hb) hc1 hc2 hz)
theorem wq_lstore_n {k : Fin 4} {v : Int64} (hdg : decode cc pc = .ok (.lstore_n k, 1)) (kk : WP E n y cc ml rt (pc + 1) (wSt2 ls (k : Nat) (.long v)) (st) (h) bc bs Q) (hi : (k : Nat) + 1 < ml := by decide) : WP E n y cc ml rt (pc) ls (.long v :: st) (h) bc bs Q := fun p l e R s m args below meth c H locs cells slots lsa Z C hr hs hl hc1 hc2 hz => lv_lstore_n C.1 C.2.1 hdg rfl hl.has hi rfl (fun lsb hb => kk p l e R s m args below meth c H locs cells slots lsb Z C hr hs (hl.st2 hb) hc1 hc2 hz)
theorem wq_lstore {i : Nat} {v : Int64} (hdg : decode cc pc = .ok (.lstore i, 2)) (kk : WP E n y cc ml rt (pc + 2) (wSt2 ls i (.long v)) (st) (h) bc bs Q) (hi : i + 1 < ml := by decide) : WP E n y cc ml rt (pc) ls (.long v :: st) (h) bc bs Q := fun p l e R s m args below meth c H locs cells slots lsa Z C hr hs hl hc1 hc2 hz => lv_lstore C.1 C.2.1 hdg hl.has hi rfl (fun lsb hb => kk p l e R s m args below meth c H locs cells slots lsb Z C hr hs (hl.st2 hb) hc1 hc2 hz)
theorem wq_dstore_n {k : Fin 4} {v : UInt64} (hdg : decode cc pc = .ok (.dstore_n k, 1)) (kk : WP E n y cc ml rt (pc + 1) (wSt2 ls (k : Nat) (.double v)) (st) (h) bc bs Q) (hi : (k : Nat) + 1 < ml := by decide) : WP E n y cc ml rt (pc) ls (.double v :: st) (h) bc bs Q := fun p l e R s m args below meth c H locs cells slots lsa Z C hr hs hl hc1 hc2 hz => lv_dstore_n C.1 C.2.1 hdg rfl hl.has hi rfl (fun lsb hb => kk p l e R s m args below meth c H locs cells slots lsb Z C hr hs (hl.st2 hb) hc1 hc2 hz)
theorem wq_dstore {i : Nat} {v : UInt64} (hdg : decode cc pc = .ok (.dstore i, 2)) (kk : WP E n y cc ml rt (pc + 2) (wSt2 ls i (.double v)) (st) (h) bc bs Q) (hi : i + 1 < ml := by decide) : WP E n y cc ml rt (pc) ls (.double v :: st) (h) bc bs Q := fun p l e R s m args below meth c H locs cells slots lsa Z C hr hs hl hc1 hc2 hz => lv_dstore C.1 C.2.1 hdg hl.has hi rfl (fun lsb hb => kk p l e R s m args below meth c H locs cells slots lsb Z C hr hs (hl.st2 hb) hc1 hc2 hz)
theorem wq_fstore_n {k : Fin 4} {v : UInt32} (hdg : decode cc pc = .ok (.fstore_n k, 1)) (kk : WP E n y cc ml rt (pc + 1) (wSt ls (k : Nat) (.float v)) (st) (h) bc bs Q) (hi : (k : Nat) < ml := by decide) : WP E n y cc ml rt (pc) ls (.float v :: st) (h) bc bs Q := fun p l e R s m args below meth c H locs cells slots lsa Z C hr hs hl hc1 hc2 hz => lv_fstore_n C.1 C.2.1 hdg rfl hl.has hi rfl (fun lsb hb => kk p l e R s m args below meth c H locs cells slots lsb Z C hr hs (hl.st1 hb) hc1 hc2 hz)
theorem wq_fstore {i : Nat} {v : UInt32} (hdg : decode cc pc = .ok (.fstore i, 2)) (kk : WP E n y cc ml rt (pc + 2) (wSt ls i (.float v)) (st) (h) bc bs Q) (hi : i < ml := by decide) : WP E n y cc ml rt (pc) ls (.float v :: st) (h) bc bs Q := fun p l e R s m args below meth c H locs cells slots lsa Z C hr hs hl hc1 hc2 hz => lv_fstore C.1 C.2.1 hdg hl.has hi rfl (fun lsb hb => kk p l e R s m args below meth c H locs cells slots lsb Z C hr hs (hl.st1 hb) hc1 hc2 hz)
theorem wq_astore_n {k : Fin 4} {v : Nat} (hdg : decode cc pc = .ok (.astore_n k, 1)) (kk : WP E n y cc ml rt (pc + 1) (wSt ls (k : Nat) (.ref v)) (st) (h) bc bs Q) (hi : (k : Nat) < ml := by decide) : WP E n y cc ml rt (pc) ls (.ref v :: st) (h) bc bs Q := fun p l e R s m args below meth c H locs cells slots lsa Z C hr hs hl hc1 hc2 hz => lv_astore_n C.1 C.2.1 hdg rfl hl.has hi rfl (fun lsb hb => kk p l e R s m args below meth c H locs cells slots lsb Z C hr hs (hl.st1 hb) hc1 hc2 hz)
theorem wq_astore {i : Nat} {v : Nat} (hdg : decode cc pc = .ok (.astore i, 2)) (kk : WP E n y cc ml rt (pc + 2) (wSt ls i (.ref v)) (st) (h) bc bs Q) (hi : i < ml := by decide) : WP E n y cc ml rt (pc) ls (.ref v :: st) (h) bc bs Q := fun p l e R s m args below meth c H locs cells slots lsa Z C hr hs hl hc1 hc2 hz => lv_astore C.1 C.2.1 hdg hl.has hi rfl (fun lsb hb => kk p l e R s m args below meth c H locs cells slots lsb Z C hr hs (hl.st1 hb) hc1 hc2 hz)
theorem wq_iinc {i : Nat} {a z : Int} (hdg : decode cc pc = .ok (.iinc i z, 3)) (hv : ls i = some (.int (iI a))) (kk : WP E n y cc ml rt (pc + 3) (wSt ls i (.int (iI (a + z)))) (st) (h) bc bs Q) (hi : i < ml := by decide) : WP E n y cc ml rt (pc) ls (st) (h) bc bs Q := fun p l e R s m args below meth c H locs cells slots lsa Z C hr hs hl hc1 hc2 hz => (by
  obtain ⟨k, hk⟩ := List.getElem?_of_mem (hl.mem hv)
  exact lv_iinc C.1 C.2.1 hdg hl.has hk (v := iI (a + z)) (iI_add a z) hi rfl (fun lsb hb => kk p l e R s m args below meth c H locs cells slots lsb Z C hr hs (hl.st1 hb) hc1 hc2 hz))
theorem wq_iincW {i : Nat} {a z : Int} (hdg : decode cc pc = .ok (.iinc i z, 6)) (hv : ls i = some (.int (iI a))) (kk : WP E n y cc ml rt (pc + 6) (wSt ls i (.int (iI (a + z)))) (st) (h) bc bs Q) (hi : i < ml := by decide) : WP E n y cc ml rt (pc) ls (st) (h) bc bs Q := fun p l e R s m args below meth c H locs cells slots lsa Z C hr hs hl hc1 hc2 hz => (by
  obtain ⟨k, hk⟩ := List.getElem?_of_mem (hl.mem hv)
  exact lv_iincW C.1 C.2.1 hdg hl.has hk (v := iI (a + z)) (iI_add a z) hi rfl (fun lsb hb => kk p l e R s m args below meth c H locs cells slots lsb Z C hr hs (hl.st1 hb) hc1 hc2 hz))
theorem wq_iadd {a b : Int} (hdg : decode cc pc = .ok (.iadd, 1)) (k : WP E n y cc ml rt (pc + 1) ls (.int (iI (a + b)) :: st) (h) bc bs Q)  : WP E n y cc ml rt (pc) ls (.int (iI b) :: .int (iI a) :: st) (h) bc bs Q := fun p l e R s m args below meth c H locs cells slots lsa Z C hr hs hl hc1 hc2 hz => lv_iadd C.1 C.2.1 hdg (by rw [iI_add]; exact k p l e R s m args below meth c H locs cells slots lsa Z C hr hs hl hc1 hc2 hz)
theorem wq_isub {a b : Int} (hdg : decode cc pc = .ok (.isub, 1)) (k : WP E n y cc ml rt (pc + 1) ls (.int (iI (a - b)) :: st) (h) bc bs Q)  : WP E n y cc ml rt (pc) ls (.int (iI b) :: .int (iI a) :: st) (h) bc bs Q := fun p l e R s m args below meth c H locs cells slots lsa Z C hr hs hl hc1 hc2 hz => lv_isub C.1 C.2.1 hdg (by rw [iI_sub]; exact k p l e R s m args below meth c H locs cells slots lsa Z C hr hs hl hc1 hc2 hz)
theorem wq_imul {a b : Int} (hdg : decode cc pc = .ok (.imul, 1)) (k : WP E n y cc ml rt (pc + 1) ls (.int (iI (a * b)) :: st) (h) bc bs Q)  : WP E n y cc ml rt (pc) ls (.int (iI b) :: .int (iI a) :: st) (h) bc bs Q := fun p l e R s m args below meth c H locs cells slots lsa Z C hr hs hl hc1 hc2 hz => lv_imul C.1 C.2.1 hdg (by rw [iI_mul]; exact k p l e R s m args below meth c H locs cells slots lsa Z C hr hs hl hc1 hc2 hz)
theorem wq_ineg {a : Int} (hdg : decode cc pc = .ok (.ineg, 1)) (k : WP E n y cc ml rt (pc + 1) ls (.int (iI (-a)) :: st) (h) bc bs Q)  : WP E n y cc ml rt (pc) ls (.int (iI a) :: st) (h) bc bs Q := fun p l e R s m args below meth c H locs cells slots lsa Z C hr hs hl hc1 hc2 hz => lv_ineg C.1 C.2.1 hdg (by rw [iI_neg]; exact k p l e R s m args below meth c H locs cells slots lsa Z C hr hs hl hc1 hc2 hz)
theorem wq_idiv {a b : Int} (hdg : decode cc pc = .ok (.idiv, 1)) (k : WP E n y cc ml rt (pc + 1) ls (.int (iI (a / b)) :: st) (h) bc bs Q) (ha : 0 ≤ a ∧ a ≤ 2147483647 := by omega) (hb : 0 < b ∧ b ≤ 2147483647 := by omega) : WP E n y cc ml rt (pc) ls (.int (iI b) :: .int (iI a) :: st) (h) bc bs Q := fun p l e R s m args below meth c H locs cells slots lsa Z C hr hs hl hc1 hc2 hz => lv_idiv C.1 C.2.1 hdg (fun q => absurd ((iI_eq (by omega) (by decide)).mp (q.trans iI_0)) (by omega)) (by rw [iI_div ha hb]; exact k p l e R s m args below meth c H locs cells slots lsa Z C hr hs hl hc1 hc2 hz)
theorem wq_irem {a b : Int} (hdg : decode cc pc = .ok (.irem, 1)) (k : WP E n y cc ml rt (pc + 1) ls (.int (iI (a % b)) :: st) (h) bc bs Q) (ha : 0 ≤ a ∧ a ≤ 2147483647 := by omega) (hb : 0 < b ∧ b ≤ 2147483647 := by omega) : WP E n y cc ml rt (pc) ls (.int (iI b) :: .int (iI a) :: st) (h) bc bs Q := fun p l e R s m args below meth c H locs cells slots lsa Z C hr hs hl hc1 hc2 hz => lv_irem C.1 C.2.1 hdg (fun q => absurd ((iI_eq (by omega) (by decide)).mp (q.trans iI_0)) (by omega)) (by rw [iI_rem ha hb]; exact k p l e R s m args below meth c H locs cells slots lsa Z C hr hs hl hc1 hc2 hz)
theorem wq_iand {v w : Int32} (hdg : decode cc pc = .ok (.iand, 1))  (k : WP E n y cc ml rt (pc + 1) ls (.int (v &&& w) :: st) (h) bc bs Q) : WP E n y cc ml rt (pc) ls (.int w :: .int v :: st) (h) bc bs Q := fun p l e R s m args below meth c H locs cells slots lsa Z C hr hs hl hc1 hc2 hz => lv_iand C.1 C.2.1 hdg (k p l e R s m args below meth c H locs cells slots lsa Z C hr hs hl hc1 hc2 hz)
theorem wq_ior {v w : Int32} (hdg : decode cc pc = .ok (.ior, 1))  (k : WP E n y cc ml rt (pc + 1) ls (.int (v ||| w) :: st) (h) bc bs Q) : WP E n y cc ml rt (pc) ls (.int w :: .int v :: st) (h) bc bs Q := fun p l e R s m args below meth c H locs cells slots lsa Z C hr hs hl hc1 hc2 hz => lv_ior C.1 C.2.1 hdg (k p l e R s m args below meth c H locs cells slots lsa Z C hr hs hl hc1 hc2 hz)
theorem wq_ixor {v w : Int32} (hdg : decode cc pc = .ok (.ixor, 1))  (k : WP E n y cc ml rt (pc + 1) ls (.int (v ^^^ w) :: st) (h) bc bs Q) : WP E n y cc ml rt (pc) ls (.int w :: .int v :: st) (h) bc bs Q := fun p l e R s m args below meth c H locs cells slots lsa Z C hr hs hl hc1 hc2 hz => lv_ixor C.1 C.2.1 hdg (k p l e R s m args below meth c H locs cells slots lsa Z C hr hs hl hc1 hc2 hz)
theorem wq_ishl {v w : Int32} (hdg : decode cc pc = .ok (.ishl, 1))  (k : WP E n y cc ml rt (pc + 1) ls (.int (v <<< (w &&& 31)) :: st) (h) bc bs Q) : WP E n y cc ml rt (pc) ls (.int w :: .int v :: st) (h) bc bs Q := fun p l e R s m args below meth c H locs cells slots lsa Z C hr hs hl hc1 hc2 hz => lv_ishl C.1 C.2.1 hdg (k p l e R s m args below meth c H locs cells slots lsa Z C hr hs hl hc1 hc2 hz)
theorem wq_ishr {v w : Int32} (hdg : decode cc pc = .ok (.ishr, 1))  (k : WP E n y cc ml rt (pc + 1) ls (.int (v >>> (w &&& 31)) :: st) (h) bc bs Q) : WP E n y cc ml rt (pc) ls (.int w :: .int v :: st) (h) bc bs Q := fun p l e R s m args below meth c H locs cells slots lsa Z C hr hs hl hc1 hc2 hz => lv_ishr C.1 C.2.1 hdg (k p l e R s m args below meth c H locs cells slots lsa Z C hr hs hl hc1 hc2 hz)
theorem wq_i2c {v : Int32} (hdg : decode cc pc = .ok (.i2c, 1))  (k : WP E n y cc ml rt (pc + 1) ls (.int ((v.toUInt32 % 65536).toInt32) :: st) (h) bc bs Q) : WP E n y cc ml rt (pc) ls (.int v :: st) (h) bc bs Q := fun p l e R s m args below meth c H locs cells slots lsa Z C hr hs hl hc1 hc2 hz => lv_i2c C.1 C.2.1 hdg rfl (k p l e R s m args below meth c H locs cells slots lsa Z C hr hs hl hc1 hc2 hz)
theorem wq_i2b {v : Int32} (hdg : decode cc pc = .ok (.i2b, 1))  (k : WP E n y cc ml rt (pc + 1) ls (.int (v.toInt8.toInt32) :: st) (h) bc bs Q) : WP E n y cc ml rt (pc) ls (.int v :: st) (h) bc bs Q := fun p l e R s m args below meth c H locs cells slots lsa Z C hr hs hl hc1 hc2 hz => lv_i2b C.1 C.2.1 hdg rfl (k p l e R s m args below meth c H locs cells slots lsa Z C hr hs hl hc1 hc2 hz)
theorem wq_ladd {v w : Int64} (hdg : decode cc pc = .ok (.ladd, 1))  (k : WP E n y cc ml rt (pc + 1) ls (.long (v + w) :: st) (h) bc bs Q) : WP E n y cc ml rt (pc) ls (.long w :: .long v :: st) (h) bc bs Q := fun p l e R s m args below meth c H locs cells slots lsa Z C hr hs hl hc1 hc2 hz => lv_ladd C.1 C.2.1 hdg (k p l e R s m args below meth c H locs cells slots lsa Z C hr hs hl hc1 hc2 hz)
theorem wq_lsub {v w : Int64} (hdg : decode cc pc = .ok (.lsub, 1))  (k : WP E n y cc ml rt (pc + 1) ls (.long (v - w) :: st) (h) bc bs Q) : WP E n y cc ml rt (pc) ls (.long w :: .long v :: st) (h) bc bs Q := fun p l e R s m args below meth c H locs cells slots lsa Z C hr hs hl hc1 hc2 hz => lv_lsub C.1 C.2.1 hdg (k p l e R s m args below meth c H locs cells slots lsa Z C hr hs hl hc1 hc2 hz)
theorem wq_lmul {v w : Int64} (hdg : decode cc pc = .ok (.lmul, 1))  (k : WP E n y cc ml rt (pc + 1) ls (.long (v * w) :: st) (h) bc bs Q) : WP E n y cc ml rt (pc) ls (.long w :: .long v :: st) (h) bc bs Q := fun p l e R s m args below meth c H locs cells slots lsa Z C hr hs hl hc1 hc2 hz => lv_lmul C.1 C.2.1 hdg (k p l e R s m args below meth c H locs cells slots lsa Z C hr hs hl hc1 hc2 hz)
theorem wq_land {v w : Int64} (hdg : decode cc pc = .ok (.land, 1))  (k : WP E n y cc ml rt (pc + 1) ls (.long (v &&& w) :: st) (h) bc bs Q) : WP E n y cc ml rt (pc) ls (.long w :: .long v :: st) (h) bc bs Q := fun p l e R s m args below meth c H locs cells slots lsa Z C hr hs hl hc1 hc2 hz => lv_land C.1 C.2.1 hdg (k p l e R s m args below meth c H locs cells slots lsa Z C hr hs hl hc1 hc2 hz)
theorem wq_lor {v w : Int64} (hdg : decode cc pc = .ok (.lor, 1))  (k : WP E n y cc ml rt (pc + 1) ls (.long (v ||| w) :: st) (h) bc bs Q) : WP E n y cc ml rt (pc) ls (.long w :: .long v :: st) (h) bc bs Q := fun p l e R s m args below meth c H locs cells slots lsa Z C hr hs hl hc1 hc2 hz => lv_lor C.1 C.2.1 hdg (k p l e R s m args below meth c H locs cells slots lsa Z C hr hs hl hc1 hc2 hz)
theorem wq_lxor {v w : Int64} (hdg : decode cc pc = .ok (.lxor, 1))  (k : WP E n y cc ml rt (pc + 1) ls (.long (v ^^^ w) :: st) (h) bc bs Q) : WP E n y cc ml rt (pc) ls (.long w :: .long v :: st) (h) bc bs Q := fun p l e R s m args below meth c H locs cells slots lsa Z C hr hs hl hc1 hc2 hz => lv_lxor C.1 C.2.1 hdg (k p l e R s m args below meth c H locs cells slots lsa Z C hr hs hl hc1 hc2 hz)
theorem wq_lneg {v : Int64} (hdg : decode cc pc = .ok (.lneg, 1))  (k : WP E n y cc ml rt (pc + 1) ls (.long (-v) :: st) (h) bc bs Q) : WP E n y cc ml rt (pc) ls (.long v :: st) (h) bc bs Q := fun p l e R s m args below meth c H locs cells slots lsa Z C hr hs hl hc1 hc2 hz => lv_lneg C.1 C.2.1 hdg (k p l e R s m args below meth c H locs cells slots lsa Z C hr hs hl hc1 hc2 hz)
theorem wq_ldiv {a b : Int} (hdg : decode cc pc = .ok (.ldiv, 1)) (k : WP E n y cc ml rt (pc + 1) ls (.long (jL (a / b)) :: st) (h) bc bs Q) (ha : 0 ≤ a ∧ a ≤ 9223372036854775807 := by omega) (hb : 0 < b ∧ b ≤ 9223372036854775807 := by omega) : WP E n y cc ml rt (pc) ls (.long (jL b) :: .long (jL a) :: st) (h) bc bs Q := fun p l e R s m args below meth c H locs cells slots lsa Z C hr hs hl hc1 hc2 hz => lv_ldiv C.1 C.2.1 hdg (fun q => absurd ((jL_eq (b := 0) (by omega) (by decide)).mp (q.trans (rfl : (0 : Int64) = jL 0))) (by omega)) (by rw [jL_div ha hb]; exact k p l e R s m args below meth c H locs cells slots lsa Z C hr hs hl hc1 hc2 hz)
theorem wq_lrem {a b : Int} (hdg : decode cc pc = .ok (.lrem, 1)) (k : WP E n y cc ml rt (pc + 1) ls (.long (jL (a % b)) :: st) (h) bc bs Q) (ha : 0 ≤ a ∧ a ≤ 9223372036854775807 := by omega) (hb : 0 < b ∧ b ≤ 9223372036854775807 := by omega) : WP E n y cc ml rt (pc) ls (.long (jL b) :: .long (jL a) :: st) (h) bc bs Q := fun p l e R s m args below meth c H locs cells slots lsa Z C hr hs hl hc1 hc2 hz => lv_lrem C.1 C.2.1 hdg (fun q => absurd ((jL_eq (b := 0) (by omega) (by decide)).mp (q.trans (rfl : (0 : Int64) = jL 0))) (by omega)) (by rw [jL_rem ha hb]; exact k p l e R s m args below meth c H locs cells slots lsa Z C hr hs hl hc1 hc2 hz)
theorem wq_jadd {a b : Int} (hdg : decode cc pc = .ok (.ladd, 1)) (k : WP E n y cc ml rt (pc + 1) ls (.long (jL (a + b)) :: st) (h) bc bs Q)  : WP E n y cc ml rt (pc) ls (.long (jL b) :: .long (jL a) :: st) (h) bc bs Q := fun p l e R s m args below meth c H locs cells slots lsa Z C hr hs hl hc1 hc2 hz => lv_ladd C.1 C.2.1 hdg (by rw [jL_add]; exact k p l e R s m args below meth c H locs cells slots lsa Z C hr hs hl hc1 hc2 hz)
theorem wq_jsub {a b : Int} (hdg : decode cc pc = .ok (.lsub, 1)) (k : WP E n y cc ml rt (pc + 1) ls (.long (jL (a - b)) :: st) (h) bc bs Q)  : WP E n y cc ml rt (pc) ls (.long (jL b) :: .long (jL a) :: st) (h) bc bs Q := fun p l e R s m args below meth c H locs cells slots lsa Z C hr hs hl hc1 hc2 hz => lv_lsub C.1 C.2.1 hdg (by rw [jL_sub]; exact k p l e R s m args below meth c H locs cells slots lsa Z C hr hs hl hc1 hc2 hz)
theorem wq_jmul {a b : Int} (hdg : decode cc pc = .ok (.lmul, 1)) (k : WP E n y cc ml rt (pc + 1) ls (.long (jL (a * b)) :: st) (h) bc bs Q)  : WP E n y cc ml rt (pc) ls (.long (jL b) :: .long (jL a) :: st) (h) bc bs Q := fun p l e R s m args below meth c H locs cells slots lsa Z C hr hs hl hc1 hc2 hz => lv_lmul C.1 C.2.1 hdg (by rw [jL_mul]; exact k p l e R s m args below meth c H locs cells slots lsa Z C hr hs hl hc1 hc2 hz)
theorem wq_jneg {a : Int} (hdg : decode cc pc = .ok (.lneg, 1)) (k : WP E n y cc ml rt (pc + 1) ls (.long (jL (-a)) :: st) (h) bc bs Q)  : WP E n y cc ml rt (pc) ls (.long (jL a) :: st) (h) bc bs Q := fun p l e R s m args below meth c H locs cells slots lsa Z C hr hs hl hc1 hc2 hz => lv_lneg C.1 C.2.1 hdg (by rw [jL_neg]; exact k p l e R s m args below meth c H locs cells slots lsa Z C hr hs hl hc1 hc2 hz)
theorem wq_lshl {v : Int64} {w : Int32} (hdg : decode cc pc = .ok (.lshl, 1))  (k : WP E n y cc ml rt (pc + 1) ls (.long (v <<< (w.toInt64 &&& 63)) :: st) (h) bc bs Q) : WP E n y cc ml rt (pc) ls (.int w :: .long v :: st) (h) bc bs Q := fun p l e R s m args below meth c H locs cells slots lsa Z C hr hs hl hc1 hc2 hz => lv_lshl C.1 C.2.1 hdg rfl (k p l e R s m args below meth c H locs cells slots lsa Z C hr hs hl hc1 hc2 hz)
theorem wq_lshr {v : Int64} {w : Int32} (hdg : decode cc pc = .ok (.lshr, 1))  (k : WP E n y cc ml rt (pc + 1) ls (.long (v >>> (w.toInt64 &&& 63)) :: st) (h) bc bs Q) : WP E n y cc ml rt (pc) ls (.int w :: .long v :: st) (h) bc bs Q := fun p l e R s m args below meth c H locs cells slots lsa Z C hr hs hl hc1 hc2 hz => lv_lshr C.1 C.2.1 hdg rfl (k p l e R s m args below meth c H locs cells slots lsa Z C hr hs hl hc1 hc2 hz)
theorem wq_lushr {v : Int64} {w : Int32} (hdg : decode cc pc = .ok (.lushr, 1))  (k : WP E n y cc ml rt (pc + 1) ls (.long ((v.toUInt64 >>> (w.toInt64.toUInt64 &&& Int64.toUInt64 63)).toInt64) :: st) (h) bc bs Q) : WP E n y cc ml rt (pc) ls (.int w :: .long v :: st) (h) bc bs Q := fun p l e R s m args below meth c H locs cells slots lsa Z C hr hs hl hc1 hc2 hz => lv_lushr C.1 C.2.1 hdg rfl (k p l e R s m args below meth c H locs cells slots lsa Z C hr hs hl hc1 hc2 hz)
theorem wq_i2l {v : Int32} (hdg : decode cc pc = .ok (.i2l, 1))  (k : WP E n y cc ml rt (pc + 1) ls (.long v.toInt64 :: st) (h) bc bs Q) : WP E n y cc ml rt (pc) ls (.int v :: st) (h) bc bs Q := fun p l e R s m args below meth c H locs cells slots lsa Z C hr hs hl hc1 hc2 hz => lv_i2l C.1 C.2.1 hdg rfl (k p l e R s m args below meth c H locs cells slots lsa Z C hr hs hl hc1 hc2 hz)
theorem wq_i2j {a : Int} (hdg : decode cc pc = .ok (.i2l, 1)) (ha : -2147483648 ≤ a ∧ a ≤ 2147483647 := by omega) (k : WP E n y cc ml rt (pc + 1) ls (.long (jL a) :: st) (h) bc bs Q) : WP E n y cc ml rt (pc) ls (.int (iI a) :: st) (h) bc bs Q := fun p l e R s m args below meth c H locs cells slots lsa Z C hr hs hl hc1 hc2 hz => lv_i2l C.1 C.2.1 hdg (iI_j ha) (k p l e R s m args below meth c H locs cells slots lsa Z C hr hs hl hc1 hc2 hz)
theorem wq_l2i {v : Int64} (hdg : decode cc pc = .ok (.l2i, 1))  (k : WP E n y cc ml rt (pc + 1) ls (.int (iI v.toInt) :: st) (h) bc bs Q) : WP E n y cc ml rt (pc) ls (.long v :: st) (h) bc bs Q := fun p l e R s m args below meth c H locs cells slots lsa Z C hr hs hl hc1 hc2 hz => lv_l2i C.1 C.2.1 hdg (iI_of64 v) (k p l e R s m args below meth c H locs cells slots lsa Z C hr hs hl hc1 hc2 hz)
theorem wq_j2i {a : Int} (hdg : decode cc pc = .ok (.l2i, 1))  (k : WP E n y cc ml rt (pc + 1) ls (.int (iI a) :: st) (h) bc bs Q) : WP E n y cc ml rt (pc) ls (.long (jL a) :: st) (h) bc bs Q := fun p l e R s m args below meth c H locs cells slots lsa Z C hr hs hl hc1 hc2 hz => lv_l2i C.1 C.2.1 hdg (jL_i a) (k p l e R s m args below meth c H locs cells slots lsa Z C hr hs hl hc1 hc2 hz)
theorem wq_i2f {v : Int32} (hdg : decode cc pc = .ok (.i2f, 1))  (k : WP E n y cc ml rt (pc + 1) ls (.float (FP.i2f v) :: st) (h) bc bs Q) : WP E n y cc ml rt (pc) ls (.int v :: st) (h) bc bs Q := fun p l e R s m args below meth c H locs cells slots lsa Z C hr hs hl hc1 hc2 hz => lv_i2f C.1 C.2.1 hdg (k p l e R s m args below meth c H locs cells slots lsa Z C hr hs hl hc1 hc2 hz)
theorem wq_l2f {v : Int64} (hdg : decode cc pc = .ok (.l2f, 1))  (k : WP E n y cc ml rt (pc + 1) ls (.float (FP.l2f v) :: st) (h) bc bs Q) : WP E n y cc ml rt (pc) ls (.long v :: st) (h) bc bs Q := fun p l e R s m args below meth c H locs cells slots lsa Z C hr hs hl hc1 hc2 hz => lv_l2f C.1 C.2.1 hdg (k p l e R s m args below meth c H locs cells slots lsa Z C hr hs hl hc1 hc2 hz)
theorem wq_l2d {v : Int64} (hdg : decode cc pc = .ok (.l2d, 1))  (k : WP E n y cc ml rt (pc + 1) ls (.double (FP.l2d v) :: st) (h) bc bs Q) : WP E n y cc ml rt (pc) ls (.long v :: st) (h) bc bs Q := fun p l e R s m args below meth c H locs cells slots lsa Z C hr hs hl hc1 hc2 hz => lv_l2d C.1 C.2.1 hdg (k p l e R s m args below meth c H locs cells slots lsa Z C hr hs hl hc1 hc2 hz)
theorem wq_d2l {v : UInt64} (hdg : decode cc pc = .ok (.d2l, 1))  (k : WP E n y cc ml rt (pc + 1) ls (.long (FP.d2l v) :: st) (h) bc bs Q) : WP E n y cc ml rt (pc) ls (.double v :: st) (h) bc bs Q := fun p l e R s m args below meth c H locs cells slots lsa Z C hr hs hl hc1 hc2 hz => lv_d2l C.1 C.2.1 hdg (k p l e R s m args below meth c H locs cells slots lsa Z C hr hs hl hc1 hc2 hz)
theorem wq_f2d {v : UInt32} (hdg : decode cc pc = .ok (.f2d, 1)) (hne : vf_n64 (FP.f2d v)) (k : WP E n y cc ml rt (pc + 1) ls (.double (FP.f2d v) :: st) (h) bc bs Q) : WP E n y cc ml rt (pc) ls (.float v :: st) (h) bc bs Q := fun p l e R s m args below meth c H locs cells slots lsa Z C hr hs hl hc1 hc2 hz => lv_f2d C.1 C.2.1 hdg hne (k p l e R s m args below meth c H locs cells slots lsa Z C hr hs hl hc1 hc2 hz)
theorem wq_fdiv {v w : UInt32} (hdg : decode cc pc = .ok (.fdiv, 1)) (hne : vf_n32 (FP.fdiv v w)) (k : WP E n y cc ml rt (pc + 1) ls (.float (FP.fdiv v w) :: st) (h) bc bs Q) : WP E n y cc ml rt (pc) ls (.float w :: .float v :: st) (h) bc bs Q := fun p l e R s m args below meth c H locs cells slots lsa Z C hr hs hl hc1 hc2 hz => lv_fdiv C.1 C.2.1 hdg hne (k p l e R s m args below meth c H locs cells slots lsa Z C hr hs hl hc1 hc2 hz)
theorem wq_dadd {v w : UInt64} (hdg : decode cc pc = .ok (.dadd, 1)) (hne : vf_n64 (FP.dadd v w)) (k : WP E n y cc ml rt (pc + 1) ls (.double (FP.dadd v w) :: st) (h) bc bs Q) : WP E n y cc ml rt (pc) ls (.double w :: .double v :: st) (h) bc bs Q := fun p l e R s m args below meth c H locs cells slots lsa Z C hr hs hl hc1 hc2 hz => lv_dadd C.1 C.2.1 hdg hne (k p l e R s m args below meth c H locs cells slots lsa Z C hr hs hl hc1 hc2 hz)
theorem wq_dsub {v w : UInt64} (hdg : decode cc pc = .ok (.dsub, 1)) (hne : vf_n64 (FP.dsub v w)) (k : WP E n y cc ml rt (pc + 1) ls (.double (FP.dsub v w) :: st) (h) bc bs Q) : WP E n y cc ml rt (pc) ls (.double w :: .double v :: st) (h) bc bs Q := fun p l e R s m args below meth c H locs cells slots lsa Z C hr hs hl hc1 hc2 hz => lv_dsub C.1 C.2.1 hdg hne (k p l e R s m args below meth c H locs cells slots lsa Z C hr hs hl hc1 hc2 hz)
theorem wq_dmul {v w : UInt64} (hdg : decode cc pc = .ok (.dmul, 1)) (hne : vf_n64 (FP.dmul v w)) (k : WP E n y cc ml rt (pc + 1) ls (.double (FP.dmul v w) :: st) (h) bc bs Q) : WP E n y cc ml rt (pc) ls (.double w :: .double v :: st) (h) bc bs Q := fun p l e R s m args below meth c H locs cells slots lsa Z C hr hs hl hc1 hc2 hz => lv_dmul C.1 C.2.1 hdg hne (k p l e R s m args below meth c H locs cells slots lsa Z C hr hs hl hc1 hc2 hz)
theorem wq_ddiv {v w : UInt64} (hdg : decode cc pc = .ok (.ddiv, 1)) (hne : vf_n64 (FP.ddiv v w)) (k : WP E n y cc ml rt (pc + 1) ls (.double (FP.ddiv v w) :: st) (h) bc bs Q) : WP E n y cc ml rt (pc) ls (.double w :: .double v :: st) (h) bc bs Q := fun p l e R s m args below meth c H locs cells slots lsa Z C hr hs hl hc1 hc2 hz => lv_ddiv C.1 C.2.1 hdg hne (k p l e R s m args below meth c H locs cells slots lsa Z C hr hs hl hc1 hc2 hz)
theorem wq_dcmp {v w : UInt64} {op : CmpOp} (hdg : decode cc pc = .ok (.dcmp op, 1))  (k : WP E n y cc ml rt (pc + 1) ls (.int (Op.cmpValue (FP.dcmp v w) op) :: st) (h) bc bs Q) : WP E n y cc ml rt (pc) ls (.double w :: .double v :: st) (h) bc bs Q := fun p l e R s m args below meth c H locs cells slots lsa Z C hr hs hl hc1 hc2 hz => lv_dcmp C.1 C.2.1 hdg (k p l e R s m args below meth c H locs cells slots lsa Z C hr hs hl hc1 hc2 hz)
theorem wq_dup {v : Value} (hdg : decode cc pc = .ok (.dup, 1)) (hv : v.category = 1 := by rfl) (k : WP E n y cc ml rt (pc + 1) ls (v :: v :: st) (h) bc bs Q) : WP E n y cc ml rt (pc) ls (v :: st) (h) bc bs Q := fun p l e R s m args below meth c H locs cells slots lsa Z C hr hs hl hc1 hc2 hz => lv_dup C.1 C.2.1 hdg hv (k p l e R s m args below meth c H locs cells slots lsa Z C hr hs hl hc1 hc2 hz)
theorem wq_pop {v : Value} (hdg : decode cc pc = .ok (.pop, 1)) (hv : v.category = 1 := by rfl) (k : WP E n y cc ml rt (pc + 1) ls (st) (h) bc bs Q) : WP E n y cc ml rt (pc) ls (v :: st) (h) bc bs Q := fun p l e R s m args below meth c H locs cells slots lsa Z C hr hs hl hc1 hc2 hz => lv_pop C.1 C.2.1 hdg hv (k p l e R s m args below meth c H locs cells slots lsa Z C hr hs hl hc1 hc2 hz)
theorem wq_dup_x1 {v w : Value} (hdg : decode cc pc = .ok (.dup_x1, 1)) (hv : v.category = 1 := by rfl) (hw : w.category = 1 := by rfl) (k : WP E n y cc ml rt (pc + 1) ls (v :: w :: v :: st) (h) bc bs Q) : WP E n y cc ml rt (pc) ls (v :: w :: st) (h) bc bs Q := fun p l e R s m args below meth c H locs cells slots lsa Z C hr hs hl hc1 hc2 hz => lv_dup_x1 C.1 C.2.1 hdg hv hw (k p l e R s m args below meth c H locs cells slots lsa Z C hr hs hl hc1 hc2 hz)
theorem wq_dup2 {v w : Value} (hdg : decode cc pc = .ok (.dup2, 1)) (hv : v.category = 1 := by rfl) (hw : w.category = 1 := by rfl) (k : WP E n y cc ml rt (pc + 1) ls (v :: w :: v :: w :: st) (h) bc bs Q) : WP E n y cc ml rt (pc) ls (v :: w :: st) (h) bc bs Q := fun p l e R s m args below meth c H locs cells slots lsa Z C hr hs hl hc1 hc2 hz => lv_dup2_11 C.1 C.2.1 hdg hv hw (k p l e R s m args below meth c H locs cells slots lsa Z C hr hs hl hc1 hc2 hz)
theorem wq_dup2L {v : Value} (hdg : decode cc pc = .ok (.dup2, 1)) (hv : v.category = 2 := by rfl) (k : WP E n y cc ml rt (pc + 1) ls (v :: v :: st) (h) bc bs Q) : WP E n y cc ml rt (pc) ls (v :: st) (h) bc bs Q := fun p l e R s m args below meth c H locs cells slots lsa Z C hr hs hl hc1 hc2 hz => lv_dup2_2 C.1 C.2.1 hdg hv (k p l e R s m args below meth c H locs cells slots lsa Z C hr hs hl hc1 hc2 hz)
theorem wq_pop2L {v : Value} (hdg : decode cc pc = .ok (.pop2, 1)) (hv : v.category = 2 := by rfl) (k : WP E n y cc ml rt (pc + 1) ls (st) (h) bc bs Q) : WP E n y cc ml rt (pc) ls (v :: st) (h) bc bs Q := fun p l e R s m args below meth c H locs cells slots lsa Z C hr hs hl hc1 hc2 hz => lv_pop2_2 C.1 C.2.1 hdg hv (k p l e R s m args below meth c H locs cells slots lsa Z C hr hs hl hc1 hc2 hz)
theorem wq_goto {off : Int} (tgt : Nat) (hdg : decode cc pc = .ok (.goto off, 3)) (k : WP E n y cc ml rt (tgt) ls (st) (h) bc bs Q) (ht : (pc : Int) + off = (tgt : Int) := by decide) : WP E n y cc ml rt (pc) ls (st) (h) bc bs Q := fun p l e R s m args below meth c H locs cells slots lsa Z C hr hs hl hc1 hc2 hz => lv_goto C.1 C.2.1 hdg ht (k p l e R s m args below meth c H locs cells slots lsa Z C hr hs hl hc1 hc2 hz)
theorem wq_icmp_eq {a b off : Int} (tgt : Nat) (hdg : decode cc pc = .ok (.if_icmp .eq off, 3)) (kt : a = b → WP E n y cc ml rt (tgt) ls (st) (h) bc bs Q) (kf : ¬ a = b → WP E n y cc ml rt (pc + 3) ls (st) (h) bc bs Q) (ha : -2147483648 ≤ a ∧ a ≤ 2147483647 := by omega) (hb : -2147483648 ≤ b ∧ b ≤ 2147483647 := by omega) (ht : (pc : Int) + off = (tgt : Int) := by decide) : WP E n y cc ml rt (pc) ls (.int (iI b) :: .int (iI a) :: st) (h) bc bs Q := fun p l e R s m args below meth c H locs cells slots lsa Z C hr hs hl hc1 hc2 hz => lv_icmp_eq C.1 C.2.1 hdg ht (fun q => kt ((iI_eq ha hb).mp q) p l e R s m args below meth c H locs cells slots lsa Z C hr hs hl hc1 hc2 hz) (fun q => kf (fun e => q ((iI_eq ha hb).mpr e)) p l e R s m args below meth c H locs cells slots lsa Z C hr hs hl hc1 hc2 hz)
theorem wq_if_eq {a off : Int} (tgt : Nat) (hdg : decode cc pc = .ok (.ifCond .eq off, 3)) (kt : a = 0 → WP E n y cc ml rt (tgt) ls (st) (h) bc bs Q) (kf : ¬ a = 0 → WP E n y cc ml rt (pc + 3) ls (st) (h) bc bs Q) (ha : -2147483648 ≤ a ∧ a ≤ 2147483647 := by omega) (ht : (pc : Int) + off = (tgt : Int) := by decide) : WP E n y cc ml rt (pc) ls (.int (iI a) :: st) (h) bc bs Q := by
  have hb : -2147483648 ≤ (0 : Int) ∧ (0 : Int) ≤ 2147483647 := by decide
  exact fun p l e R s m args below meth c H locs cells slots lsa Z C hr hs hl hc1 hc2 hz => lv_if_eq C.1 C.2.1 hdg ht (fun q => kt (by rw [iI_0] at q; exact (iI_eq ha hb).mp q) p l e R s m args below meth c H locs cells slots lsa Z C hr hs hl hc1 hc2 hz) (fun q => kf (by rw [iI_0] at q; exact fun e => q ((iI_eq ha hb).mpr e)) p l e R s m args below meth c H locs cells slots lsa Z C hr hs hl hc1 hc2 hz)
theorem wq_ifr_eq {v : Int32} {off : Int} (tgt : Nat) (hdg : decode cc pc = .ok (.ifCond .eq off, 3)) (kt : v = 0 → WP E n y cc ml rt (tgt) ls (st) (h) bc bs Q) (kf : ¬ v = 0 → WP E n y cc ml rt (pc + 3) ls (st) (h) bc bs Q) (ht : (pc : Int) + off = (tgt : Int) := by decide) : WP E n y cc ml rt (pc) ls (.int v :: st) (h) bc bs Q := fun p l e R s m args below meth c H locs cells slots lsa Z C hr hs hl hc1 hc2 hz => lv_if_eq C.1 C.2.1 hdg ht (fun q => kt q p l e R s m args below meth c H locs cells slots lsa Z C hr hs hl hc1 hc2 hz) (fun q => kf q p l e R s m args below meth c H locs cells slots lsa Z C hr hs hl hc1 hc2 hz)
theorem wq_lcmp_eq {v w : Int64} {off : Int} (tgt : Nat) (hd1 : decode cc pc = .ok (.lcmp, 1)) (hd2 : decode cc (pc + 1) = .ok (.ifCond .eq off, 3)) (kt : v = w → WP E n y cc ml rt (tgt) ls (st) (h) bc bs Q) (kf : ¬ v = w → WP E n y cc ml rt (pc + 1 + 3) ls (st) (h) bc bs Q) (ht : (pc : Int) + 1 + off = (tgt : Int) := by decide) : WP E n y cc ml rt (pc) ls (.long w :: .long v :: st) (h) bc bs Q := fun p l e R s m args below meth c H locs cells slots lsa Z C hr hs hl hc1 hc2 hz => W.lcmp C.1 C.2.1 hd1 (lv_if_eq C.1 C.2.1 hd2 (by rw [← ht]; rfl) (fun q => kt (w_lc_eq.mp q) p l e R s m args below meth c H locs cells slots lsa Z C hr hs hl hc1 hc2 hz) (fun q => kf (w_lcn_eq q) p l e R s m args below meth c H locs cells slots lsa Z C hr hs hl hc1 hc2 hz))
theorem wq_jcmp_eq {a b off : Int} (tgt : Nat) (hd1 : decode cc pc = .ok (.lcmp, 1)) (hd2 : decode cc (pc + 1) = .ok (.ifCond .eq off, 3)) (kt : a = b → WP E n y cc ml rt (tgt) ls (st) (h) bc bs Q) (kf : ¬ a = b → WP E n y cc ml rt (pc + 1 + 3) ls (st) (h) bc bs Q) (ha : -9223372036854775808 ≤ a ∧ a ≤ 9223372036854775807 := by omega) (hb : -9223372036854775808 ≤ b ∧ b ≤ 9223372036854775807 := by omega) (ht : (pc : Int) + 1 + off = (tgt : Int) := by decide) : WP E n y cc ml rt (pc) ls (.long (jL b) :: .long (jL a) :: st) (h) bc bs Q := wq_lcmp_eq tgt hd1 hd2 (fun q => kt ((jL_eq ha hb).mp q)) (fun q => kf (fun e => q ((jL_eq ha hb).mpr e))) ht
theorem wq_icmp_ne {a b off : Int} (tgt : Nat) (hdg : decode cc pc = .ok (.if_icmp .ne off, 3)) (kt : ¬ a = b → WP E n y cc ml rt (tgt) ls (st) (h) bc bs Q) (kf : a = b → WP E n y cc ml rt (pc + 3) ls (st) (h) bc bs Q) (ha : -2147483648 ≤ a ∧ a ≤ 2147483647 := by omega) (hb : -2147483648 ≤ b ∧ b ≤ 2147483647 := by omega) (ht : (pc : Int) + off = (tgt : Int) := by decide) : WP E n y cc ml rt (pc) ls (.int (iI b) :: .int (iI a) :: st) (h) bc bs Q := fun p l e R s m args below meth c H locs cells slots lsa Z C hr hs hl hc1 hc2 hz => lv_icmp_ne C.1 C.2.1 hdg ht (fun q => kt (fun e => q ((iI_eq ha hb).mpr e)) p l e R s m args below meth c H locs cells slots lsa Z C hr hs hl hc1 hc2 hz) (fun q => kf ((iI_eq ha hb).mp q) p l e R s m args below meth c H locs cells slots lsa Z C hr hs hl hc1 hc2 hz)
theorem wq_if_ne {a off : Int} (tgt : Nat) (hdg : decode cc pc = .ok (.ifCond .ne off, 3)) (kt : ¬ a = 0 → WP E n y cc ml rt (tgt) ls (st) (h) bc bs Q) (kf : a = 0 → WP E n y cc ml rt (pc + 3) ls (st) (h) bc bs Q) (ha : -2147483648 ≤ a ∧ a ≤ 2147483647 := by omega) (ht : (pc : Int) + off = (tgt : Int) := by decide) : WP E n y cc ml rt (pc) ls (.int (iI a) :: st) (h) bc bs Q := by
  have hb : -2147483648 ≤ (0 : Int) ∧ (0 : Int) ≤ 2147483647 := by decide
  exact fun p l e R s m args below meth c H locs cells slots lsa Z C hr hs hl hc1 hc2 hz => lv_if_ne C.1 C.2.1 hdg ht (fun q => kt (by rw [iI_0] at q; exact fun e => q ((iI_eq ha hb).mpr e)) p l e R s m args below meth c H locs cells slots lsa Z C hr hs hl hc1 hc2 hz) (fun q => kf (by rw [iI_0] at q; exact (iI_eq ha hb).mp q) p l e R s m args below meth c H locs cells slots lsa Z C hr hs hl hc1 hc2 hz)
theorem wq_ifr_ne {v : Int32} {off : Int} (tgt : Nat) (hdg : decode cc pc = .ok (.ifCond .ne off, 3)) (kt : ¬ v = 0 → WP E n y cc ml rt (tgt) ls (st) (h) bc bs Q) (kf : v = 0 → WP E n y cc ml rt (pc + 3) ls (st) (h) bc bs Q) (ht : (pc : Int) + off = (tgt : Int) := by decide) : WP E n y cc ml rt (pc) ls (.int v :: st) (h) bc bs Q := fun p l e R s m args below meth c H locs cells slots lsa Z C hr hs hl hc1 hc2 hz => lv_if_ne C.1 C.2.1 hdg ht (fun q => kt q p l e R s m args below meth c H locs cells slots lsa Z C hr hs hl hc1 hc2 hz) (fun q => kf q p l e R s m args below meth c H locs cells slots lsa Z C hr hs hl hc1 hc2 hz)
theorem wq_lcmp_ne {v w : Int64} {off : Int} (tgt : Nat) (hd1 : decode cc pc = .ok (.lcmp, 1)) (hd2 : decode cc (pc + 1) = .ok (.ifCond .ne off, 3)) (kt : ¬ v = w → WP E n y cc ml rt (tgt) ls (st) (h) bc bs Q) (kf : v = w → WP E n y cc ml rt (pc + 1 + 3) ls (st) (h) bc bs Q) (ht : (pc : Int) + 1 + off = (tgt : Int) := by decide) : WP E n y cc ml rt (pc) ls (.long w :: .long v :: st) (h) bc bs Q := fun p l e R s m args below meth c H locs cells slots lsa Z C hr hs hl hc1 hc2 hz => W.lcmp C.1 C.2.1 hd1 (lv_if_ne C.1 C.2.1 hd2 (by rw [← ht]; rfl) (fun q => kt (w_lc_ne.mp q) p l e R s m args below meth c H locs cells slots lsa Z C hr hs hl hc1 hc2 hz) (fun q => kf (w_lcn_ne q) p l e R s m args below meth c H locs cells slots lsa Z C hr hs hl hc1 hc2 hz))
theorem wq_jcmp_ne {a b off : Int} (tgt : Nat) (hd1 : decode cc pc = .ok (.lcmp, 1)) (hd2 : decode cc (pc + 1) = .ok (.ifCond .ne off, 3)) (kt : ¬ a = b → WP E n y cc ml rt (tgt) ls (st) (h) bc bs Q) (kf : a = b → WP E n y cc ml rt (pc + 1 + 3) ls (st) (h) bc bs Q) (ha : -9223372036854775808 ≤ a ∧ a ≤ 9223372036854775807 := by omega) (hb : -9223372036854775808 ≤ b ∧ b ≤ 9223372036854775807 := by omega) (ht : (pc : Int) + 1 + off = (tgt : Int) := by decide) : WP E n y cc ml rt (pc) ls (.long (jL b) :: .long (jL a) :: st) (h) bc bs Q := wq_lcmp_ne tgt hd1 hd2 (fun q => kt (fun e => q ((jL_eq ha hb).mpr e))) (fun q => kf ((jL_eq ha hb).mp q)) ht
theorem wq_icmp_lt {a b off : Int} (tgt : Nat) (hdg : decode cc pc = .ok (.if_icmp .lt off, 3)) (kt : a < b → WP E n y cc ml rt (tgt) ls (st) (h) bc bs Q) (kf : b ≤ a → WP E n y cc ml rt (pc + 3) ls (st) (h) bc bs Q) (ha : -2147483648 ≤ a ∧ a ≤ 2147483647 := by omega) (hb : -2147483648 ≤ b ∧ b ≤ 2147483647 := by omega) (ht : (pc : Int) + off = (tgt : Int) := by decide) : WP E n y cc ml rt (pc) ls (.int (iI b) :: .int (iI a) :: st) (h) bc bs Q := fun p l e R s m args below meth c H locs cells slots lsa Z C hr hs hl hc1 hc2 hz => lv_icmp_lt C.1 C.2.1 hdg ht (fun q => kt ((iI_lt ha hb).mp q) p l e R s m args below meth c H locs cells slots lsa Z C hr hs hl hc1 hc2 hz) (fun q => kf (Int.not_lt.mp (fun e => q ((iI_lt ha hb).mpr e))) p l e R s m args below meth c H locs cells slots lsa Z C hr hs hl hc1 hc2 hz)
theorem wq_if_lt {a off : Int} (tgt : Nat) (hdg : decode cc pc = .ok (.ifCond .lt off, 3)) (kt : a < 0 → WP E n y cc ml rt (tgt) ls (st) (h) bc bs Q) (kf : 0 ≤ a → WP E n y cc ml rt (pc + 3) ls (st) (h) bc bs Q) (ha : -2147483648 ≤ a ∧ a ≤ 2147483647 := by omega) (ht : (pc : Int) + off = (tgt : Int) := by decide) : WP E n y cc ml rt (pc) ls (.int (iI a) :: st) (h) bc bs Q := by
  have hb : -2147483648 ≤ (0 : Int) ∧ (0 : Int) ≤ 2147483647 := by decide
  exact fun p l e R s m args below meth c H locs cells slots lsa Z C hr hs hl hc1 hc2 hz => lv_if_lt C.1 C.2.1 hdg ht (fun q => kt (by rw [iI_0] at q; exact (iI_lt ha hb).mp q) p l e R s m args below meth c H locs cells slots lsa Z C hr hs hl hc1 hc2 hz) (fun q => kf (by rw [iI_0] at q; exact Int.not_lt.mp (fun e => q ((iI_lt ha hb).mpr e))) p l e R s m args below meth c H locs cells slots lsa Z C hr hs hl hc1 hc2 hz)
theorem wq_ifr_lt {v : Int32} {off : Int} (tgt : Nat) (hdg : decode cc pc = .ok (.ifCond .lt off, 3)) (kt : v < 0 → WP E n y cc ml rt (tgt) ls (st) (h) bc bs Q) (kf : ¬ v < 0 → WP E n y cc ml rt (pc + 3) ls (st) (h) bc bs Q) (ht : (pc : Int) + off = (tgt : Int) := by decide) : WP E n y cc ml rt (pc) ls (.int v :: st) (h) bc bs Q := fun p l e R s m args below meth c H locs cells slots lsa Z C hr hs hl hc1 hc2 hz => lv_if_lt C.1 C.2.1 hdg ht (fun q => kt q p l e R s m args below meth c H locs cells slots lsa Z C hr hs hl hc1 hc2 hz) (fun q => kf q p l e R s m args below meth c H locs cells slots lsa Z C hr hs hl hc1 hc2 hz)
theorem wq_lcmp_lt {v w : Int64} {off : Int} (tgt : Nat) (hd1 : decode cc pc = .ok (.lcmp, 1)) (hd2 : decode cc (pc + 1) = .ok (.ifCond .lt off, 3)) (kt : v < w → WP E n y cc ml rt (tgt) ls (st) (h) bc bs Q) (kf : ¬ v < w → WP E n y cc ml rt (pc + 1 + 3) ls (st) (h) bc bs Q) (ht : (pc : Int) + 1 + off = (tgt : Int) := by decide) : WP E n y cc ml rt (pc) ls (.long w :: .long v :: st) (h) bc bs Q := fun p l e R s m args below meth c H locs cells slots lsa Z C hr hs hl hc1 hc2 hz => W.lcmp C.1 C.2.1 hd1 (lv_if_lt C.1 C.2.1 hd2 (by rw [← ht]; rfl) (fun q => kt (w_lc_lt.mp q) p l e R s m args below meth c H locs cells slots lsa Z C hr hs hl hc1 hc2 hz) (fun q => kf (w_lcn_lt q) p l e R s m args below meth c H locs cells slots lsa Z C hr hs hl hc1 hc2 hz))
theorem wq_jcmp_lt {a b off : Int} (tgt : Nat) (hd1 : decode cc pc = .ok (.lcmp, 1)) (hd2 : decode cc (pc + 1) = .ok (.ifCond .lt off, 3)) (kt : a < b → WP E n y cc ml rt (tgt) ls (st) (h) bc bs Q) (kf : b ≤ a → WP E n y cc ml rt (pc + 1 + 3) ls (st) (h) bc bs Q) (ha : -9223372036854775808 ≤ a ∧ a ≤ 9223372036854775807 := by omega) (hb : -9223372036854775808 ≤ b ∧ b ≤ 9223372036854775807 := by omega) (ht : (pc : Int) + 1 + off = (tgt : Int) := by decide) : WP E n y cc ml rt (pc) ls (.long (jL b) :: .long (jL a) :: st) (h) bc bs Q := wq_lcmp_lt tgt hd1 hd2 (fun q => kt ((jL_lt ha hb).mp q)) (fun q => kf (Int.not_lt.mp (fun e => q ((jL_lt ha hb).mpr e)))) ht
theorem wq_icmp_ge {a b off : Int} (tgt : Nat) (hdg : decode cc pc = .ok (.if_icmp .ge off, 3)) (kt : b ≤ a → WP E n y cc ml rt (tgt) ls (st) (h) bc bs Q) (kf : a < b → WP E n y cc ml rt (pc + 3) ls (st) (h) bc bs Q) (ha : -2147483648 ≤ a ∧ a ≤ 2147483647 := by omega) (hb : -2147483648 ≤ b ∧ b ≤ 2147483647 := by omega) (ht : (pc : Int) + off = (tgt : Int) := by decide) : WP E n y cc ml rt (pc) ls (.int (iI b) :: .int (iI a) :: st) (h) bc bs Q := fun p l e R s m args below meth c H locs cells slots lsa Z C hr hs hl hc1 hc2 hz => lv_icmp_ge C.1 C.2.1 hdg ht (fun q => kt (Int.not_lt.mp (fun e => absurd ((iI_lt ha hb).mpr e) (Int32.not_lt.mpr q))) p l e R s m args below meth c H locs cells slots lsa Z C hr hs hl hc1 hc2 hz) (fun q => kf ((iI_lt ha hb).mp (Int32.not_le.mp q)) p l e R s m args below meth c H locs cells slots lsa Z C hr hs hl hc1 hc2 hz)
theorem wq_if_ge {a off : Int} (tgt : Nat) (hdg : decode cc pc = .ok (.ifCond .ge off, 3)) (kt : 0 ≤ a → WP E n y cc ml rt (tgt) ls (st) (h) bc bs Q) (kf : a < 0 → WP E n y cc ml rt (pc + 3) ls (st) (h) bc bs Q) (ha : -2147483648 ≤ a ∧ a ≤ 2147483647 := by omega) (ht : (pc : Int) + off = (tgt : Int) := by decide) : WP E n y cc ml rt (pc) ls (.int (iI a) :: st) (h) bc bs Q := by
  have hb : -2147483648 ≤ (0 : Int) ∧ (0 : Int) ≤ 2147483647 := by decide
  exact fun p l e R s m args below meth c H locs cells slots lsa Z C hr hs hl hc1 hc2 hz => lv_if_ge C.1 C.2.1 hdg ht (fun q => kt (by rw [iI_0] at q; exact Int.not_lt.mp (fun e => absurd ((iI_lt ha hb).mpr e) (Int32.not_lt.mpr q))) p l e R s m args below meth c H locs cells slots lsa Z C hr hs hl hc1 hc2 hz) (fun q => kf (by rw [iI_0] at q; exact (iI_lt ha hb).mp (Int32.not_le.mp q)) p l e R s m args below meth c H locs cells slots lsa Z C hr hs hl hc1 hc2 hz)
theorem wq_ifr_ge {v : Int32} {off : Int} (tgt : Nat) (hdg : decode cc pc = .ok (.ifCond .ge off, 3)) (kt : 0 ≤ v → WP E n y cc ml rt (tgt) ls (st) (h) bc bs Q) (kf : ¬ 0 ≤ v → WP E n y cc ml rt (pc + 3) ls (st) (h) bc bs Q) (ht : (pc : Int) + off = (tgt : Int) := by decide) : WP E n y cc ml rt (pc) ls (.int v :: st) (h) bc bs Q := fun p l e R s m args below meth c H locs cells slots lsa Z C hr hs hl hc1 hc2 hz => lv_if_ge C.1 C.2.1 hdg ht (fun q => kt q p l e R s m args below meth c H locs cells slots lsa Z C hr hs hl hc1 hc2 hz) (fun q => kf q p l e R s m args below meth c H locs cells slots lsa Z C hr hs hl hc1 hc2 hz)
theorem wq_lcmp_ge {v w : Int64} {off : Int} (tgt : Nat) (hd1 : decode cc pc = .ok (.lcmp, 1)) (hd2 : decode cc (pc + 1) = .ok (.ifCond .ge off, 3)) (kt : ¬ v < w → WP E n y cc ml rt (tgt) ls (st) (h) bc bs Q) (kf : v < w → WP E n y cc ml rt (pc + 1 + 3) ls (st) (h) bc bs Q) (ht : (pc : Int) + 1 + off = (tgt : Int) := by decide) : WP E n y cc ml rt (pc) ls (.long w :: .long v :: st) (h) bc bs Q := fun p l e R s m args below meth c H locs cells slots lsa Z C hr hs hl hc1 hc2 hz => W.lcmp C.1 C.2.1 hd1 (lv_if_ge C.1 C.2.1 hd2 (by rw [← ht]; rfl) (fun q => kt (w_lc_ge.mp q) p l e R s m args below meth c H locs cells slots lsa Z C hr hs hl hc1 hc2 hz) (fun q => kf (w_lcn_ge q) p l e R s m args below meth c H locs cells slots lsa Z C hr hs hl hc1 hc2 hz))
theorem wq_jcmp_ge {a b off : Int} (tgt : Nat) (hd1 : decode cc pc = .ok (.lcmp, 1)) (hd2 : decode cc (pc + 1) = .ok (.ifCond .ge off, 3)) (kt : b ≤ a → WP E n y cc ml rt (tgt) ls (st) (h) bc bs Q) (kf : a < b → WP E n y cc ml rt (pc + 1 + 3) ls (st) (h) bc bs Q) (ha : -9223372036854775808 ≤ a ∧ a ≤ 9223372036854775807 := by omega) (hb : -9223372036854775808 ≤ b ∧ b ≤ 9223372036854775807 := by omega) (ht : (pc : Int) + 1 + off = (tgt : Int) := by decide) : WP E n y cc ml rt (pc) ls (.long (jL b) :: .long (jL a) :: st) (h) bc bs Q := wq_lcmp_ge tgt hd1 hd2 (fun q => kt (Int.not_lt.mp (fun e => q ((jL_lt ha hb).mpr e)))) (fun q => kf ((jL_lt ha hb).mp q)) ht
theorem wq_icmp_gt {a b off : Int} (tgt : Nat) (hdg : decode cc pc = .ok (.if_icmp .gt off, 3)) (kt : b < a → WP E n y cc ml rt (tgt) ls (st) (h) bc bs Q) (kf : a ≤ b → WP E n y cc ml rt (pc + 3) ls (st) (h) bc bs Q) (ha : -2147483648 ≤ a ∧ a ≤ 2147483647 := by omega) (hb : -2147483648 ≤ b ∧ b ≤ 2147483647 := by omega) (ht : (pc : Int) + off = (tgt : Int) := by decide) : WP E n y cc ml rt (pc) ls (.int (iI b) :: .int (iI a) :: st) (h) bc bs Q := fun p l e R s m args below meth c H locs cells slots lsa Z C hr hs hl hc1 hc2 hz => lv_icmp_gt C.1 C.2.1 hdg ht (fun q => kt ((iI_lt hb ha).mp q) p l e R s m args below meth c H locs cells slots lsa Z C hr hs hl hc1 hc2 hz) (fun q => kf (Int.not_lt.mp (fun e => q ((iI_lt hb ha).mpr e))) p l e R s m args below meth c H locs cells slots lsa Z C hr hs hl hc1 hc2 hz)
theorem wq_if_gt {a off : Int} (tgt : Nat) (hdg : decode cc pc = .ok (.ifCond .gt off, 3)) (kt : 0 < a → WP E n y cc ml rt (tgt) ls (st) (h) bc bs Q) (kf : a ≤ 0 → WP E n y cc ml rt (pc + 3) ls (st) (h) bc bs Q) (ha : -2147483648 ≤ a ∧ a ≤ 2147483647 := by omega) (ht : (pc : Int) + off = (tgt : Int) := by decide) : WP E n y cc ml rt (pc) ls (.int (iI a) :: st) (h) bc bs Q := by
  have hb : -2147483648 ≤ (0 : Int) ∧ (0 : Int) ≤ 2147483647 := by decide
  exact fun p l e R s m args below meth c H locs cells slots lsa Z C hr hs hl hc1 hc2 hz => lv_if_gt C.1 C.2.1 hdg ht (fun q => kt (by rw [iI_0] at q; exact (iI_lt hb ha).mp q) p l e R s m args below meth c H locs cells slots lsa Z C hr hs hl hc1 hc2 hz) (fun q => kf (by rw [iI_0] at q; exact Int.not_lt.mp (fun e => q ((iI_lt hb ha).mpr e))) p l e R s m args below meth c H locs cells slots lsa Z C hr hs hl hc1 hc2 hz)
theorem wq_ifr_gt {v : Int32} {off : Int} (tgt : Nat) (hdg : decode cc pc = .ok (.ifCond .gt off, 3)) (kt : 0 < v → WP E n y cc ml rt (tgt) ls (st) (h) bc bs Q) (kf : ¬ 0 < v → WP E n y cc ml rt (pc + 3) ls (st) (h) bc bs Q) (ht : (pc : Int) + off = (tgt : Int) := by decide) : WP E n y cc ml rt (pc) ls (.int v :: st) (h) bc bs Q := fun p l e R s m args below meth c H locs cells slots lsa Z C hr hs hl hc1 hc2 hz => lv_if_gt C.1 C.2.1 hdg ht (fun q => kt q p l e R s m args below meth c H locs cells slots lsa Z C hr hs hl hc1 hc2 hz) (fun q => kf q p l e R s m args below meth c H locs cells slots lsa Z C hr hs hl hc1 hc2 hz)
theorem wq_lcmp_gt {v w : Int64} {off : Int} (tgt : Nat) (hd1 : decode cc pc = .ok (.lcmp, 1)) (hd2 : decode cc (pc + 1) = .ok (.ifCond .gt off, 3)) (kt : w < v → WP E n y cc ml rt (tgt) ls (st) (h) bc bs Q) (kf : ¬ w < v → WP E n y cc ml rt (pc + 1 + 3) ls (st) (h) bc bs Q) (ht : (pc : Int) + 1 + off = (tgt : Int) := by decide) : WP E n y cc ml rt (pc) ls (.long w :: .long v :: st) (h) bc bs Q := fun p l e R s m args below meth c H locs cells slots lsa Z C hr hs hl hc1 hc2 hz => W.lcmp C.1 C.2.1 hd1 (lv_if_gt C.1 C.2.1 hd2 (by rw [← ht]; rfl) (fun q => kt (w_lc_gt.mp q) p l e R s m args below meth c H locs cells slots lsa Z C hr hs hl hc1 hc2 hz) (fun q => kf (w_lcn_gt q) p l e R s m args below meth c H locs cells slots lsa Z C hr hs hl hc1 hc2 hz))
theorem wq_jcmp_gt {a b off : Int} (tgt : Nat) (hd1 : decode cc pc = .ok (.lcmp, 1)) (hd2 : decode cc (pc + 1) = .ok (.ifCond .gt off, 3)) (kt : b < a → WP E n y cc ml rt (tgt) ls (st) (h) bc bs Q) (kf : a ≤ b → WP E n y cc ml rt (pc + 1 + 3) ls (st) (h) bc bs Q) (ha : -9223372036854775808 ≤ a ∧ a ≤ 9223372036854775807 := by omega) (hb : -9223372036854775808 ≤ b ∧ b ≤ 9223372036854775807 := by omega) (ht : (pc : Int) + 1 + off = (tgt : Int) := by decide) : WP E n y cc ml rt (pc) ls (.long (jL b) :: .long (jL a) :: st) (h) bc bs Q := wq_lcmp_gt tgt hd1 hd2 (fun q => kt ((jL_lt hb ha).mp q)) (fun q => kf (Int.not_lt.mp (fun e => q ((jL_lt hb ha).mpr e)))) ht
theorem wq_icmp_le {a b off : Int} (tgt : Nat) (hdg : decode cc pc = .ok (.if_icmp .le off, 3)) (kt : a ≤ b → WP E n y cc ml rt (tgt) ls (st) (h) bc bs Q) (kf : b < a → WP E n y cc ml rt (pc + 3) ls (st) (h) bc bs Q) (ha : -2147483648 ≤ a ∧ a ≤ 2147483647 := by omega) (hb : -2147483648 ≤ b ∧ b ≤ 2147483647 := by omega) (ht : (pc : Int) + off = (tgt : Int) := by decide) : WP E n y cc ml rt (pc) ls (.int (iI b) :: .int (iI a) :: st) (h) bc bs Q := fun p l e R s m args below meth c H locs cells slots lsa Z C hr hs hl hc1 hc2 hz => lv_icmp_le C.1 C.2.1 hdg ht (fun q => kt ((iI_le ha hb).mp q) p l e R s m args below meth c H locs cells slots lsa Z C hr hs hl hc1 hc2 hz) (fun q => kf ((iI_lt hb ha).mp (Int32.not_le.mp q)) p l e R s m args below meth c H locs cells slots lsa Z C hr hs hl hc1 hc2 hz)
theorem wq_if_le {a off : Int} (tgt : Nat) (hdg : decode cc pc = .ok (.ifCond .le off, 3)) (kt : a ≤ 0 → WP E n y cc ml rt (tgt) ls (st) (h) bc bs Q) (kf : 0 < a → WP E n y cc ml rt (pc + 3) ls (st) (h) bc bs Q) (ha : -2147483648 ≤ a ∧ a ≤ 2147483647 := by omega) (ht : (pc : Int) + off = (tgt : Int) := by decide) : WP E n y cc ml rt (pc) ls (.int (iI a) :: st) (h) bc bs Q := by
  have hb : -2147483648 ≤ (0 : Int) ∧ (0 : Int) ≤ 2147483647 := by decide
  exact fun p l e R s m args below meth c H locs cells slots lsa Z C hr hs hl hc1 hc2 hz => lv_if_le C.1 C.2.1 hdg ht (fun q => kt (by rw [iI_0] at q; exact (iI_le ha hb).mp q) p l e R s m args below meth c H locs cells slots lsa Z C hr hs hl hc1 hc2 hz) (fun q => kf (by rw [iI_0] at q; exact (iI_lt hb ha).mp (Int32.not_le.mp q)) p l e R s m args below meth c H locs cells slots lsa Z C hr hs hl hc1 hc2 hz)
theorem wq_ifr_le {v : Int32} {off : Int} (tgt : Nat) (hdg : decode cc pc = .ok (.ifCond .le off, 3)) (kt : v ≤ 0 → WP E n y cc ml rt (tgt) ls (st) (h) bc bs Q) (kf : ¬ v ≤ 0 → WP E n y cc ml rt (pc + 3) ls (st) (h) bc bs Q) (ht : (pc : Int) + off = (tgt : Int) := by decide) : WP E n y cc ml rt (pc) ls (.int v :: st) (h) bc bs Q := fun p l e R s m args below meth c H locs cells slots lsa Z C hr hs hl hc1 hc2 hz => lv_if_le C.1 C.2.1 hdg ht (fun q => kt q p l e R s m args below meth c H locs cells slots lsa Z C hr hs hl hc1 hc2 hz) (fun q => kf q p l e R s m args below meth c H locs cells slots lsa Z C hr hs hl hc1 hc2 hz)
theorem wq_lcmp_le {v w : Int64} {off : Int} (tgt : Nat) (hd1 : decode cc pc = .ok (.lcmp, 1)) (hd2 : decode cc (pc + 1) = .ok (.ifCond .le off, 3)) (kt : ¬ w < v → WP E n y cc ml rt (tgt) ls (st) (h) bc bs Q) (kf : w < v → WP E n y cc ml rt (pc + 1 + 3) ls (st) (h) bc bs Q) (ht : (pc : Int) + 1 + off = (tgt : Int) := by decide) : WP E n y cc ml rt (pc) ls (.long w :: .long v :: st) (h) bc bs Q := fun p l e R s m args below meth c H locs cells slots lsa Z C hr hs hl hc1 hc2 hz => W.lcmp C.1 C.2.1 hd1 (lv_if_le C.1 C.2.1 hd2 (by rw [← ht]; rfl) (fun q => kt (w_lc_le.mp q) p l e R s m args below meth c H locs cells slots lsa Z C hr hs hl hc1 hc2 hz) (fun q => kf (w_lcn_le q) p l e R s m args below meth c H locs cells slots lsa Z C hr hs hl hc1 hc2 hz))
theorem wq_jcmp_le {a b off : Int} (tgt : Nat) (hd1 : decode cc pc = .ok (.lcmp, 1)) (hd2 : decode cc (pc + 1) = .ok (.ifCond .le off, 3)) (kt : a ≤ b → WP E n y cc ml rt (tgt) ls (st) (h) bc bs Q) (kf : b < a → WP E n y cc ml rt (pc + 1 + 3) ls (st) (h) bc bs Q) (ha : -9223372036854775808 ≤ a ∧ a ≤ 9223372036854775807 := by omega) (hb : -9223372036854775808 ≤ b ∧ b ≤ 9223372036854775807 := by omega) (ht : (pc : Int) + 1 + off = (tgt : Int) := by decide) : WP E n y cc ml rt (pc) ls (.long (jL b) :: .long (jL a) :: st) (h) bc bs Q := wq_lcmp_le tgt hd1 hd2 (fun q => kt (Int.not_lt.mp (fun e => q ((jL_lt hb ha).mpr e)))) (fun q => kf ((jL_lt hb ha).mp q)) ht
theorem wq_tsK {dflt lo hi off z : Int} {offs : Array Int} {len : Nat} (k : Int) (tgt : Nat) (hdg : decode cc pc = .ok (.tableswitch dflt lo hi offs, len)) (hz0 : z = k) (kk : WP E n y cc ml rt (tgt) ls (st) (h) bc bs Q) (hr0 : -2147483648 ≤ k ∧ k ≤ 2147483647 := by decide) (h1 : ¬ k < lo := by decide) (h2 : ¬ hi < k := by decide) (ho : offs[(k - lo).toNat]? = some off := by rfl) (ht : (pc : Int) + off = (tgt : Int) := by decide) : WP E n y cc ml rt (pc) ls (.int (iI z) :: st) (h) bc bs Q := fun p l e R s m args below meth c H locs cells slots lsa Z C hr hs hl hc1 hc2 hz => (by
  subst hz0
  exact lv_tableIn C.1 C.2.1 hdg (by rw [iI_toInt hr0]; exact h1) (by rw [iI_toInt hr0]; exact h2) (by rw [iI_toInt hr0]; exact ho) ht (kk p l e R s m args below meth c H locs cells slots lsa Z C hr hs hl hc1 hc2 hz))
theorem wq_tsOut {dflt lo hi z : Int} {offs : Array Int} {len : Nat} (tgt : Nat) (hdg : decode cc pc = .ok (.tableswitch dflt lo hi offs, len)) (h1 : z < lo ∨ hi < z) (kk : WP E n y cc ml rt (tgt) ls (st) (h) bc bs Q) (hr0 : -2147483648 ≤ z ∧ z ≤ 2147483647 := by omega) (ht : (pc : Int) + dflt = (tgt : Int) := by decide) : WP E n y cc ml rt (pc) ls (.int (iI z) :: st) (h) bc bs Q := fun p l e R s m args below meth c H locs cells slots lsa Z C hr hs hl hc1 hc2 hz => lv_tableOut C.1 C.2.1 hdg (by rw [iI_toInt hr0]; exact h1) ht (kk p l e R s m args below meth c H locs cells slots lsa Z C hr hs hl hc1 hc2 hz)
theorem wq_lk {dflt off z : Int} {ps : Array (Int × Int)} {len : Nat} (tgt : Nat) (hdg : decode cc pc = .ok (.lookupswitch dflt ps, len)) (ho : Op.lookupswitch.offset ps.toList dflt z = off) (kk : WP E n y cc ml rt (tgt) ls (st) (h) bc bs Q) (hr0 : -2147483648 ≤ z ∧ z ≤ 2147483647 := by omega) (hp : (ps.toList.zip (ps.toList.drop 1)).all (fun (a, next) => a.1 < next.1) = true := by decide) (ht : (pc : Int) + off = (tgt : Int) := by decide) : WP E n y cc ml rt (pc) ls (.int (iI z) :: st) (h) bc bs Q := fun p l e R s m args below meth c H locs cells slots lsa Z C hr hs hl hc1 hc2 hz => lv_lookup C.1 C.2.1 hdg hp (by rw [iI_toInt hr0]; exact ho) ht (kk p l e R s m args below meth c H locs cells slots lsa Z C hr hs hl hc1 hc2 hz)
theorem wq_ireturn {v : Int32} (hdg : decode cc pc = .ok (.ireturn, 1)) (hq : Q (some (.int v)) h) (hn : wNar rt (some (.int v))) : WP E n y cc ml rt (pc) ls ([.int v]) (h) bc bs Q := fun p l e R s m args below meth c H locs cells slots lsa Z C hr hs hl hc1 hc2 hz => hz _ _ hq H locs cells slots pc lsa hr hs (Nat.le_add_right _ _) (Nat.le_add_right _ _) hdg hn
theorem wq_lreturn {v : Int64} (hdg : decode cc pc = .ok (.lreturn, 1)) (hq : Q (some (.long v)) h) (hn : wNar rt (some (.long v))) : WP E n y cc ml rt (pc) ls ([.long v]) (h) bc bs Q := fun p l e R s m args below meth c H locs cells slots lsa Z C hr hs hl hc1 hc2 hz => hz _ _ hq H locs cells slots pc lsa hr hs (Nat.le_add_right _ _) (Nat.le_add_right _ _) hdg hn
theorem wq_dreturn {v : UInt64} (hdg : decode cc pc = .ok (.dreturn, 1)) (hq : Q (some (.double v)) h) (hn : wNar rt (some (.double v))) : WP E n y cc ml rt (pc) ls ([.double v]) (h) bc bs Q := fun p l e R s m args below meth c H locs cells slots lsa Z C hr hs hl hc1 hc2 hz => hz _ _ hq H locs cells slots pc lsa hr hs (Nat.le_add_right _ _) (Nat.le_add_right _ _) hdg hn
theorem wq_areturn {v : Nat} (hdg : decode cc pc = .ok (.areturn, 1)) (hq : Q (some (.ref v)) h) (hn : wNar rt (some (.ref v))) : WP E n y cc ml rt (pc) ls ([.ref v]) (h) bc bs Q := fun p l e R s m args below meth c H locs cells slots lsa Z C hr hs hl hc1 hc2 hz => hz _ _ hq H locs cells slots pc lsa hr hs (Nat.le_add_right _ _) (Nat.le_add_right _ _) hdg hn
theorem wq_return (hdg : decode cc pc = .ok (.return_, 1)) (hq : Q none h) (hn : wNar rt none) : WP E n y cc ml rt (pc) ls ([]) (h) bc bs Q := fun p l e R s m args below meth c H locs cells slots lsa Z C hr hs hl hc1 hc2 hz => hz _ _ hq H locs cells slots pc lsa hr hs (Nat.le_add_right _ _) (Nat.le_add_right _ _) hdg hn
end WQ
end
section
/-! ===== fields ===== -/
/-- the constant idx of class own names field k of class ci -/
def wF (own : String) (idx ci k : Nat) : Prop := ∃ (C : String) (T : u_T) (N : Nat), vwCl[ci]? = some (C, T, N) ∧ k < N ∧ Cond.fieldLink own idx (T k).1 (T k).2.1 (T k).2.2.1 ∈ wAll ∧ ∀ w ∈ u_ws C T N, w ∈ wAll
/-- the same, and what may be put there -/
def wFP (own : String) (idx ci k : Nat) (fin : Bool) (ty : FieldType) : Prop := ∃ (C : String) (T : u_T) (N : Nat) (tys : Nat → FieldType), vwCl[ci]? = some (C, T, N) ∧ k < N ∧ Cond.fieldLink own idx (T k).1 (T k).2.1 (T k).2.2.1 ∈ wAll ∧ (∀ w ∈ u_ws C T N, w ∈ wAll) ∧ (T k).2.2.2 = fin ∧ tys k = ty ∧ (∀ k, k < N → parseFieldDescriptor (T k).2.2.1 = some (tys k)) ∧ (∀ a, a < N → ∀ b, b < N → a ≠ b → (T a).2.1 ≠ (T b).2.1) ∧ (fin = true → (T k).1 = own)
section WQM
variable {E : wE} {n : Nat} {y : MethodName} {cc : ByteArray} {ml : Nat} {rt : Option FieldType} {pc : Nat} {ls : wLoc} {st : List Value} {h : hW} {bc bs : Nat} {Q : Option Value → hW → Prop}
theorem wq_get {idx ci k a : Nat} {fs : List Value} {v : Value} (hdg : decode cc pc = .ok (.getfield idx, 3)) (hf : wF y.cls idx ci k) (he : h.1 a = some (.inr (ci, fs))) (hv : fs[k]? = some v) (kk : WP E n y cc ml rt (pc + 3) ls (v :: st) h bc bs Q) : WP E n y cc ml rt pc ls (.ref a :: st) h bc bs Q := by
  intro p l e R s m args below meth c H locs cells slots lsa Z C hr hs hl hc1 hc2 hz
  obtain ⟨Cn, T, N, h1, h2, h3, h4⟩ := hf
  exact va_get C.1 C.2.1 C.2.2.2.2.2.1 h4 C.2.2.2.2.1 C.2.2.2.2.2.2.2.2.2.1.1 (hr.one he) 0 rfl h1 k h2 (C.2.2.2.2.2.1 _ h3) (fun _ q => q) hv hdg (kk p l e R s m args below meth c H locs cells slots lsa Z C hr hs hl hc1 hc2 hz)
theorem wRep.at_ {E : wE} {h : hW} {H : Heap} {a : Nat} {e : va_E} (hr : wRep E h H) (ha : h.1 a = some e) : wA E a ∧ va_at (wD E) vwCl (a, e) H := hr.2 a e ha
theorem wq_put {idx ci k a : Nat} {fs : List Value} {v : Value} {ty : FieldType} (hdg : decode cc pc = .ok (.putfield idx, 3)) (hf : wFP y.cls idx ci k false ty) (he : h.1 a = some (.inr (ci, fs))) (hlen : k < fs.length) (hn : narrow ty v = v) (hfit : fits ty v = true) (kk : WP E n y cc ml rt (pc + 3) ls st (wUp h a (.inr (ci, fs.set k v))) bc bs Q) : WP E n y cc ml rt pc ls (v :: .ref a :: st) h bc bs Q := by
  intro p l e R s m args below meth c H locs cells slots lsa Z C hr hs hl hc1 hc2 hz
  obtain ⟨Cn, T, N, tys, hc, hk, h3, hin, hfin, hty, hty', hnm, -⟩ := hf
  have hts := C.2.2.2.2.2.1
  have hown := C.2.2.2.2.1
  have hK := C.2.2.2.2.2.2.2.2.2.1.1
  have hap := va_apart (own := y.cls) hts hin tys hty' hnm hK hc
  obtain ⟨hA, r, h1, cell, q1, q2, q3, q4⟩ := hr.2 a _ he
  have hr1 : r = (Cn, T, N) := Option.some.inj (h1.symm.trans hc)
  subst hr1
  obtain ⟨hS, hfc, kC, hkC, hkind⟩ := hK.1 ci _ hc
  obtain ⟨cf, kf, fi, f, hi, hsl⟩ := hS k hk
  have hlay := hts _ (hin _ (u_in_lay hk))
  unfold u_lay at hlay
  rw [if_neg (by rw [hfin]; decide)] at hlay
  have hst := (u_facts hfc hkC (u_lays hts hin hk) hi).1
  have h6 := u_store hfc hkC hkind hlay hi (ty := ty) (by rw [← hty]; exact hty' k hk) hn hfit
  refine W.putK C.1 C.2.1 (f := f) ⟨hown, hts _ h3, ⟨_, _, _, hi⟩, hst⟩ (by rw [q2]; exact h6) q1 q3 (by rw [hsl]; exact k2_hasslot (q4 k hk)) rfl rfl hdg fun H' e1 e2 e3 => ?_
  rw [hsl] at e1 ⊢
  exact kk p l e R s m args below meth c H' _ cells slots lsa Z C (hr.put he e2 e3 ⟨_, hc, t_OB.to (V := updV (vp_V fs) k v) ⟨_, e1, q2, q3, t_set q4 hap hk v⟩ (fun j _ => vp_updV_set hlen v j)⟩) (hs.put e2 e3 hA) hl hc1 hc2 hz
theorem wq_putF {idx ci k a : Nat} {fs : List Value} {v : Value} {ty : FieldType} (hdg : decode cc pc = .ok (.putfield idx, 3)) (hf : wFP y.cls idx ci k true ty) (hyn : y.name = "<init>") (he : h.1 a = some (.inr (ci, fs))) (hlen : k < fs.length) (hn : narrow ty v = v) (hfit : fits ty v = true) (kk : WP E n y cc ml rt (pc + 3) ls st (wUp h a (.inr (ci, fs.set k v))) bc bs Q) : WP E n y cc ml rt pc ls (v :: .ref a :: st) h bc bs Q := by
  intro p l e R s m args below meth c H locs cells slots lsa Z C hr hs hl hc1 hc2 hz
  obtain ⟨Cn, T, N, tys, hc, hk, h3, hin, hfin, hty, hty', hnm, hdecl⟩ := hf
  have hdecl := hdecl rfl
  have hts := C.2.2.2.2.2.1
  have hown := C.2.2.2.2.1
  have hK := C.2.2.2.2.2.2.2.2.2.1.1
  have hin2 : meth.name = "<init>" := C.2.2.2.2.2.2.2.2.2.2.trans hyn
  have hap := va_apart (own := y.cls) hts hin tys hty' hnm hK hc
  obtain ⟨hA, r, h1, cell, q1, q2, q3, q4⟩ := hr.2 a _ he
  have hr1 : r = (Cn, T, N) := Option.some.inj (h1.symm.trans hc)
  subst hr1
  obtain ⟨hS, hfc, kC, hkC, hkind⟩ := hK.1 ci _ hc
  obtain ⟨cf, kf, fi, f, hi, hsl⟩ := hS k hk
  have hlay := hts _ (hin _ (u_in_lay hk))
  unfold u_lay at hlay
  rw [if_pos hfin] at hlay
  have hst := (u_facts hfc hkC (u_lays hts hin hk) hi).1
  have hcf : m.cls = cf := by
    obtain ⟨_, _, c', _, _, _, -, -, hf', -, -, -, hown2, -⟩ := Cond.laysFinal_spec hlay
    have e1 : c' = cf := by have := hi.symm.trans hf'; simp at this; exact this.1.symm
    rw [hdecl] at hown2
    rw [← e1]; exact Option.some.inj (hown.symm.trans hown2)
  have h6 := u_fits hfc hkC hkind (Or.inr hlay) hi (ty := ty) (by rw [← hty]; exact hty' k hk) hn hfit
  refine W.putFinK C.1 C.2.1 hown (hts _ h3) hi hst hcf hin2 (by rw [q2]; exact h6) q1 q3 (by rw [hsl]; exact k2_hasslot (q4 k hk)) rfl rfl hdg fun H' e1 e2 e3 => ?_
  rw [hsl] at e1 ⊢
  exact kk p l e R s m args below meth c H' _ cells slots lsa Z C (hr.put he e2 e3 ⟨_, hc, t_OB.to (V := updV (vp_V fs) k v) ⟨_, e1, q2, q3, t_set q4 hap hk v⟩ (fun j _ => vp_updV_set hlen v j)⟩) (hs.put e2 e3 hA) hl hc1 hc2 hz
/-! ===== statics and what is only read ===== -/
theorem wq_gets {idx k : Nat} {q : String × String × String} (hdg : decode cc pc = .ok (.getstatic idx, 3)) (hk : wSts[k]? = some q) (hl0 : Cond.fieldLink y.cls idx q.1 q.2.1 q.2.2 ∈ wAll) (kk : WP E n y cc ml rt (pc + 3) ls (wsv E k :: st) h bc bs Q) : WP E n y cc ml rt pc ls st h bc bs Q := by
  intro p l e R s m args below meth c H locs cells slots lsa Z C hr hs hl hc1 hc2 hz
  exact va_gets C.1 C.2.1 (C.2.2.2.2.2.2.2.2.2.1.2.1 k q hk) hs C.2.2.2.2.1 (C.2.2.2.2.2.1 _ hl0) (fun _ q => q) hdg (kk p l e R s m args below meth c H locs cells slots lsa Z C hr hs hl hc1 hc2 hz)
theorem wq_getsN {idx k : Nat} {q : String × String × String} {host : String} (hdg : decode cc pc = .ok (.getstatic idx, 3)) (hk : wSts[k]? = some q) (hl0 : (y.cls, idx, q.1, q.2.1, q.2.2, host) ∈ wNF) (kk : WP E n y cc ml rt (pc + 3) ls (wsv E k :: st) h bc bs Q) : WP E n y cc ml rt pc ls st h bc bs Q := by
  intro p l e R s m args below meth c H locs cells slots lsa Z C hr hs hl hc1 hc2 hz
  exact va_getsN C.1 C.2.1 (C.2.2.2.2.2.2.2.2.2.1.2.1 k q hk) hs C.2.2.2.2.1 (va_Nw.use rfl (C.2.2.2.2.2.2.2.2.2.1.2.2.2.2.2.2.1 _ hl0)) (fun _ q => q) hdg (kk p l e R s m args below meth c H locs cells slots lsa Z C hr hs hl hc1 hc2 hz)
theorem w_in {z : Int} {N : Nat} (h : 0 ≤ z ∧ z < N) (hN : N ≤ 2147483647) : vp_in (iI z) N := by
  have hz : wR z := by omega
  rintro (q | q)
  · rw [iI_0, iI_lt hz (by decide)] at q
    omega
  · rw [iI_nat hz] at q
    omega
theorem wq_roi {a N : Nat} {z : Int} {f : Nat → Value} {v : Value} (hdg : decode cc pc = .ok (.iaload, 1)) (he : wro E a = some (.int, N, f)) (hi : 0 ≤ z ∧ z < N) (hv : f z.toNat = v) (kk : WP E n y cc ml rt (pc + 1) ls (v :: st) h bc bs Q) (hN : N ≤ 2147483647 := by omega) : WP E n y cc ml rt pc ls (.int (iI z) :: .ref a :: st) h bc bs Q := by
  intro p l e R s m args below meth c H locs cells slots lsa Z C hr hs hl hc1 hc2 hz
  exact va_ti C.1 C.2.1 (C.2.2.2.2.2.2.2.2.2.1.2.2.1 a _ _ _ he) hs (w_in hi hN) (by rw [iI_nat (by omega)]; exact hv) hdg (kk p l e R s m args below meth c H locs cells slots lsa Z C hr hs hl hc1 hc2 hz)
end WQM
/-! ===== arrays ===== -/
abbrev eI (E : wE) (N : Nat) (f : Nat → Int32) : va_E := .inl (wcA E 0, N, .inl f)
abbrev eC (E : wE) (N : Nat) (f : Nat → Int32) : va_E := .inl (wcA E 3, N, .inl f)
abbrev eZ (E : wE) (N : Nat) (f : Nat → Int32) : va_E := .inl (wcA E 4, N, .inl f)
abbrev eL (E : wE) (N : Nat) (f : Nat → Int64) : va_E := .inl (wcA E 1, N, .inr (.inl f))
abbrev eD (E : wE) (N : Nat) (f : Nat → UInt64) : va_E := .inl (wcA E 2, N, .inr (.inr (.inr (.inl f))))
abbrev eQ (E : wE) (k N : Nat) (f : Nat → Option Nat) : va_E := .inl (wcA E k, N, .inr (.inr (.inr (.inr f))))
section WQA
variable {E : wE} {n : Nat} {y : MethodName} {cc : ByteArray} {ml : Nat} {rt : Option FieldType} {pc : Nat} {ls : wLoc} {st : List Value} {h : hW} {bc bs : Nat} {Q : Option Value → hW → Prop}
theorem wq_iald {a N : Nat} {z : Int} {f : Nat → Int32} (hdg : decode cc pc = .ok (.iaload, 1)) (he : h.1 a = some (eI E N f)) (hi : 0 ≤ z ∧ z < N) (kk : WP E n y cc ml rt (pc + 1) ls (.int (f z.toNat) :: st) h bc bs Q) (hN : N ≤ 2147483647 := by decide) : WP E n y cc ml rt pc ls (.int (iI z) :: .ref a :: st) h bc bs Q := by
  intro p l e R s m args below meth c H locs cells slots lsa Z C hr hs hl hc1 hc2 hz
  have ez := iI_nat (a := z) (by omega)
  exact va_iald C.1 C.2.1 C.2.2.2.2.2.2.2.2.2.1.1 (hr.one he) 0 0 rfl rfl (w_in hi hN) hdg (by rw [ez]; exact kk p l e R s m args below meth c H locs cells slots lsa Z C hr hs hl hc1 hc2 hz)
theorem wq_cald {a N : Nat} {z : Int} {f : Nat → Int32} (hdg : decode cc pc = .ok (.caload, 1)) (he : h.1 a = some (eC E N f)) (hi : 0 ≤ z ∧ z < N) (kk : WP E n y cc ml rt (pc + 1) ls (.int (f z.toNat) :: st) h bc bs Q) (hN : N ≤ 2147483647 := by decide) : WP E n y cc ml rt pc ls (.int (iI z) :: .ref a :: st) h bc bs Q := by
  intro p l e R s m args below meth c H locs cells slots lsa Z C hr hs hl hc1 hc2 hz
  have ez := iI_nat (a := z) (by omega)
  exact va_cald C.1 C.2.1 C.2.2.2.2.2.2.2.2.2.1.1 (hr.one he) 0 3 rfl rfl (w_in hi hN) hdg (by rw [ez]; exact kk p l e R s m args below meth c H locs cells slots lsa Z C hr hs hl hc1 hc2 hz)
theorem wq_zald {a N : Nat} {z : Int} {f : Nat → Int32} (hdg : decode cc pc = .ok (.baload, 1)) (he : h.1 a = some (eZ E N f)) (hi : 0 ≤ z ∧ z < N) (kk : WP E n y cc ml rt (pc + 1) ls (.int (f z.toNat) :: st) h bc bs Q) (hN : N ≤ 2147483647 := by decide) : WP E n y cc ml rt pc ls (.int (iI z) :: .ref a :: st) h bc bs Q := by
  intro p l e R s m args below meth c H locs cells slots lsa Z C hr hs hl hc1 hc2 hz
  have ez := iI_nat (a := z) (by omega)
  exact va_zald C.1 C.2.1 C.2.2.2.2.2.2.2.2.2.1.1 (hr.one he) 0 4 rfl rfl (w_in hi hN) hdg (by rw [ez]; exact kk p l e R s m args below meth c H locs cells slots lsa Z C hr hs hl hc1 hc2 hz)
theorem wq_lald {a N : Nat} {z : Int} {f : Nat → Int64} (hdg : decode cc pc = .ok (.laload, 1)) (he : h.1 a = some (eL E N f)) (hi : 0 ≤ z ∧ z < N) (kk : WP E n y cc ml rt (pc + 1) ls (.long (f z.toNat) :: st) h bc bs Q) (hN : N ≤ 2147483647 := by decide) : WP E n y cc ml rt pc ls (.int (iI z) :: .ref a :: st) h bc bs Q := by
  intro p l e R s m args below meth c H locs cells slots lsa Z C hr hs hl hc1 hc2 hz
  have ez := iI_nat (a := z) (by omega)
  exact va_lald C.1 C.2.1 C.2.2.2.2.2.2.2.2.2.1.1 (hr.one he) 0 1 rfl rfl (w_in hi hN) hdg (by rw [ez]; exact kk p l e R s m args below meth c H locs cells slots lsa Z C hr hs hl hc1 hc2 hz)
theorem wq_dald {a N : Nat} {z : Int} {f : Nat → UInt64} (hdg : decode cc pc = .ok (.daload, 1)) (he : h.1 a = some (eD E N f)) (hi : 0 ≤ z ∧ z < N) (kk : WP E n y cc ml rt (pc + 1) ls (.double (f z.toNat) :: st) h bc bs Q) (hN : N ≤ 2147483647 := by decide) : WP E n y cc ml rt pc ls (.int (iI z) :: .ref a :: st) h bc bs Q := by
  intro p l e R s m args below meth c H locs cells slots lsa Z C hr hs hl hc1 hc2 hz
  have ez := iI_nat (a := z) (by omega)
  exact va_dald C.1 C.2.1 C.2.2.2.2.2.2.2.2.2.1.1 (hr.one he) 0 2 rfl rfl (w_in hi hN) hdg (by rw [ez]; exact kk p l e R s m args below meth c H locs cells slots lsa Z C hr hs hl hc1 hc2 hz)
theorem wq_iast {a N : Nat} {z : Int} {f : Nat → Int32} {v : Int32} (hdg : decode cc pc = .ok (.iastore, 1)) (he : h.1 a = some (eI E N f)) (hi : 0 ≤ z ∧ z < N) (kk : WP E n y cc ml rt (pc + 1) ls st (wUp h a (eI E N (va_up f z.toNat v))) bc bs Q) (hN : N ≤ 2147483647 := by decide) : WP E n y cc ml rt pc ls (.int v :: .int (iI z) :: .ref a :: st) h bc bs Q := by
  intro p l e0 R s m args below meth c H locs cells slots lsa Z C hr hs hl hc1 hc2 hz
  have e := iI_nat (a := z) (by omega)
  have ha := (hr.2 a _ he).2
  refine W.iast C.1 C.2.1 ha ((C.2.2.2.2.2.2.2.2.2.1.1.2 0 _ rfl).1 N (fun j => .int (f j))) (fun q => by cases q) (by show ¬ (_ ∨ (arrV _ _ _).slots.size ≤ _); rw [arrV_size]; exact w_in hi hN) rfl rfl hdg fun H1 e1 e2 oq => ?_
  refine kk p l e0 R s m args below meth c H1 _ cells slots lsa Z C (hr.put he e2 oq ?_) (hs.put e2 oq (hr.2 a _ he).1) hl hc1 hc2 hz
  show H1[a]? = some (vp_cell _ _)
  rw [e1, vp_cell_i, vp_cell_i, arrV_store, e]
  congr 2
  funext q
  by_cases hq : q = z.toNat
  · subst hq
    simp [updV, va_up]
  · simp [updV, va_up, hq]
theorem wq_last {a N : Nat} {z : Int} {f : Nat → Int64} {v : Int64} (hdg : decode cc pc = .ok (.lastore, 1)) (he : h.1 a = some (eL E N f)) (hi : 0 ≤ z ∧ z < N) (kk : WP E n y cc ml rt (pc + 1) ls st (wUp h a (eL E N (va_up f z.toNat v))) bc bs Q) (hN : N ≤ 2147483647 := by decide) : WP E n y cc ml rt pc ls (.long v :: .int (iI z) :: .ref a :: st) h bc bs Q := by
  intro p l e0 R s m args below meth c H locs cells slots lsa Z C hr hs hl hc1 hc2 hz
  have e := iI_nat (a := z) (by omega)
  have ha := (hr.2 a _ he).2
  refine W.last C.1 C.2.1 ha ((C.2.2.2.2.2.2.2.2.2.1.1.2 1 _ rfl).1 N (fun j => .long (f j))) (fun q => by cases q) (by show ¬ (_ ∨ (arrV _ _ _).slots.size ≤ _); rw [arrV_size]; exact w_in hi hN) rfl rfl hdg fun H1 e1 e2 oq => ?_
  refine kk p l e0 R s m args below meth c H1 _ cells slots lsa Z C (hr.put he e2 oq ?_) (hs.put e2 oq (hr.2 a _ he).1) hl hc1 hc2 hz
  show H1[a]? = some (vp_cell _ _)
  rw [e1, vp_cell_l, vp_cell_l, arrV_store, e]
  congr 2
  funext q
  by_cases hq : q = z.toNat
  · subst hq
    simp [updV, va_up]
  · simp [updV, va_up, hq]
theorem wq_dast {a N : Nat} {z : Int} {f : Nat → UInt64} {v : UInt64} (hdg : decode cc pc = .ok (.dastore, 1)) (he : h.1 a = some (eD E N f)) (hi : 0 ≤ z ∧ z < N) (kk : WP E n y cc ml rt (pc + 1) ls st (wUp h a (eD E N (va_up f z.toNat v))) bc bs Q) (hN : N ≤ 2147483647 := by decide) : WP E n y cc ml rt pc ls (.double v :: .int (iI z) :: .ref a :: st) h bc bs Q := by
  intro p l e0 R s m args below meth c H locs cells slots lsa Z C hr hs hl hc1 hc2 hz
  have e := iI_nat (a := z) (by omega)
  have ha := (hr.2 a _ he).2
  refine W.dast C.1 C.2.1 ha ((C.2.2.2.2.2.2.2.2.2.1.1.2 2 _ rfl).1 N (fun j => .double (f j))) (fun q => by cases q) (by show ¬ (_ ∨ (arrV _ _ _).slots.size ≤ _); rw [arrV_size]; exact w_in hi hN) rfl rfl hdg fun H1 e1 e2 oq => ?_
  refine kk p l e0 R s m args below meth c H1 _ cells slots lsa Z C (hr.put he e2 oq ?_) (hs.put e2 oq (hr.2 a _ he).1) hl hc1 hc2 hz
  show H1[a]? = some (vp_cell _ _)
  rw [e1, vp_cell_d, vp_cell_d, arrV_store, e]
  congr 2
  funext q
  by_cases hq : q = z.toNat
  · subst hq
    simp [updV, va_up]
  · simp [updV, va_up, hq]
theorem wq_cast {a N : Nat} {z : Int} {f : Nat → Int32} {v : Int32} (hdg : decode cc pc = .ok (.castore, 1)) (he : h.1 a = some (eC E N f)) (hi : 0 ≤ z ∧ z < N) (hn : narrow .char (.int v) = .int v) (kk : WP E n y cc ml rt (pc + 1) ls st (wUp h a (eC E N (va_up f z.toNat v))) bc bs Q) (hN : N ≤ 2147483647 := by decide) : WP E n y cc ml rt pc ls (.int v :: .int (iI z) :: .ref a :: st) h bc bs Q := by
  intro p l e0 R s m args below meth c H locs cells slots lsa Z C hr hs hl hc1 hc2 hz
  have e := iI_nat (a := z) (by omega)
  have ha := (hr.2 a _ he).2
  refine W.cast C.1 C.2.1 ha ((C.2.2.2.2.2.2.2.2.2.1.1.2 3 _ rfl).1 N (fun j => .int (f j))) (fun q => by cases q) (by show ¬ (_ ∨ (arrV _ _ _).slots.size ≤ _); rw [arrV_size]; exact w_in hi hN) rfl rfl hdg fun H1 e1 e2 oq => ?_
  refine kk p l e0 R s m args below meth c H1 _ cells slots lsa Z C (hr.put he e2 oq ?_) (hs.put e2 oq (hr.2 a _ he).1) hl hc1 hc2 hz
  show H1[a]? = some (vp_cell _ _)
  rw [e1, hn, vp_cell_i, vp_cell_i, arrV_store, e]
  congr 2
  funext q
  by_cases hq : q = z.toNat
  · subst hq
    simp [updV, va_up]
  · simp [updV, va_up, hq]
theorem wq_zast {a N : Nat} {z : Int} {f : Nat → Int32} {v : Int32} (hdg : decode cc pc = .ok (.bastore, 1)) (he : h.1 a = some (eZ E N f)) (hi : 0 ≤ z ∧ z < N) (hn : narrow .boolean (.int v) = .int v) (kk : WP E n y cc ml rt (pc + 1) ls st (wUp h a (eZ E N (va_up f z.toNat v))) bc bs Q) (hN : N ≤ 2147483647 := by decide) : WP E n y cc ml rt pc ls (.int v :: .int (iI z) :: .ref a :: st) h bc bs Q := by
  intro p l e0 R s m args below meth c H locs cells slots lsa Z C hr hs hl hc1 hc2 hz
  have e := iI_nat (a := z) (by omega)
  have ha := (hr.2 a _ he).2
  refine W.zast C.1 C.2.1 ha ((C.2.2.2.2.2.2.2.2.2.1.1.2 4 _ rfl).1 N (fun j => .int (f j))) (fun q => by cases q) (by show ¬ (_ ∨ (arrV _ _ _).slots.size ≤ _); rw [arrV_size]; exact w_in hi hN) rfl rfl hdg fun H1 e1 e2 oq => ?_
  refine kk p l e0 R s m args below meth c H1 _ cells slots lsa Z C (hr.put he e2 oq ?_) (hs.put e2 oq (hr.2 a _ he).1) hl hc1 hc2 hz
  show H1[a]? = some (vp_cell _ _)
  rw [e1, hn, vp_cell_i, vp_cell_i, arrV_store, e]
  congr 2
  funext q
  by_cases hq : q = z.toNat
  · subst hq
    simp [updV, va_up]
  · simp [updV, va_up, hq]
theorem wq_aald {a N b t : Nat} {z : Int} {f : Nat → Option Nat} {ty : FieldType} (hdg : decode cc pc = .ok (.aaload, 1)) (he : h.1 a = some (eQ E t N f)) (ht : (wTys E)[t]? = some (wcA E t, ty)) (hty : ty.isReference = true) (hi : 0 ≤ z ∧ z < N) (hv : f z.toNat = some b) (kk : WP E n y cc ml rt (pc + 1) ls (.ref b :: st) h bc bs Q) (hN : N ≤ 2147483647 := by decide) : WP E n y cc ml rt pc ls (.int (iI z) :: .ref a :: st) h bc bs Q := by
  intro p l e0 R s m args below meth c H locs cells slots lsa Z C hr hs hl hc1 hc2 hz
  have e := iI_nat (a := z) (by omega)
  have ha := (hr.2 a _ he).2
  have hlt : z.toNat < N := by omega
  exact W.aald (v := .ref b) (ty := ty) C.1 C.2.1 ha ((C.2.2.2.2.2.2.2.2.2.1.1.2 t _ ht).1 N (fun j => va_rf (f j))) hty (fun q => by cases q) (by show ¬ (_ ∨ (arrV _ _ _).slots.size ≤ _); rw [arrV_size]; exact w_in hi hN) (by show (arrV _ _ _).slots[_]? = _; rw [e, arrV_read _ _ hlt, hv]; rfl) rfl rfl hdg (kk p l e0 R s m args below meth c H locs cells slots lsa Z C hr hs hl hc1 hc2 hz)
/-- a world of two cells -/
theorem wRep.two {E : wE} {h : hW} {H : Heap} {a b : Nat} {e f : va_E} (hr : wRep E h H) (ha : h.1 a = some e) (hb : h.1 b = some f) : va_P (wD E) vwCl [(a, e), (b, f)] H := by
  intro k q hk
  have h0 : k < 2 := (List.getElem?_eq_some_iff.mp hk).1
  rcases (show k = 0 ∨ k = 1 by omega) with rfl | rfl
  · cases hk
    exact (hr.2 a e ha).2
  · cases hk
    exact (hr.2 b f hb).2
theorem wq_aast {a b t ci N : Nat} {z : Int} {f : Nat → Option Nat} {r : vw_C} {vs : List Value} (hdg : decode cc pc = .ok (.aastore, 1)) (he : h.1 a = some (eQ E t N f)) (ht : (wTys E)[t]? = some (wcA E t, .object r.1)) (hb : h.1 b = some (.inr (ci, vs))) (hc : vwCl[ci]? = some r) (hi : 0 ≤ z ∧ z < N) (kk : WP E n y cc ml rt (pc + 1) ls st (wUp h a (eQ E t N (va_up f z.toNat (some b)))) bc bs Q) (hN : N ≤ 2147483647 := by decide) : WP E n y cc ml rt pc ls (.ref b :: .int (iI z) :: .ref a :: st) h bc bs Q := by
  intro p l e0 R s m args below meth c H locs cells slots lsa Z C hr hs hl hc1 hc2 hz
  have e := iI_nat (a := z) (by omega)
  have hK := C.2.2.2.2.2.2.2.2.2.1.1
  have ha := (hr.2 a _ he).2
  have hlt : z.toNat < N := by omega
  have h0 : ¬ iI z < 0 := fun q => w_in hi hN (Or.inl q)
  obtain ⟨r', hr', cellV, g1, g2, g3, -⟩ := (hr.2 b _ hb).2
  have hcls := (hK.1 ci r hc).2
  obtain ⟨kA, comp, k1, k2, k3, -⟩ := (hK.2 t _ ht).2
  have hcomp : comp = (wD E).1 ci := Option.some.inj (k3.symm.trans hcls.1)
  subst hcomp
  obtain ⟨kC, hkC, -⟩ := hcls.2
  refine W.aast C.1 C.2.1 ha (fun q h => by cases h) (fun h => by cases h) k1 k2 rfl hkC ⟨h0, by show _ < (arrV _ _ _).slots.size; rw [arrV_size, e]; exact hlt⟩ g1 (fun q h => by rw [g3] at h; cases h) (by rw [g2]; exact hkC) (by rw [g2]; exact va_assign hcls) rfl rfl hdg fun H1 e1 e2 oq => ?_
  refine kk p l e0 R s m args below meth c H1 _ cells slots lsa Z C (hr.put he e2 oq ?_) (hs.put e2 oq (hr.2 a _ he).1) hl hc1 hc2 hz
  show H1[a]? = some (vp_cell _ _)
  rw [e1, vp_cell_q, vp_cell_q, arrV_store, e]
  congr 2
  funext q
  by_cases hq : q = z.toNat
  · subst hq
    simp [updV, va_up, va_rf]
  · simp [updV, va_up, hq]
theorem w_assignA {s : State} {c comp : ClassId} {k : Class} {ty : FieldType} (hk : s.vm.classes[c]? = some k) (hkind : k.kind = .array comp ty) : s.vm.assignable c c = true := by
  show s.vm.assignableAux (255 + 1) c c = true
  rw [Vm.assignableAux]
  simp
/-- an int array into an array of int arrays -/
theorem wq_aastI {a b N M : Nat} {z : Int} {f : Nat → Option Nat} {g : Nat → Int32} (hdg : decode cc pc = .ok (.aastore, 1)) (he : h.1 a = some (eQ E 5 N f)) (hb : h.1 b = some (eI E M g)) (hi : 0 ≤ z ∧ z < N) (kk : WP E n y cc ml rt (pc + 1) ls st (wUp h a (eQ E 5 N (va_up f z.toNat (some b)))) bc bs Q) (hN : N ≤ 2147483647 := by decide) : WP E n y cc ml rt pc ls (.ref b :: .int (iI z) :: .ref a :: st) h bc bs Q := by
  intro p l e0 R s m args below meth c H locs cells slots lsa Z C hr hs hl hc1 hc2 hz
  have e := iI_nat (a := z) (by omega)
  have hK := C.2.2.2.2.2.2.2.2.2.1.1
  obtain ⟨-, kA, k1, k2⟩ := C.2.2.2.2.2.2.2.2.2.1.2.2.2.2.2.2.2.2.2.2
  have ha := (hr.2 a _ he).2
  have hbb := (hr.2 b _ hb).2
  have hlt : z.toNat < N := by omega
  have h0 : ¬ iI z < 0 := fun q => w_in hi hN (Or.inl q)
  obtain ⟨-, kC, hkC, cm, hkC2⟩ := (hK.2 0 _ rfl).1 M (fun j => .int (g j))
  refine W.aast C.1 C.2.1 ha (fun q h => by cases h) (fun h => by cases h) k1 k2 rfl hkC ⟨h0, by show _ < (arrV _ _ _).slots.size; rw [arrV_size, e]; exact hlt⟩ hbb (fun q h => by cases h) hkC (w_assignA hkC hkC2) rfl rfl hdg fun H1 e1 e2 oq => ?_
  refine kk p l e0 R s m args below meth c H1 _ cells slots lsa Z C (hr.put he e2 oq ?_) (hs.put e2 oq (hr.2 a _ he).1) hl hc1 hc2 hz
  show H1[a]? = some (vp_cell _ _)
  rw [e1, vp_cell_q, vp_cell_q, arrV_store, e]
  congr 2
  funext q
  by_cases hq : q = z.toNat
  · subst hq
    simp [updV, va_up, va_rf]
  · simp [updV, va_up, hq]
/-! ===== new ===== -/
theorem va_S.push {A : Nat → Prop} {H0 H H1 : Heap} {locs : List Loc} (hS : va_S A H0 H locs) (z : H1.size = H.size + 1) (oq : ∀ q : Nat, q < H.size → H1[q]? = H[q]?) : va_S A H0 H1 locs :=
  ⟨Nat.le_trans hS.1 (by omega), fun x h1 h2 => (oq x (Nat.lt_of_lt_of_le h1 hS.1)).trans (hS.2.1 x h1 h2), hS.2.2⟩
def wNew (own : String) (idx ci N : Nat) (fs : List Value) : Prop := ∃ (C : String) (T : u_T) (tys : Nat → FieldType), vwCl[ci]? = some (C, T, N) ∧ Cond.classLink own idx C ∈ wAll ∧ Cond.instantiable C N ∈ wAll ∧ Cond.initialized C ∈ wAll ∧ (∀ w ∈ u_ws C T N, w ∈ wAll) ∧ (∀ k, k < N → parseFieldDescriptor (T k).2.2.1 = some (tys k)) ∧ ∀ j, j < N → defaultValue (tys j) = vp_V fs j
theorem wq_new {idx ci N : Nat} {fs : List Value} (hdg : decode cc pc = .ok (.new idx, 3)) (hw : wNew y.cls idx ci N fs) (hb : wb E ≤ h.2) (kk : WP E n y cc ml rt (pc + 3) ls (.ref h.2 :: st) (wPush h (.inr (ci, fs))) bc bs Q) : WP E n y cc ml rt pc ls st h (bc + 1) (bs + N) Q := by
  intro p l e0 R s m args below meth c H locs cells slots lsa Z C hr hs hl hc1 hc2 hz
  obtain ⟨Cn, T, tys, hc, h1, h2, h3, h4, h5, h6⟩ := hw
  have hts := C.2.2.2.2.2.1
  have hK := C.2.2.2.2.2.2.2.2.2.1.1
  have hKn := hK.1 ci _ hc
  refine W.newcK C.1 C.2.1 C.2.2.2.2.1 (hts _ h1) (hts _ h2) (hts _ h3) rfl hdg (by omega) (by omega) hKn.2.1 hr.1 fun H1 kC hkC e1 z1 o1 => ?_
  have o1 : ∀ q : Nat, q < H.size → H1[q]? = H[q]? := fun q hq => o1 q (by rw [← hr.1]; exact hq)
  have z1 : H1.size = H.size + 1 := by rw [z1, hr.1]
  have e1 : H1[H.size]? = some (blank ((wD E).1 ci) kC) := by rw [hr.1]; exact e1
  exact kk p l e0 R s m args below meth c H1 locs (cells + 1) (slots + N) lsa Z C (hr.push hb z1 o1 ⟨_, hc, (u_born tys hts h4 hKn hkC e1 h5).to h6⟩) (hs.push z1 o1) hl (by omega) (by omega) (fun v h3 q => by
    have h9 := hz v h3 q
    rw [show cells + (bc + 1) = cells + 1 + bc by omega, show slots + (bs + N) = slots + N + bs by omega] at h9
    exact h9)
theorem wq_newI {z : Int} (N : Nat) (hdg : decode cc pc = .ok (.newarray .int, 2)) (hw : Cond.arrayClass .int ∈ wAll) (hb : wb E ≤ h.2) (hz0 : z = (N : Int)) (kk : WP E n y cc ml rt (pc + 2) ls (.ref h.2 :: st) (wPush h (eI E N (fun _ => 0))) bc bs Q) (hN : N ≤ 60000000 := by decide) : WP E n y cc ml rt pc ls (.int (iI z) :: st) h (bc + 1) (bs + N) Q := by
  intro p l e0 R s m args below meth c H locs cells slots lsa Z C hr hs hl hc1 hc2 hz
  have hts := C.2.2.2.2.2.1
  have hK := C.2.2.2.2.2.2.2.2.2.1.1
  have hR : wR z := by omega
  have hlt0 : ¬ iI z < 0 := by rw [iI_0, iI_lt hR (by decide)]; omega
  have hcn : (iI z).toNatClampNeg = N := by rw [iI_nat hR]; omega
  refine va_newaK C.1 C.2.1 (atype := .int) (hts _ hw) rfl hdg rfl hlt0 hcn (by show N * _ ≤ _; simp [componentBytes, newarray.typeOf]; omega) (by omega) (by omega) hr.1 fun H1 cA e1 z1 o1 hAr hNm => ?_
  have hcA : cA = wcA E 0 := Option.some.inj (hNm.symm.trans (hK.2 0 _ rfl).2)
  subst hcA
  have o1 : ∀ q : Nat, q < H.size → H1[q]? = H[q]? := fun q hq => o1 q (by rw [← hr.1]; exact hq)
  have z1 : H1.size = H.size + 1 := by rw [z1, hr.1]
  refine kk p l e0 R s m args below meth c H1 locs (cells + 1) (slots + N) lsa Z C (hr.push hb z1 o1 ?_) (hs.push z1 o1) hl (by omega) (by omega) (fun v h3 q => by
    have h9 := hz v h3 q
    rw [show cells + (bc + 1) = cells + 1 + bc by omega, show slots + (bs + N) = slots + N + bs by omega] at h9
    exact h9)
  show H1[H.size]? = some (vp_cell _ _)
  rw [hr.1, e1, vp_cell_i]
  rfl
theorem wq_newL {z : Int} (N : Nat) (hdg : decode cc pc = .ok (.newarray .long, 2)) (hw : Cond.arrayClass .long ∈ wAll) (hb : wb E ≤ h.2) (hz0 : z = (N : Int)) (kk : WP E n y cc ml rt (pc + 2) ls (.ref h.2 :: st) (wPush h (eL E N (fun _ => 0))) bc bs Q) (hN : N ≤ 60000000 := by decide) : WP E n y cc ml rt pc ls (.int (iI z) :: st) h (bc + 1) (bs + N) Q := by
  intro p l e0 R s m args below meth c H locs cells slots lsa Z C hr hs hl hc1 hc2 hz
  have hts := C.2.2.2.2.2.1
  have hK := C.2.2.2.2.2.2.2.2.2.1.1
  have hR : wR z := by omega
  have hlt0 : ¬ iI z < 0 := by rw [iI_0, iI_lt hR (by decide)]; omega
  have hcn : (iI z).toNatClampNeg = N := by rw [iI_nat hR]; omega
  refine va_newaK C.1 C.2.1 (atype := .long) (hts _ hw) rfl hdg rfl hlt0 hcn (by show N * _ ≤ _; simp [componentBytes, newarray.typeOf]; omega) (by omega) (by omega) hr.1 fun H1 cA e1 z1 o1 hAr hNm => ?_
  have hcA : cA = wcA E 1 := Option.some.inj (hNm.symm.trans (hK.2 1 _ rfl).2)
  subst hcA
  have o1 : ∀ q : Nat, q < H.size → H1[q]? = H[q]? := fun q hq => o1 q (by rw [← hr.1]; exact hq)
  have z1 : H1.size = H.size + 1 := by rw [z1, hr.1]
  refine kk p l e0 R s m args below meth c H1 locs (cells + 1) (slots + N) lsa Z C (hr.push hb z1 o1 ?_) (hs.push z1 o1) hl (by omega) (by omega) (fun v h3 q => by
    have h9 := hz v h3 q
    rw [show cells + (bc + 1) = cells + 1 + bc by omega, show slots + (bs + N) = slots + N + bs by omega] at h9
    exact h9)
  show H1[H.size]? = some (vp_cell _ _)
  rw [hr.1, e1, vp_cell_l]
  rfl
theorem wq_newD {z : Int} (N : Nat) (hdg : decode cc pc = .ok (.newarray .double, 2)) (hw : Cond.arrayClass .double ∈ wAll) (hb : wb E ≤ h.2) (hz0 : z = (N : Int)) (kk : WP E n y cc ml rt (pc + 2) ls (.ref h.2 :: st) (wPush h (eD E N (fun _ => 0))) bc bs Q) (hN : N ≤ 60000000 := by decide) : WP E n y cc ml rt pc ls (.int (iI z) :: st) h (bc + 1) (bs + N) Q := by
  intro p l e0 R s m args below meth c H locs cells slots lsa Z C hr hs hl hc1 hc2 hz
  have hts := C.2.2.2.2.2.1
  have hK := C.2.2.2.2.2.2.2.2.2.1.1
  have hR : wR z := by omega
  have hlt0 : ¬ iI z < 0 := by rw [iI_0, iI_lt hR (by decide)]; omega
  have hcn : (iI z).toNatClampNeg = N := by rw [iI_nat hR]; omega
  refine va_newaK C.1 C.2.1 (atype := .double) (hts _ hw) rfl hdg rfl hlt0 hcn (by show N * _ ≤ _; simp [componentBytes, newarray.typeOf]; omega) (by omega) (by omega) hr.1 fun H1 cA e1 z1 o1 hAr hNm => ?_
  have hcA : cA = wcA E 2 := Option.some.inj (hNm.symm.trans (hK.2 2 _ rfl).2)
  subst hcA
  have o1 : ∀ q : Nat, q < H.size → H1[q]? = H[q]? := fun q hq => o1 q (by rw [← hr.1]; exact hq)
  have z1 : H1.size = H.size + 1 := by rw [z1, hr.1]
  refine kk p l e0 R s m args below meth c H1 locs (cells + 1) (slots + N) lsa Z C (hr.push hb z1 o1 ?_) (hs.push z1 o1) hl (by omega) (by omega) (fun v h3 q => by
    have h9 := hz v h3 q
    rw [show cells + (bc + 1) = cells + 1 + bc by omega, show slots + (bs + N) = slots + N + bs by omega] at h9
    exact h9)
  show H1[H.size]? = some (vp_cell _ _)
  rw [hr.1, e1, vp_cell_d]
  rfl
theorem wq_newC {z : Int} (N : Nat) (hdg : decode cc pc = .ok (.newarray .char, 2)) (hw : Cond.arrayClass .char ∈ wAll) (hb : wb E ≤ h.2) (hz0 : z = (N : Int)) (kk : WP E n y cc ml rt (pc + 2) ls (.ref h.2 :: st) (wPush h (eC E N (fun _ => 0))) bc bs Q) (hN : N ≤ 60000000 := by decide) : WP E n y cc ml rt pc ls (.int (iI z) :: st) h (bc + 1) (bs + N) Q := by
  intro p l e0 R s m args below meth c H locs cells slots lsa Z C hr hs hl hc1 hc2 hz
  have hts := C.2.2.2.2.2.1
  have hK := C.2.2.2.2.2.2.2.2.2.1.1
  have hR : wR z := by omega
  have hlt0 : ¬ iI z < 0 := by rw [iI_0, iI_lt hR (by decide)]; omega
  have hcn : (iI z).toNatClampNeg = N := by rw [iI_nat hR]; omega
  refine va_newaK C.1 C.2.1 (atype := .char) (hts _ hw) rfl hdg rfl hlt0 hcn (by show N * _ ≤ _; simp [componentBytes, newarray.typeOf]; omega) (by omega) (by omega) hr.1 fun H1 cA e1 z1 o1 hAr hNm => ?_
  have hcA : cA = wcA E 3 := Option.some.inj (hNm.symm.trans (hK.2 3 _ rfl).2)
  subst hcA
  have o1 : ∀ q : Nat, q < H.size → H1[q]? = H[q]? := fun q hq => o1 q (by rw [← hr.1]; exact hq)
  have z1 : H1.size = H.size + 1 := by rw [z1, hr.1]
  refine kk p l e0 R s m args below meth c H1 locs (cells + 1) (slots + N) lsa Z C (hr.push hb z1 o1 ?_) (hs.push z1 o1) hl (by omega) (by omega) (fun v h3 q => by
    have h9 := hz v h3 q
    rw [show cells + (bc + 1) = cells + 1 + bc by omega, show slots + (bs + N) = slots + N + bs by omega] at h9
    exact h9)
  show H1[H.size]? = some (vp_cell _ _)
  rw [hr.1, e1, vp_cell_i]
  rfl
theorem wq_newZ {z : Int} (N : Nat) (hdg : decode cc pc = .ok (.newarray .boolean, 2)) (hw : Cond.arrayClass .boolean ∈ wAll) (hb : wb E ≤ h.2) (hz0 : z = (N : Int)) (kk : WP E n y cc ml rt (pc + 2) ls (.ref h.2 :: st) (wPush h (eZ E N (fun _ => 0))) bc bs Q) (hN : N ≤ 60000000 := by decide) : WP E n y cc ml rt pc ls (.int (iI z) :: st) h (bc + 1) (bs + N) Q := by
  intro p l e0 R s m args below meth c H locs cells slots lsa Z C hr hs hl hc1 hc2 hz
  have hts := C.2.2.2.2.2.1
  have hK := C.2.2.2.2.2.2.2.2.2.1.1
  have hR : wR z := by omega
  have hlt0 : ¬ iI z < 0 := by rw [iI_0, iI_lt hR (by decide)]; omega
  have hcn : (iI z).toNatClampNeg = N := by rw [iI_nat hR]; omega
  refine va_newaK C.1 C.2.1 (atype := .boolean) (hts _ hw) rfl hdg rfl hlt0 hcn (by show N * _ ≤ _; simp [componentBytes, newarray.typeOf]; omega) (by omega) (by omega) hr.1 fun H1 cA e1 z1 o1 hAr hNm => ?_
  have hcA : cA = wcA E 4 := Option.some.inj (hNm.symm.trans (hK.2 4 _ rfl).2)
  subst hcA
  have o1 : ∀ q : Nat, q < H.size → H1[q]? = H[q]? := fun q hq => o1 q (by rw [← hr.1]; exact hq)
  have z1 : H1.size = H.size + 1 := by rw [z1, hr.1]
  refine kk p l e0 R s m args below meth c H1 locs (cells + 1) (slots + N) lsa Z C (hr.push hb z1 o1 ?_) (hs.push z1 o1) hl (by omega) (by omega) (fun v h3 q => by
    have h9 := hz v h3 q
    rw [show cells + (bc + 1) = cells + 1 + bc by omega, show slots + (bs + N) = slots + N + bs by omega] at h9
    exact h9)
  show H1[H.size]? = some (vp_cell _ _)
  rw [hr.1, e1, vp_cell_i]
  rfl
theorem wq_newQ {idx t : Nat} {z : Int} {Cn : String} (N : Nat) (hdg : decode cc pc = .ok (.anewarray idx, 3)) (hw : Cond.classLink y.cls idx Cn ∈ wAll) (ht : (wTys E)[t]? = some (wcA E t, .object Cn)) (hAO : ∀ s : State, wK E s → va_AO Cn s) (hb : wb E ≤ h.2) (hz0 : z = (N : Int)) (kk : WP E n y cc ml rt (pc + 3) ls (.ref h.2 :: st) (wPush h (eQ E t N (fun _ => none))) bc bs Q) (hN : N ≤ 60000000 := by decide) : WP E n y cc ml rt pc ls (.int (iI z) :: st) h (bc + 1) (bs + N) Q := by
  intro p l e0 R s m args below meth c H locs cells slots lsa Z C hr hs hl hc1 hc2 hz
  have hts := C.2.2.2.2.2.1
  have hK := C.2.2.2.2.2.2.2.2.2.1.1
  have hR : wR z := by omega
  have hlt0 : ¬ iI z < 0 := by rw [iI_0, iI_lt hR (by decide)]; omega
  have hcn : (iI z).toNatClampNeg = N := by rw [iI_nat hR]; omega
  refine W.anew C.1 C.2.1 C.2.2.2.2.1 (hts _ hw) (va_AO.use (hAO s C.2.2.2.2.2.2.2.2.2.1)) rfl hdg rfl hlt0 (by rw [hcn]; omega) (by omega) (by rw [hcn]; omega) fun cA kA comp f1 f2 f3 f4 => ?_
  rw [hcn]
  obtain ⟨kA', comp', -, -, -, k4⟩ := (hK.2 t _ ht).2
  have hcA : cA = wcA E t := Option.some.inj (f1.symm.trans k4)
  subst hcA
  generalize hH1 : H.push ({ cls := wcA E t, slots := Array.replicate N .null, vm := .none } : Cell) = H1
  have z1 : H1.size = H.size + 1 := by rw [← hH1, Array.size_push]
  have e1 : H1[H.size]? = some (arrV (wcA E t) N (fun _ => .null)) := by rw [← hH1, Array.getElem?_push_size, ← arrV_new]
  have o1 : ∀ q : Nat, q < H.size → H1[q]? = H[q]? := fun q hq => by rw [← hH1, Array.getElem?_push, if_neg (Nat.ne_of_lt hq)]
  have k9 := kk p l e0 R s m args below meth c H1 locs (cells + 1) (slots + N) lsa Z C (hr.push hb z1 o1 (show H1[H.size]? = some (vp_cell _ _) by rw [e1, vp_cell_q]; rfl)) (hs.push z1 o1) hl (by omega) (by omega) (fun v h3 q => by
    have h9 := hz v h3 q
    rw [show cells + (bc + 1) = cells + 1 + bc by omega, show slots + (bs + N) = slots + N + bs by omega] at h9
    exact h9)
  rw [← hr.1] at k9
  exact k9
/-- the constructor of Object -/
theorem wq_obj {idx a : Nat} (hdg : decode cc pc = .ok (.invokespecial idx, 3)) (hw : Cond.methodLink y.cls idx objectInit ∈ wAll) (hi : Cond.instanceMethod objectInit ∈ wAll) (hcd : Cond.code objectInit ⟨#[0xb1]⟩ 1 none ∈ wAll) (hst : (st.map fun v => v.category).sum ≤ 8) (kk : WP E (n + 1) y cc ml rt (pc + 3) ls st h bc bs Q) : WP E (n + 1) y cc ml rt pc ls (.ref a :: st) h bc bs Q := by
  intro p l e0 R s m args below meth c H locs cells slots lsa Z C hr hs hl hc1 hc2 hz
  have hts := C.2.2.2.2.2.1
  refine W.objInit C.1 C.2.1 C.2.2.2.2.1 (hts _ hw) (hts _ hi) (hts _ hcd) rfl (by rw [C.2.2.1]; exact hl.1) rfl hdg (by have := C.2.2.2.2.2.2.2.1; omega) (by have := C.2.2.2.2.2.2.2.2.1; show 2 * 0 + _ + 12 ≤ _; omega) ?_
  exact kk p l e0 R s m args below meth c H locs cells slots lsa Z C hr hs hl hc1 hc2 hz
theorem wq_copyI {idx a0 a n0 n1 : Nat} {sp dp k : Int} {f g : Nat → Int32} (hdg : decode cc pc = .ok (.invokestatic idx, 3)) (hw : Cond.methodLink y.cls idx arraycopyName ∈ wAll) (hnat : Cond.native arraycopyName ∈ wAll) (hsta : Cond.static arraycopyName ∈ wAll) (hini : Cond.initialized "java/lang/System" ∈ wAll) (he0 : h.1 a0 = some (eI E n0 f)) (he : h.1 a = some (eI E n1 g)) (hrg : 0 ≤ sp ∧ 0 ≤ dp ∧ 0 ≤ k ∧ sp + k ≤ n0 ∧ dp + k ≤ n1 ∧ (n0 : Int) ≤ 2147483647 ∧ (n1 : Int) ≤ 2147483647) (hst : (st.map fun v => v.category).sum ≤ 8) (kk : WP E (n + 1) y cc ml rt (pc + 3) ls st (wUp h a (eI E n1 (va_cpy f g sp.toNat dp.toNat k.toNat))) bc bs Q) : WP E (n + 1) y cc ml rt pc ls (.int (iI k) :: .int (iI dp) :: .ref a :: .int (iI sp) :: .ref a0 :: st) h bc bs Q := by
  intro p l e0 R s m args below meth c H locs cells slots lsa Z C hr hs hl hc1 hc2 hz
  have hts := C.2.2.2.2.2.1
  have hK := C.2.2.2.2.2.2.2.2.2.1.1
  have hsp : wR sp := by omega
  have hdp : wR dp := by omega
  have hk : wR k := by omega
  have hnn : ∀ z : Int, wR z → 0 ≤ z → ¬ iI z < 0 := fun z hz h0 => by rw [iI_0, iI_lt hz (by decide)]; omega
  intro T hT X
  have hc0 : H[a0]? = some (vp_cell (wcA E 0) (n0, .inl f)) := (hr.2 a0 _ he0).2
  have hc1' : H[a]? = some (vp_cell (wcA E 0) (n1, .inl g)) := (hr.2 a _ he).2
  obtain ⟨-, k0, hk0, cm0, hkk0⟩ := (hK.2 0 _ rfl).1 n0 (fun j => .int (f j))
  obtain ⟨-, k1, hk1, cm1, hkk1⟩ := (hK.2 0 _ rfl).1 n1 (fun j => .int (g j))
  have esp := iI_nat hsp
  have edp := iI_nat hdp
  have ek := iI_nat hk
  have hroom : 2 * (F0 m pc lsa (.int (iI k) :: .int (iI dp) :: .ref a :: .int (iI sp) :: .ref a0 :: st)).monitorRoom + (st.map fun v => v.category).sum + (nativeFrameWords "java/lang/System" "arraycopy" 5 + 11) ≤ R.locals := by
    have h9 := C.2.2.2.2.2.2.2.2.1
    have e9 : nativeFrameWords "java/lang/System" "arraycopy" 5 + 11 ≤ 30 := by decide
    show 2 * 0 + _ + _ ≤ _
    omega
  obtain ⟨vm', X', step⟩ := X.arraycopy C.1 C.2.2.2.2.1 (hts _ hw) (hts _ hnat) (hts _ hsta) (hts _ hini) (src := a0) (dst := a) (cs := vp_cell (wcA E 0) (n0, .inl f)) (cd := vp_cell (wcA E 0) (n1, .inl g)) (srcPos := iI sp) (destPos := iI dp) (n := iI k) (by rw [hT]; exact hc0) (by rw [hT]; exact hc1')
    (fun _ h => by cases h) (fun _ h => by cases h) (fun h => by cases h) (fun h => by cases h) hk0 hk1 hkk0 hkk1 (by simp [refKind]) (hnn sp hsp hrg.1) (hnn dp hdp hrg.2.1) (hnn k hk hrg.2.2.1)
    (by rw [iI_toInt hsp, iI_toInt hk]; show ¬ _ > ((arrV (wcA E 0) n0 (fun j => .int (f j))).slots.size : Int); rw [arrV_size]; omega)
    (by rw [iI_toInt hdp, iI_toInt hk]; show ¬ _ > ((arrV (wcA E 0) n1 (fun j => .int (g j))).slots.size : Int); rw [arrV_size]; omega)
    (fun vm₁ _ i hi => by
      rw [ek] at hi
      have ev : (vp_cell (wcA E 0) (n0, .inl f)).slots.getD ((iI sp).toNatClampNeg + i) .null = .int (f ((iI sp).toNatClampNeg + i)) := by
        show (arrV (wcA E 0) n0 (fun j => .int (f j))).slots.getD _ _ = _
        rw [Array.getD_eq_getD_getElem?, arrV_read _ _ (by rw [esp]; omega)]
        rfl
      refine ⟨?_, ?_⟩
      · rw [ev]
        rfl
      · rw [ev]
        exact trivial)
    (g := F0 m pc lsa (.int (iI k) :: .int (iI dp) :: .ref a :: .int (iI sp) :: .ref a0 :: st)) rfl (by rw [C.2.2.1]; exact hl.1) (rest := st) rfl (by rw [C.2.1]; exact hdg) (by have := C.2.2.2.2.2.2.2.1; omega) hroom
  have e1 : copied (vp_cell (wcA E 0) (n0, .inl f)) (vp_cell (wcA E 0) (n1, .inl g)) (iI sp) (iI dp) (iI k) = vp_cell (wcA E 0) (n1, .inl (va_cpy f g (iI sp).toNatClampNeg (iI dp).toNatClampNeg (iI k).toNatClampNeg)) := va_copied (fun z => .int z) (wcA E 0) (wcA E 0) f g (by rw [esp, ek]; omega)
  rw [e1, esp, edp, ek] at X' step
  have hlt : a < H.size := (Array.getElem?_eq_some_iff.mp hc1').1
  have oq : ∀ (cell : Cell) (q : Nat), q ≠ a → (H.setIfInBounds a cell)[q]? = H[q]? := fun cell q hq => by simp [Array.getElem?_setIfInBounds, Ne.symm hq]
  have hS' : ∀ L : List Loc, (∀ q ∈ L, wA E q.base) → va_S (wA E) s.heap (H.setIfInBounds a (vp_cell (wcA E 0) (n1, .inl (va_cpy f g sp.toNat dp.toNat k.toNat)))) (locs ++ L) := fun L hL => ⟨by simp; exact hs.1, fun q g1 g2 => by
      rw [oq _ q (fun e => g2 (by rw [e]; exact (hr.2 a _ he).1))]
      exact hs.2.1 q g1 g2, fun q hq => (List.mem_append.mp hq).elim (hs.2.2 q) (hL q)⟩
  obtain ⟨t, a1, b1⟩ := kk p l e0 R s m args below meth c _ _ cells slots lsa Z C (hr.put he (H1 := H.setIfInBounds a (vp_cell (wcA E 0) (n1, .inl (va_cpy f g sp.toNat dp.toNat k.toNat)))) (by simp) (oq _) (show (H.setIfInBounds a _)[a]? = some _ by simp [Array.getElem?_setIfInBounds, hlt])) (hS' _ (fun q hq => by
    obtain ⟨z, -, hz⟩ := List.mem_map.mp hq
    rw [← hz]
    exact (hr.2 a _ he).1)) hl hc1 hc2 hz _ (by rw [← hT]; rfl) X'
  exact ⟨t, step t a1, b1⟩
theorem wq_copyL {idx a0 a n0 n1 : Nat} {sp dp k : Int} {f g : Nat → Int64} (hdg : decode cc pc = .ok (.invokestatic idx, 3)) (hw : Cond.methodLink y.cls idx arraycopyName ∈ wAll) (hnat : Cond.native arraycopyName ∈ wAll) (hsta : Cond.static arraycopyName ∈ wAll) (hini : Cond.initialized "java/lang/System" ∈ wAll) (he0 : h.1 a0 = some (eL E n0 f)) (he : h.1 a = some (eL E n1 g)) (hrg : 0 ≤ sp ∧ 0 ≤ dp ∧ 0 ≤ k ∧ sp + k ≤ n0 ∧ dp + k ≤ n1 ∧ (n0 : Int) ≤ 2147483647 ∧ (n1 : Int) ≤ 2147483647) (hst : (st.map fun v => v.category).sum ≤ 8) (kk : WP E (n + 1) y cc ml rt (pc + 3) ls st (wUp h a (eL E n1 (va_cpy f g sp.toNat dp.toNat k.toNat))) bc bs Q) : WP E (n + 1) y cc ml rt pc ls (.int (iI k) :: .int (iI dp) :: .ref a :: .int (iI sp) :: .ref a0 :: st) h bc bs Q := by
  intro p l e0 R s m args below meth c H locs cells slots lsa Z C hr hs hl hc1 hc2 hz
  have hts := C.2.2.2.2.2.1
  have hK := C.2.2.2.2.2.2.2.2.2.1.1
  have hsp : wR sp := by omega
  have hdp : wR dp := by omega
  have hk : wR k := by omega
  have hnn : ∀ z : Int, wR z → 0 ≤ z → ¬ iI z < 0 := fun z hz h0 => by rw [iI_0, iI_lt hz (by decide)]; omega
  intro T hT X
  have hc0 : H[a0]? = some (vp_cell (wcA E 1) (n0, .inr (.inl f))) := (hr.2 a0 _ he0).2
  have hc1' : H[a]? = some (vp_cell (wcA E 1) (n1, .inr (.inl g))) := (hr.2 a _ he).2
  obtain ⟨-, k0, hk0, cm0, hkk0⟩ := (hK.2 1 _ rfl).1 n0 (fun j => .long (f j))
  obtain ⟨-, k1, hk1, cm1, hkk1⟩ := (hK.2 1 _ rfl).1 n1 (fun j => .long (g j))
  have esp := iI_nat hsp
  have edp := iI_nat hdp
  have ek := iI_nat hk
  have hroom : 2 * (F0 m pc lsa (.int (iI k) :: .int (iI dp) :: .ref a :: .int (iI sp) :: .ref a0 :: st)).monitorRoom + (st.map fun v => v.category).sum + (nativeFrameWords "java/lang/System" "arraycopy" 5 + 11) ≤ R.locals := by
    have h9 := C.2.2.2.2.2.2.2.2.1
    have e9 : nativeFrameWords "java/lang/System" "arraycopy" 5 + 11 ≤ 30 := by decide
    show 2 * 0 + _ + _ ≤ _
    omega
  obtain ⟨vm', X', step⟩ := X.arraycopy C.1 C.2.2.2.2.1 (hts _ hw) (hts _ hnat) (hts _ hsta) (hts _ hini) (src := a0) (dst := a) (cs := vp_cell (wcA E 1) (n0, .inr (.inl f))) (cd := vp_cell (wcA E 1) (n1, .inr (.inl g))) (srcPos := iI sp) (destPos := iI dp) (n := iI k) (by rw [hT]; exact hc0) (by rw [hT]; exact hc1')
    (fun _ h => by cases h) (fun _ h => by cases h) (fun h => by cases h) (fun h => by cases h) hk0 hk1 hkk0 hkk1 (by simp [refKind]) (hnn sp hsp hrg.1) (hnn dp hdp hrg.2.1) (hnn k hk hrg.2.2.1)
    (by rw [iI_toInt hsp, iI_toInt hk]; show ¬ _ > ((arrV (wcA E 1) n0 (fun j => .long (f j))).slots.size : Int); rw [arrV_size]; omega)
    (by rw [iI_toInt hdp, iI_toInt hk]; show ¬ _ > ((arrV (wcA E 1) n1 (fun j => .long (g j))).slots.size : Int); rw [arrV_size]; omega)
    (fun vm₁ _ i hi => by
      rw [ek] at hi
      have ev : (vp_cell (wcA E 1) (n0, .inr (.inl f))).slots.getD ((iI sp).toNatClampNeg + i) .null = .long (f ((iI sp).toNatClampNeg + i)) := by
        show (arrV (wcA E 1) n0 (fun j => .long (f j))).slots.getD _ _ = _
        rw [Array.getD_eq_getD_getElem?, arrV_read _ _ (by rw [esp]; omega)]
        rfl
      refine ⟨?_, ?_⟩
      · rw [ev]
        rfl
      · rw [ev]
        exact trivial)
    (g := F0 m pc lsa (.int (iI k) :: .int (iI dp) :: .ref a :: .int (iI sp) :: .ref a0 :: st)) rfl (by rw [C.2.2.1]; exact hl.1) (rest := st) rfl (by rw [C.2.1]; exact hdg) (by have := C.2.2.2.2.2.2.2.1; omega) hroom
  have e1 : copied (vp_cell (wcA E 1) (n0, .inr (.inl f))) (vp_cell (wcA E 1) (n1, .inr (.inl g))) (iI sp) (iI dp) (iI k) = vp_cell (wcA E 1) (n1, .inr (.inl (va_cpy f g (iI sp).toNatClampNeg (iI dp).toNatClampNeg (iI k).toNatClampNeg))) := va_copied (fun z => .long z) (wcA E 1) (wcA E 1) f g (by rw [esp, ek]; omega)
  rw [e1, esp, edp, ek] at X' step
  have hlt : a < H.size := (Array.getElem?_eq_some_iff.mp hc1').1
  have oq : ∀ (cell : Cell) (q : Nat), q ≠ a → (H.setIfInBounds a cell)[q]? = H[q]? := fun cell q hq => by simp [Array.getElem?_setIfInBounds, Ne.symm hq]
  have hS' : ∀ L : List Loc, (∀ q ∈ L, wA E q.base) → va_S (wA E) s.heap (H.setIfInBounds a (vp_cell (wcA E 1) (n1, .inr (.inl (va_cpy f g sp.toNat dp.toNat k.toNat))))) (locs ++ L) := fun L hL => ⟨by simp; exact hs.1, fun q g1 g2 => by
      rw [oq _ q (fun e => g2 (by rw [e]; exact (hr.2 a _ he).1))]
      exact hs.2.1 q g1 g2, fun q hq => (List.mem_append.mp hq).elim (hs.2.2 q) (hL q)⟩
  obtain ⟨t, a1, b1⟩ := kk p l e0 R s m args below meth c _ _ cells slots lsa Z C (hr.put he (H1 := H.setIfInBounds a (vp_cell (wcA E 1) (n1, .inr (.inl (va_cpy f g sp.toNat dp.toNat k.toNat))))) (by simp) (oq _) (show (H.setIfInBounds a _)[a]? = some _ by simp [Array.getElem?_setIfInBounds, hlt])) (hS' _ (fun q hq => by
    obtain ⟨z, -, hz⟩ := List.mem_map.mp hq
    rw [← hz]
    exact (hr.2 a _ he).1)) hl hc1 hc2 hz _ (by rw [← hT]; rfl) X'
  exact ⟨t, step t a1, b1⟩
end WQA
end
section
/-! ===== calls ===== -/
/-- what every call's link says: the constant idx of class own names y, whose code is cc -/
def wLB (y : MethodName) (cc : ByteArray) (ml : Nat) (rt : Option FieldType) (na : Nat) : Prop := Cond.initialized y.cls ∈ wAll ∧ Cond.code y cc ml rt ∈ wAll ∧ y.cls ≠ "java/lang/invoke/MethodHandle" ∧ y.cls ≠ "java/lang/invoke/VarHandle" ∧ (parseMethodDescriptor y.desc).map (fun d => d.parameters.length) = some na ∧ ml ≤ 19 ∧ plainName y.cls = true
def wLV (y : MethodName) : Prop := Cond.instanceMethod y ∈ wAll ∧ Cond.selects y.cls y y ∈ wAll
def wLS (y : MethodName) : Prop := Cond.static y ∈ wAll
def wLI (y : MethodName) : Prop := y.name = "<init>" ∧ Cond.instanceMethod y ∈ wAll
def wLk (own : String) (idx : Nat) (y : MethodName) : Prop := Cond.methodLink own idx y ∈ wAll
def wLN (own : String) (idx : Nat) (y : MethodName) : Prop := ∃ host : String, (own, idx, y, host) ∈ wNM
theorem wWs_good {y' : MethodName} {cc' : ByteArray} {ml' : Nat} {rt' : Option FieldType} (h : Cond.code y' cc' ml' rt' ∈ wAll) : GoodIn wAll (wWs y' cc' ml' rt') := by
  intro w hw
  rcases List.mem_cons.mp hw with rfl | hw
  · exact wAll_good _ h
  · exact wAll_good _ hw
section WQC
variable {E : wE} {n : Nat} {y : MethodName} {cc : ByteArray} {ml : Nat} {rt : Option FieldType} {pc : Nat} {ls : wLoc} {st : List Value} {h : hW} {bc bs : Nat} {Q : Option Value → hW → Prop}
section WFIN
variable {p : Program} {l : Launch} {e0 : Env} {R : Room} {s : State} {m : MethodId} {args : Array Value} {below : List Frame} {meth : Method} {c : Code} {H : Heap} {locs : List Loc} {cells slots mc ms : Nat} {lsa : Array Slot} {Z : State → Prop} {rest : List Value} {a : Array Value} {Q1 : Option Value → hW → Prop}
theorem w_fin (hrun : va_Run p l e0 R s m args below meth c H locs cells slots mc ms (F0 m pc lsa st) rest (wQc E Q1 a) (wA E)) (hS : va_S (wA E) s.heap H locs)
    (kk : ∀ (v : Option Value) (h1 : hW) (H1 : Heap) (locs1 : List Loc), Q1 v h1 → wRep E h1 H1 → va_S (wA E) s.heap H1 locs1 → W p l e0 R s m args below meth c H1 locs1 (cells + mc) (slots + ms) Z (F0 m (pc + 3) lsa (v.toList ++ rest))) : W p l e0 R s m args below meth c H locs cells slots Z (F0 m pc lsa st) := by
  intro T hT X
  obtain ⟨v, st₀, t, T', L, h0, X', hL, e1, e2, ⟨⟨v', h1, hv, hq, hrep⟩, hz, hk⟩, st'⟩ := hrun T hT X
  cases hv
  rw [h0] at hz hk
  obtain ⟨t2, a1, b1⟩ := kk v h1 T'.heap (locs ++ L) hq (by rw [e1]; exact hrep) ⟨Nat.le_trans hS.1 (by rw [e1]; exact hz), fun q g1 g2 => by rw [e1, hk q (Nat.lt_of_lt_of_le g1 hS.1) g2]; exact hS.2.1 q g1 g2, fun q hq => (List.mem_append.mp hq).elim (hS.2.2 q) (hL q)⟩ T' rfl X'
  exact ⟨t2, st' t2 a1, b1⟩
end WFIN
theorem wPc_blind {As : List Value} : FrameBlind (wPc E As h) := fun _ U g mk q => ⟨q.1, q.2.1.calling g mk _, q.2.2⟩
theorem wq_callV {idx na mc ms : Nat} {y' : MethodName} {cc' : ByteArray} {ml' : Nat} {rt' : Option FieldType} {As rest : List Value} {Q1 : Option Value → hW → Prop} {b ci : Nat} {fs : List Value} {T : u_T} {N : Nat} (hdg : decode cc pc = .ok (.invokevirtual idx, 3)) (hlk : wLk y.cls idx y') (hb : wLB y' cc' ml' rt' na) (hx : wLV y') (hM : WM E n y' cc' ml' rt' (.ref b :: As) h mc ms Q1) (hrv : h.1 b = some (.inr (ci, fs))) (hci : vwCl[ci]? = some (y'.cls, T, N)) (hst : st = As.reverse ++ .ref b :: rest) (kk : ∀ v h1, Q1 v h1 → WP E (n + 1) y cc ml rt (pc + 3) ls (v.toList ++ rest) h1 bc bs Q) (hna : As.length = na := by rfl) (hsl : (lg_sl (.ref b :: As)).length ≤ ml' := by decide) (hW : (rest.map fun v => v.category).sum ≤ 8 := by decide) : WP E (n + 1) y cc ml rt pc ls st h (mc + bc) (ms + bs) Q := by
  intro p l e0 R s m args below meth c H locs cells slots lsa Z C hr hs hl hc1 hc2 hz
  obtain ⟨k1, k2, k3, k4, k5, k6, k7⟩ := hb
  have hts := C.2.2.2.2.2.1
  have hmet := wMet k7 hsl hM l
  have hfr := C.2.2.2.2.2.2.2.1
  have hlo := C.2.2.2.2.2.2.2.2.1
  subst hst
  have hxi := hx.1
  have hxs := hx.2
  have hlk' : Cond.methodLink y.cls idx y' ∈ wAll := hlk
  have hrun := va_runV (l := l) (e := e0) (below := below) (meth := meth) (locs := locs) (cells := cells) (slots := slots) (g := F0 m pc lsa (As.reverse ++ .ref b :: rest)) ⟨C.1, C.2.1, C.2.2.1, C.2.2.2.2.1, hts⟩ hmet (cwV na hts (fun w hw => by
    rcases List.mem_append.mp hw with hw | hw
    · exact wAll_good _ (by simp at hw; rcases hw with rfl | rfl | rfl | rfl <;> assumption)
    · exact wWs_good k2 w hw) rfl rfl rfl ⟨rfl, k3, k4, k5⟩ ⟨by show n + 1 ≤ _; omega, by show 8 + (ml' + 11) + 38 * n ≤ _; omega⟩) ⟨wPc_blind, (by
    obtain ⟨q, hq, cell, g1, g2, g3, -⟩ := (hr.2 b _ hrv).2
    have hcl := (C.2.2.2.2.2.2.2.2.2.1.1.1 ci q hq).2.1
    rw [hci] at hq
    cases hq
    exact ⟨cell, g1, by rw [g3]; rfl, by rw [g2]; exact hcl⟩), fun U hU hW => ⟨rfl, C.2.2.2.2.2.2.2.2.2.1.on hs hU hW, by rw [hU]; exact hr⟩⟩ rfl hna hl.1 rfl (by show 2 * 0 + _ ≤ 8; omega) hdg ⟨by omega, by omega⟩
  refine w_fin (mc := mc) (ms := ms) hrun hs (fun v h1 H1 locs1 hq1 hr1 hs1 => ?_)
  exact kk v h1 hq1 p l e0 R s m args below meth c H1 locs1 (cells + mc) (slots + ms) lsa Z C hr1 hs1 hl (by omega) (by omega) (fun v2 h2 q2 => by
    have h9 := hz v2 h2 q2
    rw [show cells + (mc + bc) = cells + mc + bc by omega, show slots + (ms + bs) = slots + ms + bs by omega] at h9
    exact h9)
theorem wq_callS {idx na mc ms : Nat} {y' : MethodName} {cc' : ByteArray} {ml' : Nat} {rt' : Option FieldType} {As rest : List Value} {Q1 : Option Value → hW → Prop} (hdg : decode cc pc = .ok (.invokestatic idx, 3)) (hlk : wLk y.cls idx y') (hb : wLB y' cc' ml' rt' na) (hx : wLS y') (hM : WM E n y' cc' ml' rt' (As) h mc ms Q1) (hst : st = As.reverse ++ rest) (kk : ∀ v h1, Q1 v h1 → WP E (n + 1) y cc ml rt (pc + 3) ls (v.toList ++ rest) h1 bc bs Q) (hna : As.length = na := by rfl) (hsl : (lg_sl (As)).length ≤ ml' := by decide) (hW : (rest.map fun v => v.category).sum ≤ 8 := by decide) : WP E (n + 1) y cc ml rt pc ls st h (mc + bc) (ms + bs) Q := by
  intro p l e0 R s m args below meth c H locs cells slots lsa Z C hr hs hl hc1 hc2 hz
  obtain ⟨k1, k2, k3, k4, k5, k6, k7⟩ := hb
  have hts := C.2.2.2.2.2.1
  have hmet := wMet k7 hsl hM l
  have hfr := C.2.2.2.2.2.2.2.1
  have hlo := C.2.2.2.2.2.2.2.2.1
  subst hst
  have hlk' : Cond.methodLink y.cls idx y' ∈ wAll := hlk
  have hx' : Cond.static y' ∈ wAll := hx
  have hrun := va_runS (l := l) (e := e0) (below := below) (meth := meth) (locs := locs) (cells := cells) (slots := slots) (g := F0 m pc lsa (As.reverse ++ rest)) ⟨C.1, C.2.1, C.2.2.1, C.2.2.2.2.1, hts⟩ hmet (va_cwS na hts (fun w hw => by
    rcases List.mem_append.mp hw with hw | hw
    · exact wAll_good _ (by simp at hw; rcases hw with rfl | rfl | rfl <;> assumption)
    · exact wWs_good k2 w hw) rfl rfl rfl ⟨k3, k4, k5⟩ ⟨by show n + 1 ≤ _; omega, by show 8 + (ml' + 11) + 38 * n ≤ _; omega⟩) ⟨wPc_blind, fun U hU hW => ⟨rfl, C.2.2.2.2.2.2.2.2.2.1.on hs hU hW, by rw [hU]; exact hr⟩⟩ rfl hna hl.1 rfl (by show 2 * 0 + _ ≤ 8; omega) hdg ⟨by omega, by omega⟩
  refine w_fin (mc := mc) (ms := ms) hrun hs (fun v h1 H1 locs1 hq1 hr1 hs1 => ?_)
  exact kk v h1 hq1 p l e0 R s m args below meth c H1 locs1 (cells + mc) (slots + ms) lsa Z C hr1 hs1 hl (by omega) (by omega) (fun v2 h2 q2 => by
    have h9 := hz v2 h2 q2
    rw [show cells + (mc + bc) = cells + mc + bc by omega, show slots + (ms + bs) = slots + ms + bs by omega] at h9
    exact h9)
theorem wq_callSN {idx na mc ms : Nat} {y' : MethodName} {cc' : ByteArray} {ml' : Nat} {rt' : Option FieldType} {As rest : List Value} {Q1 : Option Value → hW → Prop} (hdg : decode cc pc = .ok (.invokestatic idx, 3)) (hlk : wLN y.cls idx y') (hb : wLB y' cc' ml' rt' na) (hx : wLS y') (hM : WM E n y' cc' ml' rt' (As) h mc ms Q1) (hst : st = As.reverse ++ rest) (kk : ∀ v h1, Q1 v h1 → WP E (n + 1) y cc ml rt (pc + 3) ls (v.toList ++ rest) h1 bc bs Q) (hna : As.length = na := by rfl) (hsl : (lg_sl (As)).length ≤ ml' := by decide) (hW : (rest.map fun v => v.category).sum ≤ 8 := by decide) : WP E (n + 1) y cc ml rt pc ls st h (mc + bc) (ms + bs) Q := by
  intro p l e0 R s m args below meth c H locs cells slots lsa Z C hr hs hl hc1 hc2 hz
  obtain ⟨k1, k2, k3, k4, k5, k6, k7⟩ := hb
  have hts := C.2.2.2.2.2.1
  have hmet := wMet k7 hsl hM l
  have hfr := C.2.2.2.2.2.2.2.1
  have hlo := C.2.2.2.2.2.2.2.2.1
  subst hst
  obtain ⟨host, hlk'⟩ := hlk
  have hx' : Cond.static y' ∈ wAll := hx
  have hrun := va_runSN (l := l) (e := e0) (below := below) (meth := meth) (locs := locs) (cells := cells) (slots := slots) (g := F0 m pc lsa (As.reverse ++ rest)) ⟨C.1, C.2.1, C.2.2.1, C.2.2.2.2.1, hts⟩ hmet ⟨va_cnB na hts (wWs_good k2) rfl rfl rfl (C.2.2.2.2.2.2.2.2.2.1.2.2.2.2.2.1 _ hlk') (hts _ k1) ⟨k3, k4, k5⟩ ⟨by show n + 1 ≤ _; omega, by show 8 + (ml' + 11) + 38 * n ≤ _; omega⟩, hts _ hx', trivial⟩ ⟨wPc_blind, fun U hU hW => ⟨rfl, C.2.2.2.2.2.2.2.2.2.1.on hs hU hW, by rw [hU]; exact hr⟩⟩ rfl hna hl.1 rfl (by show 2 * 0 + _ ≤ 8; omega) hdg ⟨by omega, by omega⟩
  refine w_fin (mc := mc) (ms := ms) hrun hs (fun v h1 H1 locs1 hq1 hr1 hs1 => ?_)
  exact kk v h1 hq1 p l e0 R s m args below meth c H1 locs1 (cells + mc) (slots + ms) lsa Z C hr1 hs1 hl (by omega) (by omega) (fun v2 h2 q2 => by
    have h9 := hz v2 h2 q2
    rw [show cells + (mc + bc) = cells + mc + bc by omega, show slots + (ms + bs) = slots + ms + bs by omega] at h9
    exact h9)
theorem wq_callI {idx na mc ms : Nat} {y' : MethodName} {cc' : ByteArray} {ml' : Nat} {rt' : Option FieldType} {As rest : List Value} {Q1 : Option Value → hW → Prop} {b : Nat} (hdg : decode cc pc = .ok (.invokespecial idx, 3)) (hlk : wLk y.cls idx y') (hb : wLB y' cc' ml' rt' na) (hx : wLI y') (hM : WM E n y' cc' ml' rt' (.ref b :: As) h mc ms Q1) (hrt : rt' = none) (hst : st = As.reverse ++ .ref b :: rest) (kk : ∀ v h1, Q1 v h1 → WP E (n + 1) y cc ml rt (pc + 3) ls (v.toList ++ rest) h1 bc bs Q) (hna : As.length = na := by rfl) (hsl : (lg_sl (.ref b :: As)).length ≤ ml' := by decide) (hW : (rest.map fun v => v.category).sum ≤ 8 := by decide) : WP E (n + 1) y cc ml rt pc ls st h (mc + bc) (ms + bs) Q := by
  intro p l e0 R s m args below meth c H locs cells slots lsa Z C hr hs hl hc1 hc2 hz
  obtain ⟨k1, k2, k3, k4, k5, k6, k7⟩ := hb
  have hts := C.2.2.2.2.2.1
  have hmet := wMet k7 hsl hM l
  have hfr := C.2.2.2.2.2.2.2.1
  have hlo := C.2.2.2.2.2.2.2.2.1
  subst hst
  subst hrt
  have hlk' : Cond.methodLink y.cls idx y' ∈ wAll := hlk
  have hrun := va_runI (l := l) (e := e0) (below := below) (meth := meth) (locs := locs) (cells := cells) (slots := slots) (g := F0 m pc lsa (As.reverse ++ .ref b :: rest)) ⟨C.1, C.2.1, C.2.2.1, C.2.2.2.2.1, hts⟩ hmet (cwI na hts (wWs_good k2) rfl rfl rfl (hts _ k1) (hts _ hlk') (hts _ hx.2) hx.1 ⟨k3, k4, k5⟩ ⟨by show n + 1 ≤ _; omega, by show 8 + (ml' + 11) + 38 * n ≤ _; omega⟩) ⟨wPc_blind, fun U hU hW => ⟨rfl, C.2.2.2.2.2.2.2.2.2.1.on hs hU hW, by rw [hU]; exact hr⟩⟩ rfl hna hl.1 rfl (by show 2 * 0 + _ ≤ 8; omega) hdg ⟨by omega, by omega⟩
  refine w_fin (mc := mc) (ms := ms) hrun hs (fun v h1 H1 locs1 hq1 hr1 hs1 => ?_)
  exact kk v h1 hq1 p l e0 R s m args below meth c H1 locs1 (cells + mc) (slots + ms) lsa Z C hr1 hs1 hl (by omega) (by omega) (fun v2 h2 q2 => by
    have h9 := hz v2 h2 q2
    rw [show cells + (mc + bc) = cells + mc + bc by omega, show slots + (ms + bs) = slots + ms + bs by omega] at h9
    exact h9)
theorem wq_callIN {idx na mc ms : Nat} {y' : MethodName} {cc' : ByteArray} {ml' : Nat} {rt' : Option FieldType} {As rest : List Value} {Q1 : Option Value → hW → Prop} {b : Nat} (hdg : decode cc pc = .ok (.invokespecial idx, 3)) (hlk : wLN y.cls idx y') (hb : wLB y' cc' ml' rt' na) (hx : wLI y') (hM : WM E n y' cc' ml' rt' (.ref b :: As) h mc ms Q1) (hrt : rt' = none) (hst : st = As.reverse ++ .ref b :: rest) (kk : ∀ v h1, Q1 v h1 → WP E (n + 1) y cc ml rt (pc + 3) ls (v.toList ++ rest) h1 bc bs Q) (hna : As.length = na := by rfl) (hsl : (lg_sl (.ref b :: As)).length ≤ ml' := by decide) (hW : (rest.map fun v => v.category).sum ≤ 8 := by decide) : WP E (n + 1) y cc ml rt pc ls st h (mc + bc) (ms + bs) Q := by
  intro p l e0 R s m args below meth c H locs cells slots lsa Z C hr hs hl hc1 hc2 hz
  obtain ⟨k1, k2, k3, k4, k5, k6, k7⟩ := hb
  have hts := C.2.2.2.2.2.1
  have hmet := wMet k7 hsl hM l
  have hfr := C.2.2.2.2.2.2.2.1
  have hlo := C.2.2.2.2.2.2.2.2.1
  subst hst
  subst hrt
  obtain ⟨host, hlk'⟩ := hlk
  have hrun := va_runIN (l := l) (e := e0) (below := below) (meth := meth) (locs := locs) (cells := cells) (slots := slots) (g := F0 m pc lsa (As.reverse ++ .ref b :: rest)) ⟨C.1, C.2.1, C.2.2.1, C.2.2.2.2.1, hts⟩ hmet ⟨va_cnB na hts (wWs_good k2) rfl rfl rfl (C.2.2.2.2.2.2.2.2.2.1.2.2.2.2.2.1 _ hlk') (hts _ k1) ⟨k3, k4, k5⟩ ⟨by show n + 1 ≤ _; omega, by show 8 + (ml' + 11) + 38 * n ≤ _; omega⟩, hx.1, hts _ hx.2⟩ ⟨wPc_blind, fun U hU hW => ⟨rfl, C.2.2.2.2.2.2.2.2.2.1.on hs hU hW, by rw [hU]; exact hr⟩⟩ rfl hna hl.1 rfl (by show 2 * 0 + _ ≤ 8; omega) hdg ⟨by omega, by omega⟩
  refine w_fin (mc := mc) (ms := ms) hrun hs (fun v h1 H1 locs1 hq1 hr1 hs1 => ?_)
  exact kk v h1 hq1 p l e0 R s m args below meth c H1 locs1 (cells + mc) (slots + ms) lsa Z C hr1 hs1 hl (by omega) (by omega) (fun v2 h2 q2 => by
    have h9 := hz v2 h2 q2
    rw [show cells + (mc + bc) = cells + mc + bc by omega, show slots + (ms + bs) = slots + ms + bs by omega] at h9
    exact h9)
end WQC
end

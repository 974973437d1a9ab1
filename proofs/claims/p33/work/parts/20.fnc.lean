/-! ===== the class as plain functions (by program: wip/whole/gen.py) ===== -/
noncomputable def fX0_copyFrom (H2 : hR) (i : Int) (x1 : Int) (H : hR) : Option (Unit × hR) :=
  bnd (hS H 2 i 0 (H2.1 2 x1 0)) fun H5 =>
  bnd (hS H5 2 i 1 (H2.1 2 x1 1)) fun H13 =>
  bnd (hS H13 2 i 2 (H2.1 2 x1 2)) fun H21 =>
  bnd (hS H21 2 i 3 (H2.1 2 x1 3)) fun H29 =>
  bnd (hS H29 2 i 4 (H2.1 2 x1 4)) fun H37 =>
  bnd (hS H37 2 i 5 (H2.1 2 x1 5)) fun H45 =>
  bnd (hS H45 2 i 6 (H2.1 2 x1 6)) fun H53 =>
  bnd (hS H53 2 i 7 (H2.1 2 x1 7)) fun H61 =>
  bnd (hS H61 2 i 8 (H2.1 2 x1 8)) fun H69 =>
  bnd (hS H69 2 i 9 (H2.1 2 x1 9)) fun H77 =>
  bnd (hS H77 2 i 10 (H2.1 2 x1 10)) fun H85 =>
  bnd (hS H85 2 i 11 (H2.1 2 x1 11)) fun H93 =>
  bnd (hD H93 i (H2.2 x1)) fun H101 =>
  some ((), H101)
noncomputable def fX0_open (i : Int) (x1 : Int) (x2 : Int) (H : hR) : Option (Unit × hR) :=
  bnd (hS H 2 i 0 x1) fun H2 =>
  bnd (hS H2 2 i 1 x2) fun H7 =>
  bnd (hS H7 2 i 2 (-6)) fun H13 =>
  bnd (hS H13 2 i 3 0) fun H18 =>
  bnd (hS H18 2 i 4 0) fun H23 =>
  bnd (hS H23 2 i 5 0) fun H28 =>
  bnd (hS H28 2 i 6 0) fun H33 =>
  bnd (hS H33 2 i 7 0) fun H38 =>
  bnd (hS H38 2 i 8 0) fun H43 =>
  bnd (hS H43 2 i 9 0) fun H48 =>
  bnd (hS H48 2 i 10 0) fun H53 =>
  bnd (hS H53 2 i 11 0) fun H58 =>
  bnd (hD H58 i FP.dconst0) fun H63 =>
  some ((), H63)
noncomputable def fX0_sumOf (i : Int) (x1 : Int) (H : hR) : Option Int :=
  gd (wR x1) <|
  if x1 = 0 then (
    some (H.1 2 i 3))
  else if x1 = 1 then (
    some (H.1 2 i 4))
  else if x1 = 2 then (
    some (H.1 2 i 5))
  else if x1 = 3 then (
    some (H.1 2 i 6))
  else if x1 = 4 then (
    some (H.1 2 i 7))
  else if x1 = 5 then (
    some (H.1 2 i 8))
  else if x1 = 6 then (
    some (H.1 2 i 9))
  else if x1 = 7 then (
    some (H.1 2 i 10))
  else if x1 = 8 then (
    some (H.1 2 i 11))
  else (
    some (-2))
noncomputable def fX0_takeInterest (i : Int) (H : hR) : Option (Unit × hR) :=
  bnd (hS H 2 i 3 ((H.1 2 i 3) - (d2lI (H.2 i)))) fun H13 =>
  bnd (hS H13 2 i 10 ((H13.1 2 i 10) + (d2lI (H.2 i)))) fun H23 =>
  gd (okD (FP.dsub (H23.2 i) (FP.l2d (jL (d2lI (H.2 i)))))) <|
  bnd (hD H23 i (FP.dsub (H23.2 i) (FP.l2d (jL (d2lI (H.2 i)))))) fun H34 =>
  some ((), H34)
noncomputable def fX1_copyFrom (H2 : hR) (H : hR) : Option (Unit × hR) :=
  bnd (hBits H (cpy (fun j => H2.1 6 j 0) (fun j => H.1 6 j 0) 0 0 18)) fun H15 =>
  bnd (hS H15 1 1 0 (H2.1 1 1 0)) fun H23 =>
  bnd (hS H23 1 2 0 (H2.1 1 2 0)) fun H31 =>
  some ((), H31)
noncomputable def fX1_firstDayOf (x0 : Int) : Option Int :=
  gd (wR x0) <|
  gd (wR x0) <|
  gd (0 ≤ (rmI x0 12) ∧ (rmI x0 12) < 13) <|
  some (((dvI x0 12) * 365) + (sRow 2 (rmI x0 12)))
noncomputable def fX1_isBusiness (x1 : Int) (H : hR) : Option Int :=
  gd (wR (x1 + (H.1 1 2 0))) <|
  gd (wR (rmI (x1 + (H.1 1 2 0)) 7)) <|
  if 5 ≤ (rmI (x1 + (H.1 1 2 0)) 7) then (
    some 0)
  else (
    gd (0 ≤ (shrI x1 6) ∧ (shrI x1 6) < 18) <|
    gd (wR64 (landI (lushrI (H.1 6 (shrI x1 6) 0) (andI x1 63)) 1)) <|
    if (landI (lushrI (H.1 6 (shrI x1 6) 0) (andI x1 63)) 1) = 0 then (
      some 1)
    else (
      some 0))
noncomputable def fX1_isHoliday (x1 : Int) (H : hR) : Option Int :=
  gd (0 ≤ (shrI x1 6) ∧ (shrI x1 6) < 18) <|
  gd (wR64 (landI (lushrI (H.1 6 (shrI x1 6) 0) (andI x1 63)) 1)) <|
  if (landI (lushrI (H.1 6 (shrI x1 6) 0) (andI x1 63)) 1) = 0 then (
    some 0)
  else (
    some 1)
noncomputable def fX1_lastBusiness_b2 (H : hR) : Nat → Int → Option Int
  | 0, _ => none
  | fuel + 1, x2 =>
    gd (wR x2) <|
    if x2 < 0 then (
      some (-6))
    else (
      cr (fX1_isBusiness x2 H) fun r8 =>
      gd (wR r8) <|
      if r8 = 0 then (
        (fX1_lastBusiness_b2 H fuel) (x2 + (-1)) )
      else (
        some x2))
noncomputable def fX1_lastBusiness (x1 : Int) (H : hR) : Option Int :=
  fX1_lastBusiness_b2 H fuel0 x1
noncomputable def fX1_lastDayOf (x0 : Int) : Option Int :=
  gd (wR x0) <|
  gd (wR x0) <|
  gd (0 ≤ ((rmI x0 12) + 1) ∧ ((rmI x0 12) + 1) < 13) <|
  some ((((dvI x0 12) * 365) + (sRow 2 ((rmI x0 12) + 1))) - 1)
noncomputable def fX6_isBetween (x0 : Int) (x1 : Int) (x2 : Int) : Option Int :=
  gd (wR x0 ∧ wR x1) <|
  if x0 < x1 then (
    some 0)
  else (
    gd (wR x0 ∧ wR x2) <|
    if x2 < x0 then (
      some 0)
    else (
      some 1))
noncomputable def fX1_mark_b96 (t1 : Int) (t2 : Int) (H : hR) : Option (Int × hR) :=
  bnd (hS H 1 1 0 (t1 + t2)) fun H97 =>
  some ((H97.1 1 1 0), H97)
noncomputable def fX1_mark_b63 (x1 : Int) (x2 : Int) (H : hR) : Option (Int × hR) :=
  gd (0 ≤ (shrI x1 6) ∧ (shrI x1 6) < 18) <|
  gd ((0 ≤ (shrI x1 6) ∧ (shrI x1 6) < 18)) <|
  bnd (hS H 6 (shrI x1 6) 0 (lxorI (H.1 6 (shrI x1 6) 0) (lshlI 1 (andI x1 63)))) fun H80 =>
  gd (wR x2) <|
  if x2 = 1 then (
    fX1_mark_b96 (H80.1 1 1 0) 1 H80)
  else (
    fX1_mark_b96 (H80.1 1 1 0) (-1) H80)
noncomputable def fX1_mark_b38 (x1 : Int) (x2 : Int) (t0 : Int) (t1 : Int) (H : hR) : Option (Int × hR) :=
  gd (wR t0 ∧ wR t1) <|
  if t0 = t1 then (
    some ((H.1 1 1 0), H))
  else (
    gd (wR x2) <|
    if x2 = 1 then (
      gd (wR (H.1 1 1 0)) <|
      if (H.1 1 1 0) < 20 then (
        fX1_mark_b63 x1 x2 H)
      else (
        some ((-4), H)))
    else (
      fX1_mark_b63 x1 x2 H))
noncomputable def fX1_mark (x1 : Int) (x2 : Int) (H : hR) : Option (Int × hR) :=
  cr (fX6_isBetween x1 0 1094) fun r5 =>
  gd (wR r5) <|
  if r5 = 0 then (
    some ((-2), H))
  else (
    cr (fX6_isBetween x2 0 1) fun r14 =>
    gd (wR r14) <|
    if r14 = 0 then (
      some ((-2), H))
    else (
      cr (fX1_isHoliday x1 H) fun r25 =>
      gd (wR x2) <|
      if x2 = 1 then (
        fX1_mark_b38 x1 x2 r25 1 H)
      else (
        fX1_mark_b38 x1 x2 r25 0 H)))
noncomputable def fX1_monthOf_b25 (x0 : Int) (x2 : Int) : Option Int :=
  gd (wR x0) <|
  some (((dvI x0 365) * 12) + x2)
noncomputable def fX1_monthOf (x0 : Int) : Option Int :=
  gd (wR x0) <|
  gd (wR (rmI x0 365)) <|
  gd (0 ≤ ((dvI (rmI x0 365) 31) + 1) ∧ ((dvI (rmI x0 365) 31) + 1) < 13) <|
  gd (wR (sRow 2 ((dvI (rmI x0 365) 31) + 1)) ∧ wR (rmI x0 365)) <|
  if (rmI x0 365) < (sRow 2 ((dvI (rmI x0 365) 31) + 1)) then (
    fX1_monthOf_b25 x0 (dvI (rmI x0 365) 31))
  else (
    fX1_monthOf_b25 x0 ((dvI (rmI x0 365) 31) + 1))
noncomputable def fX1_nextBusiness_b2 (H : hR) : Nat → Int → Option Int
  | 0, _ => none
  | fuel + 1, x2 =>
    gd (wR x2) <|
    if 1094 < x2 then (
      some (-6))
    else (
      cr (fX1_isBusiness x2 H) fun r11 =>
      gd (wR r11) <|
      if r11 = 0 then (
        (fX1_nextBusiness_b2 H fuel) (x2 + 1) )
      else (
        some x2))
noncomputable def fX1_nextBusiness (x1 : Int) (H : hR) : Option Int :=
  fX1_nextBusiness_b2 H fuel0 x1
noncomputable def fX1_weekdayOf (x1 : Int) (H : hR) : Option Int :=
  gd (wR (x1 + (H.1 1 2 0))) <|
  some (rmI (x1 + (H.1 1 2 0)) 7)
noncomputable def fX1_numberOf (x1 : Int) (x2 : Int) (H : hR) : Option Int :=
  gd (wR x2) <|
  if x2 = 0 then (
    cr (fX1_weekdayOf x1 H) fun r42 =>
    some r42)
  else if x2 = 1 then (
    cr (fX1_monthOf x1) fun r47 =>
    some r47)
  else if x2 = 2 then (
    cr (fX1_monthOf x1) fun r53 =>
    cr (fX1_firstDayOf r53) fun r56 =>
    some ((x1 - r56) + 1))
  else if x2 = 3 then (
    cr (fX1_isBusiness x1 H) fun r65 =>
    gd (wR r65) <|
    if r65 = 0 then (
      some 0)
    else (
      some 1))
  else if x2 = 4 then (
    cr (fX1_nextBusiness x1 H) fun r79 =>
    some r79)
  else if x2 = 5 then (
    cr (fX1_lastBusiness x1 H) fun r85 =>
    some r85)
  else (
    some (-2))
noncomputable def fX1_shifted_b58 (H : hR) (x1 : Int) (x3 : Int) : Option Int :=
  gd (wR x3) <|
  if x3 = (-6) then (
    some x1)
  else (
    some x3)
noncomputable def fX1_shifted_b52 (H : hR) (x1 : Int) : Option Int :=
  cr (fX1_lastBusiness x1 H) fun r54 =>
  fX1_shifted_b58 H x1 r54
noncomputable def fX1_shifted_b29 (H : hR) (x1 : Int) (x2 : Int) (t0 : Int) : Option Int :=
  gd (wR x2) <|
  if x2 = 3 then (
    gd (wR t0) <|
    if t0 = (-6) then (
      fX1_shifted_b52 H x1)
    else (
      cr (fX1_monthOf t0) fun r42 =>
      cr (fX1_monthOf x1) fun r46 =>
      gd (wR r42 ∧ wR r46) <|
      if r42 = r46 then (
        fX1_shifted_b58 H x1 t0)
      else (
        fX1_shifted_b52 H x1)))
  else (
    fX1_shifted_b58 H x1 t0)
noncomputable def fX1_shifted (x1 : Int) (x2 : Int) (H : hR) : Option Int :=
  gd (wR x2) <|
  if x2 = 0 then (
    some x1)
  else (
    gd (wR x2) <|
    if x2 = 4 then (
      some x1)
    else (
      gd (wR x2) <|
      if x2 = 2 then (
        cr (fX1_lastBusiness x1 H) fun r18 =>
        fX1_shifted_b29 H x1 x2 r18)
      else (
        cr (fX1_nextBusiness x1 H) fun r26 =>
        fX1_shifted_b29 H x1 x2 r26)))
noncomputable def fX2_addAccount (x1 : Int) (x2 : Int) (H : hR) : Option (Int × hR) :=
  cr (fX6_isBetween x1 0 1000000) fun r4 =>
  gd (wR r4) <|
  if r4 = 0 then (
    some ((-2), H))
  else (
    cr (fX6_isBetween x2 0 1000000) fun r14 =>
    gd (wR r14) <|
    if r14 = 0 then (
      some ((-2), H))
    else (
      gd (wR (H.1 0 4 0)) <|
      if (H.1 0 4 0) < 8 then (
        gd (0 ≤ (H.1 0 4 0) ∧ (H.1 0 4 0) < 8) <|
        cl (fX0_open (H.1 0 4 0) x1 x2 H) fun r46 H46 =>
        bnd (hS H46 0 4 0 ((H46.1 0 4 0) + 1)) fun H56 =>
        some (((H56.1 0 4 0) - 1), H56))
      else (
        some ((-4), H))))
noncomputable def fX2_areDates (x0 : Int) : Option Int :=
  cr (fX6_isBetween x0 0 39999) fun r4 =>
  gd (wR r4) <|
  if r4 = 0 then (
    some 0)
  else (
    gd (wR x0) <|
    gd (wR (dvI x0 100)) <|
    cr (fX6_isBetween (rmI (dvI x0 100) 100) 1 12) fun r20 =>
    gd (wR r20) <|
    if r20 = 0 then (
      some 0)
    else (
      gd (wR x0) <|
      cr (fX6_isBetween (rmI x0 100) 1 31) fun r33 =>
      gd (wR r33) <|
      if r33 = 0 then (
        some 0)
      else (
        some 1)))
noncomputable def fX2_hasAccount (x1 : Int) (H : hR) : Option Int :=
  gd (wR x1) <|
  if x1 < 0 then (
    some 0)
  else (
    gd (wR x1 ∧ wR (H.1 0 4 0)) <|
    if (H.1 0 4 0) ≤ x1 then (
      some 0)
    else (
      some 1))
noncomputable def fX3_begin_b98 (x0 : Int) (x6 : Int) (t0 : Int) (t1 : Int) (H : hR) : Option (Unit × hR) :=
  gd (t1 = 0 ∨ t1 = 1) <|
  bnd (hS H 3 t0 9 t1) fun H98 =>
  bnd (hS H98 3 x0 10 x6) fun H104 =>
  bnd (hS H104 3 x0 11 0) fun H109 =>
  bnd (hS H109 3 x0 12 0) fun H114 =>
  bnd (hS H114 3 x0 13 0) fun H119 =>
  bnd (hS H119 3 x0 14 0) fun H124 =>
  bnd (hS H124 3 x0 15 0) fun H129 =>
  bnd (hS H129 3 x0 16 0) fun H134 =>
  some ((), H134)
noncomputable def fX3_begin_b27 (x0 : Int) (x2 : Int) (x3 : Int) (x4 : Int) (x5 : Int) (x6 : Int) (t0 : Int) (t1 : Int) (H : hR) : Option (Unit × hR) :=
  bnd (hS H 3 t0 1 t1) fun H27 =>
  bnd (hS H27 3 x0 2 x2) fun H32 =>
  gd (wR x3) <|
  bnd (hS H32 3 x0 3 (dvI x3 10000)) fun H41 =>
  gd (wR x3) <|
  gd (wR (dvI x3 100)) <|
  bnd (hS H41 3 x0 4 (rmI (dvI x3 100) 100)) fun H52 =>
  gd (wR x3) <|
  bnd (hS H52 3 x0 5 (rmI x3 100)) fun H60 =>
  bnd (hS H60 3 x0 6 x4) fun H66 =>
  gd (wR x5) <|
  bnd (hS H66 3 x0 7 (dvI x5 10)) fun H75 =>
  gd (wR x5) <|
  bnd (hS H75 3 x0 8 (rmI x5 10)) fun H84 =>
  gd (wR x6) <|
  if x6 = 0 then (
    fX3_begin_b98 x0 x6 x0 1 H84)
  else (
    fX3_begin_b98 x0 x6 x0 0 H84)
noncomputable def fX3_begin (i : Int) (x1 : Int) (x2 : Int) (x3 : Int) (x4 : Int) (x5 : Int) (x6 : Int) (H : hR) : Option (Unit × hR) :=
  gd (wR x1) <|
  bnd (hS H 3 i 0 (dvI x1 9)) fun H5 =>
  gd (wR x1) <|
  gd (wR (rmI x1 9)) <|
  if (rmI x1 9) = 8 then (
    fX3_begin_b27 i x2 x3 x4 x5 x6 i (-6) H5)
  else (
    gd (wR x1) <|
    fX3_begin_b27 i x2 x3 x4 x5 x6 i (rmI x1 9) H5)
noncomputable def fX3_nominalDay_b38 (H : hR) (t0 : Int) (t1 : Int) (t2 : Int) : Option Int :=
  gd (wR (t0 + (t1 * t2))) <|
  if 1094 < (t0 + (t1 * t2)) then (
    some (-6))
  else (
    some (t0 + (t1 * t2)))
noncomputable def fX3_nominalDay_b15 (H : hR) (x0 : Int) (x1 : Int) : Option Int :=
  gd (wR (H.1 3 x0 3)) <|
  if (H.1 3 x0 3) = 0 then (
    fX3_nominalDay_b38 H (H.1 3 x0 6) (x1 * (H.1 3 x0 4)) 1)
  else (
    fX3_nominalDay_b38 H (H.1 3 x0 6) (x1 * (H.1 3 x0 4)) 7)
noncomputable def fX3_nominalDay (i : Int) (x1 : Int) (H : hR) : Option Int :=
  gd (wR (H.1 3 i 3)) <|
  if (H.1 3 i 3) = 0 then (
    fX3_nominalDay_b15 H i x1)
  else (
    gd (wR (H.1 3 i 3)) <|
    if (H.1 3 i 3) = 1 then (
      fX3_nominalDay_b15 H i x1)
    else (
      cr (fX1_monthOf (H.1 3 i 6)) fun r59 =>
      gd (wR (r59 + (x1 * (H.1 3 i 4)))) <|
      if (r59 + (x1 * (H.1 3 i 4))) ≤ 35 then (
        cr (fX1_firstDayOf (r59 + (x1 * (H.1 3 i 4)))) fun r80 =>
        cr (fX1_lastDayOf (r59 + (x1 * (H.1 3 i 4)))) fun r86 =>
        gd (wR (H.1 3 i 3)) <|
        if (H.1 3 i 3) = 2 then (
          gd (wR ((r80 + (H.1 3 i 5)) - 1) ∧ wR r86) <|
          some (min ((r80 + (H.1 3 i 5)) - 1) r86))
        else (
          cr (fX1_lastBusiness r86 H) fun r117 =>
          gd (wR r117 ∧ wR r80) <|
          if r117 < r80 then (
            some r86)
          else (
            some r117)))
      else (
        some (-6))))
noncomputable def fX3_aim_b92 (t0 : Int) (t1 : Int) (H : hR) : Option (Unit × hR) :=
  bnd (hS H 3 t0 19 t1) fun H92 =>
  some ((), H92)
noncomputable def fX3_aim_b64 (x0 : Int) (H : hR) : Option (Unit × hR) :=
  gd (wR (H.1 3 x0 18)) <|
  if (H.1 3 x0 18) = (-6) then (
    fX3_aim_b92 x0 1095 H)
  else (
    cr (fX1_shifted (H.1 3 x0 18) (H.1 3 x0 7) H) fun r89 =>
    fX3_aim_b92 x0 r89 H)
noncomputable def fX3_aim (i : Int) (H : hR) : Option (Unit × hR) :=
  bnd (hS H 3 i 17 (H.1 3 i 16)) fun H5 =>
  cr (fX3_nominalDay i (H5.1 3 i 16) H5) fun r15 =>
  bnd (hS H5 3 i 18 r15) fun H18 =>
  gd (wR (H18.1 3 i 18)) <|
  if (H18.1 3 i 18) = (-6) then (
    fX3_aim_b64 i H18)
  else (
    gd (wR (H18.1 3 i 18) ∧ wR (H18.1 3 i 6)) <|
    if (H18.1 3 i 6) ≤ (H18.1 3 i 18) then (
      fX3_aim_b64 i H18)
    else (
      bnd (hS H18 3 i 17 ((H18.1 3 i 16) + 1)) fun H48 =>
      cr (fX3_nominalDay i (H48.1 3 i 17) H48) fun r58 =>
      bnd (hS H48 3 i 18 r58) fun H61 =>
      fX3_aim_b64 i H61))
noncomputable def fX3_leaveOutBefore_b10 : Nat → Int → Int → Int → Int → hR → Option (Int × hR)
  | 0, _, _, _, _, _ => none
  | fuel + 1, x0, x1, x3, x4, H =>
    gd (wR x4) <|
    if 1094 < x4 then (
      some (x3, H))
    else (
      gd (wR (H.1 3 x0 19) ∧ wR x1) <|
      if x1 ≤ (H.1 3 x0 19) then (
        some (x3, H))
      else (
        bnd (hS H 3 x0 16 ((H.1 3 x0 17) + 1)) fun H36 =>
        cl (fX3_aim x0 H36) fun r41 H41 =>
        (fX3_leaveOutBefore_b10 fuel) x0 x1 (x3 + 1) (x4 + 1) H41 ))
noncomputable def fX3_leaveOutBefore (i : Int) (x1 : Int) (H : hR) : Option (Int × hR) :=
  cl (fX3_aim i H) fun r4 H4 =>
  fX3_leaveOutBefore_b10 fuel0 i x1 0 0 H4
noncomputable def fX2_addOrder_b50 (x1 : Int) (x2 : Int) (x3 : Int) (x4 : Int) (x5 : Int) (x6 : Int) (H : hR) : Option (Int × hR) :=
  cr (fX6_isBetween x2 1 1000000) fun r54 =>
  gd (wR r54) <|
  if r54 = 0 then (
    some ((-2), H))
  else (
    cr (fX2_areDates x3) fun r61 =>
    gd (wR r61) <|
    if r61 = 0 then (
      some ((-2), H))
    else (
      cr (fX6_isBetween x4 (H.1 0 6 0) 1094) fun r79 =>
      gd (wR r79) <|
      if r79 = 0 then (
        some ((-2), H))
      else (
        cr (fX6_isBetween x5 0 49) fun r93 =>
        gd (wR r93) <|
        if r93 = 0 then (
          some ((-2), H))
        else (
          cr (fX6_isBetween x6 0 99) fun r104 =>
          gd (wR r104) <|
          if r104 = 0 then (
            some ((-2), H))
          else (
            gd (wR (H.1 0 5 0)) <|
            if (H.1 0 5 0) < 16 then (
              gd (0 ≤ (H.1 0 5 0) ∧ (H.1 0 5 0) < 16) <|
              cl (fX3_begin (H.1 0 5 0) x1 x2 x3 x4 x5 x6 H) fun r143 H143 =>
              gd (0 ≤ (H143.1 0 5 0) ∧ (H143.1 0 5 0) < 16) <|
              cl (fX3_leaveOutBefore (H143.1 0 5 0) (H143.1 0 6 0) H143) fun r163 H163 =>
              bnd (hS H163 0 5 0 ((H163.1 0 5 0) + 1)) fun H174 =>
              some (((H174.1 0 5 0) - 1), H174))
            else (
              some ((-4), H)))))))
noncomputable def fX2_addOrder (x1 : Int) (x2 : Int) (x3 : Int) (x4 : Int) (x5 : Int) (x6 : Int) (H : hR) : Option (Int × hR) :=
  gd (wR x1) <|
  if x1 < 0 then (
    some ((-1), H))
  else (
    gd (wR x1) <|
    cr (fX2_hasAccount (dvI x1 9) H) fun r9 =>
    gd (wR r9) <|
    if r9 = 0 then (
      some ((-1), H))
    else (
      gd (wR x1) <|
      gd (wR x1) <|
      gd (wR (rmI x1 9) ∧ wR (dvI x1 9)) <|
      if (rmI x1 9) = (dvI x1 9) then (
        some ((-1), H))
      else (
        gd (wR (rmI x1 9)) <|
        if (rmI x1 9) = 8 then (
          fX2_addOrder_b50 x1 x2 x3 x4 x5 x6 H)
        else (
          cr (fX2_hasAccount (rmI x1 9) H) fun r42 =>
          gd (wR r42) <|
          if r42 = 0 then (
            some ((-1), H))
          else (
            fX2_addOrder_b50 x1 x2 x3 x4 x5 x6 H)))))
noncomputable def fX2_hasOrder (x1 : Int) (H : hR) : Option Int :=
  gd (wR x1) <|
  if x1 < 0 then (
    some 0)
  else (
    gd (wR x1 ∧ wR (H.1 0 5 0)) <|
    if (H.1 0 5 0) ≤ x1 then (
      some 0)
    else (
      some 1))
noncomputable def fX2_alterOrder (x1 : Int) (x2 : Int) (x3 : Int) (H : hR) : Option (Int × hR) :=
  cr (fX2_hasOrder x1 H) fun r2 =>
  gd (wR r2) <|
  if r2 = 0 then (
    some ((-1), H))
  else (
    cr (fX6_isBetween x2 1 1000000) fun r14 =>
    gd (wR r14) <|
    if r14 = 0 then (
      some ((-2), H))
    else (
      cr (fX6_isBetween x3 0 9) fun r24 =>
      gd (wR r24) <|
      if r24 = 0 then (
        some ((-2), H))
      else (
        gd (0 ≤ x1 ∧ x1 < 16) <|
        gd (wR (H.1 3 x1 11)) <|
        if (H.1 3 x1 11) = 2 then (
          some ((-5), H))
        else (
          gd (0 ≤ x1 ∧ x1 < 16) <|
          gd (0 ≤ x1 ∧ x1 < 16) <|
          bnd (hS H 3 x1 2 x2) fun H67 =>
          gd (0 ≤ x1 ∧ x1 < 16) <|
          bnd (hS H67 3 x1 8 x3) fun H77 =>
          some ((H.1 3 x1 2), H77)))))
noncomputable def fX2_chargeInterest_b85 (rec35 : UInt32 → Int → Int → hR → Option (Unit × hR)) (x1 : UInt32) (x2 : Int) (x3 : Int) (x4 : Int) (H : hR) : Option (Unit × hR) :=
  gd (wR x2) <|
  if x2 = 0 then (
    rec35 x1 x2 (x3 + 1) H )
  else (
    cl (fX0_takeInterest x4 H) fun r91 H91 =>
    rec35 x1 x2 (x3 + 1) H91 )
noncomputable def fX2_chargeInterest_b35 : Nat → UInt32 → Int → Int → hR → Option (Unit × hR)
  | 0, _, _, _, _ => none
  | fuel + 1, x1, x2, x3, H =>
    gd (wR x3 ∧ wR (H.1 0 4 0)) <|
    if (H.1 0 4 0) ≤ x3 then (
      some ((), H))
    else (
      gd (0 ≤ x3 ∧ x3 < 8) <|
      gd (wR64 (H.1 2 x3 3)) <|
      if 0 ≤ (H.1 2 x3 3) then (
        fX2_chargeInterest_b85 (fX2_chargeInterest_b35 fuel) x1 x2 x3 x3 H)
      else (
        gd (okD (FP.f2d x1)) <|
        gd (okD (FP.dmul (FP.l2d (jL (-(H.1 2 x3 3)))) (FP.f2d x1))) <|
        gd (okD (FP.ddiv (FP.dmul (FP.l2d (jL (-(H.1 2 x3 3)))) (FP.f2d x1)) 4645128764097822720)) <|
        gd (okD (FP.dadd (H.2 x3) (FP.ddiv (FP.dmul (FP.l2d (jL (-(H.1 2 x3 3)))) (FP.f2d x1)) 4645128764097822720))) <|
        bnd (hD H x3 (FP.dadd (H.2 x3) (FP.ddiv (FP.dmul (FP.l2d (jL (-(H.1 2 x3 3)))) (FP.f2d x1)) 4645128764097822720))) fun H82 =>
        fX2_chargeInterest_b85 (fX2_chargeInterest_b35 fuel) x1 x2 x3 x3 H82))
noncomputable def fX2_chargeInterest (H : hR) : Option (Unit × hR) :=
  gd (okF (FP.fdiv (FP.i2f (iI (H.1 0 9 0))) 1148846080)) <|
  cr (fX1_monthOf (H.1 0 6 0)) fun r14 =>
  cr (fX1_lastDayOf r14) fun r17 =>
  gd (wR r17 ∧ wR (H.1 0 6 0)) <|
  if r17 = (H.1 0 6 0) then (
    fX2_chargeInterest_b35 fuel0 (FP.fdiv (FP.i2f (iI (H.1 0 9 0))) 1148846080) 1 0 H)
  else (
    fX2_chargeInterest_b35 fuel0 (FP.fdiv (FP.i2f (iI (H.1 0 9 0))) 1148846080) 0 0 H)
noncomputable def fX3_copyFrom (H2 : hR) (i : Int) (x1 : Int) (H : hR) : Option (Unit × hR) :=
  bnd (hS H 3 i 0 (H2.1 3 x1 0)) fun H5 =>
  bnd (hS H5 3 i 1 (H2.1 3 x1 1)) fun H13 =>
  bnd (hS H13 3 i 2 (H2.1 3 x1 2)) fun H21 =>
  bnd (hS H21 3 i 3 (H2.1 3 x1 3)) fun H29 =>
  bnd (hS H29 3 i 4 (H2.1 3 x1 4)) fun H37 =>
  bnd (hS H37 3 i 5 (H2.1 3 x1 5)) fun H45 =>
  bnd (hS H45 3 i 6 (H2.1 3 x1 6)) fun H53 =>
  bnd (hS H53 3 i 7 (H2.1 3 x1 7)) fun H61 =>
  bnd (hS H61 3 i 8 (H2.1 3 x1 8)) fun H69 =>
  gd ((H2.1 3 x1 9) = 0 ∨ (H2.1 3 x1 9) = 1) <|
  bnd (hS H69 3 i 9 (H2.1 3 x1 9)) fun H77 =>
  bnd (hS H77 3 i 10 (H2.1 3 x1 10)) fun H85 =>
  bnd (hS H85 3 i 11 (H2.1 3 x1 11)) fun H93 =>
  bnd (hS H93 3 i 12 (H2.1 3 x1 12)) fun H101 =>
  bnd (hS H101 3 i 13 (H2.1 3 x1 13)) fun H109 =>
  bnd (hS H109 3 i 14 (H2.1 3 x1 14)) fun H117 =>
  bnd (hS H117 3 i 15 (H2.1 3 x1 15)) fun H125 =>
  bnd (hS H125 3 i 16 (H2.1 3 x1 16)) fun H133 =>
  some ((), H133)
noncomputable def fX5_copyFrom_b21 (H2 : hR) : Nat → Int → hR → Option (Unit × hR)
  | 0, _, _ => none
  | fuel + 1, x2, H =>
    gd (wR x2) <|
    if 5 ≤ x2 then (
      bnd (hS H 4 2 0 (H2.1 4 2 0)) fun H58 =>
      some ((), H58))
    else (
      gd (0 ≤ x2 ∧ x2 < 5) <|
      gd (0 ≤ x2 ∧ x2 < 5) <|
      gd (0 ≤ (H2.1 4 2 0) ∧ (H2.1 4 2 0) ≤ H2.1 4 1 0 ∧ (H2.1 4 2 0) ≤ H.1 4 1 0 ∧ H2.1 4 1 0 ≤ 2147483647 ∧ H.1 4 1 0 ≤ 2147483647) <|
      bnd (hCol H x2 (cpy (fun j => H2.1 5 x2 j) (fun j => H.1 5 x2 j) 0 0 (H2.1 4 2 0))) fun H44 =>
      (fX5_copyFrom_b21 H2 fuel) (x2 + 1) H44 )
noncomputable def fX5_copyFrom (H2 : hR) (H : hR) : Option (Unit × hR) :=
  gd (wR (H.1 4 1 0) ∧ wR (H2.1 4 2 0)) <|
  if (H2.1 4 2 0) ≤ (H.1 4 1 0) then (
    fX5_copyFrom_b21 H2 fuel0 0 H)
  else (
    cl (fX5_makeRoom (H2.1 4 1 0) H) fun r16 H16 =>
    fX5_copyFrom_b21 H2 fuel0 0 H16)
noncomputable def fX2_copyFrom_b44 (H2 : hR) : Nat → Int → hR → Option (Unit × hR)
  | 0, _, _ => none
  | fuel + 1, x2, H =>
    gd (wR x2 ∧ wR (H2.1 0 5 0)) <|
    if (H2.1 0 5 0) ≤ x2 then (
      cl (fX5_copyFrom H2 H) fun r81 H81 =>
      bnd (hS H81 0 4 0 (H2.1 0 4 0)) fun H89 =>
      bnd (hS H89 0 5 0 (H2.1 0 5 0)) fun H97 =>
      bnd (hS H97 0 6 0 (H2.1 0 6 0)) fun H105 =>
      bnd (hS H105 0 7 0 (H2.1 0 7 0)) fun H113 =>
      bnd (hS H113 0 8 0 (H2.1 0 8 0)) fun H121 =>
      bnd (hS H121 0 9 0 (H2.1 0 9 0)) fun H129 =>
      bnd (hS H129 0 10 0 (H2.1 0 10 0)) fun H137 =>
      some ((), H137))
    else (
      gd (0 ≤ x2 ∧ x2 < 16) <|
      gd (0 ≤ x2 ∧ x2 < 16) <|
      cl (fX3_copyFrom H2 x2 x2 H) fun r64 H64 =>
      (fX2_copyFrom_b44 H2 fuel) (x2 + 1) H64 )
noncomputable def fX2_copyFrom_b13 (H2 : hR) : Nat → Int → hR → Option (Unit × hR)
  | 0, _, _ => none
  | fuel + 1, x2, H =>
    gd (wR x2 ∧ wR (H2.1 0 4 0)) <|
    if (H2.1 0 4 0) ≤ x2 then (
      fX2_copyFrom_b44 H2 fuel0 0 H)
    else (
      gd (0 ≤ x2 ∧ x2 < 8) <|
      gd (0 ≤ x2 ∧ x2 < 8) <|
      cl (fX0_copyFrom H2 x2 x2 H) fun r33 H33 =>
      (fX2_copyFrom_b13 H2 fuel) (x2 + 1) H33 )
noncomputable def fX2_copyFrom (H2 : hR) (H : hR) : Option (Unit × hR) :=
  cl (fX1_copyFrom H2 H) fun r8 H8 =>
  fX2_copyFrom_b13 H2 fuel0 0 H8
noncomputable def fX2_settle (x1 : Int) (H : hR) : Option (Unit × hR) :=
  gd (0 ≤ x1 ∧ x1 < H.1 4 1 0 ∧ H.1 4 1 0 ≤ 2147483647) <|
  gd (0 ≤ (H.1 5 0 x1) ∧ (H.1 5 0 x1) < 16) <|
  bnd (hS H 3 (H.1 5 0 x1) 15 ((H.1 3 (H.1 5 0 x1) 15) - 1)) fun H24 =>
  gd (0 ≤ (H24.1 3 (H.1 5 0 x1) 0) ∧ (H24.1 3 (H.1 5 0 x1) 0) < 8) <|
  gd (0 ≤ x1 ∧ x1 < H24.1 4 1 0 ∧ H24.1 4 1 0 ≤ 2147483647) <|
  gd (wR (H24.1 5 1 x1)) <|
  bnd (hS H24 2 (H24.1 3 (H.1 5 0 x1) 0) 11 ((H24.1 2 (H24.1 3 (H.1 5 0 x1) 0) 11) - (H24.1 5 1 x1))) fun H53 =>
  gd (0 ≤ x1 ∧ x1 < H53.1 4 1 0 ∧ H53.1 4 1 0 ≤ 2147483647) <|
  bnd (hS H53 5 1 x1 0) fun H67 =>
  some ((), H67)
noncomputable def fX5_dropSettled_b28 (rec4 : Int → Int → hR → Option (Unit × hR)) : Nat → Int → Int → Int → hR → Option (Unit × hR)
  | 0, _, _, _, _ => none
  | fuel + 1, x1, x2, x3, H =>
    gd (wR x3) <|
    if 5 ≤ x3 then (
      rec4 (x1 + 1) (x2 + 1) H )
    else (
      gd (0 ≤ x3 ∧ x3 < 5) <|
      gd (0 ≤ x3 ∧ x3 < 5) <|
      gd (0 ≤ x2 ∧ x2 < H.1 4 1 0 ∧ H.1 4 1 0 ≤ 2147483647) <|
      gd (0 ≤ x1 ∧ x1 < H.1 4 1 0 ∧ H.1 4 1 0 ≤ 2147483647) <|
      bnd (hS H 5 x3 x1 (H.1 5 x3 x2)) fun H48 =>
      (fX5_dropSettled_b28 rec4 fuel) x1 x2 (x3 + 1) H48 )
noncomputable def fX5_dropSettled_b4 : Nat → Int → Int → hR → Option (Unit × hR)
  | 0, _, _, _ => none
  | fuel + 1, x1, x2, H =>
    gd (wR x2 ∧ wR (H.1 4 2 0)) <|
    if (H.1 4 2 0) ≤ x2 then (
      bnd (hS H 4 2 0 x1) fun H66 =>
      some ((), H66))
    else (
      gd (0 ≤ x2 ∧ x2 < H.1 4 1 0 ∧ H.1 4 1 0 ≤ 2147483647) <|
      gd (wR (H.1 5 1 x2)) <|
      if (H.1 5 1 x2) = 0 then (
        (fX5_dropSettled_b4 fuel) x1 (x2 + 1) H )
      else (
        fX5_dropSettled_b28 (fX5_dropSettled_b4 fuel) fuel0 x1 x2 0 H))
noncomputable def fX5_dropSettled (H : hR) : Option (Unit × hR) :=
  fX5_dropSettled_b4 fuel0 0 0 H
noncomputable def fX2_dropPayment (x1 : Int) (H : hR) : Option (Int × hR) :=
  cr (fX6_isBetween x1 0 ((H.1 4 2 0) - 1)) fun r11 =>
  gd (wR r11) <|
  if r11 = 0 then (
    some ((-1), H))
  else (
    gd (0 ≤ x1 ∧ x1 < H.1 4 1 0 ∧ H.1 4 1 0 ≤ 2147483647) <|
    gd (0 ≤ (H.1 5 0 x1) ∧ (H.1 5 0 x1) < 16) <|
    bnd (hS H 3 (H.1 5 0 x1) 13 ((H.1 3 (H.1 5 0 x1) 13) + 1)) fun H41 =>
    cl (fX2_settle x1 H41) fun r46 H46 =>
    cl (fX5_dropSettled H46) fun r53 H53 =>
    some ((H53.1 4 2 0), H53))
noncomputable def fX2_errorOfDays (x1 : Int) (H : hR) : Option Int :=
  cr (fX6_isBetween x1 1 400) fun r5 =>
  gd (wR r5) <|
  if r5 = 0 then (
    some (-2))
  else (
    gd (wR ((H.1 0 6 0) + x1)) <|
    if ((H.1 0 6 0) + x1) ≤ 1094 then (
      some 0)
    else (
      some (-5)))
noncomputable def fX2_failTry (x1 : Int) (H : hR) : Option (Unit × hR) :=
  gd (0 ≤ x1 ∧ x1 < H.1 4 1 0 ∧ H.1 4 1 0 ≤ 2147483647) <|
  gd (0 ≤ (H.1 5 0 x1) ∧ (H.1 5 0 x1) < 16) <|
  gd (0 ≤ (H.1 3 (H.1 5 0 x1) 0) ∧ (H.1 3 (H.1 5 0 x1) 0) < 8) <|
  gd (wR (H.1 0 8 0)) <|
  bnd (hS H 2 (H.1 3 (H.1 5 0 x1) 0) 3 ((H.1 2 (H.1 3 (H.1 5 0 x1) 0) 3) - (H.1 0 8 0))) fun H36 =>
  gd (0 ≤ (H36.1 3 (H.1 5 0 x1) 0) ∧ (H36.1 3 (H.1 5 0 x1) 0) < 8) <|
  gd (wR (H36.1 0 8 0)) <|
  bnd (hS H36 2 (H36.1 3 (H.1 5 0 x1) 0) 9 ((H36.1 2 (H36.1 3 (H.1 5 0 x1) 0) 9) + (H36.1 0 8 0))) fun H58 =>
  bnd (hS H58 0 10 0 ((H58.1 0 10 0) + 1)) fun H68 =>
  bnd (hS H68 0 11 0 (orI (H68.1 0 11 0) (shlI 1 (H68.1 3 (H.1 5 0 x1) 0)))) fun H83 =>
  gd (0 ≤ x1 ∧ x1 < H83.1 4 1 0 ∧ H83.1 4 1 0 ≤ 2147483647) <|
  gd (0 ≤ x1 ∧ x1 < H83.1 4 1 0 ∧ H83.1 4 1 0 ≤ 2147483647) <|
  bnd (hS H83 5 4 x1 ((H83.1 5 4 x1) + 1)) fun H100 =>
  gd (0 ≤ x1 ∧ x1 < H100.1 4 1 0 ∧ H100.1 4 1 0 ≤ 2147483647) <|
  gd (wR (H100.1 5 4 x1) ∧ wR (H100.1 0 7 0)) <|
  if (H100.1 0 7 0) ≤ (H100.1 5 4 x1) then (
    bnd (hS H100 3 (H.1 5 0 x1) 13 ((H100.1 3 (H.1 5 0 x1) 13) + 1)) fun H127 =>
    cl (fX2_settle x1 H127) fun r132 H132 =>
    some ((), H132))
  else (
    some ((), H100))
noncomputable def fX5_add_b39 (x1 : Int) (x2 : Int) (x3 : Int) (x4 : Int) (H : hR) : Option (Int × hR) :=
  gd (0 ≤ (H.1 4 2 0) ∧ (H.1 4 2 0) < H.1 4 1 0 ∧ H.1 4 1 0 ≤ 2147483647) <|
  bnd (hS H 5 0 (H.1 4 2 0) x1) fun H50 =>
  gd (0 ≤ (H50.1 4 2 0) ∧ (H50.1 4 2 0) < H50.1 4 1 0 ∧ H50.1 4 1 0 ≤ 2147483647) <|
  bnd (hS H50 5 1 (H50.1 4 2 0) x2) fun H62 =>
  gd (0 ≤ (H62.1 4 2 0) ∧ (H62.1 4 2 0) < H62.1 4 1 0 ∧ H62.1 4 1 0 ≤ 2147483647) <|
  bnd (hS H62 5 2 (H62.1 4 2 0) x3) fun H74 =>
  gd (0 ≤ (H74.1 4 2 0) ∧ (H74.1 4 2 0) < H74.1 4 1 0 ∧ H74.1 4 1 0 ≤ 2147483647) <|
  bnd (hS H74 5 3 (H74.1 4 2 0) x4) fun H87 =>
  gd (0 ≤ (H87.1 4 2 0) ∧ (H87.1 4 2 0) < H87.1 4 1 0 ∧ H87.1 4 1 0 ≤ 2147483647) <|
  bnd (hS H87 5 4 (H87.1 4 2 0) 0) fun H99 =>
  bnd (hS H99 4 2 0 ((H99.1 4 2 0) + 1)) fun H107 =>
  some (1, H107)
noncomputable def fX5_add (x1 : Int) (x2 : Int) (x3 : Int) (x4 : Int) (H : hR) : Option (Int × hR) :=
  gd (wR (H.1 4 2 0)) <|
  if (H.1 4 2 0) < 17520 then (
    gd (wR (H.1 4 2 0) ∧ wR (H.1 4 1 0)) <|
    if (H.1 4 2 0) < (H.1 4 1 0) then (
      fX5_add_b39 x1 x2 x3 x4 H)
    else (
      gd (wR (2 * (H.1 4 1 0)) ∧ wR 17520) <|
      cl (fX5_makeRoom (min (2 * (H.1 4 1 0)) 17520) H) fun r36 H36 =>
      fX5_add_b39 x1 x2 x3 x4 H36))
  else (
    some (0, H))
noncomputable def fX2_takeNextOccurrence_b57 (x1 : Int) (x2 : Int) (H : hR) : Option (Unit × hR) :=
  cl (fX5_add x1 (H.1 3 x2 2) (H.1 3 x2 18) (H.1 0 6 0) H) fun r74 H74 =>
  gd (wR r74) <|
  if r74 = 0 then (
    some ((), H74))
  else (
    bnd (hS H74 3 x2 15 ((H74.1 3 x2 15) + 1)) fun H88 =>
    gd (0 ≤ (H88.1 3 x2 0) ∧ (H88.1 3 x2 0) < 8) <|
    gd (wR (H88.1 3 x2 2)) <|
    bnd (hS H88 2 (H88.1 3 x2 0) 11 ((H88.1 2 (H88.1 3 x2 0) 11) + (H88.1 3 x2 2))) fun H110 =>
    some ((), H110))
noncomputable def fX2_takeNextOccurrence_b24 (x1 : Int) (x2 : Int) (H : hR) : Option (Unit × hR) :=
  gd (wR (H.1 3 x2 7)) <|
  if (H.1 3 x2 7) = 4 then (
    cr (fX1_isBusiness (H.1 3 x2 18) H) fun r40 =>
    gd (wR r40) <|
    if r40 = 0 then (
      bnd (hS H 3 x2 14 ((H.1 3 x2 14) + 1)) fun H53 =>
      some ((), H53))
    else (
      fX2_takeNextOccurrence_b57 x1 x2 H))
  else (
    fX2_takeNextOccurrence_b57 x1 x2 H)
noncomputable def fX2_takeNextOccurrence (x1 : Int) (H : hR) : Option (Unit × hR) :=
  gd (0 ≤ x1 ∧ x1 < 16) <|
  gd (wR (H.1 3 x1 9)) <|
  if (H.1 3 x1 9) = 0 then (
    bnd (hS H 3 x1 10 ((H.1 3 x1 10) - 1)) fun H21 =>
    fX2_takeNextOccurrence_b24 x1 x1 H21)
  else (
    fX2_takeNextOccurrence_b24 x1 x1 H)
noncomputable def fX3_hasPaymentsLeft (i : Int) (H : hR) : Option Int :=
  gd (wR (H.1 3 i 9)) <|
  if (H.1 3 i 9) = 0 then (
    gd (wR (H.1 3 i 10)) <|
    if (H.1 3 i 10) ≤ 0 then (
      some 0)
    else (
      some 1))
  else (
    some 1)
noncomputable def fX2_makePaymentsDue_b100 (rec2 : Int → hR → Option (Unit × hR)) (x1 : Int) (x2 : Int) (H : hR) : Option (Unit × hR) :=
  bnd (hS H 3 x2 11 2) fun H102 =>
  rec2 (x1 + 1) H102 
noncomputable def fX2_makePaymentsDue_b83 (rec2 : Int → hR → Option (Unit × hR)) (x1 : Int) (x2 : Int) (H : hR) : Option (Unit × hR) :=
  cr (fX3_hasPaymentsLeft x2 H) fun r84 =>
  gd (wR r84) <|
  if r84 = 0 then (
    fX2_makePaymentsDue_b100 rec2 x1 x2 H)
  else (
    gd (wR (H.1 3 x2 19)) <|
    if (H.1 3 x2 19) = 1095 then (
      fX2_makePaymentsDue_b100 rec2 x1 x2 H)
    else (
      rec2 (x1 + 1) H ))
noncomputable def fX2_makePaymentsDue_b29 (rec2 : Int → hR → Option (Unit × hR)) : Nat → Int → Int → Int → hR → Option (Unit × hR)
  | 0, _, _, _, _ => none
  | fuel + 1, x1, x2, x3, H =>
    gd (wR x3) <|
    if 1094 < x3 then (
      fX2_makePaymentsDue_b83 rec2 x1 x2 H)
    else (
      cr (fX3_hasPaymentsLeft x2 H) fun r37 =>
      gd (wR r37) <|
      if r37 = 0 then (
        fX2_makePaymentsDue_b83 rec2 x1 x2 H)
      else (
        gd (wR (H.1 3 x2 19) ∧ wR (H.1 0 6 0)) <|
        if (H.1 0 6 0) < (H.1 3 x2 19) then (
          fX2_makePaymentsDue_b83 rec2 x1 x2 H)
        else (
          cl (fX2_takeNextOccurrence x1 H) fun r56 H56 =>
          bnd (hS H56 3 x2 16 ((H56.1 3 x2 17) + 1)) fun H66 =>
          cl (fX3_aim x2 H66) fun r74 H74 =>
          (fX2_makePaymentsDue_b29 rec2 fuel) x1 x2 (x3 + 1) H74 )))
noncomputable def fX2_makePaymentsDue_b2 : Nat → Int → hR → Option (Unit × hR)
  | 0, _, _ => none
  | fuel + 1, x1, H =>
    gd (wR x1 ∧ wR (H.1 0 5 0)) <|
    if (H.1 0 5 0) ≤ x1 then (
      some ((), H))
    else (
      gd (0 ≤ x1 ∧ x1 < 16) <|
      gd (wR (H.1 3 x1 11)) <|
      if (H.1 3 x1 11) = 0 then (
        fX2_makePaymentsDue_b29 (fX2_makePaymentsDue_b2 fuel) fuel0 x1 x1 0 H)
      else (
        (fX2_makePaymentsDue_b2 fuel) (x1 + 1) H ))
noncomputable def fX2_makePaymentsDue (H : hR) : Option (Unit × hR) :=
  fX2_makePaymentsDue_b2 fuel0 0 H
noncomputable def fX2_nameFeeder_b31 (x1 : Int) (x2 : Int) (H : hR) : Option (Int × hR) :=
  gd (0 ≤ x1 ∧ x1 < 8) <|
  gd (0 ≤ x1 ∧ x1 < 8) <|
  bnd (hS H 2 x1 2 x2) fun H48 =>
  some ((H.1 2 x1 2), H48)
noncomputable def fX2_nameFeeder (x1 : Int) (x2 : Int) (H : hR) : Option (Int × hR) :=
  cr (fX2_hasAccount x1 H) fun r2 =>
  gd (wR r2) <|
  if r2 = 0 then (
    some ((-1), H))
  else (
    gd (wR x2) <|
    if x2 = (-6) then (
      fX2_nameFeeder_b31 x1 x2 H)
    else (
      gd (wR x2 ∧ wR x1) <|
      if x2 = x1 then (
        some ((-1), H))
      else (
        cr (fX2_hasAccount x2 H) fun r23 =>
        gd (wR r23) <|
        if r23 = 0 then (
          some ((-1), H))
        else (
          fX2_nameFeeder_b31 x1 x2 H))))
noncomputable def fX2_nextNominalDay (x1 : Int) (H : hR) : Option (Int × hR) :=
  gd (0 ≤ x1 ∧ x1 < 16) <|
  gd (wR (H.1 3 x1 11)) <|
  if (H.1 3 x1 11) = 2 then (
    some ((-6), H))
  else (
    gd (0 ≤ x1 ∧ x1 < 16) <|
    cl (fX3_aim x1 H) fun r26 H26 =>
    gd (0 ≤ x1 ∧ x1 < 16) <|
    some ((H26.1 3 x1 18), H26))
noncomputable def fX2_settingOf (x1 : Int) (H : hR) : Option Int :=
  gd (wR x1) <|
  if x1 = 0 then (
    some (H.1 0 7 0))
  else if x1 = 1 then (
    some (H.1 0 8 0))
  else if x1 = 2 then (
    some (H.1 0 9 0))
  else (
    some (H.1 1 2 0))
noncomputable def fX3_numberOf (i : Int) (x1 : Int) (H : hR) : Option Int :=
  gd (wR x1) <|
  if x1 = 0 then (
    some (H.1 3 i 0))
  else if x1 = 1 then (
    some (H.1 3 i 1))
  else if x1 = 2 then (
    some (H.1 3 i 2))
  else if x1 = 3 then (
    some (H.1 3 i 3))
  else if x1 = 4 then (
    some (H.1 3 i 4))
  else if x1 = 5 then (
    some (H.1 3 i 5))
  else if x1 = 6 then (
    some (H.1 3 i 6))
  else if x1 = 7 then (
    some (H.1 3 i 7))
  else if x1 = 8 then (
    some (H.1 3 i 8))
  else if x1 = 9 then (
    gd (wR (H.1 3 i 11)) <|
    if (H.1 3 i 11) = 2 then (
      some 0)
    else (
      some (H.1 3 i 10)))
  else if x1 = 10 then (
    some (H.1 3 i 11))
  else if x1 = 11 then (
    some (H.1 3 i 12))
  else if x1 = 12 then (
    some (H.1 3 i 13))
  else if x1 = 13 then (
    some (H.1 3 i 14))
  else if x1 = 14 then (
    some (H.1 3 i 15))
  else (
    some (-2))
noncomputable def fX2_sumOverOrders_b4 (H : hR) : Nat → Int → Int → Int → Option Int
  | 0, _, _, _ => none
  | fuel + 1, x1, x2, x3 =>
    gd (wR x3 ∧ wR (H.1 0 5 0)) <|
    if (H.1 0 5 0) ≤ x3 then (
      some x2)
    else (
      gd (0 ≤ x3 ∧ x3 < 16) <|
      cr (fX3_numberOf x3 x1 H) fun r20 =>
      (fX2_sumOverOrders_b4 H fuel) x1 (x2 + r20) (x3 + 1) )
noncomputable def fX2_sumOverOrders (x1 : Int) (H : hR) : Option Int :=
  fX2_sumOverOrders_b4 H fuel0 x1 0 0
noncomputable def fX2_numberOf (x1 : Int) (H : hR) : Option Int :=
  gd (wR x1) <|
  if x1 = 0 then (
    some (H.1 0 6 0))
  else if x1 = 1 then (
    some (H.1 0 4 0))
  else if x1 = 2 then (
    some (H.1 0 5 0))
  else if x1 = 3 then (
    some (H.1 1 1 0))
  else if x1 = 4 then (
    some (H.1 4 2 0))
  else if x1 = 5 then (
    cr (fX2_sumOverOrders (x1 + 6) H) fun r112 =>
    some r112)
  else if x1 = 6 then (
    cr (fX2_sumOverOrders (x1 + 6) H) fun r112 =>
    some r112)
  else if x1 = 7 then (
    cr (fX2_sumOverOrders (x1 + 6) H) fun r112 =>
    some r112)
  else if x1 = 8 then (
    some (H.1 0 10 0))
  else if x1 = 9 then (
    some (-2))
  else if x1 = 10 then (
    some (-2))
  else if x1 = 11 then (
    cr (fX2_settingOf (x1 - 11) H) fun r126 =>
    some r126)
  else if x1 = 12 then (
    cr (fX2_settingOf (x1 - 11) H) fun r126 =>
    some r126)
  else if x1 = 13 then (
    cr (fX2_settingOf (x1 - 11) H) fun r126 =>
    some r126)
  else if x1 = 14 then (
    cr (fX2_settingOf (x1 - 11) H) fun r126 =>
    some r126)
  else (
    some (-2))
noncomputable def fX2_tryPayment_b138 (x1 : Int) (x2 : Int) (H : hR) : Option (Unit × hR) :=
  bnd (hS H 3 x2 12 ((H.1 3 x2 12) + 1)) fun H145 =>
  cl (fX2_settle x1 H145) fun r150 H150 =>
  some ((), H150)
noncomputable def fX2_tryPayment (x1 : Int) (H : hR) : Option (Unit × hR) :=
  gd (0 ≤ x1 ∧ x1 < H.1 4 1 0 ∧ H.1 4 1 0 ≤ 2147483647) <|
  gd (0 ≤ (H.1 5 0 x1) ∧ (H.1 5 0 x1) < 16) <|
  gd (0 ≤ (H.1 3 (H.1 5 0 x1) 0) ∧ (H.1 3 (H.1 5 0 x1) 0) < 8) <|
  gd (0 ≤ x1 ∧ x1 < H.1 4 1 0 ∧ H.1 4 1 0 ≤ 2147483647) <|
  gd (wR (H.1 2 (H.1 3 (H.1 5 0 x1) 0) 0)) <|
  gd (wR (H.1 5 1 x1)) <|
  gd (wR64 ((H.1 2 (H.1 3 (H.1 5 0 x1) 0) 3) + (H.1 2 (H.1 3 (H.1 5 0 x1) 0) 0)) ∧ wR64 (H.1 5 1 x1)) <|
  if (H.1 5 1 x1) ≤ ((H.1 2 (H.1 3 (H.1 5 0 x1) 0) 3) + (H.1 2 (H.1 3 (H.1 5 0 x1) 0) 0)) then (
    gd (wR (H.1 5 1 x1)) <|
    bnd (hS H 2 (H.1 3 (H.1 5 0 x1) 0) 3 ((H.1 2 (H.1 3 (H.1 5 0 x1) 0) 3) - (H.1 5 1 x1))) fun H72 =>
    gd (wR (H.1 5 1 x1)) <|
    bnd (hS H72 2 (H.1 3 (H.1 5 0 x1) 0) 5 ((H72.1 2 (H.1 3 (H.1 5 0 x1) 0) 5) + (H.1 5 1 x1))) fun H84 =>
    cr (fX2_hasAccount (H84.1 3 (H.1 5 0 x1) 1) H84) fun r92 =>
    gd (wR r92) <|
    if r92 = 0 then (
      fX2_tryPayment_b138 x1 (H.1 5 0 x1) H84)
    else (
      gd (0 ≤ (H84.1 3 (H.1 5 0 x1) 1) ∧ (H84.1 3 (H.1 5 0 x1) 1) < 8) <|
      gd (wR (H.1 5 1 x1)) <|
      bnd (hS H84 2 (H84.1 3 (H.1 5 0 x1) 1) 3 ((H84.1 2 (H84.1 3 (H.1 5 0 x1) 1) 3) + (H.1 5 1 x1))) fun H115 =>
      gd (0 ≤ (H115.1 3 (H.1 5 0 x1) 1) ∧ (H115.1 3 (H.1 5 0 x1) 1) < 8) <|
      gd (wR (H.1 5 1 x1)) <|
      bnd (hS H115 2 (H115.1 3 (H.1 5 0 x1) 1) 6 ((H115.1 2 (H115.1 3 (H.1 5 0 x1) 1) 6) + (H.1 5 1 x1))) fun H135 =>
      fX2_tryPayment_b138 x1 (H.1 5 0 x1) H135))
  else (
    cl (fX2_failTry x1 H) fun r59 H59 =>
    some ((), H59))
noncomputable def fX2_payWaitingOf_b2 : Nat → Int → Int → hR → Option (Unit × hR)
  | 0, _, _, _ => none
  | fuel + 1, x1, x2, H =>
    gd (wR x2 ∧ wR (H.1 4 2 0)) <|
    if (H.1 4 2 0) ≤ x2 then (
      some ((), H))
    else (
      gd (0 ≤ x2 ∧ x2 < H.1 4 1 0 ∧ H.1 4 1 0 ≤ 2147483647) <|
      gd (0 ≤ (H.1 5 0 x2) ∧ (H.1 5 0 x2) < 16) <|
      gd (wR (H.1 3 (H.1 5 0 x2) 8) ∧ wR x1) <|
      if (H.1 3 (H.1 5 0 x2) 8) = x1 then (
        cl (fX2_tryPayment x2 H) fun r38 H38 =>
        (fX2_payWaitingOf_b2 fuel) x1 (x2 + 1) H38 )
      else (
        (fX2_payWaitingOf_b2 fuel) x1 (x2 + 1) H ))
noncomputable def fX2_payWaitingOf (x1 : Int) (H : hR) : Option (Unit × hR) :=
  fX2_payWaitingOf_b2 fuel0 x1 0 H
noncomputable def fX2_payWaiting_b48 : Nat → Int → Int → hR → Option (Unit × hR)
  | 0, _, _, _ => none
  | fuel + 1, x1, x2, H =>
    gd (wR x2) <|
    if x2 < 0 then (
      cl (fX5_dropSettled H) fun r75 H75 =>
      some ((), H75))
    else (
      gd (wR (andI (shrI x1 x2) 1)) <|
      if (andI (shrI x1 x2) 1) = 0 then (
        (fX2_payWaiting_b48 fuel) x1 (x2 + (-1)) H )
      else (
        cl (fX2_payWaitingOf x2 H) fun r62 H62 =>
        (fX2_payWaiting_b48 fuel) x1 (x2 + (-1)) H62 ))
noncomputable def fX2_payWaiting_b4 : Nat → Int → Int → hR → Option (Unit × hR)
  | 0, _, _, _ => none
  | fuel + 1, x1, x2, H =>
    gd (wR x2 ∧ wR (H.1 4 2 0)) <|
    if (H.1 4 2 0) ≤ x2 then (
      fX2_payWaiting_b48 fuel0 x1 9 H)
    else (
      gd (0 ≤ x2 ∧ x2 < H.1 4 1 0 ∧ H.1 4 1 0 ≤ 2147483647) <|
      gd (0 ≤ (H.1 5 0 x2) ∧ (H.1 5 0 x2) < 16) <|
      (fX2_payWaiting_b4 fuel) (orI x1 (shlI 1 (H.1 3 (H.1 5 0 x2) 8))) (x2 + 1) H )
noncomputable def fX2_payWaiting (H : hR) : Option (Unit × hR) :=
  fX2_payWaiting_b4 fuel0 0 0 H
noncomputable def fX2_sweep_b2 : Nat → Int → hR → Option (Unit × hR)
  | 0, _, _ => none
  | fuel + 1, x1, H =>
    gd (wR x1 ∧ wR (H.1 0 4 0)) <|
    if (H.1 0 4 0) ≤ x1 then (
      some ((), H))
    else (
      gd (0 ≤ x1 ∧ x1 < 8) <|
      cr (fX2_hasAccount (H.1 2 x1 2) H) fun r22 =>
      gd (wR r22) <|
      if r22 = 0 then (
        (fX2_sweep_b2 fuel) (x1 + 1) H )
      else (
        gd (0 ≤ (H.1 2 x1 2) ∧ (H.1 2 x1 2) < 8) <|
        gd (wR (H.1 2 x1 0)) <|
        gd (wR (H.1 2 (H.1 2 x1 2) 1)) <|
        gd (wR64 (((H.1 2 x1 11) - (H.1 2 x1 3)) - (H.1 2 x1 0)) ∧ wR64 ((H.1 2 (H.1 2 x1 2) 3) - (H.1 2 (H.1 2 x1 2) 1))) <|
        gd (wR64 (min (((H.1 2 x1 11) - (H.1 2 x1 3)) - (H.1 2 x1 0)) ((H.1 2 (H.1 2 x1 2) 3) - (H.1 2 (H.1 2 x1 2) 1)))) <|
        if 0 < (min (((H.1 2 x1 11) - (H.1 2 x1 3)) - (H.1 2 x1 0)) ((H.1 2 (H.1 2 x1 2) 3) - (H.1 2 (H.1 2 x1 2) 1))) then (
          bnd (hS H 2 (H.1 2 x1 2) 3 ((H.1 2 (H.1 2 x1 2) 3) - (min (((H.1 2 x1 11) - (H.1 2 x1 3)) - (H.1 2 x1 0)) ((H.1 2 (H.1 2 x1 2) 3) - (H.1 2 (H.1 2 x1 2) 1))))) fun H93 =>
          bnd (hS H93 2 (H.1 2 x1 2) 8 ((H93.1 2 (H.1 2 x1 2) 8) + (min (((H.1 2 x1 11) - (H.1 2 x1 3)) - (H.1 2 x1 0)) ((H.1 2 (H.1 2 x1 2) 3) - (H.1 2 (H.1 2 x1 2) 1))))) fun H104 =>
          bnd (hS H104 2 x1 3 ((H104.1 2 x1 3) + (min (((H.1 2 x1 11) - (H.1 2 x1 3)) - (H.1 2 x1 0)) ((H.1 2 (H.1 2 x1 2) 3) - (H.1 2 (H.1 2 x1 2) 1))))) fun H115 =>
          bnd (hS H115 2 x1 7 ((H115.1 2 x1 7) + (min (((H.1 2 x1 11) - (H.1 2 x1 3)) - (H.1 2 x1 0)) ((H.1 2 (H.1 2 x1 2) 3) - (H.1 2 (H.1 2 x1 2) 1))))) fun H126 =>
          (fX2_sweep_b2 fuel) (x1 + 1) H126 )
        else (
          (fX2_sweep_b2 fuel) (x1 + 1) H )))
noncomputable def fX2_sweep (H : hR) : Option (Unit × hR) :=
  fX2_sweep_b2 fuel0 0 H
noncomputable def fX2_passDays_b77 (rec31 : Int → Int → Int → hR → Option (Int × hR)) (x1 : Int) (x2 : Int) (x3 : Int) (H : hR) : Option (Int × hR) :=
  cl (fX2_chargeInterest H) fun r78 H78 =>
  bnd (hS H78 0 6 0 ((H78.1 0 6 0) + 1)) fun H88 =>
  gd (wR (andI (H88.1 0 11 0) x2)) <|
  if (andI (H88.1 0 11 0) x2) = 0 then (
    rec31 x1 x2 (x3 + 1) H88 )
  else (
    some (((H88.1 0 6 0) - 1), H88))
noncomputable def fX2_passDays_b31 : Nat → Int → Int → Int → hR → Option (Int × hR)
  | 0, _, _, _, _ => none
  | fuel + 1, x1, x2, x3, H =>
    gd (wR x3 ∧ wR x1) <|
    if x1 ≤ x3 then (
      some ((-6), H))
    else (
      gd (wR (H.1 0 6 0)) <|
      if 1094 ≤ (H.1 0 6 0) then (
        some ((-6), H))
      else (
        bnd (hS H 0 11 0 0) fun H48 =>
        cl (fX2_makePaymentsDue H48) fun r52 H52 =>
        cl (fX2_sweep H52) fun r56 H56 =>
        cr (fX1_isBusiness (H56.1 0 6 0) H56) fun r67 =>
        gd (wR r67) <|
        if r67 = 0 then (
          fX2_passDays_b77 (fX2_passDays_b31 fuel) x1 x2 x3 H56)
        else (
          cl (fX2_payWaiting H56) fun r74 H74 =>
          fX2_passDays_b77 (fX2_passDays_b31 fuel) x1 x2 x3 H74)))
noncomputable def fX2_passDays_b2 : Nat → Int → Int → Int → hR → Option (Int × hR)
  | 0, _, _, _, _ => none
  | fuel + 1, x1, x2, x3, H =>
    gd (wR x3 ∧ wR (H.1 0 5 0)) <|
    if (H.1 0 5 0) ≤ x3 then (
      fX2_passDays_b31 fuel0 x1 x2 0 H)
    else (
      gd (0 ≤ x3 ∧ x3 < 16) <|
      cl (fX3_aim x3 H) fun r20 H20 =>
      (fX2_passDays_b2 fuel) x1 x2 (x3 + 1) H20 )
noncomputable def fX2_passDays (x1 : Int) (x2 : Int) (H : hR) : Option (Int × hR) :=
  fX2_passDays_b2 fuel0 x1 x2 0 H
noncomputable def fX2_payIn (x1 : Int) (x2 : Int) (H : hR) : Option (Int × hR) :=
  cr (fX2_hasAccount x1 H) fun r2 =>
  gd (wR r2) <|
  if r2 = 0 then (
    some ((-1), H))
  else (
    cr (fX6_isBetween x2 1 100000000) fun r14 =>
    gd (wR r14) <|
    if r14 = 0 then (
      some ((-2), H))
    else (
      gd (0 ≤ x1 ∧ x1 < 8) <|
      gd (wR x2) <|
      bnd (hS H 2 x1 3 ((H.1 2 x1 3) + x2)) fun H36 =>
      gd (0 ≤ x1 ∧ x1 < 8) <|
      gd (wR x2) <|
      bnd (hS H36 2 x1 4 ((H36.1 2 x1 4) + x2)) fun H52 =>
      gd (0 ≤ x1 ∧ x1 < 8) <|
      gd (wR64 (H52.1 2 x1 3)) <|
      if (H52.1 2 x1 3) < 0 then (
        some (0, H52))
      else (
        some (1, H52))))
noncomputable def fX2_replaceSetting (x1 : Int) (x2 : Int) (H : hR) : Option (Int × hR) :=
  cr (fX6_isBetween x1 0 3) fun r3 =>
  gd (wR r3) <|
  if r3 = 0 then (
    some ((-2), H))
  else (
    gd (0 ≤ x1 ∧ x1 < 4) <|
    gd (0 ≤ x1 ∧ x1 < 4) <|
    cr (fX6_isBetween x2 (sRow 0 x1) (sRow 1 x1)) fun r23 =>
    gd (wR r23) <|
    if r23 = 0 then (
      some ((-2), H))
    else (
      cr (fX2_settingOf x1 H) fun r34 =>
      gd (wR x1) <|
      if x1 = 0 then (
        bnd (hS H 0 7 0 x2) fun H66 =>
        some (r34, H66))
      else if x1 = 1 then (
        bnd (hS H 0 8 0 x2) fun H74 =>
        some (r34, H74))
      else if x1 = 2 then (
        bnd (hS H 0 9 0 x2) fun H82 =>
        some (r34, H82))
      else (
        bnd (hS H 1 2 0 x2) fun H93 =>
        some (r34, H93))))
noncomputable def fX2_resumeOrder (x1 : Int) (H : hR) : Option (Int × hR) :=
  cr (fX2_hasOrder x1 H) fun r2 =>
  gd (wR r2) <|
  if r2 = 0 then (
    some ((-1), H))
  else (
    gd (0 ≤ x1 ∧ x1 < 16) <|
    gd (wR (H.1 3 x1 11)) <|
    if (H.1 3 x1 11) = 1 then (
      gd (0 ≤ x1 ∧ x1 < 16) <|
      bnd (hS H 3 x1 11 0) fun H33 =>
      gd (0 ≤ x1 ∧ x1 < 16) <|
      cl (fX3_leaveOutBefore x1 (H33.1 0 6 0) H33) fun r50 H50 =>
      some (r50, H50))
    else (
      some ((-5), H)))
noncomputable def fX2_stopOrder (x1 : Int) (H : hR) : Option (Int × hR) :=
  cr (fX2_hasOrder x1 H) fun r2 =>
  gd (wR r2) <|
  if r2 = 0 then (
    some ((-1), H))
  else (
    gd (0 ≤ x1 ∧ x1 < 16) <|
    gd (wR (H.1 3 x1 11)) <|
    if (H.1 3 x1 11) = 0 then (
      gd (0 ≤ x1 ∧ x1 < 16) <|
      bnd (hS H 3 x1 11 1) fun H32 =>
      gd (0 ≤ x1 ∧ x1 < 16) <|
      some ((H32.1 3 x1 15), H32))
    else (
      some ((-5), H)))
noncomputable def fX3_dateBehindNext_b26 (x0 : Int) (x1 : Int) (H : hR) : Option (Int × hR) :=
  cl (fX3_aim x0 H) fun r28 H28 =>
  cr (fX3_nominalDay x0 ((H28.1 3 x0 17) + x1) H28) fun r39 =>
  gd (wR r39) <|
  if r39 = (-6) then (
    some ((-6), H28))
  else (
    cr (fX1_shifted r39 (H28.1 3 x0 7) H28) fun r60 =>
    some (r60, H28))
noncomputable def fX3_dateBehindNext (i : Int) (x1 : Int) (H : hR) : Option (Int × hR) :=
  gd (wR (H.1 3 i 11)) <|
  if (H.1 3 i 11) = 2 then (
    some ((-6), H))
  else (
    gd (wR (H.1 3 i 9)) <|
    if (H.1 3 i 9) = 0 then (
      gd (wR x1 ∧ wR (H.1 3 i 10)) <|
      if x1 < (H.1 3 i 10) then (
        fX3_dateBehindNext_b26 i x1 H)
      else (
        some ((-6), H)))
    else (
      fX3_dateBehindNext_b26 i x1 H))
noncomputable def fX4_append_b79 : Nat → Int → Int → Int → (Int → Int → Int) → Option (Int × (Int → Int → Int))
  | 0, _, _, _, _ => none
  | fuel + 1, x1, x3, x4, p =>
    gd (wR x4 ∧ wR x3) <|
    if x3 ≤ x4 then (
      bnd (pS p 0 1 ((p 0 1) + x3)) fun p127 =>
      some ((p127 0 1), p127))
    else (
      gd ((0 ≤ ((p 0 1) + x4) ∧ ((p 0 1) + x4) < 80) ∧ (0 ≤ (i2cI (landI (lushrI x1 (8 * ((x3 - 1) - x4))) 255)) ∧ (i2cI (landI (lushrI x1 (8 * ((x3 - 1) - x4))) 255)) ≤ 65535)) <|
      bnd (pS p 1 ((p 0 1) + x4) (i2cI (landI (lushrI x1 (8 * ((x3 - 1) - x4))) 255))) fun p113 =>
      (fX4_append_b79 fuel) x1 x3 (x4 + 1) p113 )
noncomputable def fX4_append_b55 (x1 : Int) (x3 : Int) (p : (Int → Int → Int)) : Option (Int × (Int → Int → Int)) :=
  gd (wR x3) <|
  if x3 = 0 then (
    some ((-2), p))
  else (
    gd (wR ((p 0 1) + x3)) <|
    if ((p 0 1) + x3) ≤ 80 then (
      fX4_append_b79 fuel0 x1 x3 0 p)
    else (
      some ((-4), p)))
noncomputable def fX4_append_b5 : Nat → Int → Int → Int → (Int → Int → Int) → Option (Int × (Int → Int → Int))
  | 0, _, _, _, _ => none
  | fuel + 1, x1, x3, x4, p =>
    gd (wR x3) <|
    if 8 ≤ x3 then (
      fX4_append_b55 x1 x3 p)
    else (
      gd (wR64 x4) <|
      if x4 = 0 then (
        fX4_append_b55 x1 x3 p)
      else (
        cr (fX6_isBetween (landI x4 255) 33 126) fun r33 =>
        gd (wR r33) <|
        if r33 = 0 then (
          some ((-2), p))
        else (
          (fX4_append_b5 fuel) x1 (x3 + 1) (lushrI x4 8) p )))
noncomputable def fX4_append (x1 : Int) (p : (Int → Int → Int)) : Option (Int × (Int → Int → Int)) :=
  fX4_append_b5 fuel0 x1 0 x1 p
noncomputable def fX4_sign (p : (Int → Int → Int)) : Option Int :=
  gd (wR (p 0 2)) <|
  if (p 0 2) < 0 then (
    some 0)
  else (
    gd (wR (p 0 2) ∧ wR (p 0 1)) <|
    if (p 0 1) ≤ (p 0 2) then (
      some 0)
    else (
      gd (wR (p 0 2)) <|
      if 80 ≤ (p 0 2) then (
        some 0)
      else (
        gd (0 ≤ (p 0 2) ∧ (p 0 2) < 80) <|
        gd (0 ≤ (p 1 (p 0 2)) ∧ (p 1 (p 0 2)) ≤ 65535) <|
        some (p 1 (p 0 2)))))
noncomputable def fX4_takes (x1 : Int) (p : (Int → Int → Int)) : Option (Int × (Int → Int → Int)) :=
  cr (fX4_sign p) fun r1 =>
  gd (wR r1 ∧ wR x1) <|
  if r1 = x1 then (
    bnd (pS p 0 2 ((p 0 2) + 1)) fun p17 =>
    some (1, p17))
  else (
    some (0, p))
noncomputable def fX4_readNumber_b67 (x1 : Int) (x2 : Int) (p : (Int → Int → Int)) : Option (Int × (Int → Int → Int)) :=
  gd (wR x2) <|
  if x2 = 0 then (
    some ((-1), p))
  else (
    some (x1, p))
noncomputable def fX4_readNumber_b15 : Nat → Int → Int → (Int → Int → Int) → Option (Int × (Int → Int → Int))
  | 0, _, _, _ => none
  | fuel + 1, x1, x2, p =>
    gd (wR x2) <|
    if 5 ≤ x2 then (
      fX4_readNumber_b67 x1 x2 p)
    else (
      cr (fX4_sign p) fun r21 =>
      gd (wR r21) <|
      if r21 < 48 then (
        fX4_readNumber_b67 x1 x2 p)
      else (
        cr (fX4_sign p) fun r30 =>
        gd (wR r30) <|
        if 57 < r30 then (
          fX4_readNumber_b67 x1 x2 p)
        else (
          cr (fX4_sign p) fun r43 =>
          bnd (pS p 0 2 ((p 0 2) + 1)) fun p58 =>
          (fX4_readNumber_b15 fuel) ((10 * x1) + (r43 - 48)) (x2 + 1) p58 )))
noncomputable def fX4_readNumber (p : (Int → Int → Int)) : Option (Int × (Int → Int → Int)) :=
  cl (fX4_takes 48 p) fun r3 p3 =>
  gd (wR r3) <|
  if r3 = 0 then (
    fX4_readNumber_b15 fuel0 0 0 p3)
  else (
    some (0, p3))
noncomputable def fX4_readOneOf (x1 : Int) (p : (Int → Int → Int)) : Option (Int × (Int → Int → Int)) :=
  cr (fX4_sign p) fun c =>
  gd (0 ≤ c ∧ c ≤ 65535) <|
  if 0 ≤ idxS x1 c then (
    some (idxS x1 c, pS p 0 2 (p 0 2 + 1)))
  else (
    some (idxS x1 c, p))
noncomputable def fX4_readAmountAndDates_b71 (t1 : Int) (p : (Int → Int → Int)) : Option (Int × (Int → Int → Int)) :=
  bnd (pS p 0 9 t1) fun p71 =>
  gd (wR (p71 0 9)) <|
  if 0 ≤ (p71 0 9) then (
    cl (fX4_readOneOf 2 p71) fun r87 p87 =>
    bnd (pS p87 0 10 r87) fun p90 =>
    gd (wR (p90 0 10)) <|
    if (p90 0 10) < 0 then (
      some (0, p90))
    else (
      some (1, p90)))
  else (
    some (0, p71))
noncomputable def fX4_readAmountAndDates (p : (Int → Int → Int)) : Option (Int × (Int → Int → Int)) :=
  cl (fX4_readNumber p) fun r2 p2 =>
  bnd (pS p2 0 6 r2) fun p5 =>
  gd (wR (p5 0 6)) <|
  if 0 ≤ (p5 0 6) then (
    cl (fX4_readOneOf 1 p5) fun r21 p21 =>
    bnd (pS p21 0 7 r21) fun p24 =>
    gd (wR (p24 0 7)) <|
    if 0 ≤ (p24 0 7) then (
      cl (fX4_readNumber p24) fun r38 p38 =>
      bnd (pS p38 0 8 r38) fun p41 =>
      gd (wR (p41 0 8)) <|
      if 0 ≤ (p41 0 8) then (
        cl (fX4_takes 47 p41) fun r57 p57 =>
        gd (wR r57) <|
        if r57 = 0 then (
          fX4_readAmountAndDates_b71 1 p57)
        else (
          cl (fX4_readNumber p57) fun r64 p64 =>
          fX4_readAmountAndDates_b71 r64 p64))
      else (
        some (0, p41)))
    else (
      some (0, p24)))
  else (
    some (0, p5))
noncomputable def fX4_readDigit (p : (Int → Int → Int)) : Option (Int × (Int → Int → Int)) :=
  cl (fX4_readOneOf 0 p) fun r3 p3 =>
  some (r3, p3)
noncomputable def fX4_readParties_b45 (t1 : Int) (p : (Int → Int → Int)) : Option (Int × (Int → Int → Int)) :=
  bnd (pS p 0 5 t1) fun p45 =>
  gd (wR (p45 0 5)) <|
  if (p45 0 5) < 0 then (
    some (0, p45))
  else (
    cl (fX4_takes 42 p45) fun r58 p58 =>
    gd (wR r58) <|
    if r58 = 0 then (
      some (0, p58))
    else (
      some (1, p58)))
noncomputable def fX4_readParties (p : (Int → Int → Int)) : Option (Int × (Int → Int → Int)) :=
  cl (fX4_readDigit p) fun r2 p2 =>
  bnd (pS p2 0 4 r2) fun p5 =>
  gd (wR (p5 0 4)) <|
  if (p5 0 4) < 0 then (
    some (0, p5))
  else (
    cl (fX4_takes 62 p5) fun r18 p18 =>
    gd (wR r18) <|
    if r18 = 0 then (
      some (0, p18))
    else (
      cl (fX4_takes 45 p18) fun r30 p30 =>
      gd (wR r30) <|
      if r30 = 0 then (
        cl (fX4_readDigit p30) fun r42 p42 =>
        fX4_readParties_b45 r42 p42)
      else (
        fX4_readParties_b45 8 p30)))
noncomputable def fX4_readAct (p : (Int → Int → Int)) : Option (Int × (Int → Int → Int)) :=
  cr (fX4_sign p) fun r2 =>
  gd (0 ≤ r2 ∧ r2 ≤ 65535) <|
  bnd (pS p 0 3 r2) fun p5 =>
  gd (wR (p5 0 3)) <|
  if (p5 0 3) = 100 then (
    bnd (pS p5 0 2 ((p5 0 2) + 1)) fun p132 =>
    cl (fX4_readDigit p132) fun r137 p137 =>
    bnd (pS p137 0 4 r137) fun p140 =>
    gd (wR (p140 0 4)) <|
    if (p140 0 4) < 0 then (
      some (0, p140))
    else (
      cl (fX4_takes 43 p140) fun r153 p153 =>
      gd (wR r153) <|
      if r153 = 0 then (
        some (0, p153))
      else (
        cl (fX4_readNumber p153) fun r163 p163 =>
        bnd (pS p163 0 6 r163) fun p166 =>
        gd (wR (p166 0 6)) <|
        if (p166 0 6) < 0 then (
          some (0, p166))
        else (
          some (1, p166)))))
  else if (p5 0 3) = 103 then (
    bnd (pS p5 0 2 ((p5 0 2) + 1)) fun p101 =>
    cl (fX4_readNumber p101) fun r106 p106 =>
    bnd (pS p106 0 6 r106) fun p109 =>
    gd (wR (p109 0 6)) <|
    if (p109 0 6) < 0 then (
      some (0, p109))
    else (
      some (1, p109)))
  else if (p5 0 3) = 110 then (
    bnd (pS p5 0 2 ((p5 0 2) + 1)) fun p101 =>
    cl (fX4_readNumber p101) fun r106 p106 =>
    bnd (pS p106 0 6 r106) fun p109 =>
    gd (wR (p109 0 6)) <|
    if (p109 0 6) < 0 then (
      some (0, p109))
    else (
      some (1, p109)))
  else if (p5 0 3) = 112 then (
    bnd (pS p5 0 2 ((p5 0 2) + 1)) fun p71 =>
    cl (fX4_readParties p71) fun r75 p75 =>
    gd (wR r75) <|
    if r75 = 0 then (
      some (0, p75))
    else (
      cl (fX4_readAmountAndDates p75) fun r82 p82 =>
      gd (wR r82) <|
      if r82 = 0 then (
        some (0, p82))
      else (
        some (1, p82))))
  else if (p5 0 3) = 115 then (
    bnd (pS p5 0 2 ((p5 0 2) + 1)) fun p101 =>
    cl (fX4_readNumber p101) fun r106 p106 =>
    bnd (pS p106 0 6 r106) fun p109 =>
    gd (wR (p109 0 6)) <|
    if (p109 0 6) < 0 then (
      some (0, p109))
    else (
      some (1, p109)))
  else (
    some (0, p5))
noncomputable def fX4_isSound_b7 : Nat → Int → (Int → Int → Int) → Option (Int × (Int → Int → Int))
  | 0, _, _ => none
  | fuel + 1, x1, p =>
    gd (wR x1) <|
    if 80 ≤ x1 then (
      some (0, p))
    else (
      cl (fX4_readAct p) fun r14 p14 =>
      gd (wR r14) <|
      if r14 = 0 then (
        some (0, p14))
      else (
        gd (wR (p14 0 2) ∧ wR (p14 0 1)) <|
        if (p14 0 2) < (p14 0 1) then (
          cl (fX4_takes 59 p14) fun r38 p38 =>
          gd (wR r38) <|
          if r38 = 0 then (
            some (0, p38))
          else (
            (fX4_isSound_b7 fuel) (x1 + 1) p38 ))
        else (
          some (1, p14))))
noncomputable def fX4_isSound (p : (Int → Int → Int)) : Option (Int × (Int → Int → Int)) :=
  bnd (pS p 0 2 0) fun p2 =>
  fX4_isSound_b7 fuel0 0 p2
noncomputable def fX6_isError (x0 : Int) : Option Int :=
  cr (fX6_isBetween x0 (-5) (-1)) fun r4 =>
  gd (r4 = 0 ∨ r4 = 1) <|
  some r4
noncomputable def fX6_recorded (x1 : Int) (c : cR) : Option (Int × cR) :=
  cr (fX6_isError x1) fun r1 =>
  gd (wR r1) <|
  if r1 = 0 then (
    gd (wR (c.2.1 0 4)) <|
    if 6 ≤ (c.2.1 0 4) then (
      gd (wR ((c.2.1 0 3) + 1)) <|
      bnd (cT c 0 3 (rmI ((c.2.1 0 3) + 1) 7)) fun c41 =>
      some (x1, c41))
    else (
      bnd (cT c 0 4 ((c.2.1 0 4) + 1)) fun c25 =>
      some (x1, c25)))
  else (
    some (x1, c))
noncomputable def fX6_rowBehindLatest (c : cR) : Option Int :=
  gd (wR ((c.2.1 0 3) + (c.2.1 0 4))) <|
  some (rmI ((c.2.1 0 3) + (c.2.1 0 4)) 7)
noncomputable def fX6_remember (c : cR) : Option (Unit × cR) :=
  cr (fX6_rowBehindLatest c) fun r5 =>
  gd (0 ≤ r5 ∧ r5 < 7) <|
  cl (fX2_copyFrom (c.1 0) (c.1 (2 + r5))) fun r13 t13 =>
  bnd (cH c (2 + r5) t13) fun c13 =>
  some ((), c13)
noncomputable def fX6_account (x1 : Int) (x2 : Int) (c : cR) : Option (Int × cR) :=
  cl (fX6_remember c) fun r1 c1 =>
  cl (fX2_addAccount x1 x2 (c1.1 0)) fun r11 t11 =>
  bnd (cH c1 0 t11) fun c11 =>
  cl (fX6_recorded r11 c11) fun r14 c14 =>
  some (r14, c14)
noncomputable def fX6_ahead (x1 : Int) (x2 : Int) (x3 : Int) (c : cR) : Option (Int × cR) :=
  cr (fX2_hasOrder x1 (c.1 0)) fun r5 =>
  gd (wR r5) <|
  if r5 = 0 then (
    some ((-1), c))
  else (
    cr (fX6_isBetween x2 1 400) fun r18 =>
    gd (wR r18) <|
    if r18 = 0 then (
      some ((-2), c))
    else (
      cr (fX6_isBetween x3 0 3) fun r27 =>
      gd (wR r27) <|
      if r27 = 0 then (
        some ((-2), c))
      else (
        cl (fX2_copyFrom (c.1 0) (c.1 1)) fun r44 t44 =>
        bnd (cH c 1 t44) fun c44 =>
        cl (fX2_passDays x2 0 (c44.1 1)) fun r53 t53 =>
        bnd (cH c44 1 t53) fun c53 =>
        gd (0 ≤ x1 ∧ x1 < 16) <|
        gd (0 ≤ x1 ∧ x1 < 16) <|
        gd (wR x3) <|
        if x3 = 0 then (
          some ((((c53.1 1).1 3 x1 12) - ((c53.1 0).1 3 x1 12)), c53))
        else if x3 = 1 then (
          some ((((c53.1 1).1 3 x1 13) - ((c53.1 0).1 3 x1 13)), c53))
        else if x3 = 2 then (
          some ((((c53.1 1).1 3 x1 14) - ((c53.1 0).1 3 x1 14)), c53))
        else (
          some (((c53.1 1).1 3 x1 15), c53)))))
noncomputable def fX6_balanceIn (x1 : Int) (x2 : Int) (c : cR) : Option (Int × cR) :=
  cr (fX2_hasAccount x1 (c.1 0)) fun r5 =>
  gd (wR r5) <|
  if r5 = 0 then (
    some ((-1), c))
  else (
    cr (fX6_isBetween x2 1 400) fun r20 =>
    gd (wR r20) <|
    if r20 = 0 then (
      some ((-2), c))
    else (
      cl (fX2_copyFrom (c.1 0) (c.1 1)) fun r38 t38 =>
      bnd (cH c 1 t38) fun c38 =>
      cl (fX2_passDays x2 0 (c38.1 1)) fun r47 t47 =>
      bnd (cH c38 1 t47) fun c47 =>
      gd (0 ≤ x1 ∧ x1 < 8) <|
      some (((c47.1 1).1 2 x1 3), c47)))
noncomputable def fX6_bitsOf_b87 (x2 : UInt64) (x4 : Int) : Option Int :=
  gd (okD (FP.dsub x2 FP.dconst1)) <|
  gd (okD (FP.dmul (FP.dsub x2 FP.dconst1) 4841369599423283200)) <|
  some ((lshlI x4 52) + (d2lI (FP.dmul (FP.dsub x2 FP.dconst1) 4841369599423283200)))
noncomputable def fX6_bitsOf_b55 : Nat → UInt64 → Int → Int → Option Int
  | 0, _, _, _ => none
  | fuel + 1, x2, x4, x6 =>
    gd (wR x6) <|
    if 1022 ≤ x6 then (
      fX6_bitsOf_b87 x2 x4)
    else (
      gd (wR (dcI x2 FP.dconst1 (.g))) <|
      if 0 ≤ (dcI x2 FP.dconst1 (.g)) then (
        fX6_bitsOf_b87 x2 x4)
      else (
        gd (okD (FP.dmul x2 4611686018427387904)) <|
        (fX6_bitsOf_b55 fuel) (FP.dmul x2 4611686018427387904) (x4 - 1) (x6 + 1) ))
noncomputable def fX6_bitsOf_b18 : Nat → UInt64 → Int → Int → Option Int
  | 0, _, _, _ => none
  | fuel + 1, x2, x4, x6 =>
    gd (wR x6) <|
    if 1023 ≤ x6 then (
      fX6_bitsOf_b55 fuel0 x2 x4 0)
    else (
      gd (wR (dcI x2 4611686018427387904 (.l))) <|
      if (dcI x2 4611686018427387904 (.l)) < 0 then (
        fX6_bitsOf_b55 fuel0 x2 x4 0)
      else (
        gd (okD (FP.ddiv x2 4611686018427387904)) <|
        (fX6_bitsOf_b18 fuel) (FP.ddiv x2 4611686018427387904) (x4 + 1) (x6 + 1) ))
noncomputable def fX6_bitsOf (x0 : UInt64) : Option Int :=
  gd (wR (dcI x0 FP.dconst0 (.l))) <|
  if 0 < (dcI x0 FP.dconst0 (.l)) then (
    fX6_bitsOf_b18 fuel0 x0 1023 0)
  else (
    some 0)
noncomputable def fX6_perform (c : cR) : Option (Int × cR) :=
  gd (wR (c.2.2 0 3)) <|
  if (c.2.2 0 3) = 100 then (
    cl (fX2_payIn (c.2.2 0 4) (c.2.2 0 6) (c.1 0)) fun r167 t167 =>
    bnd (cH c 0 t167) fun c167 =>
    some (r167, c167))
  else if (c.2.2 0 3) = 103 then (
    cl (fX2_resumeOrder (c.2.2 0 6) (c.1 0)) fun r151 t151 =>
    bnd (cH c 0 t151) fun c151 =>
    some (r151, c151))
  else if (c.2.2 0 3) = 112 then (
    gd (wR (c.2.2 0 8)) <|
    if 12 < (c.2.2 0 8) then (
      some ((-2), c))
    else (
      gd (wR (c.2.2 0 9)) <|
      if (c.2.2 0 9) ≤ 31 then (
        cl (fX2_addOrder ((9 * (c.2.2 0 4)) + (c.2.2 0 5)) (c.2.2 0 6) (((10000 * (c.2.2 0 7)) + (100 * (c.2.2 0 8))) + (c.2.2 0 9)) ((c.1 0).1 0 6 0) ((10 * (c.2.2 0 10)) + 5) 0 (c.1 0)) fun r127 t127 =>
        bnd (cH c 0 t127) fun c127 =>
        some (r127, c127))
      else (
        some ((-2), c))))
  else if (c.2.2 0 3) = 115 then (
    cl (fX2_stopOrder (c.2.2 0 6) (c.1 0)) fun r139 t139 =>
    bnd (cH c 0 t139) fun c139 =>
    some (r139, c139))
  else (
    cr (fX2_errorOfDays (c.2.2 0 6) (c.1 0)) fun r179 =>
    gd (wR r179) <|
    if r179 = 0 then (
      cl (fX2_passDays (c.2.2 0 6) 0 (c.1 0)) fun r196 t196 =>
      bnd (cH c 0 t196) fun c196 =>
      some (r179, c196))
    else (
      some (r179, c)))
noncomputable def fX6_carryOut_b96 (x1 : Int) (c : cR) : Option (Int × cR) :=
  bnd (cP c (pS c.2.2 0 1 0)) fun c101 =>
  cl (fX6_recorded x1 c101) fun r106 c106 =>
  some (r106, c106)
noncomputable def fX6_carryOut_b29 : Nat → Int → Int → cR → Option (Int × cR)
  | 0, _, _, _ => none
  | fuel + 1, x1, x2, c =>
    gd (wR x2) <|
    if 80 ≤ x2 then (
      fX6_carryOut_b96 x1 c)
    else (
      gd (wR (c.2.2 0 2) ∧ wR (c.2.2 0 1)) <|
      if (c.2.2 0 1) ≤ (c.2.2 0 2) then (
        fX6_carryOut_b96 x1 c)
      else (
        cl (fX4_readAct c.2.2) fun r56 t56 =>
        bnd (cP c t56) fun c56 =>
        cl (fX4_takes 59 c56.2.2) fun r66 t66 =>
        bnd (cP c56 t66) fun c66 =>
        cl (fX6_perform c66) fun r75 c75 =>
        cr (fX6_isError r75) fun r78 =>
        gd (wR r78) <|
        if r78 = 0 then (
          (fX6_carryOut_b29 fuel) (x1 + 1) (x2 + 1) c75 )
        else (
          fX6_carryOut_b96 x1 c75)))
noncomputable def fX6_carryOut (c : cR) : Option (Int × cR) :=
  cl (fX4_isSound c.2.2) fun r4 t4 =>
  bnd (cP c t4) fun c4 =>
  gd (wR r4) <|
  if r4 = 0 then (
    some ((-3), c4))
  else (
    cl (fX6_remember c4) fun r14 c14 =>
    bnd (cP c14 (pS c14.2.2 0 2 0)) fun c24 =>
    fX6_carryOut_b29 fuel0 0 0 c24)
noncomputable def fX6_change (x1 : Int) (x2 : Int) (x3 : Int) (c : cR) : Option (Int × cR) :=
  cl (fX6_remember c) fun r1 c1 =>
  cl (fX2_alterOrder x1 x2 x3 (c1.1 0)) fun r12 t12 =>
  bnd (cH c1 0 t12) fun c12 =>
  cl (fX6_recorded r12 c12) fun r15 c15 =>
  some (r15, c15)
noncomputable def fX6_count (x1 : Int) (c : cR) : Option Int :=
  gd (wR x1) <|
  if x1 = 9 then (
    some (c.2.2 0 1))
  else (
    gd (wR x1) <|
    if x1 = 10 then (
      some (c.2.1 0 4))
    else (
      cr (fX2_numberOf x1 (c.1 0)) fun r30 =>
      some r30))
noncomputable def fX6_dateOf (x1 : Int) (x2 : Int) (c : cR) : Option (Int × cR) :=
  cr (fX2_hasOrder x1 (c.1 0)) fun r5 =>
  gd (wR r5) <|
  if r5 = 0 then (
    some ((-1), c))
  else (
    cr (fX6_isBetween x2 0 99) fun r17 =>
    gd (wR r17) <|
    if r17 = 0 then (
      some ((-2), c))
    else (
      gd (0 ≤ x1 ∧ x1 < 16) <|
      cl (fX3_dateBehindNext x1 x2 (c.1 0)) fun r43 t43 =>
      bnd (cH c 0 t43) fun c43 =>
      some (r43, c43)))
noncomputable def fX6_days (x1 : Int) (c : cR) : Option (Int × cR) :=
  cr (fX2_errorOfDays x1 (c.1 0)) fun r5 =>
  gd (wR r5) <|
  if r5 = 0 then (
    cl (fX6_remember c) fun r16 c16 =>
    cl (fX2_passDays x1 0 (c16.1 0)) fun r25 t25 =>
    bnd (cH c16 0 t25) fun c25 =>
    cl (fX6_recorded ((c25.1 0).1 0 6 0) c25) fun r37 c37 =>
    some (r37, c37))
  else (
    some (r5, c))
noncomputable def fX6_deposit (x1 : Int) (x2 : Int) (c : cR) : Option (Int × cR) :=
  cl (fX6_remember c) fun r1 c1 =>
  cl (fX2_payIn x1 x2 (c1.1 0)) fun r11 t11 =>
  bnd (cH c1 0 t11) fun c11 =>
  cl (fX6_recorded r11 c11) fun r14 c14 =>
  some (r14, c14)
noncomputable def fX6_fault (c : cR) : Option (Int × cR) :=
  cl (fX4_isSound c.2.2) fun r4 t4 =>
  bnd (cP c t4) fun c4 =>
  gd (wR r4) <|
  if r4 = 0 then (
    some ((c4.2.2 0 2), c4))
  else (
    some ((-6), c4))
noncomputable def fX6_feed (x1 : Int) (x2 : Int) (c : cR) : Option (Int × cR) :=
  cl (fX6_remember c) fun r1 c1 =>
  cl (fX2_nameFeeder x1 x2 (c1.1 0)) fun r11 t11 =>
  bnd (cH c1 0 t11) fun c11 =>
  cl (fX6_recorded r11 c11) fun r14 c14 =>
  some (r14, c14)
noncomputable def fX6_firstFailure_b50 (t1 : Int) (t2 : Int) (c : cR) : Option (Int × cR) :=
  cl (fX2_passDays t1 t2 (c.1 1)) fun r50 t50 =>
  bnd (cH c 1 t50) fun c50 =>
  some (r50, c50)
noncomputable def fX6_firstFailure_b19 (x1 : Int) (c : cR) : Option (Int × cR) :=
  cl (fX2_copyFrom (c.1 0) (c.1 1)) fun r27 t27 =>
  bnd (cH c 1 t27) fun c27 =>
  gd (wR x1) <|
  if x1 = (-6) then (
    fX6_firstFailure_b50 400 (-1) c27)
  else (
    fX6_firstFailure_b50 400 (shlI 1 x1) c27)
noncomputable def fX6_firstFailure (x1 : Int) (c : cR) : Option (Int × cR) :=
  gd (wR x1) <|
  if x1 = (-6) then (
    fX6_firstFailure_b19 x1 c)
  else (
    cr (fX2_hasAccount x1 (c.1 0)) fun r11 =>
    gd (wR r11) <|
    if r11 = 0 then (
      some ((-1), c))
    else (
      fX6_firstFailure_b19 x1 c))
noncomputable def fX6_giveUp (x1 : Int) (c : cR) : Option (Int × cR) :=
  cl (fX6_remember c) fun r1 c1 =>
  cl (fX2_dropPayment x1 (c1.1 0)) fun r10 t10 =>
  bnd (cH c1 0 t10) fun c10 =>
  cl (fX6_recorded r10 c10) fun r13 c13 =>
  some (r13, c13)
noncomputable def fX6_goOn (x1 : Int) (c : cR) : Option (Int × cR) :=
  cl (fX6_remember c) fun r1 c1 =>
  cl (fX2_resumeOrder x1 (c1.1 0)) fun r10 t10 =>
  bnd (cH c1 0 t10) fun c10 =>
  cl (fX6_recorded r10 c10) fun r13 c13 =>
  some (r13, c13)
noncomputable def fX6_holiday (x1 : Int) (x2 : Int) (c : cR) : Option (Int × cR) :=
  cl (fX6_remember c) fun r1 c1 =>
  cl (fX1_mark x1 x2 (c1.1 0)) fun r14 t14 =>
  bnd (cH c1 0 t14) fun c14 =>
  cl (fX6_recorded r14 c14) fun r17 c17 =>
  some (r17, c17)
noncomputable def fX6_leastDeposit_b28 : Nat → Int → Int → Int → cR → Option (Int × cR)
  | 0, _, _, _, _ => none
  | fuel + 1, x1, x2, x3, c =>
    gd (wR x3) <|
    if 100000 < x3 then (
      some ((-6), c))
    else (
      cl (fX2_copyFrom (c.1 0) (c.1 1)) fun r42 t42 =>
      bnd (cH c 1 t42) fun c42 =>
      gd (0 ≤ x1 ∧ x1 < 8) <|
      gd (wR x3) <|
      bnd (cH c42 1 (hS (c42.1 1) 2 x1 3 (((c42.1 1).1 2 x1 3) + x3))) fun c61 =>
      cl (fX2_passDays x2 (shlI 1 x1) (c61.1 1)) fun r72 t72 =>
      bnd (cH c61 1 t72) fun c72 =>
      gd (wR r72) <|
      if r72 = (-6) then (
        some (x3, c72))
      else (
        (fX6_leastDeposit_b28 fuel) x1 x2 (x3 + 5000) c72 ))
noncomputable def fX6_leastDeposit (x1 : Int) (x2 : Int) (c : cR) : Option (Int × cR) :=
  cr (fX2_hasAccount x1 (c.1 0)) fun r5 =>
  gd (wR r5) <|
  if r5 = 0 then (
    some ((-1), c))
  else (
    cr (fX6_isBetween x2 1 100) fun r17 =>
    gd (wR r17) <|
    if r17 = 0 then (
      some ((-2), c))
    else (
      fX6_leastDeposit_b28 fuel0 x1 x2 0 c))
noncomputable def fX6_money (x1 : Int) (x2 : Int) (c : cR) : Option Int :=
  cr (fX2_hasAccount x1 (c.1 0)) fun r5 =>
  gd (wR r5) <|
  if r5 = 0 then (
    some (-1))
  else (
    gd (0 ≤ x1 ∧ x1 < 8) <|
    cr (fX0_sumOf x1 x2 (c.1 0)) fun r25 =>
    some r25)
noncomputable def fX6_ofDay (x1 : Int) (x2 : Int) (c : cR) : Option Int :=
  cr (fX6_isBetween x1 0 1094) fun r5 =>
  gd (wR r5) <|
  if r5 = 0 then (
    some (-2))
  else (
    cr (fX1_numberOf x1 x2 (c.1 0)) fun r23 =>
    some r23)
noncomputable def fX6_ofOrder (x1 : Int) (x2 : Int) (c : cR) : Option (Int × cR) :=
  cr (fX2_hasOrder x1 (c.1 0)) fun r5 =>
  gd (wR r5) <|
  if r5 = 0 then (
    some ((-1), c))
  else (
    gd (wR x2) <|
    if x2 = 15 then (
      cl (fX2_nextNominalDay x1 (c.1 0)) fun r24 t24 =>
      bnd (cH c 0 t24) fun c24 =>
      some (r24, c24))
    else (
      gd (0 ≤ x1 ∧ x1 < 16) <|
      cr (fX3_numberOf x1 x2 (c.1 0)) fun r38 =>
      some (r38, c)))
noncomputable def fX6_ofPayment (x1 : Int) (x2 : Int) (c : cR) : Option Int :=
  cr (fX6_isBetween x1 0 (((c.1 0).1 4 2 0) - 1)) fun r14 =>
  gd (wR r14) <|
  if r14 = 0 then (
    some (-1))
  else (
    cr (fX6_isBetween x2 0 4) fun r25 =>
    gd (wR r25) <|
    if r25 = 0 then (
      some (-2))
    else (
      gd (0 ≤ x2 ∧ x2 < 5) <|
      gd (0 ≤ x1 ∧ x1 < (c.1 0).1 4 1 0 ∧ (c.1 0).1 4 1 0 ≤ 2147483647) <|
      some ((c.1 0).1 5 x2 x1)))
noncomputable def fX6_order (x1 : Int) (x2 : Int) (x3 : Int) (x4 : Int) (x5 : Int) (x6 : Int) (c : cR) : Option (Int × cR) :=
  cl (fX6_remember c) fun r1 c1 =>
  cl (fX2_addOrder x1 x2 x3 x4 x5 x6 (c1.1 0)) fun r18 t18 =>
  bnd (cH c1 0 t18) fun c18 =>
  cl (fX6_recorded r18 c18) fun r21 c21 =>
  some (r21, c21)
noncomputable def fX6_owedBits (x1 : Int) (c : cR) : Option Int :=
  cr (fX2_hasAccount x1 (c.1 0)) fun r5 =>
  gd (wR r5) <|
  if r5 = 0 then (
    some (-1))
  else (
    gd (0 ≤ x1 ∧ x1 < 8) <|
    cr (fX6_bitsOf ((c.1 0).2 x1)) fun r27 =>
    some r27)
noncomputable def fX6_put (x1 : Int) (c : cR) : Option (Int × cR) :=
  cl (fX4_append x1 c.2.2) fun r5 t5 =>
  bnd (cP c t5) fun c5 =>
  some (r5, c5)
noncomputable def fX6_restore (x1 : Int) (c : cR) : Option (Int × cR) :=
  cr (fX6_isBetween x1 0 1) fun r3 =>
  gd (wR r3) <|
  if r3 = 0 then (
    some ((-2), c))
  else (
    gd (0 ≤ x1 ∧ x1 < 2) <|
    gd (wR (c.2.1 1 x1)) <|
    if (c.2.1 1 x1) = 0 then (
      some ((-5), c))
    else (
      cl (fX6_remember c) fun r25 c25 =>
      gd (0 ≤ x1 ∧ x1 < 2) <|
      cl (fX2_copyFrom (c25.1 (9 + x1)) (c25.1 0)) fun r38 t38 =>
      bnd (cH c25 0 t38) fun c38 =>
      cl (fX6_recorded ((c38.1 0).1 0 6 0) c38) fun r49 c49 =>
      some (r49, c49)))
noncomputable def fX6_save (x1 : Int) (c : cR) : Option (Int × cR) :=
  cr (fX6_isBetween x1 0 1) fun r3 =>
  gd (wR r3) <|
  if r3 = 0 then (
    some ((-2), c))
  else (
    gd (0 ≤ x1 ∧ x1 < 2) <|
    cl (fX2_copyFrom (c.1 0) (c.1 (9 + x1))) fun r22 t22 =>
    bnd (cH c (9 + x1) t22) fun c22 =>
    gd ((0 ≤ x1 ∧ x1 < 2)) <|
    bnd (cT c22 1 x1 1) fun c31 =>
    some (((c31.1 0).1 0 6 0), c31))
noncomputable def fX6_set (x1 : Int) (x2 : Int) (c : cR) : Option (Int × cR) :=
  cl (fX6_remember c) fun r1 c1 =>
  cl (fX2_replaceSetting x1 x2 (c1.1 0)) fun r11 t11 =>
  bnd (cH c1 0 t11) fun c11 =>
  cl (fX6_recorded r11 c11) fun r14 c14 =>
  some (r14, c14)
noncomputable def fX6_shift (x1 : Int) (x2 : Int) (c : cR) : Option Int :=
  cr (fX6_isBetween x1 0 1094) fun r5 =>
  gd (wR r5) <|
  if r5 = 0 then (
    some (-2))
  else (
    cr (fX6_isBetween x2 0 4) fun r14 =>
    gd (wR r14) <|
    if r14 = 0 then (
      some (-2))
    else (
      cr (fX1_shifted x1 x2 (c.1 0)) fun r32 =>
      some r32))
noncomputable def fX6_stop (x1 : Int) (c : cR) : Option (Int × cR) :=
  cl (fX6_remember c) fun r1 c1 =>
  cl (fX2_stopOrder x1 (c1.1 0)) fun r10 t10 =>
  bnd (cH c1 0 t10) fun c10 =>
  cl (fX6_recorded r10 c10) fun r13 c13 =>
  some (r13, c13)
noncomputable def fX6_undo (c : cR) : Option (Int × cR) :=
  gd (wR (c.2.1 0 4)) <|
  if (c.2.1 0 4) = 0 then (
    some ((-5), c))
  else (
    bnd (cT c 0 4 ((c.2.1 0 4) - 1)) fun c17 =>
    cr (fX6_rowBehindLatest c17) fun r29 =>
    gd (0 ≤ r29 ∧ r29 < 7) <|
    cl (fX2_copyFrom (c17.1 (2 + r29)) (c17.1 0)) fun r33 t33 =>
    bnd (cH c17 0 t33) fun c33 =>
    some ((c33.2.1 0 4), c33))
noncomputable def fX6_wipe (c : cR) : Option (Int × cR) :=
  bnd (cP c (pS c.2.2 0 1 0)) fun c13 =>
  some ((c.2.2 0 1), c13)

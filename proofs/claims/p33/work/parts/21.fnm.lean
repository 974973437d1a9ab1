/-! ===== the reference as plain functions (by program: wip/whole/gen.py) ===== -/
noncomputable def fX7_isIn (x0 : Int) (x2 : Int) (x4 : Int) : Option Int :=
  gd (wR64 x0 ∧ wR64 x2) <|
  if x0 < x2 then (
    some 0)
  else (
    gd (wR64 x0 ∧ wR64 x4) <|
    if x4 < x0 then (
      some 0)
    else (
      some 1))
noncomputable def fX7_of (x1 : Int) (m : mR) : Option Int :=
  gd (0 ≤ x1 ∧ x1 < 377) <|
  some (m.1 0 x1)
noncomputable def fX7_drops_b62 : Nat → Int → mR → Option (Unit × mR)
  | 0, _, _ => none
  | fuel + 1, x1, m =>
    gd (wR x1) <|
    if 42000 ≤ x1 then (
      bnd (mS m 6 7 ((m.1 6 7) - 1)) fun m97 =>
      some ((), m97))
    else (
      gd (0 ≤ (x1 + 8400) ∧ (x1 + 8400) < 75600) <|
      gd ((0 ≤ x1 ∧ x1 < 75600)) <|
      bnd (mS m 3 x1 (m.1 3 (x1 + 8400))) fun m83 =>
      (fX7_drops_b62 fuel) (x1 + 1) m83 )
noncomputable def fX7_drops_b33 : Nat → Int → mR → Option (Unit × mR)
  | 0, _, _ => none
  | fuel + 1, x1, m =>
    gd (wR x1) <|
    if 40 ≤ x1 then (
      fX7_drops_b62 fuel0 0 m)
    else (
      gd (0 ≤ (x1 + 8) ∧ (x1 + 8) < 72) <|
      gd ((0 ≤ x1 ∧ x1 < 72)) <|
      bnd (mD m 1 x1 (m.2 1 (x1 + 8))) fun m53 =>
      (fX7_drops_b33 fuel) (x1 + 1) m53 )
noncomputable def fX7_drops_b2 : Nat → Int → mR → Option (Unit × mR)
  | 0, _, _ => none
  | fuel + 1, x1, m =>
    gd (wR x1) <|
    if 1885 ≤ x1 then (
      fX7_drops_b33 fuel0 0 m)
    else (
      gd (0 ≤ (x1 + 377) ∧ (x1 + 377) < 3393) <|
      gd ((0 ≤ x1 ∧ x1 < 3393)) <|
      bnd (mS m 2 x1 (m.1 2 (x1 + 377))) fun m24 =>
      (fX7_drops_b2 fuel) (x1 + 1) m24 )
noncomputable def fX7_drops (m : mR) : Option (Unit × mR) :=
  fX7_drops_b2 fuel0 0 m
noncomputable def fX7_keeps_b66 : Nat → Int → Int → mR → Option (Unit × mR)
  | 0, _, _, _ => none
  | fuel + 1, x1, x2, m =>
    gd (wR x2) <|
    gd (wR64 x2 ∧ wR64 (m.1 0 4)) <|
    if (m.1 0 4) ≤ x2 then (
      some ((), m))
    else (
      gd (0 ≤ x2 ∧ x2 < 8400) <|
      gd ((0 ≤ ((x1 * 8400) + x2) ∧ ((x1 * 8400) + x2) < 75600)) <|
      bnd (mS m 3 ((x1 * 8400) + x2) (m.1 1 x2)) fun m95 =>
      (fX7_keeps_b66 fuel) x1 (x2 + 1) m95 )
noncomputable def fX7_keeps_b35 : Nat → Int → Int → mR → Option (Unit × mR)
  | 0, _, _, _ => none
  | fuel + 1, x1, x2, m =>
    gd (wR x2) <|
    if 8 ≤ x2 then (
      fX7_keeps_b66 fuel0 x1 0 m)
    else (
      gd (0 ≤ x2 ∧ x2 < 8) <|
      gd ((0 ≤ ((x1 * 8) + x2) ∧ ((x1 * 8) + x2) < 72)) <|
      bnd (mD m 1 ((x1 * 8) + x2) (m.2 0 x2)) fun m57 =>
      (fX7_keeps_b35 fuel) x1 (x2 + 1) m57 )
noncomputable def fX7_keeps_b2 : Nat → Int → Int → mR → Option (Unit × mR)
  | 0, _, _, _ => none
  | fuel + 1, x1, x2, m =>
    gd (wR x2) <|
    if 377 ≤ x2 then (
      fX7_keeps_b35 fuel0 x1 0 m)
    else (
      gd (0 ≤ x2 ∧ x2 < 377) <|
      gd ((0 ≤ ((x1 * 377) + x2) ∧ ((x1 * 377) + x2) < 3393)) <|
      bnd (mS m 2 ((x1 * 377) + x2) (m.1 0 x2)) fun m26 =>
      (fX7_keeps_b2 fuel) x1 (x2 + 1) m26 )
noncomputable def fX7_keeps (x1 : Int) (m : mR) : Option (Unit × mR) :=
  fX7_keeps_b2 fuel0 x1 0 m
noncomputable def fX7_records_b13 (m : mR) : Option (Unit × mR) :=
  cl (fX7_keeps (m.1 6 7) m) fun r18 m18 =>
  bnd (mS m18 6 7 ((m18.1 6 7) + 1)) fun m28 =>
  some ((), m28)
noncomputable def fX7_records (m : mR) : Option (Unit × mR) :=
  gd (wR (m.1 6 7)) <|
  if (m.1 6 7) = 6 then (
    cl (fX7_drops m) fun r10 m10 =>
    fX7_records_b13  m10)
  else (
    fX7_records_b13  m)
noncomputable def fX7_account_b105 : Nat → Int → Int → mR → Option (Int × mR)
  | 0, _, _, _ => none
  | fuel + 1, x3, x4, m =>
    gd (wR x4) <|
    if 8 ≤ x4 then (
      gd ((0 ≤ x3 ∧ x3 < 8)) <|
      bnd (mD m 0 x3 FP.dconst0) fun m142 =>
      bnd (mS m142 0 1 ((m142.1 0 1) + 1)) fun m152 =>
      some (x3, m152))
    else (
      gd ((0 ≤ (((33 + (11 * x3)) + 3) + x4) ∧ (((33 + (11 * x3)) + 3) + x4) < 377)) <|
      bnd (mS m 0 (((33 + (11 * x3)) + 3) + x4) 0) fun m129 =>
      (fX7_account_b105 fuel) x3 (x4 + 1) m129 )
noncomputable def fX7_account (x1 : Int) (x2 : Int) (m : mR) : Option (Int × mR) :=
  gd (wR x1) <|
  cr (fX7_isIn x1 0 1000000) fun r6 =>
  gd (wR r6) <|
  if r6 = 0 then (
    some ((-2), m))
  else (
    gd (wR x2) <|
    cr (fX7_isIn x2 0 1000000) fun r18 =>
    gd (wR r18) <|
    if r18 = 0 then (
      some ((-2), m))
    else (
      gd (wR64 (m.1 0 1)) <|
      if (m.1 0 1) = 8 then (
        some ((-4), m))
      else (
        cl (fX7_records m) fun r44 m44 =>
        cr (fX7_of 1 m44) fun r49 =>
        gd (wR x1) <|
        gd ((0 ≤ ((33 + (11 * r49)) + 0) ∧ ((33 + (11 * r49)) + 0) < 377)) <|
        bnd (mS m44 0 ((33 + (11 * r49)) + 0) x1) fun m68 =>
        gd (wR x2) <|
        gd ((0 ≤ ((33 + (11 * r49)) + 1) ∧ ((33 + (11 * r49)) + 1) < 377)) <|
        bnd (mS m68 0 ((33 + (11 * r49)) + 1) x2) fun m84 =>
        gd ((0 ≤ ((33 + (11 * r49)) + 2) ∧ ((33 + (11 * r49)) + 2) < 377)) <|
        bnd (mS m84 0 ((33 + (11 * r49)) + 2) (-6)) fun m101 =>
        fX7_account_b105 fuel0 r49 0 m101)))
noncomputable def fX7_brings_b66 : Nat → Int → Int → mR → Option (Unit × mR)
  | 0, _, _, _ => none
  | fuel + 1, x1, x2, m =>
    gd (wR x2) <|
    gd (wR64 x2 ∧ wR64 (m.1 0 4)) <|
    if (m.1 0 4) ≤ x2 then (
      some ((), m))
    else (
      gd (0 ≤ ((x1 * 8400) + x2) ∧ ((x1 * 8400) + x2) < 75600) <|
      gd ((0 ≤ x2 ∧ x2 < 8400)) <|
      bnd (mS m 1 x2 (m.1 3 ((x1 * 8400) + x2))) fun m95 =>
      (fX7_brings_b66 fuel) x1 (x2 + 1) m95 )
noncomputable def fX7_brings_b35 : Nat → Int → Int → mR → Option (Unit × mR)
  | 0, _, _, _ => none
  | fuel + 1, x1, x2, m =>
    gd (wR x2) <|
    if 8 ≤ x2 then (
      fX7_brings_b66 fuel0 x1 0 m)
    else (
      gd (0 ≤ ((x1 * 8) + x2) ∧ ((x1 * 8) + x2) < 72) <|
      gd ((0 ≤ x2 ∧ x2 < 8)) <|
      bnd (mD m 0 x2 (m.2 1 ((x1 * 8) + x2))) fun m57 =>
      (fX7_brings_b35 fuel) x1 (x2 + 1) m57 )
noncomputable def fX7_brings_b2 : Nat → Int → Int → mR → Option (Unit × mR)
  | 0, _, _, _ => none
  | fuel + 1, x1, x2, m =>
    gd (wR x2) <|
    if 377 ≤ x2 then (
      fX7_brings_b35 fuel0 x1 0 m)
    else (
      gd (0 ≤ ((x1 * 377) + x2) ∧ ((x1 * 377) + x2) < 3393) <|
      gd ((0 ≤ x2 ∧ x2 < 377)) <|
      bnd (mS m 0 x2 (m.1 2 ((x1 * 377) + x2))) fun m26 =>
      (fX7_brings_b2 fuel) x1 (x2 + 1) m26 )
noncomputable def fX7_brings (x1 : Int) (m : mR) : Option (Unit × mR) :=
  fX7_brings_b2 fuel0 x1 0 m
noncomputable def fX7_isOrder (x1 : Int) (m : mR) : Option Int :=
  gd (wR x1) <|
  cr (fX7_isIn x1 0 ((m.1 0 2) - 1)) fun r11 =>
  gd (r11 = 0 ∨ r11 = 1) <|
  some r11
noncomputable def fX7_ofO (x1 : Int) (x2 : Int) (m : mR) : Option Int :=
  cr (fX7_of ((121 + (16 * x1)) + x2) m) fun r10 =>
  some r10
noncomputable def fX7_becomes (x1 : Int) (x2 : Int) (x3 : Int) (m : mR) : Option (Unit × mR) :=
  gd (wR x3) <|
  gd ((0 ≤ ((121 + (16 * x1)) + x2) ∧ ((121 + (16 * x1)) + x2) < 377)) <|
  bnd (mS m 0 ((121 + (16 * x1)) + x2) x3) fun m15 =>
  some ((), m15)
noncomputable def fX7_monthLength (x0 : Int) : Option Int :=
  gd (wR x0) <|
  gd (wR (rmI x0 12)) <|
  if (rmI x0 12) = 1 then (
    some 28)
  else (
    gd (wR (rmI x0 12)) <|
    if (rmI x0 12) = 3 then (
      some 30)
    else (
      gd (wR (rmI x0 12)) <|
      if (rmI x0 12) = 5 then (
        some 30)
      else (
        gd (wR (rmI x0 12)) <|
        if (rmI x0 12) = 8 then (
          some 30)
        else (
          gd (wR (rmI x0 12)) <|
          if (rmI x0 12) = 10 then (
            some 30)
          else (
            some 31)))))
noncomputable def fX7_monthStart_b17 : Nat → Int → Int → Int → Option Int
  | 0, _, _, _ => none
  | fuel + 1, x0, x1, x2 =>
    gd (wR x2 ∧ wR x0) <|
    if x0 ≤ x2 then (
      some x1)
    else (
      cr (fX7_monthLength x2) fun r24 =>
      (fX7_monthStart_b17 fuel) x0 (x1 + r24) (x2 + 1) )
noncomputable def fX7_monthStart (x0 : Int) : Option Int :=
  gd (wR x0) <|
  gd (wR x0) <|
  fX7_monthStart_b17 fuel0 x0 ((dvI x0 12) * 365) ((dvI x0 12) * 12)
noncomputable def fX7_dayIn (x0 : Int) (x1 : Int) : Option Int :=
  cr (fX7_monthLength x0) fun r1 =>
  cr (fX7_monthStart x0) fun r6 =>
  gd (wR x1 ∧ wR r1) <|
  if r1 ≤ x1 then (
    some ((r6 + r1) - 1))
  else (
    some ((r6 + x1) - 1))
noncomputable def fX7_isHoliday_b4 (m : mR) : Nat → Int → Int → Int → Option Int
  | 0, _, _, _ => none
  | fuel + 1, x1, x2, x3 =>
    gd (wR x3) <|
    gd (wR64 x3 ∧ wR64 (m.1 0 3)) <|
    if (m.1 0 3) ≤ x3 then (
      gd (x2 = 0 ∨ x2 = 1) <|
      some x2)
    else (
      gd (wR x2) <|
      if x2 = 0 then (
        gd (0 ≤ (13 + x3) ∧ (13 + x3) < 377) <|
        gd (wR x1) <|
        gd (wR64 (m.1 0 (13 + x3)) ∧ wR64 x1) <|
        if (m.1 0 (13 + x3)) = x1 then (
          (fX7_isHoliday_b4 m fuel) x1 1 (x3 + 1) )
        else (
          (fX7_isHoliday_b4 m fuel) x1 0 (x3 + 1) ))
      else (
        (fX7_isHoliday_b4 m fuel) x1 1 (x3 + 1) ))
noncomputable def fX7_isHoliday (x1 : Int) (m : mR) : Option Int :=
  fX7_isHoliday_b4 m fuel0 x1 0 0
noncomputable def fX7_weekdayOf (x1 : Int) (m : mR) : Option Int :=
  cr (fX7_of 12 m) fun r4 =>
  gd (wR (x1 + r4)) <|
  some (rmI (x1 + r4) 7)
noncomputable def fX7_isBusiness (x1 : Int) (m : mR) : Option Int :=
  cr (fX7_weekdayOf x1 m) fun r2 =>
  gd (wR r2) <|
  if 5 ≤ r2 then (
    some 0)
  else (
    cr (fX7_isHoliday x1 m) fun r11 =>
    gd (wR r11) <|
    if r11 = 0 then (
      some 1)
    else (
      some 0))
noncomputable def fX7_lastBusiness_b2 (m : mR) : Nat → Int → Option Int
  | 0, _ => none
  | fuel + 1, x2 =>
    gd (wR x2) <|
    if x2 < 0 then (
      some (-6))
    else (
      cr (fX7_isBusiness x2 m) fun r8 =>
      gd (wR r8) <|
      if r8 = 0 then (
        (fX7_lastBusiness_b2 m fuel) (x2 + (-1)) )
      else (
        some x2))
noncomputable def fX7_lastBusiness (x1 : Int) (m : mR) : Option Int :=
  fX7_lastBusiness_b2 m fuel0 x1
noncomputable def fX7_lastOf (x1 : Int) (m : mR) : Option Int :=
  cr (fX7_monthStart x1) fun r1 =>
  cr (fX7_monthLength x1) fun r5 =>
  cr (fX7_lastBusiness ((r1 + r5) - 1) m) fun r14 =>
  gd (wR r14) <|
  if r14 = (-6) then (
    some ((r1 + r5) - 1))
  else (
    cr (fX7_monthStart x1) fun r26 =>
    gd (wR r14 ∧ wR r26) <|
    if r26 ≤ r14 then (
      some r14)
    else (
      some ((r1 + r5) - 1)))
noncomputable def fX7_monthOf_b9 : Nat → Int → Int → Option Int
  | 0, _, _ => none
  | fuel + 1, x0, x1 =>
    cr (fX7_monthStart x1) fun r10 =>
    cr (fX7_monthLength x1) fun r14 =>
    gd (wR (r10 + r14) ∧ wR x0) <|
    if x0 < (r10 + r14) then (
      some x1)
    else (
      (fX7_monthOf_b9 fuel) x0 (x1 + 1) )
noncomputable def fX7_monthOf (x0 : Int) : Option Int :=
  gd (wR x0) <|
  fX7_monthOf_b9 fuel0 x0 ((dvI x0 365) * 12)
noncomputable def fX7_nominal_b102 (m : mR) (x3 : Int) (x6 : Int) : Option Int :=
  gd (wR x6) <|
  if x6 ≤ 1094 then (
    gd (wR x6 ∧ wR x3) <|
    if x3 ≤ x6 then (
      some x6)
    else (
      some (-6)))
  else (
    some 5000)
noncomputable def fX7_nominal (x1 : Int) (x2 : Int) (m : mR) : Option Int :=
  cr (fX7_ofO x1 6 m) fun r4 =>
  cr (fX7_ofO x1 3 m) fun r11 =>
  cr (fX7_ofO x1 4 m) fun r20 =>
  gd (wR r11) <|
  if 2 ≤ r11 then (
    cr (fX7_monthOf r4) fun r55 =>
    gd (wR (r55 + (x2 * r20))) <|
    if (r55 + (x2 * r20)) < 36 then (
      gd (wR r11) <|
      if r11 = 2 then (
        cr (fX7_ofO x1 5 m) fun r85 =>
        cr (fX7_dayIn (r55 + (x2 * r20)) r85) fun r88 =>
        fX7_nominal_b102 m r4 r88)
      else (
        cr (fX7_lastOf (r55 + (x2 * r20)) m) fun r97 =>
        fX7_nominal_b102 m r4 r97))
    else (
      some 5000))
  else (
    gd (wR r11) <|
    if r11 = 0 then (
      fX7_nominal_b102 m r4 (r4 + (x2 * r20)))
    else (
      fX7_nominal_b102 m r4 (r4 + (7 * (x2 * r20)))))
noncomputable def fX7_nextBusiness_b2 (m : mR) : Nat → Int → Option Int
  | 0, _ => none
  | fuel + 1, x2 =>
    gd (wR x2) <|
    if 1094 < x2 then (
      some (-6))
    else (
      cr (fX7_isBusiness x2 m) fun r11 =>
      gd (wR r11) <|
      if r11 = 0 then (
        (fX7_nextBusiness_b2 m fuel) (x2 + 1) )
      else (
        some x2))
noncomputable def fX7_nextBusiness (x1 : Int) (m : mR) : Option Int :=
  fX7_nextBusiness_b2 m fuel0 x1
noncomputable def fX7_shifted_b73 (m : mR) (x1 : Int) (x4 : Int) : Option Int :=
  gd (wR x4) <|
  if x4 = (-6) then (
    some x1)
  else (
    some x4)
noncomputable def fX7_shifted (x1 : Int) (x2 : Int) (m : mR) : Option Int :=
  gd (wR x2) <|
  if x2 = 0 then (
    some x1)
  else (
    gd (wR x2) <|
    if x2 = 4 then (
      some x1)
    else (
      cr (fX7_isBusiness x1 m) fun r11 =>
      gd (wR r11) <|
      if r11 = 0 then (
        cr (fX7_nextBusiness x1 m) fun r21 =>
        cr (fX7_lastBusiness x1 m) fun r27 =>
        gd (wR x2) <|
        if x2 = 1 then (
          gd (wR r21) <|
          if r21 = (-6) then (
            some x1)
          else (
            some r21))
        else (
          gd (wR x2) <|
          if x2 = 3 then (
            gd (wR r21) <|
            if r21 = (-6) then (
              fX7_shifted_b73 m x1 r27)
            else (
              cr (fX7_monthOf r21) fun r61 =>
              cr (fX7_monthOf x1) fun r65 =>
              gd (wR r61 ∧ wR r65) <|
              if r61 = r65 then (
                some r21)
              else (
                fX7_shifted_b73 m x1 r27)))
          else (
            fX7_shifted_b73 m x1 r27)))
      else (
        some x1)))
noncomputable def fX7_dateBy (x1 : Int) (x2 : Int) (m : mR) : Option Int :=
  cr (fX7_nominal x1 x2 m) fun r4 =>
  cr (fX7_ofO x1 7 m) fun r11 =>
  cr (fX7_shifted r4 r11 m) fun r14 =>
  some r14
noncomputable def fX7_hasLeft (x1 : Int) (m : mR) : Option Int :=
  cr (fX7_ofO x1 15 m) fun r4 =>
  gd (wR r4) <|
  if r4 = 1 then (
    some 1)
  else (
    cr (fX7_ofO x1 9 m) fun r15 =>
    gd (wR r15) <|
    if r15 ≤ 0 then (
      some 0)
    else (
      some 1))
noncomputable def fX7_occurrence_b2 (m : mR) : Nat → Int → Int → Option Int
  | 0, _, _ => none
  | fuel + 1, x1, x3 =>
    cr (fX7_nominal x1 x3 m) fun r5 =>
    gd (wR r5) <|
    if r5 = (-6) then (
      (fX7_occurrence_b2 m fuel) x1 (x3 + 1) )
    else (
      cr (fX7_nominal x1 x3 m) fun r22 =>
      gd (wR r22) <|
      if r22 = 5000 then (
        some (-6))
      else (
        some x3))
noncomputable def fX7_occurrence (x1 : Int) (x2 : Int) (m : mR) : Option Int :=
  fX7_occurrence_b2 m fuel0 x1 x2
noncomputable def fX7_today (m : mR) : Option Int :=
  cr (fX7_of 0 m) fun r2 =>
  some r2
noncomputable def fX7_comesDue_b221 (x1 : Int) (m : mR) : Option (Unit × mR) :=
  cl (fX7_becomes x1 10 2 m) fun r226 m226 =>
  cl (fX7_becomes x1 9 0 m226) fun r234 m234 =>
  some ((), m234)
noncomputable def fX7_comesDue_b207 (x1 : Int) (x2 : Int) (m : mR) : Option (Unit × mR) :=
  gd (wR x2) <|
  if x2 = (-6) then (
    fX7_comesDue_b221 x1 m)
  else (
    cr (fX7_hasLeft x1 m) fun r215 =>
    gd (wR r215) <|
    if r215 = 0 then (
      fX7_comesDue_b221 x1 m)
    else (
      some ((), m)))
noncomputable def fX7_comesDue_b182 (rec13 : Int → Int → mR → Option (Unit × mR)) (x1 : Int) (x2 : Int) (t1 : Int) (t2 : Int) (t3 : Int) (m : mR) : Option (Unit × mR) :=
  cl (fX7_becomes t1 t2 t3 m) fun r182 m182 =>
  cl (fX7_becomes x1 14 (x2 + 1) m182) fun r192 m192 =>
  cr (fX7_occurrence x1 (x2 + 1) m192) fun r200 =>
  rec13 x1 r200 m192 
noncomputable def fX7_comesDue_b154 (rec13 : Int → Int → mR → Option (Unit × mR)) (x1 : Int) (x2 : Int) (m : mR) : Option (Unit × mR) :=
  cr (fX7_ofO x1 15 m) fun r162 =>
  gd (wR r162) <|
  if r162 = 1 then (
    fX7_comesDue_b182 rec13 x1 x2 x1 9 0 m)
  else (
    cr (fX7_ofO x1 9 m) fun r177 =>
    fX7_comesDue_b182 rec13 x1 x2 x1 9 (r177 - 1) m)
noncomputable def fX7_comesDue_b99 (rec13 : Int → Int → mR → Option (Unit × mR)) (x1 : Int) (x2 : Int) (x3 : Int) (m : mR) : Option (Unit × mR) :=
  gd (wR x3) <|
  cr (fX7_today m) fun r105 =>
  gd (wR r105) <|
  cr (fX7_of 4 m) fun r119 =>
  gd (wR x1) <|
  cr (fX7_ofO x1 2 m) fun r130 =>
  gd (wR r130) <|
  gd ((0 ≤ r119 ∧ r119 < 8400)) <|
  bnd (mS m 1 r119 (x1 + (16 * (r130 + (1048576 * (x3 + (2048 * r105))))))) fun m143 =>
  bnd (mS m143 0 4 ((m143.1 0 4) + 1)) fun m153 =>
  fX7_comesDue_b154 rec13 x1 x2 m153
noncomputable def fX7_comesDue_b13 : Nat → Int → Int → mR → Option (Unit × mR)
  | 0, _, _, _ => none
  | fuel + 1, x1, x2, m =>
    gd (wR x2) <|
    if x2 = (-6) then (
      fX7_comesDue_b207 x1 x2 m)
    else (
      cr (fX7_hasLeft x1 m) fun r21 =>
      gd (wR r21) <|
      if r21 = 0 then (
        fX7_comesDue_b207 x1 x2 m)
      else (
        cr (fX7_dateBy x1 x2 m) fun r30 =>
        cr (fX7_today m) fun r34 =>
        gd (wR r30 ∧ wR r34) <|
        if r34 < r30 then (
          fX7_comesDue_b207 x1 x2 m)
        else (
          cr (fX7_nominal x1 x2 m) fun r43 =>
          cr (fX7_ofO x1 7 m) fun r51 =>
          gd (wR r51) <|
          if r51 = 4 then (
            cr (fX7_isBusiness r43 m) fun r60 =>
            gd (wR r60) <|
            if r60 = 0 then (
              gd (0 ≤ ((121 + (16 * x1)) + 13) ∧ ((121 + (16 * x1)) + 13) < 377) <|
              gd ((0 ≤ ((121 + (16 * x1)) + 13) ∧ ((121 + (16 * x1)) + 13) < 377)) <|
              bnd (mS m 0 ((121 + (16 * x1)) + 13) ((m.1 0 ((121 + (16 * x1)) + 13)) + 1)) fun m84 =>
              bnd (mS m84 0 7 ((m84.1 0 7) + 1)) fun m95 =>
              fX7_comesDue_b154 (fX7_comesDue_b13 fuel) x1 x2 m95)
            else (
              fX7_comesDue_b99 (fX7_comesDue_b13 fuel) x1 x2 r43 m))
          else (
            fX7_comesDue_b99 (fX7_comesDue_b13 fuel) x1 x2 r43 m))))
noncomputable def fX7_comesDue (x1 : Int) (m : mR) : Option (Unit × mR) :=
  cr (fX7_ofO x1 14 m) fun r6 =>
  cr (fX7_occurrence x1 r6 m) fun r9 =>
  fX7_comesDue_b13 fuel0 x1 r9 m
noncomputable def fX7_moneyOf (x1 : Int) (x2 : Int) (m : mR) : Option Int :=
  gd (0 ≤ (((33 + (11 * x1)) + 3) + x2) ∧ (((33 + (11 * x1)) + 3) + x2) < 377) <|
  some (m.1 0 (((33 + (11 * x1)) + 3) + x2))
noncomputable def fX7_moves (x1 : Int) (x2 : Int) (x3 : Int) (m : mR) : Option (Unit × mR) :=
  gd (0 ≤ (((33 + (11 * x1)) + 3) + x2) ∧ (((33 + (11 * x1)) + 3) + x2) < 377) <|
  gd ((0 ≤ (((33 + (11 * x1)) + 3) + x2) ∧ (((33 + (11 * x1)) + 3) + x2) < 377)) <|
  bnd (mS m 0 (((33 + (11 * x1)) + 3) + x2) ((m.1 0 (((33 + (11 * x1)) + 3) + x2)) + x3)) fun m19 =>
  some ((), m19)
noncomputable def fX7_owes_b46 (x1 : Int) (m : mR) : Option (Unit × mR) :=
  cr (fX7_today m) fun r47 =>
  cr (fX7_monthOf r47) fun r50 =>
  cr (fX7_today m) fun r56 =>
  cr (fX7_monthStart r50) fun r61 =>
  cr (fX7_monthLength r50) fun r66 =>
  gd (wR r56 ∧ wR ((r61 + r66) - 1)) <|
  if r56 = ((r61 + r66) - 1) then (
    gd (0 ≤ x1 ∧ x1 < 8) <|
    cl (fX7_moves x1 0 (-(d2lI (m.2 0 x1))) m) fun r90 m90 =>
    cl (fX7_moves x1 7 (d2lI (m.2 0 x1)) m90) fun r99 m99 =>
    gd (0 ≤ x1 ∧ x1 < 8) <|
    gd (okD (FP.dsub (m99.2 0 x1) (FP.l2d (jL (d2lI (m.2 0 x1)))))) <|
    gd ((0 ≤ x1 ∧ x1 < 8)) <|
    bnd (mD m99 0 x1 (FP.dsub (m99.2 0 x1) (FP.l2d (jL (d2lI (m.2 0 x1)))))) fun m113 =>
    some ((), m113))
  else (
    some ((), m))
noncomputable def fX7_owes (x1 : Int) (m : mR) : Option (Unit × mR) :=
  cr (fX7_moneyOf x1 0 m) fun r3 =>
  gd (okF (FP.fdiv (FP.l2f (jL (m.1 0 11))) 1148846080)) <|
  gd (wR64 r3) <|
  if 0 ≤ r3 then (
    fX7_owes_b46 x1 m)
  else (
    gd (0 ≤ x1 ∧ x1 < 8) <|
    gd (okD (FP.f2d (FP.fdiv (FP.l2f (jL (m.1 0 11))) 1148846080))) <|
    gd (okD (FP.dmul (FP.l2d (jL (-r3))) (FP.f2d (FP.fdiv (FP.l2f (jL (m.1 0 11))) 1148846080)))) <|
    gd (okD (FP.ddiv (FP.dmul (FP.l2d (jL (-r3))) (FP.f2d (FP.fdiv (FP.l2f (jL (m.1 0 11))) 1148846080))) 4645128764097822720)) <|
    gd (okD (FP.dadd (m.2 0 x1) (FP.ddiv (FP.dmul (FP.l2d (jL (-r3))) (FP.f2d (FP.fdiv (FP.l2f (jL (m.1 0 11))) 1148846080))) 4645128764097822720))) <|
    gd ((0 ≤ x1 ∧ x1 < 8)) <|
    bnd (mD m 0 x1 (FP.dadd (m.2 0 x1) (FP.ddiv (FP.dmul (FP.l2d (jL (-r3))) (FP.f2d (FP.fdiv (FP.l2f (jL (m.1 0 11))) 1148846080))) 4645128764097822720))) fun m45 =>
    fX7_owes_b46 x1 m45)
noncomputable def fX7_partOf (x1 : Int) (x2 : Int) (m : mR) : Option Int :=
  gd (0 ≤ x1 ∧ x1 < 8400) <|
  gd (wR x2) <|
  if x2 = 0 then (
    gd (0 ≤ (m.1 1 x1) ∧ (m.1 1 x1) ≤ 9223372036854775807) <|
    some ((m.1 1 x1) % 16))
  else if x2 = 1 then (
    gd (0 ≤ (m.1 1 x1) ∧ (m.1 1 x1) ≤ 9223372036854775807) <|
    gd (0 ≤ ((m.1 1 x1) / 16) ∧ ((m.1 1 x1) / 16) ≤ 9223372036854775807) <|
    some (((m.1 1 x1) / 16) % 1048576))
  else if x2 = 2 then (
    gd (0 ≤ (m.1 1 x1) ∧ (m.1 1 x1) ≤ 9223372036854775807) <|
    gd (0 ≤ ((m.1 1 x1) / 16777216) ∧ ((m.1 1 x1) / 16777216) ≤ 9223372036854775807) <|
    some (((m.1 1 x1) / 16777216) % 2048))
  else if x2 = 3 then (
    gd (0 ≤ (m.1 1 x1) ∧ (m.1 1 x1) ≤ 9223372036854775807) <|
    gd (0 ≤ ((m.1 1 x1) / 34359738368) ∧ ((m.1 1 x1) / 34359738368) ≤ 9223372036854775807) <|
    some (((m.1 1 x1) / 34359738368) % 2048))
  else if x2 = 4 then (
    gd (0 ≤ (m.1 1 x1) ∧ (m.1 1 x1) ≤ 9223372036854775807) <|
    gd (0 ≤ ((m.1 1 x1) / 70368744177664) ∧ ((m.1 1 x1) / 70368744177664) ≤ 9223372036854775807) <|
    some (((m.1 1 x1) / 70368744177664) % 16))
  else (
    gd (0 ≤ (m.1 1 x1) ∧ (m.1 1 x1) ≤ 9223372036854775807) <|
    some ((m.1 1 x1) / 1125899906842624))
noncomputable def fX7_isAhead (x1 : Int) (x2 : Int) (m : mR) : Option Int :=
  cr (fX7_partOf x1 0 m) fun r4 =>
  cr (fX7_ofO r4 8 m) fun r9 =>
  cr (fX7_partOf x2 0 m) fun r17 =>
  cr (fX7_ofO r17 8 m) fun r22 =>
  gd (wR r9 ∧ wR r22) <|
  if r9 = r22 then (
    cr (fX7_partOf x1 3 m) fun r48 =>
    cr (fX7_partOf x2 3 m) fun r58 =>
    gd (wR r48 ∧ wR r58) <|
    if r48 = r58 then (
      cr (fX7_partOf x1 0 m) fun r86 =>
      cr (fX7_partOf x2 0 m) fun r92 =>
      gd (wR r86 ∧ wR r92) <|
      if r92 ≤ r86 then (
        some 0)
      else (
        some 1))
    else (
      cr (fX7_partOf x2 3 m) fun r69 =>
      gd (wR r48 ∧ wR r69) <|
      if r69 ≤ r48 then (
        some 0)
      else (
        some 1)))
  else (
    gd (wR r9 ∧ wR r22) <|
    if r9 ≤ r22 then (
      some 0)
    else (
      some 1))
noncomputable def fX7_nextToTry_b5 (m : mR) : Nat → Int → Int → Option Int
  | 0, _, _ => none
  | fuel + 1, x1, x2 =>
    gd (wR x2) <|
    gd (wR64 x2 ∧ wR64 (m.1 0 4)) <|
    if (m.1 0 4) ≤ x2 then (
      some x1)
    else (
      cr (fX7_partOf x2 5 m) fun r20 =>
      gd (wR r20) <|
      if r20 = 0 then (
        gd (wR x1) <|
        if x1 = (-6) then (
          (fX7_nextToTry_b5 m fuel) x2 (x2 + 1) )
        else (
          cr (fX7_isAhead x2 x1 m) fun r35 =>
          gd (wR r35) <|
          if r35 = 0 then (
            (fX7_nextToTry_b5 m fuel) x1 (x2 + 1) )
          else (
            (fX7_nextToTry_b5 m fuel) x2 (x2 + 1) )))
      else (
        (fX7_nextToTry_b5 m fuel) x1 (x2 + 1) ))
noncomputable def fX7_nextToTry (m : mR) : Option Int :=
  fX7_nextToTry_b5 m fuel0 (-6) 0
noncomputable def fX7_removes_b12 : Nat → Int → mR → Option (Unit × mR)
  | 0, _, _ => none
  | fuel + 1, x2, m =>
    gd (wR x2) <|
    gd (wR64 x2 ∧ wR64 (m.1 0 4)) <|
    if (m.1 0 4) ≤ x2 then (
      some ((), m))
    else (
      gd (0 ≤ (x2 + 1) ∧ (x2 + 1) < 8400) <|
      gd ((0 ≤ x2 ∧ x2 < 8400)) <|
      bnd (mS m 1 x2 (m.1 1 (x2 + 1))) fun m37 =>
      (fX7_removes_b12 fuel) (x2 + 1) m37 )
noncomputable def fX7_removes (x1 : Int) (m : mR) : Option (Unit × mR) :=
  bnd (mS m 0 4 ((m.1 0 4) - 1)) fun m9 =>
  fX7_removes_b12 fuel0 x1 m9
noncomputable def fX7_misses (x1 : Int) (m : mR) : Option (Unit × mR) :=
  cr (fX7_partOf x1 0 m) fun r11 =>
  gd (0 ≤ ((121 + (16 * r11)) + 12) ∧ ((121 + (16 * r11)) + 12) < 377) <|
  gd ((0 ≤ ((121 + (16 * r11)) + 12) ∧ ((121 + (16 * r11)) + 12) < 377)) <|
  bnd (mS m 0 ((121 + (16 * r11)) + 12) ((m.1 0 ((121 + (16 * r11)) + 12)) + 1)) fun m23 =>
  bnd (mS m23 0 6 ((m23.1 0 6) + 1)) fun m34 =>
  cl (fX7_removes x1 m34) fun r37 m37 =>
  some ((), m37)
noncomputable def fX7_ofA (x1 : Int) (x2 : Int) (m : mR) : Option Int :=
  cr (fX7_of ((33 + (11 * x1)) + x2) m) fun r10 =>
  some r10
noncomputable def fX7_tries_b93 (x1 : Int) (x2 : Int) (m : mR) : Option (Unit × mR) :=
  gd (0 ≤ ((121 + (16 * x2)) + 11) ∧ ((121 + (16 * x2)) + 11) < 377) <|
  gd ((0 ≤ ((121 + (16 * x2)) + 11) ∧ ((121 + (16 * x2)) + 11) < 377)) <|
  bnd (mS m 0 ((121 + (16 * x2)) + 11) ((m.1 0 ((121 + (16 * x2)) + 11)) + 1)) fun m111 =>
  bnd (mS m111 0 5 ((m111.1 0 5) + 1)) fun m121 =>
  cl (fX7_removes x1 m121) fun r124 m124 =>
  some ((), m124)
noncomputable def fX7_tries (x1 : Int) (m : mR) : Option (Unit × mR) :=
  cr (fX7_partOf x1 0 m) fun r3 =>
  cr (fX7_ofO r3 0 m) fun r10 =>
  cr (fX7_ofO r3 1 m) fun r17 =>
  cr (fX7_partOf x1 1 m) fun r25 =>
  gd (wR r25) <|
  cr (fX7_moneyOf r10 0 m) fun r34 =>
  cr (fX7_ofA r10 0 m) fun r40 =>
  gd (wR r40) <|
  gd (wR64 (r34 + r40) ∧ wR64 r25) <|
  if (r34 + r40) < r25 then (
    cl (fX7_moves r10 0 (-(m.1 0 10)) m) fun r139 m139 =>
    cl (fX7_moves r10 6 (m139.1 0 10) m139) fun r153 m153 =>
    bnd (mS m153 0 8 ((m153.1 0 8) + 1)) fun m166 =>
    bnd (mS m166 6 8 (orI (m166.1 6 8) (shlI 1 r10))) fun m176 =>
    cr (fX7_partOf x1 4 m176) fun r182 =>
    gd (wR (r182 + 1)) <|
    gd (wR64 (r182 + 1) ∧ wR64 (m176.1 0 9)) <|
    if (r182 + 1) < (m176.1 0 9) then (
      gd (0 ≤ x1 ∧ x1 < 8400) <|
      gd ((0 ≤ x1 ∧ x1 < 8400)) <|
      bnd (mS m176 1 x1 ((m176.1 1 x1) + 1196268651020288)) fun m218 =>
      some ((), m218))
    else (
      cl (fX7_misses x1 m176) fun r201 m201 =>
      some ((), m201)))
  else (
    cl (fX7_moves r10 0 (-r25) m) fun r57 m57 =>
    cl (fX7_moves r10 2 r25 m57) fun r65 m65 =>
    gd (wR r17) <|
    if r17 = 8 then (
      fX7_tries_b93 x1 r3 m65)
    else (
      cl (fX7_moves r17 0 r25 m65) fun r81 m81 =>
      cl (fX7_moves r17 3 r25 m81) fun r90 m90 =>
      fX7_tries_b93 x1 r3 m90))
noncomputable def fX7_paysAll_b26 : Nat → Int → mR → Option (Unit × mR)
  | 0, _, _ => none
  | fuel + 1, x2, m =>
    gd (wR x2) <|
    gd (wR64 x2 ∧ wR64 (m.1 0 4)) <|
    if (m.1 0 4) ≤ x2 then (
      some ((), m))
    else (
      gd (0 ≤ x2 ∧ x2 < 8400) <|
      gd (0 ≤ (m.1 1 x2) ∧ (m.1 1 x2) ≤ 9223372036854775807) <|
      gd ((0 ≤ x2 ∧ x2 < 8400)) <|
      bnd (mS m 1 x2 ((m.1 1 x2) % 1125899906842624)) fun m49 =>
      (fX7_paysAll_b26 fuel) (x2 + 1) m49 )
noncomputable def fX7_paysAll_b5 : Nat → Int → mR → Option (Unit × mR)
  | 0, _, _ => none
  | fuel + 1, x1, m =>
    gd (wR x1) <|
    if x1 = (-6) then (
      fX7_paysAll_b26 fuel0 0 m)
    else (
      cl (fX7_tries x1 m) fun r13 m13 =>
      cr (fX7_nextToTry m13) fun r17 =>
      (fX7_paysAll_b5 fuel) r17 m13 )
noncomputable def fX7_paysAll (m : mR) : Option (Unit × mR) :=
  cr (fX7_nextToTry m) fun r1 =>
  fX7_paysAll_b5 fuel0 r1 m
noncomputable def fX7_waitsFor_b47 (m : mR) (rec5 : Int → Int → Int → Option Int) (x1 : Int) (x4 : Int) (t0 : Int) (t1 : Int) : Option Int :=
  rec5 x1 (t0 + t1) (x4 + 1) 
noncomputable def fX7_waitsFor_b5 (m : mR) : Nat → Int → Int → Int → Option Int
  | 0, _, _, _ => none
  | fuel + 1, x1, x2, x4 =>
    gd (wR x4) <|
    gd (wR64 x4 ∧ wR64 (m.1 0 4)) <|
    if (m.1 0 4) ≤ x4 then (
      some x2)
    else (
      cr (fX7_partOf x4 0 m) fun r24 =>
      cr (fX7_ofO r24 0 m) fun r28 =>
      gd (wR r28 ∧ wR x1) <|
      if r28 = x1 then (
        cr (fX7_partOf x4 1 m) fun r39 =>
        gd (wR r39) <|
        fX7_waitsFor_b47 m (fX7_waitsFor_b5 m fuel) x1 x4 x2 r39)
      else (
        fX7_waitsFor_b47 m (fX7_waitsFor_b5 m fuel) x1 x4 x2 0))
noncomputable def fX7_waitsFor (x1 : Int) (m : mR) : Option Int :=
  fX7_waitsFor_b5 m fuel0 x1 0 0
noncomputable def fX7_sweeps_b64 (x1 : Int) (x2 : Int) (t0 : Int) (m : mR) : Option (Unit × mR) :=
  gd (wR64 t0) <|
  if t0 ≤ 0 then (
    some ((), m))
  else (
    cl (fX7_moves x2 0 (-t0) m) fun r79 m79 =>
    cl (fX7_moves x2 5 t0 m79) fun r87 m87 =>
    cl (fX7_moves x1 0 t0 m87) fun r95 m95 =>
    cl (fX7_moves x1 4 t0 m95) fun r103 m103 =>
    some ((), m103))
noncomputable def fX7_sweeps (x1 : Int) (m : mR) : Option (Unit × mR) :=
  cr (fX7_ofA x1 2 m) fun r3 =>
  gd (wR r3) <|
  if r3 = (-6) then (
    some ((), m))
  else (
    cr (fX7_waitsFor x1 m) fun r16 =>
    cr (fX7_moneyOf x1 0 m) fun r22 =>
    cr (fX7_ofA x1 0 m) fun r29 =>
    gd (wR r29) <|
    cr (fX7_moneyOf r3 0 m) fun r38 =>
    cr (fX7_ofA r3 1 m) fun r44 =>
    gd (wR r44) <|
    gd (wR64 ((r16 - r22) - r29) ∧ wR64 (r38 - r44)) <|
    if (r38 - r44) ≤ ((r16 - r22) - r29) then (
      fX7_sweeps_b64 x1 r3 (r38 - r44) m)
    else (
      fX7_sweeps_b64 x1 r3 ((r16 - r22) - r29) m))
noncomputable def fX7_passesDay_b82 : Nat → Int → mR → Option (Unit × mR)
  | 0, _, _ => none
  | fuel + 1, x1, m =>
    gd (wR x1) <|
    gd (wR64 x1 ∧ wR64 (m.1 0 1)) <|
    if (m.1 0 1) ≤ x1 then (
      bnd (mS m 0 0 ((m.1 0 0) + 1)) fun m114 =>
      some ((), m114))
    else (
      cl (fX7_owes x1 m) fun r96 m96 =>
      (fX7_passesDay_b82 fuel) (x1 + 1) m96 )
noncomputable def fX7_passesDay_b42 : Nat → Int → mR → Option (Unit × mR)
  | 0, _, _ => none
  | fuel + 1, x1, m =>
    gd (wR x1) <|
    gd (wR64 x1 ∧ wR64 (m.1 0 1)) <|
    if (m.1 0 1) ≤ x1 then (
      cr (fX7_today m) fun r67 =>
      cr (fX7_isBusiness r67 m) fun r70 =>
      gd (wR r70) <|
      if r70 = 0 then (
        fX7_passesDay_b82 fuel0 0 m)
      else (
        cl (fX7_paysAll m) fun r77 m77 =>
        fX7_passesDay_b82 fuel0 0 m77))
    else (
      cl (fX7_sweeps x1 m) fun r56 m56 =>
      (fX7_passesDay_b42 fuel) (x1 + 1) m56 )
noncomputable def fX7_passesDay_b7 : Nat → Int → mR → Option (Unit × mR)
  | 0, _, _ => none
  | fuel + 1, x1, m =>
    gd (wR x1) <|
    gd (wR64 x1 ∧ wR64 (m.1 0 2)) <|
    if (m.1 0 2) ≤ x1 then (
      fX7_passesDay_b42 fuel0 0 m)
    else (
      cr (fX7_ofO x1 10 m) fun r23 =>
      gd (wR r23) <|
      if r23 = 0 then (
        cl (fX7_comesDue x1 m) fun r31 m31 =>
        (fX7_passesDay_b7 fuel) (x1 + 1) m31 )
      else (
        (fX7_passesDay_b7 fuel) (x1 + 1) m ))
noncomputable def fX7_passesDay (m : mR) : Option (Unit × mR) :=
  bnd (mS m 6 8 0) fun m2 =>
  fX7_passesDay_b7 fuel0 0 m2
noncomputable def fX7_passesDays_b27 (m : mR) : Option (Int × mR) :=
  cr (fX7_today m) fun r28 =>
  some (r28, m)
noncomputable def fX7_passesDays_b2 : Nat → Int → Int → mR → Option (Int × mR)
  | 0, _, _, _ => none
  | fuel + 1, x1, x2, m =>
    gd (wR x2 ∧ wR x1) <|
    if x1 ≤ x2 then (
      fX7_passesDays_b27  m)
    else (
      cr (fX7_today m) fun r8 =>
      gd (wR r8) <|
      if 1094 ≤ r8 then (
        fX7_passesDays_b27  m)
      else (
        cl (fX7_passesDay m) fun r18 m18 =>
        (fX7_passesDays_b2 fuel) x1 (x2 + 1) m18 ))
noncomputable def fX7_passesDays (x1 : Int) (m : mR) : Option (Int × mR) :=
  fX7_passesDays_b2 fuel0 x1 0 m
noncomputable def fX7_waitsOf_b32 (m : mR) (rec4 : Int → Int → Int → Option Int) (x1 : Int) (x3 : Int) (t0 : Int) (t1 : Int) : Option Int :=
  rec4 x1 (t0 + t1) (x3 + 1) 
noncomputable def fX7_waitsOf_b4 (m : mR) : Nat → Int → Int → Int → Option Int
  | 0, _, _, _ => none
  | fuel + 1, x1, x2, x3 =>
    gd (wR x3) <|
    gd (wR64 x3 ∧ wR64 (m.1 0 4)) <|
    if (m.1 0 4) ≤ x3 then (
      some x2)
    else (
      cr (fX7_partOf x3 0 m) fun r20 =>
      gd (wR r20 ∧ wR x1) <|
      if r20 = x1 then (
        fX7_waitsOf_b32 m (fX7_waitsOf_b4 m fuel) x1 x3 x2 1)
      else (
        fX7_waitsOf_b32 m (fX7_waitsOf_b4 m fuel) x1 x3 x2 0))
noncomputable def fX7_waitsOf (x1 : Int) (m : mR) : Option Int :=
  fX7_waitsOf_b4 m fuel0 x1 0 0
noncomputable def fX7_ahead_b91 (x4 : Int) (t0 : Int) (m : mR) : Option (Int × mR) :=
  cl (fX7_brings 8 m) fun r96 m96 =>
  some ((t0 - x4), m96)
noncomputable def fX7_ahead_b61 (x1 : Int) (x2 : Int) (x3 : Int) (t0 : Int) (m : mR) : Option (Int × mR) :=
  cl (fX7_passesDays x2 m) fun r65 m65 =>
  gd (wR x3) <|
  if x3 = 3 then (
    cr (fX7_waitsOf x1 m65) fun r76 =>
    fX7_ahead_b91 t0 r76 m65)
  else (
    cr (fX7_ofO x1 (11 + x3) m65) fun r88 =>
    fX7_ahead_b91 t0 r88 m65)
noncomputable def fX7_ahead (x1 : Int) (x2 : Int) (x3 : Int) (m : mR) : Option (Int × mR) :=
  cr (fX7_isOrder x1 m) fun r2 =>
  gd (wR r2) <|
  if r2 = 0 then (
    some ((-1), m))
  else (
    gd (wR x2) <|
    cr (fX7_isIn x2 1 400) fun r16 =>
    gd (wR r16) <|
    if r16 = 0 then (
      some ((-2), m))
    else (
      gd (wR x3) <|
      cr (fX7_isIn x3 0 3) fun r28 =>
      gd (wR r28) <|
      if r28 = 0 then (
        some ((-2), m))
      else (
        cl (fX7_keeps 8 m) fun r40 m40 =>
        gd (wR x3) <|
        if x3 = 3 then (
          fX7_ahead_b61 x1 x2 x3 0 m40)
        else (
          cr (fX7_ofO x1 (11 + x3) m40) fun r58 =>
          fX7_ahead_b61 x1 x2 x3 r58 m40))))
noncomputable def fX7_isAccount (x1 : Int) (m : mR) : Option Int :=
  gd (wR x1) <|
  cr (fX7_isIn x1 0 ((m.1 0 1) - 1)) fun r11 =>
  gd (r11 = 0 ∨ r11 = 1) <|
  some r11
noncomputable def fX7_balanceIn (x1 : Int) (x2 : Int) (m : mR) : Option (Int × mR) :=
  cr (fX7_isAccount x1 m) fun r2 =>
  gd (wR r2) <|
  if r2 = 0 then (
    some ((-1), m))
  else (
    gd (wR x2) <|
    cr (fX7_isIn x2 1 400) fun r18 =>
    gd (wR r18) <|
    if r18 = 0 then (
      some ((-2), m))
    else (
      cl (fX7_keeps 8 m) fun r31 m31 =>
      cl (fX7_passesDays x2 m31) fun r36 m36 =>
      cr (fX7_moneyOf x1 0 m36) fun r43 =>
      cl (fX7_brings 8 m36) fun r50 m50 =>
      some (r43, m50)))
noncomputable def fX7_bitsOf_b39 : Nat → Int → UInt64 → Option Int
  | 0, _, _ => none
  | fuel + 1, x2, x4 =>
    gd (wR (dcI x4 FP.dconst1 (.g))) <|
    if 0 ≤ (dcI x4 FP.dconst1 (.g)) then (
      gd (okD (FP.dsub x4 FP.dconst1)) <|
      gd (okD (FP.dmul (FP.dsub x4 FP.dconst1) 4841369599423283200)) <|
      some ((lshlI x2 52) + (d2lI (FP.dmul (FP.dsub x4 FP.dconst1) 4841369599423283200))))
    else (
      gd (okD (FP.dmul x4 4611686018427387904)) <|
      (fX7_bitsOf_b39 fuel) (x2 - 1) (FP.dmul x4 4611686018427387904) )
noncomputable def fX7_bitsOf_b15 : Nat → Int → UInt64 → Option Int
  | 0, _, _ => none
  | fuel + 1, x2, x4 =>
    gd (wR (dcI x4 4611686018427387904 (.l))) <|
    if (dcI x4 4611686018427387904 (.l)) < 0 then (
      fX7_bitsOf_b39 fuel0 x2 x4)
    else (
      gd (okD (FP.ddiv x4 4611686018427387904)) <|
      (fX7_bitsOf_b15 fuel) (x2 + 1) (FP.ddiv x4 4611686018427387904) )
noncomputable def fX7_bitsOf (x0 : UInt64) : Option Int :=
  gd (wR (dcI x0 FP.dconst0 (.l))) <|
  if (dcI x0 FP.dconst0 (.l)) = 0 then (
    some 0)
  else (
    fX7_bitsOf_b15 fuel0 1023 x0)
noncomputable def fX7_checksDays (x1 : Int) (m : mR) : Option Int :=
  gd (wR x1) <|
  cr (fX7_isIn x1 1 400) fun r6 =>
  gd (wR r6) <|
  if r6 = 0 then (
    some (-2))
  else (
    cr (fX7_today m) fun r16 =>
    gd (wR (r16 + x1)) <|
    if (r16 + x1) ≤ 1094 then (
      some 0)
    else (
      some (-5)))
noncomputable def fX7_checksDeposit (x1 : Int) (x2 : Int) (m : mR) : Option Int :=
  cr (fX7_isAccount x1 m) fun r2 =>
  gd (wR r2) <|
  if r2 = 0 then (
    some (-1))
  else (
    gd (wR x2) <|
    cr (fX7_isIn x2 1 100000000) fun r16 =>
    gd (wR r16) <|
    if r16 = 0 then (
      some (-2))
    else (
      some 0))
noncomputable def fX7_checksState (x1 : Int) (x2 : Int) (m : mR) : Option Int :=
  cr (fX7_isOrder x1 m) fun r2 =>
  gd (wR r2) <|
  if r2 = 0 then (
    some (-1))
  else (
    cr (fX7_ofO x1 10 m) fun r14 =>
    gd (wR r14 ∧ wR x2) <|
    if r14 = x2 then (
      some 0)
    else (
      some (-5)))
noncomputable def fX7_deposits (x1 : Int) (x2 : Int) (m : mR) : Option (Int × mR) :=
  gd (wR x2) <|
  cl (fX7_moves x1 0 x2 m) fun r5 m5 =>
  gd (wR x2) <|
  cl (fX7_moves x1 1 x2 m5) fun r13 m13 =>
  cr (fX7_moneyOf x1 0 m13) fun r19 =>
  gd (wR64 r19) <|
  if r19 < 0 then (
    some (0, m13))
  else (
    some (1, m13))
noncomputable def fX7_checksOrder_b100 (m : mR) (x2 : Int) (x4 : Int) (x5 : Int) (x6 : Int) (t0 : Int) : Option Int :=
  gd (wR x2) <|
  cr (fX7_isIn x2 1 1000000) fun r108 =>
  gd (wR r108) <|
  if r108 = 0 then (
    some (-2))
  else (
    gd (wR t0) <|
    if t0 = 0 then (
      some (-2))
    else (
      gd (wR x4) <|
      cr (fX7_today m) fun r123 =>
      gd (wR r123) <|
      cr (fX7_isIn x4 r123 1094) fun r130 =>
      gd (wR r130) <|
      if r130 = 0 then (
        some (-2))
      else (
        gd (wR x5) <|
        cr (fX7_isIn x5 0 49) fun r143 =>
        gd (wR r143) <|
        if r143 = 0 then (
          some (-2))
        else (
          gd (wR x6) <|
          cr (fX7_isIn x6 0 99) fun r156 =>
          gd (wR r156) <|
          if r156 = 0 then (
            some (-2))
          else (
            gd (wR64 (m.1 0 2)) <|
            if (m.1 0 2) = 16 then (
              some (-4))
            else (
              some 0))))))
noncomputable def fX7_checksOrder_b41 (m : mR) (x2 : Int) (x3 : Int) (x4 : Int) (x5 : Int) (x6 : Int) (x7 : Int) (x8 : Int) : Option Int :=
  gd (wR x7 ∧ wR x8) <|
  if x7 = x8 then (
    some (-1))
  else (
    gd (wR x3) <|
    cr (fX7_isIn x3 0 39999) fun r56 =>
    gd (wR r56) <|
    if r56 = 0 then (
      fX7_checksOrder_b100 m x2 x4 x5 x6 0)
    else (
      gd (wR x3) <|
      gd (wR (dvI x3 100)) <|
      gd (wR (rmI (dvI x3 100) 100)) <|
      cr (fX7_isIn (rmI (dvI x3 100) 100) 1 12) fun r74 =>
      gd (wR r74) <|
      if r74 = 0 then (
        fX7_checksOrder_b100 m x2 x4 x5 x6 0)
      else (
        gd (wR x3) <|
        gd (wR (rmI x3 100)) <|
        cr (fX7_isIn (rmI x3 100) 1 31) fun r89 =>
        gd (wR r89) <|
        if r89 = 0 then (
          fX7_checksOrder_b100 m x2 x4 x5 x6 0)
        else (
          fX7_checksOrder_b100 m x2 x4 x5 x6 1))))
noncomputable def fX7_checksOrder (x1 : Int) (x2 : Int) (x3 : Int) (x4 : Int) (x5 : Int) (x6 : Int) (m : mR) : Option Int :=
  gd (wR x1) <|
  gd (wR x1) <|
  gd (wR x1) <|
  if x1 < 0 then (
    some (-1))
  else (
    cr (fX7_isAccount (dvI x1 9) m) fun r19 =>
    gd (wR r19) <|
    if r19 = 0 then (
      some (-1))
    else (
      gd (wR (rmI x1 9)) <|
      if (rmI x1 9) = 8 then (
        fX7_checksOrder_b41 m x2 x3 x4 x5 x6 (dvI x1 9) (rmI x1 9))
      else (
        cr (fX7_isAccount (rmI x1 9) m) fun r35 =>
        gd (wR r35) <|
        if r35 = 0 then (
          some (-1))
        else (
          fX7_checksOrder_b41 m x2 x3 x4 x5 x6 (dvI x1 9) (rmI x1 9)))))
noncomputable def fX7_leavesOut_b15 : Nat → Int → Int → Int → mR → Option (Int × mR)
  | 0, _, _, _, _ => none
  | fuel + 1, x1, x2, x3, m =>
    gd (wR x3) <|
    if x3 = (-6) then (
      some (x2, m))
    else (
      cr (fX7_dateBy x1 x3 m) fun r24 =>
      cr (fX7_today m) fun r28 =>
      gd (wR r24 ∧ wR r28) <|
      if r28 ≤ r24 then (
        some (x2, m))
      else (
        cl (fX7_becomes x1 14 (x3 + 1) m) fun r44 m44 =>
        cr (fX7_occurrence x1 (x3 + 1) m44) fun r52 =>
        (fX7_leavesOut_b15 fuel) x1 (x2 + 1) r52 m44 ))
noncomputable def fX7_leavesOut (x1 : Int) (m : mR) : Option (Int × mR) :=
  cr (fX7_ofO x1 14 m) fun r8 =>
  cr (fX7_occurrence x1 r8 m) fun r11 =>
  fX7_leavesOut_b15 fuel0 x1 0 r11 m
noncomputable def fX7_makes_b170 (x7 : Int) (t1 : Int) (t2 : Int) (t3 : Int) (m : mR) : Option (Int × mR) :=
  cl (fX7_becomes t1 t2 t3 m) fun r170 m170 =>
  cl (fX7_leavesOut x7 m170) fun r176 m176 =>
  some (x7, m176)
noncomputable def fX7_makes_b20 : Nat → Int → Int → Int → Int → Int → Int → Int → Int → mR → Option (Int × mR)
  | 0, _, _, _, _, _, _, _, _, _ => none
  | fuel + 1, x1, x2, x3, x4, x5, x6, x7, x8, m =>
    gd (wR x8) <|
    if 16 ≤ x8 then (
      gd (wR x1) <|
      cl (fX7_becomes x7 0 (dvI x1 9) m) fun r50 m50 =>
      gd (wR x1) <|
      cl (fX7_becomes x7 1 (rmI x1 9) m50) fun r61 m61 =>
      cl (fX7_becomes x7 2 x2 m61) fun r69 m69 =>
      gd (wR x3) <|
      cl (fX7_becomes x7 3 (dvI x3 10000) m69) fun r81 m81 =>
      gd (wR x3) <|
      gd (wR (dvI x3 100)) <|
      cl (fX7_becomes x7 4 (rmI (dvI x3 100) 100) m81) fun r95 m95 =>
      gd (wR x3) <|
      cl (fX7_becomes x7 5 (rmI x3 100) m95) fun r106 m106 =>
      cl (fX7_becomes x7 6 x4 m106) fun r116 m116 =>
      gd (wR x5) <|
      cl (fX7_becomes x7 7 (dvI x5 10) m116) fun r129 m129 =>
      gd (wR x5) <|
      cl (fX7_becomes x7 8 (rmI x5 10) m129) fun r142 m142 =>
      cl (fX7_becomes x7 9 x6 m142) fun r152 m152 =>
      gd (wR x6) <|
      if x6 = 0 then (
        fX7_makes_b170 x7 x7 15 1 m152)
      else (
        fX7_makes_b170 x7 x7 15 0 m152))
    else (
      cl (fX7_becomes x7 x8 0 m) fun r33 m33 =>
      (fX7_makes_b20 fuel) x1 x2 x3 x4 x5 x6 x7 (x8 + 1) m33 )
noncomputable def fX7_makes (x1 : Int) (x2 : Int) (x3 : Int) (x4 : Int) (x5 : Int) (x6 : Int) (m : mR) : Option (Int × mR) :=
  cr (fX7_of 2 m) fun r2 =>
  bnd (mS m 0 2 ((m.1 0 2) + 1)) fun m16 =>
  fX7_makes_b20 fuel0 x1 x2 x3 x4 x5 x6 r2 0 m16
noncomputable def fX7_doesNewOrder_b28 (m : mR) : Option (Int × mR) :=
  cr (fX7_today m) fun r71 =>
  cr (fX7_checksOrder ((9 * (m.1 6 14)) + (m.1 6 15)) (m.1 6 16) (((10000 * (m.1 6 17)) + (100 * (m.1 6 18))) + (m.1 6 19)) r71 ((10 * (m.1 6 20)) + 5) 0 m) fun r84 =>
  gd (wR r84) <|
  if r84 = 0 then (
    cr (fX7_today m) fun r104 =>
    cl (fX7_makes ((9 * (m.1 6 14)) + (m.1 6 15)) (m.1 6 16) (((10000 * (m.1 6 17)) + (100 * (m.1 6 18))) + (m.1 6 19)) r104 ((10 * (m.1 6 20)) + 5) 0 m) fun r117 m117 =>
    some (r117, m117))
  else (
    some (r84, m))
noncomputable def fX7_doesNewOrder_b18 (m : mR) : Option (Int × mR) :=
  bnd (mS m 6 18 0) fun m20 =>
  bnd (mS m20 6 19 0) fun m25 =>
  fX7_doesNewOrder_b28  m25
noncomputable def fX7_doesNewOrder (m : mR) : Option (Int × mR) :=
  gd (wR (m.1 6 18)) <|
  if 99 < (m.1 6 18) then (
    fX7_doesNewOrder_b18  m)
  else (
    gd (wR (m.1 6 19)) <|
    if (m.1 6 19) ≤ 99 then (
      fX7_doesNewOrder_b28  m)
    else (
      fX7_doesNewOrder_b18  m))
noncomputable def fX7_goesOn (x1 : Int) (m : mR) : Option (Int × mR) :=
  cl (fX7_becomes x1 10 0 m) fun r5 m5 =>
  cl (fX7_leavesOut x1 m5) fun r10 m10 =>
  some (r10, m10)
noncomputable def fX7_stops (x1 : Int) (m : mR) : Option (Int × mR) :=
  cl (fX7_becomes x1 10 1 m) fun r5 m5 =>
  cr (fX7_waitsOf x1 m5) fun r10 =>
  some (r10, m5)
noncomputable def fX7_does (m : mR) : Option (Int × mR) :=
  gd (wR (m.1 6 13)) <|
  if (m.1 6 13) = 0 then (
    cl (fX7_doesNewOrder m) fun r37 m37 =>
    some (r37, m37))
  else if (m.1 6 13) = 1 then (
    cr (fX7_checksDeposit (m.1 6 14) (m.1 6 16) m) fun r50 =>
    gd (wR r50) <|
    if r50 = 0 then (
      cl (fX7_deposits (m.1 6 14) (m.1 6 16) m) fun r71 m71 =>
      some (r71, m71))
    else (
      some (r50, m)))
  else if (m.1 6 13) = 2 then (
    cr (fX7_checksState (m.1 6 16) 0 m) fun r81 =>
    gd (wR r81) <|
    if r81 = 0 then (
      cl (fX7_stops (m.1 6 16) m) fun r98 m98 =>
      some (r98, m98))
    else (
      some (r81, m)))
  else if (m.1 6 13) = 3 then (
    cr (fX7_checksState (m.1 6 16) 1 m) fun r108 =>
    gd (wR r108) <|
    if r108 = 0 then (
      cl (fX7_goesOn (m.1 6 16) m) fun r125 m125 =>
      some (r125, m125))
    else (
      some (r108, m)))
  else (
    cr (fX7_checksDays (m.1 6 16) m) fun r134 =>
    gd (wR r134) <|
    if r134 = 0 then (
      cl (fX7_passesDays (m.1 6 16) m) fun r151 m151 =>
      some (r151, m151))
    else (
      some (r134, m)))
noncomputable def fX7_passes (x1 : Int) (x2 : Int) (m : mR) : Option (Int × mR) :=
  gd (wR (m.1 6 11) ∧ wR (m.1 6 10)) <|
  if (m.1 6 11) = (m.1 6 10) then (
    some (0, m))
  else (
    gd (0 ≤ (m.1 6 11) ∧ (m.1 6 11) < 80) <|
    gd (wR (m.1 5 (m.1 6 11))) <|
    gd (wR x1) <|
    gd (wR x2) <|
    cr (fX7_isIn (m.1 5 (m.1 6 11)) x1 x2) fun r25 =>
    gd (wR r25) <|
    if r25 = 0 then (
      some (0, m))
    else (
      gd (0 ≤ (m.1 6 11) ∧ (m.1 6 11) < 80) <|
      bnd (mS m 6 12 ((m.1 5 (m.1 6 11)) - 48)) fun m46 =>
      bnd (mS m46 6 11 ((m46.1 6 11) + 1)) fun m56 =>
      some (1, m56)))
noncomputable def fX7_isDigitHere (m : mR) : Option Int :=
  gd (wR (m.1 6 11) ∧ wR (m.1 6 10)) <|
  if (m.1 6 10) ≤ (m.1 6 11) then (
    some 0)
  else (
    gd (0 ≤ (m.1 6 11) ∧ (m.1 6 11) < 80) <|
    gd (wR (m.1 5 (m.1 6 11))) <|
    cr (fX7_isIn (m.1 5 (m.1 6 11)) 48 57) fun r27 =>
    gd (wR r27) <|
    if r27 = 0 then (
      some 0)
    else (
      some 1))
noncomputable def fX7_passesNumber_b71 (x1 : Int) (m : mR) : Option (Int × mR) :=
  bnd (mS m 6 12 x1) fun m73 =>
  some (1, m73)
noncomputable def fX7_passesNumber_b18 : Nat → Int → mR → Option (Int × mR)
  | 0, _, _ => none
  | fuel + 1, x1, m =>
    gd (wR x1) <|
    if x1 ≤ 0 then (
      fX7_passesNumber_b71 x1 m)
    else (
      cr (fX7_isDigitHere m) fun r23 =>
      gd (wR r23) <|
      if r23 = 0 then (
        fX7_passesNumber_b71 x1 m)
      else (
        gd (0 ≤ (m.1 6 11) ∧ (m.1 6 11) < 80) <|
        gd (wR (((10 * x1) + (m.1 5 (m.1 6 11))) - 48)) <|
        if (((10 * x1) + (m.1 5 (m.1 6 11))) - 48) ≤ 99999 then (
          bnd (mS m 6 11 ((m.1 6 11) + 1)) fun m65 =>
          (fX7_passesNumber_b18 fuel) (((10 * x1) + (m.1 5 (m.1 6 11))) - 48) m65 )
        else (
          some (0, m))))
noncomputable def fX7_passesNumber (m : mR) : Option (Int × mR) :=
  cl (fX7_passes 48 57 m) fun r5 m5 =>
  gd (wR r5) <|
  if r5 = 0 then (
    some (0, m5))
  else (
    fX7_passesNumber_b18 fuel0 (m5.1 6 12) m5)
noncomputable def fX7_passesDeposit (m : mR) : Option (Int × mR) :=
  cl (fX7_passes 48 55 m) fun r5 m5 =>
  gd (wR r5) <|
  if r5 = 0 then (
    some (0, m5))
  else (
    bnd (mS m5 6 14 (m5.1 6 12)) fun m18 =>
    cl (fX7_passes 43 43 m18) fun r26 m26 =>
    gd (wR r26) <|
    if r26 = 0 then (
      some (0, m26))
    else (
      cl (fX7_passesNumber m26) fun r33 m33 =>
      gd (wR r33) <|
      if r33 = 0 then (
        some (0, m33))
      else (
        bnd (mS m33 6 16 (m33.1 6 12)) fun m46 =>
        some (1, m46))))
noncomputable def fX7_passesOne (x1 : Int) (x2 : Int) (x3 : Int) (x4 : Int) (m : mR) : Option (Int × mR) :=
  cl (fX7_passes x1 x1 m) fun r3 m3 =>
  gd (wR r3) <|
  if r3 = 0 then (
    cl (fX7_passes x2 x2 m3) fun r14 m14 =>
    gd (wR r14) <|
    if r14 = 0 then (
      cl (fX7_passes x3 x3 m14) fun r25 m25 =>
      gd (wR r25) <|
      if r25 = 0 then (
        cl (fX7_passes x4 x4 m25) fun r38 m38 =>
        gd (wR r38) <|
        if r38 = 0 then (
          some ((-6), m38))
        else (
          some (3, m38)))
      else (
        some (2, m25)))
    else (
      some (1, m14)))
  else (
    some (0, m3))
noncomputable def fX7_passesParties_b72 (m : mR) : Option (Int × mR) :=
  cl (fX7_passes 42 42 m) fun r77 m77 =>
  gd (r77 = 0 ∨ r77 = 1) <|
  some (r77, m77)
noncomputable def fX7_passesParties (m : mR) : Option (Int × mR) :=
  cl (fX7_passes 48 55 m) fun r5 m5 =>
  gd (wR r5) <|
  if r5 = 0 then (
    some (0, m5))
  else (
    bnd (mS m5 6 14 (m5.1 6 12)) fun m18 =>
    cl (fX7_passes 62 62 m18) fun r26 m26 =>
    gd (wR r26) <|
    if r26 = 0 then (
      some (0, m26))
    else (
      bnd (mS m26 6 15 8) fun m37 =>
      cl (fX7_passes 45 45 m37) fun r45 m45 =>
      gd (wR r45) <|
      if r45 = 0 then (
        cl (fX7_passes 48 55 m45) fun r56 m56 =>
        gd (wR r56) <|
        if r56 = 0 then (
          some (0, m56))
        else (
          bnd (mS m56 6 15 (m56.1 6 12)) fun m69 =>
          fX7_passesParties_b72  m69))
      else (
        fX7_passesParties_b72  m45)))
noncomputable def fX7_passesRule_b41 (m : mR) : Option (Int × mR) :=
  gd (wR (m.1 6 20)) <|
  if (m.1 6 20) = (-6) then (
    some (0, m))
  else (
    some (1, m))
noncomputable def fX7_passesRule (m : mR) : Option (Int × mR) :=
  cl (fX7_passesOne 46 102 98 120 m) fun r10 m10 =>
  bnd (mS m10 6 20 r10) fun m13 =>
  gd (wR (m13.1 6 20)) <|
  if (m13.1 6 20) = (-6) then (
    cl (fX7_passes 33 33 m13) fun r30 m30 =>
    gd (wR r30) <|
    if r30 = 0 then (
      fX7_passesRule_b41  m30)
    else (
      bnd (mS m30 6 20 4) fun m38 =>
      fX7_passesRule_b41  m38))
  else (
    fX7_passesRule_b41  m13)
noncomputable def fX7_passesNewOrder_b99 (m : mR) : Option (Int × mR) :=
  cl (fX7_passesRule m) fun r100 m100 =>
  gd (r100 = 0 ∨ r100 = 1) <|
  some (r100, m100)
noncomputable def fX7_passesNewOrder (m : mR) : Option (Int × mR) :=
  cl (fX7_passesParties m) fun r1 m1 =>
  gd (wR r1) <|
  if r1 = 0 then (
    some (0, m1))
  else (
    cl (fX7_passesNumber m1) fun r8 m8 =>
    gd (wR r8) <|
    if r8 = 0 then (
      some (0, m8))
    else (
      bnd (mS m8 6 16 (m8.1 6 12)) fun m21 =>
      cl (fX7_passesOne 100 119 109 101 m21) fun r34 m34 =>
      bnd (mS m34 6 17 r34) fun m37 =>
      gd (wR (m37.1 6 17)) <|
      if (m37.1 6 17) = (-6) then (
        some (0, m37))
      else (
        cl (fX7_passesNumber m37) fun r50 m50 =>
        gd (wR r50) <|
        if r50 = 0 then (
          some (0, m50))
        else (
          bnd (mS m50 6 18 (m50.1 6 12)) fun m63 =>
          bnd (mS m63 6 19 1) fun m68 =>
          cl (fX7_passes 47 47 m68) fun r76 m76 =>
          gd (wR r76) <|
          if r76 = 0 then (
            fX7_passesNewOrder_b99  m76)
          else (
            cl (fX7_passesNumber m76) fun r83 m83 =>
            gd (wR r83) <|
            if r83 = 0 then (
              some (0, m83))
            else (
              bnd (mS m83 6 19 (m83.1 6 12)) fun m96 =>
              fX7_passesNewOrder_b99  m96))))))
noncomputable def fX7_passesAct (m : mR) : Option (Int × mR) :=
  cl (fX7_passes 112 112 m) fun r5 m5 =>
  gd (wR r5) <|
  if r5 = 0 then (
    cl (fX7_passes 100 100 m5) fun r26 m26 =>
    gd (wR r26) <|
    if r26 = 0 then (
      cl (fX7_passesOne 115 103 110 110 m26) fun r51 m51 =>
      gd (wR r51) <|
      if r51 = (-6) then (
        some (0, m51))
      else (
        cl (fX7_passesNumber m51) fun r62 m62 =>
        gd (wR r62) <|
        if r62 = 0 then (
          some (0, m62))
        else (
          bnd (mS m62 6 13 (2 + r51)) fun m74 =>
          bnd (mS m74 6 16 (m74.1 6 12)) fun m82 =>
          some (1, m82))))
    else (
      bnd (mS m26 6 13 1) fun m34 =>
      cl (fX7_passesDeposit m34) fun r38 m38 =>
      gd (r38 = 0 ∨ r38 = 1) <|
      some (r38, m38)))
  else (
    bnd (mS m5 6 13 0) fun m13 =>
    cl (fX7_passesNewOrder m13) fun r17 m17 =>
    gd (r17 = 0 ∨ r17 = 1) <|
    some (r17, m17))
noncomputable def fX7_fault_b17 : Nat → mR → Option (Int × mR)
  | 0, _ => none
  | fuel + 1, m =>
    gd (wR (m.1 6 11) ∧ wR (m.1 6 10)) <|
    if (m.1 6 10) ≤ (m.1 6 11) then (
      some ((-6), m))
    else (
      cl (fX7_passes 59 59 m) fun r33 m33 =>
      gd (wR r33) <|
      if r33 = 0 then (
        some ((m33.1 6 11), m33))
      else (
        cl (fX7_passesAct m33) fun r40 m40 =>
        gd (wR r40) <|
        if r40 = 0 then (
          some ((m40.1 6 11), m40))
        else (
          (fX7_fault_b17 fuel)  m40 )))
noncomputable def fX7_fault (m : mR) : Option (Int × mR) :=
  bnd (mS m 6 11 0) fun m2 =>
  cl (fX7_passesAct m2) fun r6 m6 =>
  gd (wR r6) <|
  if r6 = 0 then (
    some ((m6.1 6 11), m6))
  else (
    fX7_fault_b17 fuel0  m6)
noncomputable def fX7_carryOut_b81 (rec25 : Int → Int → mR → Option (Int × mR)) (x1 : Int) (t0 : Int) (m : mR) : Option (Int × mR) :=
  bnd (mS m 6 11 ((m.1 6 11) + 1)) fun m89 =>
  rec25 x1 t0 m89 
noncomputable def fX7_carryOut_b59 (rec25 : Int → Int → mR → Option (Int × mR)) (x2 : Int) (t0 : Int) (t1 : Int) (m : mR) : Option (Int × mR) :=
  gd (wR x2) <|
  if x2 = 0 then (
    fX7_carryOut_b81 rec25 (t0 + t1) 0 m)
  else (
    gd (wR (m.1 6 11) ∧ wR (m.1 6 10)) <|
    if (m.1 6 10) ≤ (m.1 6 11) then (
      fX7_carryOut_b81 rec25 (t0 + t1) 0 m)
    else (
      fX7_carryOut_b81 rec25 (t0 + t1) 1 m))
noncomputable def fX7_carryOut_b48 (rec25 : Int → Int → mR → Option (Int × mR)) (x1 : Int) (t0 : Int) (m : mR) : Option (Int × mR) :=
  gd (wR t0) <|
  if t0 = 0 then (
    fX7_carryOut_b59 rec25 t0 x1 0 m)
  else (
    fX7_carryOut_b59 rec25 t0 x1 1 m)
noncomputable def fX7_carryOut_b25 : Nat → Int → Int → mR → Option (Int × mR)
  | 0, _, _, _ => none
  | fuel + 1, x1, x2, m =>
    gd (wR x2) <|
    if x2 = 0 then (
      bnd (mS m 6 10 0) fun m97 =>
      some (x1, m97))
    else (
      cl (fX7_passesAct m) fun r30 m30 =>
      gd (wR r30) <|
      if r30 = 0 then (
        fX7_carryOut_b48 (fX7_carryOut_b25 fuel) x1 0 m30)
      else (
        cl (fX7_does m30) fun r37 m37 =>
        gd (wR r37) <|
        if r37 < 0 then (
          fX7_carryOut_b48 (fX7_carryOut_b25 fuel) x1 0 m37)
        else (
          fX7_carryOut_b48 (fX7_carryOut_b25 fuel) x1 1 m37)))
noncomputable def fX7_carryOut (m : mR) : Option (Int × mR) :=
  cl (fX7_fault m) fun r1 m1 =>
  gd (wR r1) <|
  if r1 = (-6) then (
    cl (fX7_records m1) fun r13 m13 =>
    bnd (mS m13 6 11 0) fun m22 =>
    fX7_carryOut_b25 fuel0 0 1 m22)
  else (
    some ((-3), m1))
noncomputable def fX7_change (x1 : Int) (x2 : Int) (x3 : Int) (m : mR) : Option (Int × mR) :=
  cr (fX7_isOrder x1 m) fun r2 =>
  gd (wR r2) <|
  if r2 = 0 then (
    some ((-1), m))
  else (
    gd (wR x2) <|
    cr (fX7_isIn x2 1 1000000) fun r16 =>
    gd (wR r16) <|
    if r16 = 0 then (
      some ((-2), m))
    else (
      gd (wR x3) <|
      cr (fX7_isIn x3 0 9) fun r28 =>
      gd (wR r28) <|
      if r28 = 0 then (
        some ((-2), m))
      else (
        cr (fX7_ofO x1 10 m) fun r41 =>
        gd (wR r41) <|
        if r41 = 2 then (
          some ((-5), m))
        else (
          cl (fX7_records m) fun r52 m52 =>
          cr (fX7_ofO x1 2 m52) fun r58 =>
          cl (fX7_becomes x1 2 x2 m52) fun r67 m67 =>
          cl (fX7_becomes x1 8 x3 m67) fun r75 m75 =>
          some (r58, m75)))))
noncomputable def fX7_count (x1 : Int) (m : mR) : Option Int :=
  gd (wR x1) <|
  cr (fX7_isIn x1 0 8) fun r6 =>
  gd (wR r6) <|
  if r6 = 0 then (
    gd (wR x1) <|
    cr (fX7_isIn x1 11 14) fun r26 =>
    gd (wR r26) <|
    if r26 = 0 then (
      gd (wR x1) <|
      if x1 = 9 then (
        some (m.1 6 10))
      else (
        gd (wR x1) <|
        if x1 = 10 then (
          some (m.1 6 7))
        else (
          some (-2))))
    else (
      cr (fX7_of ((9 + x1) - 11) m) fun r40 =>
      some r40))
  else (
    cr (fX7_of x1 m) fun r14 =>
    some r14)
noncomputable def fX7_dateOf_b103 (m : mR) (x1 : Int) (x3 : Int) : Option Int :=
  gd (wR x3) <|
  if x3 = (-6) then (
    some (-6))
  else (
    cr (fX7_dateBy x1 x3 m) fun r117 =>
    some r117)
noncomputable def fX7_dateOf_b76 (m : mR) : Nat → Int → Int → Int → Int → Option Int
  | 0, _, _, _, _ => none
  | fuel + 1, x1, x2, x3, x4 =>
    gd (wR x4 ∧ wR x2) <|
    if x2 ≤ x4 then (
      fX7_dateOf_b103 m x1 x3)
    else (
      gd (wR x3) <|
      if x3 = (-6) then (
        fX7_dateOf_b103 m x1 x3)
      else (
        cr (fX7_occurrence x1 (x3 + 1) m) fun r93 =>
        (fX7_dateOf_b76 m fuel) x1 x2 r93 (x4 + 1) ))
noncomputable def fX7_dateOf_b60 (m : mR) (x1 : Int) (x2 : Int) : Option Int :=
  cr (fX7_ofO x1 14 m) fun r66 =>
  cr (fX7_occurrence x1 r66 m) fun r69 =>
  fX7_dateOf_b76 m fuel0 x1 x2 r69 0
noncomputable def fX7_dateOf (x1 : Int) (x2 : Int) (m : mR) : Option Int :=
  cr (fX7_isOrder x1 m) fun r2 =>
  gd (wR r2) <|
  if r2 = 0 then (
    some (-1))
  else (
    gd (wR x2) <|
    cr (fX7_isIn x2 0 99) fun r16 =>
    gd (wR r16) <|
    if r16 = 0 then (
      some (-2))
    else (
      cr (fX7_ofO x1 10 m) fun r29 =>
      gd (wR r29) <|
      if r29 = 2 then (
        some (-6))
      else (
        cr (fX7_ofO x1 15 m) fun r40 =>
        gd (wR r40) <|
        if r40 = 0 then (
          cr (fX7_ofO x1 9 m) fun r51 =>
          gd (wR x2 ∧ wR r51) <|
          if x2 < r51 then (
            fX7_dateOf_b60 m x1 x2)
          else (
            some (-6)))
        else (
          fX7_dateOf_b60 m x1 x2))))
noncomputable def fX7_days (x1 : Int) (m : mR) : Option (Int × mR) :=
  cr (fX7_checksDays x1 m) fun r2 =>
  gd (wR r2) <|
  if r2 = 0 then (
    cl (fX7_records m) fun r13 m13 =>
    cl (fX7_passesDays x1 m13) fun r18 m18 =>
    some (r18, m18))
  else (
    some (r2, m))
noncomputable def fX7_deposit (x1 : Int) (x2 : Int) (m : mR) : Option (Int × mR) :=
  cr (fX7_checksDeposit x1 x2 m) fun r3 =>
  gd (wR r3) <|
  if r3 = 0 then (
    cl (fX7_records m) fun r14 m14 =>
    cl (fX7_deposits x1 x2 m14) fun r20 m20 =>
    some (r20, m20))
  else (
    some (r3, m))
noncomputable def fX7_failsIn_b2 : Nat → Int → Int → Int → mR → Option (Int × mR)
  | 0, _, _, _, _ => none
  | fuel + 1, x1, x2, x3, m =>
    gd (wR x3 ∧ wR x2) <|
    if x2 ≤ x3 then (
      some ((-6), m))
    else (
      cr (fX7_today m) fun r8 =>
      gd (wR r8) <|
      if 1094 ≤ r8 then (
        some ((-6), m))
      else (
        cr (fX7_today m) fun r18 =>
        cl (fX7_passesDay m) fun r24 m24 =>
        gd (wR (andI (m24.1 6 8) x1)) <|
        if (andI (m24.1 6 8) x1) = 0 then (
          (fX7_failsIn_b2 fuel) x1 x2 (x3 + 1) m24 )
        else (
          some (r18, m24))))
noncomputable def fX7_failsIn (x1 : Int) (x2 : Int) (m : mR) : Option (Int × mR) :=
  fX7_failsIn_b2 fuel0 x1 x2 0 m
noncomputable def fX7_feed_b29 (x1 : Int) (x2 : Int) (m : mR) : Option (Int × mR) :=
  cl (fX7_records m) fun r30 m30 =>
  cr (fX7_ofA x1 2 m30) fun r36 =>
  gd (wR x2) <|
  gd ((0 ≤ ((33 + (11 * x1)) + 2) ∧ ((33 + (11 * x1)) + 2) < 377)) <|
  bnd (mS m30 0 ((33 + (11 * x1)) + 2) x2) fun m55 =>
  some (r36, m55)
noncomputable def fX7_feed (x1 : Int) (x2 : Int) (m : mR) : Option (Int × mR) :=
  cr (fX7_isAccount x1 m) fun r2 =>
  gd (wR r2) <|
  if r2 = 0 then (
    some ((-1), m))
  else (
    gd (wR x2) <|
    if x2 = (-6) then (
      fX7_feed_b29 x1 x2 m)
    else (
      cr (fX7_isAccount x2 m) fun r16 =>
      gd (wR r16) <|
      if r16 = 0 then (
        some ((-1), m))
      else (
        gd (wR x2 ∧ wR x1) <|
        if x2 = x1 then (
          some ((-1), m))
        else (
          fX7_feed_b29 x1 x2 m))))
noncomputable def fX7_firstFailure_b38 (t1 : Int) (m : mR) : Option (Int × mR) :=
  cl (fX7_failsIn t1 400 m) fun r41 m41 =>
  cl (fX7_brings 8 m41) fun r48 m48 =>
  some (r41, m48)
noncomputable def fX7_firstFailure_b16 (x1 : Int) (m : mR) : Option (Int × mR) :=
  cl (fX7_keeps 8 m) fun r19 m19 =>
  gd (wR x1) <|
  if x1 = (-6) then (
    fX7_firstFailure_b38 255 m19)
  else (
    fX7_firstFailure_b38 (shlI 1 x1) m19)
noncomputable def fX7_firstFailure (x1 : Int) (m : mR) : Option (Int × mR) :=
  gd (wR x1) <|
  if x1 = (-6) then (
    fX7_firstFailure_b16 x1 m)
  else (
    cr (fX7_isAccount x1 m) fun r8 =>
    gd (wR r8) <|
    if r8 = 0 then (
      some ((-1), m))
    else (
      fX7_firstFailure_b16 x1 m))
noncomputable def fX7_giveUp (x1 : Int) (m : mR) : Option (Int × mR) :=
  gd (wR x1) <|
  cr (fX7_isIn x1 0 ((m.1 0 4) - 1)) fun r11 =>
  gd (wR r11) <|
  if r11 = 0 then (
    some ((-1), m))
  else (
    cl (fX7_records m) fun r20 m20 =>
    cl (fX7_misses x1 m20) fun r25 m25 =>
    cr (fX7_of 4 m25) fun r30 =>
    some (r30, m25))
noncomputable def fX7_goOn (x1 : Int) (m : mR) : Option (Int × mR) :=
  cr (fX7_checksState x1 1 m) fun r3 =>
  gd (wR r3) <|
  if r3 = 0 then (
    cl (fX7_records m) fun r14 m14 =>
    cl (fX7_goesOn x1 m14) fun r19 m19 =>
    some (r19, m19))
  else (
    some (r3, m))
noncomputable def fX7_isDay (x0 : Int) : Option Int :=
  gd (wR x0) <|
  cr (fX7_isIn x0 0 1094) fun r6 =>
  gd (r6 = 0 ∨ r6 = 1) <|
  some r6
noncomputable def fX7_holiday_b184 (m : mR) : Option (Int × mR) :=
  cr (fX7_of 3 m) fun r186 =>
  some (r186, m)
noncomputable def fX7_holiday_b113 : Nat → Int → Int → mR → Option (Int × mR)
  | 0, _, _, _ => none
  | fuel + 1, x1, x4, m =>
    gd (wR x4) <|
    gd (wR64 x4 ∧ wR64 (m.1 0 3)) <|
    if (m.1 0 3) ≤ x4 then (
      fX7_holiday_b184  m)
    else (
      gd (0 ≤ (13 + x4) ∧ (13 + x4) < 377) <|
      gd (wR x1) <|
      gd (wR64 (m.1 0 (13 + x4)) ∧ wR64 x1) <|
      if (m.1 0 (13 + x4)) = x1 then (
        cr (fX7_of 3 m) fun r159 =>
        gd (0 ≤ (13 + r159) ∧ (13 + r159) < 377) <|
        gd ((0 ≤ (13 + x4) ∧ (13 + x4) < 377)) <|
        bnd (mS m 0 (13 + x4) (m.1 0 (13 + r159))) fun m177 =>
        (fX7_holiday_b113 fuel) x1 (x4 + 1) m177 )
      else (
        gd (0 ≤ (13 + x4) ∧ (13 + x4) < 377) <|
        gd ((0 ≤ (13 + x4) ∧ (13 + x4) < 377)) <|
        bnd (mS m 0 (13 + x4) (m.1 0 (13 + x4))) fun m177 =>
        (fX7_holiday_b113 fuel) x1 (x4 + 1) m177 ))
noncomputable def fX7_holiday_b92 (x1 : Int) (x2 : Int) (x3 : Int) (m : mR) : Option (Int × mR) :=
  gd (wR x2) <|
  if x2 = 0 then (
    gd (wR x3) <|
    if x3 = 0 then (
      fX7_holiday_b184  m)
    else (
      bnd (mS m 0 3 ((m.1 0 3) - 1)) fun m109 =>
      fX7_holiday_b113 fuel0 x1 0 m109))
  else (
    fX7_holiday_b184  m)
noncomputable def fX7_holiday_b51 (x1 : Int) (x2 : Int) (x3 : Int) (m : mR) : Option (Int × mR) :=
  cl (fX7_records m) fun r52 m52 =>
  gd (wR x2) <|
  if x2 = 1 then (
    gd (wR x3) <|
    if x3 = 0 then (
      cr (fX7_of 3 m52) fun r72 =>
      gd (wR x1) <|
      gd ((0 ≤ (13 + r72) ∧ (13 + r72) < 377)) <|
      bnd (mS m52 0 (13 + r72) x1) fun m78 =>
      bnd (mS m78 0 3 ((m78.1 0 3) + 1)) fun m88 =>
      fX7_holiday_b184  m88)
    else (
      fX7_holiday_b92 x1 x2 x3 m52))
  else (
    fX7_holiday_b92 x1 x2 x3 m52)
noncomputable def fX7_holiday (x1 : Int) (x2 : Int) (m : mR) : Option (Int × mR) :=
  cr (fX7_isDay x1) fun r1 =>
  gd (wR r1) <|
  if r1 = 0 then (
    some ((-2), m))
  else (
    gd (wR x2) <|
    cr (fX7_isIn x2 0 1) fun r11 =>
    gd (wR r11) <|
    if r11 = 0 then (
      some ((-2), m))
    else (
      cr (fX7_isHoliday x1 m) fun r22 =>
      gd (wR x2) <|
      if x2 = 1 then (
        gd (wR r22) <|
        if r22 = 0 then (
          gd (wR64 (m.1 0 3)) <|
          if (m.1 0 3) = 20 then (
            some ((-4), m))
          else (
            fX7_holiday_b51 x1 x2 r22 m))
        else (
          fX7_holiday_b51 x1 x2 r22 m))
      else (
        fX7_holiday_b51 x1 x2 r22 m)))
noncomputable def fX7_isSetting (x1 : Int) (x2 : Int) (m : mR) : Option Int :=
  gd (wR x1) <|
  if x1 = 0 then (
    gd (wR x2) <|
    cr (fX7_isIn x2 1 9) fun r34 =>
    gd (r34 = 0 ∨ r34 = 1) <|
    some r34)
  else if x1 = 1 then (
    gd (wR x2) <|
    cr (fX7_isIn x2 0 10000) fun r44 =>
    gd (r44 = 0 ∨ r44 = 1) <|
    some r44)
  else if x1 = 2 then (
    gd (wR x2) <|
    cr (fX7_isIn x2 0 1000) fun r54 =>
    gd (r54 = 0 ∨ r54 = 1) <|
    some r54)
  else (
    gd (wR x1) <|
    if x1 = 3 then (
      gd (wR x2) <|
      cr (fX7_isIn x2 0 6) fun r69 =>
      gd (wR r69) <|
      if r69 = 0 then (
        some 0)
      else (
        some 1))
    else (
      some 0))
noncomputable def fX7_leastDeposit_b27 : Nat → Int → Int → Int → mR → Option (Int × mR)
  | 0, _, _, _, _ => none
  | fuel + 1, x1, x2, x3, m =>
    gd (wR x3) <|
    if 100000 < x3 then (
      some ((-6), m))
    else (
      cl (fX7_keeps 8 m) fun r37 m37 =>
      gd (wR x3) <|
      cl (fX7_moves x1 0 x3 m37) fun r45 m45 =>
      cl (fX7_failsIn (shlI 1 x1) x2 m45) fun r53 m53 =>
      cl (fX7_brings 8 m53) fun r61 m61 =>
      gd (wR r53) <|
      if r53 = (-6) then (
        some (x3, m61))
      else (
        (fX7_leastDeposit_b27 fuel) x1 x2 (x3 + 5000) m61 ))
noncomputable def fX7_leastDeposit (x1 : Int) (x2 : Int) (m : mR) : Option (Int × mR) :=
  cr (fX7_isAccount x1 m) fun r2 =>
  gd (wR r2) <|
  if r2 = 0 then (
    some ((-1), m))
  else (
    gd (wR x2) <|
    cr (fX7_isIn x2 1 100) fun r16 =>
    gd (wR r16) <|
    if r16 = 0 then (
      some ((-2), m))
    else (
      fX7_leastDeposit_b27 fuel0 x1 x2 0 m))
noncomputable def fX7_money (x1 : Int) (x2 : Int) (m : mR) : Option Int :=
  cr (fX7_isAccount x1 m) fun r2 =>
  gd (wR r2) <|
  if r2 = 0 then (
    some (-1))
  else (
    gd (wR x2) <|
    cr (fX7_isIn x2 0 8) fun r18 =>
    gd (wR r18) <|
    if r18 = 0 then (
      some (-2))
    else (
      gd (wR x2) <|
      if x2 = 8 then (
        cr (fX7_waitsFor x1 m) fun r36 =>
        some r36)
      else (
        cr (fX7_moneyOf x1 x2 m) fun r45 =>
        some r45)))
noncomputable def fX7_ofDay (x1 : Int) (x2 : Int) (m : mR) : Option Int :=
  cr (fX7_isDay x1) fun r1 =>
  gd (wR r1) <|
  if r1 = 0 then (
    some (-2))
  else (
    gd (wR x2) <|
    if x2 = 0 then (
      cr (fX7_weekdayOf x1 m) fun r50 =>
      some r50)
    else if x2 = 1 then (
      cr (fX7_monthOf x1) fun r55 =>
      some r55)
    else if x2 = 2 then (
      cr (fX7_monthOf x1) fun r61 =>
      cr (fX7_monthStart r61) fun r64 =>
      some ((x1 - r64) + 1))
    else if x2 = 3 then (
      cr (fX7_isBusiness x1 m) fun r73 =>
      gd (wR r73) <|
      if r73 = 0 then (
        some 0)
      else (
        some 1))
    else if x2 = 4 then (
      cr (fX7_nextBusiness x1 m) fun r87 =>
      some r87)
    else if x2 = 5 then (
      cr (fX7_lastBusiness x1 m) fun r93 =>
      some r93)
    else (
      some (-2)))
noncomputable def fX7_ofOrder_b106 (m : mR) (x1 : Int) (t0 : Int) : Option Int :=
  gd (wR t0) <|
  if t0 = (-6) then (
    some (-6))
  else (
    cr (fX7_nominal x1 t0 m) fun r121 =>
    some r121)
noncomputable def fX7_ofOrder (x1 : Int) (x2 : Int) (m : mR) : Option Int :=
  cr (fX7_isOrder x1 m) fun r2 =>
  gd (wR r2) <|
  if r2 = 0 then (
    some (-1))
  else (
    gd (wR x2) <|
    cr (fX7_isIn x2 0 15) fun r16 =>
    gd (wR r16) <|
    if r16 = 0 then (
      some (-2))
    else (
      gd (wR x2) <|
      if x2 = 1 then (
        cr (fX7_ofO x1 1 m) fun r33 =>
        gd (wR r33) <|
        if r33 = 8 then (
          some (-6))
        else (
          cr (fX7_ofO x1 1 m) fun r49 =>
          some r49))
      else (
        gd (wR x2) <|
        if x2 = 14 then (
          cr (fX7_waitsOf x1 m) fun r61 =>
          some r61)
        else (
          gd (wR x2) <|
          if 15 ≤ x2 then (
            cr (fX7_ofO x1 10 m) fun r82 =>
            gd (wR r82) <|
            if r82 = 2 then (
              fX7_ofOrder_b106 m x1 (-6))
            else (
              cr (fX7_ofO x1 14 m) fun r100 =>
              cr (fX7_occurrence x1 r100 m) fun r103 =>
              fX7_ofOrder_b106 m x1 r103))
          else (
            cr (fX7_ofO x1 x2 m) fun r74 =>
            some r74)))))
noncomputable def fX7_ofPayment (x1 : Int) (x2 : Int) (m : mR) : Option Int :=
  gd (wR x1) <|
  cr (fX7_isIn x1 0 ((m.1 0 4) - 1)) fun r11 =>
  gd (wR r11) <|
  if r11 = 0 then (
    some (-1))
  else (
    gd (wR x2) <|
    cr (fX7_isIn x2 0 4) fun r25 =>
    gd (wR r25) <|
    if r25 = 0 then (
      some (-2))
    else (
      cr (fX7_partOf x1 x2 m) fun r34 =>
      some r34))
noncomputable def fX7_order (x1 : Int) (x2 : Int) (x3 : Int) (x4 : Int) (x5 : Int) (x6 : Int) (m : mR) : Option (Int × mR) :=
  cr (fX7_checksOrder x1 x2 x3 x4 x5 x6 m) fun r10 =>
  gd (wR r10) <|
  if r10 = 0 then (
    cl (fX7_records m) fun r24 m24 =>
    cl (fX7_makes x1 x2 x3 x4 x5 x6 m24) fun r37 m37 =>
    some (r37, m37))
  else (
    some (r10, m))
noncomputable def fX7_owedBits (x1 : Int) (m : mR) : Option Int :=
  cr (fX7_isAccount x1 m) fun r2 =>
  gd (wR r2) <|
  if r2 = 0 then (
    some (-1))
  else (
    gd (0 ≤ x1 ∧ x1 < 8) <|
    cr (fX7_bitsOf (m.2 0 x1)) fun r14 =>
    some r14)
noncomputable def fX7_put_b103 : Nat → Int → Int → mR → Option (Int × mR)
  | 0, _, _, _ => none
  | fuel + 1, x1, x4, m =>
    gd (wR x4) <|
    if x4 < 0 then (
      some ((m.1 6 10), m))
    else (
      gd ((0 ≤ (m.1 6 10) ∧ (m.1 6 10) < 80)) <|
      bnd (mS m 5 (m.1 6 10) (landI (lshrI x1 (8 * x4)) 255)) fun m128 =>
      bnd (mS m128 6 10 ((m128.1 6 10) + 1)) fun m136 =>
      (fX7_put_b103 fuel) x1 (x4 + (-1)) m136 )
noncomputable def fX7_put_b84 (x1 : Int) (x3 : Int) (m : mR) : Option (Int × mR) :=
  gd (wR ((m.1 6 10) + x3)) <|
  if ((m.1 6 10) + x3) ≤ 80 then (
    fX7_put_b103 fuel0 x1 (x3 - 1) m)
  else (
    some ((-4), m))
noncomputable def fX7_put_b60 (x1 : Int) (x3 : Int) (m : mR) : Option (Int × mR) :=
  gd (wR x3) <|
  if x3 = 0 then (
    some ((-2), m))
  else (
    gd (wR x3) <|
    if 8 ≤ x3 then (
      fX7_put_b84 x1 x3 m)
    else (
      gd (wR64 (lshrI x1 (8 * x3))) <|
      if (lshrI x1 (8 * x3)) = 0 then (
        fX7_put_b84 x1 x3 m)
      else (
        some ((-2), m))))
noncomputable def fX7_put_b2 : Nat → Int → Int → mR → Option (Int × mR)
  | 0, _, _, _ => none
  | fuel + 1, x1, x3, m =>
    gd (wR x3) <|
    if 8 ≤ x3 then (
      fX7_put_b60 x1 x3 m)
    else (
      gd (wR64 (landI (lshrI x1 (8 * x3)) 255)) <|
      if (landI (lshrI x1 (8 * x3)) 255) = 0 then (
        fX7_put_b60 x1 x3 m)
      else (
        gd (wR (landI (lshrI x1 (8 * x3)) 255)) <|
        cr (fX7_isIn (landI (lshrI x1 (8 * x3)) 255) 33 126) fun r45 =>
        gd (wR r45) <|
        if r45 = 0 then (
          some ((-2), m))
        else (
          (fX7_put_b2 fuel) x1 (x3 + 1) m )))
noncomputable def fX7_put (x1 : Int) (m : mR) : Option (Int × mR) :=
  fX7_put_b2 fuel0 x1 0 m
noncomputable def fX7_restore (x1 : Int) (m : mR) : Option (Int × mR) :=
  gd (wR x1) <|
  cr (fX7_isIn x1 0 1) fun r4 =>
  gd (wR r4) <|
  if r4 = 0 then (
    some ((-2), m))
  else (
    gd (0 ≤ x1 ∧ x1 < 2) <|
    gd (wR (m.1 4 x1)) <|
    if (m.1 4 x1) = 0 then (
      some ((-5), m))
    else (
      cl (fX7_records m) fun r26 m26 =>
      cl (fX7_brings (6 + x1) m26) fun r34 m34 =>
      cr (fX7_today m34) fun r38 =>
      some (r38, m34)))
noncomputable def fX7_save (x1 : Int) (m : mR) : Option (Int × mR) :=
  gd (wR x1) <|
  cr (fX7_isIn x1 0 1) fun r4 =>
  gd (wR r4) <|
  if r4 = 0 then (
    some ((-2), m))
  else (
    cl (fX7_keeps (6 + x1) m) fun r18 m18 =>
    gd ((0 ≤ x1 ∧ x1 < 2)) <|
    bnd (mS m18 4 x1 1) fun m27 =>
    cr (fX7_today m27) fun r29 =>
    some (r29, m27))
noncomputable def fX7_set (x1 : Int) (x2 : Int) (m : mR) : Option (Int × mR) :=
  cr (fX7_isSetting x1 x2 m) fun r3 =>
  gd (wR r3) <|
  if r3 = 0 then (
    some ((-2), m))
  else (
    cl (fX7_records m) fun r13 m13 =>
    cr (fX7_of (9 + x1) m13) fun r21 =>
    gd (wR x2) <|
    gd ((0 ≤ (9 + x1) ∧ (9 + x1) < 377)) <|
    bnd (mS m13 0 (9 + x1) x2) fun m35 =>
    some (r21, m35))
noncomputable def fX7_shift (x1 : Int) (x2 : Int) (m : mR) : Option Int :=
  cr (fX7_isDay x1) fun r1 =>
  gd (wR r1) <|
  if r1 = 0 then (
    some (-2))
  else (
    gd (wR x2) <|
    cr (fX7_isIn x2 0 4) fun r13 =>
    gd (wR r13) <|
    if r13 = 0 then (
      some (-2))
    else (
      cr (fX7_shifted x1 x2 m) fun r22 =>
      some r22))
noncomputable def fX7_stop (x1 : Int) (m : mR) : Option (Int × mR) :=
  cr (fX7_checksState x1 0 m) fun r3 =>
  gd (wR r3) <|
  if r3 = 0 then (
    cl (fX7_records m) fun r14 m14 =>
    cl (fX7_stops x1 m14) fun r19 m19 =>
    some (r19, m19))
  else (
    some (r3, m))
noncomputable def fX7_undo (m : mR) : Option (Int × mR) :=
  gd (wR (m.1 6 7)) <|
  if (m.1 6 7) = 0 then (
    some ((-5), m))
  else (
    bnd (mS m 6 7 ((m.1 6 7) - 1)) fun m17 =>
    cl (fX7_brings (m17.1 6 7) m17) fun r25 m25 =>
    some ((m25.1 6 7), m25))
noncomputable def fX7_wipe (m : mR) : Option (Int × mR) :=
  bnd (mS m 6 10 0) fun m7 =>
  some ((m.1 6 10), m7)

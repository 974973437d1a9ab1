/-! ===== the law as plain functions (by program: wip/p33/gen.py) ===== -/
def w64I (z : Int) : Int := (jL z).toInt
noncomputable def fL_any (x1 : Int) (x2 : Int) (c : cR) : Option (Int × cR) :=
  gd (wR (andI x2 7)) <|
  if (andI x2 7) = 0 then (
    cl (fX6_set x1 x2 c) fun r51 c51 =>
    some (r51, c51))
  else if (andI x2 7) = 1 then (
    cl (fX6_holiday x1 (shrI x2 3) c) fun r60 c60 =>
    some (r60, c60))
  else if (andI x2 7) = 2 then (
    cl (fX6_account x1 x2 c) fun r67 c67 =>
    some (r67, c67))
  else if (andI x2 7) = 3 then (
    cl (fX6_deposit x1 x2 c) fun r74 c74 =>
    some (r74, c74))
  else if (andI x2 7) = 4 then (
    cl (fX6_order x1 x2 x1 x2 x1 x2 c) fun r85 c85 =>
    some (r85, c85))
  else if (andI x2 7) = 5 then (
    cl (fX6_change x1 x2 x2 c) fun r93 c93 =>
    some (r93, c93))
  else if (andI x2 7) = 6 then (
    cl (fX6_giveUp x1 c) fun r99 c99 =>
    some (r99, c99))
  else (
    cl (fX6_stop x1 c) fun r105 c105 =>
    some (r105, c105))
noncomputable def fL_areInOrder_b123 : Nat → Int → Int → Int → cR → Option (Int × cR)
  | 0, _, _, _, _ => none
  | fuel + 1, x1, x5, x6, c =>
    gd (wR x6 ∧ wR x1) <|
    if x1 ≤ x6 then (
      gd (x5 = 0 ∨ x5 = 1) <|
      some (x5, c))
    else (
      gd (wR x5) <|
      if x5 = 0 then (
        gd (x5 = 0 ∨ x5 = 1) <|
        some (x5, c))
      else (
        cr (fX6_ofPayment x6 3 c) fun r138 =>
        cr (fX6_ofPayment (x6 - 1) 3 c) fun r147 =>
        gd (wR (r138 - r147)) <|
        if 0 < (r138 - r147) then (
          (fL_areInOrder_b123 fuel) x1 1 (x6 + 1) c )
        else (
          gd (wR (r138 - r147)) <|
          if (r138 - r147) = 0 then (
            cr (fX6_ofPayment x6 0 c) fun r167 =>
            cr (fX6_ofPayment (x6 - 1) 0 c) fun r176 =>
            gd (wR r167 ∧ wR r176) <|
            if r167 < r176 then (
              (fL_areInOrder_b123 fuel) x1 0 (x6 + 1) c )
            else (
              (fL_areInOrder_b123 fuel) x1 1 (x6 + 1) c ))
          else (
            (fL_areInOrder_b123 fuel) x1 0 (x6 + 1) c ))))
noncomputable def fL_areInOrder_b12 : Nat → Int → Int → Int → Int → Int → cR → Option (Int × cR)
  | 0, _, _, _, _, _, _ => none
  | fuel + 1, x1, x2, x3, x4, x5, c =>
    cr (fX6_count 2 c) fun r16 =>
    gd (wR x5 ∧ wR r16) <|
    if r16 ≤ x5 then (
      cr (fX6_count 4 c) fun r77 =>
      if iI x1 = iI r77 then (
        cr (fX6_count 5 c) fun r86 =>
        if iI x2 = iI r86 then (
          cr (fX6_count 6 c) fun r96 =>
          if iI x3 = iI r96 then (
            cr (fX6_count 7 c) fun r107 =>
            if iI x4 = iI r107 then (
              fL_areInOrder_b123 fuel0 x1 1 1 c)
            else (
              fL_areInOrder_b123 fuel0 x1 0 1 c))
          else (
            fL_areInOrder_b123 fuel0 x1 0 1 c))
        else (
          fL_areInOrder_b123 fuel0 x1 0 1 c))
      else (
        fL_areInOrder_b123 fuel0 x1 0 1 c))
    else (
      cl (fX6_ofOrder x5 14 c) fun r28 c28 =>
      cl (fX6_ofOrder x5 11 c28) fun r39 c39 =>
      cl (fX6_ofOrder x5 12 c39) fun r50 c50 =>
      cl (fX6_ofOrder x5 13 c50) fun r62 c62 =>
      (fL_areInOrder_b12 fuel) (x1 + r28) (x2 + r39) (x3 + r50) (x4 + r62) (x5 + 1) c62 )
noncomputable def fL_areInOrder (c : cR) : Option (Int × cR) :=
  fL_areInOrder_b12 fuel0 0 0 0 0 0 c
noncomputable def fL_up (x0 : Int) (x1 : Int) : Option Int :=
  gd (wR (andI x0 2147483647) ∧ 0 < x1 ∧ x1 ≤ 2147483647) <|
  some (rmI (andI x0 2147483647) x1)
noncomputable def fL_view_b188 (rec170 : Int → Int → cR → Option (Int × cR)) : Nat → Int → Int → Int → cR → Option (Int × cR)
  | 0, _, _, _, _ => none
  | fuel + 1, x1, x3, x4, c =>
    gd (wR x4) <|
    if 5 ≤ x4 then (
      rec170 x1 (x3 + 1) c )
    else (
      cr (fX6_ofPayment x3 x4 c) fun r203 =>
      gd (wR r203) <|
      (fL_view_b188 rec170 fuel) ((31 * x1) + r203) x3 (x4 + 1) c )
noncomputable def fL_view_b170 : Nat → Int → Int → cR → Option (Int × cR)
  | 0, _, _, _ => none
  | fuel + 1, x1, x3, c =>
    cr (fX6_count 4 c) fun r173 =>
    gd (wR x3 ∧ wR r173) <|
    if r173 ≤ x3 then (
      some ((w64I x1), c))
    else (
      gd (wR x3) <|
      if 40 ≤ x3 then (
        some ((w64I x1), c))
      else (
        fL_view_b188 (fL_view_b170 fuel) fuel0 x1 x3 0 c))
noncomputable def fL_view_b120 (rec108 : Int → Int → cR → Option (Int × cR)) : Nat → Int → Int → Int → cR → Option (Int × cR)
  | 0, _, _, _, _ => none
  | fuel + 1, x1, x3, x4, c =>
    gd (wR x4) <|
    if 16 ≤ x4 then (
      cl (fX6_dateOf x3 1 c) fun r156 c156 =>
      gd (wR r156) <|
      rec108 ((31 * x1) + r156) (x3 + 1) c156 )
    else (
      cl (fX6_ofOrder x3 x4 c) fun r136 c136 =>
      gd (wR r136) <|
      (fL_view_b120 rec108 fuel) ((31 * x1) + r136) x3 (x4 + 1) c136 )
noncomputable def fL_view_b108 : Nat → Int → Int → cR → Option (Int × cR)
  | 0, _, _, _ => none
  | fuel + 1, x1, x3, c =>
    cr (fX6_count 2 c) fun r111 =>
    gd (wR x3 ∧ wR r111) <|
    if r111 ≤ x3 then (
      fL_view_b170 fuel0 x1 0 c)
    else (
      fL_view_b120 (fL_view_b108 fuel) fuel0 x1 x3 0 c)
noncomputable def fL_view_b61 (rec49 : Int → Int → cR → Option (Int × cR)) : Nat → Int → Int → Int → cR → Option (Int × cR)
  | 0, _, _, _, _ => none
  | fuel + 1, x1, x3, x4, c =>
    gd (wR x4) <|
    if 9 ≤ x4 then (
      cr (fX6_owedBits x3 c) fun r95 =>
      rec49 ((31 * x1) + r95) (x3 + 1) c )
    else (
      cr (fX6_money x3 x4 c) fun r77 =>
      (fL_view_b61 rec49 fuel) ((31 * x1) + r77) x3 (x4 + 1) c )
noncomputable def fL_view_b49 : Nat → Int → Int → cR → Option (Int × cR)
  | 0, _, _, _ => none
  | fuel + 1, x1, x3, c =>
    cr (fX6_count 1 c) fun r52 =>
    gd (wR x3 ∧ wR r52) <|
    if r52 ≤ x3 then (
      fL_view_b108 fuel0 x1 0 c)
    else (
      fL_view_b61 (fL_view_b49 fuel) fuel0 x1 x3 0 c)
noncomputable def fL_view_b6 : Nat → Int → Int → cR → Option (Int × cR)
  | 0, _, _, _ => none
  | fuel + 1, x1, x3, c =>
    gd (wR x3) <|
    if 15 ≤ x3 then (
      fL_view_b49 fuel0 x1 0 c)
    else (
      gd (wR x3) <|
      if x3 = 9 then (
        (fL_view_b6 fuel) x1 (x3 + 1) c )
      else (
        gd (wR x3) <|
        if x3 = 10 then (
          (fL_view_b6 fuel) x1 (x3 + 1) c )
        else (
          cr (fX6_count x3 c) fun r35 =>
          gd (wR r35) <|
          (fL_view_b6 fuel) ((31 * x1) + r35) (x3 + 1) c )))
noncomputable def fL_view (c : cR) : Option (Int × cR) :=
  fL_view_b6 fuel0 7 0 c
noncomputable def fL_asks (x1 : Int) (x2 : Int) (c : cR) : Option (Int × cR) :=
  cl (fL_view c) fun r1 c1 =>
  cr (fX6_count 10 c1) fun r8 =>
  cr (fL_up x1 4) fun r16 =>
  cr (fL_up x2 30) fun r23 =>
  cl (fX6_balanceIn r16 (1 + r23) c1) fun r27 c27 =>
  cr (fL_up x1 4) fun r34 =>
  cr (fL_up x2 30) fun r41 =>
  cl (fX6_ahead r34 (1 + r41) (andI x2 3) c27) fun r48 c48 =>
  cr (fL_up x1 4) fun r55 =>
  cr (fL_up x2 5) fun r61 =>
  cl (fX6_leastDeposit r55 (1 + r61) c48) fun r65 c65 =>
  cl (fL_view c65) fun r70 c70 =>
  if jL r70 = jL r1 then (
    cr (fX6_count 10 c70) fun r81 =>
    gd (wR r81 ∧ wR r8) <|
    if r81 = r8 then (
      some (1, c70))
    else (
      some (0, c70)))
  else (
    some (0, c70))
noncomputable def fL_cell (ln : Nat) (xs : Int → Int) (x1 : Int) : Option Int :=
  gd (wR x1 ∧ wR (ln : Int)) <|
  if (ln : Int) ≤ x1 then (
    some (763049417 * (x1 + 3)))
  else (
    gd (0 ≤ x1 ∧ x1 < (ln : Int)) <|
    some (xs x1))
noncomputable def fL_isBalanced_b4 (c : cR) : Nat → Int → Int → Option Int
  | 0, _, _ => none
  | fuel + 1, x1, x2 =>
    cr (fX6_count 1 c) fun r7 =>
    gd (wR x2 ∧ wR r7) <|
    if r7 ≤ x2 then (
      gd (x1 = 0 ∨ x1 = 1) <|
      some x1)
    else (
      gd (wR x1) <|
      if x1 = 0 then (
        gd (x1 = 0 ∨ x1 = 1) <|
        some x1)
      else (
        cr (fX6_money x2 1 c) fun r20 =>
        cr (fX6_money x2 3 c) fun r26 =>
        cr (fX6_money x2 4 c) fun r33 =>
        cr (fX6_money x2 2 c) fun r41 =>
        cr (fX6_money x2 5 c) fun r47 =>
        cr (fX6_money x2 6 c) fun r55 =>
        cr (fX6_money x2 7 c) fun r63 =>
        cr (fX6_money x2 0 c) fun r72 =>
        if jL r72 = jL (((r20 + r26) + r33) - (((r41 + r47) + r55) + r63)) then (
          (fL_isBalanced_b4 c fuel) 1 (x2 + 1) )
        else (
          (fL_isBalanced_b4 c fuel) 0 (x2 + 1) )))
noncomputable def fL_isBalanced (c : cR) : Option Int :=
  fL_isBalanced_b4 c fuel0 1 0
noncomputable def fL_order_b46 (x1 : Int) (x2 : Int) (x3 : Int) (x4 : Int) (t0 : Int) (t1 : Int) (t2 : Int) (c : cR) : Option (Int × cR) :=
  cr (fL_up t1 t2) fun r46 =>
  cr (fX6_count 0 c) fun r54 =>
  cr (fL_up (shrI x2 8) 20) fun r63 =>
  cr (fL_up x1 3) fun r74 =>
  cr (fL_up (shrI x1 6) 60000) fun r87 =>
  cr (fL_up (shrI x2 12) 31) fun r111 =>
  cr (fL_up (shrI x1 8) 50) fun r123 =>
  cr (fL_up (shrI x2 16) 4) fun r131 =>
  cl (fX6_order ((9 * r74) + x3) (1 + r87) ((((10000 * x4) + (100 * (t0 + r46))) + 1) + r111) (r54 + r63) r123 r131 c) fun r134 c134 =>
  some (r134, c134)
noncomputable def fL_order_b23 (x1 : Int) (x2 : Int) (t0 : Int) (c : cR) : Option (Int × cR) :=
  cr (fL_up x2 4) fun r26 =>
  gd (wR r26) <|
  if r26 = 0 then (
    fL_order_b46 x1 x2 t0 r26 1 (shrI x2 4) 12 c)
  else (
    fL_order_b46 x1 x2 t0 r26 1 (shrI x2 4) 2 c)
noncomputable def fL_order (x1 : Int) (x2 : Int) (c : cR) : Option (Int × cR) :=
  cr (fL_up (shrI x1 2) 4) fun r4 =>
  gd (wR r4) <|
  if r4 = 3 then (
    fL_order_b23 x1 x2 8 c)
  else (
    cr (fL_up (shrI x1 4) 4) fun r20 =>
    fL_order_b23 x1 x2 r20 c)
noncomputable def fL_turn_b93 (t1 : Int) (t2 : Int) (t3 : Int) (c : cR) : Option (Int × cR) :=
  cr (fL_up t2 t3) fun r93 =>
  cl (fX6_set t1 r93 c) fun r96 c96 =>
  some (r96, c96)
noncomputable def fL_turn_b261 (t1 : Int) (t2 : Int) (t3 : Int) (c : cR) : Option (Int × cR) :=
  cr (fL_up t2 t3) fun r261 =>
  cl (fX6_days (t1 + r261) c) fun r265 c265 =>
  some (r265, c265)
noncomputable def fL_turn (x1 : Int) (x2 : Int) (x3 : Int) (c : cR) : Option (Int × cR) :=
  gd (wR x1) <|
  if x1 = 0 then (
    cr (fL_up x2 4) fun r75 =>
    gd (wR (andI x2 4)) <|
    if (andI x2 4) = 0 then (
      fL_turn_b93 r75 x3 7 c)
    else (
      fL_turn_b93 r75 x3 400 c))
  else if x1 = 1 then (
    cr (fX6_count 0 c) fun r103 =>
    cr (fL_up x2 30) fun r109 =>
    cl (fX6_holiday (r103 + r109) (andI x3 1) c) fun r116 c116 =>
    some (r116, c116))
  else if x1 = 2 then (
    cr (fL_up x2 50000) fun r124 =>
    cr (fL_up x3 30000) fun r131 =>
    cl (fX6_account r124 r131 c) fun r134 c134 =>
    some (r134, c134))
  else if x1 = 3 then (
    cr (fL_up x2 4) fun r141 =>
    cr (fL_up x3 4) fun r146 =>
    cl (fX6_feed r141 r146 c) fun r149 c149 =>
    some (r149, c149))
  else if x1 = 4 then (
    cr (fL_up x2 4) fun r156 =>
    cr (fL_up x3 90000) fun r163 =>
    cl (fX6_deposit r156 (1 + r163) c) fun r167 c167 =>
    some (r167, c167))
  else if x1 = 5 then (
    cr (fL_up x2 4) fun r156 =>
    cr (fL_up x3 90000) fun r163 =>
    cl (fX6_deposit r156 (1 + r163) c) fun r167 c167 =>
    some (r167, c167))
  else if x1 = 6 then (
    cl (fL_order x2 x3 c) fun r174 c174 =>
    some (r174, c174))
  else if x1 = 7 then (
    cl (fL_order x2 x3 c) fun r174 c174 =>
    some (r174, c174))
  else if x1 = 8 then (
    cr (fL_up x2 4) fun r181 =>
    cr (fL_up x3 60000) fun r188 =>
    cr (fL_up (shrI x2 4) 10) fun r197 =>
    cl (fX6_change r181 (1 + r188) r197 c) fun r200 c200 =>
    some (r200, c200))
  else if x1 = 9 then (
    gd (wR (andI x2 16)) <|
    if (andI x2 16) = 0 then (
      cr (fL_up x2 4) fun r214 =>
      cl (fX6_stop r214 c) fun r217 c217 =>
      some (r217, c217))
    else (
      cr (fL_up x2 4) fun r226 =>
      cl (fX6_goOn r226 c) fun r229 c229 =>
      some (r229, c229)))
  else if x1 = 10 then (
    cr (fL_up x2 6) fun r237 =>
    cl (fX6_giveUp r237 c) fun r240 c240 =>
    some (r240, c240))
  else if x1 = 11 then (
    gd (wR (andI x3 7)) <|
    if (andI x3 7) = 0 then (
      fL_turn_b261 1 x2 90 c)
    else (
      fL_turn_b261 1 x2 9 c))
  else if x1 = 12 then (
    gd (wR (andI x3 7)) <|
    if (andI x3 7) = 0 then (
      fL_turn_b261 1 x2 90 c)
    else (
      fL_turn_b261 1 x2 9 c))
  else if x1 = 13 then (
    gd (wR (andI x3 7)) <|
    if (andI x3 7) = 0 then (
      fL_turn_b261 1 x2 90 c)
    else (
      fL_turn_b261 1 x2 9 c))
  else (
    cl (fL_any x2 x3 c) fun r272 c272 =>
    some (r272, c272))
noncomputable def fL_isSaved (x1 : Int) (x2 : Int) (c : cR) : Option (Int × cR) :=
  cl (fL_view c) fun r1 c1 =>
  cr (fX6_count 10 c1) fun r8 =>
  cl (fX6_save (andI x1 1) c1) fun r17 c17 =>
  cr (fX6_count 0 c17) fun r22 =>
  gd (wR r17 ∧ wR r22) <|
  if r17 = r22 then (
    cr (fX6_count 10 c17) fun r31 =>
    gd (wR r31 ∧ wR r8) <|
    if r31 = r8 then (
      cr (fL_up x2 14) fun r45 =>
      cl (fL_turn r45 x2 x1 c17) fun r50 c50 =>
      cl (fX6_restore (andI x1 1) c50) fun r58 c58 =>
      cr (fX6_count 0 c58) fun r63 =>
      gd (wR r58 ∧ wR r63) <|
      if r58 = r63 then (
        cl (fL_view c58) fun r70 c70 =>
        if jL r70 = jL r1 then (
          some (1, c70))
        else (
          some (0, c70)))
      else (
        some (0, c58)))
    else (
      some (0, c17)))
  else (
    some (0, c17))
noncomputable def fL_isUndone (x1 : Int) (x2 : Int) (x3 : Int) (x4 : Int) (x5 : Int) (c : cR) : Option (Int × cR) :=
  cr (fX6_count 10 c) fun r3 =>
  cl (fX6_undo c) fun r9 c9 =>
  gd (wR r9 ∧ wR (r3 - 1)) <|
  if r9 = (r3 - 1) then (
    cr (fX6_count 10 c9) fun r22 =>
    gd (wR r22 ∧ wR (r3 - 1)) <|
    if r22 = (r3 - 1) then (
      cl (fL_view c9) fun r33 c33 =>
      if jL r33 = jL x5 then (
        cl (fL_turn x1 x2 x3 c33) fun r46 c46 =>
        gd (wR r46 ∧ wR x4) <|
        if r46 = x4 then (
          cr (fX6_count 10 c46) fun r57 =>
          gd (wR r57 ∧ wR r3) <|
          if r57 = r3 then (
            some (1, c46))
          else (
            some (0, c46)))
        else (
          some (0, c46)))
      else (
        some (0, c33)))
    else (
      some (0, c9)))
  else (
    some (0, c9))
noncomputable def fL_law_b246 (ln : Nat) (xs : Int → Int) (rec29 : Int → Int → cR → Option (Int × cR)) (x2 : Int) (x3 : Int) (c : cR) : Option (Int × cR) :=
  cr (fL_isBalanced c) fun r247 =>
  gd (wR r247) <|
  if r247 = 0 then (
    some (0, c))
  else (
    cl (fL_areInOrder c) fun r254 c254 =>
    gd (wR r254) <|
    if r254 = 0 then (
      some (0, c254))
    else (
      rec29 x2 (x3 + 1) c254 ))
noncomputable def fL_law_b225 (ln : Nat) (xs : Int → Int) (rec29 : Int → Int → cR → Option (Int × cR)) (x2 : Int) (x3 : Int) (x4 : Int) (x5 : Int) (x6 : Int) (c : cR) : Option (Int × cR) :=
  gd (wR (andI x4 96)) <|
  if (andI x4 96) = 32 then (
    cl (fL_asks x5 x6 c) fun r240 c240 =>
    gd (wR r240) <|
    if r240 = 0 then (
      some (0, c240))
    else (
      fL_law_b246 ln xs rec29 x2 x3 c240))
  else (
    fL_law_b246 ln xs rec29 x2 x3 c)
noncomputable def fL_law_b206 (ln : Nat) (xs : Int → Int) (rec29 : Int → Int → cR → Option (Int × cR)) (x2 : Int) (x3 : Int) (x4 : Int) (x5 : Int) (x6 : Int) (c : cR) : Option (Int × cR) :=
  gd (wR (andI x4 96)) <|
  if (andI x4 96) = 0 then (
    cl (fL_isSaved x5 x6 c) fun r219 c219 =>
    gd (wR r219) <|
    if r219 = 0 then (
      some (0, c219))
    else (
      fL_law_b225 ln xs rec29 x2 x3 x4 x5 x6 c219))
  else (
    fL_law_b225 ln xs rec29 x2 x3 x4 x5 x6 c)
noncomputable def fL_law_b176 (ln : Nat) (xs : Int → Int) (rec29 : Int → Int → cR → Option (Int × cR)) (x2 : Int) (x3 : Int) (x4 : Int) (x5 : Int) (x6 : Int) (x7 : Int) (x8 : Int) (x11 : Int) (t0 : Int) (t1 : Int) (c : cR) : Option (Int × cR) :=
  gd (wR t0 ∧ wR t1) <|
  if t0 = t1 then (
    gd (wR (andI x4 16)) <|
    if (andI x4 16) = 0 then (
      cl (fL_isUndone x7 x5 x6 x11 x8 c) fun r198 c198 =>
      gd (wR r198) <|
      if r198 = 0 then (
        some (0, c198))
      else (
        fL_law_b206 ln xs rec29 x2 x3 x4 x5 x6 c198))
    else (
      fL_law_b206 ln xs rec29 x2 x3 x4 x5 x6 c))
  else (
    some (0, c))
noncomputable def fL_law_b154 (ln : Nat) (xs : Int → Int) (rec29 : Int → Int → cR → Option (Int × cR)) (x2 : Int) (x3 : Int) (x4 : Int) (x5 : Int) (x6 : Int) (x7 : Int) (x8 : Int) (x10 : Int) (x11 : Int) (c : cR) : Option (Int × cR) :=
  cr (fX6_count 10 c) fun r157 =>
  gd (wR x10) <|
  if 6 ≤ x10 then (
    fL_law_b176 ln xs rec29 x2 x3 x4 x5 x6 x7 x8 x11 r157 6 c)
  else (
    fL_law_b176 ln xs rec29 x2 x3 x4 x5 x6 x7 x8 x11 r157 (x10 + 1) c)
noncomputable def fL_law_b119 (ln : Nat) (xs : Int → Int) (rec29 : Int → Int → cR → Option (Int × cR)) (x2 : Int) (x3 : Int) (x4 : Int) (x5 : Int) (x6 : Int) (x7 : Int) (x8 : Int) (x10 : Int) (x11 : Int) (t0 : Int) (c : cR) : Option (Int × cR) :=
  gd (wR x11) <|
  if 0 ≤ x11 then (
    fL_law_b154 ln xs rec29 x2 x3 x4 x5 x6 x7 x8 x10 x11 c)
  else (
    gd (wR t0) <|
    if t0 = 0 then (
      cl (fL_view c) fun r132 c132 =>
      if jL r132 = jL x8 then (
        cr (fX6_count 10 c132) fun r144 =>
        gd (wR r144 ∧ wR x10) <|
        if r144 = x10 then (
          fL_law_b206 ln xs rec29 x2 x3 x4 x5 x6 c132)
        else (
          some (0, c132)))
      else (
        some (0, c132)))
    else (
      fL_law_b154 ln xs rec29 x2 x3 x4 x5 x6 x7 x8 x10 x11 c))
noncomputable def fL_law_b79 (ln : Nat) (xs : Int → Int) (rec29 : Int → Int → cR → Option (Int × cR)) (x2 : Int) (x3 : Int) (x4 : Int) (x5 : Int) (x6 : Int) (t0 : Int) (c : cR) : Option (Int × cR) :=
  cl (fL_view c) fun r82 c82 =>
  cr (fX6_count 10 c82) fun r90 =>
  cl (fL_turn t0 x5 x6 c82) fun r102 c102 =>
  gd (wR r102) <|
  if r102 = (-6) then (
    fL_law_b119 ln xs rec29 x2 x3 x4 x5 x6 t0 r82 r90 r102 1 c102)
  else (
    fL_law_b119 ln xs rec29 x2 x3 x4 x5 x6 t0 r82 r90 r102 0 c102)
noncomputable def fL_law_b29 (ln : Nat) (xs : Int → Int) : Nat → Int → Int → cR → Option (Int × cR)
  | 0, _, _, _ => none
  | fuel + 1, x2, x3, c =>
    gd (wR x3 ∧ wR x2) <|
    if x2 ≤ x3 then (
      some (1, c))
    else (
      cr (fL_cell ln xs (3 * x3)) fun r38 =>
      cr (fL_cell ln xs ((3 * x3) + 1)) fun r49 =>
      cr (fL_cell ln xs ((3 * x3) + 2)) fun r60 =>
      gd (wR x3) <|
      if 3 ≤ x3 then (
        fL_law_b79 ln xs (fL_law_b29 ln xs fuel) x2 x3 r38 r49 r60 (andI r38 15) c)
      else (
        fL_law_b79 ln xs (fL_law_b29 ln xs fuel) x2 x3 r38 r49 r60 2 c))
noncomputable def fL_law_b8 (ln : Nat) (xs : Int → Int) (c : cR) : Option (Int × cR) :=
  gd (wR (ln : Int)) <|
  gd (wR (dvI (ln : Int) 3)) <|
  if 32 ≤ (dvI (ln : Int) 3) then (
    fL_law_b29 ln xs fuel0 32 0 c)
  else (
    gd (wR (ln : Int)) <|
    fL_law_b29 ln xs fuel0 (dvI (ln : Int) 3) 0 c)

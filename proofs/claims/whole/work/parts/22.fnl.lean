/-! ===== the law as a plain function (by program: wip/whole/gen.py) ===== -/
noncomputable def fL_law_b18 (ln : Nat) (xs : Int → Int) : Nat → Int → gR → Option (Int × gR)
  | 0, _, _ => none
  | fuel + 1, x3, G =>
    gd (wR x3 ∧ wR ((ln : Int) - 7)) <|
    if ((ln : Int) - 7) < x3 then (
      some (1, G))
    else (
      gd (0 ≤ x3 ∧ x3 < (ln : Int)) <|
      gd (wR (andI (xs x3) 31)) <|
      if (andI (xs x3) 31) = 0 then (
        gd (0 ≤ (x3 + 1) ∧ (x3 + 1) < (ln : Int)) <|
        gd (0 ≤ (x3 + 2) ∧ (x3 + 2) < (ln : Int)) <|
        cl (fX6_set (xs (x3 + 1)) (xs (x3 + 2)) G.1) fun r179 t179 =>
        bnd ((t179, G.2)) fun G179 =>
        gd (0 ≤ (x3 + 1) ∧ (x3 + 1) < (ln : Int)) <|
        gd (0 ≤ (x3 + 2) ∧ (x3 + 2) < (ln : Int)) <|
        cl (fX7_set (xs (x3 + 1)) (xs (x3 + 2)) G179.2) fun r193 t193 =>
        bnd ((G179.1, t193)) fun G193 =>
        gd (r179 = r193) <|
        (fL_law_b18 ln xs fuel) (x3 + 7) G193 )
      else if (andI (xs x3) 31) = 1 then (
        gd (0 ≤ (x3 + 1) ∧ (x3 + 1) < (ln : Int)) <|
        gd (0 ≤ (x3 + 2) ∧ (x3 + 2) < (ln : Int)) <|
        cl (fX6_holiday (xs (x3 + 1)) (xs (x3 + 2)) G.1) fun r212 t212 =>
        bnd ((t212, G.2)) fun G212 =>
        gd (0 ≤ (x3 + 1) ∧ (x3 + 1) < (ln : Int)) <|
        gd (0 ≤ (x3 + 2) ∧ (x3 + 2) < (ln : Int)) <|
        cl (fX7_holiday (xs (x3 + 1)) (xs (x3 + 2)) G212.2) fun r226 t226 =>
        bnd ((G212.1, t226)) fun G226 =>
        gd (r212 = r226) <|
        (fL_law_b18 ln xs fuel) (x3 + 7) G226 )
      else if (andI (xs x3) 31) = 2 then (
        gd (0 ≤ (x3 + 1) ∧ (x3 + 1) < (ln : Int)) <|
        gd (0 ≤ (x3 + 2) ∧ (x3 + 2) < (ln : Int)) <|
        cl (fX6_account (xs (x3 + 1)) (xs (x3 + 2)) G.1) fun r245 t245 =>
        bnd ((t245, G.2)) fun G245 =>
        gd (0 ≤ (x3 + 1) ∧ (x3 + 1) < (ln : Int)) <|
        gd (0 ≤ (x3 + 2) ∧ (x3 + 2) < (ln : Int)) <|
        cl (fX7_account (xs (x3 + 1)) (xs (x3 + 2)) G245.2) fun r259 t259 =>
        bnd ((G245.1, t259)) fun G259 =>
        gd (r245 = r259) <|
        (fL_law_b18 ln xs fuel) (x3 + 7) G259 )
      else if (andI (xs x3) 31) = 3 then (
        gd (0 ≤ (x3 + 1) ∧ (x3 + 1) < (ln : Int)) <|
        gd (0 ≤ (x3 + 2) ∧ (x3 + 2) < (ln : Int)) <|
        cl (fX6_feed (xs (x3 + 1)) (xs (x3 + 2)) G.1) fun r278 t278 =>
        bnd ((t278, G.2)) fun G278 =>
        gd (0 ≤ (x3 + 1) ∧ (x3 + 1) < (ln : Int)) <|
        gd (0 ≤ (x3 + 2) ∧ (x3 + 2) < (ln : Int)) <|
        cl (fX7_feed (xs (x3 + 1)) (xs (x3 + 2)) G278.2) fun r292 t292 =>
        bnd ((G278.1, t292)) fun G292 =>
        gd (r278 = r292) <|
        (fL_law_b18 ln xs fuel) (x3 + 7) G292 )
      else if (andI (xs x3) 31) = 4 then (
        gd (0 ≤ (x3 + 1) ∧ (x3 + 1) < (ln : Int)) <|
        gd (0 ≤ (x3 + 2) ∧ (x3 + 2) < (ln : Int)) <|
        cl (fX6_deposit (xs (x3 + 1)) (xs (x3 + 2)) G.1) fun r311 t311 =>
        bnd ((t311, G.2)) fun G311 =>
        gd (0 ≤ (x3 + 1) ∧ (x3 + 1) < (ln : Int)) <|
        gd (0 ≤ (x3 + 2) ∧ (x3 + 2) < (ln : Int)) <|
        cl (fX7_deposit (xs (x3 + 1)) (xs (x3 + 2)) G311.2) fun r325 t325 =>
        bnd ((G311.1, t325)) fun G325 =>
        gd (r311 = r325) <|
        (fL_law_b18 ln xs fuel) (x3 + 7) G325 )
      else if (andI (xs x3) 31) = 5 then (
        gd (0 ≤ (x3 + 1) ∧ (x3 + 1) < (ln : Int)) <|
        gd (0 ≤ (x3 + 2) ∧ (x3 + 2) < (ln : Int)) <|
        gd (0 ≤ (x3 + 3) ∧ (x3 + 3) < (ln : Int)) <|
        gd (0 ≤ (x3 + 4) ∧ (x3 + 4) < (ln : Int)) <|
        gd (0 ≤ (x3 + 5) ∧ (x3 + 5) < (ln : Int)) <|
        gd (0 ≤ (x3 + 6) ∧ (x3 + 6) < (ln : Int)) <|
        cl (fX6_order (xs (x3 + 1)) (xs (x3 + 2)) (xs (x3 + 3)) (xs (x3 + 4)) (xs (x3 + 5)) (xs (x3 + 6)) G.1) fun r365 t365 =>
        bnd ((t365, G.2)) fun G365 =>
        gd (0 ≤ (x3 + 1) ∧ (x3 + 1) < (ln : Int)) <|
        gd (0 ≤ (x3 + 2) ∧ (x3 + 2) < (ln : Int)) <|
        gd (0 ≤ (x3 + 3) ∧ (x3 + 3) < (ln : Int)) <|
        gd (0 ≤ (x3 + 4) ∧ (x3 + 4) < (ln : Int)) <|
        gd (0 ≤ (x3 + 5) ∧ (x3 + 5) < (ln : Int)) <|
        gd (0 ≤ (x3 + 6) ∧ (x3 + 6) < (ln : Int)) <|
        cl (fX7_order (xs (x3 + 1)) (xs (x3 + 2)) (xs (x3 + 3)) (xs (x3 + 4)) (xs (x3 + 5)) (xs (x3 + 6)) G365.2) fun r400 t400 =>
        bnd ((G365.1, t400)) fun G400 =>
        gd (r365 = r400) <|
        (fL_law_b18 ln xs fuel) (x3 + 7) G400 )
      else if (andI (xs x3) 31) = 6 then (
        gd (0 ≤ (x3 + 1) ∧ (x3 + 1) < (ln : Int)) <|
        gd (0 ≤ (x3 + 2) ∧ (x3 + 2) < (ln : Int)) <|
        gd (0 ≤ (x3 + 3) ∧ (x3 + 3) < (ln : Int)) <|
        cl (fX6_change (xs (x3 + 1)) (xs (x3 + 2)) (xs (x3 + 3)) G.1) fun r424 t424 =>
        bnd ((t424, G.2)) fun G424 =>
        gd (0 ≤ (x3 + 1) ∧ (x3 + 1) < (ln : Int)) <|
        gd (0 ≤ (x3 + 2) ∧ (x3 + 2) < (ln : Int)) <|
        gd (0 ≤ (x3 + 3) ∧ (x3 + 3) < (ln : Int)) <|
        cl (fX7_change (xs (x3 + 1)) (xs (x3 + 2)) (xs (x3 + 3)) G424.2) fun r443 t443 =>
        bnd ((G424.1, t443)) fun G443 =>
        gd (r424 = r443) <|
        (fL_law_b18 ln xs fuel) (x3 + 7) G443 )
      else if (andI (xs x3) 31) = 7 then (
        gd (0 ≤ (x3 + 1) ∧ (x3 + 1) < (ln : Int)) <|
        cl (fX6_stop (xs (x3 + 1)) G.1) fun r457 t457 =>
        bnd ((t457, G.2)) fun G457 =>
        gd (0 ≤ (x3 + 1) ∧ (x3 + 1) < (ln : Int)) <|
        cl (fX7_stop (xs (x3 + 1)) G457.2) fun r466 t466 =>
        bnd ((G457.1, t466)) fun G466 =>
        gd (r457 = r466) <|
        (fL_law_b18 ln xs fuel) (x3 + 7) G466 )
      else if (andI (xs x3) 31) = 8 then (
        gd (0 ≤ (x3 + 1) ∧ (x3 + 1) < (ln : Int)) <|
        cl (fX6_goOn (xs (x3 + 1)) G.1) fun r480 t480 =>
        bnd ((t480, G.2)) fun G480 =>
        gd (0 ≤ (x3 + 1) ∧ (x3 + 1) < (ln : Int)) <|
        cl (fX7_goOn (xs (x3 + 1)) G480.2) fun r489 t489 =>
        bnd ((G480.1, t489)) fun G489 =>
        gd (r480 = r489) <|
        (fL_law_b18 ln xs fuel) (x3 + 7) G489 )
      else if (andI (xs x3) 31) = 9 then (
        gd (0 ≤ (x3 + 1) ∧ (x3 + 1) < (ln : Int)) <|
        cl (fX6_giveUp (xs (x3 + 1)) G.1) fun r503 t503 =>
        bnd ((t503, G.2)) fun G503 =>
        gd (0 ≤ (x3 + 1) ∧ (x3 + 1) < (ln : Int)) <|
        cl (fX7_giveUp (xs (x3 + 1)) G503.2) fun r512 t512 =>
        bnd ((G503.1, t512)) fun G512 =>
        gd (r503 = r512) <|
        (fL_law_b18 ln xs fuel) (x3 + 7) G512 )
      else if (andI (xs x3) 31) = 10 then (
        gd (0 ≤ (x3 + 1) ∧ (x3 + 1) < (ln : Int)) <|
        cl (fX6_days (xs (x3 + 1)) G.1) fun r526 t526 =>
        bnd ((t526, G.2)) fun G526 =>
        gd (0 ≤ (x3 + 1) ∧ (x3 + 1) < (ln : Int)) <|
        cl (fX7_days (xs (x3 + 1)) G526.2) fun r535 t535 =>
        bnd ((G526.1, t535)) fun G535 =>
        gd (r526 = r535) <|
        (fL_law_b18 ln xs fuel) (x3 + 7) G535 )
      else if (andI (xs x3) 31) = 11 then (
        gd (0 ≤ (x3 + 1) ∧ (x3 + 1) < (ln : Int)) <|
        gd (0 ≤ (x3 + 2) ∧ (x3 + 2) < (ln : Int)) <|
        cr (fX6_ofDay (xs (x3 + 1)) (xs (x3 + 2)) G.1) fun r554 =>
        gd (0 ≤ (x3 + 1) ∧ (x3 + 1) < (ln : Int)) <|
        gd (0 ≤ (x3 + 2) ∧ (x3 + 2) < (ln : Int)) <|
        cr (fX7_ofDay (xs (x3 + 1)) (xs (x3 + 2)) G.2) fun r568 =>
        gd (r554 = r568) <|
        (fL_law_b18 ln xs fuel) (x3 + 7) G )
      else if (andI (xs x3) 31) = 12 then (
        gd (0 ≤ (x3 + 1) ∧ (x3 + 1) < (ln : Int)) <|
        gd (0 ≤ (x3 + 2) ∧ (x3 + 2) < (ln : Int)) <|
        cr (fX6_money (xs (x3 + 1)) (xs (x3 + 2)) G.1) fun r587 =>
        gd (0 ≤ (x3 + 1) ∧ (x3 + 1) < (ln : Int)) <|
        gd (0 ≤ (x3 + 2) ∧ (x3 + 2) < (ln : Int)) <|
        cr (fX7_money (xs (x3 + 1)) (xs (x3 + 2)) G.2) fun r601 =>
        gd (r587 = r601) <|
        (fL_law_b18 ln xs fuel) (x3 + 7) G )
      else if (andI (xs x3) 31) = 13 then (
        gd (0 ≤ (x3 + 1) ∧ (x3 + 1) < (ln : Int)) <|
        cr (fX6_owedBits (xs (x3 + 1)) G.1) fun r616 =>
        gd (0 ≤ (x3 + 1) ∧ (x3 + 1) < (ln : Int)) <|
        cr (fX7_owedBits (xs (x3 + 1)) G.2) fun r625 =>
        gd (r616 = r625) <|
        (fL_law_b18 ln xs fuel) (x3 + 7) G )
      else if (andI (xs x3) 31) = 14 then (
        gd (0 ≤ (x3 + 1) ∧ (x3 + 1) < (ln : Int)) <|
        gd (0 ≤ (x3 + 2) ∧ (x3 + 2) < (ln : Int)) <|
        cl (fX6_ofOrder (xs (x3 + 1)) (xs (x3 + 2)) G.1) fun r645 t645 =>
        bnd ((t645, G.2)) fun G645 =>
        gd (0 ≤ (x3 + 1) ∧ (x3 + 1) < (ln : Int)) <|
        gd (0 ≤ (x3 + 2) ∧ (x3 + 2) < (ln : Int)) <|
        cr (fX7_ofOrder (xs (x3 + 1)) (xs (x3 + 2)) G645.2) fun r659 =>
        gd (r645 = r659) <|
        (fL_law_b18 ln xs fuel) (x3 + 7) G645 )
      else if (andI (xs x3) 31) = 15 then (
        gd (0 ≤ (x3 + 1) ∧ (x3 + 1) < (ln : Int)) <|
        gd (0 ≤ (x3 + 2) ∧ (x3 + 2) < (ln : Int)) <|
        cr (fX6_ofPayment (xs (x3 + 1)) (xs (x3 + 2)) G.1) fun r678 =>
        gd (0 ≤ (x3 + 1) ∧ (x3 + 1) < (ln : Int)) <|
        gd (0 ≤ (x3 + 2) ∧ (x3 + 2) < (ln : Int)) <|
        cr (fX7_ofPayment (xs (x3 + 1)) (xs (x3 + 2)) G.2) fun r692 =>
        gd (r678 = r692) <|
        (fL_law_b18 ln xs fuel) (x3 + 7) G )
      else if (andI (xs x3) 31) = 16 then (
        gd (0 ≤ (x3 + 1) ∧ (x3 + 1) < (ln : Int)) <|
        cr (fX6_count (xs (x3 + 1)) G.1) fun r706 =>
        gd (0 ≤ (x3 + 1) ∧ (x3 + 1) < (ln : Int)) <|
        cr (fX7_count (xs (x3 + 1)) G.2) fun r715 =>
        gd (r706 = r715) <|
        (fL_law_b18 ln xs fuel) (x3 + 7) G )
      else if (andI (xs x3) 31) = 17 then (
        gd (0 ≤ (x3 + 1) ∧ (x3 + 1) < (ln : Int)) <|
        gd (0 ≤ (x3 + 2) ∧ (x3 + 2) < (ln : Int)) <|
        cl (fX6_dateOf (xs (x3 + 1)) (xs (x3 + 2)) G.1) fun r734 t734 =>
        bnd ((t734, G.2)) fun G734 =>
        gd (0 ≤ (x3 + 1) ∧ (x3 + 1) < (ln : Int)) <|
        gd (0 ≤ (x3 + 2) ∧ (x3 + 2) < (ln : Int)) <|
        cr (fX7_dateOf (xs (x3 + 1)) (xs (x3 + 2)) G734.2) fun r748 =>
        gd (r734 = r748) <|
        (fL_law_b18 ln xs fuel) (x3 + 7) G734 )
      else if (andI (xs x3) 31) = 18 then (
        gd (0 ≤ (x3 + 1) ∧ (x3 + 1) < (ln : Int)) <|
        gd (0 ≤ (x3 + 2) ∧ (x3 + 2) < (ln : Int)) <|
        cr (fX6_shift (xs (x3 + 1)) (xs (x3 + 2)) G.1) fun r767 =>
        gd (0 ≤ (x3 + 1) ∧ (x3 + 1) < (ln : Int)) <|
        gd (0 ≤ (x3 + 2) ∧ (x3 + 2) < (ln : Int)) <|
        cr (fX7_shift (xs (x3 + 1)) (xs (x3 + 2)) G.2) fun r781 =>
        gd (r767 = r781) <|
        (fL_law_b18 ln xs fuel) (x3 + 7) G )
      else if (andI (xs x3) 31) = 19 then (
        gd (0 ≤ (x3 + 1) ∧ (x3 + 1) < (ln : Int)) <|
        gd (0 ≤ (x3 + 2) ∧ (x3 + 2) < (ln : Int)) <|
        cl (fX6_balanceIn (xs (x3 + 1)) (xs (x3 + 2)) G.1) fun r800 t800 =>
        bnd ((t800, G.2)) fun G800 =>
        gd (0 ≤ (x3 + 1) ∧ (x3 + 1) < (ln : Int)) <|
        gd (0 ≤ (x3 + 2) ∧ (x3 + 2) < (ln : Int)) <|
        cl (fX7_balanceIn (xs (x3 + 1)) (xs (x3 + 2)) G800.2) fun r814 t814 =>
        bnd ((G800.1, t814)) fun G814 =>
        gd (r800 = r814) <|
        (fL_law_b18 ln xs fuel) (x3 + 7) G814 )
      else if (andI (xs x3) 31) = 20 then (
        gd (0 ≤ (x3 + 1) ∧ (x3 + 1) < (ln : Int)) <|
        cl (fX6_firstFailure (xs (x3 + 1)) G.1) fun r829 t829 =>
        bnd ((t829, G.2)) fun G829 =>
        gd (0 ≤ (x3 + 1) ∧ (x3 + 1) < (ln : Int)) <|
        cl (fX7_firstFailure (xs (x3 + 1)) G829.2) fun r838 t838 =>
        bnd ((G829.1, t838)) fun G838 =>
        gd (r829 = r838) <|
        (fL_law_b18 ln xs fuel) (x3 + 7) G838 )
      else if (andI (xs x3) 31) = 21 then (
        gd (0 ≤ (x3 + 1) ∧ (x3 + 1) < (ln : Int)) <|
        gd (0 ≤ (x3 + 2) ∧ (x3 + 2) < (ln : Int)) <|
        cl (fX6_leastDeposit (xs (x3 + 1)) (xs (x3 + 2)) G.1) fun r857 t857 =>
        bnd ((t857, G.2)) fun G857 =>
        gd (0 ≤ (x3 + 1) ∧ (x3 + 1) < (ln : Int)) <|
        gd (0 ≤ (x3 + 2) ∧ (x3 + 2) < (ln : Int)) <|
        cl (fX7_leastDeposit (xs (x3 + 1)) (xs (x3 + 2)) G857.2) fun r871 t871 =>
        bnd ((G857.1, t871)) fun G871 =>
        gd (r857 = r871) <|
        (fL_law_b18 ln xs fuel) (x3 + 7) G871 )
      else if (andI (xs x3) 31) = 22 then (
        gd (0 ≤ (x3 + 1) ∧ (x3 + 1) < (ln : Int)) <|
        gd (0 ≤ (x3 + 2) ∧ (x3 + 2) < (ln : Int)) <|
        gd (0 ≤ (x3 + 3) ∧ (x3 + 3) < (ln : Int)) <|
        cl (fX6_ahead (xs (x3 + 1)) (xs (x3 + 2)) (xs (x3 + 3)) G.1) fun r895 t895 =>
        bnd ((t895, G.2)) fun G895 =>
        gd (0 ≤ (x3 + 1) ∧ (x3 + 1) < (ln : Int)) <|
        gd (0 ≤ (x3 + 2) ∧ (x3 + 2) < (ln : Int)) <|
        gd (0 ≤ (x3 + 3) ∧ (x3 + 3) < (ln : Int)) <|
        cl (fX7_ahead (xs (x3 + 1)) (xs (x3 + 2)) (xs (x3 + 3)) G895.2) fun r914 t914 =>
        bnd ((G895.1, t914)) fun G914 =>
        gd (r895 = r914) <|
        (fL_law_b18 ln xs fuel) (x3 + 7) G914 )
      else if (andI (xs x3) 31) = 23 then (
        gd (0 ≤ (x3 + 1) ∧ (x3 + 1) < (ln : Int)) <|
        gd (wR (xs (x3 + 1))) <|
        gd (0 ≤ (x3 + 2) ∧ (x3 + 2) < (ln : Int)) <|
        gd (wR (xs (x3 + 2))) <|
        cl (fX6_put (lorI (lshlI (xs (x3 + 1)) 32) (landI (xs (x3 + 2)) 4294967295)) G.1) fun r943 t943 =>
        bnd ((t943, G.2)) fun G943 =>
        gd (0 ≤ (x3 + 1) ∧ (x3 + 1) < (ln : Int)) <|
        gd (wR (xs (x3 + 1))) <|
        gd (0 ≤ (x3 + 2) ∧ (x3 + 2) < (ln : Int)) <|
        gd (wR (xs (x3 + 2))) <|
        cl (fX7_put (lorI (lshlI (xs (x3 + 1)) 32) (landI (xs (x3 + 2)) 4294967295)) G943.2) fun r967 t967 =>
        bnd ((G943.1, t967)) fun G967 =>
        gd (r943 = r967) <|
        (fL_law_b18 ln xs fuel) (x3 + 7) G967 )
      else if (andI (xs x3) 31) = 24 then (
        cl (fX6_wipe G.1) fun r976 t976 =>
        bnd ((t976, G.2)) fun G976 =>
        cl (fX7_wipe G976.2) fun r980 t980 =>
        bnd ((G976.1, t980)) fun G980 =>
        gd (r976 = r980) <|
        (fL_law_b18 ln xs fuel) (x3 + 7) G980 )
      else if (andI (xs x3) 31) = 25 then (
        cl (fX6_fault G.1) fun r989 t989 =>
        bnd ((t989, G.2)) fun G989 =>
        cl (fX7_fault G989.2) fun r993 t993 =>
        bnd ((G989.1, t993)) fun G993 =>
        gd (r989 = r993) <|
        (fL_law_b18 ln xs fuel) (x3 + 7) G993 )
      else if (andI (xs x3) 31) = 26 then (
        cl (fX6_carryOut G.1) fun r1002 t1002 =>
        bnd ((t1002, G.2)) fun G1002 =>
        cl (fX7_carryOut G1002.2) fun r1006 t1006 =>
        bnd ((G1002.1, t1006)) fun G1006 =>
        gd (r1002 = r1006) <|
        (fL_law_b18 ln xs fuel) (x3 + 7) G1006 )
      else if (andI (xs x3) 31) = 27 then (
        cl (fX6_undo G.1) fun r1015 t1015 =>
        bnd ((t1015, G.2)) fun G1015 =>
        cl (fX7_undo G1015.2) fun r1019 t1019 =>
        bnd ((G1015.1, t1019)) fun G1019 =>
        gd (r1015 = r1019) <|
        (fL_law_b18 ln xs fuel) (x3 + 7) G1019 )
      else if (andI (xs x3) 31) = 28 then (
        gd (0 ≤ (x3 + 1) ∧ (x3 + 1) < (ln : Int)) <|
        cl (fX6_save (xs (x3 + 1)) G.1) fun r1033 t1033 =>
        bnd ((t1033, G.2)) fun G1033 =>
        gd (0 ≤ (x3 + 1) ∧ (x3 + 1) < (ln : Int)) <|
        cl (fX7_save (xs (x3 + 1)) G1033.2) fun r1042 t1042 =>
        bnd ((G1033.1, t1042)) fun G1042 =>
        gd (r1033 = r1042) <|
        (fL_law_b18 ln xs fuel) (x3 + 7) G1042 )
      else if (andI (xs x3) 31) = 29 then (
        gd (0 ≤ (x3 + 1) ∧ (x3 + 1) < (ln : Int)) <|
        cl (fX6_restore (xs (x3 + 1)) G.1) fun r1056 t1056 =>
        bnd ((t1056, G.2)) fun G1056 =>
        gd (0 ≤ (x3 + 1) ∧ (x3 + 1) < (ln : Int)) <|
        cl (fX7_restore (xs (x3 + 1)) G1056.2) fun r1065 t1065 =>
        bnd ((G1056.1, t1065)) fun G1065 =>
        gd (r1056 = r1065) <|
        (fL_law_b18 ln xs fuel) (x3 + 7) G1065 )
      else (
        (fL_law_b18 ln xs fuel) (x3 + 7) G ))

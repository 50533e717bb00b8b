def lp_L_law (L : Nat) (xs : Nat → Int32) : Nat → Int32 → zPG → zLT → zLS → zTD → zIM → zRD → zWR → zEN → zDY → (Nat → Int32) → Int32 → Int32 → Int32 → (Nat → Int32) → Int32 → Int32 → Int32 → Int32 → Int32 → Int32 → Int32 → (Nat → Int32) → Int32 → (Nat → Int32) → Int32 → Bool → Int32 → Int32 → Bool → Int32 → (Nat → Int32) → Int32 → (Nat → Int32) → (Nat → Int32) → Int32 → Int32 → Int32 → Int32 → Int32 → Int32 → (Nat → Int32) → (Nat → Int32) → Int64 → Option Bool
  | 0, _, _, _, _, _, _, _, _, _, _, _, _, _, _, _, _, _, _, _, _, _, _, _, _, _, _, _, _, _, _, _, _, _, _, _, _, _, _, _, _, _, _, _, _ => none
  | n + 1, v3, s0_0, s0_1, s0_2, s0_3, s0_4, s0_5, s0_6, s0_7, s0_8, s0_9, s0_10, s0_11, s0_12, s1_0, s1_1, s1_2, s1_3, s1_4, s1_5, s1_6, s1_7, s1_8, s1_9, s1_10, s1_11, s1_12, s1_13, s1_14, s1_15, s1_16, s1_17, s1_18, s1_19, s1_20, s1_21, s1_22, s1_23, s1_24, s1_25, s1_26, s1_27, s1_28, s1_29 =>
    if ((Int32.ofNat L) - 5) < v3 then
      some true
    else
      if v3 < 0 ∨ L ≤ Int32.toNatClampNeg v3 then none
      else
        if ((xs (Int32.toNatClampNeg v3)) &&& 31) = 0 then
          if (v3 + 1) < 0 ∨ L ≤ Int32.toNatClampNeg (v3 + 1) then none
          else
            (f_X9_letter (s0_0, s0_1, s0_2, s0_3, s0_4, s0_5, s0_6, s0_7, s0_8, s0_9, s0_10, s0_11, s0_12) (xs (Int32.toNatClampNeg (v3 + 1)))).bind fun u5 =>
              if (v3 + 1) < 0 ∨ L ≤ Int32.toNatClampNeg (v3 + 1) then none
              else
                (f_X10_letter s1_0 s1_1 (xs (Int32.toNatClampNeg (v3 + 1)))).bind fun u7 =>
                  if u5.1 = u7.1 then
                    lp_L_law L xs n (v3 + 5) u5.2.1 u5.2.2.1 u5.2.2.2.1 u5.2.2.2.2.1 u5.2.2.2.2.2.1 u5.2.2.2.2.2.2.1 u5.2.2.2.2.2.2.2.1 u5.2.2.2.2.2.2.2.2.1 u5.2.2.2.2.2.2.2.2.2.1 u5.2.2.2.2.2.2.2.2.2.2.1 u5.2.2.2.2.2.2.2.2.2.2.2.1 u5.2.2.2.2.2.2.2.2.2.2.2.2.1 u5.2.2.2.2.2.2.2.2.2.2.2.2.2 u7.2.1 u7.2.2 s1_2 s1_3 s1_4 s1_5 s1_6 s1_7 s1_8 s1_9 s1_10 s1_11 s1_12 s1_13 s1_14 s1_15 s1_16 s1_17 s1_18 s1_19 s1_20 s1_21 s1_22 s1_23 s1_24 s1_25 s1_26 s1_27 s1_28 s1_29
                  else
                    some false
        else
          if ((xs (Int32.toNatClampNeg v3)) &&& 31) = 1 then
            (f_X9_blank (s0_0, s0_1, s0_2, s0_3, s0_4, s0_5, s0_6, s0_7, s0_8, s0_9, s0_10, s0_11, s0_12)).bind fun u10 =>
              (f_X10_blank s1_1).bind fun u11 =>
                if u10.1 = u11.1 then
                  lp_L_law L xs n (v3 + 5) u10.2.1 u10.2.2.1 u10.2.2.2.1 u10.2.2.2.2.1 u10.2.2.2.2.2.1 u10.2.2.2.2.2.2.1 u10.2.2.2.2.2.2.2.1 u10.2.2.2.2.2.2.2.2.1 u10.2.2.2.2.2.2.2.2.2.1 u10.2.2.2.2.2.2.2.2.2.2.1 u10.2.2.2.2.2.2.2.2.2.2.2.1 u10.2.2.2.2.2.2.2.2.2.2.2.2.1 u10.2.2.2.2.2.2.2.2.2.2.2.2.2 s1_0 u11.2 s1_2 s1_3 s1_4 s1_5 s1_6 s1_7 s1_8 s1_9 s1_10 s1_11 s1_12 s1_13 s1_14 s1_15 s1_16 s1_17 s1_18 s1_19 s1_20 s1_21 s1_22 s1_23 s1_24 s1_25 s1_26 s1_27 s1_28 s1_29
                else
                  some false
          else
            if ((xs (Int32.toNatClampNeg v3)) &&& 31) = 2 then
              (f_X9_fault (s0_0, s0_1, s0_2, s0_3, s0_4, s0_5, s0_6, s0_7, s0_8, s0_9, s0_10, s0_11, s0_12)).bind fun u14 =>
                (f_X10_fault s1_0 s1_1).bind fun u15 =>
                  if u14 = u15.1 then
                    lp_L_law L xs n (v3 + 5) s0_0 s0_1 s0_2 s0_3 s0_4 s0_5 s0_6 s0_7 s0_8 s0_9 s0_10 s0_11 s0_12 s1_0 s1_1 u15.2.1 u15.2.2 s1_4 s1_5 s1_6 s1_7 s1_8 s1_9 s1_10 s1_11 s1_12 s1_13 s1_14 s1_15 s1_16 s1_17 s1_18 s1_19 s1_20 s1_21 s1_22 s1_23 s1_24 s1_25 s1_26 s1_27 s1_28 s1_29
                  else
                    some false
            else
              if ((xs (Int32.toNatClampNeg v3)) &&& 31) = 3 then
                (f_X9_take (s0_0, s0_1, s0_2, s0_3, s0_4, s0_5, s0_6, s0_7, s0_8, s0_9, s0_10, s0_11, s0_12)).bind fun u18 =>
                  (f_X10_take s1_0 s1_1 s1_4 s1_5 s1_6 s1_7 s1_8 s1_9 s1_18).bind fun u19 =>
                    if u18.1 = u19.1 then
                      lp_L_law L xs n (v3 + 5) u18.2.1 u18.2.2.1 u18.2.2.2.1 u18.2.2.2.2.1 u18.2.2.2.2.2.1 u18.2.2.2.2.2.2.1 u18.2.2.2.2.2.2.2.1 u18.2.2.2.2.2.2.2.2.1 u18.2.2.2.2.2.2.2.2.2.1 u18.2.2.2.2.2.2.2.2.2.2.1 u18.2.2.2.2.2.2.2.2.2.2.2.1 u18.2.2.2.2.2.2.2.2.2.2.2.2.1 u18.2.2.2.2.2.2.2.2.2.2.2.2.2 s1_0 u19.2.1 u19.2.2.1 u19.2.2.2.1 u19.2.2.2.2.1 u19.2.2.2.2.2.1 u19.2.2.2.2.2.2.1 u19.2.2.2.2.2.2.2.1 u19.2.2.2.2.2.2.2.2.1 u19.2.2.2.2.2.2.2.2.2.1 s1_10 s1_11 s1_12 s1_13 s1_14 s1_15 s1_16 s1_17 u19.2.2.2.2.2.2.2.2.2.2 s1_19 s1_20 s1_21 s1_22 s1_23 s1_24 s1_25 s1_26 s1_27 s1_28 s1_29
                    else
                      some false
              else
                if ((xs (Int32.toNatClampNeg v3)) &&& 31) = 4 then
                  if (v3 + 1) < 0 ∨ L ≤ Int32.toNatClampNeg (v3 + 1) then none
                  else
                    if (v3 + 2) < 0 ∨ L ≤ Int32.toNatClampNeg (v3 + 2) then none
                    else
                      (f_X9_word (s0_0, s0_1, s0_2, s0_3, s0_4, s0_5, s0_6, s0_7, s0_8, s0_9, s0_10, s0_11, s0_12) (xs (Int32.toNatClampNeg (v3 + 1))) (xs (Int32.toNatClampNeg (v3 + 2)))).bind fun u24 =>
                        if (v3 + 1) < 0 ∨ L ≤ Int32.toNatClampNeg (v3 + 1) then none
                        else
                          if (v3 + 2) < 0 ∨ L ≤ Int32.toNatClampNeg (v3 + 2) then none
                          else
                            (f_X10_word s1_4 s1_8 s1_11 s1_12 s1_13 s1_14 s1_15 (xs (Int32.toNatClampNeg (v3 + 1))) (xs (Int32.toNatClampNeg (v3 + 2)))).bind fun u27 =>
                              if u24.1 = u27.1 then
                                lp_L_law L xs n (v3 + 5) u24.2.1 u24.2.2.1 u24.2.2.2.1 u24.2.2.2.2.1 u24.2.2.2.2.2.1 u24.2.2.2.2.2.2.1 u24.2.2.2.2.2.2.2.1 u24.2.2.2.2.2.2.2.2.1 u24.2.2.2.2.2.2.2.2.2.1 u24.2.2.2.2.2.2.2.2.2.2.1 u24.2.2.2.2.2.2.2.2.2.2.2.1 u24.2.2.2.2.2.2.2.2.2.2.2.2.1 u24.2.2.2.2.2.2.2.2.2.2.2.2.2 s1_0 s1_1 s1_2 s1_3 s1_4 s1_5 s1_6 s1_7 s1_8 s1_9 s1_10 u27.2.1 u27.2.2.1 u27.2.2.2.1 u27.2.2.2.2.1 u27.2.2.2.2.2 s1_16 s1_17 s1_18 s1_19 s1_20 s1_21 s1_22 s1_23 s1_24 s1_25 s1_26 s1_27 s1_28 s1_29
                              else
                                some false
                else
                  if ((xs (Int32.toNatClampNeg v3)) &&& 31) = 5 then
                    if (v3 + 1) < 0 ∨ L ≤ Int32.toNatClampNeg (v3 + 1) then none
                    else
                      if (v3 + 2) < 0 ∨ L ≤ Int32.toNatClampNeg (v3 + 2) then none
                      else
                        (f_X9_change (s0_0, s0_1, s0_2, s0_3, s0_4, s0_5, s0_6, s0_7, s0_8, s0_9, s0_10, s0_11, s0_12) (xs (Int32.toNatClampNeg (v3 + 1))) (xs (Int32.toNatClampNeg (v3 + 2)))).bind fun u32 =>
                          if (v3 + 1) < 0 ∨ L ≤ Int32.toNatClampNeg (v3 + 1) then none
                          else
                            if (v3 + 2) < 0 ∨ L ≤ Int32.toNatClampNeg (v3 + 2) then none
                            else
                              (f_X10_change s1_4 s1_6 s1_8 (xs (Int32.toNatClampNeg (v3 + 1))) (xs (Int32.toNatClampNeg (v3 + 2)))).bind fun u35 =>
                                if u32.1 = u35.1 then
                                  lp_L_law L xs n (v3 + 5) u32.2.1 u32.2.2.1 u32.2.2.2.1 u32.2.2.2.2.1 u32.2.2.2.2.2.1 u32.2.2.2.2.2.2.1 u32.2.2.2.2.2.2.2.1 u32.2.2.2.2.2.2.2.2.1 u32.2.2.2.2.2.2.2.2.2.1 u32.2.2.2.2.2.2.2.2.2.2.1 u32.2.2.2.2.2.2.2.2.2.2.2.1 u32.2.2.2.2.2.2.2.2.2.2.2.2.1 u32.2.2.2.2.2.2.2.2.2.2.2.2.2 s1_0 s1_1 s1_2 s1_3 s1_4 s1_5 u35.2.1 s1_7 u35.2.2 s1_9 s1_10 s1_11 s1_12 s1_13 s1_14 s1_15 s1_16 s1_17 s1_18 s1_19 s1_20 s1_21 s1_22 s1_23 s1_24 s1_25 s1_26 s1_27 s1_28 s1_29
                                else
                                  some false
                  else
                    if ((xs (Int32.toNatClampNeg v3)) &&& 31) = 6 then
                      if (v3 + 1) < 0 ∨ L ≤ Int32.toNatClampNeg (v3 + 1) then none
                      else
                        (f_X9_snow (s0_0, s0_1, s0_2, s0_3, s0_4, s0_5, s0_6, s0_7, s0_8, s0_9, s0_10, s0_11, s0_12) (xs (Int32.toNatClampNeg (v3 + 1)))).bind fun u39 =>
                          if (v3 + 1) < 0 ∨ L ≤ Int32.toNatClampNeg (v3 + 1) then none
                          else
                            (f_X10_snow s1_4 s1_5 (xs (Int32.toNatClampNeg (v3 + 1)))).bind fun u41 =>
                              if u39.1 = u41.1 then
                                lp_L_law L xs n (v3 + 5) u39.2.1 u39.2.2.1 u39.2.2.2.1 u39.2.2.2.2.1 u39.2.2.2.2.2.1 u39.2.2.2.2.2.2.1 u39.2.2.2.2.2.2.2.1 u39.2.2.2.2.2.2.2.2.1 u39.2.2.2.2.2.2.2.2.2.1 u39.2.2.2.2.2.2.2.2.2.2.1 u39.2.2.2.2.2.2.2.2.2.2.2.1 u39.2.2.2.2.2.2.2.2.2.2.2.2.1 u39.2.2.2.2.2.2.2.2.2.2.2.2.2 s1_0 s1_1 s1_2 s1_3 s1_4 u41.2 s1_6 s1_7 s1_8 s1_9 s1_10 s1_11 s1_12 s1_13 s1_14 s1_15 s1_16 s1_17 s1_18 s1_19 s1_20 s1_21 s1_22 s1_23 s1_24 s1_25 s1_26 s1_27 s1_28 s1_29
                              else
                                some false
                    else
                      if ((xs (Int32.toNatClampNeg v3)) &&& 31) = 7 then
                        if (v3 + 1) < 0 ∨ L ≤ Int32.toNatClampNeg (v3 + 1) then none
                        else
                          (f_X9_listener (s0_0, s0_1, s0_2, s0_3, s0_4, s0_5, s0_6, s0_7, s0_8, s0_9, s0_10, s0_11, s0_12) (xs (Int32.toNatClampNeg (v3 + 1)))).bind fun u45 =>
                            if (v3 + 1) < 0 ∨ L ≤ Int32.toNatClampNeg (v3 + 1) then none
                            else
                              (f_X10_listener s1_4 s1_9 s1_10 (xs (Int32.toNatClampNeg (v3 + 1)))).bind fun u47 =>
                                if u45.1 = u47.1 then
                                  lp_L_law L xs n (v3 + 5) u45.2.1 u45.2.2.1 u45.2.2.2.1 u45.2.2.2.2.1 u45.2.2.2.2.2.1 u45.2.2.2.2.2.2.1 u45.2.2.2.2.2.2.2.1 u45.2.2.2.2.2.2.2.2.1 u45.2.2.2.2.2.2.2.2.2.1 u45.2.2.2.2.2.2.2.2.2.2.1 u45.2.2.2.2.2.2.2.2.2.2.2.1 u45.2.2.2.2.2.2.2.2.2.2.2.2.1 u45.2.2.2.2.2.2.2.2.2.2.2.2.2 s1_0 s1_1 s1_2 s1_3 s1_4 s1_5 s1_6 s1_7 s1_8 u47.2.1 u47.2.2 s1_11 s1_12 s1_13 s1_14 s1_15 s1_16 s1_17 s1_18 s1_19 s1_20 s1_21 s1_22 s1_23 s1_24 s1_25 s1_26 s1_27 s1_28 s1_29
                                else
                                  some false
                      else
                        if ((xs (Int32.toNatClampNeg v3)) &&& 31) = 8 then
                          if (v3 + 1) < 0 ∨ L ≤ Int32.toNatClampNeg (v3 + 1) then none
                          else
                            if (v3 + 2) < 0 ∨ L ≤ Int32.toNatClampNeg (v3 + 2) then none
                            else
                              (f_X9_about (s0_0, s0_1, s0_2, s0_3, s0_4, s0_5, s0_6, s0_7, s0_8, s0_9, s0_10, s0_11, s0_12) (xs (Int32.toNatClampNeg (v3 + 1))) (xs (Int32.toNatClampNeg (v3 + 2)))).bind fun u52 =>
                                if (v3 + 1) < 0 ∨ L ≤ Int32.toNatClampNeg (v3 + 1) then none
                                else
                                  if (v3 + 2) < 0 ∨ L ≤ Int32.toNatClampNeg (v3 + 2) then none
                                  else
                                    (f_X10_about s1_4 s1_5 s1_8 s1_9 s1_10 s1_11 s1_12 s1_13 s1_14 s1_15 (xs (Int32.toNatClampNeg (v3 + 1))) (xs (Int32.toNatClampNeg (v3 + 2)))).bind fun u55 =>
                                      if u52.1 = u55.1 then
                                        lp_L_law L xs n (v3 + 5) u52.2.1 u52.2.2.1 u52.2.2.2.1 u52.2.2.2.2.1 u52.2.2.2.2.2.1 u52.2.2.2.2.2.2.1 u52.2.2.2.2.2.2.2.1 u52.2.2.2.2.2.2.2.2.1 u52.2.2.2.2.2.2.2.2.2.1 u52.2.2.2.2.2.2.2.2.2.2.1 u52.2.2.2.2.2.2.2.2.2.2.2.1 u52.2.2.2.2.2.2.2.2.2.2.2.2.1 u52.2.2.2.2.2.2.2.2.2.2.2.2.2 s1_0 s1_1 s1_2 s1_3 s1_4 s1_5 s1_6 s1_7 s1_8 s1_9 s1_10 u55.2.1 u55.2.2.1 u55.2.2.2.1 u55.2.2.2.2.1 u55.2.2.2.2.2 s1_16 s1_17 s1_18 s1_19 s1_20 s1_21 s1_22 s1_23 s1_24 s1_25 s1_26 s1_27 s1_28 s1_29
                                      else
                                        some false
                        else
                          if ((xs (Int32.toNatClampNeg v3)) &&& 31) = 9 then
                            if (v3 + 1) < 0 ∨ L ≤ Int32.toNatClampNeg (v3 + 1) then none
                            else
                              if (v3 + 2) < 0 ∨ L ≤ Int32.toNatClampNeg (v3 + 2) then none
                              else
                                (f_X9_as (s0_0, s0_1, s0_2, s0_3, s0_4, s0_5, s0_6, s0_7, s0_8, s0_9, s0_10, s0_11, s0_12) (xs (Int32.toNatClampNeg (v3 + 1))) (xs (Int32.toNatClampNeg (v3 + 2)))).bind fun u60 =>
                                  if (v3 + 1) < 0 ∨ L ≤ Int32.toNatClampNeg (v3 + 1) then none
                                  else
                                    if (v3 + 2) < 0 ∨ L ≤ Int32.toNatClampNeg (v3 + 2) then none
                                    else
                                      (f_X10_as s1_9 s1_10 (xs (Int32.toNatClampNeg (v3 + 1))) (xs (Int32.toNatClampNeg (v3 + 2)))).bind fun u63 =>
                                        if u60 = u63 then
                                          lp_L_law L xs n (v3 + 5) s0_0 s0_1 s0_2 s0_3 s0_4 s0_5 s0_6 s0_7 s0_8 s0_9 s0_10 s0_11 s0_12 s1_0 s1_1 s1_2 s1_3 s1_4 s1_5 s1_6 s1_7 s1_8 s1_9 s1_10 s1_11 s1_12 s1_13 s1_14 s1_15 s1_16 s1_17 s1_18 s1_19 s1_20 s1_21 s1_22 s1_23 s1_24 s1_25 s1_26 s1_27 s1_28 s1_29
                                        else
                                          some false
                          else
                            if ((xs (Int32.toNatClampNeg v3)) &&& 31) = 10 then
                              if (v3 + 1) < 0 ∨ L ≤ Int32.toNatClampNeg (v3 + 1) then none
                              else
                                if (v3 + 2) < 0 ∨ L ≤ Int32.toNatClampNeg (v3 + 2) then none
                                else
                                  if (v3 + 3) < 0 ∨ L ≤ Int32.toNatClampNeg (v3 + 3) then none
                                  else
                                    if (v3 + 4) < 0 ∨ L ≤ Int32.toNatClampNeg (v3 + 4) then none
                                    else
                                      (f_X9_write (s0_0, s0_1, s0_2, s0_3, s0_4, s0_5, s0_6, s0_7, s0_8, s0_9, s0_10, s0_11, s0_12) (xs (Int32.toNatClampNeg (v3 + 1))) (xs (Int32.toNatClampNeg (v3 + 2))) (xs (Int32.toNatClampNeg (v3 + 3))) (xs (Int32.toNatClampNeg (v3 + 4)))).bind fun u70 =>
                                        if (v3 + 1) < 0 ∨ L ≤ Int32.toNatClampNeg (v3 + 1) then none
                                        else
                                          if (v3 + 2) < 0 ∨ L ≤ Int32.toNatClampNeg (v3 + 2) then none
                                          else
                                            if (v3 + 3) < 0 ∨ L ≤ Int32.toNatClampNeg (v3 + 3) then none
                                            else
                                              if (v3 + 4) < 0 ∨ L ≤ Int32.toNatClampNeg (v3 + 4) then none
                                              else
                                                (f_X10_write s1_11 s1_12 s1_13 s1_14 s1_15 s1_16 s1_17 (xs (Int32.toNatClampNeg (v3 + 1))) (xs (Int32.toNatClampNeg (v3 + 2))) (xs (Int32.toNatClampNeg (v3 + 3))) (xs (Int32.toNatClampNeg (v3 + 4)))).bind fun u75 =>
                                                  if u70.1 = u75.1 then
                                                    lp_L_law L xs n (v3 + 5) u70.2.1 u70.2.2.1 u70.2.2.2.1 u70.2.2.2.2.1 u70.2.2.2.2.2.1 u70.2.2.2.2.2.2.1 u70.2.2.2.2.2.2.2.1 u70.2.2.2.2.2.2.2.2.1 u70.2.2.2.2.2.2.2.2.2.1 u70.2.2.2.2.2.2.2.2.2.2.1 u70.2.2.2.2.2.2.2.2.2.2.2.1 u70.2.2.2.2.2.2.2.2.2.2.2.2.1 u70.2.2.2.2.2.2.2.2.2.2.2.2.2 s1_0 s1_1 s1_2 s1_3 s1_4 s1_5 s1_6 s1_7 s1_8 s1_9 s1_10 u75.2.1 u75.2.2.1 u75.2.2.2.1 u75.2.2.2.2.1 u75.2.2.2.2.2.1 u75.2.2.2.2.2.2.1 u75.2.2.2.2.2.2.2 s1_18 s1_19 s1_20 s1_21 s1_22 s1_23 s1_24 s1_25 s1_26 s1_27 s1_28 s1_29
                                                  else
                                                    some false
                            else
                              if ((xs (Int32.toNatClampNeg v3)) &&& 31) = 11 then
                                if (v3 + 1) < 0 ∨ L ≤ Int32.toNatClampNeg (v3 + 1) then none
                                else
                                  if (v3 + 2) < 0 ∨ L ≤ Int32.toNatClampNeg (v3 + 2) then none
                                  else
                                    if (v3 + 3) < 0 ∨ L ≤ Int32.toNatClampNeg (v3 + 3) then none
                                    else
                                      (f_X9_rest (s0_0, s0_1, s0_2, s0_3, s0_4, s0_5, s0_6, s0_7, s0_8, s0_9, s0_10, s0_11, s0_12) (xs (Int32.toNatClampNeg (v3 + 1))) (xs (Int32.toNatClampNeg (v3 + 2))) (xs (Int32.toNatClampNeg (v3 + 3)))).bind fun u81 =>
                                        if (v3 + 1) < 0 ∨ L ≤ Int32.toNatClampNeg (v3 + 1) then none
                                        else
                                          if (v3 + 2) < 0 ∨ L ≤ Int32.toNatClampNeg (v3 + 2) then none
                                          else
                                            if (v3 + 3) < 0 ∨ L ≤ Int32.toNatClampNeg (v3 + 3) then none
                                            else
                                              (f_X10_rest s1_4 s1_8 s1_11 s1_12 s1_13 s1_14 s1_15 s1_17 (xs (Int32.toNatClampNeg (v3 + 1))) (xs (Int32.toNatClampNeg (v3 + 2))) (xs (Int32.toNatClampNeg (v3 + 3)))).bind fun u85 =>
                                                if u81.1 = u85.1 then
                                                  lp_L_law L xs n (v3 + 5) u81.2.1 u81.2.2.1 u81.2.2.2.1 u81.2.2.2.2.1 u81.2.2.2.2.2.1 u81.2.2.2.2.2.2.1 u81.2.2.2.2.2.2.2.1 u81.2.2.2.2.2.2.2.2.1 u81.2.2.2.2.2.2.2.2.2.1 u81.2.2.2.2.2.2.2.2.2.2.1 u81.2.2.2.2.2.2.2.2.2.2.2.1 u81.2.2.2.2.2.2.2.2.2.2.2.2.1 u81.2.2.2.2.2.2.2.2.2.2.2.2.2 s1_0 s1_1 s1_2 s1_3 s1_4 s1_5 s1_6 s1_7 s1_8 s1_9 s1_10 u85.2.1 u85.2.2.1 u85.2.2.2.1 u85.2.2.2.2.1 u85.2.2.2.2.2.1 s1_16 u85.2.2.2.2.2.2 s1_18 s1_19 s1_20 s1_21 s1_22 s1_23 s1_24 s1_25 s1_26 s1_27 s1_28 s1_29
                                                else
                                                  some false
                              else
                                if ((xs (Int32.toNatClampNeg v3)) &&& 31) = 12 then
                                  if (v3 + 1) < 0 ∨ L ≤ Int32.toNatClampNeg (v3 + 1) then none
                                  else
                                    if (v3 + 2) < 0 ∨ L ≤ Int32.toNatClampNeg (v3 + 2) then none
                                    else
                                      if (xs (Int32.toNatClampNeg (v3 + 2))) = 0 then
                                        (f_X9_tell (s0_0, s0_1, s0_2, s0_3, s0_4, s0_5, s0_6, s0_7, s0_8, s0_9, s0_10, s0_11, s0_12) (xs (Int32.toNatClampNeg (v3 + 1))) false).bind fun u91 =>
                                          if (v3 + 1) < 0 ∨ L ≤ Int32.toNatClampNeg (v3 + 1) then none
                                          else
                                            if (v3 + 2) < 0 ∨ L ≤ Int32.toNatClampNeg (v3 + 2) then none
                                            else
                                              if (xs (Int32.toNatClampNeg (v3 + 2))) = 0 then
                                                (f_X10_tell s1_4 s1_5 s1_8 s1_11 s1_12 s1_13 s1_14 s1_15 s1_18 s1_19 (xs (Int32.toNatClampNeg (v3 + 1))) false).bind fun u95 =>
                                                  if u91.1 = u95.1 then
                                                    lp_L_law L xs n (v3 + 5) u91.2.1 u91.2.2.1 u91.2.2.2.1 u91.2.2.2.2.1 u91.2.2.2.2.2.1 u91.2.2.2.2.2.2.1 u91.2.2.2.2.2.2.2.1 u91.2.2.2.2.2.2.2.2.1 u91.2.2.2.2.2.2.2.2.2.1 u91.2.2.2.2.2.2.2.2.2.2.1 u91.2.2.2.2.2.2.2.2.2.2.2.1 u91.2.2.2.2.2.2.2.2.2.2.2.2.1 u91.2.2.2.2.2.2.2.2.2.2.2.2.2 s1_0 s1_1 s1_2 s1_3 s1_4 s1_5 s1_6 s1_7 s1_8 s1_9 s1_10 u95.2.1 u95.2.2.1 u95.2.2.2.1 u95.2.2.2.2.1 u95.2.2.2.2.2.1 s1_16 s1_17 u95.2.2.2.2.2.2.1 u95.2.2.2.2.2.2.2 s1_20 s1_21 s1_22 s1_23 s1_24 s1_25 s1_26 s1_27 s1_28 s1_29
                                                  else
                                                    some false
                                              else
                                                (f_X10_tell s1_4 s1_5 s1_8 s1_11 s1_12 s1_13 s1_14 s1_15 s1_18 s1_19 (xs (Int32.toNatClampNeg (v3 + 1))) true).bind fun u97 =>
                                                  if u91.1 = u97.1 then
                                                    lp_L_law L xs n (v3 + 5) u91.2.1 u91.2.2.1 u91.2.2.2.1 u91.2.2.2.2.1 u91.2.2.2.2.2.1 u91.2.2.2.2.2.2.1 u91.2.2.2.2.2.2.2.1 u91.2.2.2.2.2.2.2.2.1 u91.2.2.2.2.2.2.2.2.2.1 u91.2.2.2.2.2.2.2.2.2.2.1 u91.2.2.2.2.2.2.2.2.2.2.2.1 u91.2.2.2.2.2.2.2.2.2.2.2.2.1 u91.2.2.2.2.2.2.2.2.2.2.2.2.2 s1_0 s1_1 s1_2 s1_3 s1_4 s1_5 s1_6 s1_7 s1_8 s1_9 s1_10 u97.2.1 u97.2.2.1 u97.2.2.2.1 u97.2.2.2.2.1 u97.2.2.2.2.2.1 s1_16 s1_17 u97.2.2.2.2.2.2.1 u97.2.2.2.2.2.2.2 s1_20 s1_21 s1_22 s1_23 s1_24 s1_25 s1_26 s1_27 s1_28 s1_29
                                                  else
                                                    some false
                                      else
                                        (f_X9_tell (s0_0, s0_1, s0_2, s0_3, s0_4, s0_5, s0_6, s0_7, s0_8, s0_9, s0_10, s0_11, s0_12) (xs (Int32.toNatClampNeg (v3 + 1))) true).bind fun u99 =>
                                          if (v3 + 1) < 0 ∨ L ≤ Int32.toNatClampNeg (v3 + 1) then none
                                          else
                                            if (v3 + 2) < 0 ∨ L ≤ Int32.toNatClampNeg (v3 + 2) then none
                                            else
                                              if (xs (Int32.toNatClampNeg (v3 + 2))) = 0 then
                                                (f_X10_tell s1_4 s1_5 s1_8 s1_11 s1_12 s1_13 s1_14 s1_15 s1_18 s1_19 (xs (Int32.toNatClampNeg (v3 + 1))) false).bind fun u103 =>
                                                  if u99.1 = u103.1 then
                                                    lp_L_law L xs n (v3 + 5) u99.2.1 u99.2.2.1 u99.2.2.2.1 u99.2.2.2.2.1 u99.2.2.2.2.2.1 u99.2.2.2.2.2.2.1 u99.2.2.2.2.2.2.2.1 u99.2.2.2.2.2.2.2.2.1 u99.2.2.2.2.2.2.2.2.2.1 u99.2.2.2.2.2.2.2.2.2.2.1 u99.2.2.2.2.2.2.2.2.2.2.2.1 u99.2.2.2.2.2.2.2.2.2.2.2.2.1 u99.2.2.2.2.2.2.2.2.2.2.2.2.2 s1_0 s1_1 s1_2 s1_3 s1_4 s1_5 s1_6 s1_7 s1_8 s1_9 s1_10 u103.2.1 u103.2.2.1 u103.2.2.2.1 u103.2.2.2.2.1 u103.2.2.2.2.2.1 s1_16 s1_17 u103.2.2.2.2.2.2.1 u103.2.2.2.2.2.2.2 s1_20 s1_21 s1_22 s1_23 s1_24 s1_25 s1_26 s1_27 s1_28 s1_29
                                                  else
                                                    some false
                                              else
                                                (f_X10_tell s1_4 s1_5 s1_8 s1_11 s1_12 s1_13 s1_14 s1_15 s1_18 s1_19 (xs (Int32.toNatClampNeg (v3 + 1))) true).bind fun u105 =>
                                                  if u99.1 = u105.1 then
                                                    lp_L_law L xs n (v3 + 5) u99.2.1 u99.2.2.1 u99.2.2.2.1 u99.2.2.2.2.1 u99.2.2.2.2.2.1 u99.2.2.2.2.2.2.1 u99.2.2.2.2.2.2.2.1 u99.2.2.2.2.2.2.2.2.1 u99.2.2.2.2.2.2.2.2.2.1 u99.2.2.2.2.2.2.2.2.2.2.1 u99.2.2.2.2.2.2.2.2.2.2.2.1 u99.2.2.2.2.2.2.2.2.2.2.2.2.1 u99.2.2.2.2.2.2.2.2.2.2.2.2.2 s1_0 s1_1 s1_2 s1_3 s1_4 s1_5 s1_6 s1_7 s1_8 s1_9 s1_10 u105.2.1 u105.2.2.1 u105.2.2.2.1 u105.2.2.2.2.1 u105.2.2.2.2.2.1 s1_16 s1_17 u105.2.2.2.2.2.2.1 u105.2.2.2.2.2.2.2 s1_20 s1_21 s1_22 s1_23 s1_24 s1_25 s1_26 s1_27 s1_28 s1_29
                                                  else
                                                    some false
                                else
                                  if ((xs (Int32.toNatClampNeg v3)) &&& 31) = 13 then
                                    (f_X9_forget (s0_0, s0_1, s0_2, s0_3, s0_4, s0_5, s0_6, s0_7, s0_8, s0_9, s0_10, s0_11, s0_12)).bind fun u108 =>
                                      (f_X10_forget s1_18).bind fun u109 =>
                                        if u108.1 = u109.1 then
                                          lp_L_law L xs n (v3 + 5) u108.2.1 u108.2.2.1 u108.2.2.2.1 u108.2.2.2.2.1 u108.2.2.2.2.2.1 u108.2.2.2.2.2.2.1 u108.2.2.2.2.2.2.2.1 u108.2.2.2.2.2.2.2.2.1 u108.2.2.2.2.2.2.2.2.2.1 u108.2.2.2.2.2.2.2.2.2.2.1 u108.2.2.2.2.2.2.2.2.2.2.2.1 u108.2.2.2.2.2.2.2.2.2.2.2.2.1 u108.2.2.2.2.2.2.2.2.2.2.2.2.2 s1_0 s1_1 s1_2 s1_3 s1_4 s1_5 s1_6 s1_7 s1_8 s1_9 s1_10 s1_11 s1_12 s1_13 s1_14 s1_15 s1_16 s1_17 u109.2 s1_19 s1_20 s1_21 s1_22 s1_23 s1_24 s1_25 s1_26 s1_27 s1_28 s1_29
                                        else
                                          some false
                                  else
                                    if ((xs (Int32.toNatClampNeg v3)) &&& 31) = 14 then
                                      (f_X9_which (s0_0, s0_1, s0_2, s0_3, s0_4, s0_5, s0_6, s0_7, s0_8, s0_9, s0_10, s0_11, s0_12)).bind fun u112 =>
                                        (f_X10_which s1_18 s1_19).bind fun u113 =>
                                          if u112 = u113 then
                                            lp_L_law L xs n (v3 + 5) s0_0 s0_1 s0_2 s0_3 s0_4 s0_5 s0_6 s0_7 s0_8 s0_9 s0_10 s0_11 s0_12 s1_0 s1_1 s1_2 s1_3 s1_4 s1_5 s1_6 s1_7 s1_8 s1_9 s1_10 s1_11 s1_12 s1_13 s1_14 s1_15 s1_16 s1_17 s1_18 s1_19 s1_20 s1_21 s1_22 s1_23 s1_24 s1_25 s1_26 s1_27 s1_28 s1_29
                                          else
                                            some false
                                    else
                                      if ((xs (Int32.toNatClampNeg v3)) &&& 31) = 15 then
                                        (f_X9_ask (s0_0, s0_1, s0_2, s0_3, s0_4, s0_5, s0_6, s0_7, s0_8, s0_9, s0_10, s0_11, s0_12)).bind fun u116 =>
                                          (f_X10_ask s1_4 s1_5 s1_8 s1_11 s1_12 s1_13 s1_14 s1_15 s1_18 s1_19 s1_20).bind fun u117 =>
                                            if u116.1 = u117.1 then
                                              lp_L_law L xs n (v3 + 5) u116.2.1 u116.2.2.1 u116.2.2.2.1 u116.2.2.2.2.1 u116.2.2.2.2.2.1 u116.2.2.2.2.2.2.1 u116.2.2.2.2.2.2.2.1 u116.2.2.2.2.2.2.2.2.1 u116.2.2.2.2.2.2.2.2.2.1 u116.2.2.2.2.2.2.2.2.2.2.1 u116.2.2.2.2.2.2.2.2.2.2.2.1 u116.2.2.2.2.2.2.2.2.2.2.2.2.1 u116.2.2.2.2.2.2.2.2.2.2.2.2.2 s1_0 s1_1 s1_2 s1_3 s1_4 s1_5 s1_6 s1_7 s1_8 s1_9 s1_10 u117.2.1 u117.2.2.1 u117.2.2.2.1 u117.2.2.2.2.1 u117.2.2.2.2.2.1 s1_16 s1_17 s1_18 s1_19 u117.2.2.2.2.2.2 s1_21 s1_22 s1_23 s1_24 s1_25 s1_26 s1_27 s1_28 s1_29
                                            else
                                              some false
                                      else
                                        if ((xs (Int32.toNatClampNeg v3)) &&& 31) = 16 then
                                          if (v3 + 1) < 0 ∨ L ≤ Int32.toNatClampNeg (v3 + 1) then none
                                          else
                                            if (v3 + 2) < 0 ∨ L ≤ Int32.toNatClampNeg (v3 + 2) then none
                                            else
                                              if (v3 + 3) < 0 ∨ L ≤ Int32.toNatClampNeg (v3 + 3) then none
                                              else
                                                (f_X9_days (s0_0, s0_1, s0_2, s0_3, s0_4, s0_5, s0_6, s0_7, s0_8, s0_9, s0_10, s0_11, s0_12) (xs (Int32.toNatClampNeg (v3 + 1))) (xs (Int32.toNatClampNeg (v3 + 2))) (xs (Int32.toNatClampNeg (v3 + 3)))).bind fun u123 =>
                                                  if (v3 + 1) < 0 ∨ L ≤ Int32.toNatClampNeg (v3 + 1) then none
                                                  else
                                                    if (v3 + 2) < 0 ∨ L ≤ Int32.toNatClampNeg (v3 + 2) then none
                                                    else
                                                      if (v3 + 3) < 0 ∨ L ≤ Int32.toNatClampNeg (v3 + 3) then none
                                                      else
                                                        (f_X10_days s1_5 s1_9 s1_10 s1_11 s1_12 s1_13 s1_14 s1_15 s1_17 s1_21 (xs (Int32.toNatClampNeg (v3 + 1))) (xs (Int32.toNatClampNeg (v3 + 2))) (xs (Int32.toNatClampNeg (v3 + 3)))).bind fun u127 =>
                                                          if u123.1 = u127.1 then
                                                            lp_L_law L xs n (v3 + 5) u123.2.1 u123.2.2.1 u123.2.2.2.1 u123.2.2.2.2.1 u123.2.2.2.2.2.1 u123.2.2.2.2.2.2.1 u123.2.2.2.2.2.2.2.1 u123.2.2.2.2.2.2.2.2.1 u123.2.2.2.2.2.2.2.2.2.1 u123.2.2.2.2.2.2.2.2.2.2.1 u123.2.2.2.2.2.2.2.2.2.2.2.1 u123.2.2.2.2.2.2.2.2.2.2.2.2.1 u123.2.2.2.2.2.2.2.2.2.2.2.2.2 s1_0 s1_1 s1_2 s1_3 s1_4 s1_5 s1_6 s1_7 s1_8 s1_9 s1_10 u127.2.1 u127.2.2.1 u127.2.2.2.1 u127.2.2.2.2.1 u127.2.2.2.2.2.1 s1_16 u127.2.2.2.2.2.2.1 s1_18 s1_19 s1_20 u127.2.2.2.2.2.2.2 s1_22 s1_23 s1_24 s1_25 s1_26 s1_27 s1_28 s1_29
                                                          else
                                                            some false
                                        else
                                          if ((xs (Int32.toNatClampNeg v3)) &&& 31) = 17 then
                                            (f_X9_image (s0_0, s0_1, s0_2, s0_3, s0_4, s0_5, s0_6, s0_7, s0_8, s0_9, s0_10, s0_11, s0_12)).bind fun u130 =>
                                              (f_X10_image s1_4 s1_5 s1_6 s1_7 s1_8 s1_9 s1_18 s1_19 s1_22 s1_23 s1_24 s1_25 s1_26 s1_27 s1_28).bind fun u131 =>
                                                if u130.1 = u131.1 then
                                                  lp_L_law L xs n (v3 + 5) u130.2.1 u130.2.2.1 u130.2.2.2.1 u130.2.2.2.2.1 u130.2.2.2.2.2.1 u130.2.2.2.2.2.2.1 u130.2.2.2.2.2.2.2.1 u130.2.2.2.2.2.2.2.2.1 u130.2.2.2.2.2.2.2.2.2.1 u130.2.2.2.2.2.2.2.2.2.2.1 u130.2.2.2.2.2.2.2.2.2.2.2.1 u130.2.2.2.2.2.2.2.2.2.2.2.2.1 u130.2.2.2.2.2.2.2.2.2.2.2.2.2 s1_0 s1_1 s1_2 s1_3 s1_4 s1_5 s1_6 s1_7 s1_8 s1_9 s1_10 s1_11 s1_12 s1_13 s1_14 s1_15 s1_16 s1_17 s1_18 s1_19 s1_20 s1_21 u131.2.1 u131.2.2.1 u131.2.2.2.1 u131.2.2.2.2.1 u131.2.2.2.2.2.1 u131.2.2.2.2.2.2.1 u131.2.2.2.2.2.2.2 s1_29
                                                else
                                                  some false
                                          else
                                            if ((xs (Int32.toNatClampNeg v3)) &&& 31) = 18 then
                                              (f_X9_restore (s0_0, s0_1, s0_2, s0_3, s0_4, s0_5, s0_6, s0_7, s0_8, s0_9, s0_10, s0_11, s0_12)).bind fun u134 =>
                                                (f_X10_restore s1_4 s1_5 s1_6 s1_7 s1_8 s1_9 s1_18 s1_19 s1_22 s1_23 s1_24 s1_25 s1_26 s1_27 s1_28).bind fun u135 =>
                                                  if u134.1 = u135.1 then
                                                    lp_L_law L xs n (v3 + 5) u134.2.1 u134.2.2.1 u134.2.2.2.1 u134.2.2.2.2.1 u134.2.2.2.2.2.1 u134.2.2.2.2.2.2.1 u134.2.2.2.2.2.2.2.1 u134.2.2.2.2.2.2.2.2.1 u134.2.2.2.2.2.2.2.2.2.1 u134.2.2.2.2.2.2.2.2.2.2.1 u134.2.2.2.2.2.2.2.2.2.2.2.1 u134.2.2.2.2.2.2.2.2.2.2.2.2.1 u134.2.2.2.2.2.2.2.2.2.2.2.2.2 s1_0 s1_1 s1_2 s1_3 s1_4 u135.2.1 u135.2.2.1 s1_7 u135.2.2.2.1 u135.2.2.2.2.1 s1_10 s1_11 s1_12 s1_13 s1_14 s1_15 s1_16 s1_17 u135.2.2.2.2.2.1 u135.2.2.2.2.2.2 s1_20 s1_21 s1_22 s1_23 s1_24 s1_25 s1_26 s1_27 s1_28 s1_29
                                                  else
                                                    some false
                                            else
                                              if ((xs (Int32.toNatClampNeg v3)) &&& 31) = 19 then
                                                if (v3 + 1) < 0 ∨ L ≤ Int32.toNatClampNeg (v3 + 1) then none
                                                else
                                                  (f_X9_count (s0_0, s0_1, s0_2, s0_3, s0_4, s0_5, s0_6, s0_7, s0_8, s0_9, s0_10, s0_11, s0_12) (xs (Int32.toNatClampNeg (v3 + 1)))).bind fun u139 =>
                                                    if (v3 + 1) < 0 ∨ L ≤ Int32.toNatClampNeg (v3 + 1) then none
                                                    else
                                                      (f_X10_count s1_1 s1_4 s1_5 s1_6 s1_7 s1_8 s1_9 s1_10 s1_11 s1_12 s1_13 s1_14 s1_15 s1_16 s1_18 (xs (Int32.toNatClampNeg (v3 + 1)))).bind fun u141 =>
                                                        if u139.1 = u141.1 then
                                                          lp_L_law L xs n (v3 + 5) u139.2.1 u139.2.2.1 u139.2.2.2.1 u139.2.2.2.2.1 u139.2.2.2.2.2.1 u139.2.2.2.2.2.2.1 u139.2.2.2.2.2.2.2.1 u139.2.2.2.2.2.2.2.2.1 u139.2.2.2.2.2.2.2.2.2.1 u139.2.2.2.2.2.2.2.2.2.2.1 u139.2.2.2.2.2.2.2.2.2.2.2.1 u139.2.2.2.2.2.2.2.2.2.2.2.2.1 u139.2.2.2.2.2.2.2.2.2.2.2.2.2 s1_0 s1_1 s1_2 s1_3 s1_4 s1_5 s1_6 s1_7 s1_8 s1_9 s1_10 u141.2.1 u141.2.2.1 u141.2.2.2.1 u141.2.2.2.2.1 u141.2.2.2.2.2 s1_16 s1_17 s1_18 s1_19 s1_20 s1_21 s1_22 s1_23 s1_24 s1_25 s1_26 s1_27 s1_28 s1_29
                                                        else
                                                          some false
                                              else
                                                if ((xs (Int32.toNatClampNeg v3)) &&& 31) = 20 then
                                                  (f_X9_digest (s0_0, s0_1, s0_2, s0_3, s0_4, s0_5, s0_6, s0_7, s0_8, s0_9, s0_10, s0_11, s0_12)).bind fun u144 =>
                                                    (f_X10_digest s1_0 s1_1 s1_4 s1_5 s1_6 s1_7 s1_8 s1_9 s1_10 s1_11 s1_12 s1_13 s1_14 s1_15 s1_16 s1_17 s1_18 s1_19 s1_20).bind fun u145 =>
                                                      if (lg_cmp u144.1 u145.1) = 0 then
                                                        lp_L_law L xs n (v3 + 5) u144.2.1 u144.2.2.1 u144.2.2.2.1 u144.2.2.2.2.1 u144.2.2.2.2.2.1 u144.2.2.2.2.2.2.1 u144.2.2.2.2.2.2.2.1 u144.2.2.2.2.2.2.2.2.1 u144.2.2.2.2.2.2.2.2.2.1 u144.2.2.2.2.2.2.2.2.2.2.1 u144.2.2.2.2.2.2.2.2.2.2.2.1 u144.2.2.2.2.2.2.2.2.2.2.2.2.1 u144.2.2.2.2.2.2.2.2.2.2.2.2.2 s1_0 s1_1 s1_2 s1_3 s1_4 s1_5 s1_6 s1_7 s1_8 s1_9 s1_10 u145.2.1 u145.2.2.1 u145.2.2.2.1 u145.2.2.2.2.1 u145.2.2.2.2.2.1 s1_16 u145.2.2.2.2.2.2.1 s1_18 s1_19 u145.2.2.2.2.2.2.2.1 s1_21 s1_22 s1_23 s1_24 s1_25 s1_26 s1_27 s1_28 u145.2.2.2.2.2.2.2.2
                                                      else
                                                        some false
                                                else
                                                  lp_L_law L xs n (v3 + 5) s0_0 s0_1 s0_2 s0_3 s0_4 s0_5 s0_6 s0_7 s0_8 s0_9 s0_10 s0_11 s0_12 s1_0 s1_1 s1_2 s1_3 s1_4 s1_5 s1_6 s1_7 s1_8 s1_9 s1_10 s1_11 s1_12 s1_13 s1_14 s1_15 s1_16 s1_17 s1_18 s1_19 s1_20 s1_21 s1_22 s1_23 s1_24 s1_25 s1_26 s1_27 s1_28 s1_29

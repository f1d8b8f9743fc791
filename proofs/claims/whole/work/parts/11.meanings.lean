def F_X7_size (σ : uS) : Option (Int32) :=
  some (σ 1 2)
def J_X7_has_2 (v3 : Int32) : Option (Int32) :=
  bz v3 (some v3)
def J_X7_has_1 : Option (Int32) :=
  J_X7_has_2 0
def F_X7_has (a1 : Int32) (σ : uS) : Option (Int32) :=
  if a1 < 0 then
    (J_X7_has_1)
  else
    (if (σ 1 2) ≤ a1 then
      (J_X7_has_1)
    else
      (J_X7_has_2 1))
def F_X7_hasRoom (a1 : Int32) (σ : uS) : Option (Int32) :=
  lt (if 800 < ((σ 1 2) + a1) then 0 else 1 : Int32) fun v2 =>
  bz v2 (some v2)
def J_X7_at_2 (v4 : Int32) : Option (Int32) :=
  some v4
def J_X7_at_1 : Option (Int32) :=
  J_X7_at_2 0
def F_X7_at (a1 : Int32) (σ : uS) : Option (Int32) :=
  if a1 < 0 then
    (J_X7_at_1)
  else
    (if a1 < (σ 1 2) then
      (rd (σ 2) 800 a1 fun v3 =>
      J_X7_at_2 v3)
    else
      (J_X7_at_1))
def J_X7_put_1 (σ4 : uS) : Option (uS) :=
  some σ4
def F_X7_put (a1 : Int32) (a2 : Int32) (σ : uS) : Option (uS) :=
  cp (F_X7_has a1 σ) fun v1 =>
  if v1 = 0 then
    (J_X7_put_1 σ)
  else
    (wr σ 2 800 a1 a2 fun σ3 =>
    J_X7_put_1 σ3)
def J_X7_append_1 (σ4 : uS) : Option (uS) :=
  some σ4
def F_X7_append (a1 : Int32) (σ : uS) : Option (uS) :=
  if 800 ≤ (σ 1 2) then
    (J_X7_append_1 σ)
  else
    (wr σ 2 800 (σ 1 2) a1 fun σ2 =>
    pf σ2 1 2 ((σ2 1 2) + 1) fun σ3 =>
    J_X7_append_1 σ3)
def F_J9_max_7cf53 (a1 : Int32) (a2 : Int32) (σ : uS) : Option (Int32) :=
  lt (if a1 < a2 then a2 else a1 : Int32) fun v2 =>
  some v2
def F_X7_drop (a1 : Int32) (σ : uS) : Option (uS) :=
  cp (F_J9_max_7cf53 0 ((σ 1 2) - a1) σ) fun v1 =>
  pf σ 1 2 v1 fun σ2 =>
  some σ2
def B_X7_offItself_2 (a1 : Int32) (a2 : Int32) (a3 : Int32) (σ : uS) (w4 : Int32) (w5 : Int32) : Option ((Int32 × Int32) ⊕ (Int32)) :=
  if (a1 + a2) ≤ w5 then
    (some (.inr w4))
  else
    (rd (σ 2) 800 w5 fun v8 =>
    rd (σ 2) 800 (w5 + a3) fun v9 =>
    lt (v8 - v9 : Int32) fun v10 =>
    lt (if 0 ≤ v10 then v10 else (-v10) : Int32) fun v12 =>
    lt (w4 + v12 : Int32) fun v13 =>
    lt (w5 + 1 : Int32) fun v14 =>
    some (.inl (v13, v14)))
def C_X7_offItself_3 (v6 : Int32) : Option (Int32) :=
  some v6
def J_X7_offItself_4 : Option (Int32) :=
  some 0
def F_X7_offItself (a1 : Int32) (a2 : Int32) (a3 : Int32) (σ : uS) : Option (Int32) :=
  if a1 < 0 then
    (J_X7_offItself_4)
  else
    (if a3 < 0 then
      (J_X7_offItself_4)
    else
      (if ((a1 + a2) + a3) ≤ (σ 1 2) then
        (lp (fun z => B_X7_offItself_2 a1 a2 a3 σ z.1 z.2) (0, a1) (fun z => C_X7_offItself_3 z))
      else
        (J_X7_offItself_4)))
def F_J9_abs_0f7a4 (a1 : Int32) (σ : uS) : Option (Int32) :=
  lt (if 0 ≤ a1 then a1 else (-a1) : Int32) fun v2 =>
  some v2
def B_X7_loudness_2 (a1 : Int32) (a2 : Int32) (σ : uS) (w1 : Int32) (w2 : Int32) : Option ((Int32 × Int32) ⊕ (Int32)) :=
  if (a1 + a2) ≤ w2 then
    (some (.inr w1))
  else
    (cp (F_X7_at w2 σ) fun v5 =>
    cp (F_J9_abs_0f7a4 v5 σ) fun v6 =>
    lt (w1 + v6 : Int32) fun v7 =>
    lt (w2 + 1 : Int32) fun v8 =>
    some (.inl (v7, v8)))
def C_X7_loudness_3 (v3 : Int32) : Option (Int32) :=
  some v3
def F_X7_loudness (a1 : Int32) (a2 : Int32) (σ : uS) : Option (Int32) :=
  lp (fun z => B_X7_loudness_2 a1 a2 σ z.1 z.2) (0, a1) (fun z => C_X7_loudness_3 z)
def F_X7_tapeSize (σ : uS) : Option (Int32) :=
  some (σ 1 3)
def B_X7_tapeNumber_2 (a1 : Int32) (w1 : Int32) (σ2 : uS) : Option ((Int32 × uS) ⊕ (uS)) :=
  if w1 < 0 then
    (some (.inr σ2))
  else
    (if 400 ≤ (σ2 1 3) then
      (some (.inr σ2))
    else
      (wr σ2 3 400 (σ2 1 3) ((Int32.toInt8 (a1 >>> (w1 &&& 31))).toInt32) fun σ6 =>
      pf σ6 1 3 ((σ6 1 3) + 1) fun σ7 =>
      lt (w1 + (-8) : Int32) fun v8 =>
      some (.inl (v8, σ7))))
def C_X7_tapeNumber_3 (σ3 : uS) : Option (uS) :=
  some σ3
def F_X7_tapeNumber (a1 : Int32) (σ : uS) : Option (uS) :=
  lp (fun z => B_X7_tapeNumber_2 a1 z.1 z.2) (24, σ) (fun z => C_X7_tapeNumber_3 z)
def B_X7_appendFromTape_2 (a1 : Int32) (w1 : Int32) (σ2 : uS) : Option ((Int32 × uS) ⊕ (uS)) :=
  if a1 ≤ w1 then
    (some (.inr σ2))
  else
    (if (σ2 1 3) ≤ w1 then
      (some (.inr σ2))
    else
      (rd (σ2 3) 400 w1 fun v6 =>
      cp (F_X7_append v6 σ2) fun σ7 =>
      lt (w1 + 1 : Int32) fun v8 =>
      some (.inl (v8, σ7))))
def C_X7_appendFromTape_3 (σ3 : uS) : Option (uS) :=
  pf σ3 1 3 0 fun σ9 =>
  some σ9
def F_X7_appendFromTape (a1 : Int32) (σ : uS) : Option (uS) :=
  lp (fun z => B_X7_appendFromTape_2 a1 z.1 z.2) (0, σ) (fun z => C_X7_appendFromTape_3 z)
def J_X0_of_2 (v4 : Int32) : Option (Int32) :=
  some v4
def J_X0_of_1 : Option (Int32) :=
  J_X0_of_2 0
def F_X0_of (a1 : Int32) (σ : uS) : Option (Int32) :=
  if a1 < 2 then
    (J_X0_of_1)
  else
    (if a1 ≤ 15 then
      (rd (σ 5) 16 a1 fun v3 =>
      J_X0_of_2 v3)
    else
      (J_X0_of_1))
def J_X0_allows_2 (v11 : Int32) : Option (Int32) :=
  bz v11 (some v11)
def J_X0_allows_1 : Option (Int32) :=
  J_X0_allows_2 1
def J_X0_allows_3 : Option (Int32) :=
  some 0
def F_X0_allows (a1 : Int32) (a2 : Int32) (σ : uS) : Option (Int32) :=
  if a1 < 2 then
    (J_X0_allows_3)
  else
    (if 15 < a1 then
      (J_X0_allows_3)
    else
      (rd u_least 16 a1 fun v3 =>
      if a2 < v3 then
        (J_X0_allows_3)
      else
        (rd u_most 16 a1 fun v5 =>
        if a2 ≤ v5 then
          (if a1 = 4 then
            (rd (σ 5) 16 5 fun v12 =>
            lt (if v12 ≤ a2 then 0 else 1 : Int32) fun v14 =>
            bz v14 (some v14))
          else
            (if a1 = 5 then
              (rd (σ 5) 16 4 fun v9 =>
              if a2 ≤ v9 then
                (J_X0_allows_2 0)
              else
                (J_X0_allows_1))
            else
              (J_X0_allows_1)))
        else
          (J_X0_allows_3))))
def J_X0_put_1 (σ4 : uS) : Option (uS) :=
  some σ4
def F_X0_put (a1 : Int32) (a2 : Int32) (σ : uS) : Option (uS) :=
  cp (F_X0_allows a1 a2 σ) fun v1 =>
  if v1 = 0 then
    (J_X0_put_1 σ)
  else
    (wr σ 5 16 a1 a2 fun σ3 =>
    J_X0_put_1 σ3)
def F_X9_set_17 (a1 : Int32) (a2 : Int32) (a3 : Int32) (σ : uS) : Option (uS) :=
  pf σ 17 0 a1 fun σ1 =>
  pf σ1 17 1 a2 fun σ2 =>
  pf σ2 17 2 a3 fun σ3 =>
  some σ3
def F_X9_set_18 (a1 : Int32) (a2 : Int32) (a3 : Int32) (σ : uS) : Option (uS) :=
  pf σ 18 0 a1 fun σ1 =>
  pf σ1 18 1 a2 fun σ2 =>
  pf σ2 18 2 a3 fun σ3 =>
  some σ3
def F_X9_set_28 (a1 : Int32) (a2 : Int32) (a3 : Int32) (σ : uS) : Option (uS) :=
  pf σ 28 0 a1 fun σ1 =>
  pf σ1 28 1 a2 fun σ2 =>
  pf σ2 28 2 a3 fun σ3 =>
  some σ3
def J_X9_price_17_1 (a1 : Int32) (a2 : Int32) (σ : uS) : Option (Int32) :=
  lt (if a1 = a2 then 0 else (σ 17 2) : Int32) fun v10 =>
  some v10
def F_X9_price_17 (a1 : Int32) (a2 : Int32) (σ : uS) : Option (Int32) :=
  if a1 = 0 then
    (J_X9_price_17_1 a1 a2 σ)
  else
    (if a2 = 0 then
      (J_X9_price_17_1 a1 a2 σ)
    else
      (lt (if a1 ≤ a2 then a2 else a1 : Int32) fun v4 =>
      lt (if a1 ≤ a2 then a1 else a2 : Int32) fun v6 =>
      lt (if v4 < ((2 * v6) - 1) then 0 else (σ 17 1) : Int32) fun v8 =>
      some (((σ 17 0) * (v4 - v6)) + v8)))
def J_X9_price_18_1 (a1 : Int32) (a2 : Int32) (σ : uS) : Option (Int32) :=
  lt (if a1 = a2 then 0 else (σ 18 2) : Int32) fun v10 =>
  some v10
def F_X9_price_18 (a1 : Int32) (a2 : Int32) (σ : uS) : Option (Int32) :=
  if a1 = 0 then
    (J_X9_price_18_1 a1 a2 σ)
  else
    (if a2 = 0 then
      (J_X9_price_18_1 a1 a2 σ)
    else
      (lt (if a1 ≤ a2 then a2 else a1 : Int32) fun v4 =>
      lt (if a1 ≤ a2 then a1 else a2 : Int32) fun v6 =>
      lt (if v4 < ((2 * v6) - 1) then 0 else (σ 18 1) : Int32) fun v8 =>
      some (((σ 18 0) * (v4 - v6)) + v8)))
def J_X9_price_28_1 (a1 : Int32) (a2 : Int32) (σ : uS) : Option (Int32) :=
  lt (if a1 = a2 then 0 else (σ 28 2) : Int32) fun v10 =>
  some v10
def F_X9_price_28 (a1 : Int32) (a2 : Int32) (σ : uS) : Option (Int32) :=
  if a1 = 0 then
    (J_X9_price_28_1 a1 a2 σ)
  else
    (if a2 = 0 then
      (J_X9_price_28_1 a1 a2 σ)
    else
      (lt (if a1 ≤ a2 then a2 else a1 : Int32) fun v4 =>
      lt (if a1 ≤ a2 then a1 else a2 : Int32) fun v6 =>
      lt (if v4 < ((2 * v6) - 1) then 0 else (σ 28 1) : Int32) fun v8 =>
      some (((σ 28 0) * (v4 - v6)) + v8)))
def F_X2_reach (σ : uS) : Option (Int32) :=
  cp (F_X0_of 3 σ) fun v1 =>
  cp (F_X0_of 5 σ) fun v2 =>
  some ((v1 + v2) + 1)
def J_J9_floorDiv_7cf53_1 (v1 : Int32) : Option (Int32) :=
  some v1
def F_J9_floorDiv_7cf53 (a1 : Int32) (a2 : Int32) (σ : uS) : Option (Int32) :=
  dv a1 a2 fun v1 =>
  if 0 ≤ (a1 ^^^ a2) then
    (J_J9_floorDiv_7cf53_1 v1)
  else
    (if (v1 * a2) = a1 then
      (J_J9_floorDiv_7cf53_1 v1)
    else
      (some (v1 - 1)))
def J_X11_quotient_1 (v3 : Int32) : Option (Int32) :=
  some v3
def F_X11_quotient (a1 : Int32) (a2 : Int32) (σ : uS) : Option (Int32) :=
  if 0 < a2 then
    (cp (F_J9_floorDiv_7cf53 a1 a2 σ) fun v2 =>
    J_X11_quotient_1 v2)
  else
    (J_X11_quotient_1 0)
def F_J9_min_7cf53 (a1 : Int32) (a2 : Int32) (σ : uS) : Option (Int32) :=
  lt (if a2 < a1 then a2 else a1 : Int32) fun v2 =>
  some v2
def J_X2_size_1 (v8 : Int32) : Option (Int32) :=
  some v8
def F_X2_size (σ : uS) : Option (Int32) :=
  cp (F_X7_size σ) fun v1 =>
  cp (F_X2_reach σ) fun v2 =>
  lt (v1 - v2 : Int32) fun v3 =>
  if 0 ≤ v3 then
    (cp (F_X0_of 2 σ) fun v5 =>
    cp (F_X11_quotient v3 v5 σ) fun v6 =>
    cp (F_J9_min_7cf53 100 (v6 + 1) σ) fun v7 =>
    J_X2_size_1 v7)
  else
    (J_X2_size_1 0)
def J_X2_has_2 (v4 : Int32) : Option (Int32) :=
  bz v4 (some v4)
def J_X2_has_1 : Option (Int32) :=
  J_X2_has_2 0
def F_X2_has (a1 : Int32) (σ : uS) : Option (Int32) :=
  if a1 < 0 then
    (J_X2_has_1)
  else
    (cp (F_X2_size σ) fun v2 =>
    if v2 ≤ a1 then
      (J_X2_has_1)
    else
      (J_X2_has_2 1))
def J_X2_diffAt_1 : Option (Int32) :=
  some 0
def F_X2_diffAt (a1 : Int32) (a2 : Int32) (σ : uS) : Option (Int32) :=
  if a1 < 0 then
    (J_X2_diffAt_1)
  else
    (if 100 ≤ a1 then
      (J_X2_diffAt_1)
    else
      (if a2 < 0 then
        (J_X2_diffAt_1)
      else
        (if a2 < 50 then
          (rd (σ 7) 5000 ((a1 * 50) + a2) fun v5 =>
          some v5)
        else
          (J_X2_diffAt_1))))
def J_X2_relAt_1 : Option (Int32) :=
  some 0
def F_X2_relAt (a1 : Int32) (a2 : Int32) (σ : uS) : Option (Int32) :=
  if a1 < 0 then
    (J_X2_relAt_1)
  else
    (if 100 ≤ a1 then
      (J_X2_relAt_1)
    else
      (if a2 < 0 then
        (J_X2_relAt_1)
      else
        (if a2 < 50 then
          (rd (σ 8) 5000 ((a1 * 50) + a2) fun v5 =>
          some v5)
        else
          (J_X2_relAt_1))))
def J_X2_loudAt_2 (v4 : Int32) : Option (Int32) :=
  some v4
def J_X2_loudAt_1 : Option (Int32) :=
  J_X2_loudAt_2 0
def F_X2_loudAt (a1 : Int32) (σ : uS) : Option (Int32) :=
  if a1 < 0 then
    (J_X2_loudAt_1)
  else
    (if a1 < 100 then
      (rd (σ 9) 100 a1 fun v3 =>
      J_X2_loudAt_2 v3)
    else
      (J_X2_loudAt_1))
def J_X2_measure_2 (a1 : Int32) (v16 : Int32) (w11 : Int32) (σ17 : uS) (v20 : Int32) : Option ((Int32 × Int32 × uS) ⊕ (uS)) :=
  wr σ17 8 5000 ((a1 * 50) + w11) v20 fun σ21 =>
  lt (w11 + 1 : Int32) fun v22 =>
  some (.inl (v16, v22, σ21))
def B_X2_measure_3 (a1 : Int32) (v6 : Int32) (v7 : Int32) (v9 : Int32) (w10 : Int32) (w11 : Int32) (σ12 : uS) : Option ((Int32 × Int32 × uS) ⊕ (uS)) :=
  if v9 ≤ w11 then
    (some (.inr σ12))
  else
    (cp (F_X7_offItself v6 v7 w11 σ12) fun v15 =>
    lt (w10 + v15 : Int32) fun v16 =>
    wr σ12 7 5000 ((a1 * 50) + w11) v15 fun σ17 =>
    if v16 = 0 then
      (J_X2_measure_2 a1 v16 w11 σ17 1000)
    else
      (cp (F_X11_quotient ((1000 * w11) * v15) v16 σ17) fun v19 =>
      J_X2_measure_2 a1 v16 w11 σ17 v19))
def C_X2_measure_4 (a1 : Int32) (v6 : Int32) (v7 : Int32) (σ13 : uS) : Option (uS) :=
  cp (F_X7_loudness v6 v7 σ13) fun v23 =>
  wr σ13 9 100 a1 v23 fun σ24 =>
  wr σ24 10 100 a1 (vp_nar .boolean 1) fun σ25 =>
  some σ25
def J_X2_measure_5 (σ : uS) : Option (uS) :=
  some σ
def F_X2_measure (a1 : Int32) (σ : uS) : Option (uS) :=
  if a1 < 0 then
    (J_X2_measure_5 σ)
  else
    (if 100 ≤ a1 then
      (J_X2_measure_5 σ)
    else
      (rd (σ 10) 100 a1 fun v3 =>
      if v3 = 0 then
        (cp (F_X0_of 2 σ) fun v5 =>
        lt (a1 * v5 : Int32) fun v6 =>
        cp (F_X0_of 3 σ) fun v7 =>
        cp (F_X0_of 5 σ) fun v8 =>
        cp (F_J9_min_7cf53 50 (v8 + 2) σ) fun v9 =>
        lp (fun z => B_X2_measure_3 a1 v6 v7 v9 z.1 z.2.1 z.2.2) (0, 0, σ) (fun z => C_X2_measure_4 a1 v6 v7 z))
      else
        (J_X2_measure_5 σ)))
def B_X2_find_2 (v1 : Int32) (w2 : Int32) (σ3 : uS) : Option ((Int32 × uS) ⊕ (uS)) :=
  if v1 ≤ w2 then
    (some (.inr σ3))
  else
    (cp (F_X2_measure w2 σ3) fun σ6 =>
    lt (w2 + 1 : Int32) fun v7 =>
    some (.inl (v7, σ6)))
def C_X2_find_3 (σ4 : uS) : Option (uS) :=
  some σ4
def F_X2_find (σ : uS) : Option (uS) :=
  cp (F_X2_size σ) fun v1 =>
  lp (fun z => B_X2_find_2 v1 z.1 z.2) (0, σ) (fun z => C_X2_find_3 z)
def B_X2_forgetAll_2 (w1 : Int32) (σ2 : uS) : Option ((Int32 × uS) ⊕ (uS)) :=
  if 100 ≤ w1 then
    (some (.inr σ2))
  else
    (wr σ2 10 100 w1 (vp_nar .boolean 0) fun σ5 =>
    lt (w1 + 1 : Int32) fun v6 =>
    some (.inl (v6, σ5)))
def C_X2_forgetAll_3 (σ3 : uS) : Option (uS) :=
  some σ3
def F_X2_forgetAll (σ : uS) : Option (uS) :=
  lp (fun z => B_X2_forgetAll_2 z.1 z.2) (0, σ) (fun z => C_X2_forgetAll_3 z)
def J_X2_forgetThose_2 (w1 : Int32) (w2 : Int32) (σ10 : uS) : Option ((Int32 × Int32 × uS) ⊕ (uS)) :=
  cp (F_X0_of 2 σ10) fun v11 =>
  lt (w1 + v11 : Int32) fun v12 =>
  lt (w2 + 1 : Int32) fun v13 =>
  some (.inl (v12, v13, σ10))
def B_X2_forgetThose_3 (a1 : Int32) (a2 : Int32) (w1 : Int32) (w2 : Int32) (σ3 : uS) : Option ((Int32 × Int32 × uS) ⊕ (uS)) :=
  if 100 ≤ w2 then
    (some (.inr σ3))
  else
    (if a2 ≤ w1 then
      (J_X2_forgetThose_2 w1 w2 σ3)
    else
      (cp (F_X2_reach σ3) fun v7 =>
      if (w1 + v7) ≤ a1 then
        (J_X2_forgetThose_2 w1 w2 σ3)
      else
        (wr σ3 10 100 w2 (vp_nar .boolean 0) fun σ9 =>
        J_X2_forgetThose_2 w1 w2 σ9)))
def C_X2_forgetThose_4 (σ4 : uS) : Option (uS) :=
  some σ4
def F_X2_forgetThose (a1 : Int32) (a2 : Int32) (σ : uS) : Option (uS) :=
  lp (fun z => B_X2_forgetThose_3 a1 a2 z.1 z.2.1 z.2.2) (0, 0, σ) (fun z => C_X2_forgetThose_4 z)
def F_X1_frameCount (σ : uS) : Option (Int32) :=
  some (σ 11 6)
def J_X1_has_2 (v6 : Int32) : Option (Int32) :=
  bz v6 (some v6)
def J_X1_has_1 : Option (Int32) :=
  J_X1_has_2 0
def F_X1_has (a1 : Int32) (a2 : Int32) (σ : uS) : Option (Int32) :=
  if a1 < 0 then
    (J_X1_has_1)
  else
    (if (σ 11 6) ≤ a1 then
      (J_X1_has_1)
    else
      (if a2 < 0 then
        (J_X1_has_1)
      else
        (rd (σ 15) 100 a1 fun v4 =>
        if v4 ≤ a2 then
          (J_X1_has_1)
        else
          (J_X1_has_2 1))))
def J_X1_sizeOf_2 (v4 : Int32) : Option (Int32) :=
  some v4
def J_X1_sizeOf_1 : Option (Int32) :=
  J_X1_sizeOf_2 0
def F_X1_sizeOf (a1 : Int32) (σ : uS) : Option (Int32) :=
  if a1 < 0 then
    (J_X1_sizeOf_1)
  else
    (if a1 < (σ 11 6) then
      (rd (σ 15) 100 a1 fun v3 =>
      J_X1_sizeOf_2 v3)
    else
      (J_X1_sizeOf_1))
def F_X11_cell (a1 : Int32) (a2 : Int32) (σ : uS) : Option (Int32) :=
  some ((a1 * 6) + a2)
def J_X1_lagOf_1 (v5 : Int32) : Option (Int32) :=
  some v5
def F_X1_lagOf (a1 : Int32) (a2 : Int32) (σ : uS) : Option (Int32) :=
  cp (F_X1_has a1 a2 σ) fun v1 =>
  if v1 = 0 then
    (J_X1_lagOf_1 0)
  else
    (cp (F_X11_cell a1 a2 σ) fun v3 =>
    rd (σ 12) 600 v3 fun v4 =>
    J_X1_lagOf_1 v4)
def J_X1_ownOf_1 (v5 : Int32) : Option (Int32) :=
  some v5
def F_X1_ownOf (a1 : Int32) (a2 : Int32) (σ : uS) : Option (Int32) :=
  cp (F_X1_has a1 a2 σ) fun v1 =>
  if v1 = 0 then
    (J_X1_ownOf_1 0)
  else
    (cp (F_X11_cell a1 a2 σ) fun v3 =>
    rd (σ 13) 600 v3 fun v4 =>
    J_X1_ownOf_1 v4)
def J_X1_halfOf_1 (v5 : Int32) : Option (Int32) :=
  some v5
def F_X1_halfOf (a1 : Int32) (a2 : Int32) (σ : uS) : Option (Int32) :=
  cp (F_X1_has a1 a2 σ) fun v1 =>
  if v1 = 0 then
    (J_X1_halfOf_1 (-1))
  else
    (cp (F_X11_cell a1 a2 σ) fun v3 =>
    rd (σ 14) 600 v3 fun v4 =>
    J_X1_halfOf_1 v4)
def J_X1_cheaperThan_2 (w2 : Int32) (v10 : Int32) : Option ((Int32 × Int32) ⊕ (Int32)) :=
  lt (w2 + 1 : Int32) fun v11 =>
  some (.inl (v10, v11))
def B_X1_cheaperThan_3 (a1 : Int32) (a2 : Int32) (σ : uS) (w1 : Int32) (w2 : Int32) : Option ((Int32 × Int32) ⊕ (Int32)) :=
  cp (F_X1_sizeOf a1 σ) fun v4 =>
  if v4 ≤ w2 then
    (some (.inr w1))
  else
    (cp (F_X1_ownOf a1 w2 σ) fun v6 =>
    cp (F_X1_ownOf a1 a2 σ) fun v7 =>
    if v7 ≤ v6 then
      (J_X1_cheaperThan_2 w2 w1)
    else
      (lt (w1 + 1 : Int32) fun v9 =>
      J_X1_cheaperThan_2 w2 v9))
def C_X1_cheaperThan_4 (v3 : Int32) : Option (Int32) :=
  some v3
def F_X1_cheaperThan (a1 : Int32) (a2 : Int32) (σ : uS) : Option (Int32) :=
  lp (fun z => B_X1_cheaperThan_3 a1 a2 σ z.1 z.2) (0, 0) (fun z => C_X1_cheaperThan_4 z)
def J_X1_isDip_2 (v8 : Int32) : Option (Int32) :=
  bz v8 (some v8)
def J_X1_isDip_1 : Option (Int32) :=
  J_X1_isDip_2 0
def F_X1_isDip (a1 : Int32) (a2 : Int32) (σ : uS) : Option (Int32) :=
  cp (F_X2_relAt a1 a2 σ) fun v1 =>
  cp (F_X0_of 6 σ) fun v2 =>
  if v2 < v1 then
    (J_X1_isDip_1)
  else
    (cp (F_X2_relAt a1 (a2 - 1) σ) fun v4 =>
    if v4 ≤ v1 then
      (J_X1_isDip_1)
    else
      (cp (F_X2_relAt a1 (a2 + 1) σ) fun v6 =>
      if v6 < v1 then
        (J_X1_isDip_1)
      else
        (J_X1_isDip_2 1)))
def B_X1_dropWorst_2 (a1 : Int32) (a2 : Int32) (σ : uS) (w1 : Int32) (w2 : Int32) : Option ((Int32 × Int32) ⊕ (Int32)) :=
  if a2 ≤ w2 then
    (some (.inr w1))
  else
    (cp (F_X11_cell a1 w2 σ) fun v5 =>
    rd (σ 12) 600 v5 fun v6 =>
    cp (F_X2_relAt a1 v6 σ) fun v7 =>
    cp (F_X11_cell a1 w1 σ) fun v8 =>
    rd (σ 12) 600 v8 fun v9 =>
    cp (F_X2_relAt a1 v9 σ) fun v10 =>
    lt (if v7 < v10 then w1 else w2 : Int32) fun v12 =>
    lt (w2 + 1 : Int32) fun v13 =>
    some (.inl (v12, v13)))
def B_X1_dropWorst_4 (a1 : Int32) (a2 : Int32) (w14 : Int32) (σ15 : uS) : Option ((Int32 × uS) ⊕ (uS)) :=
  if a2 ≤ (w14 + 1) then
    (some (.inr σ15))
  else
    (cp (F_X11_cell a1 w14 σ15) fun v18 =>
    cp (F_X11_cell a1 (w14 + 1) σ15) fun v19 =>
    rd (σ15 12) 600 v19 fun v20 =>
    wr σ15 12 600 v18 v20 fun σ21 =>
    lt (w14 + 1 : Int32) fun v22 =>
    some (.inl (v22, σ21)))
def C_X1_dropWorst_5 (σ16 : uS) : Option (uS) :=
  some σ16
def C_X1_dropWorst_6 (a1 : Int32) (a2 : Int32) (σ : uS) (v3 : Int32) : Option (uS) :=
  lp (fun z => B_X1_dropWorst_4 a1 a2 z.1 z.2) (v3, σ) (fun z => C_X1_dropWorst_5 z)
def F_X1_dropWorst (a1 : Int32) (a2 : Int32) (σ : uS) : Option (uS) :=
  lp (fun z => B_X1_dropWorst_2 a1 a2 σ z.1 z.2) (0, 1) (fun z => C_X1_dropWorst_6 a1 a2 σ z)
def J_X1_keepDips_2 (w6 : Int32) (v19 : Int32) (σ20 : uS) : Option ((Int32 × Int32 × uS) ⊕ (Int32 × uS)) :=
  lt (w6 + 1 : Int32) fun v21 =>
  some (.inl (v19, v21, σ20))
def B_X1_keepDips_3 (a1 : Int32) (v2 : Int32) (v3 : Int32) (w5 : Int32) (w6 : Int32) (σ7 : uS) : Option ((Int32 × Int32 × uS) ⊕ (Int32 × uS)) :=
  if v3 < w6 then
    (some (.inr (w5, σ7)))
  else
    (cp (F_X1_isDip a1 w6 σ7) fun v11 =>
    if v11 = 0 then
      (J_X1_keepDips_2 w6 w5 σ7)
    else
      (cp (F_X11_cell a1 w5 σ7) fun v13 =>
      wr σ7 12 600 v13 w6 fun σ14 =>
      lt (w5 + 1 : Int32) fun v15 =>
      if v15 ≤ v2 then
        (J_X1_keepDips_2 w6 v15 σ14)
      else
        (cp (F_X1_dropWorst a1 v15 σ14) fun σ17 =>
        lt (v15 + (-1) : Int32) fun v18 =>
        J_X1_keepDips_2 w6 v18 σ17)))
def C_X1_keepDips_4 (v8 : Int32) (σ9 : uS) : Option (Int32 × uS) :=
  some (v8, σ9)
def F_X1_keepDips (a1 : Int32) (σ : uS) : Option (Int32 × uS) :=
  cp (F_X0_of 7 σ) fun v1 =>
  cp (F_J9_min_7cf53 5 v1 σ) fun v2 =>
  cp (F_X0_of 5 σ) fun v3 =>
  cp (F_X0_of 4 σ) fun v4 =>
  lp (fun z => B_X1_keepDips_3 a1 v2 v3 z.1 z.2.1 z.2.2) (0, v4, σ) (fun z => C_X1_keepDips_4 z.1 z.2)
def J_X1_ownCost_1 (v5 : Int32) : Option (Int32) :=
  some v5
def F_X1_ownCost (a1 : Int32) (a2 : Int32) (σ : uS) : Option (Int32) :=
  if a2 = 0 then
    (cp (F_X0_of 9 σ) fun v4 =>
    J_X1_ownCost_1 v4)
  else
    (cp (F_X2_relAt a1 a2 σ) fun v2 =>
    cp (F_X0_of 8 σ) fun v3 =>
    J_X1_ownCost_1 (v2 + (v3 * a2)))
def J_X1_findHalf_2 (w2 : Int32) : Option ((Int32) ⊕ ((Unit) ⊕ (Int32))) :=
  lt (w2 + 1 : Int32) fun v11 =>
  some (.inl v11)
def B_X1_findHalf_3 (a1 : Int32) (a2 : Int32) (v1 : Int32) (σ : uS) (w2 : Int32) : Option ((Int32) ⊕ ((Unit) ⊕ (Int32))) :=
  cp (F_X1_sizeOf a1 σ) fun v3 =>
  if v3 ≤ w2 then
    (some (.inr (.inl ())))
  else
    (cp (F_X1_lagOf a1 w2 σ) fun v5 =>
    if w2 = a2 then
      (J_X1_findHalf_2 w2)
    else
      (if v5 = 0 then
        (J_X1_findHalf_2 w2)
      else
        (if v1 = 0 then
          (J_X1_findHalf_2 w2)
        else
          (cp (F_J9_abs_0f7a4 (v1 - (2 * v5)) σ) fun v9 =>
          if 1 < v9 then
            (J_X1_findHalf_2 w2)
          else
            (some (.inr (.inr w2)))))))
def C_X1_findHalf_4 : Option (Int32) :=
  some (-1)
def F_X1_findHalf (a1 : Int32) (a2 : Int32) (σ : uS) : Option (Int32) :=
  cp (F_X1_lagOf a1 a2 σ) fun v1 =>
  lp (fun z => B_X1_findHalf_3 a1 a2 v1 σ z) 0 (fun z => ex2 (fun x => C_X1_findHalf_4) (fun q => some q) z)
def B_X1_find_3 (v12 : Int32) (w3 : Int32) (w17 : Int32) (σ18 : uS) : Option ((Int32 × uS) ⊕ (uS)) :=
  if v12 < w17 then
    (some (.inr σ18))
  else
    (cp (F_X11_cell w3 w17 σ18) fun v21 =>
    cp (F_X1_lagOf w3 w17 σ18) fun v22 =>
    cp (F_X1_ownCost w3 v22 σ18) fun v23 =>
    wr σ18 13 600 v21 v23 fun σ24 =>
    cp (F_X11_cell w3 w17 σ24) fun v25 =>
    cp (F_X1_findHalf w3 w17 σ24) fun v26 =>
    wr σ24 14 600 v25 v26 fun σ27 =>
    lt (w17 + 1 : Int32) fun v28 =>
    some (.inl (v28, σ27)))
def C_X1_find_4 (w3 : Int32) (σ19 : uS) : Option ((Int32 × uS) ⊕ (uS)) :=
  lt (w3 + 1 : Int32) fun v29 =>
  some (.inl (v29, σ19))
def J_X1_find_5 (w3 : Int32) (v12 : Int32) (σ13 : uS) : Option ((Int32 × uS) ⊕ (uS)) :=
  cp (F_X11_cell w3 v12 σ13) fun v14 =>
  wr σ13 12 600 v14 0 fun σ15 =>
  wr σ15 15 100 w3 (v12 + 1) fun σ16 =>
  lp (fun z => B_X1_find_3 v12 w3 z.1 z.2) (0, σ16) (fun z => C_X1_find_4 w3 z)
def B_X1_find_6 (w3 : Int32) (σ4 : uS) : Option ((Int32 × uS) ⊕ (uS)) :=
  if (σ4 11 6) ≤ w3 then
    (some (.inr σ4))
  else
    (cp (F_X2_loudAt w3 σ4) fun v7 =>
    cp (F_X0_of 14 σ4) fun v8 =>
    if v8 ≤ v7 then
      (cl (F_X1_keepDips w3 σ4) fun v11 σ10 =>
      J_X1_find_5 w3 v11 σ10)
    else
      (J_X1_find_5 w3 0 σ4))
def C_X1_find_7 (σ5 : uS) : Option (uS) :=
  some σ5
def F_X1_find (σ : uS) : Option (uS) :=
  cp (F_X2_size σ) fun v1 =>
  pf σ 11 6 v1 fun σ2 =>
  lp (fun z => B_X1_find_6 z.1 z.2) (0, σ2) (fun z => C_X1_find_7 z)
def F_X9_setBy_17_4 (σ : uS) : Option (uS) :=
  cp (F_X0_of 10 σ) fun v1 =>
  cp (F_X0_of 11 σ) fun v2 =>
  cp (F_X0_of 12 σ) fun v3 =>
  cp (F_X9_set_17 v1 v2 v3 σ) fun σ4 =>
  some σ4
def J_X5_findHeads_4 (w9 : Int32) (v28 : Int32) (v29 : Int32) : Option ((Int32 × Int32 × Int32) ⊕ (Int32 × Int32)) :=
  lt (w9 + 1 : Int32) fun v30 =>
  some (.inl (v28, v29, v30))
def J_X5_findHeads_3 (v19 : Int32) (w9 : Int32) : Option ((Int32 × Int32 × Int32) ⊕ (Int32 × Int32)) :=
  J_X5_findHeads_4 w9 v19 w9
def B_X5_findHeads_5 (a1 : Int32) (v6 : Int32) (σ2 : uS) (w7 : Int32) (w8 : Int32) (w9 : Int32) : Option ((Int32 × Int32 × Int32) ⊕ (Int32 × Int32)) :=
  if a1 ≤ 0 then
    (some (.inr (w7, w8)))
  else
    (cp (F_X1_sizeOf (a1 - 1) σ2) fun v13 =>
    if v13 ≤ w9 then
      (some (.inr (w7, w8)))
    else
      (cp (F_X11_cell (a1 - 1) w9 σ2) fun v15 =>
      rd (σ2 19) 600 v15 fun v16 =>
      cp (F_X1_lagOf (a1 - 1) w9 σ2) fun v17 =>
      cp (F_X9_price_17 v17 v6 σ2) fun v18 =>
      lt (v16 + v18 : Int32) fun v19 =>
      if w9 = 0 then
        (J_X5_findHeads_3 v19 w9)
      else
        (if v19 < w7 then
          (J_X5_findHeads_3 v19 w9)
        else
          (if v19 = w7 then
            (cp (F_X11_cell (a1 - 1) w9 σ2) fun v23 =>
            rd (σ2 20) 600 v23 fun v24 =>
            cp (F_X11_cell (a1 - 1) w8 σ2) fun v25 =>
            rd (σ2 20) 600 v25 fun v26 =>
            if v26 ≤ v24 then
              (J_X5_findHeads_4 w9 w7 w8)
            else
              (J_X5_findHeads_3 v19 w9))
          else
            (J_X5_findHeads_4 w9 w7 w8)))))
def C_X5_findHeads_6 (a1 : Int32) (w1 : Int32) (σ2 : uS) (v10 : Int32) (v11 : Int32) : Option ((Int32 × uS) ⊕ (uS)) :=
  cp (F_X11_cell a1 w1 σ2) fun v31 =>
  cp (F_X1_ownOf a1 w1 σ2) fun v32 =>
  wr σ2 19 600 v31 (v10 + v32) fun σ33 =>
  cp (F_X11_cell a1 w1 σ33) fun v34 =>
  wr σ33 21 600 v34 v11 fun σ35 =>
  lt (w1 + 1 : Int32) fun v36 =>
  some (.inl (v36, σ35))
def B_X5_findHeads_7 (a1 : Int32) (w1 : Int32) (σ2 : uS) : Option ((Int32 × uS) ⊕ (uS)) :=
  cp (F_X1_sizeOf a1 σ2) fun v4 =>
  if v4 ≤ w1 then
    (some (.inr σ2))
  else
    (cp (F_X1_lagOf a1 w1 σ2) fun v6 =>
    lp (fun z => B_X5_findHeads_5 a1 v6 σ2 z.1 z.2.1 z.2.2) (0, 0, 0) (fun z => C_X5_findHeads_6 a1 w1 σ2 z.1 z.2))
def C_X5_findHeads_8 (σ3 : uS) : Option (uS) :=
  some σ3
def F_X5_findHeads (a1 : Int32) (σ : uS) : Option (uS) :=
  lp (fun z => B_X5_findHeads_7 a1 z.1 z.2) (0, σ) (fun z => C_X5_findHeads_8 z)
def J_X5_isAhead_1 (a2 : Int32) (a3 : Int32) : Option (Int32) :=
  lt (if a3 ≤ a2 then 0 else 1 : Int32) fun v17 =>
  bz v17 (some v17)
def F_X5_isAhead (a1 : Int32) (a2 : Int32) (a3 : Int32) (σ : uS) : Option (Int32) :=
  cp (F_X11_cell a1 a2 σ) fun v1 =>
  rd (σ 21) 600 v1 fun v2 =>
  cp (F_X11_cell a1 a3 σ) fun v3 =>
  rd (σ 21) 600 v3 fun v4 =>
  if v2 = v4 then
    (J_X5_isAhead_1 a2 a3)
  else
    (cp (F_X1_has (a1 - 1) v2 σ) fun v6 =>
    if v6 = 0 then
      (J_X5_isAhead_1 a2 a3)
    else
      (cp (F_X1_has (a1 - 1) v4 σ) fun v8 =>
      if v8 = 0 then
        (J_X5_isAhead_1 a2 a3)
      else
        (cp (F_X11_cell (a1 - 1) v2 σ) fun v10 =>
        rd (σ 20) 600 v10 fun v11 =>
        cp (F_X11_cell (a1 - 1) v4 σ) fun v12 =>
        rd (σ 20) 600 v12 fun v13 =>
        lt (if v13 ≤ v11 then 0 else 1 : Int32) fun v15 =>
        bz v15 (some v15))))
def J_X5_findRanks_3 (w7 : Int32) (v14 : Int32) : Option ((Int32 × Int32) ⊕ (Int32)) :=
  lt (w7 + 1 : Int32) fun v15 =>
  some (.inl (v14, v15))
def B_X5_findRanks_4 (a1 : Int32) (w1 : Int32) (σ2 : uS) (w6 : Int32) (w7 : Int32) : Option ((Int32 × Int32) ⊕ (Int32)) :=
  cp (F_X1_sizeOf a1 σ2) fun v9 =>
  if v9 ≤ w7 then
    (some (.inr w6))
  else
    (cp (F_X5_isAhead a1 w7 w1 σ2) fun v11 =>
    if v11 = 0 then
      (J_X5_findRanks_3 w7 w6)
    else
      (lt (w6 + 1 : Int32) fun v13 =>
      J_X5_findRanks_3 w7 v13))
def C_X5_findRanks_5 (a1 : Int32) (w1 : Int32) (σ2 : uS) (v8 : Int32) : Option ((Int32 × uS) ⊕ (uS)) :=
  cp (F_X11_cell a1 w1 σ2) fun v16 =>
  wr σ2 20 600 v16 v8 fun σ17 =>
  lt (w1 + 1 : Int32) fun v18 =>
  some (.inl (v18, σ17))
def B_X5_findRanks_6 (a1 : Int32) (w1 : Int32) (σ2 : uS) : Option ((Int32 × uS) ⊕ (uS)) :=
  cp (F_X1_sizeOf a1 σ2) fun v4 =>
  if v4 ≤ w1 then
    (some (.inr σ2))
  else
    (lp (fun z => B_X5_findRanks_4 a1 w1 σ2 z.1 z.2) (0, 0) (fun z => C_X5_findRanks_5 a1 w1 σ2 z))
def C_X5_findRanks_7 (σ3 : uS) : Option (uS) :=
  some σ3
def F_X5_findRanks (a1 : Int32) (σ : uS) : Option (uS) :=
  lp (fun z => B_X5_findRanks_6 a1 z.1 z.2) (0, σ) (fun z => C_X5_findRanks_7 z)
def B_X5_findTails_3 (a1 : Int32) (v6 : Int32) (σ2 : uS) (w9 : Int32) (w10 : Int32) : Option ((Int32 × Int32) ⊕ (Int32)) :=
  if (σ2 16 12) ≤ (a1 + 1) then
    (some (.inr w9))
  else
    (cp (F_X1_sizeOf (a1 + 1) σ2) fun v13 =>
    if v13 ≤ w10 then
      (some (.inr w9))
    else
      (cp (F_X11_cell (a1 + 1) w10 σ2) fun v15 =>
      rd (σ2 22) 600 v15 fun v16 =>
      cp (F_X1_lagOf (a1 + 1) w10 σ2) fun v17 =>
      cp (F_X9_price_17 v6 v17 σ2) fun v18 =>
      lt (v16 + v18 : Int32) fun v19 =>
      cp (F_J9_min_7cf53 w9 v19 σ2) fun v20 =>
      lt (w10 + 1 : Int32) fun v21 =>
      some (.inl (v20, v21))))
def C_X5_findTails_4 (a1 : Int32) (w1 : Int32) (σ2 : uS) (v11 : Int32) : Option ((Int32 × uS) ⊕ (uS)) :=
  cp (F_X11_cell a1 w1 σ2) fun v22 =>
  cp (F_X1_ownOf a1 w1 σ2) fun v23 =>
  wr σ2 22 600 v22 (v11 + v23) fun σ24 =>
  lt (w1 + 1 : Int32) fun v25 =>
  some (.inl (v25, σ24))
def B_X5_findTails_5 (a1 : Int32) (w1 : Int32) (σ2 : uS) : Option ((Int32 × uS) ⊕ (uS)) :=
  cp (F_X1_sizeOf a1 σ2) fun v4 =>
  if v4 ≤ w1 then
    (some (.inr σ2))
  else
    (cp (F_X1_lagOf a1 w1 σ2) fun v6 =>
    lt (if (σ2 16 12) ≤ (a1 + 1) then 0 else 536870912 : Int32) fun v8 =>
    lp (fun z => B_X5_findTails_3 a1 v6 σ2 z.1 z.2) (v8, 0) (fun z => C_X5_findTails_4 a1 w1 σ2 z))
def C_X5_findTails_6 (σ3 : uS) : Option (uS) :=
  some σ3
def F_X5_findTails (a1 : Int32) (σ : uS) : Option (uS) :=
  lp (fun z => B_X5_findTails_5 a1 z.1 z.2) (0, σ) (fun z => C_X5_findTails_6 z)
def J_X5_firstAtEnd_3 (w2 : Int32) (v18 : Int32) : Option ((Int32 × Int32) ⊕ (Int32)) :=
  lt (w2 + 1 : Int32) fun v19 =>
  some (.inl (v18, v19))
def J_X5_firstAtEnd_2 (w2 : Int32) : Option ((Int32 × Int32) ⊕ (Int32)) :=
  J_X5_firstAtEnd_3 w2 w2
def B_X5_firstAtEnd_4 (a1 : Int32) (σ : uS) (w1 : Int32) (w2 : Int32) : Option ((Int32 × Int32) ⊕ (Int32)) :=
  cp (F_X1_sizeOf a1 σ) fun v4 =>
  if v4 ≤ w2 then
    (some (.inr w1))
  else
    (cp (F_X11_cell a1 w2 σ) fun v6 =>
    rd (σ 19) 600 v6 fun v7 =>
    cp (F_X11_cell a1 w1 σ) fun v8 =>
    rd (σ 19) 600 v8 fun v9 =>
    lt (v7 - v9 : Int32) fun v10 =>
    if v10 < 0 then
      (J_X5_firstAtEnd_2 w2)
    else
      (if v10 = 0 then
        (cp (F_X11_cell a1 w2 σ) fun v13 =>
        rd (σ 20) 600 v13 fun v14 =>
        cp (F_X11_cell a1 w1 σ) fun v15 =>
        rd (σ 20) 600 v15 fun v16 =>
        if v16 ≤ v14 then
          (J_X5_firstAtEnd_3 w2 w1)
        else
          (J_X5_firstAtEnd_2 w2))
      else
        (J_X5_firstAtEnd_3 w2 w1)))
def C_X5_firstAtEnd_5 (v3 : Int32) : Option (Int32) :=
  some v3
def F_X5_firstAtEnd (a1 : Int32) (σ : uS) : Option (Int32) :=
  lp (fun z => B_X5_firstAtEnd_4 a1 σ z.1 z.2) (0, 1) (fun z => C_X5_firstAtEnd_5 z)
def J_X5_aheadOf_1 (a1 : Int32) (σ : uS) (v5 : Int32) : Option (Int32) :=
  cp (F_X1_has (a1 - 1) v5 σ) fun v6 =>
  lt (if v6 = 0 then 0 else v5 : Int32) fun v8 =>
  some v8
def F_X5_aheadOf (a1 : Int32) (a2 : Int32) (σ : uS) : Option (Int32) :=
  cp (F_X1_has a1 a2 σ) fun v1 =>
  if v1 = 0 then
    (J_X5_aheadOf_1 a1 σ 0)
  else
    (cp (F_X11_cell a1 a2 σ) fun v3 =>
    rd (σ 21) 600 v3 fun v4 =>
    J_X5_aheadOf_1 a1 σ v4)
def B_X5_find_2 (w4 : Int32) (σ5 : uS) : Option ((Int32 × uS) ⊕ (uS)) :=
  if (σ5 16 12) ≤ w4 then
    (some (.inr σ5))
  else
    (cp (F_X5_findHeads w4 σ5) fun σ8 =>
    cp (F_X5_findRanks w4 σ8) fun σ9 =>
    lt (w4 + 1 : Int32) fun v10 =>
    some (.inl (v10, σ9)))
def B_X5_find_4 (w12 : Int32) (σ13 : uS) : Option ((Int32 × uS) ⊕ (uS)) :=
  if w12 < 0 then
    (some (.inr σ13))
  else
    (cp (F_X5_findTails w12 σ13) fun σ16 =>
    lt (w12 + (-1) : Int32) fun v17 =>
    some (.inl (v17, σ16)))
def B_X5_find_6 (w22 : Int32) (w23 : Int32) (σ24 : uS) : Option ((Int32 × Int32 × uS) ⊕ (uS)) :=
  if w23 < 0 then
    (some (.inr σ24))
  else
    (wr σ24 23 100 w23 w22 fun σ27 =>
    cp (F_X1_lagOf w23 w22 σ27) fun v28 =>
    wr σ27 24 100 w23 v28 fun σ29 =>
    cp (F_X5_aheadOf w23 w22 σ29) fun v30 =>
    lt (w23 + (-1) : Int32) fun v31 =>
    some (.inl (v30, v31, σ29)))
def C_X5_find_7 (σ25 : uS) : Option (uS) :=
  some σ25
def J_X5_find_8 (σ14 : uS) (v20 : Int32) : Option (uS) :=
  lt ((σ14 16 12) - 1 : Int32) fun v21 =>
  lp (fun z => B_X5_find_6 z.1 z.2.1 z.2.2) (v20, v21, σ14) (fun z => C_X5_find_7 z)
def C_X5_find_9 (σ14 : uS) : Option (uS) :=
  if (σ14 16 12) = 0 then
    (J_X5_find_8 σ14 0)
  else
    (cp (F_X5_firstAtEnd ((σ14 16 12) - 1) σ14) fun v19 =>
    J_X5_find_8 σ14 v19)
def C_X5_find_10 (σ6 : uS) : Option (uS) :=
  lt ((σ6 16 12) - 1 : Int32) fun v11 =>
  lp (fun z => B_X5_find_4 z.1 z.2) (v11, σ6) (fun z => C_X5_find_9 z)
def F_X5_find (σ : uS) : Option (uS) :=
  cp (F_X1_frameCount σ) fun v1 =>
  pf σ 16 12 v1 fun σ2 =>
  cp (F_X9_setBy_17_4 σ2) fun σ3 =>
  lp (fun z => B_X5_find_2 z.1 z.2) (0, σ3) (fun z => C_X5_find_10 z)
def F_X5_size (σ : uS) : Option (Int32) :=
  some (σ 16 12)
def J_X5_chosenIn_2 (v4 : Int32) : Option (Int32) :=
  some v4
def J_X5_chosenIn_1 : Option (Int32) :=
  J_X5_chosenIn_2 0
def F_X5_chosenIn (a1 : Int32) (σ : uS) : Option (Int32) :=
  if a1 < 0 then
    (J_X5_chosenIn_1)
  else
    (if a1 < (σ 16 12) then
      (rd (σ 23) 100 a1 fun v3 =>
      J_X5_chosenIn_2 v3)
    else
      (J_X5_chosenIn_1))
def J_X5_lagIn_2 (v4 : Int32) : Option (Int32) :=
  some v4
def J_X5_lagIn_1 : Option (Int32) :=
  J_X5_lagIn_2 0
def F_X5_lagIn (a1 : Int32) (σ : uS) : Option (Int32) :=
  if a1 < 0 then
    (J_X5_lagIn_1)
  else
    (if a1 < (σ 16 12) then
      (rd (σ 24) 100 a1 fun v3 =>
      J_X5_lagIn_2 v3)
    else
      (J_X5_lagIn_1))
def B_X5_ownSum_2 (σ : uS) (w1 : Int32) (w2 : Int32) : Option ((Int32 × Int32) ⊕ (Int32)) :=
  if (σ 16 12) ≤ w2 then
    (some (.inr w1))
  else
    (rd (σ 23) 100 w2 fun v5 =>
    cp (F_X1_ownOf w2 v5 σ) fun v6 =>
    lt (w1 + v6 : Int32) fun v7 =>
    lt (w2 + 1 : Int32) fun v8 =>
    some (.inl (v7, v8)))
def C_X5_ownSum_3 (v3 : Int32) : Option (Int32) :=
  some v3
def F_X5_ownSum (σ : uS) : Option (Int32) :=
  lp (fun z => B_X5_ownSum_2 σ z.1 z.2) (0, 0) (fun z => C_X5_ownSum_3 z)
def B_X5_stepSum_2 (σ1 : uS) (w2 : Int32) (w3 : Int32) : Option ((Int32 × Int32) ⊕ (Int32)) :=
  if (σ1 16 12) ≤ w3 then
    (some (.inr w2))
  else
    (rd (σ1 24) 100 (w3 - 1) fun v6 =>
    rd (σ1 24) 100 w3 fun v7 =>
    cp (F_X9_price_18 v6 v7 σ1) fun v8 =>
    lt (w2 + v8 : Int32) fun v9 =>
    lt (w3 + 1 : Int32) fun v10 =>
    some (.inl (v9, v10)))
def C_X5_stepSum_3 (σ1 : uS) (v4 : Int32) : Option (Int32 × uS) :=
  some (v4, σ1)
def F_X5_stepSum (a1 : Int32) (a2 : Int32) (a3 : Int32) (σ : uS) : Option (Int32 × uS) :=
  cp (F_X9_set_18 a1 a2 a3 σ) fun σ1 =>
  lp (fun z => B_X5_stepSum_2 σ1 z.1 z.2) (0, 1) (fun z => C_X5_stepSum_3 σ1 z)
def F_X5_priceOf (a1 : Int32) (σ : uS) : Option (Int32 × uS) :=
  if a1 = 1 then
    (cp (F_X5_ownSum σ) fun v2 =>
    some (v2, σ))
  else
    (if a1 = 2 then
      (cp (F_X0_of 10 σ) fun v4 =>
      cl (F_X5_stepSum v4 0 0 σ) fun v6 σ5 =>
      some (v6, σ5))
    else
      (if a1 = 3 then
        (cp (F_X0_of 11 σ) fun v8 =>
        cl (F_X5_stepSum 0 v8 0 σ) fun v10 σ9 =>
        some (v10, σ9))
      else
        (if a1 = 4 then
          (cp (F_X0_of 12 σ) fun v12 =>
          cl (F_X5_stepSum 0 0 v12 σ) fun v14 σ13 =>
          some (v14, σ13))
        else
          (cp (F_X5_ownSum σ) fun v15 =>
          cp (F_X0_of 10 σ) fun v16 =>
          cp (F_X0_of 11 σ) fun v17 =>
          cp (F_X0_of 12 σ) fun v18 =>
          cl (F_X5_stepSum v16 v17 v18 σ) fun v20 σ19 =>
          some (v15 + v20, σ19)))))
def J_X5_doublesChosen_2 (w2 : Int32) (v9 : Int32) : Option ((Int32 × Int32) ⊕ (Int32)) :=
  lt (w2 + 1 : Int32) fun v10 =>
  some (.inl (v9, v10))
def B_X5_doublesChosen_3 (σ : uS) (w1 : Int32) (w2 : Int32) : Option ((Int32 × Int32) ⊕ (Int32)) :=
  if (σ 16 12) ≤ w2 then
    (some (.inr w1))
  else
    (rd (σ 23) 100 w2 fun v5 =>
    cp (F_X1_halfOf w2 v5 σ) fun v6 =>
    if v6 = (-1) then
      (J_X5_doublesChosen_2 w2 w1)
    else
      (lt (w1 + 1 : Int32) fun v8 =>
      J_X5_doublesChosen_2 w2 v8))
def C_X5_doublesChosen_4 (v3 : Int32) : Option (Int32) :=
  some v3
def F_X5_doublesChosen (σ : uS) : Option (Int32) :=
  lp (fun z => B_X5_doublesChosen_3 σ z.1 z.2) (0, 0) (fun z => C_X5_doublesChosen_4 z)
def F_X5_leastThrough (a1 : Int32) (a2 : Int32) (σ : uS) : Option (Int32) :=
  cp (F_X1_has a1 a2 σ) fun v1 =>
  if v1 = 0 then
    (some 0)
  else
    (cp (F_X11_cell a1 a2 σ) fun v3 =>
    rd (σ 19) 600 v3 fun v4 =>
    cp (F_X11_cell a1 a2 σ) fun v5 =>
    rd (σ 22) 600 v5 fun v6 =>
    cp (F_X1_ownOf a1 a2 σ) fun v7 =>
    some ((v4 + v6) - v7))
def B_X5_advance_17_3 (a1 : Int32) (v6 : Int32) (σ2 : uS) (w7 : Int32) (w8 : Int32) : Option ((Int32 × Int32) ⊕ (Int32)) :=
  cp (F_X1_sizeOf (a1 - 1) σ2) fun v10 =>
  if v10 ≤ w8 then
    (some (.inr w7))
  else
    (rd (σ2 25) 6 w8 fun v12 =>
    cp (F_X1_lagOf (a1 - 1) w8 σ2) fun v13 =>
    cp (F_X9_price_17 v13 v6 σ2) fun v14 =>
    cp (F_J9_min_7cf53 w7 (v12 + v14) σ2) fun v15 =>
    lt (w8 + 1 : Int32) fun v16 =>
    some (.inl (v15, v16)))
def C_X5_advance_17_4 (a1 : Int32) (w1 : Int32) (σ2 : uS) (v9 : Int32) : Option ((Int32 × uS) ⊕ (uS)) :=
  cp (F_X1_ownOf a1 w1 σ2) fun v17 =>
  wr σ2 26 6 w1 (v9 + v17) fun σ18 =>
  lt (w1 + 1 : Int32) fun v19 =>
  some (.inl (v19, σ18))
def B_X5_advance_17_5 (a1 : Int32) (w1 : Int32) (σ2 : uS) : Option ((Int32 × uS) ⊕ (uS)) :=
  cp (F_X1_sizeOf a1 σ2) fun v4 =>
  if v4 ≤ w1 then
    (some (.inr σ2))
  else
    (cp (F_X1_lagOf a1 w1 σ2) fun v6 =>
    lp (fun z => B_X5_advance_17_3 a1 v6 σ2 z.1 z.2) (536870912, 0) (fun z => C_X5_advance_17_4 a1 w1 σ2 z))
def B_X5_advance_17_7 (a1 : Int32) (w20 : Int32) (σ21 : uS) : Option ((Int32 × uS) ⊕ (uS)) :=
  cp (F_X1_sizeOf a1 σ21) fun v23 =>
  if v23 ≤ w20 then
    (some (.inr σ21))
  else
    (rd (σ21 26) 6 w20 fun v25 =>
    wr σ21 25 6 w20 v25 fun σ26 =>
    lt (w20 + 1 : Int32) fun v27 =>
    some (.inl (v27, σ26)))
def C_X5_advance_17_8 (σ22 : uS) : Option (uS) :=
  some σ22
def C_X5_advance_17_9 (a1 : Int32) (σ3 : uS) : Option (uS) :=
  lp (fun z => B_X5_advance_17_7 a1 z.1 z.2) (0, σ3) (fun z => C_X5_advance_17_8 z)
def F_X5_advance_17 (a1 : Int32) (σ : uS) : Option (uS) :=
  lp (fun z => B_X5_advance_17_5 a1 z.1 z.2) (0, σ) (fun z => C_X5_advance_17_9 a1 z)
def J_X5_leastThroughTwo_2 (w5 : Int32) (σ6 : uS) (v13 : Int32) : Option ((Int32 × uS) ⊕ (uS)) :=
  wr σ6 25 6 w5 v13 fun σ14 =>
  lt (w5 + 1 : Int32) fun v15 =>
  some (.inl (v15, σ14))
def B_X5_leastThroughTwo_3 (a1 : Int32) (a2 : Int32) (w5 : Int32) (σ6 : uS) : Option ((Int32 × uS) ⊕ (uS)) :=
  cp (F_X1_sizeOf a1 σ6) fun v8 =>
  if v8 ≤ w5 then
    (some (.inr σ6))
  else
    (if w5 = a2 then
      (cp (F_X11_cell a1 a2 σ6) fun v11 =>
      rd (σ6 19) 600 v11 fun v12 =>
      J_X5_leastThroughTwo_2 w5 σ6 v12)
    else
      (J_X5_leastThroughTwo_2 w5 σ6 536870912))
def B_X5_leastThroughTwo_5 (a3 : Int32) (w17 : Int32) (σ18 : uS) : Option ((Int32 × uS) ⊕ (uS)) :=
  if a3 < w17 then
    (some (.inr σ18))
  else
    (cp (F_X5_advance_17 w17 σ18) fun σ21 =>
    lt (w17 + 1 : Int32) fun v22 =>
    some (.inl (v22, σ21)))
def C_X5_leastThroughTwo_6 (a3 : Int32) (a4 : Int32) (σ19 : uS) : Option (Int32 × uS) :=
  rd (σ19 25) 6 a4 fun v23 =>
  cp (F_X11_cell a3 a4 σ19) fun v24 =>
  rd (σ19 22) 600 v24 fun v25 =>
  cp (F_X1_ownOf a3 a4 σ19) fun v26 =>
  some ((v23 + v25) - v26, σ19)
def C_X5_leastThroughTwo_7 (a1 : Int32) (a3 : Int32) (a4 : Int32) (σ7 : uS) : Option (Int32 × uS) :=
  lt (a1 + 1 : Int32) fun v16 =>
  lp (fun z => B_X5_leastThroughTwo_5 a3 z.1 z.2) (v16, σ7) (fun z => C_X5_leastThroughTwo_6 a3 a4 z)
def J_X5_leastThroughTwo_8 (σ : uS) : Option (Int32 × uS) :=
  some (0, σ)
def F_X5_leastThroughTwo (a1 : Int32) (a2 : Int32) (a3 : Int32) (a4 : Int32) (σ : uS) : Option (Int32 × uS) :=
  cp (F_X1_has a1 a2 σ) fun v1 =>
  if v1 = 0 then
    (J_X5_leastThroughTwo_8 σ)
  else
    (cp (F_X1_has a3 a4 σ) fun v3 =>
    if v3 = 0 then
      (J_X5_leastThroughTwo_8 σ)
    else
      (lp (fun z => B_X5_leastThroughTwo_3 a1 a2 z.1 z.2) (0, σ) (fun z => C_X5_leastThroughTwo_7 a1 a3 a4 z)))
def B_X5_leastOfAll_17_3 (w8 : Int32) (σ9 : uS) : Option ((Int32 × uS) ⊕ (uS)) :=
  cp (F_X1_sizeOf 0 σ9) fun v11 =>
  if v11 ≤ w8 then
    (some (.inr σ9))
  else
    (cp (F_X1_ownOf 0 w8 σ9) fun v13 =>
    wr σ9 25 6 w8 v13 fun σ14 =>
    lt (w8 + 1 : Int32) fun v15 =>
    some (.inl (v15, σ14)))
def J_X5_leastOfAll_17_6 (w17 : Int32) (σ18 : uS) (v26 : Int32) : Option ((Int32 × uS) ⊕ (uS)) :=
  wr σ18 25 6 w17 v26 fun σ27 =>
  lt (w17 + 1 : Int32) fun v28 =>
  some (.inl (v28, σ27))
def B_X5_leastOfAll_17_7 (a2 : Int32) (w2 : Int32) (w17 : Int32) (σ18 : uS) : Option ((Int32 × uS) ⊕ (uS)) :=
  if a2 = 0 then
    (cp (F_X1_sizeOf w2 σ18) fun v21 =>
    if v21 ≤ w17 then
      (some (.inr σ18))
    else
      (cp (F_X1_halfOf w2 w17 σ18) fun v23 =>
      if v23 = (-1) then
        (rd (σ18 25) 6 w17 fun v25 =>
        J_X5_leastOfAll_17_6 w17 σ18 v25)
      else
        (J_X5_leastOfAll_17_6 w17 σ18 536870912)))
  else
    (some (.inr σ18))
def C_X5_leastOfAll_17_8 (w2 : Int32) (σ19 : uS) : Option ((Int32 × uS) ⊕ (uS)) :=
  lt (w2 + 1 : Int32) fun v29 =>
  some (.inl (v29, σ19))
def J_X5_leastOfAll_17_9 (a2 : Int32) (w2 : Int32) (σ16 : uS) : Option ((Int32 × uS) ⊕ (uS)) :=
  lp (fun z => B_X5_leastOfAll_17_7 a2 w2 z.1 z.2) (0, σ16) (fun z => C_X5_leastOfAll_17_8 w2 z)
def C_X5_leastOfAll_17_4 (a2 : Int32) (w2 : Int32) (σ10 : uS) : Option ((Int32 × uS) ⊕ (uS)) :=
  J_X5_leastOfAll_17_9 a2 w2 σ10
def B_X5_leastOfAll_17_10 (a2 : Int32) (w2 : Int32) (σ3 : uS) : Option ((Int32 × uS) ⊕ (uS)) :=
  if (σ3 16 12) ≤ w2 then
    (some (.inr σ3))
  else
    (if w2 = 0 then
      (lp (fun z => B_X5_leastOfAll_17_3 z.1 z.2) (0, σ3) (fun z => C_X5_leastOfAll_17_4 a2 w2 z))
    else
      (cp (F_X5_advance_17 w2 σ3) fun σ7 =>
      J_X5_leastOfAll_17_9 a2 w2 σ7))
def B_X5_leastOfAll_17_12 (σ4 : uS) (w30 : Int32) (w31 : Int32) : Option ((Int32 × Int32) ⊕ (Int32)) :=
  cp (F_X1_sizeOf ((σ4 16 12) - 1) σ4) fun v33 =>
  if v33 ≤ w31 then
    (some (.inr w30))
  else
    (rd (σ4 25) 6 w31 fun v35 =>
    cp (F_J9_min_7cf53 w30 v35 σ4) fun v36 =>
    lt (w31 + 1 : Int32) fun v37 =>
    some (.inl (v36, v37)))
def C_X5_leastOfAll_17_13 (σ4 : uS) (v32 : Int32) : Option (Int32 × uS) :=
  some (v32, σ4)
def C_X5_leastOfAll_17_14 (σ4 : uS) : Option (Int32 × uS) :=
  lp (fun z => B_X5_leastOfAll_17_12 σ4 z.1 z.2) (536870912, 0) (fun z => C_X5_leastOfAll_17_13 σ4 z)
def F_X5_leastOfAll_17 (a2 : Int32) (σ : uS) : Option (Int32 × uS) :=
  if (σ 16 12) = 0 then
    (some (0, σ))
  else
    (lp (fun z => B_X5_leastOfAll_17_10 a2 z.1 z.2) (0, σ) (fun z => C_X5_leastOfAll_17_14 z))
def F_X5_leastWithoutDoubles (σ : uS) : Option (Int32 × uS) :=
  cl (F_X5_leastOfAll_17 0 σ) fun v2 σ1 =>
  some (v2, σ1)
def B_X5_advance_18_3 (a1 : Int32) (v6 : Int32) (σ2 : uS) (w7 : Int32) (w8 : Int32) : Option ((Int32 × Int32) ⊕ (Int32)) :=
  cp (F_X1_sizeOf (a1 - 1) σ2) fun v10 =>
  if v10 ≤ w8 then
    (some (.inr w7))
  else
    (rd (σ2 25) 6 w8 fun v12 =>
    cp (F_X1_lagOf (a1 - 1) w8 σ2) fun v13 =>
    cp (F_X9_price_18 v13 v6 σ2) fun v14 =>
    cp (F_J9_min_7cf53 w7 (v12 + v14) σ2) fun v15 =>
    lt (w8 + 1 : Int32) fun v16 =>
    some (.inl (v15, v16)))
def C_X5_advance_18_4 (a1 : Int32) (w1 : Int32) (σ2 : uS) (v9 : Int32) : Option ((Int32 × uS) ⊕ (uS)) :=
  cp (F_X1_ownOf a1 w1 σ2) fun v17 =>
  wr σ2 26 6 w1 (v9 + v17) fun σ18 =>
  lt (w1 + 1 : Int32) fun v19 =>
  some (.inl (v19, σ18))
def B_X5_advance_18_5 (a1 : Int32) (w1 : Int32) (σ2 : uS) : Option ((Int32 × uS) ⊕ (uS)) :=
  cp (F_X1_sizeOf a1 σ2) fun v4 =>
  if v4 ≤ w1 then
    (some (.inr σ2))
  else
    (cp (F_X1_lagOf a1 w1 σ2) fun v6 =>
    lp (fun z => B_X5_advance_18_3 a1 v6 σ2 z.1 z.2) (536870912, 0) (fun z => C_X5_advance_18_4 a1 w1 σ2 z))
def B_X5_advance_18_7 (a1 : Int32) (w20 : Int32) (σ21 : uS) : Option ((Int32 × uS) ⊕ (uS)) :=
  cp (F_X1_sizeOf a1 σ21) fun v23 =>
  if v23 ≤ w20 then
    (some (.inr σ21))
  else
    (rd (σ21 26) 6 w20 fun v25 =>
    wr σ21 25 6 w20 v25 fun σ26 =>
    lt (w20 + 1 : Int32) fun v27 =>
    some (.inl (v27, σ26)))
def C_X5_advance_18_8 (σ22 : uS) : Option (uS) :=
  some σ22
def C_X5_advance_18_9 (a1 : Int32) (σ3 : uS) : Option (uS) :=
  lp (fun z => B_X5_advance_18_7 a1 z.1 z.2) (0, σ3) (fun z => C_X5_advance_18_8 z)
def F_X5_advance_18 (a1 : Int32) (σ : uS) : Option (uS) :=
  lp (fun z => B_X5_advance_18_5 a1 z.1 z.2) (0, σ) (fun z => C_X5_advance_18_9 a1 z)
def B_X5_leastOfAll_18_3 (w8 : Int32) (σ9 : uS) : Option ((Int32 × uS) ⊕ (uS)) :=
  cp (F_X1_sizeOf 0 σ9) fun v11 =>
  if v11 ≤ w8 then
    (some (.inr σ9))
  else
    (cp (F_X1_ownOf 0 w8 σ9) fun v13 =>
    wr σ9 25 6 w8 v13 fun σ14 =>
    lt (w8 + 1 : Int32) fun v15 =>
    some (.inl (v15, σ14)))
def J_X5_leastOfAll_18_6 (w17 : Int32) (σ18 : uS) (v26 : Int32) : Option ((Int32 × uS) ⊕ (uS)) :=
  wr σ18 25 6 w17 v26 fun σ27 =>
  lt (w17 + 1 : Int32) fun v28 =>
  some (.inl (v28, σ27))
def B_X5_leastOfAll_18_7 (a2 : Int32) (w2 : Int32) (w17 : Int32) (σ18 : uS) : Option ((Int32 × uS) ⊕ (uS)) :=
  if a2 = 0 then
    (cp (F_X1_sizeOf w2 σ18) fun v21 =>
    if v21 ≤ w17 then
      (some (.inr σ18))
    else
      (cp (F_X1_halfOf w2 w17 σ18) fun v23 =>
      if v23 = (-1) then
        (rd (σ18 25) 6 w17 fun v25 =>
        J_X5_leastOfAll_18_6 w17 σ18 v25)
      else
        (J_X5_leastOfAll_18_6 w17 σ18 536870912)))
  else
    (some (.inr σ18))
def C_X5_leastOfAll_18_8 (w2 : Int32) (σ19 : uS) : Option ((Int32 × uS) ⊕ (uS)) :=
  lt (w2 + 1 : Int32) fun v29 =>
  some (.inl (v29, σ19))
def J_X5_leastOfAll_18_9 (a2 : Int32) (w2 : Int32) (σ16 : uS) : Option ((Int32 × uS) ⊕ (uS)) :=
  lp (fun z => B_X5_leastOfAll_18_7 a2 w2 z.1 z.2) (0, σ16) (fun z => C_X5_leastOfAll_18_8 w2 z)
def C_X5_leastOfAll_18_4 (a2 : Int32) (w2 : Int32) (σ10 : uS) : Option ((Int32 × uS) ⊕ (uS)) :=
  J_X5_leastOfAll_18_9 a2 w2 σ10
def B_X5_leastOfAll_18_10 (a2 : Int32) (w2 : Int32) (σ3 : uS) : Option ((Int32 × uS) ⊕ (uS)) :=
  if (σ3 16 12) ≤ w2 then
    (some (.inr σ3))
  else
    (if w2 = 0 then
      (lp (fun z => B_X5_leastOfAll_18_3 z.1 z.2) (0, σ3) (fun z => C_X5_leastOfAll_18_4 a2 w2 z))
    else
      (cp (F_X5_advance_18 w2 σ3) fun σ7 =>
      J_X5_leastOfAll_18_9 a2 w2 σ7))
def B_X5_leastOfAll_18_12 (σ4 : uS) (w30 : Int32) (w31 : Int32) : Option ((Int32 × Int32) ⊕ (Int32)) :=
  cp (F_X1_sizeOf ((σ4 16 12) - 1) σ4) fun v33 =>
  if v33 ≤ w31 then
    (some (.inr w30))
  else
    (rd (σ4 25) 6 w31 fun v35 =>
    cp (F_J9_min_7cf53 w30 v35 σ4) fun v36 =>
    lt (w31 + 1 : Int32) fun v37 =>
    some (.inl (v36, v37)))
def C_X5_leastOfAll_18_13 (σ4 : uS) (v32 : Int32) : Option (Int32 × uS) :=
  some (v32, σ4)
def C_X5_leastOfAll_18_14 (σ4 : uS) : Option (Int32 × uS) :=
  lp (fun z => B_X5_leastOfAll_18_12 σ4 z.1 z.2) (536870912, 0) (fun z => C_X5_leastOfAll_18_13 σ4 z)
def F_X5_leastOfAll_18 (a2 : Int32) (σ : uS) : Option (Int32 × uS) :=
  if (σ 16 12) = 0 then
    (some (0, σ))
  else
    (lp (fun z => B_X5_leastOfAll_18_10 a2 z.1 z.2) (0, σ) (fun z => C_X5_leastOfAll_18_14 z))
def F_X5_leastWith (a1 : Int32) (a2 : Int32) (σ : uS) : Option (Int32 × uS) :=
  cp (F_X0_of 10 σ) fun v1 =>
  cp (F_X9_set_18 v1 a1 a2 σ) fun σ2 =>
  cl (F_X5_leastOfAll_18 1 σ2) fun v4 σ3 =>
  some (v4, σ3)
def B_X5_chosenLive_2 (a1 : Int32) (σ : uS) (w5 : Int32) (w6 : Int32) : Option ((Int32 × Int32) ⊕ (Int32)) :=
  if w6 ≤ a1 then
    (some (.inr w5))
  else
    (cp (F_X5_aheadOf w6 w5 σ) fun v9 =>
    lt (w6 + (-1) : Int32) fun v10 =>
    some (.inl (v9, v10)))
def C_X5_chosenLive_3 (v7 : Int32) : Option (Int32) :=
  some v7
def J_X5_chosenLive_4 : Option (Int32) :=
  some 0
def F_X5_chosenLive (a1 : Int32) (a2 : Int32) (σ : uS) : Option (Int32) :=
  cp (F_J9_min_7cf53 (a1 + a2) ((σ 16 12) - 1) σ) fun v1 =>
  if a1 < 0 then
    (J_X5_chosenLive_4)
  else
    (if a1 ≤ v1 then
      (cp (F_X5_firstAtEnd v1 σ) fun v4 =>
      lp (fun z => B_X5_chosenLive_2 a1 σ z.1 z.2) (v4, v1) (fun z => C_X5_chosenLive_3 z))
    else
      (J_X5_chosenLive_4))
def F_X9_setBy_28_4 (σ : uS) : Option (uS) :=
  cp (F_X0_of 10 σ) fun v1 =>
  cp (F_X0_of 11 σ) fun v2 =>
  cp (F_X0_of 12 σ) fun v3 =>
  cp (F_X9_set_28 v1 v2 v3 σ) fun σ4 =>
  some σ4
def F_X6_place (a1 : Int32) (a2 : Int32) (σ : uS) : Option (Int32) :=
  cp (F_X11_cell (a1 + 1) a2 σ) fun v1 =>
  some (v1 * 8)
def J_X6_cheapestNext_3 (w3 : Int32) (v20 : Int32) (v21 : Int32) : Option ((Int32 × Int32 × Int32) ⊕ (Int32)) :=
  lt (w3 + 1 : Int32) fun v22 =>
  some (.inl (v20, v21, v22))
def J_X6_cheapestNext_2 (v17 : Int32) (w3 : Int32) : Option ((Int32 × Int32 × Int32) ⊕ (Int32)) :=
  J_X6_cheapestNext_3 w3 w3 v17
def B_X6_cheapestNext_4 (a1 : Int32) (σ : uS) (w1 : Int32) (w2 : Int32) (w3 : Int32) : Option ((Int32 × Int32 × Int32) ⊕ (Int32)) :=
  cp (F_X1_sizeOf a1 σ) fun v5 =>
  if v5 ≤ w3 then
    (some (.inr w1))
  else
    (rd (σ 32) 6 w3 fun v7 =>
    cp (F_X11_cell (a1 + 1) w3 σ) fun v8 =>
    rd (σ 31) 606 v8 fun v9 =>
    if v9 ≤ v7 then
      (J_X6_cheapestNext_3 w3 w1 w2)
    else
      (rd (σ 32) 6 w3 fun v11 =>
      if 8 ≤ v11 then
        (J_X6_cheapestNext_3 w3 w1 w2)
      else
        (rd (σ 33) 6 w3 fun v13 =>
        cp (F_X6_place a1 w3 σ) fun v14 =>
        rd (σ 32) 6 w3 fun v15 =>
        rd (σ 29) 4848 (v14 + v15) fun v16 =>
        lt (v13 + v16 : Int32) fun v17 =>
        if w1 = (-1) then
          (J_X6_cheapestNext_2 v17 w3)
        else
          (if w2 ≤ v17 then
            (J_X6_cheapestNext_3 w3 w1 w2)
          else
            (J_X6_cheapestNext_2 v17 w3)))))
def C_X6_cheapestNext_5 (v4 : Int32) : Option (Int32) :=
  some v4
def F_X6_cheapestNext (a1 : Int32) (σ : uS) : Option (Int32) :=
  lp (fun z => B_X6_cheapestNext_4 a1 σ z.1 z.2.1 z.2.2) ((-1), 0, 0) (fun z => C_X6_cheapestNext_5 z)
def J_X6_findWays_2 (w5 : Int32) (σ10 : uS) (v15 : Int32) : Option ((Int32 × uS) ⊕ (uS)) :=
  wr σ10 33 6 w5 v15 fun σ16 =>
  lt (w5 + 1 : Int32) fun v17 =>
  some (.inl (v17, σ16))
def B_X6_findWays_3 (a1 : Int32) (a2 : Int32) (w5 : Int32) (σ6 : uS) : Option ((Int32 × uS) ⊕ (uS)) :=
  cp (F_X1_sizeOf (a1 + 1) σ6) fun v8 =>
  if v8 ≤ w5 then
    (some (.inr σ6))
  else
    (wr σ6 32 6 w5 0 fun σ10 =>
    if 0 ≤ a1 then
      (cp (F_X1_lagOf a1 a2 σ10) fun v12 =>
      cp (F_X1_lagOf (a1 + 1) w5 σ10) fun v13 =>
      cp (F_X9_price_28 v12 v13 σ10) fun v14 =>
      J_X6_findWays_2 w5 σ10 v14)
    else
      (J_X6_findWays_2 w5 σ10 0))
def B_X6_findWays_5 (a1 : Int32) (v1 : Int32) (v2 : Int32) (w19 : Int32) (w20 : Int32) (σ21 : uS) : Option ((Int32 × Int32 × uS) ⊕ (Int32 × uS)) :=
  if 8 ≤ w19 then
    (some (.inr (w19, σ21)))
  else
    (if w20 = (-1) then
      (some (.inr (w19, σ21)))
    else
      (rd (σ21 33) 6 w20 fun v26 =>
      cp (F_X6_place (a1 + 1) w20 σ21) fun v27 =>
      rd (σ21 32) 6 w20 fun v28 =>
      rd (σ21 29) 4848 (v27 + v28) fun v29 =>
      wr σ21 29 4848 (v2 + w19) ((v1 + v26) + v29) fun σ30 =>
      rd (σ30 32) 6 w20 fun v31 =>
      wr σ30 30 4848 (v2 + w19) ((w20 * 8) + v31) fun σ32 =>
      rd (σ32 32) 6 w20 fun v33 =>
      wr σ32 32 6 w20 (v33 + 1) fun σ34 =>
      lt (w19 + 1 : Int32) fun v35 =>
      cp (F_X6_cheapestNext (a1 + 1) σ34) fun v36 =>
      some (.inl (v35, v36, σ34))))
def C_X6_findWays_6 (a1 : Int32) (a2 : Int32) (v22 : Int32) (σ23 : uS) : Option (uS) :=
  cp (F_X11_cell (a1 + 1) a2 σ23) fun v37 =>
  wr σ23 31 606 v37 v22 fun σ38 =>
  some σ38
def C_X6_findWays_7 (a1 : Int32) (a2 : Int32) (v1 : Int32) (v2 : Int32) (σ7 : uS) : Option (uS) :=
  cp (F_X6_cheapestNext (a1 + 1) σ7) fun v18 =>
  lp (fun z => B_X6_findWays_5 a1 v1 v2 z.1 z.2.1 z.2.2) (0, v18, σ7) (fun z => C_X6_findWays_6 a1 a2 z.1 z.2)
def F_X6_findWays (a1 : Int32) (a2 : Int32) (σ : uS) : Option (uS) :=
  cp (F_X1_ownOf a1 a2 σ) fun v1 =>
  cp (F_X6_place a1 a2 σ) fun v2 =>
  cp (F_X1_frameCount σ) fun v3 =>
  if (a1 + 1) < v3 then
    (lp (fun z => B_X6_findWays_3 a1 a2 z.1 z.2) (0, σ) (fun z => C_X6_findWays_7 a1 a2 v1 v2 z))
  else
    (wr σ 29 4848 v2 v1 fun σ39 =>
    cp (F_X11_cell (a1 + 1) a2 σ39) fun v40 =>
    wr σ39 31 606 v40 1 fun σ41 =>
    some σ41)
def B_X6_find_3 (w4 : Int32) (w8 : Int32) (σ9 : uS) : Option ((Int32 × uS) ⊕ (uS)) :=
  cp (F_X1_sizeOf w4 σ9) fun v11 =>
  if v11 ≤ w8 then
    (some (.inr σ9))
  else
    (cp (F_X6_findWays w4 w8 σ9) fun σ13 =>
    lt (w8 + 1 : Int32) fun v14 =>
    some (.inl (v14, σ13)))
def C_X6_find_4 (w4 : Int32) (σ10 : uS) : Option ((Int32 × uS) ⊕ (uS)) :=
  lt (w4 + (-1) : Int32) fun v15 =>
  some (.inl (v15, σ10))
def B_X6_find_5 (w4 : Int32) (σ5 : uS) : Option ((Int32 × uS) ⊕ (uS)) :=
  if w4 < 0 then
    (some (.inr σ5))
  else
    (lp (fun z => B_X6_find_3 w4 z.1 z.2) (0, σ5) (fun z => C_X6_find_4 w4 z))
def C_X6_find_6 (σ6 : uS) : Option (uS) :=
  cp (F_X6_findWays (-1) 0 σ6) fun σ16 =>
  some σ16
def F_X6_find (σ : uS) : Option (uS) :=
  cp (F_X9_setBy_28_4 σ) fun σ1 =>
  cp (F_X1_frameCount σ1) fun v2 =>
  lt (v2 - 1 : Int32) fun v3 =>
  lp (fun z => B_X6_find_5 z.1 z.2) (v3, σ1) (fun z => C_X6_find_6 z)
def J_X6_priceOf_2 (v6 : Int32) : Option (Int32) :=
  some v6
def J_X6_priceOf_1 : Option (Int32) :=
  J_X6_priceOf_2 (-1)
def F_X6_priceOf (a1 : Int32) (σ : uS) : Option (Int32) :=
  if a1 < 0 then
    (J_X6_priceOf_1)
  else
    (rd (σ 31) 606 0 fun v2 =>
    if v2 ≤ a1 then
      (J_X6_priceOf_1)
    else
      (if a1 < 8 then
        (rd (σ 29) 4848 a1 fun v5 =>
        J_X6_priceOf_2 v5)
      else
        (J_X6_priceOf_1)))
def J_X6_chosenIn_2 : Option ((Int32 × Int32) ⊕ ((Int32) ⊕ (Int32))) :=
  some (.inr (.inr (-1)))
def B_X6_chosenIn_3 (a2 : Int32) (σ : uS) (w9 : Int32) (w10 : Int32) : Option ((Int32 × Int32) ⊕ ((Int32) ⊕ (Int32))) :=
  if a2 ≤ w10 then
    (some (.inr (.inl w9)))
  else
    (if w9 < 0 then
      (J_X6_chosenIn_2)
    else
      (dv w9 8 fun v14 =>
      cp (F_X1_has w10 v14 σ) fun v15 =>
      if v15 = 0 then
        (J_X6_chosenIn_2)
      else
        (dv w9 8 fun v17 =>
        cp (F_X6_place w10 v17 σ) fun v18 =>
        rmd w9 8 fun v19 =>
        rd (σ 30) 4848 (v18 + v19) fun v20 =>
        lt (w10 + 1 : Int32) fun v21 =>
        some (.inl (v20, v21)))))
def C_X6_chosenIn_4 (v11 : Int32) : Option (Int32) :=
  dv v11 8 fun v22 =>
  some v22
def J_X6_chosenIn_5 : Option (Int32) :=
  some (-1)
def F_X6_chosenIn (a1 : Int32) (a2 : Int32) (σ : uS) : Option (Int32) :=
  if a1 < 0 then
    (J_X6_chosenIn_5)
  else
    (rd (σ 31) 606 0 fun v2 =>
    if v2 ≤ a1 then
      (J_X6_chosenIn_5)
    else
      (if 8 ≤ a1 then
        (J_X6_chosenIn_5)
      else
        (if a2 < 0 then
          (J_X6_chosenIn_5)
        else
          (cp (F_X1_frameCount σ) fun v6 =>
          if a2 < v6 then
            (rd (σ 30) 4848 a1 fun v8 =>
            lp (fun z => B_X6_chosenIn_3 a2 σ z.1 z.2) (v8, 0) (fun z => ex2 (fun x => C_X6_chosenIn_4 x) (fun q => some q) z))
          else
            (J_X6_chosenIn_5)))))
def J_X8_find_3 (w2 : Int32) (σ18 : uS) : Option ((Int32 × uS) ⊕ (uS)) :=
  rd (σ18 36) 100 ((σ18 34 6) - 1) fun v19 =>
  wr σ18 36 100 ((σ18 34 6) - 1) (v19 + 1) fun σ20 =>
  wr σ20 37 100 w2 ((σ20 34 6) - 1) fun σ21 =>
  lt (w2 + 1 : Int32) fun v22 =>
  some (.inl (v22, σ21))
def J_X8_find_2 (w2 : Int32) (σ3 : uS) : Option ((Int32 × uS) ⊕ (uS)) :=
  wr σ3 35 100 (σ3 34 6) w2 fun σ15 =>
  wr σ15 36 100 (σ15 34 6) 0 fun σ16 =>
  pf σ16 34 6 ((σ16 34 6) + 1) fun σ17 =>
  J_X8_find_3 w2 σ17
def B_X8_find_4 (w2 : Int32) (σ3 : uS) : Option ((Int32 × uS) ⊕ (uS)) :=
  cp (F_X5_size σ3) fun v5 =>
  if v5 ≤ w2 then
    (some (.inr σ3))
  else
    (if w2 = 0 then
      (J_X8_find_2 w2 σ3)
    else
      (cp (F_X5_lagIn w2 σ3) fun v8 =>
      lt (if v8 = 0 then 1 else 0 : Int32) fun v10 =>
      cp (F_X5_lagIn (w2 - 1) σ3) fun v11 =>
      lt (if v11 = 0 then 1 else 0 : Int32) fun v13 =>
      if v10 = v13 then
        (J_X8_find_3 w2 σ3)
      else
        (J_X8_find_2 w2 σ3)))
def C_X8_find_5 (σ4 : uS) : Option (uS) :=
  some σ4
def F_X8_find (σ : uS) : Option (uS) :=
  pf σ 34 6 0 fun σ1 =>
  lp (fun z => B_X8_find_4 z.1 z.2) (0, σ1) (fun z => C_X8_find_5 z)
def F_X8_size (σ : uS) : Option (Int32) :=
  some (σ 34 6)
def J_X8_has_2 (v3 : Int32) : Option (Int32) :=
  bz v3 (some v3)
def J_X8_has_1 : Option (Int32) :=
  J_X8_has_2 0
def F_X8_has (a1 : Int32) (σ : uS) : Option (Int32) :=
  if a1 < 0 then
    (J_X8_has_1)
  else
    (if (σ 34 6) ≤ a1 then
      (J_X8_has_1)
    else
      (J_X8_has_2 1))
def J_X8_firstFrame_1 (v4 : Int32) : Option (Int32) :=
  some v4
def F_X8_firstFrame (a1 : Int32) (σ : uS) : Option (Int32) :=
  cp (F_X8_has a1 σ) fun v1 =>
  if v1 = 0 then
    (J_X8_firstFrame_1 (-1))
  else
    (rd (σ 35) 100 a1 fun v3 =>
    J_X8_firstFrame_1 v3)
def J_X8_length_1 (v4 : Int32) : Option (Int32) :=
  some v4
def F_X8_length (a1 : Int32) (σ : uS) : Option (Int32) :=
  cp (F_X8_has a1 σ) fun v1 =>
  if v1 = 0 then
    (J_X8_length_1 0)
  else
    (rd (σ 36) 100 a1 fun v3 =>
    J_X8_length_1 v3)
def J_X8_isVoiced_2 (v6 : Int32) : Option (Int32) :=
  bz v6 (some v6)
def J_X8_isVoiced_1 : Option (Int32) :=
  J_X8_isVoiced_2 0
def F_X8_isVoiced (a1 : Int32) (σ : uS) : Option (Int32) :=
  cp (F_X8_has a1 σ) fun v1 =>
  if v1 = 0 then
    (J_X8_isVoiced_1)
  else
    (rd (σ 35) 100 a1 fun v3 =>
    cp (F_X5_lagIn v3 σ) fun v4 =>
    if v4 = 0 then
      (J_X8_isVoiced_1)
    else
      (J_X8_isVoiced_2 1))
def J_X8_from_1 (v5 : Int32) : Option (Int32) :=
  some v5
def F_X8_from (a1 : Int32) (σ : uS) : Option (Int32) :=
  cp (F_X8_has a1 σ) fun v1 =>
  if v1 = 0 then
    (J_X8_from_1 0)
  else
    (rd (σ 35) 100 a1 fun v3 =>
    cp (F_X0_of 2 σ) fun v4 =>
    J_X8_from_1 (v3 * v4))
def J_X8_to_1 (v8 : Int32) : Option (Int32) :=
  some v8
def F_X8_to (a1 : Int32) (σ : uS) : Option (Int32) :=
  cp (F_X8_has a1 σ) fun v1 =>
  if v1 = 0 then
    (J_X8_to_1 0)
  else
    (cp (F_X7_size σ) fun v3 =>
    rd (σ 35) 100 a1 fun v4 =>
    rd (σ 36) 100 a1 fun v5 =>
    cp (F_X0_of 2 σ) fun v6 =>
    cp (F_J9_min_7cf53 v3 ((v4 + v5) * v6) σ) fun v7 =>
    J_X8_to_1 v7)
def F_X8_lagAtSample (a1 : Int32) (σ : uS) : Option (Int32) :=
  cp (F_X0_of 2 σ) fun v1 =>
  cp (F_X11_quotient a1 v1 σ) fun v2 =>
  cp (F_X5_lagIn v2 σ) fun v3 =>
  some v3
def J_X8_ofSample_2 (v7 : Int32) : Option (Int32) :=
  some v7
def J_X8_ofSample_1 : Option (Int32) :=
  J_X8_ofSample_2 (-1)
def F_X8_ofSample (a1 : Int32) (σ : uS) : Option (Int32) :=
  cp (F_X0_of 2 σ) fun v1 =>
  cp (F_X11_quotient a1 v1 σ) fun v2 =>
  if v2 < 0 then
    (J_X8_ofSample_1)
  else
    (cp (F_X5_size σ) fun v4 =>
    if v2 < v4 then
      (rd (σ 37) 100 v2 fun v6 =>
      J_X8_ofSample_2 v6)
    else
      (J_X8_ofSample_1))
def J_X4_findNotes_5 (w2 : Int32) (σ21 : uS) : Option ((Int32 × uS) ⊕ (uS)) :=
  lt (w2 + 1 : Int32) fun v22 =>
  some (.inl (v22, σ21))
def J_X4_findNotes_3 (w2 : Int32) (σ18 : uS) : Option ((Int32 × uS) ⊕ (uS)) :=
  rd (σ18 40) 100 ((σ18 38 6) - 1) fun v19 =>
  wr σ18 40 100 ((σ18 38 6) - 1) (v19 + 1) fun σ20 =>
  J_X4_findNotes_5 w2 σ20
def J_X4_findNotes_2 (w2 : Int32) (σ3 : uS) : Option ((Int32 × uS) ⊕ (uS)) :=
  wr σ3 39 100 (σ3 38 6) w2 fun σ15 =>
  wr σ15 40 100 (σ15 38 6) 0 fun σ16 =>
  pf σ16 38 6 ((σ16 38 6) + 1) fun σ17 =>
  J_X4_findNotes_3 w2 σ17
def J_X4_findNotes_4 (v7 : Int32) (w2 : Int32) (σ3 : uS) (v11 : Int32) : Option ((Int32 × uS) ⊕ (uS)) :=
  if v11 = 0 then
    (J_X4_findNotes_2 w2 σ3)
  else
    (cp (F_J9_abs_0f7a4 (v7 - v11) σ3) fun v13 =>
    if v13 ≤ 1 then
      (J_X4_findNotes_3 w2 σ3)
    else
      (J_X4_findNotes_2 w2 σ3))
def B_X4_findNotes_6 (w2 : Int32) (σ3 : uS) : Option ((Int32 × uS) ⊕ (uS)) :=
  cp (F_X5_size σ3) fun v5 =>
  if v5 ≤ w2 then
    (some (.inr σ3))
  else
    (cp (F_X5_lagIn w2 σ3) fun v7 =>
    if v7 = 0 then
      (J_X4_findNotes_5 w2 σ3)
    else
      (if w2 = 0 then
        (J_X4_findNotes_4 v7 w2 σ3 0)
      else
        (cp (F_X5_lagIn (w2 - 1) σ3) fun v10 =>
        J_X4_findNotes_4 v7 w2 σ3 v10)))
def C_X4_findNotes_7 (σ4 : uS) : Option (uS) :=
  some σ4
def F_X4_findNotes (σ : uS) : Option (uS) :=
  pf σ 38 6 0 fun σ1 =>
  lp (fun z => B_X4_findNotes_6 z.1 z.2) (0, σ1) (fun z => C_X4_findNotes_7 z)
def B_X4_tallyLags_43_2 (w1 : Int32) (σ2 : uS) : Option ((Int32 × uS) ⊕ (uS)) :=
  if 50 ≤ w1 then
    (some (.inr σ2))
  else
    (wr σ2 43 50 w1 0 fun σ5 =>
    lt (w1 + 1 : Int32) fun v6 =>
    some (.inl (v6, σ5)))
def J_X4_tallyLags_43_4 (w8 : Int32) (v19 : Int32) (σ20 : uS) : Option ((Int32 × Int32 × uS) ⊕ (Int32 × uS)) :=
  lt (w8 + 1 : Int32) fun v21 =>
  some (.inl (v19, v21, σ20))
def B_X4_tallyLags_43_5 (a2 : Int32) (a3 : Int32) (w7 : Int32) (w8 : Int32) (σ9 : uS) : Option ((Int32 × Int32 × uS) ⊕ (Int32 × uS)) :=
  if (a2 + a3) ≤ w8 then
    (some (.inr (w7, σ9)))
  else
    (cp (F_X5_lagIn w8 σ9) fun v13 =>
    if v13 ≤ 0 then
      (J_X4_tallyLags_43_4 w8 w7 σ9)
    else
      (if 50 ≤ v13 then
        (J_X4_tallyLags_43_4 w8 w7 σ9)
      else
        (rd (σ9 43) 50 v13 fun v16 =>
        wr σ9 43 50 v13 (v16 + 1) fun σ17 =>
        lt (w7 + 1 : Int32) fun v18 =>
        J_X4_tallyLags_43_4 w8 v18 σ17)))
def C_X4_tallyLags_43_6 (v10 : Int32) (σ11 : uS) : Option (Int32 × uS) :=
  some (v10, σ11)
def C_X4_tallyLags_43_7 (a2 : Int32) (a3 : Int32) (σ3 : uS) : Option (Int32 × uS) :=
  lp (fun z => B_X4_tallyLags_43_5 a2 a3 z.1 z.2.1 z.2.2) (0, a2, σ3) (fun z => C_X4_tallyLags_43_6 z.1 z.2)
def F_X4_tallyLags_43 (a2 : Int32) (a3 : Int32) (σ : uS) : Option (Int32 × uS) :=
  lp (fun z => B_X4_tallyLags_43_2 z.1 z.2) (0, σ) (fun z => C_X4_tallyLags_43_7 a2 a3 z)
def B_X11_middleLag_43_2 (a2 : Int32) (σ : uS) (w1 : Int32) (w2 : Int32) : Option ((Int32 × Int32) ⊕ ((Unit) ⊕ (Int32))) :=
  if 50 ≤ w2 then
    (some (.inr (.inl ())))
  else
    (rd (σ 43) 50 w2 fun v4 =>
    lt (w1 + v4 : Int32) fun v5 =>
    dv (a2 - 1) 2 fun v6 =>
    if v5 ≤ v6 then
      (lt (w2 + 1 : Int32) fun v8 =>
      some (.inl (v5, v8)))
    else
      (some (.inr (.inr w2))))
def C_X11_middleLag_43_3 : Option (Int32) :=
  some (-1)
def F_X11_middleLag_43 (a2 : Int32) (σ : uS) : Option (Int32) :=
  lp (fun z => B_X11_middleLag_43_2 a2 σ z.1 z.2) (0, 0) (fun z => ex2 (fun x => C_X11_middleLag_43_3) (fun q => some q) z)
def B_X4_tallyLags_42_2 (w1 : Int32) (σ2 : uS) : Option ((Int32 × uS) ⊕ (uS)) :=
  if 50 ≤ w1 then
    (some (.inr σ2))
  else
    (wr σ2 42 50 w1 0 fun σ5 =>
    lt (w1 + 1 : Int32) fun v6 =>
    some (.inl (v6, σ5)))
def J_X4_tallyLags_42_4 (w8 : Int32) (v19 : Int32) (σ20 : uS) : Option ((Int32 × Int32 × uS) ⊕ (Int32 × uS)) :=
  lt (w8 + 1 : Int32) fun v21 =>
  some (.inl (v19, v21, σ20))
def B_X4_tallyLags_42_5 (a2 : Int32) (a3 : Int32) (w7 : Int32) (w8 : Int32) (σ9 : uS) : Option ((Int32 × Int32 × uS) ⊕ (Int32 × uS)) :=
  if (a2 + a3) ≤ w8 then
    (some (.inr (w7, σ9)))
  else
    (cp (F_X5_lagIn w8 σ9) fun v13 =>
    if v13 ≤ 0 then
      (J_X4_tallyLags_42_4 w8 w7 σ9)
    else
      (if 50 ≤ v13 then
        (J_X4_tallyLags_42_4 w8 w7 σ9)
      else
        (rd (σ9 42) 50 v13 fun v16 =>
        wr σ9 42 50 v13 (v16 + 1) fun σ17 =>
        lt (w7 + 1 : Int32) fun v18 =>
        J_X4_tallyLags_42_4 w8 v18 σ17)))
def C_X4_tallyLags_42_6 (v10 : Int32) (σ11 : uS) : Option (Int32 × uS) :=
  some (v10, σ11)
def C_X4_tallyLags_42_7 (a2 : Int32) (a3 : Int32) (σ3 : uS) : Option (Int32 × uS) :=
  lp (fun z => B_X4_tallyLags_42_5 a2 a3 z.1 z.2.1 z.2.2) (0, a2, σ3) (fun z => C_X4_tallyLags_42_6 z.1 z.2)
def F_X4_tallyLags_42 (a2 : Int32) (a3 : Int32) (σ : uS) : Option (Int32 × uS) :=
  lp (fun z => B_X4_tallyLags_42_2 z.1 z.2) (0, σ) (fun z => C_X4_tallyLags_42_7 a2 a3 z)
def J_X4_findSteady_2 (v12 : Int32) (w4 : Int32) (σ18 : uS) : Option ((Int32 × Int32 × uS) ⊕ (uS)) :=
  lt (w4 + 1 : Int32) fun v19 =>
  some (.inl (v12, v19, σ18))
def B_X4_findSteady_3 (w3 : Int32) (w4 : Int32) (σ5 : uS) : Option ((Int32 × Int32 × uS) ⊕ (uS)) :=
  cp (F_X5_size σ5) fun v7 =>
  if v7 ≤ w4 then
    (some (.inr σ5))
  else
    (cp (F_X5_lagIn w4 σ5) fun v9 =>
    cp (F_X5_lagIn w3 σ5) fun v10 =>
    lt (if v9 = v10 then w3 else w4 : Int32) fun v12 =>
    cp (F_X5_lagIn w4 σ5) fun v13 =>
    if v13 = 0 then
      (J_X4_findSteady_2 v12 w4 σ5)
    else
      (if ((w4 - v12) + 1) ≤ (σ5 38 9) then
        (J_X4_findSteady_2 v12 w4 σ5)
      else
        (pf σ5 38 8 v12 fun σ16 =>
        pf σ16 38 9 ((w4 - v12) + 1) fun σ17 =>
        J_X4_findSteady_2 v12 w4 σ17)))
def C_X4_findSteady_4 (σ6 : uS) : Option (uS) :=
  some σ6
def F_X4_findSteady (σ : uS) : Option (uS) :=
  pf σ 38 8 (-1) fun σ1 =>
  pf σ1 38 9 0 fun σ2 =>
  lp (fun z => B_X4_findSteady_3 z.1 z.2.1 z.2.2) (0, 0, σ2) (fun z => C_X4_findSteady_4 z)
def B_X4_find_2 (w2 : Int32) (σ3 : uS) : Option ((Int32 × uS) ⊕ (uS)) :=
  if (σ3 38 6) ≤ w2 then
    (some (.inr σ3))
  else
    (rd (σ3 39) 100 w2 fun v6 =>
    rd (σ3 40) 100 w2 fun v7 =>
    cl (F_X4_tallyLags_43 v6 v7 σ3) fun v9 σ8 =>
    rd (σ8 40) 100 w2 fun v10 =>
    cp (F_X11_middleLag_43 v10 σ8) fun v11 =>
    wr σ8 41 100 w2 v11 fun σ12 =>
    lt (w2 + 1 : Int32) fun v13 =>
    some (.inl (v13, σ12)))
def C_X4_find_3 (σ4 : uS) : Option (uS) :=
  cp (F_X5_size σ4) fun v14 =>
  cl (F_X4_tallyLags_42 0 v14 σ4) fun v16 σ15 =>
  pf σ15 38 7 v16 fun σ17 =>
  cp (F_X4_findSteady σ17) fun σ18 =>
  some σ18
def F_X4_find (σ : uS) : Option (uS) :=
  cp (F_X4_findNotes σ) fun σ1 =>
  lp (fun z => B_X4_find_2 z.1 z.2) (0, σ1) (fun z => C_X4_find_3 z)
def F_X4_size (σ : uS) : Option (Int32) :=
  some (σ 38 6)
def J_X4_has_2 (v3 : Int32) : Option (Int32) :=
  bz v3 (some v3)
def J_X4_has_1 : Option (Int32) :=
  J_X4_has_2 0
def F_X4_has (a1 : Int32) (σ : uS) : Option (Int32) :=
  if a1 < 0 then
    (J_X4_has_1)
  else
    (if (σ 38 6) ≤ a1 then
      (J_X4_has_1)
    else
      (J_X4_has_2 1))
def J_X4_firstFrame_1 (v4 : Int32) : Option (Int32) :=
  some v4
def F_X4_firstFrame (a1 : Int32) (σ : uS) : Option (Int32) :=
  cp (F_X4_has a1 σ) fun v1 =>
  if v1 = 0 then
    (J_X4_firstFrame_1 (-1))
  else
    (rd (σ 39) 100 a1 fun v3 =>
    J_X4_firstFrame_1 v3)
def J_X4_length_1 (v4 : Int32) : Option (Int32) :=
  some v4
def F_X4_length (a1 : Int32) (σ : uS) : Option (Int32) :=
  cp (F_X4_has a1 σ) fun v1 =>
  if v1 = 0 then
    (J_X4_length_1 0)
  else
    (rd (σ 40) 100 a1 fun v3 =>
    J_X4_length_1 v3)
def J_X4_lagOf_1 (v4 : Int32) : Option (Int32) :=
  some v4
def F_X4_lagOf (a1 : Int32) (σ : uS) : Option (Int32) :=
  cp (F_X4_has a1 σ) fun v1 =>
  if v1 = 0 then
    (J_X4_lagOf_1 0)
  else
    (rd (σ 41) 100 a1 fun v3 =>
    J_X4_lagOf_1 v3)
def F_X4_steadyFirst (σ : uS) : Option (Int32) :=
  some (σ 38 8)
def F_X4_steadyLength (σ : uS) : Option (Int32) :=
  some (σ 38 9)
def J_X4_steadyLag_1 (v3 : Int32) : Option (Int32) :=
  some v3
def F_X4_steadyLag (σ : uS) : Option (Int32) :=
  if (σ 38 9) = 0 then
    (J_X4_steadyLag_1 0)
  else
    (cp (F_X5_lagIn (σ 38 8) σ) fun v2 =>
    J_X4_steadyLag_1 v2)
def B_X4_unlikeLags_2 (σ : uS) (w1 : Int32) (w2 : Int32) : Option ((Int32 × Int32) ⊕ (Int32)) :=
  if 50 ≤ w2 then
    (some (.inr w1))
  else
    (rd (σ 42) 50 w2 fun v5 =>
    lt (if v5 ≤ 0 then 0 else 1 : Int32) fun v7 =>
    lt (w1 + v7 : Int32) fun v8 =>
    lt (w2 + 1 : Int32) fun v9 =>
    some (.inl (v8, v9)))
def C_X4_unlikeLags_3 (v3 : Int32) : Option (Int32) :=
  some v3
def F_X4_unlikeLags (σ : uS) : Option (Int32) :=
  lp (fun z => B_X4_unlikeLags_2 σ z.1 z.2) (0, 0) (fun z => C_X4_unlikeLags_3 z)
def J_X4_unlikeLag_2 (w2 : Int32) (v8 : Int32) : Option ((Int32 × Int32) ⊕ ((Unit) ⊕ (Int32))) :=
  lt (w2 + 1 : Int32) fun v9 =>
  some (.inl (v8, v9))
def B_X4_unlikeLag_3 (a1 : Int32) (σ : uS) (w1 : Int32) (w2 : Int32) : Option ((Int32 × Int32) ⊕ ((Unit) ⊕ (Int32))) :=
  if 50 ≤ w2 then
    (some (.inr (.inl ())))
  else
    (rd (σ 42) 50 w2 fun v4 =>
    if v4 ≤ 0 then
      (J_X4_unlikeLag_2 w2 w1)
    else
      (if w1 = a1 then
        (some (.inr (.inr w2)))
      else
        (lt (w1 + 1 : Int32) fun v7 =>
        J_X4_unlikeLag_2 w2 v7)))
def C_X4_unlikeLag_4 : Option (Int32) :=
  some (-1)
def F_X4_unlikeLag (a1 : Int32) (σ : uS) : Option (Int32) :=
  lp (fun z => B_X4_unlikeLag_3 a1 σ z.1 z.2) (0, 0) (fun z => ex2 (fun x => C_X4_unlikeLag_4) (fun q => some q) z)
def J_X4_framesWith_2 (v4 : Int32) : Option (Int32) :=
  some v4
def J_X4_framesWith_1 : Option (Int32) :=
  J_X4_framesWith_2 0
def F_X4_framesWith (a1 : Int32) (σ : uS) : Option (Int32) :=
  if a1 < 0 then
    (J_X4_framesWith_1)
  else
    (if a1 < 50 then
      (rd (σ 42) 50 a1 fun v3 =>
      J_X4_framesWith_2 v3)
    else
      (J_X4_framesWith_1))
def J_X4_commonest_2 (w3 : Int32) (v9 : Int32) (v10 : Int32) : Option ((Int32 × Int32 × Int32) ⊕ (Int32)) :=
  lt (w3 + 1 : Int32) fun v11 =>
  some (.inl (v9, v10, v11))
def B_X4_commonest_3 (σ : uS) (w1 : Int32) (w2 : Int32) (w3 : Int32) : Option ((Int32 × Int32 × Int32) ⊕ (Int32)) :=
  if 50 ≤ w3 then
    (some (.inr w1))
  else
    (rd (σ 42) 50 w3 fun v6 =>
    if v6 ≤ w2 then
      (J_X4_commonest_2 w3 w1 w2)
    else
      (rd (σ 42) 50 w3 fun v8 =>
      J_X4_commonest_2 w3 w3 v8))
def C_X4_commonest_4 (v4 : Int32) : Option (Int32) :=
  some v4
def F_X4_commonest (σ : uS) : Option (Int32) :=
  lp (fun z => B_X4_commonest_3 σ z.1 z.2.1 z.2.2) ((-1), 0, 0) (fun z => C_X4_commonest_4 z)
def B_X11_middleLag_42_2 (a2 : Int32) (σ : uS) (w1 : Int32) (w2 : Int32) : Option ((Int32 × Int32) ⊕ ((Unit) ⊕ (Int32))) :=
  if 50 ≤ w2 then
    (some (.inr (.inl ())))
  else
    (rd (σ 42) 50 w2 fun v4 =>
    lt (w1 + v4 : Int32) fun v5 =>
    dv (a2 - 1) 2 fun v6 =>
    if v5 ≤ v6 then
      (lt (w2 + 1 : Int32) fun v8 =>
      some (.inl (v5, v8)))
    else
      (some (.inr (.inr w2))))
def C_X11_middleLag_42_3 : Option (Int32) :=
  some (-1)
def F_X11_middleLag_42 (a2 : Int32) (σ : uS) : Option (Int32) :=
  lp (fun z => B_X11_middleLag_42_2 a2 σ z.1 z.2) (0, 0) (fun z => ex2 (fun x => C_X11_middleLag_42_3) (fun q => some q) z)
def J_X4_middleOfAll_1 (v3 : Int32) : Option (Int32) :=
  some v3
def F_X4_middleOfAll (σ : uS) : Option (Int32) :=
  if (σ 38 7) = 0 then
    (J_X4_middleOfAll_1 (-1))
  else
    (cp (F_X11_middleLag_42 (σ 38 7) σ) fun v2 =>
    J_X4_middleOfAll_1 v2)
def J_X3_findWorths_4 (w14 : Int32) (v28 : Int32) (σ29 : uS) : Option ((Int32 × Int32 × uS) ⊕ (Int32 × uS)) :=
  lt (w14 + 1 : Int32) fun v30 =>
  some (.inl (v28, v30, σ29))
def J_X3_findWorths_3 (v23 : Int32) (w4 : Int32) (w14 : Int32) (σ15 : uS) : Option ((Int32 × Int32 × uS) ⊕ (Int32 × uS)) :=
  wr σ15 46 800 w4 w14 fun σ27 =>
  J_X3_findWorths_4 w14 v23 σ27
def B_X3_findWorths_5 (a2 : Int32) (v1 : Int32) (v9 : Int32) (v10 : Int32) (w4 : Int32) (w13 : Int32) (w14 : Int32) (σ15 : uS) : Option ((Int32 × Int32 × uS) ⊕ (Int32 × uS)) :=
  if w14 ≤ w4 then
    (some (.inr (w13, σ15)))
  else
    (if (v9 + v10) < w14 then
      (some (.inr (w13, σ15)))
    else
      (if a2 ≤ w14 then
        (some (.inr (w13, σ15)))
      else
        (rd (σ15 45) 800 w14 fun v21 =>
        cp (F_J9_abs_0f7a4 (w14 - v9) σ15) fun v22 =>
        lt (v21 - (v1 * v22) : Int32) fun v23 =>
        rd (σ15 46) 800 w4 fun v24 =>
        if v24 = (-1) then
          (J_X3_findWorths_3 v23 w4 w14 σ15)
        else
          (if v23 ≤ w13 then
            (J_X3_findWorths_4 w14 w13 σ15)
          else
            (J_X3_findWorths_3 v23 w4 w14 σ15)))))
def C_X3_findWorths_6 (w4 : Int32) (v16 : Int32) (σ17 : uS) : Option ((Int32 × uS) ⊕ (uS)) :=
  cp (F_X7_at w4 σ17) fun v31 =>
  wr σ17 45 800 w4 (v16 + v31) fun σ32 =>
  lt (w4 + (-1) : Int32) fun v33 =>
  some (.inl (v33, σ32))
def B_X3_findWorths_7 (a1 : Int32) (a2 : Int32) (v1 : Int32) (w4 : Int32) (σ5 : uS) : Option ((Int32 × uS) ⊕ (uS)) :=
  if w4 < a1 then
    (some (.inr σ5))
  else
    (cp (F_X8_lagAtSample w4 σ5) fun v8 =>
    lt (w4 + v8 : Int32) fun v9 =>
    dv (v9 - w4) 4 fun v10 =>
    wr σ5 46 800 w4 (-1) fun σ11 =>
    lt (v9 - v10 : Int32) fun v12 =>
    lp (fun z => B_X3_findWorths_5 a2 v1 v9 v10 w4 z.1 z.2.1 z.2.2) (0, v12, σ11) (fun z => C_X3_findWorths_6 w4 z.1 z.2))
def C_X3_findWorths_8 (σ6 : uS) : Option (uS) :=
  some σ6
def F_X3_findWorths (a1 : Int32) (a2 : Int32) (σ : uS) : Option (uS) :=
  cp (F_X0_of 13 σ) fun v1 =>
  cp (F_J9_min_7cf53 a2 800 σ) fun v2 =>
  lt (v2 - 1 : Int32) fun v3 =>
  lp (fun z => B_X3_findWorths_7 a1 a2 v1 z.1 z.2) (v3, σ) (fun z => C_X3_findWorths_8 z)
def B_X3_markSpan_2 (a2 : Int32) (a3 : Int32) (σ : uS) (w1 : Int32) (w2 : Int32) : Option ((Int32 × Int32) ⊕ (Int32)) :=
  if a3 ≤ w2 then
    (some (.inr w1))
  else
    (cp (F_X8_lagAtSample a2 σ) fun v5 =>
    if (a2 + v5) ≤ w2 then
      (some (.inr w1))
    else
      (rd (σ 45) 800 w2 fun v7 =>
      rd (σ 45) 800 w1 fun v8 =>
      lt (if v7 ≤ v8 then w1 else w2 : Int32) fun v10 =>
      lt (w2 + 1 : Int32) fun v11 =>
      some (.inl (v10, v11))))
def B_X3_markSpan_4 (a1 : Int32) (a2 : Int32) (a3 : Int32) (w14 : Int32) (σ15 : uS) : Option ((Int32 × uS) ⊕ (uS)) :=
  if w14 < a2 then
    (some (.inr σ15))
  else
    (if a3 ≤ w14 then
      (some (.inr σ15))
    else
      (if 800 ≤ (σ15 44 9) then
        (some (.inr σ15))
      else
        (wr σ15 47 800 (σ15 44 9) w14 fun σ20 =>
        wr σ20 48 800 (σ20 44 9) a1 fun σ21 =>
        pf σ21 44 9 ((σ21 44 9) + 1) fun σ22 =>
        rd (σ22 46) 800 w14 fun v23 =>
        some (.inl (v23, σ22)))))
def C_X3_markSpan_5 (σ16 : uS) : Option (uS) :=
  some σ16
def C_X3_markSpan_6 (a1 : Int32) (a2 : Int32) (a3 : Int32) (σ : uS) (v3 : Int32) : Option (uS) :=
  rd (σ 45) 800 v3 fun v12 =>
  wr σ 50 100 a1 v12 fun σ13 =>
  lp (fun z => B_X3_markSpan_4 a1 a2 a3 z.1 z.2) (v3, σ13) (fun z => C_X3_markSpan_5 z)
def F_X3_markSpan (a1 : Int32) (a2 : Int32) (a3 : Int32) (σ : uS) : Option (uS) :=
  lp (fun z => B_X3_markSpan_2 a2 a3 σ z.1 z.2) (a2, a2) (fun z => C_X3_markSpan_6 a1 a2 a3 σ z)
def J_X3_find_2 (w2 : Int32) (σ17 : uS) : Option ((Int32 × uS) ⊕ (uS)) :=
  lt (w2 + 1 : Int32) fun v18 =>
  some (.inl (v18, σ17))
def B_X3_find_3 (w2 : Int32) (σ3 : uS) : Option ((Int32 × uS) ⊕ (uS)) :=
  cp (F_X8_size σ3) fun v5 =>
  if v5 ≤ w2 then
    (some (.inr σ3))
  else
    (wr σ3 49 101 w2 (σ3 44 9) fun σ7 =>
    wr σ7 50 100 w2 0 fun σ8 =>
    cp (F_X8_isVoiced w2 σ8) fun v9 =>
    if v9 = 0 then
      (J_X3_find_2 w2 σ8)
    else
      (cp (F_X8_from w2 σ8) fun v11 =>
      cp (F_X8_to w2 σ8) fun v12 =>
      cp (F_X3_findWorths v11 v12 σ8) fun σ13 =>
      cp (F_X8_from w2 σ13) fun v14 =>
      cp (F_X8_to w2 σ13) fun v15 =>
      cp (F_X3_markSpan w2 v14 v15 σ13) fun σ16 =>
      J_X3_find_2 w2 σ16))
def C_X3_find_4 (σ4 : uS) : Option (uS) :=
  cp (F_X8_size σ4) fun v19 =>
  wr σ4 49 101 v19 (σ4 44 9) fun σ20 =>
  some σ20
def F_X3_find (σ : uS) : Option (uS) :=
  pf σ 44 9 0 fun σ1 =>
  lp (fun z => B_X3_find_3 z.1 z.2) (0, σ1) (fun z => C_X3_find_4 z)
def F_X3_size (σ : uS) : Option (Int32) :=
  some (σ 44 9)
def J_X3_has_2 (v3 : Int32) : Option (Int32) :=
  bz v3 (some v3)
def J_X3_has_1 : Option (Int32) :=
  J_X3_has_2 0
def F_X3_has (a1 : Int32) (σ : uS) : Option (Int32) :=
  if a1 < 0 then
    (J_X3_has_1)
  else
    (if (σ 44 9) ≤ a1 then
      (J_X3_has_1)
    else
      (J_X3_has_2 1))
def J_X3_at_1 (v4 : Int32) : Option (Int32) :=
  some v4
def F_X3_at (a1 : Int32) (σ : uS) : Option (Int32) :=
  cp (F_X3_has a1 σ) fun v1 =>
  if v1 = 0 then
    (J_X3_at_1 (-1))
  else
    (rd (σ 47) 800 a1 fun v3 =>
    J_X3_at_1 v3)
def J_X3_sizeIn_1 (v5 : Int32) : Option (Int32) :=
  some v5
def F_X3_sizeIn (a1 : Int32) (σ : uS) : Option (Int32) :=
  cp (F_X8_has a1 σ) fun v1 =>
  if v1 = 0 then
    (J_X3_sizeIn_1 0)
  else
    (rd (σ 49) 101 (a1 + 1) fun v3 =>
    rd (σ 49) 101 a1 fun v4 =>
    J_X3_sizeIn_1 (v3 - v4))
def J_X3_worthIn_1 (v4 : Int32) : Option (Int32) :=
  some v4
def F_X3_worthIn (a1 : Int32) (σ : uS) : Option (Int32) :=
  cp (F_X8_has a1 σ) fun v1 =>
  if v1 = 0 then
    (J_X3_worthIn_1 0)
  else
    (rd (σ 50) 100 a1 fun v3 =>
    J_X3_worthIn_1 v3)
def F_J9_abs_067f4 (a1 : Int64) (σ : uS) : Option (Int64) :=
  lt (if 0 ≤ (lg_cmp a1 ((0 : Int64))) then a1 else (-a1) : Int64) fun v2 =>
  some v2
def J_X3_nearest_3 (w4 : Int32) (v11 : Int32) (v12 : Int64) : Option ((Int32 × Int64 × Int32) ⊕ (Int32)) :=
  lt (w4 + 1 : Int32) fun v13 =>
  some (.inl (v11, v12, v13))
def J_X3_nearest_2 (v8 : Int64) (w4 : Int32) : Option ((Int32 × Int64 × Int32) ⊕ (Int32)) :=
  J_X3_nearest_3 w4 w4 v8
def B_X3_nearest_4 (a1 : Int32) (a3 : Int32) (σ : uS) (w2 : Int32) (w3 : Int64) (w4 : Int32) : Option ((Int32 × Int64 × Int32) ⊕ (Int32)) :=
  if a3 ≤ w4 then
    (some (.inr w2))
  else
    (cp (F_X3_at w4 σ) fun v7 =>
    cp (F_J9_abs_067f4 ((Int32.toInt64 v7) - (Int32.toInt64 a1)) σ) fun v8 =>
    if w2 = (-1) then
      (J_X3_nearest_2 v8 w4)
    else
      (if 0 ≤ (lg_cmp v8 w3) then
        (J_X3_nearest_3 w4 w2 w3)
      else
        (J_X3_nearest_2 v8 w4)))
def C_X3_nearest_5 (v5 : Int32) : Option (Int32) :=
  some v5
def F_X3_nearest (a1 : Int32) (a2 : Int32) (a3 : Int32) (σ : uS) : Option (Int32) :=
  lt ((0 : Int64) : Int64) fun v1 =>
  lp (fun z => B_X3_nearest_4 a1 a3 σ z.1 z.2.1 z.2.2) ((-1), v1, a2) (fun z => C_X3_nearest_5 z)
def J_X3_gapBehind_2 (v10 : Int32) : Option (Int32) :=
  some v10
def J_X3_gapBehind_1 : Option (Int32) :=
  J_X3_gapBehind_2 (-1)
def F_X3_gapBehind (a1 : Int32) (σ : uS) : Option (Int32) :=
  cp (F_X3_has a1 σ) fun v1 =>
  if v1 = 0 then
    (J_X3_gapBehind_1)
  else
    (cp (F_X3_has (a1 + 1) σ) fun v3 =>
    if v3 = 0 then
      (J_X3_gapBehind_1)
    else
      (rd (σ 48) 800 a1 fun v5 =>
      rd (σ 48) 800 (a1 + 1) fun v6 =>
      if v5 = v6 then
        (rd (σ 47) 800 (a1 + 1) fun v8 =>
        rd (σ 47) 800 a1 fun v9 =>
        J_X3_gapBehind_2 (v8 - v9))
      else
        (J_X3_gapBehind_1)))
def B_X3_gapCount_2 (σ : uS) (w1 : Int32) (w2 : Int32) : Option ((Int32 × Int32) ⊕ (Int32)) :=
  if (σ 44 9) ≤ w2 then
    (some (.inr w1))
  else
    (cp (F_X3_gapBehind w2 σ) fun v5 =>
    lt (if v5 = (-1) then 0 else 1 : Int32) fun v7 =>
    lt (w1 + v7 : Int32) fun v8 =>
    lt (w2 + 1 : Int32) fun v9 =>
    some (.inl (v8, v9)))
def C_X3_gapCount_3 (v3 : Int32) : Option (Int32) :=
  some v3
def F_X3_gapCount (σ : uS) : Option (Int32) :=
  lp (fun z => B_X3_gapCount_2 σ z.1 z.2) (0, 0) (fun z => C_X3_gapCount_3 z)
def B_X3_gapSum_2 (σ : uS) (w1 : Int32) (w2 : Int32) : Option ((Int32 × Int32) ⊕ (Int32)) :=
  if (σ 44 9) ≤ w2 then
    (some (.inr w1))
  else
    (cp (F_X3_gapBehind w2 σ) fun v5 =>
    cp (F_J9_max_7cf53 0 v5 σ) fun v6 =>
    lt (w1 + v6 : Int32) fun v7 =>
    lt (w2 + 1 : Int32) fun v8 =>
    some (.inl (v7, v8)))
def C_X3_gapSum_3 (v3 : Int32) : Option (Int32) :=
  some v3
def F_X3_gapSum (σ : uS) : Option (Int32) :=
  lp (fun z => B_X3_gapSum_2 σ z.1 z.2) (0, 0) (fun z => C_X3_gapSum_3 z)
def B_X3_longestGap_2 (σ : uS) (w1 : Int32) (w2 : Int32) : Option ((Int32 × Int32) ⊕ (Int32)) :=
  if (σ 44 9) ≤ w2 then
    (some (.inr w1))
  else
    (cp (F_X3_gapBehind w2 σ) fun v5 =>
    cp (F_J9_max_7cf53 w1 v5 σ) fun v6 =>
    lt (w2 + 1 : Int32) fun v7 =>
    some (.inl (v6, v7)))
def C_X3_longestGap_3 (v3 : Int32) : Option (Int32) :=
  some v3
def F_X3_longestGap (σ : uS) : Option (Int32) :=
  lp (fun z => B_X3_longestGap_2 σ z.1 z.2) ((-1), 0) (fun z => C_X3_longestGap_3 z)
def J_X3_shortestGap_3 (w2 : Int32) (v9 : Int32) : Option ((Int32 × Int32) ⊕ (Int32)) :=
  lt (w2 + 1 : Int32) fun v10 =>
  some (.inl (v9, v10))
def J_X3_shortestGap_2 (v5 : Int32) (w2 : Int32) : Option ((Int32 × Int32) ⊕ (Int32)) :=
  J_X3_shortestGap_3 w2 v5
def B_X3_shortestGap_4 (σ : uS) (w1 : Int32) (w2 : Int32) : Option ((Int32 × Int32) ⊕ (Int32)) :=
  if (σ 44 9) ≤ w2 then
    (some (.inr w1))
  else
    (cp (F_X3_gapBehind w2 σ) fun v5 =>
    if v5 = (-1) then
      (J_X3_shortestGap_3 w2 w1)
    else
      (if w1 = (-1) then
        (J_X3_shortestGap_2 v5 w2)
      else
        (if w1 ≤ v5 then
          (J_X3_shortestGap_3 w2 w1)
        else
          (J_X3_shortestGap_2 v5 w2))))
def C_X3_shortestGap_5 (v3 : Int32) : Option (Int32) :=
  some v3
def F_X3_shortestGap (σ : uS) : Option (Int32) :=
  lp (fun z => B_X3_shortestGap_4 σ z.1 z.2) ((-1), 0) (fun z => C_X3_shortestGap_5 z)
def J_X3_jitter_2 (w2 : Int32) (v13 : Int32) : Option ((Int32 × Int32) ⊕ (Int32)) :=
  lt (w2 + 1 : Int32) fun v14 =>
  some (.inl (v13, v14))
def B_X3_jitter_3 (σ : uS) (w1 : Int32) (w2 : Int32) : Option ((Int32 × Int32) ⊕ (Int32)) :=
  if (σ 44 9) ≤ w2 then
    (some (.inr w1))
  else
    (cp (F_X3_gapBehind w2 σ) fun v5 =>
    if v5 = (-1) then
      (J_X3_jitter_2 w2 w1)
    else
      (cp (F_X3_gapBehind (w2 + 1) σ) fun v7 =>
      if v7 = (-1) then
        (J_X3_jitter_2 w2 w1)
      else
        (cp (F_X3_gapBehind (w2 + 1) σ) fun v9 =>
        cp (F_X3_gapBehind w2 σ) fun v10 =>
        cp (F_J9_abs_0f7a4 (v9 - v10) σ) fun v11 =>
        lt (w1 + v11 : Int32) fun v12 =>
        J_X3_jitter_2 w2 v12)))
def C_X3_jitter_4 (v3 : Int32) : Option (Int32) :=
  some v3
def F_X3_jitter (σ : uS) : Option (Int32) :=
  lp (fun z => B_X3_jitter_3 σ z.1 z.2) (0, 0) (fun z => C_X3_jitter_4 z)
def J_X3_shimmer_2 (w2 : Int32) (v13 : Int32) : Option ((Int32 × Int32) ⊕ (Int32)) :=
  lt (w2 + 1 : Int32) fun v14 =>
  some (.inl (v13, v14))
def B_X3_shimmer_3 (σ : uS) (w1 : Int32) (w2 : Int32) : Option ((Int32 × Int32) ⊕ (Int32)) :=
  if (σ 44 9) ≤ w2 then
    (some (.inr w1))
  else
    (cp (F_X3_gapBehind w2 σ) fun v5 =>
    if v5 = (-1) then
      (J_X3_shimmer_2 w2 w1)
    else
      (cp (F_X3_at (w2 + 1) σ) fun v7 =>
      cp (F_X7_at v7 σ) fun v8 =>
      cp (F_X3_at w2 σ) fun v9 =>
      cp (F_X7_at v9 σ) fun v10 =>
      cp (F_J9_abs_0f7a4 (v8 - v10) σ) fun v11 =>
      lt (w1 + v11 : Int32) fun v12 =>
      J_X3_shimmer_2 w2 v12))
def C_X3_shimmer_4 (v3 : Int32) : Option (Int32) :=
  some v3
def F_X3_shimmer (σ : uS) : Option (Int32) :=
  lp (fun z => B_X3_shimmer_3 σ z.1 z.2) (0, 0) (fun z => C_X3_shimmer_4 z)
def B_X3_roughness_2 (a1 : Int32) (v1 : Int32) (σ : uS) (w2 : Int32) (w3 : Int32) : Option ((Int32 × Int32) ⊕ (Int32)) :=
  if v1 ≤ w3 then
    (some (.inr w2))
  else
    (cp (F_X3_at a1 σ) fun v6 =>
    cp (F_X7_at (v6 + w3) σ) fun v7 =>
    cp (F_X3_at (a1 + 1) σ) fun v8 =>
    cp (F_X7_at (v8 + w3) σ) fun v9 =>
    cp (F_J9_abs_0f7a4 (v7 - v9) σ) fun v10 =>
    lt (w2 + v10 : Int32) fun v11 =>
    lt (w3 + 1 : Int32) fun v12 =>
    some (.inl (v11, v12)))
def C_X3_roughness_3 (v1 : Int32) (v4 : Int32) : Option (Int32) :=
  lt (if v1 = (-1) then (-1) else v4 : Int32) fun v14 =>
  some v14
def F_X3_roughness (a1 : Int32) (σ : uS) : Option (Int32) :=
  cp (F_X3_gapBehind a1 σ) fun v1 =>
  lp (fun z => B_X3_roughness_2 a1 v1 σ z.1 z.2) (0, 0) (fun z => C_X3_roughness_3 v1 z)
def J_X3_grasp_1 (v8 : Int32) : Option (Int32) :=
  some v8
def F_X3_grasp (a1 : Int32) (σ : uS) : Option (Int32) :=
  cp (F_X3_gapBehind a1 σ) fun v1 =>
  if v1 = (-1) then
    (cp (F_X3_gapBehind (a1 - 1) σ) fun v3 =>
    if v3 = (-1) then
      (cp (F_X3_at a1 σ) fun v5 =>
      cp (F_X8_lagAtSample v5 σ) fun v6 =>
      J_X3_grasp_1 v6)
    else
      (cp (F_X3_gapBehind (a1 - 1) σ) fun v7 =>
      J_X3_grasp_1 v7))
  else
    (cp (F_X3_gapBehind a1 σ) fun v9 =>
    some v9)
def J_X3_renewed_2 (a1 : Int32) (a2 : Int32) (v15 : Int32) (w9 : Int32) (w10 : Int32) (σ : uS) (v22 : Int32) : Option ((Int32 × Int32 × Int32) ⊕ (Int32)) :=
  cp (F_X11_quotient (v15 * a1) a2 σ) fun v23 =>
  cp (F_J9_max_7cf53 1 v23 σ) fun v24 =>
  lt (w9 + v24 : Int32) fun v25 =>
  lt (w10 + 1 : Int32) fun v26 =>
  some (.inl (v22, v25, v26))
def B_X3_renewed_3 (a1 : Int32) (a2 : Int32) (a3 : Int32) (v4 : Int32) (v5 : Int32) (v6 : Int32) (σ : uS) (w8 : Int32) (w9 : Int32) (w10 : Int32) : Option ((Int32 × Int32 × Int32) ⊕ (Int32)) :=
  if 800 ≤ w10 then
    (some (.inr w8))
  else
    (if v6 ≤ w9 then
      (some (.inr w8))
    else
      (cp (F_X3_nearest w9 v4 v5 σ) fun v14 =>
      cp (F_X3_grasp v14 σ) fun v15 =>
      cp (F_J9_abs_0f7a4 (w9 - a3) σ) fun v16 =>
      if v15 ≤ v16 then
        (J_X3_renewed_2 a1 a2 v15 w9 w10 σ w8)
      else
        (cp (F_X3_at v14 σ) fun v18 =>
        cp (F_X7_at ((v18 + a3) - w9) σ) fun v19 =>
        cp (F_X11_quotient (v19 * (v15 - v16)) v15 σ) fun v20 =>
        lt (w8 + v20 : Int32) fun v21 =>
        J_X3_renewed_2 a1 a2 v15 w9 w10 σ v21)))
def C_X3_renewed_4 (v11 : Int32) : Option (Int32) :=
  some v11
def F_X3_renewed (a1 : Int32) (a2 : Int32) (a3 : Int32) (σ : uS) : Option (Int32) :=
  cp (F_X8_ofSample a3 σ) fun v1 =>
  cp (F_X8_isVoiced v1 σ) fun v2 =>
  if v2 = 0 then
    (cp (F_X7_at a3 σ) fun v27 =>
    some v27)
  else
    (rd (σ 49) 101 v1 fun v4 =>
    rd (σ 49) 101 (v1 + 1) fun v5 =>
    cp (F_X8_to v1 σ) fun v6 =>
    cp (F_X3_at v4 σ) fun v7 =>
    lp (fun z => B_X3_renewed_3 a1 a2 a3 v4 v5 v6 σ z.1 z.2.1 z.2.2) (0, v7, 0) (fun z => C_X3_renewed_4 z))
def F_X10_size (σ : uS) : Option (Int32) :=
  some (σ 51 5)
def F_X10_hasRoom (σ : uS) : Option (Int32) :=
  lt (if 12 ≤ (σ 51 5) then 0 else 1 : Int32) fun v2 =>
  bz v2 (some v2)
def J_X10_add_1 (σ5 : uS) : Option (uS) :=
  some σ5
def F_X10_add (a1 : Int32) (σ : uS) : Option (uS) :=
  cp (F_X10_hasRoom σ) fun v1 =>
  if v1 = 0 then
    (J_X10_add_1 σ)
  else
    (wr σ 52 12 (σ 51 5) a1 fun σ3 =>
    pf σ3 51 5 ((σ3 51 5) + 1) fun σ4 =>
    J_X10_add_1 σ4)
def F_X10_clear (σ : uS) : Option (uS) :=
  pf σ 51 5 0 fun σ1 =>
  some σ1
def F_X10_price (σ : uS) : Option (Int32) :=
  rd (σ 54) 1313 0 fun v1 =>
  some v1
def B_X10_pairs_2 (σ : uS) (w1 : Int32) (w2 : Int32) : Option ((Int32 × Int32) ⊕ (Int32)) :=
  if (σ 51 5) ≤ w2 then
    (some (.inr w1))
  else
    (rd (σ 53) 12 w2 fun v5 =>
    lt (if v5 = (-1) then 0 else 1 : Int32) fun v7 =>
    lt (w1 + v7 : Int32) fun v8 =>
    lt (w2 + 1 : Int32) fun v9 =>
    some (.inl (v8, v9)))
def C_X10_pairs_3 (v3 : Int32) : Option (Int32) :=
  some v3
def F_X10_pairs (σ : uS) : Option (Int32) :=
  lp (fun z => B_X10_pairs_2 σ z.1 z.2) (0, 0) (fun z => C_X10_pairs_3 z)
def J_X10_pairOf_2 (v4 : Int32) : Option (Int32) :=
  some v4
def J_X10_pairOf_1 : Option (Int32) :=
  J_X10_pairOf_2 (-1)
def F_X10_pairOf (a1 : Int32) (σ : uS) : Option (Int32) :=
  if a1 < 0 then
    (J_X10_pairOf_1)
  else
    (if a1 < (σ 51 5) then
      (rd (σ 53) 12 a1 fun v3 =>
      J_X10_pairOf_2 v3)
    else
      (J_X10_pairOf_1))
def F_X10_pairPrice (a1 : Int32) (a2 : Int32) (σ : uS) : Option (Int32) :=
  rd (σ 52) 12 a1 fun v1 =>
  cp (F_X4_lagOf a2 σ) fun v2 =>
  cp (F_J9_abs_0f7a4 (v1 - v2) σ) fun v3 =>
  some (10 * v3)
def J_X10_findLeast_3 (w5 : Int32) (w9 : Int32) (σ10 : uS) (v27 : Int32) : Option ((Int32 × uS) ⊕ (uS)) :=
  wr σ10 54 1313 ((w5 * 101) + w9) v27 fun σ28 =>
  lt (w9 + (-1) : Int32) fun v29 =>
  some (.inl (v29, σ28))
def J_X10_findLeast_4 (v3 : Int32) (w5 : Int32) (w9 : Int32) (σ10 : uS) (v21 : Int32) : Option ((Int32 × uS) ⊕ (uS)) :=
  if (σ10 51 5) ≤ w5 then
    (J_X10_findLeast_3 w5 w9 σ10 v21)
  else
    (if v3 ≤ w9 then
      (J_X10_findLeast_3 w5 w9 σ10 v21)
    else
      (cp (F_X10_pairPrice w5 w9 σ10) fun v24 =>
      rd (σ10 54) 1313 ((((w5 + 1) * 101) + w9) + 1) fun v25 =>
      cp (F_J9_min_7cf53 v21 (v24 + v25) σ10) fun v26 =>
      J_X10_findLeast_3 w5 w9 σ10 v26))
def J_X10_findLeast_5 (v1 : Int32) (v3 : Int32) (w5 : Int32) (w9 : Int32) (σ10 : uS) (v17 : Int32) : Option ((Int32 × uS) ⊕ (uS)) :=
  if v3 ≤ w9 then
    (J_X10_findLeast_4 v3 w5 w9 σ10 v17)
  else
    (rd (σ10 54) 1313 (((w5 * 101) + w9) + 1) fun v19 =>
    cp (F_J9_min_7cf53 v17 (v1 + v19) σ10) fun v20 =>
    J_X10_findLeast_4 v3 w5 w9 σ10 v20)
def B_X10_findLeast_6 (v1 : Int32) (v3 : Int32) (w5 : Int32) (w9 : Int32) (σ10 : uS) : Option ((Int32 × uS) ⊕ (uS)) :=
  if w9 < 0 then
    (some (.inr σ10))
  else
    (lt (v1 * ((((σ10 51 5) - w5) + v3) - w9) : Int32) fun v13 =>
    if (σ10 51 5) ≤ w5 then
      (J_X10_findLeast_5 v1 v3 w5 w9 σ10 v13)
    else
      (rd (σ10 54) 1313 (((w5 + 1) * 101) + w9) fun v15 =>
      cp (F_J9_min_7cf53 v13 (v1 + v15) σ10) fun v16 =>
      J_X10_findLeast_5 v1 v3 w5 w9 σ10 v16))
def C_X10_findLeast_7 (w5 : Int32) (σ11 : uS) : Option ((Int32 × uS) ⊕ (uS)) :=
  lt (w5 + (-1) : Int32) fun v30 =>
  some (.inl (v30, σ11))
def B_X10_findLeast_8 (v1 : Int32) (v3 : Int32) (w5 : Int32) (σ6 : uS) : Option ((Int32 × uS) ⊕ (uS)) :=
  if w5 < 0 then
    (some (.inr σ6))
  else
    (lp (fun z => B_X10_findLeast_6 v1 v3 w5 z.1 z.2) (v3, σ6) (fun z => C_X10_findLeast_7 w5 z))
def C_X10_findLeast_9 (σ7 : uS) : Option (uS) :=
  some σ7
def F_X10_findLeast (σ : uS) : Option (uS) :=
  cp (F_X0_of 15 σ) fun v1 =>
  cp (F_X4_size σ) fun v2 =>
  cp (F_J9_min_7cf53 100 v2 σ) fun v3 =>
  lt (σ 51 5 : Int32) fun v4 =>
  lp (fun z => B_X10_findLeast_8 v1 v3 z.1 z.2) (v4, σ) (fun z => C_X10_findLeast_9 z)
def B_X10_firstPair_2 (a1 : Int32) (a2 : Int32) (v1 : Int32) (v3 : Int32) (σ : uS) (w4 : Int32) : Option ((Int32) ⊕ ((Unit) ⊕ (Int32))) :=
  if v3 ≤ w4 then
    (some (.inr (.inl ())))
  else
    (cp (F_X10_pairPrice a1 w4 σ) fun v6 =>
    rd (σ 54) 1313 ((((a1 + 1) * 101) + w4) + 1) fun v7 =>
    lt (((v1 * (w4 - a2)) + v6) + v7 : Int32) fun v8 =>
    rd (σ 54) 1313 ((a1 * 101) + a2) fun v9 =>
    if v8 = v9 then
      (some (.inr (.inr w4)))
    else
      (lt (w4 + 1 : Int32) fun v11 =>
      some (.inl v11)))
def C_X10_firstPair_3 : Option (Int32) :=
  some (-1)
def F_X10_firstPair (a1 : Int32) (a2 : Int32) (σ : uS) : Option (Int32) :=
  cp (F_X0_of 15 σ) fun v1 =>
  cp (F_X4_size σ) fun v2 =>
  cp (F_J9_min_7cf53 100 v2 σ) fun v3 =>
  lp (fun z => B_X10_firstPair_2 a1 a2 v1 v3 σ z) a2 (fun z => ex2 (fun x => C_X10_firstPair_3) (fun q => some q) z)
def J_X10_findPairs_2 (w3 : Int32) (σ8 : uS) (v12 : Int32) : Option ((Int32 × Int32 × uS) ⊕ (uS)) :=
  lt (w3 + 1 : Int32) fun v13 =>
  some (.inl (v12, v13, σ8))
def B_X10_findPairs_3 (w2 : Int32) (w3 : Int32) (σ4 : uS) : Option ((Int32 × Int32 × uS) ⊕ (uS)) :=
  if (σ4 51 5) ≤ w3 then
    (some (.inr σ4))
  else
    (cp (F_X10_firstPair w3 w2 σ4) fun v7 =>
    wr σ4 53 12 w3 v7 fun σ8 =>
    rd (σ8 53) 12 w3 fun v9 =>
    if v9 = (-1) then
      (J_X10_findPairs_2 w3 σ8 w2)
    else
      (rd (σ8 53) 12 w3 fun v11 =>
      J_X10_findPairs_2 w3 σ8 (v11 + 1)))
def C_X10_findPairs_4 (σ5 : uS) : Option (uS) :=
  some σ5
def F_X10_findPairs (σ : uS) : Option (uS) :=
  cp (F_X10_findLeast σ) fun σ1 =>
  lp (fun z => B_X10_findPairs_3 z.1 z.2.1 z.2.2) (0, 0, σ1) (fun z => C_X10_findPairs_4 z)
def F_X11_feed (a1 : Int32) (a2 : Int32) (a3 : Int32) (a4 : Int32) (a5 : Int32) (σ : uS) : Option (Int32 × uS) :=
  cp (F_X7_tapeSize σ) fun v1 =>
  if (v1 + 20) ≤ 400 then
    (cp (F_X7_tapeNumber a1 σ) fun σ3 =>
    cp (F_X7_tapeNumber a2 σ3) fun σ4 =>
    cp (F_X7_tapeNumber a3 σ4) fun σ5 =>
    cp (F_X7_tapeNumber a4 σ5) fun σ6 =>
    cp (F_X7_tapeNumber a5 σ6) fun σ7 =>
    cp (F_X7_tapeSize σ7) fun v8 =>
    some (v8, σ7))
  else
    (some ((-1), σ))
def F_X11_forgetAnswers (σ : uS) : Option (uS) :=
  pf σ 0 10 0 fun σ1 =>
  pf σ1 0 11 0 fun σ2 =>
  pf σ2 0 12 0 fun σ3 =>
  some σ3
def F_X11_changedFrom (a1 : Int32) (a2 : Int32) (σ : uS) : Option (Int32 × uS) :=
  cp (F_X2_forgetThose a1 a2 σ) fun σ1 =>
  cp (F_X11_forgetAnswers σ1) fun σ2 =>
  cp (F_X7_size σ2) fun v3 =>
  some (v3, σ2)
def J_X11_samples_1 (σ : uS) : Option (Int32 × uS) :=
  some ((-1000), σ)
def F_X11_samples (a1 : Int32) (σ : uS) : Option (Int32 × uS) :=
  if a1 < 0 then
    (J_X11_samples_1 σ)
  else
    (cp (F_X7_tapeSize σ) fun v2 =>
    if v2 < a1 then
      (J_X11_samples_1 σ)
    else
      (cp (F_X7_hasRoom a1 σ) fun v4 =>
      if v4 = 0 then
        (J_X11_samples_1 σ)
      else
        (cp (F_X7_size σ) fun v6 =>
        cp (F_X7_appendFromTape a1 σ) fun σ7 =>
        cp (F_X7_size σ7) fun v8 =>
        cl (F_X11_changedFrom v6 v8 σ7) fun v10 σ9 =>
        some (v10, σ9))))
def J_X11_isHeight_2 (v3 : Int32) : Option (Int32) :=
  bz v3 (some v3)
def J_X11_isHeight_1 : Option (Int32) :=
  J_X11_isHeight_2 0
def F_X11_isHeight (a1 : Int32) (σ : uS) : Option (Int32) :=
  if a1 < 0 then
    (J_X11_isHeight_1)
  else
    (if 127 < a1 then
      (J_X11_isHeight_1)
    else
      (J_X11_isHeight_2 1))
def B_X11_cycles_3 (a1 : Int32) (a2 : Int32) (w14 : Int32) (σ15 : uS) : Option ((Int32 × uS) ⊕ (uS)) :=
  if a1 ≤ w14 then
    (some (.inr σ15))
  else
    (cp (F_X11_quotient ((2 * a2) * w14) a1 σ15) fun v18 =>
    cp (F_X7_append (a2 - v18) σ15) fun σ19 =>
    lt (w14 + 1 : Int32) fun v20 =>
    some (.inl (v20, σ19)))
def C_X11_cycles_4 (w10 : Int32) (σ16 : uS) : Option ((Int32 × uS) ⊕ (uS)) :=
  lt (w10 + 1 : Int32) fun v21 =>
  some (.inl (v21, σ16))
def B_X11_cycles_5 (a1 : Int32) (a2 : Int32) (a3 : Int32) (w10 : Int32) (σ11 : uS) : Option ((Int32 × uS) ⊕ (uS)) :=
  if a3 ≤ w10 then
    (some (.inr σ11))
  else
    (lp (fun z => B_X11_cycles_3 a1 a2 z.1 z.2) (0, σ11) (fun z => C_X11_cycles_4 w10 z))
def C_X11_cycles_6 (v9 : Int32) (σ12 : uS) : Option (Int32 × uS) :=
  cp (F_X7_size σ12) fun v22 =>
  cl (F_X11_changedFrom v9 v22 σ12) fun v24 σ23 =>
  some (v24, σ23)
def J_X11_cycles_7 (σ : uS) : Option (Int32 × uS) :=
  some ((-1000), σ)
def F_X11_cycles (a1 : Int32) (a2 : Int32) (a3 : Int32) (σ : uS) : Option (Int32 × uS) :=
  if a1 < 2 then
    (J_X11_cycles_7 σ)
  else
    (if 48 < a1 then
      (J_X11_cycles_7 σ)
    else
      (cp (F_X11_isHeight a2 σ) fun v3 =>
      if v3 = 0 then
        (J_X11_cycles_7 σ)
      else
        (if a3 < 1 then
          (J_X11_cycles_7 σ)
        else
          (if 50 < a3 then
            (J_X11_cycles_7 σ)
          else
            (cp (F_X7_hasRoom (a1 * a3) σ) fun v7 =>
            if v7 = 0 then
              (J_X11_cycles_7 σ)
            else
              (cp (F_X7_size σ) fun v9 =>
              lp (fun z => B_X11_cycles_5 a1 a2 a3 z.1 z.2) (0, σ) (fun z => C_X11_cycles_6 v9 z)))))))
def B_X11_noise_2 (a2 : Int32) (a3 : Int32) (w8 : Int32) (w9 : Int32) (σ10 : uS) : Option ((Int32 × Int32 × uS) ⊕ (uS)) :=
  if a2 ≤ w9 then
    (some (.inr σ10))
  else
    (lt ((w8 * 1103515245) + 12345 : Int32) fun v13 =>
    rmd (((v13.toUInt32 >>> (Int32.toUInt32 16 &&& Int32.toUInt32 31)).toInt32) &&& 32767) ((2 * a3) + 1) fun v14 =>
    cp (F_X7_append (v14 - a3) σ10) fun σ15 =>
    lt (w9 + 1 : Int32) fun v16 =>
    some (.inl (v13, v16, σ15)))
def C_X11_noise_3 (v7 : Int32) (σ11 : uS) : Option (Int32 × uS) :=
  cp (F_X7_size σ11) fun v17 =>
  cl (F_X11_changedFrom v7 v17 σ11) fun v19 σ18 =>
  some (v19, σ18)
def J_X11_noise_4 (σ : uS) : Option (Int32 × uS) :=
  some ((-1000), σ)
def F_X11_noise (a1 : Int32) (a2 : Int32) (a3 : Int32) (σ : uS) : Option (Int32 × uS) :=
  if a2 < 1 then
    (J_X11_noise_4 σ)
  else
    (if 400 < a2 then
      (J_X11_noise_4 σ)
    else
      (cp (F_X11_isHeight a3 σ) fun v3 =>
      if v3 = 0 then
        (J_X11_noise_4 σ)
      else
        (cp (F_X7_hasRoom a2 σ) fun v5 =>
        if v5 = 0 then
          (J_X11_noise_4 σ)
        else
          (cp (F_X7_size σ) fun v7 =>
          lp (fun z => B_X11_noise_2 a2 a3 z.1 z.2.1 z.2.2) (a1, 0, σ) (fun z => C_X11_noise_3 v7 z)))))
def J_X11_poke_1 (σ : uS) : Option (Int32 × uS) :=
  some ((-1000), σ)
def F_X11_poke (a1 : Int32) (a2 : Int32) (σ : uS) : Option (Int32 × uS) :=
  cp (F_X7_has a1 σ) fun v1 =>
  if v1 = 0 then
    (J_X11_poke_1 σ)
  else
    (if a2 < (-128) then
      (J_X11_poke_1 σ)
    else
      (if a2 ≤ 127 then
        (cp (F_X7_at a1 σ) fun v5 =>
        cp (F_X7_put a1 a2 σ) fun σ6 =>
        cl (F_X11_changedFrom a1 (a1 + 1) σ6) fun v8 σ7 =>
        some (v5, σ7))
      else
        (J_X11_poke_1 σ)))
def J_X11_cut_1 (σ : uS) : Option (Int32 × uS) :=
  some ((-1000), σ)
def F_X11_cut (a1 : Int32) (σ : uS) : Option (Int32 × uS) :=
  if a1 < 0 then
    (J_X11_cut_1 σ)
  else
    (cp (F_X7_size σ) fun v2 =>
    if a1 ≤ v2 then
      (cp (F_X7_size σ) fun v4 =>
      cp (F_X7_drop a1 σ) fun σ5 =>
      cp (F_X7_size σ5) fun v6 =>
      cl (F_X11_changedFrom v6 v4 σ5) fun v8 σ7 =>
      some (v8, σ7))
    else
      (J_X11_cut_1 σ))
def J_X11_bound_2 (v3 : Int32) (σ9 : uS) : Option (Int32 × uS) :=
  cp (F_X11_forgetAnswers σ9) fun σ10 =>
  some (v3, σ10)
def J_X11_bound_1 (v3 : Int32) (σ4 : uS) : Option (Int32 × uS) :=
  cp (F_X2_forgetAll σ4) fun σ8 =>
  J_X11_bound_2 v3 σ8
def F_X11_bound (a1 : Int32) (a2 : Int32) (σ : uS) : Option (Int32 × uS) :=
  cp (F_X0_allows a1 a2 σ) fun v1 =>
  if v1 = 0 then
    (some ((-1000), σ))
  else
    (cp (F_X0_of a1 σ) fun v3 =>
    cp (F_X0_put a1 a2 σ) fun σ4 =>
    if a1 = 2 then
      (J_X11_bound_1 v3 σ4)
    else
      (if a1 = 3 then
        (J_X11_bound_1 v3 σ4)
      else
        (if a1 = 5 then
          (J_X11_bound_1 v3 σ4)
        else
          (J_X11_bound_2 v3 σ4))))
def F_X11_findPath (σ : uS) : Option (uS) :=
  if (σ 0 10) = 0 then
    (cp (F_X2_find σ) fun σ2 =>
    cp (F_X1_find σ2) fun σ3 =>
    cp (F_X5_find σ3) fun σ4 =>
    cp (F_X8_find σ4) fun σ5 =>
    cp (F_X4_find σ5) fun σ6 =>
    pf σ6 0 10 1 fun σ7 =>
    some σ7)
  else
    (some σ)
def F_X11_single (σ : uS) : Option (Int32 × uS) :=
  cp (F_X11_findPath σ) fun σ1 =>
  cl (F_X5_leastWithoutDoubles σ1) fun v3 σ2 =>
  some (v3, σ2)
def F_X11_doubled (σ : uS) : Option (Int32 × uS) :=
  cp (F_X11_findPath σ) fun σ1 =>
  cp (F_X5_doublesChosen σ1) fun v2 =>
  some (v2, σ1)
def F_X11_spans (σ : uS) : Option (Int32 × uS) :=
  cp (F_X11_findPath σ) fun σ1 =>
  cp (F_X8_size σ1) fun v2 =>
  some (v2, σ1)
def F_X11_notes (σ : uS) : Option (Int32 × uS) :=
  cp (F_X11_findPath σ) fun σ1 =>
  cp (F_X4_size σ1) fun v2 =>
  some (v2, σ1)
def F_X11_lags (σ : uS) : Option (Int32 × uS) :=
  cp (F_X11_findPath σ) fun σ1 =>
  cp (F_X4_unlikeLags σ1) fun v2 =>
  some (v2, σ1)
def J_X11_tune_1 (σ : uS) : Option (Int32 × uS) :=
  some ((-1000), σ)
def F_X11_tune (a1 : Int32) (σ : uS) : Option (Int32 × uS) :=
  if a1 < 1 then
    (J_X11_tune_1 σ)
  else
    (if 48 < a1 then
      (J_X11_tune_1 σ)
    else
      (cp (F_X10_hasRoom σ) fun v3 =>
      if v3 = 0 then
        (J_X11_tune_1 σ)
      else
        (cp (F_X10_add a1 σ) fun σ5 =>
        cp (F_X10_size σ5) fun v6 =>
        some (v6, σ5))))
def F_X11_hush (σ : uS) : Option (Int32 × uS) :=
  cp (F_X10_size σ) fun v1 =>
  cp (F_X10_clear σ) fun σ2 =>
  some (v1, σ2)
def J_X11_findMarks_1 (σ5 : uS) : Option (uS) :=
  some σ5
def F_X11_findMarks (σ : uS) : Option (uS) :=
  cp (F_X11_findPath σ) fun σ1 =>
  if (σ1 0 12) = 0 then
    (cp (F_X3_find σ1) fun σ3 =>
    pf σ3 0 12 1 fun σ4 =>
    J_X11_findMarks_1 σ4)
  else
    (J_X11_findMarks_1 σ1)
def F_X11_marks (σ : uS) : Option (Int32 × uS) :=
  cp (F_X11_findMarks σ) fun σ1 =>
  cp (F_X3_size σ1) fun v2 =>
  some (v2, σ1)
def J_X11_near_1 (σ1 : uS) (v6 : Int32) : Option (Int32 × uS) :=
  some (v6, σ1)
def F_X11_near (a1 : Int32) (σ : uS) : Option (Int32 × uS) :=
  cp (F_X11_findMarks σ) fun σ1 =>
  cp (F_X3_size σ1) fun v2 =>
  cp (F_X3_nearest a1 0 v2 σ1) fun v3 =>
  if v3 = (-1) then
    (J_X11_near_1 σ1 (-1))
  else
    (cp (F_X3_at v3 σ1) fun v5 =>
    J_X11_near_1 σ1 v5)
def B_X11_behind_2 (a1 : Int32) (σ1 : uS) (w2 : Int32) : Option ((Int32) ⊕ ((Unit) ⊕ (Int32 × uS))) :=
  cp (F_X3_size σ1) fun v3 =>
  if v3 ≤ w2 then
    (some (.inr (.inl ())))
  else
    (cp (F_X3_at w2 σ1) fun v5 =>
    if v5 ≤ a1 then
      (lt (w2 + 1 : Int32) fun v7 =>
      some (.inl v7))
    else
      (cp (F_X3_at w2 σ1) fun v8 =>
      some (.inr (.inr (v8, σ1)))))
def C_X11_behind_3 (σ1 : uS) : Option (Int32 × uS) :=
  some ((-1), σ1)
def F_X11_behind (a1 : Int32) (σ : uS) : Option (Int32 × uS) :=
  cp (F_X11_findMarks σ) fun σ1 =>
  lp (fun z => B_X11_behind_2 a1 σ1 z) 0 (fun z => ex2 (fun x => C_X11_behind_3 σ1) (fun q => some q) z)
def J_X11_roughest_2 (w4 : Int32) (v10 : Int32) (v11 : Int32) : Option ((Int32 × Int32 × Int32) ⊕ (Int32)) :=
  lt (w4 + 1 : Int32) fun v12 =>
  some (.inl (v10, v11, v12))
def B_X11_roughest_3 (σ1 : uS) (w2 : Int32) (w3 : Int32) (w4 : Int32) : Option ((Int32 × Int32 × Int32) ⊕ (Int32)) :=
  cp (F_X3_size σ1) fun v6 =>
  if v6 ≤ w4 then
    (some (.inr w2))
  else
    (cp (F_X3_roughness w4 σ1) fun v8 =>
    if v8 ≤ w3 then
      (J_X11_roughest_2 w4 w2 w3)
    else
      (J_X11_roughest_2 w4 w4 v8))
def C_X11_roughest_4 (σ1 : uS) (v5 : Int32) : Option (Int32 × uS) :=
  some (v5, σ1)
def F_X11_roughest (σ : uS) : Option (Int32 × uS) :=
  cp (F_X11_findMarks σ) fun σ1 =>
  lp (fun z => B_X11_roughest_3 σ1 z.1 z.2.1 z.2.2) ((-1), (-1), 0) (fun z => C_X11_roughest_4 σ1 z)
def J_X11_isLag_2 (v4 : Int32) : Option (Int32) :=
  bz v4 (some v4)
def J_X11_isLag_1 : Option (Int32) :=
  J_X11_isLag_2 0
def F_X11_isLag (a1 : Int32) (σ : uS) : Option (Int32) :=
  if a1 < 0 then
    (J_X11_isLag_1)
  else
    (cp (F_X0_of 5 σ) fun v2 =>
    if (v2 + 1) < a1 then
      (J_X11_isLag_1)
    else
      (J_X11_isLag_2 1))
def J_X11_findRanking_1 (σ5 : uS) : Option (uS) :=
  some σ5
def F_X11_findRanking (σ : uS) : Option (uS) :=
  cp (F_X11_findPath σ) fun σ1 =>
  if (σ1 0 11) = 0 then
    (cp (F_X6_find σ1) fun σ3 =>
    pf σ3 0 11 1 fun σ4 =>
    J_X11_findRanking_1 σ4)
  else
    (J_X11_findRanking_1 σ1)
def B_X11_commonPart_2 (w1 : Int32) (w2 : Int32) (w3 : Int32) : Option ((Int32 × Int32 × Int32) ⊕ (Int32)) :=
  if 64 ≤ w3 then
    (some (.inr w1))
  else
    (if w2 = 0 then
      (some (.inr w1))
    else
      (rmd w1 w2 fun v7 =>
      lt (w3 + 1 : Int32) fun v8 =>
      some (.inl (w2, v7, v8))))
def C_X11_commonPart_3 (v4 : Int32) : Option (Int32) :=
  some v4
def F_X11_commonPart (a1 : Int32) (a2 : Int32) (σ : uS) : Option (Int32) :=
  lp (fun z => B_X11_commonPart_2 z.1 z.2.1 z.2.2) (a1, a2, 0) (fun z => C_X11_commonPart_3 z)
def F_X11_lowest (a1 : Int32) (a2 : Int32) (a3 : Int32) (σ : uS) : Option (Int32) :=
  cp (F_J9_abs_0f7a4 a1 σ) fun v1 =>
  cp (F_J9_abs_0f7a4 a2 σ) fun v2 =>
  cp (F_X11_commonPart v1 v2 σ) fun v3 =>
  lt (if a3 = 0 then a1 else a2 : Int32) fun v5 =>
  cp (F_X11_quotient v5 v3 σ) fun v6 =>
  some v6
def F_X12_thrown (σ : uS) : Option (Int32) :=
  some (σ 55 9)
def J_X12_right_1 (σ4 : uS) : Option (Int32 × uS) :=
  lt (if (σ4 55 9) = 0 then 1 else 0 : Int32) fun v6 =>
  bz v6 (some (v6, σ4))
def F_X12_right (a1 : Int32) (a2 : Int32) (σ : uS) : Option (Int32 × uS) :=
  if (σ 55 9) = 0 then
    (if a1 = 0 then
      (pf σ 55 9 a2 fun σ3 =>
      J_X12_right_1 σ3)
    else
      (J_X12_right_1 σ))
  else
    (J_X12_right_1 σ)
def J_X12_isIn_2 (v3 : Int32) : Option (Int32) :=
  bz v3 (some v3)
def J_X12_isIn_1 : Option (Int32) :=
  J_X12_isIn_2 0
def F_X12_isIn (a1 : Int32) (a2 : Int32) (a3 : Int32) (σ : uS) : Option (Int32) :=
  if a1 < a2 then
    (J_X12_isIn_1)
  else
    (if a3 < a1 then
      (J_X12_isIn_1)
    else
      (J_X12_isIn_2 1))
def F_X12_apart (a1 : Int32) (a2 : Int32) (σ : uS) : Option (Int32) :=
  lt (if a1 ≤ a2 then (a2 - a1) else (a1 - a2) : Int32) fun v2 =>
  some v2
def B_X12_divisor_2 (w1 : Int32) (w2 : Int32) : Option ((Int32 × Int32) ⊕ (Int32)) :=
  if w2 = 0 then
    (some (.inr w1))
  else
    (rmd w1 w2 fun v5 =>
    some (.inl (w2, v5)))
def C_X12_divisor_3 (v3 : Int32) : Option (Int32) :=
  lt (if 0 ≤ v3 then v3 else (-v3) : Int32) fun v7 =>
  some v7
def F_X12_divisor (a1 : Int32) (a2 : Int32) (σ : uS) : Option (Int32) :=
  lp (fun z => B_X12_divisor_2 z.1 z.2) (a1, a2) (fun z => C_X12_divisor_3 z)
def J_X12_down_2 (v5 : Int32) : Option (Int32) :=
  some v5
def J_X12_down_1 (v1 : Int32) : Option (Int32) :=
  J_X12_down_2 v1
def F_X12_down (a1 : Int32) (a2 : Int32) (σ : uS) : Option (Int32) :=
  dv a1 a2 fun v1 =>
  rmd a1 a2 fun v2 =>
  if v2 = 0 then
    (J_X12_down_1 v1)
  else
    (if 0 ≤ a1 then
      (J_X12_down_1 v1)
    else
      (J_X12_down_2 (v1 - 1)))
def B_X12_comes_2 (a1 : Int32) (w1 : Int32) (σ2 : uS) : Option ((Int32 × uS) ⊕ (uS)) :=
  if w1 < 0 then
    (some (.inr σ2))
  else
    (lt ((a1 >>> (w1 &&& 31)) &&& 255 : Int32) fun v5 =>
    lt (if v5 ≤ 127 then v5 else (v5 - 256) : Int32) fun v7 =>
    wr σ2 60 400 (σ2 55 7) v7 fun σ8 =>
    pf σ8 55 7 ((σ8 55 7) + 1) fun σ9 =>
    lt (w1 + (-8) : Int32) fun v10 =>
    some (.inl (v10, σ9)))
def C_X12_comes_3 (σ3 : uS) : Option (uS) :=
  some σ3
def F_X12_comes (a1 : Int32) (σ : uS) : Option (uS) :=
  lp (fun z => B_X12_comes_2 a1 z.1 z.2) (24, σ) (fun z => C_X12_comes_3 z)
def F_X12_feed (a1 : Int32) (a2 : Int32) (a3 : Int32) (a4 : Int32) (a5 : Int32) (σ : uS) : Option (Int32 × uS) :=
  pf σ 55 9 0 fun σ1 =>
  if ((σ1 55 7) + 20) ≤ 400 then
    (cp (F_X12_comes a1 σ1) fun σ3 =>
    cp (F_X12_comes a2 σ3) fun σ4 =>
    cp (F_X12_comes a3 σ4) fun σ5 =>
    cp (F_X12_comes a4 σ5) fun σ6 =>
    cp (F_X12_comes a5 σ6) fun σ7 =>
    some (σ7 55 7, σ7))
  else
    (some ((-1), σ1))
def F_X12_adds (a1 : Int32) (σ : uS) : Option (uS) :=
  wr σ 59 800 (σ 55 6) a1 fun σ1 =>
  pf σ1 55 6 ((σ1 55 6) + 1) fun σ2 =>
  some σ2
def B_X12_samples_2 (a1 : Int32) (w5 : Int32) (σ6 : uS) : Option ((Int32 × uS) ⊕ (uS)) :=
  if a1 ≤ w5 then
    (some (.inr σ6))
  else
    (rd (σ6 60) 400 w5 fun v9 =>
    cp (F_X12_adds v9 σ6) fun σ10 =>
    lt (w5 + 1 : Int32) fun v11 =>
    some (.inl (v11, σ10)))
def C_X12_samples_3 (σ7 : uS) : Option (Int32 × uS) :=
  pf σ7 55 7 0 fun σ12 =>
  some (σ12 55 6, σ12)
def J_X12_samples_4 (σ1 : uS) : Option (Int32 × uS) :=
  some ((-1000), σ1)
def F_X12_samples (a1 : Int32) (σ : uS) : Option (Int32 × uS) :=
  pf σ 55 9 0 fun σ1 =>
  cp (F_X12_isIn a1 0 (σ1 55 7) σ1) fun v2 =>
  if v2 = 0 then
    (J_X12_samples_4 σ1)
  else
    (if ((σ1 55 6) + a1) ≤ 800 then
      (lp (fun z => B_X12_samples_2 a1 z.1 z.2) (0, σ1) (fun z => C_X12_samples_3 z))
    else
      (J_X12_samples_4 σ1))
def B_X12_cycles_3 (a1 : Int32) (a2 : Int32) (w13 : Int32) (σ14 : uS) : Option ((Int32 × uS) ⊕ (uS)) :=
  if a1 ≤ w13 then
    (some (.inr σ14))
  else
    (dv ((2 * a2) * w13) a1 fun v17 =>
    cp (F_X12_adds (a2 - v17) σ14) fun σ18 =>
    lt (w13 + 1 : Int32) fun v19 =>
    some (.inl (v19, σ18)))
def C_X12_cycles_4 (w9 : Int32) (σ15 : uS) : Option ((Int32 × uS) ⊕ (uS)) :=
  lt (w9 + 1 : Int32) fun v20 =>
  some (.inl (v20, σ15))
def B_X12_cycles_5 (a1 : Int32) (a2 : Int32) (a3 : Int32) (w9 : Int32) (σ10 : uS) : Option ((Int32 × uS) ⊕ (uS)) :=
  if a3 ≤ w9 then
    (some (.inr σ10))
  else
    (lp (fun z => B_X12_cycles_3 a1 a2 z.1 z.2) (0, σ10) (fun z => C_X12_cycles_4 w9 z))
def C_X12_cycles_6 (σ11 : uS) : Option (Int32 × uS) :=
  some (σ11 55 6, σ11)
def J_X12_cycles_7 (σ1 : uS) : Option (Int32 × uS) :=
  some ((-1000), σ1)
def F_X12_cycles (a1 : Int32) (a2 : Int32) (a3 : Int32) (σ : uS) : Option (Int32 × uS) :=
  pf σ 55 9 0 fun σ1 =>
  cp (F_X12_isIn a1 2 48 σ1) fun v2 =>
  if v2 = 0 then
    (J_X12_cycles_7 σ1)
  else
    (cp (F_X12_isIn a2 0 127 σ1) fun v4 =>
    if v4 = 0 then
      (J_X12_cycles_7 σ1)
    else
      (cp (F_X12_isIn a3 1 50 σ1) fun v6 =>
      if v6 = 0 then
        (J_X12_cycles_7 σ1)
      else
        (if ((σ1 55 6) + (a1 * a3)) ≤ 800 then
          (lp (fun z => B_X12_cycles_5 a1 a2 a3 z.1 z.2) (0, σ1) (fun z => C_X12_cycles_6 z))
        else
          (J_X12_cycles_7 σ1))))
def F_X12_draw (a1 : Int32) (σ : uS) : Option (Int32 × uS) :=
  pf σ 55 10 (((σ 55 10) * 1103515245) + 12345) fun σ1 =>
  rmd ((((σ1 55 10).toUInt32 >>> (Int32.toUInt32 16 &&& Int32.toUInt32 31)).toInt32) &&& 32767) a1 fun v2 =>
  some (v2, σ1)
def B_X12_noise_2 (a2 : Int32) (a3 : Int32) (w8 : Int32) (σ9 : uS) : Option ((Int32 × uS) ⊕ (uS)) :=
  if a2 ≤ w8 then
    (some (.inr σ9))
  else
    (cl (F_X12_draw ((2 * a3) + 1) σ9) fun v13 σ12 =>
    cp (F_X12_adds (v13 - a3) σ12) fun σ14 =>
    lt (w8 + 1 : Int32) fun v15 =>
    some (.inl (v15, σ14)))
def C_X12_noise_3 (σ10 : uS) : Option (Int32 × uS) :=
  some (σ10 55 6, σ10)
def J_X12_noise_4 (σ1 : uS) : Option (Int32 × uS) :=
  some ((-1000), σ1)
def F_X12_noise (a1 : Int32) (a2 : Int32) (a3 : Int32) (σ : uS) : Option (Int32 × uS) :=
  pf σ 55 9 0 fun σ1 =>
  cp (F_X12_isIn a2 1 400 σ1) fun v2 =>
  if v2 = 0 then
    (J_X12_noise_4 σ1)
  else
    (cp (F_X12_isIn a3 0 127 σ1) fun v4 =>
    if v4 = 0 then
      (J_X12_noise_4 σ1)
    else
      (if ((σ1 55 6) + a2) ≤ 800 then
        (pf σ1 55 10 a1 fun σ7 =>
        lp (fun z => B_X12_noise_2 a2 a3 z.1 z.2) (0, σ7) (fun z => C_X12_noise_3 z))
      else
        (J_X12_noise_4 σ1)))
def J_X12_poke_1 (σ1 : uS) : Option (Int32 × uS) :=
  some ((-1000), σ1)
def F_X12_poke (a1 : Int32) (a2 : Int32) (σ : uS) : Option (Int32 × uS) :=
  pf σ 55 9 0 fun σ1 =>
  cp (F_X12_isIn a1 0 ((σ1 55 6) - 1) σ1) fun v2 =>
  if v2 = 0 then
    (J_X12_poke_1 σ1)
  else
    (cp (F_X12_isIn a2 (-128) 127 σ1) fun v4 =>
    if v4 = 0 then
      (J_X12_poke_1 σ1)
    else
      (rd (σ1 59) 800 a1 fun v6 =>
      wr σ1 59 800 a1 a2 fun σ7 =>
      some (v6, σ7)))
def F_X12_cut (a1 : Int32) (σ : uS) : Option (Int32 × uS) :=
  pf σ 55 9 0 fun σ1 =>
  cp (F_X12_isIn a1 0 (σ1 55 6) σ1) fun v2 =>
  if v2 = 0 then
    (some ((-1000), σ1))
  else
    (pf σ1 55 6 ((σ1 55 6) - a1) fun σ4 =>
    some (σ4 55 6, σ4))
def J_X12_sample_1 (σ3 : uS) (v7 : Int32) : Option (Int32 × uS) :=
  some (v7, σ3)
def F_X12_sample (a1 : Int32) (σ : uS) : Option (Int32 × uS) :=
  pf σ 55 9 0 fun σ1 =>
  cp (F_X12_isIn a1 0 ((σ1 55 6) - 1) σ1) fun v2 =>
  cl (F_X12_right v2 1 σ1) fun v4 σ3 =>
  if v4 = 0 then
    (J_X12_sample_1 σ3 0)
  else
    (rd (σ3 59) 800 a1 fun v6 =>
    J_X12_sample_1 σ3 v6)
def J_X12_at_1 (v4 : Int32) : Option (Int32) :=
  some v4
def F_X12_at (a1 : Int32) (σ : uS) : Option (Int32) :=
  cp (F_X12_isIn a1 0 ((σ 55 6) - 1) σ) fun v1 =>
  if v1 = 0 then
    (J_X12_at_1 0)
  else
    (rd (σ 59) 800 a1 fun v3 =>
    J_X12_at_1 v3)
def J_X12_canBe_2 (v11 : Int32) : Option (Int32) :=
  bz v11 (some v11)
def J_X12_canBe_1 : Option (Int32) :=
  J_X12_canBe_2 1
def J_X12_canBe_3 : Option (Int32) :=
  some 0
def F_X12_canBe (a1 : Int32) (a2 : Int32) (σ : uS) : Option (Int32) :=
  cp (F_X12_isIn a1 2 15 σ) fun v1 =>
  if v1 = 0 then
    (J_X12_canBe_3)
  else
    (rd (σ 57) 16 a1 fun v3 =>
    rd (σ 58) 16 a1 fun v4 =>
    cp (F_X12_isIn a2 v3 v4 σ) fun v5 =>
    if v5 = 0 then
      (J_X12_canBe_3)
    else
      (if a1 = 4 then
        (rd (σ 56) 16 5 fun v12 =>
        lt (if v12 ≤ a2 then 0 else 1 : Int32) fun v14 =>
        bz v14 (some v14))
      else
        (if a1 = 5 then
          (rd (σ 56) 16 4 fun v9 =>
          if a2 ≤ v9 then
            (J_X12_canBe_2 0)
          else
            (J_X12_canBe_1))
        else
          (J_X12_canBe_1))))
def F_X12_bound (a1 : Int32) (a2 : Int32) (σ : uS) : Option (Int32 × uS) :=
  pf σ 55 9 0 fun σ1 =>
  cp (F_X12_canBe a1 a2 σ1) fun v2 =>
  if v2 = 0 then
    (some ((-1000), σ1))
  else
    (rd (σ1 56) 16 a1 fun v4 =>
    wr σ1 56 16 a1 a2 fun σ5 =>
    some (v4, σ5))
def J_X12_frames_1 (v7 : Int32) : Option (Int32) :=
  some v7
def F_X12_frames (σ : uS) : Option (Int32) :=
  rd (σ 56) 16 3 fun v1 =>
  rd (σ 56) 16 5 fun v2 =>
  lt ((((σ 55 6) - v1) - v2) - 1 : Int32) fun v3 =>
  if 0 ≤ v3 then
    (rd (σ 56) 16 2 fun v5 =>
    dv v3 v5 fun v6 =>
    J_X12_frames_1 (v6 + 1))
  else
    (J_X12_frames_1 0)
def F_X12_count (a1 : Int32) (σ : uS) : Option (Int32 × uS) :=
  pf σ 55 9 0 fun σ1 =>
  cp (F_X12_isIn a1 0 17 σ1) fun v2 =>
  cl (F_X12_right v2 1 σ1) fun v4 σ3 =>
  if v4 = 0 then
    (some (0, σ3))
  else
    (if a1 = 0 then
      (some (σ3 55 6, σ3))
    else
      (if a1 = 1 then
        (cp (F_X12_frames σ3) fun v8 =>
        some (v8, σ3))
      else
        (if a1 = 16 then
          (some (σ3 55 7, σ3))
        else
          (if a1 = 17 then
            (some (σ3 55 8, σ3))
          else
            (rd (σ3 56) 16 a1 fun v11 =>
            some (v11, σ3))))))
def B_X12_laysDiffs_3 (v2 : Int32) (w4 : Int32) (σ5 : uS) (w9 : Int32) (w10 : Int32) : Option ((Int32 × Int32) ⊕ (Int32)) :=
  rd (σ5 56) 16 3 fun v12 =>
  if v12 ≤ w10 then
    (some (.inr w9))
  else
    (rd (σ5 59) 800 (v2 + w10) fun v14 =>
    rd (σ5 59) 800 ((v2 + w10) + w4) fun v15 =>
    cp (F_X12_apart v14 v15 σ5) fun v16 =>
    lt (w9 + v16 : Int32) fun v17 =>
    lt (w10 + 1 : Int32) fun v18 =>
    some (.inl (v17, v18)))
def J_X12_laysDiffs_5 (v22 : Int32) (w4 : Int32) (σ19 : uS) (v26 : Int32) : Option ((Int32 × Int32 × uS) ⊕ (uS)) :=
  wr σ19 63 50 w4 v26 fun σ27 =>
  lt (w4 + 1 : Int32) fun v28 =>
  some (.inl (v22, v28, σ27))
def J_X12_laysDiffs_4 (v22 : Int32) (w4 : Int32) (σ19 : uS) : Option ((Int32 × Int32 × uS) ⊕ (uS)) :=
  J_X12_laysDiffs_5 v22 w4 σ19 1000
def C_X12_laysDiffs_6 (w3 : Int32) (w4 : Int32) (σ5 : uS) (v11 : Int32) : Option ((Int32 × Int32 × uS) ⊕ (uS)) :=
  wr σ5 62 50 w4 v11 fun σ19 =>
  lt (if w4 = 0 then 0 else v11 : Int32) fun v21 =>
  lt (w3 + v21 : Int32) fun v22 =>
  if w4 = 0 then
    (J_X12_laysDiffs_4 v22 w4 σ19)
  else
    (if v22 = 0 then
      (J_X12_laysDiffs_4 v22 w4 σ19)
    else
      (dv ((1000 * w4) * v11) v22 fun v25 =>
      J_X12_laysDiffs_5 v22 w4 σ19 v25))
def B_X12_laysDiffs_7 (v2 : Int32) (w3 : Int32) (w4 : Int32) (σ5 : uS) : Option ((Int32 × Int32 × uS) ⊕ (uS)) :=
  rd (σ5 56) 16 5 fun v7 =>
  if (v7 + 1) < w4 then
    (some (.inr σ5))
  else
    (lp (fun z => B_X12_laysDiffs_3 v2 w4 σ5 z.1 z.2) (0, 0) (fun z => C_X12_laysDiffs_6 w3 w4 σ5 z))
def C_X12_laysDiffs_8 (σ6 : uS) : Option (uS) :=
  some σ6
def F_X12_laysDiffs (a1 : Int32) (σ : uS) : Option (uS) :=
  rd (σ 56) 16 2 fun v1 =>
  lt (a1 * v1 : Int32) fun v2 =>
  lp (fun z => B_X12_laysDiffs_7 v2 z.1 z.2.1 z.2.2) (0, 0, σ) (fun z => C_X12_laysDiffs_8 z)
def B_X12_loudOf_2 (a1 : Int32) (σ : uS) (w1 : Int32) (w2 : Int32) : Option ((Int32 × Int32) ⊕ (Int32)) :=
  rd (σ 56) 16 3 fun v4 =>
  if v4 ≤ w2 then
    (some (.inr w1))
  else
    (rd (σ 56) 16 2 fun v6 =>
    rd (σ 59) 800 ((a1 * v6) + w2) fun v7 =>
    cp (F_X12_apart v7 0 σ) fun v8 =>
    lt (w1 + v8 : Int32) fun v9 =>
    lt (w2 + 1 : Int32) fun v10 =>
    some (.inl (v9, v10)))
def C_X12_loudOf_3 (v3 : Int32) : Option (Int32) :=
  some v3
def F_X12_loudOf (a1 : Int32) (σ : uS) : Option (Int32) :=
  lp (fun z => B_X12_loudOf_2 a1 σ z.1 z.2) (0, 0) (fun z => C_X12_loudOf_3 z)
def F_X12_isFrame (a1 : Int32) (σ : uS) : Option (Int32 × uS) :=
  cp (F_X12_frames σ) fun v1 =>
  cp (F_X12_isIn a1 0 (v1 - 1) σ) fun v2 =>
  cl (F_X12_right v2 1 σ) fun v4 σ3 =>
  bz v4 (some (v4, σ3))
def F_X12_isLag (a1 : Int32) (σ : uS) : Option (Int32 × uS) :=
  rd (σ 56) 16 5 fun v1 =>
  cp (F_X12_isIn a1 0 (v1 + 1) σ) fun v2 =>
  cl (F_X12_right v2 1 σ) fun v4 σ3 =>
  bz v4 (some (v4, σ3))
def J_X12_diff_1 (σ10 : uS) : Option (Int32 × uS) :=
  some (0, σ10)
def F_X12_diff (a1 : Int32) (a2 : Int32) (σ : uS) : Option (Int32 × uS) :=
  pf σ 55 9 0 fun σ1 =>
  cl (F_X12_isFrame a1 σ1) fun v3 σ2 =>
  if v3 = 0 then
    (J_X12_diff_1 σ2)
  else
    (cl (F_X12_isLag a2 σ2) fun v6 σ5 =>
    if v6 = 0 then
      (J_X12_diff_1 σ5)
    else
      (cp (F_X12_laysDiffs a1 σ5) fun σ8 =>
      rd (σ8 62) 50 a2 fun v9 =>
      some (v9, σ8)))
def J_X12_rel_1 (σ10 : uS) : Option (Int32 × uS) :=
  some (0, σ10)
def F_X12_rel (a1 : Int32) (a2 : Int32) (σ : uS) : Option (Int32 × uS) :=
  pf σ 55 9 0 fun σ1 =>
  cl (F_X12_isFrame a1 σ1) fun v3 σ2 =>
  if v3 = 0 then
    (J_X12_rel_1 σ2)
  else
    (cl (F_X12_isLag a2 σ2) fun v6 σ5 =>
    if v6 = 0 then
      (J_X12_rel_1 σ5)
    else
      (cp (F_X12_laysDiffs a1 σ5) fun σ8 =>
      rd (σ8 63) 50 a2 fun v9 =>
      some (v9, σ8)))
def J_X12_loud_1 (σ2 : uS) (v6 : Int32) : Option (Int32 × uS) :=
  some (v6, σ2)
def F_X12_loud (a1 : Int32) (σ : uS) : Option (Int32 × uS) :=
  pf σ 55 9 0 fun σ1 =>
  cl (F_X12_isFrame a1 σ1) fun v3 σ2 =>
  if v3 = 0 then
    (J_X12_loud_1 σ2 0)
  else
    (cp (F_X12_loudOf a1 σ2) fun v5 =>
    J_X12_loud_1 σ2 v5)
def J_X12_isDipAt_2 (v10 : Int32) : Option (Int32) :=
  bz v10 (some v10)
def J_X12_isDipAt_1 : Option (Int32) :=
  J_X12_isDipAt_2 0
def F_X12_isDipAt (a1 : Int32) (σ : uS) : Option (Int32) :=
  rd (σ 63) 50 a1 fun v1 =>
  rd (σ 56) 16 6 fun v2 =>
  if v2 < v1 then
    (J_X12_isDipAt_1)
  else
    (rd (σ 63) 50 a1 fun v4 =>
    rd (σ 63) 50 (a1 - 1) fun v5 =>
    if v5 ≤ v4 then
      (J_X12_isDipAt_1)
    else
      (rd (σ 63) 50 a1 fun v7 =>
      rd (σ 63) 50 (a1 + 1) fun v8 =>
      if v8 < v7 then
        (J_X12_isDipAt_1)
      else
        (J_X12_isDipAt_2 1)))
def J_X12_laysDips_3 (w6 : Int32) (σ7 : uS) (v14 : Int32) : Option ((Int32 × uS) ⊕ (uS)) :=
  wr σ7 67 50 w6 (vp_nar .boolean v14) fun σ15 =>
  lt (w6 + 1 : Int32) fun v16 =>
  some (.inl (v16, σ15))
def J_X12_laysDips_2 (w6 : Int32) (σ7 : uS) : Option ((Int32 × uS) ⊕ (uS)) :=
  J_X12_laysDips_3 w6 σ7 0
def B_X12_laysDips_4 (v4 : Int32) (w6 : Int32) (σ7 : uS) : Option ((Int32 × uS) ⊕ (uS)) :=
  rd (σ7 56) 16 5 fun v9 =>
  if v9 < w6 then
    (some (.inr σ7))
  else
    (if v4 = 0 then
      (J_X12_laysDips_2 w6 σ7)
    else
      (cp (F_X12_isDipAt w6 σ7) fun v12 =>
      if v12 = 0 then
        (J_X12_laysDips_2 w6 σ7)
      else
        (J_X12_laysDips_3 w6 σ7 1)))
def C_X12_laysDips_5 (σ8 : uS) : Option (uS) :=
  some σ8
def F_X12_laysDips (a1 : Int32) (σ : uS) : Option (uS) :=
  cp (F_X12_loudOf a1 σ) fun v1 =>
  rd (σ 56) 16 14 fun v2 =>
  lt (if v1 < v2 then 0 else 1 : Int32) fun v4 =>
  rd (σ 56) 16 4 fun v5 =>
  lp (fun z => B_X12_laysDips_4 v4 z.1 z.2) (v5, σ) (fun z => C_X12_laysDips_5 z)
def J_X12_aheadOf_3 (w3 : Int32) (v17 : Int32) : Option ((Int32 × Int32) ⊕ (Int32)) :=
  lt (w3 + 1 : Int32) fun v18 =>
  some (.inl (v17, v18))
def J_X12_aheadOf_2 (w2 : Int32) (w3 : Int32) : Option ((Int32 × Int32) ⊕ (Int32)) :=
  lt (w2 + 1 : Int32) fun v16 =>
  J_X12_aheadOf_3 w3 v16
def B_X12_aheadOf_4 (a1 : Int32) (σ : uS) (w2 : Int32) (w3 : Int32) : Option ((Int32 × Int32) ⊕ (Int32)) :=
  rd (σ 56) 16 5 fun v5 =>
  if v5 < w3 then
    (some (.inr w2))
  else
    (rd (σ 67) 50 w3 fun v7 =>
    if v7 = 0 then
      (J_X12_aheadOf_3 w3 w2)
    else
      (rd (σ 63) 50 w3 fun v9 =>
      rd (σ 63) 50 a1 fun v10 =>
      if v9 < v10 then
        (J_X12_aheadOf_2 w2 w3)
      else
        (rd (σ 63) 50 w3 fun v12 =>
        rd (σ 63) 50 a1 fun v13 =>
        if v12 = v13 then
          (if a1 ≤ w3 then
            (J_X12_aheadOf_3 w3 w2)
          else
            (J_X12_aheadOf_2 w2 w3))
        else
          (J_X12_aheadOf_3 w3 w2))))
def C_X12_aheadOf_5 (v4 : Int32) : Option (Int32) :=
  some v4
def F_X12_aheadOf (a1 : Int32) (σ : uS) : Option (Int32) :=
  rd (σ 56) 16 4 fun v1 =>
  lp (fun z => B_X12_aheadOf_4 a1 σ z.1 z.2) (0, v1) (fun z => C_X12_aheadOf_5 z)
def J_X12_laysFrame_2 (w5 : Int32) (v21 : Int32) (σ22 : uS) : Option ((Int32 × Int32 × uS) ⊕ (Int32 × uS)) :=
  lt (w5 + 1 : Int32) fun v23 =>
  some (.inl (v21, v23, σ22))
def B_X12_laysFrame_3 (a1 : Int32) (w4 : Int32) (w5 : Int32) (σ6 : uS) : Option ((Int32 × Int32 × uS) ⊕ (Int32 × uS)) :=
  rd (σ6 56) 16 5 fun v9 =>
  if v9 < w5 then
    (some (.inr (w4, σ6)))
  else
    (rd (σ6 67) 50 w5 fun v11 =>
    if v11 = 0 then
      (J_X12_laysFrame_2 w5 w4 σ6)
    else
      (cp (F_X12_aheadOf w5 σ6) fun v13 =>
      rd (σ6 56) 16 7 fun v14 =>
      if v13 < v14 then
        (wr σ6 64 660 ((6 * a1) + w4) w5 fun σ16 =>
        rd (σ16 63) 50 w5 fun v17 =>
        rd (σ16 56) 16 8 fun v18 =>
        wr σ16 65 660 ((6 * a1) + w4) (v17 + (v18 * w5)) fun σ19 =>
        lt (w4 + 1 : Int32) fun v20 =>
        J_X12_laysFrame_2 w5 v20 σ19)
      else
        (J_X12_laysFrame_2 w5 w4 σ6)))
def C_X12_laysFrame_4 (a1 : Int32) (v7 : Int32) (σ8 : uS) : Option (uS) :=
  wr σ8 64 660 ((6 * a1) + v7) 0 fun σ24 =>
  rd (σ24 56) 16 9 fun v25 =>
  wr σ24 65 660 ((6 * a1) + v7) v25 fun σ26 =>
  wr σ26 66 110 a1 (v7 + 1) fun σ27 =>
  some σ27
def F_X12_laysFrame (a1 : Int32) (σ : uS) : Option (uS) :=
  cp (F_X12_laysDiffs a1 σ) fun σ1 =>
  cp (F_X12_laysDips a1 σ1) fun σ2 =>
  rd (σ2 56) 16 4 fun v3 =>
  lp (fun z => B_X12_laysFrame_3 a1 z.1 z.2.1 z.2.2) (0, v3, σ2) (fun z => C_X12_laysFrame_4 a1 z.1 z.2)
def B_X12_laysAll_2 (w3 : Int32) (σ4 : uS) : Option ((Int32 × uS) ⊕ (uS)) :=
  if (σ4 55 17) ≤ w3 then
    (some (.inr σ4))
  else
    (cp (F_X12_laysFrame w3 σ4) fun σ7 =>
    lt (w3 + 1 : Int32) fun v8 =>
    some (.inl (v8, σ7)))
def C_X12_laysAll_3 (σ5 : uS) : Option (uS) :=
  some σ5
def F_X12_laysAll (σ : uS) : Option (uS) :=
  cp (F_X12_frames σ) fun v1 =>
  pf σ 55 17 v1 fun σ2 =>
  lp (fun z => B_X12_laysAll_2 z.1 z.2) (0, σ2) (fun z => C_X12_laysAll_3 z)
def F_X12_lagAt1 (a1 : Int32) (a2 : Int32) (σ : uS) : Option (Int32) :=
  rd (σ 64) 660 ((6 * a1) + a2) fun v1 =>
  some v1
def F_X12_ownAt (a1 : Int32) (a2 : Int32) (σ : uS) : Option (Int32) :=
  rd (σ 65) 660 ((6 * a1) + a2) fun v1 =>
  some v1
def J_X12_doubleOf_2 (w3 : Int32) : Option ((Int32) ⊕ ((Unit) ⊕ (Int32))) :=
  lt (w3 + 1 : Int32) fun v11 =>
  some (.inl v11)
def B_X12_doubleOf_3 (a1 : Int32) (a2 : Int32) (v1 : Int32) (σ : uS) (w3 : Int32) : Option ((Int32) ⊕ ((Unit) ⊕ (Int32))) :=
  rd (σ 66) 110 a1 fun v4 =>
  if v4 ≤ w3 then
    (some (.inr (.inl ())))
  else
    (cp (F_X12_lagAt1 a1 w3 σ) fun v6 =>
    if w3 = a2 then
      (J_X12_doubleOf_2 w3)
    else
      (if v6 ≤ 0 then
        (J_X12_doubleOf_2 w3)
      else
        (cp (F_X12_apart v1 (2 * v6) σ) fun v9 =>
        if 1 < v9 then
          (J_X12_doubleOf_2 w3)
        else
          (some (.inr (.inr w3))))))
def C_X12_doubleOf_4 : Option (Int32) :=
  some (-1)
def F_X12_doubleOf (a1 : Int32) (a2 : Int32) (σ : uS) : Option (Int32) :=
  cp (F_X12_lagAt1 a1 a2 σ) fun v1 =>
  if v1 = 0 then
    (some (-1))
  else
    (lp (fun z => B_X12_doubleOf_3 a1 a2 v1 σ z) 0 (fun z => ex2 (fun x => C_X12_doubleOf_4) (fun q => some q) z))
def F_X12_candidates (a1 : Int32) (σ : uS) : Option (Int32 × uS) :=
  pf σ 55 9 0 fun σ1 =>
  cl (F_X12_isFrame a1 σ1) fun v3 σ2 =>
  if v3 = 0 then
    (some (0, σ2))
  else
    (cp (F_X12_laysFrame a1 σ2) fun σ5 =>
    rd (σ5 66) 110 a1 fun v6 =>
    some (v6, σ5))
def F_X12_isCandidate (a1 : Int32) (a2 : Int32) (σ : uS) : Option (Int32 × uS) :=
  cl (F_X12_isFrame a1 σ) fun v2 σ1 =>
  if v2 = 0 then
    (some (0, σ1))
  else
    (cp (F_X12_laysFrame a1 σ1) fun σ4 =>
    rd (σ4 66) 110 a1 fun v5 =>
    cp (F_X12_isIn a2 0 (v5 - 1) σ4) fun v6 =>
    cl (F_X12_right v6 1 σ4) fun v8 σ7 =>
    bz v8 (some (v8, σ7)))
def B_X12_candidate_2 (a1 : Int32) (a2 : Int32) (σ6 : uS) (w15 : Int32) (w16 : Int32) : Option ((Int32 × Int32) ⊕ (Int32)) :=
  rd (σ6 66) 110 a1 fun v18 =>
  if v18 ≤ w16 then
    (some (.inr w15))
  else
    (cp (F_X12_ownAt a1 w16 σ6) fun v20 =>
    cp (F_X12_ownAt a1 a2 σ6) fun v21 =>
    lt (if v21 ≤ v20 then 0 else 1 : Int32) fun v23 =>
    lt (w15 + v23 : Int32) fun v24 =>
    lt (w16 + 1 : Int32) fun v25 =>
    some (.inl (v24, v25)))
def C_X12_candidate_3 (σ6 : uS) (v17 : Int32) : Option (Int32 × uS) :=
  some (v17, σ6)
def J_X12_candidate_4 (σ26 : uS) : Option (Int32 × uS) :=
  some (0, σ26)
def F_X12_candidate (a1 : Int32) (a2 : Int32) (a3 : Int32) (σ : uS) : Option (Int32 × uS) :=
  pf σ 55 9 0 fun σ1 =>
  cl (F_X12_isCandidate a1 a2 σ1) fun v3 σ2 =>
  if v3 = 0 then
    (J_X12_candidate_4 σ2)
  else
    (cp (F_X12_isIn a3 0 3 σ2) fun v5 =>
    cl (F_X12_right v5 1 σ2) fun v7 σ6 =>
    if v7 = 0 then
      (J_X12_candidate_4 σ6)
    else
      (if a3 = 0 then
        (cp (F_X12_lagAt1 a1 a2 σ6) fun v10 =>
        some (v10, σ6))
      else
        (if a3 = 1 then
          (cp (F_X12_ownAt a1 a2 σ6) fun v12 =>
          some (v12, σ6))
        else
          (if a3 = 2 then
            (cp (F_X12_doubleOf a1 a2 σ6) fun v14 =>
            some (v14, σ6))
          else
            (lp (fun z => B_X12_candidate_2 a1 a2 σ6 z.1 z.2) (0, 0) (fun z => C_X12_candidate_3 σ6 z))))))
def J_X12_fine_1 (σ8 : uS) (v26 : Int32) : Option (Int32 × uS) :=
  some (v26, σ8)
def J_X12_fine_2 (σ29 : uS) : Option (Int32 × uS) :=
  some (0, σ29)
def F_X12_fine (a1 : Int32) (a2 : Int32) (a3 : Int32) (σ : uS) : Option (Int32 × uS) :=
  pf σ 55 9 0 fun σ1 =>
  cl (F_X12_isCandidate a1 a2 σ1) fun v3 σ2 =>
  if v3 = 0 then
    (J_X12_fine_2 σ2)
  else
    (cp (F_X12_lagAt1 a1 a2 σ2) fun v5 =>
    lt (if v5 ≤ 0 then 0 else 1 : Int32) fun v7 =>
    cl (F_X12_right v7 1 σ2) fun v9 σ8 =>
    if v9 = 0 then
      (J_X12_fine_2 σ8)
    else
      (cp (F_X12_lagAt1 a1 a2 σ8) fun v11 =>
      rd (σ8 62) 50 (v11 - 1) fun v12 =>
      rd (σ8 62) 50 v11 fun v13 =>
      rd (σ8 62) 50 (v11 + 1) fun v14 =>
      lt (2 * ((v12 - (2 * v13)) + v14) : Int32) fun v15 =>
      if v15 = 0 then
        (lt (if a3 = 0 then v11 else 1 : Int32) fun v28 =>
        some (v28, σ8))
      else
        (rd (σ8 62) 50 (v11 - 1) fun v17 =>
        rd (σ8 62) 50 (v11 + 1) fun v18 =>
        lt (((v11 * v15) + v17) - v18 : Int32) fun v19 =>
        cp (F_X12_divisor v19 v15 σ8) fun v20 =>
        lt (if 0 ≤ v15 then v20 else (-v20) : Int32) fun v22 =>
        if a3 = 0 then
          (dv v19 v22 fun v24 =>
          J_X12_fine_1 σ8 v24)
        else
          (dv v15 v22 fun v25 =>
          J_X12_fine_1 σ8 v25))))
def F_X12_isOctave (a1 : Int32) (a2 : Int32) (σ : uS) : Option (Int32) :=
  lt (if a2 ≤ a1 then a2 else a1 : Int32) fun v2 =>
  lt (if a2 ≤ a1 then a1 else a2 : Int32) fun v4 =>
  lt (if v4 < ((2 * v2) - 1) then 0 else 1 : Int32) fun v6 =>
  bz v6 (some v6)
def J_X12_step_1 (a1 : Int32) (a2 : Int32) (σ : uS) : Option (Int32) :=
  lt (if a1 = a2 then 0 else (σ 55 22) : Int32) fun v9 =>
  some v9
def F_X12_step (a1 : Int32) (a2 : Int32) (σ : uS) : Option (Int32) :=
  if a1 = 0 then
    (J_X12_step_1 a1 a2 σ)
  else
    (if a2 = 0 then
      (J_X12_step_1 a1 a2 σ)
    else
      (rd (σ 56) 16 10 fun v3 =>
      cp (F_X12_apart a1 a2 σ) fun v4 =>
      cp (F_X12_isOctave a1 a2 σ) fun v5 =>
      lt (if v5 = 0 then 0 else (σ 55 21) : Int32) fun v7 =>
      some ((v3 * v4) + v7)))
def F_X12_between (a1 : Int32) (a2 : Int32) (a3 : Int32) (σ : uS) : Option (Int32) :=
  cp (F_X12_lagAt1 a1 a2 σ) fun v1 =>
  cp (F_X12_lagAt1 (a1 + 1) a3 σ) fun v2 =>
  cp (F_X12_step v1 v2 σ) fun v3 =>
  some v3
def B_X12_opens_2 (w1 : Int32) (σ2 : uS) : Option ((Int32 × uS) ⊕ (uS)) :=
  if 660 ≤ w1 then
    (some (.inr σ2))
  else
    (wr σ2 70 660 w1 (vp_nar .boolean 0) fun σ5 =>
    lt (w1 + 1 : Int32) fun v6 =>
    some (.inl (v6, σ5)))
def C_X12_opens_3 (σ3 : uS) : Option (uS) :=
  rd (σ3 56) 16 11 fun v7 =>
  pf σ3 55 21 v7 fun σ8 =>
  rd (σ8 56) 16 12 fun v9 =>
  pf σ8 55 22 v9 fun σ10 =>
  some σ10
def F_X12_opens (σ : uS) : Option (uS) :=
  lp (fun z => B_X12_opens_2 z.1 z.2) (0, σ) (fun z => C_X12_opens_3 z)
def J_X12_leavesOnly_2 (w1 : Int32) (σ8 : uS) : Option ((Int32 × uS) ⊕ (uS)) :=
  lt (w1 + 1 : Int32) fun v9 =>
  some (.inl (v9, σ8))
def B_X12_leavesOnly_3 (a1 : Int32) (a2 : Int32) (w1 : Int32) (σ2 : uS) : Option ((Int32 × uS) ⊕ (uS)) :=
  rd (σ2 66) 110 a1 fun v4 =>
  if v4 ≤ w1 then
    (some (.inr σ2))
  else
    (if w1 = a2 then
      (J_X12_leavesOnly_2 w1 σ2)
    else
      (wr σ2 70 660 ((6 * a1) + w1) (vp_nar .boolean 1) fun σ7 =>
      J_X12_leavesOnly_2 w1 σ7))
def C_X12_leavesOnly_4 (σ3 : uS) : Option (uS) :=
  some σ3
def F_X12_leavesOnly (a1 : Int32) (a2 : Int32) (σ : uS) : Option (uS) :=
  lp (fun z => B_X12_leavesOnly_3 a1 a2 z.1 z.2) (0, σ) (fun z => C_X12_leavesOnly_4 z)
def J_X12_leastBehind_2 (w2 : Int32) (v12 : Int32) : Option ((Int32 × Int32) ⊕ (Int32)) :=
  lt (w2 + 1 : Int32) fun v13 =>
  some (.inl (v12, v13))
def B_X12_leastBehind_3 (a1 : Int32) (a2 : Int32) (σ : uS) (w1 : Int32) (w2 : Int32) : Option ((Int32 × Int32) ⊕ (Int32)) :=
  rd (σ 66) 110 (a1 + 1) fun v4 =>
  if v4 ≤ w2 then
    (some (.inr w1))
  else
    (rd (σ 68) 660 ((6 * (a1 + 1)) + w2) fun v6 =>
    if 2000000000 ≤ v6 then
      (J_X12_leastBehind_2 w2 w1)
    else
      (cp (F_X12_between a1 a2 w2 σ) fun v8 =>
      if w1 ≤ (v8 + v6) then
        (J_X12_leastBehind_2 w2 w1)
      else
        (cp (F_X12_between a1 a2 w2 σ) fun v10 =>
        lt (v10 + v6 : Int32) fun v11 =>
        J_X12_leastBehind_2 w2 v11)))
def C_X12_leastBehind_4 (v3 : Int32) : Option (Int32) :=
  some v3
def F_X12_leastBehind (a1 : Int32) (a2 : Int32) (σ : uS) : Option (Int32) :=
  lp (fun z => B_X12_leastBehind_3 a1 a2 σ z.1 z.2) (2000000000, 0) (fun z => C_X12_leastBehind_4 z)
def J_X12_laysCosts_4 (w2 : Int32) (w6 : Int32) (σ7 : uS) (v18 : Int32) : Option ((Int32 × uS) ⊕ (uS)) :=
  wr σ7 68 660 ((6 * w2) + w6) v18 fun σ19 =>
  lt (w6 + 1 : Int32) fun v20 =>
  some (.inl (v20, σ19))
def J_X12_laysCosts_3 (w2 : Int32) (w6 : Int32) (σ7 : uS) : Option ((Int32 × uS) ⊕ (uS)) :=
  J_X12_laysCosts_4 w2 w6 σ7 2000000000
def J_X12_laysCosts_5 (w2 : Int32) (w6 : Int32) (σ7 : uS) (v13 : Int32) : Option ((Int32 × uS) ⊕ (uS)) :=
  rd (σ7 70) 660 ((6 * w2) + w6) fun v14 =>
  if v14 = 0 then
    (if v13 = 2000000000 then
      (J_X12_laysCosts_3 w2 w6 σ7)
    else
      (cp (F_X12_ownAt w2 w6 σ7) fun v17 =>
      J_X12_laysCosts_4 w2 w6 σ7 (v17 + v13)))
  else
    (J_X12_laysCosts_3 w2 w6 σ7)
def B_X12_laysCosts_6 (a1 : Int32) (w2 : Int32) (w6 : Int32) (σ7 : uS) : Option ((Int32 × uS) ⊕ (uS)) :=
  rd (σ7 66) 110 w2 fun v9 =>
  if v9 ≤ w6 then
    (some (.inr σ7))
  else
    (if w2 = a1 then
      (J_X12_laysCosts_5 w2 w6 σ7 0)
    else
      (cp (F_X12_leastBehind w2 w6 σ7) fun v12 =>
      J_X12_laysCosts_5 w2 w6 σ7 v12))
def C_X12_laysCosts_7 (w2 : Int32) (σ8 : uS) : Option ((Int32 × uS) ⊕ (uS)) :=
  lt (w2 + (-1) : Int32) fun v21 =>
  some (.inl (v21, σ8))
def B_X12_laysCosts_8 (a1 : Int32) (w2 : Int32) (σ3 : uS) : Option ((Int32 × uS) ⊕ (uS)) :=
  if w2 < 0 then
    (some (.inr σ3))
  else
    (lp (fun z => B_X12_laysCosts_6 a1 w2 z.1 z.2) (0, σ3) (fun z => C_X12_laysCosts_7 w2 z))
def C_X12_laysCosts_9 (σ4 : uS) : Option (uS) :=
  some σ4
def F_X12_laysCosts (a1 : Int32) (σ : uS) : Option (uS) :=
  pf σ 55 23 a1 fun σ1 =>
  lp (fun z => B_X12_laysCosts_8 a1 z.1 z.2) (a1, σ1) (fun z => C_X12_laysCosts_9 z)
def J_X12_leastOfAll_2 (w3 : Int32) (v10 : Int32) : Option ((Int32 × Int32) ⊕ (Int32)) :=
  lt (w3 + 1 : Int32) fun v11 =>
  some (.inl (v10, v11))
def B_X12_leastOfAll_3 (σ : uS) (w2 : Int32) (w3 : Int32) : Option ((Int32 × Int32) ⊕ (Int32)) :=
  rd (σ 66) 110 0 fun v5 =>
  if v5 ≤ w3 then
    (some (.inr w2))
  else
    (rd (σ 68) 660 w3 fun v7 =>
    if w2 ≤ v7 then
      (J_X12_leastOfAll_2 w3 w2)
    else
      (rd (σ 68) 660 w3 fun v9 =>
      J_X12_leastOfAll_2 w3 v9))
def C_X12_leastOfAll_4 (v4 : Int32) : Option (Int32) :=
  some v4
def F_X12_leastOfAll (σ : uS) : Option (Int32) :=
  if 0 ≤ (σ 55 23) then
    (lp (fun z => B_X12_leastOfAll_3 σ z.1 z.2) (2000000000, 0) (fun z => C_X12_leastOfAll_4 z))
  else
    (some 0)
def J_X12_reached_1 (v6 : Int32) : Option (Int32) :=
  some v6
def F_X12_reached (a1 : Int32) (a2 : Int32) (σ : uS) : Option (Int32) :=
  rd (σ 68) 660 ((6 * a1) + a2) fun v1 =>
  if v1 = 2000000000 then
    (some 2000000000)
  else
    (if a1 = 0 then
      (J_X12_reached_1 v1)
    else
      (rd (σ 69) 110 (a1 - 1) fun v4 =>
      cp (F_X12_between (a1 - 1) v4 a2 σ) fun v5 =>
      J_X12_reached_1 (v1 + v5)))
def B_X12_goesAlong_3 (w2 : Int32) (w3 : Int32) (σ4 : uS) (w7 : Int32) : Option ((Int32) ⊕ (Int32)) :=
  cp (F_X12_reached w3 w7 σ4) fun v9 =>
  if v9 = w2 then
    (some (.inr w7))
  else
    (lt (w7 + 1 : Int32) fun v11 =>
    some (.inl v11))
def C_X12_goesAlong_4 (w3 : Int32) (σ4 : uS) (v8 : Int32) : Option ((Int32 × Int32 × uS) ⊕ (uS)) :=
  wr σ4 69 110 w3 v8 fun σ12 =>
  rd (σ12 68) 660 ((6 * w3) + v8) fun v13 =>
  cp (F_X12_ownAt w3 v8 σ12) fun v14 =>
  lt (v13 - v14 : Int32) fun v15 =>
  lt (w3 + 1 : Int32) fun v16 =>
  some (.inl (v15, v16, σ12))
def B_X12_goesAlong_5 (w2 : Int32) (w3 : Int32) (σ4 : uS) : Option ((Int32 × Int32 × uS) ⊕ (uS)) :=
  if (σ4 55 23) < w3 then
    (some (.inr σ4))
  else
    (lp (fun z => B_X12_goesAlong_3 w2 w3 σ4 z) 0 (fun z => C_X12_goesAlong_4 w3 σ4 z))
def C_X12_goesAlong_6 (σ5 : uS) : Option (uS) :=
  some σ5
def F_X12_goesAlong (σ : uS) : Option (uS) :=
  cp (F_X12_leastOfAll σ) fun v1 =>
  lp (fun z => B_X12_goesAlong_5 z.1 z.2.1 z.2.2) (v1, 0, σ) (fun z => C_X12_goesAlong_6 z)
def F_X12_laysPath (σ : uS) : Option (uS) :=
  cp (F_X12_laysAll σ) fun σ1 =>
  cp (F_X12_opens σ1) fun σ2 =>
  cp (F_X12_laysCosts ((σ2 55 17) - 1) σ2) fun σ3 =>
  cp (F_X12_goesAlong σ3) fun σ4 =>
  some σ4
def F_X12_lagOnPath (a1 : Int32) (σ : uS) : Option (Int32) :=
  rd (σ 69) 110 a1 fun v1 =>
  cp (F_X12_lagAt1 a1 v1 σ) fun v2 =>
  some v2
def J_X12_part_6 (v24 : Int32) : Option (Int32) :=
  some v24
def J_X12_part_5 (v20 : Int32) : Option (Int32) :=
  some v20
def J_X12_part_4 : Option (Int32) :=
  J_X12_part_5 0
def J_X12_part_3 (v16 : Int32) : Option (Int32) :=
  some v16
def J_X12_part_2 : Option (Int32) :=
  J_X12_part_3 0
def J_X12_part_7 (a2 : Int32) (v7 : Int32) (v8 : Int32) (σ : uS) (v11 : Int32) : Option (Int32) :=
  if a2 = 2 then
    (if v11 = 0 then
      (J_X12_part_6 0)
    else
      (rd (σ 56) 16 10 fun v22 =>
      cp (F_X12_apart v7 v8 σ) fun v23 =>
      J_X12_part_6 (v22 * v23)))
  else
    (if a2 = 3 then
      (if v11 = 0 then
        (J_X12_part_4)
      else
        (cp (F_X12_isOctave v7 v8 σ) fun v18 =>
        if v18 = 0 then
          (J_X12_part_4)
        else
          (J_X12_part_5 (σ 55 21))))
    else
      (if v11 = 0 then
        (if v7 = v8 then
          (J_X12_part_2)
        else
          (J_X12_part_3 (σ 55 22)))
      else
        (J_X12_part_2)))
def J_X12_part_1 (a2 : Int32) (v7 : Int32) (v8 : Int32) (σ : uS) : Option (Int32) :=
  J_X12_part_7 a2 v7 v8 σ 0
def J_X12_part_8 (v4 : Int32) : Option (Int32) :=
  some v4
def J_X12_part_9 (a1 : Int32) (a2 : Int32) (σ : uS) (v4 : Int32) : Option (Int32) :=
  if a1 = 0 then
    (J_X12_part_8 v4)
  else
    (if a2 = 1 then
      (J_X12_part_8 v4)
    else
      (cp (F_X12_lagOnPath (a1 - 1) σ) fun v7 =>
      cp (F_X12_lagOnPath a1 σ) fun v8 =>
      if v7 ≤ 0 then
        (J_X12_part_1 a2 v7 v8 σ)
      else
        (if v8 ≤ 0 then
          (J_X12_part_1 a2 v7 v8 σ)
        else
          (J_X12_part_7 a2 v7 v8 σ 1))))
def F_X12_part (a1 : Int32) (a2 : Int32) (σ : uS) : Option (Int32) :=
  if a2 = 1 then
    (rd (σ 69) 110 a1 fun v2 =>
    cp (F_X12_ownAt a1 v2 σ) fun v3 =>
    J_X12_part_9 a1 a2 σ v3)
  else
    (J_X12_part_9 a1 a2 σ 0)
def B_X12_cost_2 (a1 : Int32) (σ6 : uS) (w8 : Int32) (w9 : Int32) : Option ((Int32 × Int32) ⊕ (Int32)) :=
  if (σ6 55 17) ≤ w9 then
    (some (.inr w8))
  else
    (cp (F_X12_part w9 a1 σ6) fun v12 =>
    lt (w8 + v12 : Int32) fun v13 =>
    lt (w9 + 1 : Int32) fun v14 =>
    some (.inl (v13, v14)))
def C_X12_cost_3 (σ6 : uS) (v10 : Int32) : Option (Int32 × uS) :=
  some (v10, σ6)
def F_X12_cost (a1 : Int32) (σ : uS) : Option (Int32 × uS) :=
  pf σ 55 9 0 fun σ1 =>
  cp (F_X12_isIn a1 0 4 σ1) fun v2 =>
  cl (F_X12_right v2 1 σ1) fun v4 σ3 =>
  if v4 = 0 then
    (some (0, σ3))
  else
    (cp (F_X12_laysPath σ3) fun σ6 =>
    if a1 = 0 then
      (cp (F_X12_leastOfAll σ6) fun v15 =>
      some (v15, σ6))
    else
      (lp (fun z => B_X12_cost_2 a1 σ6 z.1 z.2) (0, 0) (fun z => C_X12_cost_3 σ6 z)))
def F_X12_path (a1 : Int32) (σ : uS) : Option (Int32 × uS) :=
  pf σ 55 9 0 fun σ1 =>
  cl (F_X12_isFrame a1 σ1) fun v3 σ2 =>
  if v3 = 0 then
    (some (0, σ2))
  else
    (cp (F_X12_laysPath σ2) fun σ5 =>
    rd (σ5 69) 110 a1 fun v6 =>
    some (v6, σ5))
def F_X12_lag (a1 : Int32) (σ : uS) : Option (Int32 × uS) :=
  pf σ 55 9 0 fun σ1 =>
  cl (F_X12_isFrame a1 σ1) fun v3 σ2 =>
  if v3 = 0 then
    (some (0, σ2))
  else
    (cp (F_X12_laysPath σ2) fun σ5 =>
    cp (F_X12_lagOnPath a1 σ5) fun v6 =>
    some (v6, σ5))
def F_X12_through (a1 : Int32) (a2 : Int32) (σ : uS) : Option (Int32 × uS) :=
  pf σ 55 9 0 fun σ1 =>
  cl (F_X12_isCandidate a1 a2 σ1) fun v3 σ2 =>
  if v3 = 0 then
    (some (0, σ2))
  else
    (cp (F_X12_laysAll σ2) fun σ5 =>
    cp (F_X12_opens σ5) fun σ6 =>
    cp (F_X12_leavesOnly a1 a2 σ6) fun σ7 =>
    cp (F_X12_laysCosts ((σ7 55 17) - 1) σ7) fun σ8 =>
    cp (F_X12_leastOfAll σ8) fun v9 =>
    some (v9, σ8))
def J_X12_both_1 (σ19 : uS) : Option (Int32 × uS) :=
  some (0, σ19)
def F_X12_both (a1 : Int32) (a2 : Int32) (a3 : Int32) (a4 : Int32) (σ : uS) : Option (Int32 × uS) :=
  pf σ 55 9 0 fun σ1 =>
  cl (F_X12_isCandidate a1 a2 σ1) fun v3 σ2 =>
  if v3 = 0 then
    (J_X12_both_1 σ2)
  else
    (cl (F_X12_isCandidate a3 a4 σ2) fun v6 σ5 =>
    if v6 = 0 then
      (J_X12_both_1 σ5)
    else
      (lt (if a3 ≤ a1 then 0 else 1 : Int32) fun v9 =>
      cl (F_X12_right v9 2 σ5) fun v11 σ10 =>
      if v11 = 0 then
        (J_X12_both_1 σ10)
      else
        (cp (F_X12_laysAll σ10) fun σ13 =>
        cp (F_X12_opens σ13) fun σ14 =>
        cp (F_X12_leavesOnly a1 a2 σ14) fun σ15 =>
        cp (F_X12_leavesOnly a3 a4 σ15) fun σ16 =>
        cp (F_X12_laysCosts ((σ16 55 17) - 1) σ16) fun σ17 =>
        cp (F_X12_leastOfAll σ17) fun v18 =>
        some (v18, σ17))))
def B_X12_single_3 (w4 : Int32) (w8 : Int32) (σ9 : uS) : Option ((Int32 × uS) ⊕ (uS)) :=
  rd (σ9 66) 110 w4 fun v11 =>
  if v11 ≤ w8 then
    (some (.inr σ9))
  else
    (cp (F_X12_doubleOf w4 w8 σ9) fun v13 =>
    lt (if v13 = (-1) then 0 else 1 : Int32) fun v15 =>
    wr σ9 70 660 ((6 * w4) + w8) (vp_nar .boolean v15) fun σ16 =>
    lt (w8 + 1 : Int32) fun v17 =>
    some (.inl (v17, σ16)))
def C_X12_single_4 (w4 : Int32) (σ10 : uS) : Option ((Int32 × uS) ⊕ (uS)) :=
  lt (w4 + 1 : Int32) fun v18 =>
  some (.inl (v18, σ10))
def B_X12_single_5 (w4 : Int32) (σ5 : uS) : Option ((Int32 × uS) ⊕ (uS)) :=
  if (σ5 55 17) ≤ w4 then
    (some (.inr σ5))
  else
    (lp (fun z => B_X12_single_3 w4 z.1 z.2) (0, σ5) (fun z => C_X12_single_4 w4 z))
def C_X12_single_6 (σ6 : uS) : Option (Int32 × uS) :=
  cp (F_X12_laysCosts ((σ6 55 17) - 1) σ6) fun σ19 =>
  cp (F_X12_leastOfAll σ19) fun v20 =>
  some (v20, σ19)
def F_X12_single (σ : uS) : Option (Int32 × uS) :=
  pf σ 55 9 0 fun σ1 =>
  cp (F_X12_laysAll σ1) fun σ2 =>
  cp (F_X12_opens σ2) fun σ3 =>
  lp (fun z => B_X12_single_5 z.1 z.2) (0, σ3) (fun z => C_X12_single_6 z)
def F_X12_livesBy (a1 : Int32) (a2 : Int32) (σ : uS) : Option (Int32 × uS) :=
  lt (if (σ 55 17) ≤ (a1 + a2) then ((σ 55 17) - 1) else (a1 + a2) : Int32) fun v2 =>
  cp (F_X12_laysCosts v2 σ) fun σ3 =>
  cp (F_X12_goesAlong σ3) fun σ4 =>
  rd (σ4 69) 110 a1 fun v5 =>
  some (v5, σ4)
def J_X12_live_1 (σ13 : uS) : Option (Int32 × uS) :=
  some (0, σ13)
def F_X12_live (a1 : Int32) (a2 : Int32) (σ : uS) : Option (Int32 × uS) :=
  pf σ 55 9 0 fun σ1 =>
  cl (F_X12_isFrame a1 σ1) fun v3 σ2 =>
  if v3 = 0 then
    (J_X12_live_1 σ2)
  else
    (cp (F_X12_isIn a2 0 20 σ2) fun v5 =>
    cl (F_X12_right v5 2 σ2) fun v7 σ6 =>
    if v7 = 0 then
      (J_X12_live_1 σ6)
    else
      (cp (F_X12_laysAll σ6) fun σ9 =>
      cp (F_X12_opens σ9) fun σ10 =>
      cl (F_X12_livesBy a1 a2 σ10) fun v12 σ11 =>
      some (v12, σ11)))
def B_X12_settles_2 (a1 : Int32) (v8 : Int32) (w9 : Int32) (σ10 : uS) : Option ((Int32 × uS) ⊕ (Int32 × uS)) :=
  if w9 ≤ 0 then
    (some (.inr (w9, σ10)))
  else
    (cl (F_X12_livesBy a1 (w9 - 1) σ10) fun v15 σ14 =>
    if v15 = v8 then
      (lt (w9 + (-1) : Int32) fun v17 =>
      some (.inl (v17, σ14)))
    else
      (some (.inr (w9, σ14))))
def C_X12_settles_3 (v11 : Int32) (σ12 : uS) : Option (Int32 × uS) :=
  some (v11, σ12)
def F_X12_settles (a1 : Int32) (σ : uS) : Option (Int32 × uS) :=
  pf σ 55 9 0 fun σ1 =>
  cl (F_X12_isFrame a1 σ1) fun v3 σ2 =>
  if v3 = 0 then
    (some (0, σ2))
  else
    (cp (F_X12_laysAll σ2) fun σ5 =>
    cp (F_X12_opens σ5) fun σ6 =>
    cl (F_X12_livesBy a1 20 σ6) fun v8 σ7 =>
    lp (fun z => B_X12_settles_2 a1 v8 z.1 z.2) (20, σ7) (fun z => C_X12_settles_3 z.1 z.2))
def J_X12_would_2 (a1 : Int32) (a2 : Int32) (σ1 : uS) (v6 : Int32) : Option (Int32 × uS) :=
  cl (F_X12_right v6 1 σ1) fun v8 σ7 =>
  if v8 = 0 then
    (some (0, σ7))
  else
    (cp (F_X12_laysAll σ7) fun σ10 =>
    cp (F_X12_opens σ10) fun σ11 =>
    pf σ11 55 21 a1 fun σ12 =>
    pf σ12 55 22 a2 fun σ13 =>
    cp (F_X12_laysCosts ((σ13 55 17) - 1) σ13) fun σ14 =>
    cp (F_X12_leastOfAll σ14) fun v15 =>
    some (v15, σ14))
def J_X12_would_1 (a1 : Int32) (a2 : Int32) (σ1 : uS) : Option (Int32 × uS) :=
  J_X12_would_2 a1 a2 σ1 0
def F_X12_would (a1 : Int32) (a2 : Int32) (σ : uS) : Option (Int32 × uS) :=
  pf σ 55 9 0 fun σ1 =>
  cp (F_X12_isIn a1 0 2000 σ1) fun v2 =>
  if v2 = 0 then
    (J_X12_would_1 a1 a2 σ1)
  else
    (cp (F_X12_isIn a2 0 2000 σ1) fun v4 =>
    if v4 = 0 then
      (J_X12_would_1 a1 a2 σ1)
    else
      (J_X12_would_2 a1 a2 σ1 1))
def B_X12_doubled_2 (σ2 : uS) (w3 : Int32) (w4 : Int32) : Option ((Int32 × Int32) ⊕ (Int32)) :=
  if (σ2 55 17) ≤ w4 then
    (some (.inr w3))
  else
    (rd (σ2 69) 110 w4 fun v7 =>
    cp (F_X12_doubleOf w4 v7 σ2) fun v8 =>
    lt (if v8 = (-1) then 0 else 1 : Int32) fun v10 =>
    lt (w3 + v10 : Int32) fun v11 =>
    lt (w4 + 1 : Int32) fun v12 =>
    some (.inl (v11, v12)))
def C_X12_doubled_3 (σ2 : uS) (v5 : Int32) : Option (Int32 × uS) :=
  some (v5, σ2)
def F_X12_doubled (σ : uS) : Option (Int32 × uS) :=
  pf σ 55 9 0 fun σ1 =>
  cp (F_X12_laysPath σ1) fun σ2 =>
  lp (fun z => B_X12_doubled_2 σ2 z.1 z.2) (0, 0) (fun z => C_X12_doubled_3 σ2 z)
def F_X12_rankAt (a1 : Int32) (a2 : Int32) (a3 : Int32) (σ : uS) : Option (Int32) :=
  some ((8 * ((6 * a1) + a2)) + a3)
def B_X12_ranks_2 (a1 : Int32) (a2 : Int32) (a3 : Int32) (σ : uS) (w3 : Int32) : Option ((Int32) ⊕ (Int32)) :=
  if w3 ≤ 0 then
    (some (.inr w3))
  else
    (cp (F_X12_rankAt a1 a2 (w3 - 1) σ) fun v6 =>
    rd (σ 71) 5280 v6 fun v7 =>
    if v7 ≤ a3 then
      (some (.inr w3))
    else
      (lt (w3 + (-1) : Int32) fun v9 =>
      some (.inl v9)))
def B_X12_ranks_4 (a1 : Int32) (a2 : Int32) (v4 : Int32) (w15 : Int32) (σ16 : uS) : Option ((Int32 × uS) ⊕ (uS)) :=
  if w15 ≤ v4 then
    (some (.inr σ16))
  else
    (cp (F_X12_rankAt a1 a2 w15 σ16) fun v19 =>
    cp (F_X12_rankAt a1 a2 (w15 - 1) σ16) fun v20 =>
    rd (σ16 71) 5280 v20 fun v21 =>
    wr σ16 71 5280 v19 v21 fun σ22 =>
    cp (F_X12_rankAt a1 a2 w15 σ22) fun v23 =>
    cp (F_X12_rankAt a1 a2 (w15 - 1) σ22) fun v24 =>
    rd (σ22 72) 5280 v24 fun v25 =>
    wr σ22 72 5280 v23 v25 fun σ26 =>
    cp (F_X12_rankAt a1 a2 w15 σ26) fun v27 =>
    cp (F_X12_rankAt a1 a2 (w15 - 1) σ26) fun v28 =>
    rd (σ26 73) 5280 v28 fun v29 =>
    wr σ26 73 5280 v27 v29 fun σ30 =>
    lt (w15 + (-1) : Int32) fun v31 =>
    some (.inl (v31, σ30)))
def C_X12_ranks_5 (a1 : Int32) (a2 : Int32) (a3 : Int32) (a4 : Int32) (a5 : Int32) (v1 : Int32) (v4 : Int32) (v14 : Int32) (σ17 : uS) : Option (uS) :=
  cp (F_X12_rankAt a1 a2 v4 σ17) fun v32 =>
  wr σ17 71 5280 v32 a3 fun σ33 =>
  cp (F_X12_rankAt a1 a2 v4 σ33) fun v34 =>
  wr σ33 72 5280 v34 a4 fun σ35 =>
  cp (F_X12_rankAt a1 a2 v4 σ35) fun v36 =>
  wr σ35 73 5280 v36 a5 fun σ37 =>
  wr σ37 74 660 v1 (v14 + 1) fun σ38 =>
  some σ38
def J_X12_ranks_6 (a1 : Int32) (a2 : Int32) (a3 : Int32) (a4 : Int32) (a5 : Int32) (v1 : Int32) (v4 : Int32) (σ : uS) (v14 : Int32) : Option (uS) :=
  lp (fun z => B_X12_ranks_4 a1 a2 v4 z.1 z.2) (v14, σ) (fun z => C_X12_ranks_5 a1 a2 a3 a4 a5 v1 v4 v14 z)
def C_X12_ranks_7 (a1 : Int32) (a2 : Int32) (a3 : Int32) (a4 : Int32) (a5 : Int32) (v1 : Int32) (σ : uS) (v4 : Int32) : Option (uS) :=
  if v4 = 8 then
    (some σ)
  else
    (rd (σ 74) 660 v1 fun v11 =>
    if 8 ≤ v11 then
      (J_X12_ranks_6 a1 a2 a3 a4 a5 v1 v4 σ 7)
    else
      (rd (σ 74) 660 v1 fun v13 =>
      J_X12_ranks_6 a1 a2 a3 a4 a5 v1 v4 σ v13))
def F_X12_ranks (a1 : Int32) (a2 : Int32) (a3 : Int32) (a4 : Int32) (a5 : Int32) (σ : uS) : Option (uS) :=
  lt ((6 * a1) + a2 : Int32) fun v1 =>
  rd (σ 74) 660 v1 fun v2 =>
  lp (fun z => B_X12_ranks_2 a1 a2 a3 σ z) v2 (fun z => C_X12_ranks_7 a1 a2 a3 a4 a5 v1 σ z)
def B_X12_ranksFrom_3 (a1 : Int32) (a2 : Int32) (v10 : Int32) (w3 : Int32) (w11 : Int32) (σ12 : uS) : Option ((Int32 × uS) ⊕ (uS)) :=
  rd (σ12 74) 660 ((6 * (a1 + 1)) + w3) fun v14 =>
  if v14 ≤ w11 then
    (some (.inr σ12))
  else
    (cp (F_X12_rankAt (a1 + 1) w3 w11 σ12) fun v16 =>
    rd (σ12 71) 5280 v16 fun v17 =>
    cp (F_X12_ranks a1 a2 (v10 + v17) w3 w11 σ12) fun σ18 =>
    lt (w11 + 1 : Int32) fun v19 =>
    some (.inl (v19, σ18)))
def C_X12_ranksFrom_4 (w3 : Int32) (σ13 : uS) : Option ((Int32 × uS) ⊕ (uS)) :=
  lt (w3 + 1 : Int32) fun v20 =>
  some (.inl (v20, σ13))
def B_X12_ranksFrom_5 (a1 : Int32) (a2 : Int32) (w3 : Int32) (σ4 : uS) : Option ((Int32 × uS) ⊕ (uS)) :=
  rd (σ4 66) 110 (a1 + 1) fun v6 =>
  if v6 ≤ w3 then
    (some (.inr σ4))
  else
    (cp (F_X12_ownAt a1 a2 σ4) fun v8 =>
    cp (F_X12_between a1 a2 w3 σ4) fun v9 =>
    lt (v8 + v9 : Int32) fun v10 =>
    lp (fun z => B_X12_ranksFrom_3 a1 a2 v10 w3 z.1 z.2) (0, σ4) (fun z => C_X12_ranksFrom_4 w3 z))
def C_X12_ranksFrom_6 (σ5 : uS) : Option (uS) :=
  some σ5
def F_X12_ranksFrom (a1 : Int32) (a2 : Int32) (σ : uS) : Option (uS) :=
  wr σ 74 660 ((6 * a1) + a2) 0 fun σ1 =>
  if a1 = ((σ1 55 17) - 1) then
    (cp (F_X12_ownAt a1 a2 σ1) fun v21 =>
    cp (F_X12_ranks a1 a2 v21 (-1) (-1) σ1) fun σ22 =>
    some σ22)
  else
    (lp (fun z => B_X12_ranksFrom_5 a1 a2 z.1 z.2) (0, σ1) (fun z => C_X12_ranksFrom_6 z))
def B_X12_tops_2 (a1 : Int32) (σ : uS) (w2 : Int32) : Option ((Int32) ⊕ (Int32)) :=
  if w2 ≤ 0 then
    (some (.inr w2))
  else
    (rd (σ 75) 9 (w2 - 1) fun v5 =>
    if v5 ≤ a1 then
      (some (.inr w2))
    else
      (lt (w2 + (-1) : Int32) fun v7 =>
      some (.inl v7)))
def B_X12_tops_4 (v3 : Int32) (w13 : Int32) (σ14 : uS) : Option ((Int32 × uS) ⊕ (uS)) :=
  if w13 ≤ v3 then
    (some (.inr σ14))
  else
    (rd (σ14 75) 9 (w13 - 1) fun v17 =>
    wr σ14 75 9 w13 v17 fun σ18 =>
    rd (σ18 76) 9 (w13 - 1) fun v19 =>
    wr σ18 76 9 w13 v19 fun σ20 =>
    rd (σ20 77) 9 (w13 - 1) fun v21 =>
    wr σ20 77 9 w13 v21 fun σ22 =>
    lt (w13 + (-1) : Int32) fun v23 =>
    some (.inl (v23, σ22)))
def C_X12_tops_5 (a1 : Int32) (a2 : Int32) (a3 : Int32) (v3 : Int32) (σ15 : uS) : Option (uS) :=
  wr σ15 75 9 v3 a1 fun σ24 =>
  wr σ24 76 9 v3 a2 fun σ25 =>
  wr σ25 77 9 v3 a3 fun σ26 =>
  some σ26
def C_X12_tops_6 (a1 : Int32) (a2 : Int32) (a3 : Int32) (σ : uS) (v3 : Int32) : Option (uS) :=
  if v3 = 8 then
    (some σ)
  else
    (lt (if 8 ≤ (σ 55 31) then 8 else ((σ 55 31) + 1) : Int32) fun v10 =>
    pf σ 55 31 v10 fun σ11 =>
    lt ((σ11 55 31) - 1 : Int32) fun v12 =>
    lp (fun z => B_X12_tops_4 v3 z.1 z.2) (v12, σ11) (fun z => C_X12_tops_5 a1 a2 a3 v3 z))
def F_X12_tops (a1 : Int32) (a2 : Int32) (a3 : Int32) (σ : uS) : Option (uS) :=
  lt (σ 55 31 : Int32) fun v1 =>
  lp (fun z => B_X12_tops_2 a1 σ z) v1 (fun z => C_X12_tops_6 a1 a2 a3 σ z)
def B_X12_laysTops_3 (w5 : Int32) (w9 : Int32) (σ10 : uS) : Option ((Int32 × uS) ⊕ (uS)) :=
  rd (σ10 66) 110 w5 fun v12 =>
  if v12 ≤ w9 then
    (some (.inr σ10))
  else
    (cp (F_X12_ranksFrom w5 w9 σ10) fun σ14 =>
    lt (w9 + 1 : Int32) fun v15 =>
    some (.inl (v15, σ14)))
def C_X12_laysTops_4 (w5 : Int32) (σ11 : uS) : Option ((Int32 × uS) ⊕ (uS)) :=
  lt (w5 + (-1) : Int32) fun v16 =>
  some (.inl (v16, σ11))
def B_X12_laysTops_5 (w5 : Int32) (σ6 : uS) : Option ((Int32 × uS) ⊕ (uS)) :=
  if w5 < 0 then
    (some (.inr σ6))
  else
    (lp (fun z => B_X12_laysTops_3 w5 z.1 z.2) (0, σ6) (fun z => C_X12_laysTops_4 w5 z))
def B_X12_laysTops_8 (w18 : Int32) (w23 : Int32) (σ24 : uS) : Option ((Int32 × uS) ⊕ (uS)) :=
  rd (σ24 74) 660 w18 fun v26 =>
  if v26 ≤ w23 then
    (some (.inr σ24))
  else
    (cp (F_X12_rankAt 0 w18 w23 σ24) fun v28 =>
    rd (σ24 71) 5280 v28 fun v29 =>
    cp (F_X12_tops v29 w18 w23 σ24) fun σ30 =>
    lt (w23 + 1 : Int32) fun v31 =>
    some (.inl (v31, σ30)))
def C_X12_laysTops_9 (w18 : Int32) (σ25 : uS) : Option ((Int32 × uS) ⊕ (uS)) :=
  lt (w18 + 1 : Int32) fun v32 =>
  some (.inl (v32, σ25))
def B_X12_laysTops_10 (w18 : Int32) (σ19 : uS) : Option ((Int32 × uS) ⊕ (uS)) :=
  rd (σ19 66) 110 0 fun v21 =>
  if v21 ≤ w18 then
    (some (.inr σ19))
  else
    (lp (fun z => B_X12_laysTops_8 w18 z.1 z.2) (0, σ19) (fun z => C_X12_laysTops_9 w18 z))
def C_X12_laysTops_11 (σ20 : uS) : Option (uS) :=
  some σ20
def C_X12_laysTops_12 (σ7 : uS) : Option (uS) :=
  if (σ7 55 17) = 0 then
    (cp (F_X12_tops 0 (-1) (-1) σ7) fun σ33 =>
    some σ33)
  else
    (lp (fun z => B_X12_laysTops_10 z.1 z.2) (0, σ7) (fun z => C_X12_laysTops_11 z))
def F_X12_laysTops (σ : uS) : Option (uS) :=
  cp (F_X12_laysAll σ) fun σ1 =>
  cp (F_X12_opens σ1) fun σ2 =>
  pf σ2 55 31 0 fun σ3 =>
  lt ((σ3 55 17) - 1 : Int32) fun v4 =>
  lp (fun z => B_X12_laysTops_5 z.1 z.2) (v4, σ3) (fun z => C_X12_laysTops_12 z)
def J_X12_best_1 (σ6 : uS) (v9 : Int32) : Option (Int32 × uS) :=
  some (v9, σ6)
def F_X12_best (a1 : Int32) (σ : uS) : Option (Int32 × uS) :=
  pf σ 55 9 0 fun σ1 =>
  cp (F_X12_isIn a1 0 7 σ1) fun v2 =>
  cl (F_X12_right v2 1 σ1) fun v4 σ3 =>
  if v4 = 0 then
    (some (0, σ3))
  else
    (cp (F_X12_laysTops σ3) fun σ6 =>
    if (σ6 55 31) ≤ a1 then
      (J_X12_best_1 σ6 (-1))
    else
      (rd (σ6 75) 9 a1 fun v8 =>
      J_X12_best_1 σ6 v8))
def B_X12_bestAt_2 (a2 : Int32) (σ11 : uS) (w15 : Int32) (w16 : Int32) (w17 : Int32) : Option ((Int32 × Int32 × Int32) ⊕ (Int32)) :=
  if a2 ≤ w17 then
    (some (.inr w15))
  else
    (cp (F_X12_rankAt w17 w15 w16 σ11) fun v20 =>
    rd (σ11 72) 5280 v20 fun v21 =>
    rd (σ11 73) 5280 v20 fun v22 =>
    lt (w17 + 1 : Int32) fun v23 =>
    some (.inl (v21, v22, v23)))
def C_X12_bestAt_3 (σ11 : uS) (v18 : Int32) : Option (Int32 × uS) :=
  some (v18, σ11)
def J_X12_bestAt_4 (σ24 : uS) : Option (Int32 × uS) :=
  some (0, σ24)
def F_X12_bestAt (a1 : Int32) (a2 : Int32) (σ : uS) : Option (Int32 × uS) :=
  pf σ 55 9 0 fun σ1 =>
  cp (F_X12_isIn a1 0 7 σ1) fun v2 =>
  cl (F_X12_right v2 1 σ1) fun v4 σ3 =>
  if v4 = 0 then
    (J_X12_bestAt_4 σ3)
  else
    (cp (F_X12_frames σ3) fun v6 =>
    cp (F_X12_isIn a2 0 (v6 - 1) σ3) fun v7 =>
    cl (F_X12_right v7 2 σ3) fun v9 σ8 =>
    if v9 = 0 then
      (J_X12_bestAt_4 σ8)
    else
      (cp (F_X12_laysTops σ8) fun σ11 =>
      if a1 < (σ11 55 31) then
        (rd (σ11 76) 9 a1 fun v13 =>
        rd (σ11 77) 9 a1 fun v14 =>
        lp (fun z => B_X12_bestAt_2 a2 σ11 z.1 z.2.1 z.2.2) (v13, v14, 0) (fun z => C_X12_bestAt_3 σ11 z))
      else
        (some ((-1), σ11))))
def J_X12_laysSpans_3 (w3 : Int32) (σ17 : uS) : Option ((Int32 × uS) ⊕ (uS)) :=
  lt (w3 + 1 : Int32) fun v18 =>
  some (.inl (v18, σ17))
def J_X12_laysSpans_2 (w3 : Int32) (σ4 : uS) : Option ((Int32 × uS) ⊕ (uS)) :=
  wr σ4 78 111 (σ4 55 33) w3 fun σ15 =>
  pf σ15 55 33 ((σ15 55 33) + 1) fun σ16 =>
  J_X12_laysSpans_3 w3 σ16
def B_X12_laysSpans_4 (w3 : Int32) (σ4 : uS) : Option ((Int32 × uS) ⊕ (uS)) :=
  if (σ4 55 17) ≤ w3 then
    (some (.inr σ4))
  else
    (if w3 = 0 then
      (J_X12_laysSpans_2 w3 σ4)
    else
      (cp (F_X12_lagOnPath w3 σ4) fun v8 =>
      lt (if v8 ≤ 0 then 0 else 1 : Int32) fun v10 =>
      cp (F_X12_lagOnPath (w3 - 1) σ4) fun v11 =>
      lt (if v11 ≤ 0 then 0 else 1 : Int32) fun v13 =>
      if v10 = v13 then
        (J_X12_laysSpans_3 w3 σ4)
      else
        (J_X12_laysSpans_2 w3 σ4)))
def C_X12_laysSpans_5 (σ5 : uS) : Option (uS) :=
  wr σ5 78 111 (σ5 55 33) (σ5 55 17) fun σ19 =>
  some σ19
def F_X12_laysSpans (σ : uS) : Option (uS) :=
  cp (F_X12_laysPath σ) fun σ1 =>
  pf σ1 55 33 0 fun σ2 =>
  lp (fun z => B_X12_laysSpans_4 z.1 z.2) (0, σ2) (fun z => C_X12_laysSpans_5 z)
def F_X12_isVoiced (a1 : Int32) (σ : uS) : Option (Int32) :=
  rd (σ 78) 111 a1 fun v1 =>
  cp (F_X12_lagOnPath v1 σ) fun v2 =>
  lt (if v2 ≤ 0 then 0 else 1 : Int32) fun v4 =>
  bz v4 (some v4)
def F_X12_firstSample (a1 : Int32) (σ : uS) : Option (Int32) :=
  rd (σ 78) 111 a1 fun v1 =>
  rd (σ 56) 16 2 fun v2 =>
  some (v1 * v2)
def F_X12_behindSpan (a1 : Int32) (σ : uS) : Option (Int32) :=
  rd (σ 78) 111 (a1 + 1) fun v1 =>
  rd (σ 56) 16 2 fun v2 =>
  lt (v1 * v2 : Int32) fun v3 =>
  lt (if (σ 55 6) ≤ v3 then (σ 55 6) else v3 : Int32) fun v5 =>
  some v5
def F_X12_spans (σ : uS) : Option (Int32 × uS) :=
  pf σ 55 9 0 fun σ1 =>
  cp (F_X12_laysSpans σ1) fun σ2 =>
  some (σ2 55 33, σ2)
def F_X12_periodAt (a1 : Int32) (a2 : Int32) (σ : uS) : Option (Int32) :=
  rd (σ 56) 16 2 fun v1 =>
  dv a2 v1 fun v2 =>
  rd (σ 78) 111 (a1 + 1) fun v3 =>
  lt (v3 - 1 : Int32) fun v4 =>
  lt (if v4 ≤ v2 then v4 else v2 : Int32) fun v6 =>
  cp (F_X12_lagOnPath v6 σ) fun v7 =>
  some v7
def F_X12_lesser (a1 : Int32) (a2 : Int32) (σ : uS) : Option (Int32) :=
  lt (if a2 ≤ a1 then a2 else a1 : Int32) fun v2 =>
  some v2
def J_X12_laysBehind_3 (w9 : Int32) (v19 : Int32) (v20 : Int32) : Option ((Int32 × Int32 × Int32) ⊕ (Int32 × Int32)) :=
  lt (w9 + 1 : Int32) fun v21 =>
  some (.inl (v19, v20, v21))
def J_X12_laysBehind_2 (v16 : Int32) (w9 : Int32) : Option ((Int32 × Int32 × Int32) ⊕ (Int32 × Int32)) :=
  J_X12_laysBehind_3 w9 w9 v16
def B_X12_laysBehind_4 (a2 : Int32) (v1 : Int32) (v6 : Int32) (σ : uS) (w7 : Int32) (w8 : Int32) (w9 : Int32) : Option ((Int32 × Int32 × Int32) ⊕ (Int32 × Int32)) :=
  if v6 < w9 then
    (some (.inr (w7, w8)))
  else
    (rd (σ 86) 800 w9 fun v13 =>
    rd (σ 56) 16 13 fun v14 =>
    cp (F_X12_apart (w9 - a2) v1 σ) fun v15 =>
    lt (v13 - (v14 * v15) : Int32) fun v16 =>
    if w7 = (-1) then
      (J_X12_laysBehind_2 v16 w9)
    else
      (if v16 ≤ w8 then
        (J_X12_laysBehind_3 w9 w7 w8)
      else
        (J_X12_laysBehind_2 v16 w9)))
def C_X12_laysBehind_5 (a2 : Int32) (σ : uS) (v10 : Int32) (v11 : Int32) : Option (uS) :=
  wr σ 87 800 a2 v10 fun σ22 =>
  rd (σ22 59) 800 a2 fun v23 =>
  wr σ22 86 800 a2 (v23 + v11) fun σ24 =>
  some σ24
def F_X12_laysBehind (a1 : Int32) (a2 : Int32) (σ : uS) : Option (uS) :=
  cp (F_X12_periodAt a1 a2 σ) fun v1 =>
  dv v1 4 fun v2 =>
  lt ((a2 + v1) - v2 : Int32) fun v3 =>
  dv v1 4 fun v4 =>
  cp (F_X12_behindSpan a1 σ) fun v5 =>
  cp (F_X12_lesser ((a2 + v1) + v4) (v5 - 1) σ) fun v6 =>
  lp (fun z => B_X12_laysBehind_4 a2 v1 v6 σ z.1 z.2.1 z.2.2) ((-1), 0, v3) (fun z => C_X12_laysBehind_5 a2 σ z.1 z.2)
def B_X12_marksOf_2 (a1 : Int32) (v1 : Int32) (w4 : Int32) (σ5 : uS) : Option ((Int32 × uS) ⊕ (uS)) :=
  if w4 < v1 then
    (some (.inr σ5))
  else
    (cp (F_X12_laysBehind a1 w4 σ5) fun σ8 =>
    lt (w4 + (-1) : Int32) fun v9 =>
    some (.inl (v9, σ8)))
def B_X12_marksOf_4 (a1 : Int32) (v1 : Int32) (v2 : Int32) (σ6 : uS) (w10 : Int32) (w11 : Int32) : Option ((Int32 × Int32) ⊕ (Int32)) :=
  cp (F_X12_periodAt a1 v1 σ6) fun v13 =>
  cp (F_X12_lesser (v1 + v13) v2 σ6) fun v14 =>
  if v14 ≤ w11 then
    (some (.inr w10))
  else
    (rd (σ6 86) 800 w11 fun v16 =>
    rd (σ6 86) 800 w10 fun v17 =>
    lt (if v16 ≤ v17 then w10 else w11 : Int32) fun v19 =>
    lt (w11 + 1 : Int32) fun v20 =>
    some (.inl (v19, v20)))
def B_X12_marksOf_6 (a1 : Int32) (w23 : Int32) (σ24 : uS) : Option ((Int32 × uS) ⊕ (uS)) :=
  if w23 = (-1) then
    (some (.inr σ24))
  else
    (wr σ24 88 400 (σ24 55 49) w23 fun σ27 =>
    wr σ27 89 400 (σ27 55 49) a1 fun σ28 =>
    pf σ28 55 49 ((σ28 55 49) + 1) fun σ29 =>
    rd (σ29 87) 800 w23 fun v30 =>
    some (.inl (v30, σ29)))
def C_X12_marksOf_7 (σ25 : uS) : Option (uS) :=
  some σ25
def C_X12_marksOf_8 (a1 : Int32) (σ6 : uS) (v12 : Int32) : Option (uS) :=
  rd (σ6 86) 800 v12 fun v21 =>
  wr σ6 91 110 a1 v21 fun σ22 =>
  lp (fun z => B_X12_marksOf_6 a1 z.1 z.2) (v12, σ22) (fun z => C_X12_marksOf_7 z)
def C_X12_marksOf_9 (a1 : Int32) (v1 : Int32) (v2 : Int32) (σ6 : uS) : Option (uS) :=
  lp (fun z => B_X12_marksOf_4 a1 v1 v2 σ6 z.1 z.2) (v1, v1) (fun z => C_X12_marksOf_8 a1 σ6 z)
def F_X12_marksOf (a1 : Int32) (σ : uS) : Option (uS) :=
  cp (F_X12_firstSample a1 σ) fun v1 =>
  cp (F_X12_behindSpan a1 σ) fun v2 =>
  lt (v2 - 1 : Int32) fun v3 =>
  lp (fun z => B_X12_marksOf_2 a1 v1 z.1 z.2) (v3, σ) (fun z => C_X12_marksOf_9 a1 v1 v2 z)
def J_X12_laysMarks_2 (w3 : Int32) (σ12 : uS) : Option ((Int32 × uS) ⊕ (uS)) :=
  lt (w3 + 1 : Int32) fun v13 =>
  some (.inl (v13, σ12))
def B_X12_laysMarks_3 (w3 : Int32) (σ4 : uS) : Option ((Int32 × uS) ⊕ (uS)) :=
  if (σ4 55 33) ≤ w3 then
    (some (.inr σ4))
  else
    (wr σ4 90 111 w3 (σ4 55 49) fun σ7 =>
    wr σ7 91 110 w3 0 fun σ8 =>
    cp (F_X12_isVoiced w3 σ8) fun v9 =>
    if v9 = 0 then
      (J_X12_laysMarks_2 w3 σ8)
    else
      (cp (F_X12_marksOf w3 σ8) fun σ11 =>
      J_X12_laysMarks_2 w3 σ11))
def C_X12_laysMarks_4 (σ5 : uS) : Option (uS) :=
  wr σ5 90 111 (σ5 55 33) (σ5 55 49) fun σ14 =>
  some σ14
def F_X12_laysMarks (σ : uS) : Option (uS) :=
  cp (F_X12_laysSpans σ) fun σ1 =>
  pf σ1 55 49 0 fun σ2 =>
  lp (fun z => B_X12_laysMarks_3 z.1 z.2) (0, σ2) (fun z => C_X12_laysMarks_4 z)
def J_X12_span_2 (a1 : Int32) (a2 : Int32) (σ2 : uS) (v7 : Int32) : Option (Int32 × uS) :=
  cl (F_X12_right v7 1 σ2) fun v9 σ8 =>
  if v9 = 0 then
    (some (0, σ8))
  else
    (if a2 = 0 then
      (rd (σ8 78) 111 a1 fun v12 =>
      some (v12, σ8))
    else
      (if a2 = 1 then
        (rd (σ8 78) 111 (a1 + 1) fun v14 =>
        rd (σ8 78) 111 a1 fun v15 =>
        some (v14 - v15, σ8))
      else
        (if a2 = 2 then
          (cp (F_X12_isVoiced a1 σ8) fun v17 =>
          lt (if v17 = 0 then 0 else 1 : Int32) fun v19 =>
          some (v19, σ8))
        else
          (if a2 = 3 then
            (cp (F_X12_firstSample a1 σ8) fun v21 =>
            some (v21, σ8))
          else
            (if a2 = 4 then
              (cp (F_X12_behindSpan a1 σ8) fun v23 =>
              some (v23, σ8))
            else
              (if a2 = 5 then
                (rd (σ8 90) 111 (a1 + 1) fun v25 =>
                rd (σ8 90) 111 a1 fun v26 =>
                some (v25 - v26, σ8))
              else
                (rd (σ8 91) 110 a1 fun v27 =>
                some (v27, σ8))))))))
def J_X12_span_1 (a1 : Int32) (a2 : Int32) (σ2 : uS) : Option (Int32 × uS) :=
  J_X12_span_2 a1 a2 σ2 0
def F_X12_span (a1 : Int32) (a2 : Int32) (σ : uS) : Option (Int32 × uS) :=
  pf σ 55 9 0 fun σ1 =>
  cp (F_X12_laysMarks σ1) fun σ2 =>
  cp (F_X12_isIn a1 0 ((σ2 55 33) - 1) σ2) fun v3 =>
  if v3 = 0 then
    (J_X12_span_1 a1 a2 σ2)
  else
    (cp (F_X12_isIn a2 0 6 σ2) fun v5 =>
    if v5 = 0 then
      (J_X12_span_1 a1 a2 σ2)
    else
      (J_X12_span_2 a1 a2 σ2 1))
def B_X12_sorts_2 (a2 : Int32) (w1 : Int32) (σ2 : uS) : Option ((Int32 × uS) ⊕ (Int32 × uS)) :=
  if w1 ≤ 0 then
    (some (.inr (w1, σ2)))
  else
    (rd (σ2 82) 110 (w1 - 1) fun v6 =>
    if v6 ≤ a2 then
      (some (.inr (w1, σ2)))
    else
      (rd (σ2 82) 110 (w1 - 1) fun v8 =>
      wr σ2 82 110 w1 v8 fun σ9 =>
      lt (w1 + (-1) : Int32) fun v10 =>
      some (.inl (v10, σ9))))
def C_X12_sorts_3 (a1 : Int32) (a2 : Int32) (v3 : Int32) (σ4 : uS) : Option (Int32 × uS) :=
  wr σ4 82 110 v3 a2 fun σ11 =>
  some (a1 + 1, σ11)
def F_X12_sorts (a1 : Int32) (a2 : Int32) (σ : uS) : Option (Int32 × uS) :=
  lp (fun z => B_X12_sorts_2 a2 z.1 z.2) (a1, σ) (fun z => C_X12_sorts_3 a1 a2 z.1 z.2)
def B_X12_middleOf_2 (a1 : Int32) (a2 : Int32) (w1 : Int32) (w2 : Int32) (σ3 : uS) : Option ((Int32 × Int32 × uS) ⊕ (Int32 × uS)) :=
  if (a1 + a2) ≤ w2 then
    (some (.inr (w1, σ3)))
  else
    (cp (F_X12_lagOnPath w2 σ3) fun v7 =>
    cl (F_X12_sorts w1 v7 σ3) fun v9 σ8 =>
    lt (w2 + 1 : Int32) fun v10 =>
    some (.inl (v9, v10, σ8)))
def C_X12_middleOf_3 (v4 : Int32) (σ5 : uS) : Option (Int32 × uS) :=
  dv (v4 - 1) 2 fun v11 =>
  rd (σ5 82) 110 v11 fun v12 =>
  some (v12, σ5)
def F_X12_middleOf (a1 : Int32) (a2 : Int32) (σ : uS) : Option (Int32 × uS) :=
  lp (fun z => B_X12_middleOf_2 a1 a2 z.1 z.2.1 z.2.2) (0, a1, σ) (fun z => C_X12_middleOf_3 z.1 z.2)
def J_X12_goesOnNote_2 (v7 : Int32) : Option (Int32) :=
  bz v7 (some v7)
def J_X12_goesOnNote_1 : Option (Int32) :=
  J_X12_goesOnNote_2 0
def F_X12_goesOnNote (a1 : Int32) (σ : uS) : Option (Int32) :=
  cp (F_X12_lagOnPath (a1 - 1) σ) fun v1 =>
  cp (F_X12_lagOnPath a1 σ) fun v2 =>
  if v1 ≤ 0 then
    (J_X12_goesOnNote_1)
  else
    (if v2 ≤ 0 then
      (J_X12_goesOnNote_1)
    else
      (cp (F_X12_apart v1 v2 σ) fun v5 =>
      if 1 < v5 then
        (J_X12_goesOnNote_1)
      else
        (J_X12_goesOnNote_2 1)))
def B_X12_laysNotes_3 (σ4 : uS) (w8 : Int32) : Option ((Int32) ⊕ (Int32)) :=
  if (σ4 55 17) ≤ w8 then
    (some (.inr w8))
  else
    (cp (F_X12_goesOnNote w8 σ4) fun v11 =>
    if v11 = 0 then
      (some (.inr w8))
    else
      (lt (w8 + 1 : Int32) fun v13 =>
      some (.inl v13)))
def J_X12_laysNotes_4 (v9 : Int32) (σ22 : uS) : Option ((Int32 × uS) ⊕ (uS)) :=
  some (.inl (v9, σ22))
def C_X12_laysNotes_5 (w3 : Int32) (σ4 : uS) (v9 : Int32) : Option ((Int32 × uS) ⊕ (uS)) :=
  cp (F_X12_lagOnPath w3 σ4) fun v14 =>
  if v14 ≤ 0 then
    (J_X12_laysNotes_4 v9 σ4)
  else
    (wr σ4 79 110 (σ4 55 38) w3 fun σ16 =>
    wr σ16 80 110 (σ16 55 38) (v9 - w3) fun σ17 =>
    cl (F_X12_middleOf w3 (v9 - w3) σ17) fun v19 σ18 =>
    wr σ18 81 110 (σ17 55 38) v19 fun σ20 =>
    pf σ20 55 38 ((σ20 55 38) + 1) fun σ21 =>
    J_X12_laysNotes_4 v9 σ21)
def B_X12_laysNotes_6 (w3 : Int32) (σ4 : uS) : Option ((Int32 × uS) ⊕ (uS)) :=
  if (σ4 55 17) ≤ w3 then
    (some (.inr σ4))
  else
    (lt (w3 + 1 : Int32) fun v7 =>
    lp (fun z => B_X12_laysNotes_3 σ4 z) v7 (fun z => C_X12_laysNotes_5 w3 σ4 z))
def C_X12_laysNotes_7 (σ5 : uS) : Option (uS) :=
  some σ5
def F_X12_laysNotes (σ : uS) : Option (uS) :=
  cp (F_X12_laysPath σ) fun σ1 =>
  pf σ1 55 38 0 fun σ2 =>
  lp (fun z => B_X12_laysNotes_6 z.1 z.2) (0, σ2) (fun z => C_X12_laysNotes_7 z)
def F_X12_notes (σ : uS) : Option (Int32 × uS) :=
  pf σ 55 9 0 fun σ1 =>
  cp (F_X12_laysNotes σ1) fun σ2 =>
  some (σ2 55 38, σ2)
def J_X12_note_2 (σ8 : uS) (v16 : Int32) : Option (Int32 × uS) :=
  some (v16, σ8)
def J_X12_note_3 (a1 : Int32) (a2 : Int32) (σ2 : uS) (v7 : Int32) : Option (Int32 × uS) :=
  cl (F_X12_right v7 1 σ2) fun v9 σ8 =>
  if v9 = 0 then
    (some (0, σ8))
  else
    (if a2 = 0 then
      (rd (σ8 79) 110 a1 fun v15 =>
      J_X12_note_2 σ8 v15)
    else
      (if a2 = 1 then
        (rd (σ8 80) 110 a1 fun v14 =>
        J_X12_note_2 σ8 v14)
      else
        (rd (σ8 81) 110 a1 fun v13 =>
        J_X12_note_2 σ8 v13)))
def J_X12_note_1 (a1 : Int32) (a2 : Int32) (σ2 : uS) : Option (Int32 × uS) :=
  J_X12_note_3 a1 a2 σ2 0
def F_X12_note (a1 : Int32) (a2 : Int32) (σ : uS) : Option (Int32 × uS) :=
  pf σ 55 9 0 fun σ1 =>
  cp (F_X12_laysNotes σ1) fun σ2 =>
  cp (F_X12_isIn a1 0 ((σ2 55 38) - 1) σ2) fun v3 =>
  if v3 = 0 then
    (J_X12_note_1 a1 a2 σ2)
  else
    (cp (F_X12_isIn a2 0 2 σ2) fun v5 =>
    if v5 = 0 then
      (J_X12_note_1 a1 a2 σ2)
    else
      (J_X12_note_3 a1 a2 σ2 1))
def B_X12_steady_3 (w9 : Int32) (σ6 : uS) (w14 : Int32) : Option ((Int32) ⊕ (Int32)) :=
  if (σ6 55 17) ≤ w14 then
    (some (.inr w14))
  else
    (cp (F_X12_lagOnPath w14 σ6) fun v17 =>
    cp (F_X12_lagOnPath w9 σ6) fun v18 =>
    if v17 = v18 then
      (lt (w14 + 1 : Int32) fun v20 =>
      some (.inl v20))
    else
      (some (.inr w14)))
def J_X12_steady_4 (v15 : Int32) (v25 : Int32) (v26 : Int32) : Option ((Int32 × Int32 × Int32) ⊕ (Int32 × Int32)) :=
  some (.inl (v25, v26, v15))
def C_X12_steady_5 (w7 : Int32) (w8 : Int32) (w9 : Int32) (σ6 : uS) (v15 : Int32) : Option ((Int32 × Int32 × Int32) ⊕ (Int32 × Int32)) :=
  cp (F_X12_lagOnPath w9 σ6) fun v21 =>
  if v21 ≤ 0 then
    (J_X12_steady_4 v15 w7 w8)
  else
    (if (v15 - w9) ≤ w8 then
      (J_X12_steady_4 v15 w7 w8)
    else
      (lt (v15 - w9 : Int32) fun v24 =>
      J_X12_steady_4 v15 w9 v24))
def B_X12_steady_6 (σ6 : uS) (w7 : Int32) (w8 : Int32) (w9 : Int32) : Option ((Int32 × Int32 × Int32) ⊕ (Int32 × Int32)) :=
  if (σ6 55 17) ≤ w9 then
    (some (.inr (w7, w8)))
  else
    (lt (w9 + 1 : Int32) fun v13 =>
    lp (fun z => B_X12_steady_3 w9 σ6 z) v13 (fun z => C_X12_steady_5 w7 w8 w9 σ6 z))
def J_X12_steady_7 (σ6 : uS) (v32 : Int32) : Option (Int32 × uS) :=
  some (v32, σ6)
def C_X12_steady_8 (a1 : Int32) (σ6 : uS) (v10 : Int32) (v11 : Int32) : Option (Int32 × uS) :=
  if a1 = 2 then
    (if v10 = (-1) then
      (J_X12_steady_7 σ6 0)
    else
      (cp (F_X12_lagOnPath v10 σ6) fun v31 =>
      J_X12_steady_7 σ6 v31))
  else
    (lt (if a1 = 0 then v10 else v11 : Int32) fun v29 =>
    some (v29, σ6))
def F_X12_steady (a1 : Int32) (σ : uS) : Option (Int32 × uS) :=
  pf σ 55 9 0 fun σ1 =>
  cp (F_X12_isIn a1 0 2 σ1) fun v2 =>
  cl (F_X12_right v2 1 σ1) fun v4 σ3 =>
  if v4 = 0 then
    (some (0, σ3))
  else
    (cp (F_X12_laysPath σ3) fun σ6 =>
    lp (fun z => B_X12_steady_6 σ6 z.1 z.2.1 z.2.2) ((-1), 0, 0) (fun z => C_X12_steady_8 a1 σ6 z.1 z.2))
def B_X12_laysOften_2 (w2 : Int32) (σ3 : uS) : Option ((Int32 × uS) ⊕ (uS)) :=
  if 50 ≤ w2 then
    (some (.inr σ3))
  else
    (wr σ3 83 50 w2 0 fun σ6 =>
    lt (w2 + 1 : Int32) fun v7 =>
    some (.inl (v7, σ6)))
def B_X12_laysOften_4 (w8 : Int32) (σ9 : uS) : Option ((Int32 × uS) ⊕ (uS)) :=
  if (σ9 55 17) ≤ w8 then
    (some (.inr σ9))
  else
    (cp (F_X12_lagOnPath w8 σ9) fun v12 =>
    rd (σ9 83) 50 v12 fun v13 =>
    wr σ9 83 50 v12 (v13 + 1) fun σ14 =>
    lt (w8 + 1 : Int32) fun v15 =>
    some (.inl (v15, σ14)))
def C_X12_laysOften_5 (σ10 : uS) : Option (uS) :=
  wr σ10 83 50 0 0 fun σ16 =>
  some σ16
def C_X12_laysOften_6 (σ4 : uS) : Option (uS) :=
  lp (fun z => B_X12_laysOften_4 z.1 z.2) (0, σ4) (fun z => C_X12_laysOften_5 z)
def F_X12_laysOften (σ : uS) : Option (uS) :=
  cp (F_X12_laysPath σ) fun σ1 =>
  lp (fun z => B_X12_laysOften_2 z.1 z.2) (0, σ1) (fun z => C_X12_laysOften_6 z)
def B_X12_lags_2 (σ2 : uS) (w3 : Int32) (w4 : Int32) : Option ((Int32 × Int32) ⊕ (Int32)) :=
  if 50 ≤ w4 then
    (some (.inr w3))
  else
    (rd (σ2 83) 50 w4 fun v7 =>
    lt (if v7 ≤ 0 then 0 else 1 : Int32) fun v9 =>
    lt (w3 + v9 : Int32) fun v10 =>
    lt (w4 + 1 : Int32) fun v11 =>
    some (.inl (v10, v11)))
def C_X12_lags_3 (σ2 : uS) (v5 : Int32) : Option (Int32 × uS) :=
  some (v5, σ2)
def F_X12_lags (σ : uS) : Option (Int32 × uS) :=
  pf σ 55 9 0 fun σ1 =>
  cp (F_X12_laysOften σ1) fun σ2 =>
  lp (fun z => B_X12_lags_2 σ2 z.1 z.2) (0, 1) (fun z => C_X12_lags_3 σ2 z)
def J_X12_lagAt_2 (σ14 : uS) (v19 : Int32) : Option ((Int32 × Int32 × uS) ⊕ ((uS) ⊕ (Int32 × uS))) :=
  some (.inr (.inr (v19, σ14)))
def J_X12_lagAt_3 (w4 : Int32) (σ5 : uS) (v20 : Int32) : Option ((Int32 × Int32 × uS) ⊕ ((uS) ⊕ (Int32 × uS))) :=
  lt (w4 + 1 : Int32) fun v21 =>
  some (.inl (v20, v21, σ5))
def B_X12_lagAt_4 (a1 : Int32) (a2 : Int32) (w3 : Int32) (w4 : Int32) (σ5 : uS) : Option ((Int32 × Int32 × uS) ⊕ ((uS) ⊕ (Int32 × uS))) :=
  if 50 ≤ w4 then
    (some (.inr (.inl σ5)))
  else
    (if a1 < 0 then
      (some (.inr (.inl σ5)))
    else
      (rd (σ5 83) 50 w4 fun v9 =>
      if v9 = 0 then
        (J_X12_lagAt_3 w4 σ5 w3)
      else
        (if w3 = 0 then
          (cp (F_X12_isIn a2 0 1 σ5) fun v13 =>
          cl (F_X12_right v13 1 σ5) fun v15 σ14 =>
          if v15 = 0 then
            (J_X12_lagAt_2 σ14 0)
          else
            (if a2 = 0 then
              (J_X12_lagAt_2 σ14 w4)
            else
              (rd (σ14 83) 50 w4 fun v18 =>
              J_X12_lagAt_2 σ14 v18)))
        else
          (lt (w3 + (-1) : Int32) fun v12 =>
          J_X12_lagAt_3 w4 σ5 v12))))
def C_X12_lagAt_5 (σ6 : uS) : Option (Int32 × uS) :=
  cl (F_X12_right 0 1 σ6) fun v23 σ22 =>
  some (0, σ22)
def F_X12_lagAt (a1 : Int32) (a2 : Int32) (σ : uS) : Option (Int32 × uS) :=
  pf σ 55 9 0 fun σ1 =>
  cp (F_X12_laysOften σ1) fun σ2 =>
  lp (fun z => B_X12_lagAt_4 a1 a2 z.1 z.2.1 z.2.2) (a1, 1, σ2) (fun z => ex2 (fun x => C_X12_lagAt_5 x) (fun q => some q) z)
def B_X12_inMiddle_2 (σ : uS) (w2 : Int32) (w3 : Int32) : Option ((Int32 × Int32) ⊕ (Int32)) :=
  rd (σ 83) 50 w3 fun v5 =>
  if w2 < v5 then
    (some (.inr w3))
  else
    (rd (σ 83) 50 w3 fun v7 =>
    lt (w2 - v7 : Int32) fun v8 =>
    lt (w3 + 1 : Int32) fun v9 =>
    some (.inl (v8, v9)))
def C_X12_inMiddle_3 (v4 : Int32) : Option (Int32) :=
  some v4
def F_X12_inMiddle (a1 : Int32) (σ : uS) : Option (Int32) :=
  dv (a1 - 1) 2 fun v1 =>
  lp (fun z => B_X12_inMiddle_2 σ z.1 z.2) (v1, 1) (fun z => C_X12_inMiddle_3 z)
def J_X12_common_3 (v14 : Int32) (w9 : Int32) (v21 : Int32) : Option ((Int32 × Int32 × Int32) ⊕ (Int32 × Int32)) :=
  lt (w9 + 1 : Int32) fun v22 =>
  some (.inl (v21, v14, v22))
def J_X12_common_2 (v14 : Int32) (w9 : Int32) : Option ((Int32 × Int32 × Int32) ⊕ (Int32 × Int32)) :=
  J_X12_common_3 v14 w9 w9
def B_X12_common_4 (σ6 : uS) (w7 : Int32) (w8 : Int32) (w9 : Int32) : Option ((Int32 × Int32 × Int32) ⊕ (Int32 × Int32)) :=
  if 50 ≤ w9 then
    (some (.inr (w7, w8)))
  else
    (rd (σ6 83) 50 w9 fun v13 =>
    lt (w8 + v13 : Int32) fun v14 =>
    rd (σ6 83) 50 w9 fun v15 =>
    if v15 ≤ 0 then
      (J_X12_common_3 v14 w9 w7)
    else
      (if w7 = (-1) then
        (J_X12_common_2 v14 w9)
      else
        (rd (σ6 83) 50 w9 fun v18 =>
        rd (σ6 83) 50 w7 fun v19 =>
        if v18 ≤ v19 then
          (J_X12_common_3 v14 w9 w7)
        else
          (J_X12_common_2 v14 w9))))
def J_X12_common_6 (σ6 : uS) (v26 : Int32) : Option (Int32 × uS) :=
  some (v26, σ6)
def J_X12_common_5 (v10 : Int32) (σ6 : uS) : Option (Int32 × uS) :=
  J_X12_common_6 σ6 v10
def C_X12_common_7 (a1 : Int32) (σ6 : uS) (v10 : Int32) (v11 : Int32) : Option (Int32 × uS) :=
  if a1 = 0 then
    (J_X12_common_5 v10 σ6)
  else
    (if v11 = 0 then
      (J_X12_common_5 v10 σ6)
    else
      (cp (F_X12_inMiddle v11 σ6) fun v25 =>
      J_X12_common_6 σ6 v25))
def F_X12_common (a1 : Int32) (σ : uS) : Option (Int32 × uS) :=
  pf σ 55 9 0 fun σ1 =>
  cp (F_X12_isIn a1 0 1 σ1) fun v2 =>
  cl (F_X12_right v2 1 σ1) fun v4 σ3 =>
  if v4 = 0 then
    (some (0, σ3))
  else
    (cp (F_X12_laysOften σ3) fun σ6 =>
    lp (fun z => B_X12_common_4 σ6 z.1 z.2.1 z.2.2) ((-1), 0, 1) (fun z => C_X12_common_7 a1 σ6 z.1 z.2))
def J_X12_tune_1 (σ1 : uS) : Option (Int32 × uS) :=
  some ((-1000), σ1)
def F_X12_tune (a1 : Int32) (σ : uS) : Option (Int32 × uS) :=
  pf σ 55 9 0 fun σ1 =>
  cp (F_X12_isIn a1 1 48 σ1) fun v2 =>
  if v2 = 0 then
    (J_X12_tune_1 σ1)
  else
    (if (σ1 55 8) = 12 then
      (J_X12_tune_1 σ1)
    else
      (wr σ1 61 12 (σ1 55 8) a1 fun σ5 =>
      pf σ5 55 8 ((σ5 55 8) + 1) fun σ6 =>
      some (σ6 55 8, σ6)))
def F_X12_hush (σ : uS) : Option (Int32 × uS) :=
  pf σ 55 9 0 fun σ1 =>
  lt (σ1 55 8 : Int32) fun v2 =>
  pf σ1 55 8 0 fun σ3 =>
  some (v2, σ3)
def F_X12_matchAt (a1 : Int32) (a2 : Int32) (σ : uS) : Option (Int32) :=
  some ((111 * a1) + a2)
def F_X12_pairCost (a1 : Int32) (a2 : Int32) (σ : uS) : Option (Int32) :=
  rd (σ 61) 12 a1 fun v1 =>
  rd (σ 81) 110 a2 fun v2 =>
  cp (F_X12_apart v1 v2 σ) fun v3 =>
  some (10 * v3)
def B_X12_goesMatch_3 (v8 : Int32) (w2 : Int32) (w3 : Int32) (σ4 : uS) (w9 : Int32) : Option ((Int32) ⊕ (Int32)) :=
  if (σ4 55 38) ≤ w9 then
    (some (.inr w9))
  else
    (rd (σ4 56) 16 15 fun v12 =>
    cp (F_X12_pairCost w3 w9 σ4) fun v13 =>
    cp (F_X12_matchAt (w3 + 1) (w9 + 1) σ4) fun v14 =>
    rd (σ4 84) 1450 v14 fun v15 =>
    if ((((w9 - w2) * v12) + v13) + v15) = v8 then
      (some (.inr w9))
    else
      (lt (w9 + 1 : Int32) fun v17 =>
      some (.inl v17)))
def J_X12_goesMatch_4 (w3 : Int32) (v24 : Int32) (σ25 : uS) : Option ((Int32 × Int32 × uS) ⊕ (uS)) :=
  lt (w3 + 1 : Int32) fun v26 =>
  some (.inl (v24, v26, σ25))
def C_X12_goesMatch_5 (w2 : Int32) (w3 : Int32) (σ4 : uS) (v10 : Int32) : Option ((Int32 × Int32 × uS) ⊕ (uS)) :=
  lt (if (σ4 55 38) ≤ v10 then (-1) else v10 : Int32) fun v19 =>
  wr σ4 85 12 w3 v19 fun σ20 =>
  if (σ20 55 38) ≤ v10 then
    (J_X12_goesMatch_4 w3 w2 σ20)
  else
    (pf σ20 55 42 ((σ20 55 42) + 1) fun σ22 =>
    lt (v10 + 1 : Int32) fun v23 =>
    J_X12_goesMatch_4 w3 v23 σ22)
def B_X12_goesMatch_6 (w2 : Int32) (w3 : Int32) (σ4 : uS) : Option ((Int32 × Int32 × uS) ⊕ (uS)) :=
  if (σ4 55 8) ≤ w3 then
    (some (.inr σ4))
  else
    (cp (F_X12_matchAt w3 w2 σ4) fun v7 =>
    rd (σ4 84) 1450 v7 fun v8 =>
    lp (fun z => B_X12_goesMatch_3 v8 w2 w3 σ4 z) w2 (fun z => C_X12_goesMatch_5 w2 w3 σ4 z))
def C_X12_goesMatch_7 (σ5 : uS) : Option (uS) :=
  some σ5
def F_X12_goesMatch (σ : uS) : Option (uS) :=
  pf σ 55 42 0 fun σ1 =>
  lp (fun z => B_X12_goesMatch_6 z.1 z.2.1 z.2.2) (0, 0, σ1) (fun z => C_X12_goesMatch_7 z)
def J_X12_laysMatch_4 (w3 : Int32) (w8 : Int32) (σ9 : uS) (v33 : Int32) : Option ((Int32 × uS) ⊕ (uS)) :=
  cp (F_X12_matchAt w3 w8 σ9) fun v34 =>
  wr σ9 84 1450 v34 v33 fun σ35 =>
  lt (w8 + (-1) : Int32) fun v36 =>
  some (.inl (v36, σ35))
def J_X12_laysMatch_5 (w3 : Int32) (w8 : Int32) (σ9 : uS) (v26 : Int32) : Option ((Int32 × uS) ⊕ (uS)) :=
  if (σ9 55 8) ≤ w3 then
    (J_X12_laysMatch_4 w3 w8 σ9 v26)
  else
    (if (σ9 55 38) ≤ w8 then
      (J_X12_laysMatch_4 w3 w8 σ9 v26)
    else
      (cp (F_X12_pairCost w3 w8 σ9) fun v29 =>
      cp (F_X12_matchAt (w3 + 1) (w8 + 1) σ9) fun v30 =>
      rd (σ9 84) 1450 v30 fun v31 =>
      cp (F_X12_lesser v26 (v29 + v31) σ9) fun v32 =>
      J_X12_laysMatch_4 w3 w8 σ9 v32))
def J_X12_laysMatch_6 (w3 : Int32) (w8 : Int32) (σ9 : uS) (v20 : Int32) : Option ((Int32 × uS) ⊕ (uS)) :=
  if (σ9 55 38) ≤ w8 then
    (J_X12_laysMatch_5 w3 w8 σ9 v20)
  else
    (rd (σ9 56) 16 15 fun v22 =>
    cp (F_X12_matchAt w3 (w8 + 1) σ9) fun v23 =>
    rd (σ9 84) 1450 v23 fun v24 =>
    cp (F_X12_lesser v20 (v22 + v24) σ9) fun v25 =>
    J_X12_laysMatch_5 w3 w8 σ9 v25)
def J_X12_laysMatch_7 (w3 : Int32) (w8 : Int32) (σ9 : uS) (v14 : Int32) : Option ((Int32 × uS) ⊕ (uS)) :=
  if (σ9 55 8) ≤ w3 then
    (J_X12_laysMatch_6 w3 w8 σ9 v14)
  else
    (rd (σ9 56) 16 15 fun v16 =>
    cp (F_X12_matchAt (w3 + 1) w8 σ9) fun v17 =>
    rd (σ9 84) 1450 v17 fun v18 =>
    cp (F_X12_lesser v14 (v16 + v18) σ9) fun v19 =>
    J_X12_laysMatch_6 w3 w8 σ9 v19)
def J_X12_laysMatch_3 (w3 : Int32) (w8 : Int32) (σ9 : uS) : Option ((Int32 × uS) ⊕ (uS)) :=
  J_X12_laysMatch_7 w3 w8 σ9 2000000000
def B_X12_laysMatch_8 (w3 : Int32) (w8 : Int32) (σ9 : uS) : Option ((Int32 × uS) ⊕ (uS)) :=
  if w8 < 0 then
    (some (.inr σ9))
  else
    (if w3 = (σ9 55 8) then
      (if w8 = (σ9 55 38) then
        (J_X12_laysMatch_7 w3 w8 σ9 0)
      else
        (J_X12_laysMatch_3 w3 w8 σ9))
    else
      (J_X12_laysMatch_3 w3 w8 σ9))
def C_X12_laysMatch_9 (w3 : Int32) (σ10 : uS) : Option ((Int32 × uS) ⊕ (uS)) :=
  lt (w3 + (-1) : Int32) fun v37 =>
  some (.inl (v37, σ10))
def B_X12_laysMatch_10 (w3 : Int32) (σ4 : uS) : Option ((Int32 × uS) ⊕ (uS)) :=
  if w3 < 0 then
    (some (.inr σ4))
  else
    (lt (σ4 55 38 : Int32) fun v7 =>
    lp (fun z => B_X12_laysMatch_8 w3 z.1 z.2) (v7, σ4) (fun z => C_X12_laysMatch_9 w3 z))
def C_X12_laysMatch_11 (σ5 : uS) : Option (uS) :=
  cp (F_X12_goesMatch σ5) fun σ38 =>
  some σ38
def F_X12_laysMatch (σ : uS) : Option (uS) :=
  cp (F_X12_laysNotes σ) fun σ1 =>
  lt (σ1 55 8 : Int32) fun v2 =>
  lp (fun z => B_X12_laysMatch_10 z.1 z.2) (v2, σ1) (fun z => C_X12_laysMatch_11 z)
def J_X12_match_1 (σ6 : uS) (v9 : Int32) : Option (Int32 × uS) :=
  some (v9, σ6)
def F_X12_match (a1 : Int32) (σ : uS) : Option (Int32 × uS) :=
  pf σ 55 9 0 fun σ1 =>
  cp (F_X12_isIn a1 0 1 σ1) fun v2 =>
  cl (F_X12_right v2 1 σ1) fun v4 σ3 =>
  if v4 = 0 then
    (some (0, σ3))
  else
    (cp (F_X12_laysMatch σ3) fun σ6 =>
    if a1 = 0 then
      (rd (σ6 84) 1450 0 fun v8 =>
      J_X12_match_1 σ6 v8)
    else
      (J_X12_match_1 σ6 (σ6 55 42)))
def F_X12_matched (a1 : Int32) (σ : uS) : Option (Int32 × uS) :=
  pf σ 55 9 0 fun σ1 =>
  cp (F_X12_isIn a1 0 ((σ1 55 8) - 1) σ1) fun v2 =>
  cl (F_X12_right v2 1 σ1) fun v4 σ3 =>
  if v4 = 0 then
    (some (0, σ3))
  else
    (cp (F_X12_laysMatch σ3) fun σ6 =>
    rd (σ6 85) 12 a1 fun v7 =>
    some (v7, σ6))
def F_X12_marks (σ : uS) : Option (Int32 × uS) :=
  pf σ 55 9 0 fun σ1 =>
  cp (F_X12_laysMarks σ1) fun σ2 =>
  some (σ2 55 49, σ2)
def J_X12_mark_1 (σ4 : uS) (v8 : Int32) : Option (Int32 × uS) :=
  some (v8, σ4)
def F_X12_mark (a1 : Int32) (σ : uS) : Option (Int32 × uS) :=
  pf σ 55 9 0 fun σ1 =>
  cp (F_X12_laysMarks σ1) fun σ2 =>
  cp (F_X12_isIn a1 0 ((σ2 55 49) - 1) σ2) fun v3 =>
  cl (F_X12_right v3 1 σ2) fun v5 σ4 =>
  if v5 = 0 then
    (J_X12_mark_1 σ4 0)
  else
    (rd (σ4 88) 400 a1 fun v7 =>
    J_X12_mark_1 σ4 v7)
def F_X12_off (a1 : Int64) (a2 : Int64) (σ : uS) : Option (Int64) :=
  lt (if (lg_cmp a1 a2) ≤ 0 then (a2 - a1) else (a1 - a2) : Int64) fun v2 =>
  some v2
def J_X12_near_3 (w4 : Int32) (v13 : Int32) : Option ((Int32 × Int32) ⊕ (Int32)) :=
  lt (w4 + 1 : Int32) fun v14 =>
  some (.inl (v13, v14))
def J_X12_near_2 (w4 : Int32) : Option ((Int32 × Int32) ⊕ (Int32)) :=
  J_X12_near_3 w4 w4
def B_X12_near_4 (a1 : Int32) (σ2 : uS) (w3 : Int32) (w4 : Int32) : Option ((Int32 × Int32) ⊕ (Int32)) :=
  if (σ2 55 49) ≤ w4 then
    (some (.inr w3))
  else
    (if w3 = (-1) then
      (J_X12_near_2 w4)
    else
      (rd (σ2 88) 400 w4 fun v8 =>
      cp (F_X12_off (Int32.toInt64 v8) (Int32.toInt64 a1) σ2) fun v9 =>
      rd (σ2 88) 400 w3 fun v10 =>
      cp (F_X12_off (Int32.toInt64 v10) (Int32.toInt64 a1) σ2) fun v11 =>
      if 0 ≤ (lg_cmp v9 v11) then
        (J_X12_near_3 w4 w3)
      else
        (J_X12_near_2 w4)))
def J_X12_near_5 (σ2 : uS) (v17 : Int32) : Option (Int32 × uS) :=
  some (v17, σ2)
def C_X12_near_6 (σ2 : uS) (v5 : Int32) : Option (Int32 × uS) :=
  if v5 = (-1) then
    (J_X12_near_5 σ2 (-1))
  else
    (rd (σ2 88) 400 v5 fun v16 =>
    J_X12_near_5 σ2 v16)
def F_X12_near (a1 : Int32) (σ : uS) : Option (Int32 × uS) :=
  pf σ 55 9 0 fun σ1 =>
  cp (F_X12_laysMarks σ1) fun σ2 =>
  lp (fun z => B_X12_near_4 a1 σ2 z.1 z.2) ((-1), 0) (fun z => C_X12_near_6 σ2 z)
def B_X12_behind_2 (a1 : Int32) (σ2 : uS) (w3 : Int32) : Option ((Int32) ⊕ ((Unit) ⊕ (Int32 × uS))) :=
  if (σ2 55 49) ≤ w3 then
    (some (.inr (.inl ())))
  else
    (rd (σ2 88) 400 w3 fun v5 =>
    if v5 ≤ a1 then
      (lt (w3 + 1 : Int32) fun v7 =>
      some (.inl v7))
    else
      (rd (σ2 88) 400 w3 fun v8 =>
      some (.inr (.inr (v8, σ2)))))
def C_X12_behind_3 (σ2 : uS) : Option (Int32 × uS) :=
  some ((-1), σ2)
def F_X12_behind (a1 : Int32) (σ : uS) : Option (Int32 × uS) :=
  pf σ 55 9 0 fun σ1 =>
  cp (F_X12_laysMarks σ1) fun σ2 =>
  lp (fun z => B_X12_behind_2 a1 σ2 z) 0 (fun z => ex2 (fun x => C_X12_behind_3 σ2) (fun q => some q) z)
def J_X12_hasGap_2 (v5 : Int32) : Option (Int32) :=
  bz v5 (some v5)
def J_X12_hasGap_1 : Option (Int32) :=
  J_X12_hasGap_2 0
def F_X12_hasGap (a1 : Int32) (σ : uS) : Option (Int32) :=
  if (σ 55 49) ≤ (a1 + 1) then
    (J_X12_hasGap_1)
  else
    (rd (σ 89) 400 (a1 + 1) fun v2 =>
    rd (σ 89) 400 a1 fun v3 =>
    if v2 = v3 then
      (J_X12_hasGap_2 1)
    else
      (J_X12_hasGap_1))
def F_X12_gapOf (a1 : Int32) (σ : uS) : Option (Int32) :=
  rd (σ 88) 400 (a1 + 1) fun v1 =>
  rd (σ 88) 400 a1 fun v2 =>
  some (v1 - v2)
def J_X12_gaps_6 (w12 : Int32) (v44 : Int32) (v45 : Int32) (v46 : Int32) (v47 : Int32) (v48 : Int32) : Option ((Int32 × Int32 × Int32 × Int32 × Int32 × Int32) ⊕ (Int32 × Int32 × Int32 × Int32 × Int32)) :=
  lt (w12 + 1 : Int32) fun v49 =>
  some (.inl (v44, v45, v46, v47, v48, v49))
def J_X12_gaps_3 (v21 : Int32) (v27 : Int32) (v34 : Int32) (v38 : Int32) (w12 : Int32) (v43 : Int32) : Option ((Int32 × Int32 × Int32 × Int32 × Int32 × Int32) ⊕ (Int32 × Int32 × Int32 × Int32 × Int32)) :=
  J_X12_gaps_6 w12 v21 v34 v27 v38 v43
def J_X12_gaps_2 (v21 : Int32) (v27 : Int32) (v34 : Int32) (v38 : Int32) (w12 : Int32) (σ6 : uS) : Option ((Int32 × Int32 × Int32 × Int32 × Int32 × Int32) ⊕ (Int32 × Int32 × Int32 × Int32 × Int32)) :=
  cp (F_X12_gapOf w12 σ6) fun v42 =>
  J_X12_gaps_3 v21 v27 v34 v38 w12 v42
def J_X12_gaps_4 (v21 : Int32) (v27 : Int32) (v34 : Int32) (w11 : Int32) (w12 : Int32) (σ6 : uS) (v38 : Int32) : Option ((Int32 × Int32 × Int32 × Int32 × Int32 × Int32) ⊕ (Int32 × Int32 × Int32 × Int32 × Int32)) :=
  if w11 = (-1) then
    (J_X12_gaps_2 v21 v27 v34 v38 w12 σ6)
  else
    (cp (F_X12_gapOf w12 σ6) fun v40 =>
    if w11 ≤ v40 then
      (J_X12_gaps_3 v21 v27 v34 v38 w12 w11)
    else
      (J_X12_gaps_2 v21 v27 v34 v38 w12 σ6))
def J_X12_gaps_5 (v21 : Int32) (v27 : Int32) (w8 : Int32) (w10 : Int32) (w11 : Int32) (w12 : Int32) (σ6 : uS) (v33 : Int32) : Option ((Int32 × Int32 × Int32 × Int32 × Int32 × Int32) ⊕ (Int32 × Int32 × Int32 × Int32 × Int32)) :=
  lt (w8 + v33 : Int32) fun v34 =>
  cp (F_X12_gapOf w12 σ6) fun v35 =>
  if v35 ≤ w10 then
    (J_X12_gaps_4 v21 v27 v34 w11 w12 σ6 w10)
  else
    (cp (F_X12_gapOf w12 σ6) fun v37 =>
    J_X12_gaps_4 v21 v27 v34 w11 w12 σ6 v37)
def B_X12_gaps_7 (σ6 : uS) (w7 : Int32) (w8 : Int32) (w9 : Int32) (w10 : Int32) (w11 : Int32) (w12 : Int32) : Option ((Int32 × Int32 × Int32 × Int32 × Int32 × Int32) ⊕ (Int32 × Int32 × Int32 × Int32 × Int32)) :=
  if (σ6 55 49) ≤ w12 then
    (some (.inr (w7, w8, w9, w10, w11)))
  else
    (cp (F_X12_hasGap w12 σ6) fun v19 =>
    if v19 = 0 then
      (J_X12_gaps_6 w12 w7 w8 w9 w10 w11)
    else
      (lt (w7 + 1 : Int32) fun v21 =>
      rd (σ6 88) 400 w12 fun v22 =>
      rd (σ6 59) 800 v22 fun v23 =>
      rd (σ6 88) 400 (w12 + 1) fun v24 =>
      rd (σ6 59) 800 v24 fun v25 =>
      cp (F_X12_apart v23 v25 σ6) fun v26 =>
      lt (w9 + v26 : Int32) fun v27 =>
      cp (F_X12_hasGap (w12 + 1) σ6) fun v28 =>
      if v28 = 0 then
        (J_X12_gaps_5 v21 v27 w8 w10 w11 w12 σ6 0)
      else
        (cp (F_X12_gapOf w12 σ6) fun v30 =>
        cp (F_X12_gapOf (w12 + 1) σ6) fun v31 =>
        cp (F_X12_apart v30 v31 σ6) fun v32 =>
        J_X12_gaps_5 v21 v27 w8 w10 w11 w12 σ6 v32)))
def C_X12_gaps_8 (a1 : Int32) (σ6 : uS) (v13 : Int32) (v14 : Int32) (v15 : Int32) (v16 : Int32) (v17 : Int32) : Option (Int32 × uS) :=
  if a1 = 0 then
    (some (v13, σ6))
  else
    (if a1 = 1 then
      (some (v14, σ6))
    else
      (if a1 = 2 then
        (some (v15, σ6))
      else
        (if a1 = 3 then
          (some (v16, σ6))
        else
          (some (v17, σ6)))))
def F_X12_gaps (a1 : Int32) (σ : uS) : Option (Int32 × uS) :=
  pf σ 55 9 0 fun σ1 =>
  cp (F_X12_isIn a1 0 4 σ1) fun v2 =>
  cl (F_X12_right v2 1 σ1) fun v4 σ3 =>
  if v4 = 0 then
    (some (0, σ3))
  else
    (cp (F_X12_laysMarks σ3) fun σ6 =>
    lp (fun z => B_X12_gaps_7 σ6 z.1 z.2.1 z.2.2.1 z.2.2.2.1 z.2.2.2.2.1 z.2.2.2.2.2) (0, 0, 0, (-1), (-1), 0) (fun z => C_X12_gaps_8 a1 σ6 z.1 z.2.1 z.2.2.1 z.2.2.2.1 z.2.2.2.2))
def B_X12_roughOf_2 (a1 : Int32) (σ : uS) (w3 : Int32) (w4 : Int32) : Option ((Int32 × Int32) ⊕ (Int32)) :=
  cp (F_X12_gapOf a1 σ) fun v6 =>
  if v6 ≤ w4 then
    (some (.inr w3))
  else
    (rd (σ 88) 400 a1 fun v8 =>
    cp (F_X12_at (v8 + w4) σ) fun v9 =>
    rd (σ 88) 400 (a1 + 1) fun v10 =>
    cp (F_X12_at (v10 + w4) σ) fun v11 =>
    cp (F_X12_apart v9 v11 σ) fun v12 =>
    lt (w3 + v12 : Int32) fun v13 =>
    lt (w4 + 1 : Int32) fun v14 =>
    some (.inl (v13, v14)))
def C_X12_roughOf_3 (v5 : Int32) : Option (Int32) :=
  some v5
def F_X12_roughOf (a1 : Int32) (σ : uS) : Option (Int32) :=
  cp (F_X12_hasGap a1 σ) fun v1 =>
  if v1 = 0 then
    (some (-1))
  else
    (lp (fun z => B_X12_roughOf_2 a1 σ z.1 z.2) (0, 0) (fun z => C_X12_roughOf_3 z))
def J_X12_rough_1 (σ4 : uS) (v8 : Int32) : Option (Int32 × uS) :=
  some (v8, σ4)
def F_X12_rough (a1 : Int32) (σ : uS) : Option (Int32 × uS) :=
  pf σ 55 9 0 fun σ1 =>
  cp (F_X12_laysMarks σ1) fun σ2 =>
  cp (F_X12_isIn a1 0 ((σ2 55 49) - 1) σ2) fun v3 =>
  cl (F_X12_right v3 1 σ2) fun v5 σ4 =>
  if v5 = 0 then
    (J_X12_rough_1 σ4 0)
  else
    (cp (F_X12_roughOf a1 σ4) fun v7 =>
    J_X12_rough_1 σ4 v7)
def J_X12_roughest_3 (w4 : Int32) (v13 : Int32) : Option ((Int32 × Int32) ⊕ (Int32)) :=
  lt (w4 + 1 : Int32) fun v14 =>
  some (.inl (v13, v14))
def J_X12_roughest_2 (w4 : Int32) : Option ((Int32 × Int32) ⊕ (Int32)) :=
  J_X12_roughest_3 w4 w4
def B_X12_roughest_4 (σ2 : uS) (w3 : Int32) (w4 : Int32) : Option ((Int32 × Int32) ⊕ (Int32)) :=
  if (σ2 55 49) ≤ w4 then
    (some (.inr w3))
  else
    (cp (F_X12_roughOf w4 σ2) fun v7 =>
    if v7 = (-1) then
      (J_X12_roughest_3 w4 w3)
    else
      (if w3 = (-1) then
        (J_X12_roughest_2 w4)
      else
        (cp (F_X12_roughOf w4 σ2) fun v10 =>
        cp (F_X12_roughOf w3 σ2) fun v11 =>
        if v10 ≤ v11 then
          (J_X12_roughest_3 w4 w3)
        else
          (J_X12_roughest_2 w4))))
def C_X12_roughest_5 (σ2 : uS) (v5 : Int32) : Option (Int32 × uS) :=
  some (v5, σ2)
def F_X12_roughest (σ : uS) : Option (Int32 × uS) :=
  pf σ 55 9 0 fun σ1 =>
  cp (F_X12_laysMarks σ1) fun σ2 =>
  lp (fun z => B_X12_roughest_4 σ2 z.1 z.2) ((-1), 0) (fun z => C_X12_roughest_5 σ2 z)
def J_X12_mean_2 (v12 : Int32) (w4 : Int32) (w5 : Int32) (v16 : Int32) : Option ((Int32 × Int32 × Int32) ⊕ (Int32 × Int32)) :=
  lt (w4 + v16 : Int32) fun v17 =>
  lt (w5 + 1 : Int32) fun v18 =>
  some (.inl (v12, v17, v18))
def B_X12_mean_3 (σ2 : uS) (w3 : Int32) (w4 : Int32) (w5 : Int32) : Option ((Int32 × Int32 × Int32) ⊕ (Int32 × Int32)) :=
  if (σ2 55 49) ≤ w5 then
    (some (.inr (w3, w4)))
  else
    (cp (F_X12_hasGap w5 σ2) fun v9 =>
    lt (if v9 = 0 then 0 else 1 : Int32) fun v11 =>
    lt (w3 + v11 : Int32) fun v12 =>
    cp (F_X12_hasGap w5 σ2) fun v13 =>
    if v13 = 0 then
      (J_X12_mean_2 v12 w4 w5 0)
    else
      (cp (F_X12_gapOf w5 σ2) fun v15 =>
      J_X12_mean_2 v12 w4 w5 v15))
def J_X12_mean_4 (σ21 : uS) (v28 : Int32) : Option (Int32 × uS) :=
  some (v28, σ21)
def C_X12_mean_5 (a1 : Int32) (σ2 : uS) (v6 : Int32) (v7 : Int32) : Option (Int32 × uS) :=
  lt (if v6 ≤ 0 then 0 else 1 : Int32) fun v20 =>
  cl (F_X12_right v20 1 σ2) fun v22 σ21 =>
  if v22 = 0 then
    (some (0, σ21))
  else
    (cp (F_X12_divisor v7 v6 σ21) fun v24 =>
    if a1 = 0 then
      (dv v7 v24 fun v26 =>
      J_X12_mean_4 σ21 v26)
    else
      (dv v6 v24 fun v27 =>
      J_X12_mean_4 σ21 v27))
def F_X12_mean (a1 : Int32) (σ : uS) : Option (Int32 × uS) :=
  pf σ 55 9 0 fun σ1 =>
  cp (F_X12_laysMarks σ1) fun σ2 =>
  lp (fun z => B_X12_mean_3 σ2 z.1 z.2.1 z.2.2) (0, 0, 0) (fun z => C_X12_mean_5 a1 σ2 z.1 z.2)
def J_X12_graspOf_1 (v12 : Int32) : Option (Int32) :=
  some v12
def F_X12_graspOf (a1 : Int32) (σ : uS) : Option (Int32) :=
  cp (F_X12_hasGap a1 σ) fun v1 =>
  if v1 = 0 then
    (rd (σ 89) 400 a1 fun v3 =>
    rd (σ 90) 111 v3 fun v4 =>
    lt (if a1 ≤ v4 then 0 else 1 : Int32) fun v6 =>
    if v6 = 0 then
      (rd (σ 89) 400 a1 fun v8 =>
      rd (σ 88) 400 a1 fun v9 =>
      cp (F_X12_periodAt v8 v9 σ) fun v10 =>
      J_X12_graspOf_1 v10)
    else
      (cp (F_X12_gapOf (a1 - 1) σ) fun v11 =>
      J_X12_graspOf_1 v11))
  else
    (cp (F_X12_gapOf a1 σ) fun v13 =>
    some v13)
def B_X12_markNear_2 (a1 : Int32) (a2 : Int32) (σ : uS) (w2 : Int32) (w3 : Int32) : Option ((Int32 × Int32) ⊕ (Int32)) :=
  rd (σ 90) 111 (a1 + 1) fun v5 =>
  if v5 ≤ w3 then
    (some (.inr w2))
  else
    (rd (σ 88) 400 w3 fun v7 =>
    cp (F_X12_apart v7 a2 σ) fun v8 =>
    rd (σ 88) 400 w2 fun v9 =>
    cp (F_X12_apart v9 a2 σ) fun v10 =>
    lt (if v10 ≤ v8 then w2 else w3 : Int32) fun v12 =>
    lt (w3 + 1 : Int32) fun v13 =>
    some (.inl (v12, v13)))
def C_X12_markNear_3 (v4 : Int32) : Option (Int32) :=
  some v4
def F_X12_markNear (a1 : Int32) (a2 : Int32) (σ : uS) : Option (Int32) :=
  rd (σ 90) 111 a1 fun v1 =>
  lp (fun z => B_X12_markNear_2 a1 a2 σ z.1 z.2) (v1, v1) (fun z => C_X12_markNear_3 z)
def J_X12_setAnew_2 (a3 : Int32) (a4 : Int32) (v9 : Int32) (w4 : Int32) (v16 : Int32) : Option ((Int32 × Int32) ⊕ (Int32)) :=
  dv (v9 * a3) a4 fun v17 =>
  lt (if 1 ≤ v17 then v17 else 1 : Int32) fun v19 =>
  lt (w4 + v19 : Int32) fun v20 =>
  some (.inl (v16, v20))
def B_X12_setAnew_3 (a1 : Int32) (a2 : Int32) (a3 : Int32) (a4 : Int32) (σ : uS) (w3 : Int32) (w4 : Int32) : Option ((Int32 × Int32) ⊕ (Int32)) :=
  cp (F_X12_behindSpan a1 σ) fun v6 =>
  if v6 ≤ w4 then
    (some (.inr w3))
  else
    (cp (F_X12_markNear a1 w4 σ) fun v8 =>
    cp (F_X12_graspOf v8 σ) fun v9 =>
    cp (F_X12_apart a2 w4 σ) fun v10 =>
    if v9 ≤ v10 then
      (J_X12_setAnew_2 a3 a4 v9 w4 w3)
    else
      (rd (σ 88) 400 v8 fun v12 =>
      cp (F_X12_at ((v12 + a2) - w4) σ) fun v13 =>
      cp (F_X12_down (v13 * (v9 - v10)) v9 σ) fun v14 =>
      lt (w3 + v14 : Int32) fun v15 =>
      J_X12_setAnew_2 a3 a4 v9 w4 v15))
def C_X12_setAnew_4 (v5 : Int32) : Option (Int32) :=
  some v5
def F_X12_setAnew (a1 : Int32) (a2 : Int32) (a3 : Int32) (a4 : Int32) (σ : uS) : Option (Int32) :=
  rd (σ 90) 111 a1 fun v1 =>
  rd (σ 88) 400 v1 fun v2 =>
  lp (fun z => B_X12_setAnew_3 a1 a2 a3 a4 σ z.1 z.2) (0, v2) (fun z => C_X12_setAnew_4 z)
def J_X12_anew_7 (σ26 : uS) : Option (Int32 × uS) :=
  some (0, σ26)
def J_X12_anew_3 (w15 : Int32) : Option ((Int32) ⊕ ((Unit) ⊕ (Int32 × uS))) :=
  lt (w15 + 1 : Int32) fun v24 =>
  some (.inl v24)
def B_X12_anew_4 (a1 : Int32) (a2 : Int32) (a3 : Int32) (σ14 : uS) (w15 : Int32) : Option ((Int32) ⊕ ((Unit) ⊕ (Int32 × uS))) :=
  if (σ14 55 33) ≤ w15 then
    (some (.inr (.inl ())))
  else
    (cp (F_X12_isVoiced w15 σ14) fun v17 =>
    if v17 = 0 then
      (J_X12_anew_3 w15)
    else
      (cp (F_X12_firstSample w15 σ14) fun v19 =>
      cp (F_X12_behindSpan w15 σ14) fun v20 =>
      cp (F_X12_isIn a3 v19 (v20 - 1) σ14) fun v21 =>
      if v21 = 0 then
        (J_X12_anew_3 w15)
      else
        (cp (F_X12_setAnew w15 a3 a1 a2 σ14) fun v23 =>
        some (.inr (.inr (v23, σ14))))))
def C_X12_anew_5 (a3 : Int32) (σ14 : uS) : Option (Int32 × uS) :=
  rd (σ14 59) 800 a3 fun v25 =>
  some (v25, σ14)
def J_X12_anew_6 (a1 : Int32) (a2 : Int32) (a3 : Int32) (σ3 : uS) (v10 : Int32) : Option (Int32 × uS) :=
  cl (F_X12_right v10 2 σ3) fun v12 σ11 =>
  if v12 = 0 then
    (J_X12_anew_7 σ11)
  else
    (cp (F_X12_laysMarks σ11) fun σ14 =>
    lp (fun z => B_X12_anew_4 a1 a2 a3 σ14 z) 0 (fun z => ex2 (fun x => C_X12_anew_5 a3 σ14) (fun q => some q) z))
def J_X12_anew_1 (a1 : Int32) (a2 : Int32) (a3 : Int32) (σ3 : uS) : Option (Int32 × uS) :=
  J_X12_anew_6 a1 a2 a3 σ3 0
def F_X12_anew (a1 : Int32) (a2 : Int32) (a3 : Int32) (σ : uS) : Option (Int32 × uS) :=
  pf σ 55 9 0 fun σ1 =>
  cp (F_X12_isIn a3 0 ((σ1 55 6) - 1) σ1) fun v2 =>
  cl (F_X12_right v2 1 σ1) fun v4 σ3 =>
  if v4 = 0 then
    (J_X12_anew_7 σ3)
  else
    (cp (F_X12_isIn a1 1 4 σ3) fun v6 =>
    if v6 = 0 then
      (J_X12_anew_1 a1 a2 a3 σ3)
    else
      (cp (F_X12_isIn a2 1 4 σ3) fun v8 =>
      if v8 = 0 then
        (J_X12_anew_1 a1 a2 a3 σ3)
      else
        (J_X12_anew_6 a1 a2 a3 σ3 1)))

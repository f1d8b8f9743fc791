def F_X11_sample (a1 : Int32) (σ : uS) : Option ((Int32 ⊕ Nat) × uS) :=
  cp (F_X7_has a1 σ) fun v1 =>
  if v1 = 0 then
    (some (.inr 1, σ))
  else
    (cp (F_X7_at a1 σ) fun v3 =>
    some (.inl v3, σ))
def J_X11_count_2 (a1 : Int32) (σ : uS) (v3 : Int32) : Option ((Int32 ⊕ Nat) × uS) :=
  if v3 = 0 then
    (some (.inr 1, σ))
  else
    (if a1 = 0 then
      (cp (F_X7_size σ) fun v6 =>
      some (.inl v6, σ))
    else
      (if a1 = 1 then
        (cp (F_X2_size σ) fun v8 =>
        some (.inl v8, σ))
      else
        (if a1 = 16 then
          (cp (F_X7_tapeSize σ) fun v10 =>
          some (.inl v10, σ))
        else
          (if a1 = 17 then
            (cp (F_X10_size σ) fun v12 =>
            some (.inl v12, σ))
          else
            (cp (F_X0_of a1 σ) fun v13 =>
            some (.inl v13, σ))))))
def J_X11_count_1 (a1 : Int32) (σ : uS) : Option ((Int32 ⊕ Nat) × uS) :=
  J_X11_count_2 a1 σ 0
def F_X11_count (a1 : Int32) (σ : uS) : Option ((Int32 ⊕ Nat) × uS) :=
  if a1 < 0 then
    (J_X11_count_1 a1 σ)
  else
    (if 17 < a1 then
      (J_X11_count_1 a1 σ)
    else
      (J_X11_count_2 a1 σ 1))
def J_X11_diff_2 (a1 : Int32) (a2 : Int32) (σ : uS) (v5 : Int32) : Option ((Int32 ⊕ Nat) × uS) :=
  if v5 = 0 then
    (some (.inr 1, σ))
  else
    (cp (F_X2_measure a1 σ) fun σ7 =>
    cp (F_X2_diffAt a1 a2 σ7) fun v8 =>
    some (.inl v8, σ7))
def J_X11_diff_1 (a1 : Int32) (a2 : Int32) (σ : uS) : Option ((Int32 ⊕ Nat) × uS) :=
  J_X11_diff_2 a1 a2 σ 0
def F_X11_diff (a1 : Int32) (a2 : Int32) (σ : uS) : Option ((Int32 ⊕ Nat) × uS) :=
  cp (F_X2_has a1 σ) fun v1 =>
  if v1 = 0 then
    (J_X11_diff_1 a1 a2 σ)
  else
    (cp (F_X11_isLag a2 σ) fun v3 =>
    if v3 = 0 then
      (J_X11_diff_1 a1 a2 σ)
    else
      (J_X11_diff_2 a1 a2 σ 1))
def J_X11_rel_2 (a1 : Int32) (a2 : Int32) (σ : uS) (v5 : Int32) : Option ((Int32 ⊕ Nat) × uS) :=
  if v5 = 0 then
    (some (.inr 1, σ))
  else
    (cp (F_X2_measure a1 σ) fun σ7 =>
    cp (F_X2_relAt a1 a2 σ7) fun v8 =>
    some (.inl v8, σ7))
def J_X11_rel_1 (a1 : Int32) (a2 : Int32) (σ : uS) : Option ((Int32 ⊕ Nat) × uS) :=
  J_X11_rel_2 a1 a2 σ 0
def F_X11_rel (a1 : Int32) (a2 : Int32) (σ : uS) : Option ((Int32 ⊕ Nat) × uS) :=
  cp (F_X2_has a1 σ) fun v1 =>
  if v1 = 0 then
    (J_X11_rel_1 a1 a2 σ)
  else
    (cp (F_X11_isLag a2 σ) fun v3 =>
    if v3 = 0 then
      (J_X11_rel_1 a1 a2 σ)
    else
      (J_X11_rel_2 a1 a2 σ 1))
def F_X11_loud (a1 : Int32) (σ : uS) : Option ((Int32 ⊕ Nat) × uS) :=
  cp (F_X2_has a1 σ) fun v1 =>
  if v1 = 0 then
    (some (.inr 1, σ))
  else
    (cp (F_X2_measure a1 σ) fun σ3 =>
    cp (F_X2_loudAt a1 σ3) fun v4 =>
    some (.inl v4, σ3))
def F_X11_candidates (a1 : Int32) (σ : uS) : Option ((Int32 ⊕ Nat) × uS) :=
  cp (F_X2_has a1 σ) fun v1 =>
  if v1 = 0 then
    (some (.inr 1, σ))
  else
    (cp (F_X11_findPath σ) fun σ3 =>
    cp (F_X1_sizeOf a1 σ3) fun v4 =>
    some (.inl v4, σ3))
def J_X11_candidate_2 (a1 : Int32) (a2 : Int32) (a3 : Int32) (σ1 : uS) (v6 : Int32) : Option ((Int32 ⊕ Nat) × uS) :=
  if v6 = 0 then
    (some (.inr 1, σ1))
  else
    (if a3 = 0 then
      (cp (F_X1_lagOf a1 a2 σ1) fun v9 =>
      some (.inl v9, σ1))
    else
      (if a3 = 1 then
        (cp (F_X1_ownOf a1 a2 σ1) fun v11 =>
        some (.inl v11, σ1))
      else
        (if a3 = 2 then
          (cp (F_X1_halfOf a1 a2 σ1) fun v13 =>
          some (.inl v13, σ1))
        else
          (cp (F_X1_cheaperThan a1 a2 σ1) fun v14 =>
          some (.inl v14, σ1)))))
def J_X11_candidate_1 (a1 : Int32) (a2 : Int32) (a3 : Int32) (σ1 : uS) : Option ((Int32 ⊕ Nat) × uS) :=
  J_X11_candidate_2 a1 a2 a3 σ1 0
def F_X11_candidate (a1 : Int32) (a2 : Int32) (a3 : Int32) (σ : uS) : Option ((Int32 ⊕ Nat) × uS) :=
  cp (F_X11_findPath σ) fun σ1 =>
  cp (F_X1_has a1 a2 σ1) fun v2 =>
  if v2 = 0 then
    (some (.inr 1, σ1))
  else
    (if a3 < 0 then
      (J_X11_candidate_1 a1 a2 a3 σ1)
    else
      (if 3 < a3 then
        (J_X11_candidate_1 a1 a2 a3 σ1)
      else
        (J_X11_candidate_2 a1 a2 a3 σ1 1)))
def J_X11_fine_1 (σ1 : uS) (v17 : Int32) : Option ((Int32 ⊕ Nat) × uS) :=
  some (.inl v17, σ1)
def F_X11_fine (a1 : Int32) (a2 : Int32) (a3 : Int32) (σ : uS) : Option ((Int32 ⊕ Nat) × uS) :=
  cp (F_X11_findPath σ) fun σ1 =>
  cp (F_X1_has a1 a2 σ1) fun v2 =>
  if v2 = 0 then
    (some (.inr 1, σ1))
  else
    (cp (F_X1_lagOf a1 a2 σ1) fun v4 =>
    lt (if v4 = 0 then 0 else 1 : Int32) fun v6 =>
    if v6 = 0 then
      (some (.inr 1, σ1))
    else
      (cp (F_X2_diffAt a1 (v4 - 1) σ1) fun v8 =>
      cp (F_X2_diffAt a1 v4 σ1) fun v9 =>
      cp (F_X2_diffAt a1 (v4 + 1) σ1) fun v10 =>
      lt (2 * ((v8 - (2 * v9)) + v10) : Int32) fun v11 =>
      if v11 = 0 then
        (lt (if a3 = 0 then v4 else 1 : Int32) fun v19 =>
        some (.inl v19, σ1))
      else
        (lt (((v4 * v11) + v8) - v10 : Int32) fun v13 =>
        if 0 ≤ v11 then
          (cp (F_X11_lowest v13 v11 a3 σ1) fun v15 =>
          J_X11_fine_1 σ1 v15)
        else
          (cp (F_X11_lowest (-v13) (-v11) a3 σ1) fun v16 =>
          J_X11_fine_1 σ1 v16))))
def J_X11_cost_2 (a1 : Int32) (σ : uS) (v3 : Int32) : Option ((Int32 ⊕ Nat) × uS) :=
  if v3 = 0 then
    (some (.inr 1, σ))
  else
    (cp (F_X11_findPath σ) fun σ5 =>
    cl (F_X5_priceOf a1 σ5) fun v7 σ6 =>
    some (.inl v7, σ6))
def J_X11_cost_1 (a1 : Int32) (σ : uS) : Option ((Int32 ⊕ Nat) × uS) :=
  J_X11_cost_2 a1 σ 0
def F_X11_cost (a1 : Int32) (σ : uS) : Option ((Int32 ⊕ Nat) × uS) :=
  if a1 < 0 then
    (J_X11_cost_1 a1 σ)
  else
    (if 4 < a1 then
      (J_X11_cost_1 a1 σ)
    else
      (J_X11_cost_2 a1 σ 1))
def F_X11_path (a1 : Int32) (σ : uS) : Option ((Int32 ⊕ Nat) × uS) :=
  cp (F_X2_has a1 σ) fun v1 =>
  if v1 = 0 then
    (some (.inr 1, σ))
  else
    (cp (F_X11_findPath σ) fun σ3 =>
    cp (F_X5_chosenIn a1 σ3) fun v4 =>
    some (.inl v4, σ3))
def F_X11_lag (a1 : Int32) (σ : uS) : Option ((Int32 ⊕ Nat) × uS) :=
  cp (F_X2_has a1 σ) fun v1 =>
  if v1 = 0 then
    (some (.inr 1, σ))
  else
    (cp (F_X11_findPath σ) fun σ3 =>
    cp (F_X5_lagIn a1 σ3) fun v4 =>
    some (.inl v4, σ3))
def F_X11_through (a1 : Int32) (a2 : Int32) (σ : uS) : Option ((Int32 ⊕ Nat) × uS) :=
  cp (F_X11_findPath σ) fun σ1 =>
  cp (F_X1_has a1 a2 σ1) fun v2 =>
  if v2 = 0 then
    (some (.inr 1, σ1))
  else
    (cp (F_X5_leastThrough a1 a2 σ1) fun v4 =>
    some (.inl v4, σ1))
def F_X11_both (a1 : Int32) (a2 : Int32) (a3 : Int32) (a4 : Int32) (σ : uS) : Option ((Int32 ⊕ Nat) × uS) :=
  cp (F_X11_findPath σ) fun σ1 =>
  cp (F_X1_has a1 a2 σ1) fun v2 =>
  if v2 = 0 then
    (some (.inr 1, σ1))
  else
    (cp (F_X1_has a3 a4 σ1) fun v4 =>
    if v4 = 0 then
      (some (.inr 1, σ1))
    else
      (lt (if a3 ≤ a1 then 0 else 1 : Int32) fun v7 =>
      if v7 = 0 then
        (some (.inr 2, σ1))
      else
        (cl (F_X5_leastThroughTwo a1 a2 a3 a4 σ1) fun v10 σ9 =>
        some (.inl v10, σ9))))
def J_X11_live_2 (a1 : Int32) (a2 : Int32) (σ3 : uS) (v6 : Int32) : Option ((Int32 ⊕ Nat) × uS) :=
  if v6 = 0 then
    (some (.inr 2, σ3))
  else
    (cp (F_X5_chosenLive a1 a2 σ3) fun v8 =>
    some (.inl v8, σ3))
def J_X11_live_1 (a1 : Int32) (a2 : Int32) (σ3 : uS) : Option ((Int32 ⊕ Nat) × uS) :=
  J_X11_live_2 a1 a2 σ3 0
def F_X11_live (a1 : Int32) (a2 : Int32) (σ : uS) : Option ((Int32 ⊕ Nat) × uS) :=
  cp (F_X2_has a1 σ) fun v1 =>
  if v1 = 0 then
    (some (.inr 1, σ))
  else
    (cp (F_X11_findPath σ) fun σ3 =>
    if a2 < 0 then
      (J_X11_live_1 a1 a2 σ3)
    else
      (if 20 < a2 then
        (J_X11_live_1 a1 a2 σ3)
      else
        (J_X11_live_2 a1 a2 σ3 1)))
def B_X11_settles_2 (a1 : Int32) (v4 : Int32) (σ3 : uS) (w5 : Int32) : Option ((Int32) ⊕ (Int32)) :=
  if w5 ≤ 0 then
    (some (.inr w5))
  else
    (cp (F_X5_chosenLive a1 (w5 - 1) σ3) fun v8 =>
    if v8 = v4 then
      (lt (w5 + (-1) : Int32) fun v10 =>
      some (.inl v10))
    else
      (some (.inr w5)))
def C_X11_settles_3 (σ3 : uS) (v6 : Int32) : Option ((Int32 ⊕ Nat) × uS) :=
  some (.inl v6, σ3)
def F_X11_settles (a1 : Int32) (σ : uS) : Option ((Int32 ⊕ Nat) × uS) :=
  cp (F_X2_has a1 σ) fun v1 =>
  if v1 = 0 then
    (some (.inr 1, σ))
  else
    (cp (F_X11_findPath σ) fun σ3 =>
    cp (F_X5_chosenLive a1 20 σ3) fun v4 =>
    lp (fun z => B_X11_settles_2 a1 v4 σ3 z) 20 (fun z => C_X11_settles_3 σ3 z))
def J_X11_best_2 (a1 : Int32) (σ : uS) (v3 : Int32) : Option ((Int32 ⊕ Nat) × uS) :=
  if v3 = 0 then
    (some (.inr 2, σ))
  else
    (cp (F_X11_findRanking σ) fun σ5 =>
    cp (F_X6_priceOf a1 σ5) fun v6 =>
    some (.inl v6, σ5))
def J_X11_best_1 (a1 : Int32) (σ : uS) : Option ((Int32 ⊕ Nat) × uS) :=
  J_X11_best_2 a1 σ 0
def F_X11_best (a1 : Int32) (σ : uS) : Option ((Int32 ⊕ Nat) × uS) :=
  if a1 < 0 then
    (J_X11_best_1 a1 σ)
  else
    (if 8 ≤ a1 then
      (J_X11_best_1 a1 σ)
    else
      (J_X11_best_2 a1 σ 1))
def J_X11_bestAt_2 (a1 : Int32) (a2 : Int32) (σ : uS) (v3 : Int32) : Option ((Int32 ⊕ Nat) × uS) :=
  if v3 = 0 then
    (some (.inr 2, σ))
  else
    (cp (F_X2_has a2 σ) fun v5 =>
    if v5 = 0 then
      (some (.inr 1, σ))
    else
      (cp (F_X11_findRanking σ) fun σ7 =>
      cp (F_X6_chosenIn a1 a2 σ7) fun v8 =>
      some (.inl v8, σ7)))
def J_X11_bestAt_1 (a1 : Int32) (a2 : Int32) (σ : uS) : Option ((Int32 ⊕ Nat) × uS) :=
  J_X11_bestAt_2 a1 a2 σ 0
def F_X11_bestAt (a1 : Int32) (a2 : Int32) (σ : uS) : Option ((Int32 ⊕ Nat) × uS) :=
  if a1 < 0 then
    (J_X11_bestAt_1 a1 a2 σ)
  else
    (if 8 ≤ a1 then
      (J_X11_bestAt_1 a1 a2 σ)
    else
      (J_X11_bestAt_2 a1 a2 σ 1))
def J_X11_would_2 (a1 : Int32) (a2 : Int32) (σ : uS) (v5 : Int32) : Option ((Int32 ⊕ Nat) × uS) :=
  if v5 = 0 then
    (some (.inr 2, σ))
  else
    (cp (F_X11_findPath σ) fun σ7 =>
    cl (F_X5_leastWith a1 a2 σ7) fun v9 σ8 =>
    some (.inl v9, σ8))
def J_X11_would_1 (a1 : Int32) (a2 : Int32) (σ : uS) : Option ((Int32 ⊕ Nat) × uS) :=
  J_X11_would_2 a1 a2 σ 0
def F_X11_would (a1 : Int32) (a2 : Int32) (σ : uS) : Option ((Int32 ⊕ Nat) × uS) :=
  if a1 < 0 then
    (J_X11_would_1 a1 a2 σ)
  else
    (if 2000 < a1 then
      (J_X11_would_1 a1 a2 σ)
    else
      (if a2 < 0 then
        (J_X11_would_1 a1 a2 σ)
      else
        (if 2000 < a2 then
          (J_X11_would_1 a1 a2 σ)
        else
          (J_X11_would_2 a1 a2 σ 1))))
def J_X11_span_2 (a1 : Int32) (a2 : Int32) (σ1 : uS) (v6 : Int32) : Option ((Int32 ⊕ Nat) × uS) :=
  if v6 = 0 then
    (some (.inr 1, σ1))
  else
    (if a2 = 0 then
      (cp (F_X8_firstFrame a1 σ1) fun v9 =>
      some (.inl v9, σ1))
    else
      (if a2 = 1 then
        (cp (F_X8_length a1 σ1) fun v11 =>
        some (.inl v11, σ1))
      else
        (if a2 = 2 then
          (cp (F_X8_isVoiced a1 σ1) fun v13 =>
          lt (if v13 = 0 then 0 else 1 : Int32) fun v15 =>
          some (.inl v15, σ1))
        else
          (if a2 = 3 then
            (cp (F_X8_from a1 σ1) fun v17 =>
            some (.inl v17, σ1))
          else
            (if a2 = 4 then
              (cp (F_X8_to a1 σ1) fun v19 =>
              some (.inl v19, σ1))
            else
              (if a2 = 5 then
                (cp (F_X11_findMarks σ1) fun σ21 =>
                cp (F_X3_sizeIn a1 σ21) fun v22 =>
                some (.inl v22, σ21))
              else
                (cp (F_X11_findMarks σ1) fun σ23 =>
                cp (F_X3_worthIn a1 σ23) fun v24 =>
                some (.inl v24, σ23))))))))
def J_X11_span_1 (a1 : Int32) (a2 : Int32) (σ1 : uS) : Option ((Int32 ⊕ Nat) × uS) :=
  J_X11_span_2 a1 a2 σ1 0
def F_X11_span (a1 : Int32) (a2 : Int32) (σ : uS) : Option ((Int32 ⊕ Nat) × uS) :=
  cp (F_X11_findPath σ) fun σ1 =>
  cp (F_X8_has a1 σ1) fun v2 =>
  if v2 = 0 then
    (J_X11_span_1 a1 a2 σ1)
  else
    (if a2 < 0 then
      (J_X11_span_1 a1 a2 σ1)
    else
      (if 6 < a2 then
        (J_X11_span_1 a1 a2 σ1)
      else
        (J_X11_span_2 a1 a2 σ1 1)))
def J_X11_note_2 (a1 : Int32) (a2 : Int32) (σ1 : uS) (v6 : Int32) : Option ((Int32 ⊕ Nat) × uS) :=
  if v6 = 0 then
    (some (.inr 1, σ1))
  else
    (if a2 = 0 then
      (cp (F_X4_firstFrame a1 σ1) fun v9 =>
      some (.inl v9, σ1))
    else
      (if a2 = 1 then
        (cp (F_X4_length a1 σ1) fun v11 =>
        some (.inl v11, σ1))
      else
        (cp (F_X4_lagOf a1 σ1) fun v12 =>
        some (.inl v12, σ1))))
def J_X11_note_1 (a1 : Int32) (a2 : Int32) (σ1 : uS) : Option ((Int32 ⊕ Nat) × uS) :=
  J_X11_note_2 a1 a2 σ1 0
def F_X11_note (a1 : Int32) (a2 : Int32) (σ : uS) : Option ((Int32 ⊕ Nat) × uS) :=
  cp (F_X11_findPath σ) fun σ1 =>
  cp (F_X4_has a1 σ1) fun v2 =>
  if v2 = 0 then
    (J_X11_note_1 a1 a2 σ1)
  else
    (if a2 < 0 then
      (J_X11_note_1 a1 a2 σ1)
    else
      (if 2 < a2 then
        (J_X11_note_1 a1 a2 σ1)
      else
        (J_X11_note_2 a1 a2 σ1 1)))
def J_X11_steady_2 (a1 : Int32) (σ : uS) (v3 : Int32) : Option ((Int32 ⊕ Nat) × uS) :=
  if v3 = 0 then
    (some (.inr 1, σ))
  else
    (cp (F_X11_findPath σ) fun σ5 =>
    if a1 = 0 then
      (cp (F_X4_steadyFirst σ5) fun v7 =>
      some (.inl v7, σ5))
    else
      (if a1 = 1 then
        (cp (F_X4_steadyLength σ5) fun v9 =>
        some (.inl v9, σ5))
      else
        (cp (F_X4_steadyLag σ5) fun v10 =>
        some (.inl v10, σ5))))
def J_X11_steady_1 (a1 : Int32) (σ : uS) : Option ((Int32 ⊕ Nat) × uS) :=
  J_X11_steady_2 a1 σ 0
def F_X11_steady (a1 : Int32) (σ : uS) : Option ((Int32 ⊕ Nat) × uS) :=
  if a1 < 0 then
    (J_X11_steady_1 a1 σ)
  else
    (if 2 < a1 then
      (J_X11_steady_1 a1 σ)
    else
      (J_X11_steady_2 a1 σ 1))
def J_X11_lagAt_2 (σ1 : uS) (v12 : Int32) : Option ((Int32 ⊕ Nat) × uS) :=
  some (.inl v12, σ1)
def J_X11_lagAt_3 (a1 : Int32) (a2 : Int32) (σ1 : uS) (v7 : Int32) : Option ((Int32 ⊕ Nat) × uS) :=
  if v7 = 0 then
    (some (.inr 1, σ1))
  else
    (cp (F_X4_unlikeLag a1 σ1) fun v9 =>
    if a2 = 0 then
      (J_X11_lagAt_2 σ1 v9)
    else
      (cp (F_X4_framesWith v9 σ1) fun v11 =>
      J_X11_lagAt_2 σ1 v11))
def J_X11_lagAt_1 (a1 : Int32) (a2 : Int32) (σ1 : uS) : Option ((Int32 ⊕ Nat) × uS) :=
  J_X11_lagAt_3 a1 a2 σ1 0
def F_X11_lagAt (a1 : Int32) (a2 : Int32) (σ : uS) : Option ((Int32 ⊕ Nat) × uS) :=
  cp (F_X11_findPath σ) fun σ1 =>
  if a1 < 0 then
    (J_X11_lagAt_1 a1 a2 σ1)
  else
    (cp (F_X4_unlikeLags σ1) fun v3 =>
    if v3 ≤ a1 then
      (J_X11_lagAt_1 a1 a2 σ1)
    else
      (if a2 < 0 then
        (J_X11_lagAt_1 a1 a2 σ1)
      else
        (if 1 < a2 then
          (J_X11_lagAt_1 a1 a2 σ1)
        else
          (J_X11_lagAt_3 a1 a2 σ1 1))))
def J_X11_common_2 (σ5 : uS) (v9 : Int32) : Option ((Int32 ⊕ Nat) × uS) :=
  some (.inl v9, σ5)
def J_X11_common_3 (a1 : Int32) (σ : uS) (v3 : Int32) : Option ((Int32 ⊕ Nat) × uS) :=
  if v3 = 0 then
    (some (.inr 1, σ))
  else
    (cp (F_X11_findPath σ) fun σ5 =>
    if a1 = 0 then
      (cp (F_X4_commonest σ5) fun v8 =>
      J_X11_common_2 σ5 v8)
    else
      (cp (F_X4_middleOfAll σ5) fun v7 =>
      J_X11_common_2 σ5 v7))
def J_X11_common_1 (a1 : Int32) (σ : uS) : Option ((Int32 ⊕ Nat) × uS) :=
  J_X11_common_3 a1 σ 0
def F_X11_common (a1 : Int32) (σ : uS) : Option ((Int32 ⊕ Nat) × uS) :=
  if a1 < 0 then
    (J_X11_common_1 a1 σ)
  else
    (if 1 < a1 then
      (J_X11_common_1 a1 σ)
    else
      (J_X11_common_3 a1 σ 1))
def J_X11_match_2 (σ6 : uS) (v10 : Int32) : Option ((Int32 ⊕ Nat) × uS) :=
  some (.inl v10, σ6)
def J_X11_match_3 (a1 : Int32) (σ : uS) (v3 : Int32) : Option ((Int32 ⊕ Nat) × uS) :=
  if v3 = 0 then
    (some (.inr 1, σ))
  else
    (cp (F_X11_findPath σ) fun σ5 =>
    cp (F_X10_findPairs σ5) fun σ6 =>
    if a1 = 0 then
      (cp (F_X10_price σ6) fun v9 =>
      J_X11_match_2 σ6 v9)
    else
      (cp (F_X10_pairs σ6) fun v8 =>
      J_X11_match_2 σ6 v8))
def J_X11_match_1 (a1 : Int32) (σ : uS) : Option ((Int32 ⊕ Nat) × uS) :=
  J_X11_match_3 a1 σ 0
def F_X11_match (a1 : Int32) (σ : uS) : Option ((Int32 ⊕ Nat) × uS) :=
  if a1 < 0 then
    (J_X11_match_1 a1 σ)
  else
    (if 1 < a1 then
      (J_X11_match_1 a1 σ)
    else
      (J_X11_match_3 a1 σ 1))
def J_X11_matched_2 (a1 : Int32) (σ : uS) (v4 : Int32) : Option ((Int32 ⊕ Nat) × uS) :=
  if v4 = 0 then
    (some (.inr 1, σ))
  else
    (cp (F_X11_findPath σ) fun σ6 =>
    cp (F_X10_findPairs σ6) fun σ7 =>
    cp (F_X10_pairOf a1 σ7) fun v8 =>
    some (.inl v8, σ7))
def J_X11_matched_1 (a1 : Int32) (σ : uS) : Option ((Int32 ⊕ Nat) × uS) :=
  J_X11_matched_2 a1 σ 0
def F_X11_matched (a1 : Int32) (σ : uS) : Option ((Int32 ⊕ Nat) × uS) :=
  if a1 < 0 then
    (J_X11_matched_1 a1 σ)
  else
    (cp (F_X10_size σ) fun v2 =>
    if v2 ≤ a1 then
      (J_X11_matched_1 a1 σ)
    else
      (J_X11_matched_2 a1 σ 1))
def F_X11_mark (a1 : Int32) (σ : uS) : Option ((Int32 ⊕ Nat) × uS) :=
  cp (F_X11_findMarks σ) fun σ1 =>
  cp (F_X3_has a1 σ1) fun v2 =>
  if v2 = 0 then
    (some (.inr 1, σ1))
  else
    (cp (F_X3_at a1 σ1) fun v4 =>
    some (.inl v4, σ1))
def J_X11_gaps_2 (a1 : Int32) (σ : uS) (v3 : Int32) : Option ((Int32 ⊕ Nat) × uS) :=
  if v3 = 0 then
    (some (.inr 1, σ))
  else
    (cp (F_X11_findMarks σ) fun σ5 =>
    if a1 = 0 then
      (cp (F_X3_gapCount σ5) fun v7 =>
      some (.inl v7, σ5))
    else
      (if a1 = 1 then
        (cp (F_X3_jitter σ5) fun v9 =>
        some (.inl v9, σ5))
      else
        (if a1 = 2 then
          (cp (F_X3_shimmer σ5) fun v11 =>
          some (.inl v11, σ5))
        else
          (if a1 = 3 then
            (cp (F_X3_longestGap σ5) fun v13 =>
            some (.inl v13, σ5))
          else
            (cp (F_X3_shortestGap σ5) fun v14 =>
            some (.inl v14, σ5))))))
def J_X11_gaps_1 (a1 : Int32) (σ : uS) : Option ((Int32 ⊕ Nat) × uS) :=
  J_X11_gaps_2 a1 σ 0
def F_X11_gaps (a1 : Int32) (σ : uS) : Option ((Int32 ⊕ Nat) × uS) :=
  if a1 < 0 then
    (J_X11_gaps_1 a1 σ)
  else
    (if 4 < a1 then
      (J_X11_gaps_1 a1 σ)
    else
      (J_X11_gaps_2 a1 σ 1))
def F_X11_rough (a1 : Int32) (σ : uS) : Option ((Int32 ⊕ Nat) × uS) :=
  cp (F_X11_findMarks σ) fun σ1 =>
  cp (F_X3_has a1 σ1) fun v2 =>
  if v2 = 0 then
    (some (.inr 1, σ1))
  else
    (cp (F_X3_roughness a1 σ1) fun v4 =>
    some (.inl v4, σ1))
def F_X11_mean (a1 : Int32) (σ : uS) : Option ((Int32 ⊕ Nat) × uS) :=
  cp (F_X11_findMarks σ) fun σ1 =>
  cp (F_X3_gapCount σ1) fun v2 =>
  lt (if v2 ≤ 0 then 0 else 1 : Int32) fun v4 =>
  if v4 = 0 then
    (some (.inr 1, σ1))
  else
    (cp (F_X3_gapSum σ1) fun v6 =>
    cp (F_X3_gapCount σ1) fun v7 =>
    cp (F_X11_lowest v6 v7 a1 σ1) fun v8 =>
    some (.inl v8, σ1))
def J_X11_anew_2 (a1 : Int32) (a2 : Int32) (a3 : Int32) (σ : uS) (v7 : Int32) : Option ((Int32 ⊕ Nat) × uS) :=
  if v7 = 0 then
    (some (.inr 2, σ))
  else
    (cp (F_X11_findMarks σ) fun σ9 =>
    cp (F_X3_renewed a1 a2 a3 σ9) fun v10 =>
    some (.inl v10, σ9))
def J_X11_anew_1 (a1 : Int32) (a2 : Int32) (a3 : Int32) (σ : uS) : Option ((Int32 ⊕ Nat) × uS) :=
  J_X11_anew_2 a1 a2 a3 σ 0
def F_X11_anew (a1 : Int32) (a2 : Int32) (a3 : Int32) (σ : uS) : Option ((Int32 ⊕ Nat) × uS) :=
  cp (F_X7_has a3 σ) fun v1 =>
  if v1 = 0 then
    (some (.inr 1, σ))
  else
    (if a1 < 1 then
      (J_X11_anew_1 a1 a2 a3 σ)
    else
      (if 4 < a1 then
        (J_X11_anew_1 a1 a2 a3 σ)
      else
        (if a2 < 1 then
          (J_X11_anew_1 a1 a2 a3 σ)
        else
          (if 4 < a2 then
            (J_X11_anew_1 a1 a2 a3 σ)
          else
            (J_X11_anew_2 a1 a2 a3 σ 1)))))

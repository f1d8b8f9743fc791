def GF_X7_size (g : uZ) : Option Int :=
  some (g 1 2)
def GJ_X7_has_2 (v3 : Int) : Option Int :=
  bzZ v3 <|
  some v3
def GJ_X7_has_1 : Option Int :=
  GJ_X7_has_2 0
def GF_X7_has (a1 : Int) (g : uZ) : Option Int :=
  ck a1 <| if a1 < 0 then
  (GJ_X7_has_1)
  else
  (ck (g 1 2) <| if (g 1 2) ≤ a1 then
  (GJ_X7_has_1)
  else
  (GJ_X7_has_2 1))
def GF_X7_hasRoom (a1 : Int) (g : uZ) : Option Int :=
  ck ((g 1 2) + a1) <| lt (if 800 < ((g 1 2) + a1) then 0 else 1) fun v2 =>
  bzZ v2 <|
  some v2
def GJ_X7_at_2 (v4 : Int) : Option Int :=
  some v4
def GJ_X7_at_1 : Option Int :=
  GJ_X7_at_2 0
def GF_X7_at (a1 : Int) (g : uZ) : Option Int :=
  ck a1 <| if a1 < 0 then
  (GJ_X7_at_1)
  else
  (ck (g 1 2) <| if a1 < (g 1 2) then
  (rdZ (g 2) 800 a1 fun v3 =>
  GJ_X7_at_2 v3)
  else
  (GJ_X7_at_1))
def GJ_X7_put_1 (g4 : uZ) : Option uZ :=
  some g4
def GF_X7_put (a1 : Int) (a2 : Int) (g : uZ) : Option uZ :=
  cp (GF_X7_has a1 g) fun v1 =>
  ck v1 <| if v1 = 0 then
  (GJ_X7_put_1 g)
  else
  (wrZ g 2 800 a1 a2 fun g3 =>
  GJ_X7_put_1 g3)
def GJ_X7_append_1 (g4 : uZ) : Option uZ :=
  some g4
def GF_X7_append (a1 : Int) (g : uZ) : Option uZ :=
  ck (g 1 2) <| if 800 ≤ (g 1 2) then
  (GJ_X7_append_1 g)
  else
  (wrZ g 2 800 (g 1 2) a1 fun g2 =>
  pfZ g2 1 2 ((g2 1 2) + 1) fun g3 =>
  GJ_X7_append_1 g3)
def GF_J9_max_7cf53 (a1 : Int) (a2 : Int) (g : uZ) : Option Int :=
  ck a1 <| ck a2 <| lt (if a1 < a2 then a2 else a1) fun v2 =>
  some v2
def GF_X7_drop (a1 : Int) (g : uZ) : Option uZ :=
  cp (GF_J9_max_7cf53 0 ((g 1 2) - a1) g) fun v1 =>
  pfZ g 1 2 v1 fun g2 =>
  some g2
def GB_X7_offItself_2 (a1 : Int) (a2 : Int) (a3 : Int) (g : uZ) (w4 : Int) (w5 : Int) : Option ((Int × Int) ⊕ Int) :=
  ck (a1 + a2) <| ck w5 <| if (a1 + a2) ≤ w5 then
  (some (Sum.inr w4))
  else
  (rdZ (g 2) 800 w5 fun v8 =>
  rdZ (g 2) 800 (w5 + a3) fun v9 =>
  lt (v8 - v9) fun v10 =>
  ck v10 <| lt (if 0 ≤ v10 then v10 else (-v10)) fun v12 =>
  lt (w4 + v12) fun v13 =>
  lt (w5 + 1) fun v14 =>
  some (Sum.inl (v13, v14)))
def GC_X7_offItself_3 (v6 : Int) : Option Int :=
  some v6
def GJ_X7_offItself_4 : Option Int :=
  some 0
def GF_X7_offItself (a1 : Int) (a2 : Int) (a3 : Int) (g : uZ) : Option Int :=
  ck a1 <| if a1 < 0 then
  (GJ_X7_offItself_4)
  else
  (ck a3 <| if a3 < 0 then
  (GJ_X7_offItself_4)
  else
  (ck ((a1 + a2) + a3) <| ck (g 1 2) <| if ((a1 + a2) + a3) ≤ (g 1 2) then
  (lp (fun z => GB_X7_offItself_2 a1 a2 a3 g z.1 z.2) (0, a1) (fun z => GC_X7_offItself_3 z))
  else
  (GJ_X7_offItself_4)))
def GF_J9_abs_0f7a4 (a1 : Int) (g : uZ) : Option Int :=
  ck a1 <| lt (if 0 ≤ a1 then a1 else (-a1)) fun v2 =>
  some v2
def GB_X7_loudness_2 (a1 : Int) (a2 : Int) (g : uZ) (w1 : Int) (w2 : Int) : Option ((Int × Int) ⊕ Int) :=
  ck (a1 + a2) <| ck w2 <| if (a1 + a2) ≤ w2 then
  (some (Sum.inr w1))
  else
  (cp (GF_X7_at w2 g) fun v5 =>
  cp (GF_J9_abs_0f7a4 v5 g) fun v6 =>
  lt (w1 + v6) fun v7 =>
  lt (w2 + 1) fun v8 =>
  some (Sum.inl (v7, v8)))
def GC_X7_loudness_3 (v3 : Int) : Option Int :=
  some v3
def GF_X7_loudness (a1 : Int) (a2 : Int) (g : uZ) : Option Int :=
  lp (fun z => GB_X7_loudness_2 a1 a2 g z.1 z.2) (0, a1) (fun z => GC_X7_loudness_3 z)
def GF_X7_tapeSize (g : uZ) : Option Int :=
  some (g 1 3)
def GB_X7_tapeNumber_2 (a1 : Int) (w1 : Int) (g2 : uZ) : Option ((Int × uZ) ⊕ uZ) :=
  ck w1 <| if w1 < 0 then
  (some (Sum.inr g2))
  else
  (ck (g2 1 3) <| if 400 ≤ (g2 1 3) then
  (some (Sum.inr g2))
  else
  (wrZ g2 3 400 (g2 1 3) ((Int32.toInt8 ((zI a1) >>> ((zI w1) &&& ((31 : Int32))))).toInt32).toInt fun g6 =>
  pfZ g6 1 3 ((g6 1 3) + 1) fun g7 =>
  lt (w1 + (-8)) fun v8 =>
  some (Sum.inl (v8, g7))))
def GC_X7_tapeNumber_3 (g3 : uZ) : Option uZ :=
  some g3
def GF_X7_tapeNumber (a1 : Int) (g : uZ) : Option uZ :=
  lp (fun z => GB_X7_tapeNumber_2 a1 z.1 z.2) (24, g) (fun z => GC_X7_tapeNumber_3 z)
def GB_X7_appendFromTape_2 (a1 : Int) (w1 : Int) (g2 : uZ) : Option ((Int × uZ) ⊕ uZ) :=
  ck a1 <| ck w1 <| if a1 ≤ w1 then
  (some (Sum.inr g2))
  else
  (ck (g2 1 3) <| if (g2 1 3) ≤ w1 then
  (some (Sum.inr g2))
  else
  (rdZ (g2 3) 400 w1 fun v6 =>
  cp (GF_X7_append v6 g2) fun g7 =>
  lt (w1 + 1) fun v8 =>
  some (Sum.inl (v8, g7))))
def GC_X7_appendFromTape_3 (g3 : uZ) : Option uZ :=
  pfZ g3 1 3 0 fun g9 =>
  some g9
def GF_X7_appendFromTape (a1 : Int) (g : uZ) : Option uZ :=
  lp (fun z => GB_X7_appendFromTape_2 a1 z.1 z.2) (0, g) (fun z => GC_X7_appendFromTape_3 z)
def GJ_X0_of_2 (v4 : Int) : Option Int :=
  some v4
def GJ_X0_of_1 : Option Int :=
  GJ_X0_of_2 0
def GF_X0_of (a1 : Int) (g : uZ) : Option Int :=
  ck a1 <| if a1 < 2 then
  (GJ_X0_of_1)
  else
  (if a1 ≤ 15 then
  (rdZ (g 5) 16 a1 fun v3 =>
  GJ_X0_of_2 v3)
  else
  (GJ_X0_of_1))
def GJ_X0_allows_2 (v11 : Int) : Option Int :=
  bzZ v11 <|
  some v11
def GJ_X0_allows_1 : Option Int :=
  GJ_X0_allows_2 1
def GJ_X0_allows_3 : Option Int :=
  some 0
def GF_X0_allows (a1 : Int) (a2 : Int) (g : uZ) : Option Int :=
  ck a1 <| if a1 < 2 then
  (GJ_X0_allows_3)
  else
  (if 15 < a1 then
  (GJ_X0_allows_3)
  else
  (rdZ u_leastZ 16 a1 fun v3 =>
  ck a2 <| ck v3 <| if a2 < v3 then
  (GJ_X0_allows_3)
  else
  (rdZ u_mostZ 16 a1 fun v5 =>
  ck v5 <| if a2 ≤ v5 then
  (if a1 = 4 then
  (rdZ (g 5) 16 5 fun v12 =>
  ck v12 <| lt (if v12 ≤ a2 then 0 else 1) fun v14 =>
  bzZ v14 <|
  some v14)
  else
  (if a1 = 5 then
  (rdZ (g 5) 16 4 fun v9 =>
  ck v9 <| if a2 ≤ v9 then
  (GJ_X0_allows_2 0)
  else
  (GJ_X0_allows_1))
  else
  (GJ_X0_allows_1)))
  else
  (GJ_X0_allows_3))))
def GJ_X0_put_1 (g4 : uZ) : Option uZ :=
  some g4
def GF_X0_put (a1 : Int) (a2 : Int) (g : uZ) : Option uZ :=
  cp (GF_X0_allows a1 a2 g) fun v1 =>
  ck v1 <| if v1 = 0 then
  (GJ_X0_put_1 g)
  else
  (wrZ g 5 16 a1 a2 fun g3 =>
  GJ_X0_put_1 g3)
def GF_X9_set_17 (a1 : Int) (a2 : Int) (a3 : Int) (g : uZ) : Option uZ :=
  pfZ g 17 0 a1 fun g1 =>
  pfZ g1 17 1 a2 fun g2 =>
  pfZ g2 17 2 a3 fun g3 =>
  some g3
def GF_X9_set_18 (a1 : Int) (a2 : Int) (a3 : Int) (g : uZ) : Option uZ :=
  pfZ g 18 0 a1 fun g1 =>
  pfZ g1 18 1 a2 fun g2 =>
  pfZ g2 18 2 a3 fun g3 =>
  some g3
def GF_X9_set_28 (a1 : Int) (a2 : Int) (a3 : Int) (g : uZ) : Option uZ :=
  pfZ g 28 0 a1 fun g1 =>
  pfZ g1 28 1 a2 fun g2 =>
  pfZ g2 28 2 a3 fun g3 =>
  some g3
def GJ_X9_price_17_1 (a1 : Int) (a2 : Int) (g : uZ) : Option Int :=
  ck a1 <| ck a2 <| lt (if a1 = a2 then 0 else (g 17 2)) fun v10 =>
  some v10
def GF_X9_price_17 (a1 : Int) (a2 : Int) (g : uZ) : Option Int :=
  ck a1 <| if a1 = 0 then
  (GJ_X9_price_17_1 a1 a2 g)
  else
  (ck a2 <| if a2 = 0 then
  (GJ_X9_price_17_1 a1 a2 g)
  else
  (lt (if a1 ≤ a2 then a2 else a1) fun v4 =>
  lt (if a1 ≤ a2 then a1 else a2) fun v6 =>
  ck v4 <| ck ((2 * v6) - 1) <| lt (if v4 < ((2 * v6) - 1) then 0 else (g 17 1)) fun v8 =>
  some (((g 17 0) * (v4 - v6)) + v8)))
def GJ_X9_price_18_1 (a1 : Int) (a2 : Int) (g : uZ) : Option Int :=
  ck a1 <| ck a2 <| lt (if a1 = a2 then 0 else (g 18 2)) fun v10 =>
  some v10
def GF_X9_price_18 (a1 : Int) (a2 : Int) (g : uZ) : Option Int :=
  ck a1 <| if a1 = 0 then
  (GJ_X9_price_18_1 a1 a2 g)
  else
  (ck a2 <| if a2 = 0 then
  (GJ_X9_price_18_1 a1 a2 g)
  else
  (lt (if a1 ≤ a2 then a2 else a1) fun v4 =>
  lt (if a1 ≤ a2 then a1 else a2) fun v6 =>
  ck v4 <| ck ((2 * v6) - 1) <| lt (if v4 < ((2 * v6) - 1) then 0 else (g 18 1)) fun v8 =>
  some (((g 18 0) * (v4 - v6)) + v8)))
def GJ_X9_price_28_1 (a1 : Int) (a2 : Int) (g : uZ) : Option Int :=
  ck a1 <| ck a2 <| lt (if a1 = a2 then 0 else (g 28 2)) fun v10 =>
  some v10
def GF_X9_price_28 (a1 : Int) (a2 : Int) (g : uZ) : Option Int :=
  ck a1 <| if a1 = 0 then
  (GJ_X9_price_28_1 a1 a2 g)
  else
  (ck a2 <| if a2 = 0 then
  (GJ_X9_price_28_1 a1 a2 g)
  else
  (lt (if a1 ≤ a2 then a2 else a1) fun v4 =>
  lt (if a1 ≤ a2 then a1 else a2) fun v6 =>
  ck v4 <| ck ((2 * v6) - 1) <| lt (if v4 < ((2 * v6) - 1) then 0 else (g 28 1)) fun v8 =>
  some (((g 28 0) * (v4 - v6)) + v8)))
def GF_X2_reach (g : uZ) : Option Int :=
  cp (GF_X0_of 3 g) fun v1 =>
  cp (GF_X0_of 5 g) fun v2 =>
  some ((v1 + v2) + 1)
def GJ_J9_floorDiv_7cf53_1 (v1 : Int) : Option Int :=
  some v1
def GF_J9_floorDiv_7cf53 (a1 : Int) (a2 : Int) (g : uZ) : Option Int :=
  dvZ a1 a2 fun v1 =>
  ck ((zI a1) ^^^ (zI a2)).toInt <| if 0 ≤ ((zI a1) ^^^ (zI a2)).toInt then
  (GJ_J9_floorDiv_7cf53_1 v1)
  else
  (ck (v1 * a2) <| ck a1 <| if (v1 * a2) = a1 then
  (GJ_J9_floorDiv_7cf53_1 v1)
  else
  (some (v1 - 1)))
def GJ_X11_quotient_1 (v3 : Int) : Option Int :=
  some v3
def GF_X11_quotient (a1 : Int) (a2 : Int) (g : uZ) : Option Int :=
  ck a2 <| if 0 < a2 then
  (cp (GF_J9_floorDiv_7cf53 a1 a2 g) fun v2 =>
  GJ_X11_quotient_1 v2)
  else
  (GJ_X11_quotient_1 0)
def GF_J9_min_7cf53 (a1 : Int) (a2 : Int) (g : uZ) : Option Int :=
  ck a2 <| ck a1 <| lt (if a2 < a1 then a2 else a1) fun v2 =>
  some v2
def GJ_X2_size_1 (v8 : Int) : Option Int :=
  some v8
def GF_X2_size (g : uZ) : Option Int :=
  cp (GF_X7_size g) fun v1 =>
  cp (GF_X2_reach g) fun v2 =>
  lt (v1 - v2) fun v3 =>
  ck v3 <| if 0 ≤ v3 then
  (cp (GF_X0_of 2 g) fun v5 =>
  cp (GF_X11_quotient v3 v5 g) fun v6 =>
  cp (GF_J9_min_7cf53 100 (v6 + 1) g) fun v7 =>
  GJ_X2_size_1 v7)
  else
  (GJ_X2_size_1 0)
def GJ_X2_has_2 (v4 : Int) : Option Int :=
  bzZ v4 <|
  some v4
def GJ_X2_has_1 : Option Int :=
  GJ_X2_has_2 0
def GF_X2_has (a1 : Int) (g : uZ) : Option Int :=
  ck a1 <| if a1 < 0 then
  (GJ_X2_has_1)
  else
  (cp (GF_X2_size g) fun v2 =>
  ck v2 <| if v2 ≤ a1 then
  (GJ_X2_has_1)
  else
  (GJ_X2_has_2 1))
def GJ_X2_diffAt_1 : Option Int :=
  some 0
def GF_X2_diffAt (a1 : Int) (a2 : Int) (g : uZ) : Option Int :=
  ck a1 <| if a1 < 0 then
  (GJ_X2_diffAt_1)
  else
  (if 100 ≤ a1 then
  (GJ_X2_diffAt_1)
  else
  (ck a2 <| if a2 < 0 then
  (GJ_X2_diffAt_1)
  else
  (if a2 < 50 then
  (rdZ (g 7) 5000 ((a1 * 50) + a2) fun v5 =>
  some v5)
  else
  (GJ_X2_diffAt_1))))
def GJ_X2_relAt_1 : Option Int :=
  some 0
def GF_X2_relAt (a1 : Int) (a2 : Int) (g : uZ) : Option Int :=
  ck a1 <| if a1 < 0 then
  (GJ_X2_relAt_1)
  else
  (if 100 ≤ a1 then
  (GJ_X2_relAt_1)
  else
  (ck a2 <| if a2 < 0 then
  (GJ_X2_relAt_1)
  else
  (if a2 < 50 then
  (rdZ (g 8) 5000 ((a1 * 50) + a2) fun v5 =>
  some v5)
  else
  (GJ_X2_relAt_1))))
def GJ_X2_loudAt_2 (v4 : Int) : Option Int :=
  some v4
def GJ_X2_loudAt_1 : Option Int :=
  GJ_X2_loudAt_2 0
def GF_X2_loudAt (a1 : Int) (g : uZ) : Option Int :=
  ck a1 <| if a1 < 0 then
  (GJ_X2_loudAt_1)
  else
  (if a1 < 100 then
  (rdZ (g 9) 100 a1 fun v3 =>
  GJ_X2_loudAt_2 v3)
  else
  (GJ_X2_loudAt_1))
def GJ_X2_measure_2 (a1 : Int) (v16 : Int) (w11 : Int) (g17 : uZ) (v20 : Int) : Option ((Int × (Int × uZ)) ⊕ uZ) :=
  wrZ g17 8 5000 ((a1 * 50) + w11) v20 fun g21 =>
  lt (w11 + 1) fun v22 =>
  some (Sum.inl (v16, (v22, g21)))
def GB_X2_measure_3 (a1 : Int) (v6 : Int) (v7 : Int) (v9 : Int) (w10 : Int) (w11 : Int) (g12 : uZ) : Option ((Int × (Int × uZ)) ⊕ uZ) :=
  ck v9 <| ck w11 <| if v9 ≤ w11 then
  (some (Sum.inr g12))
  else
  (cp (GF_X7_offItself v6 v7 w11 g12) fun v15 =>
  lt (w10 + v15) fun v16 =>
  wrZ g12 7 5000 ((a1 * 50) + w11) v15 fun g17 =>
  ck v16 <| if v16 = 0 then
  (GJ_X2_measure_2 a1 v16 w11 g17 1000)
  else
  (cp (GF_X11_quotient ((1000 * w11) * v15) v16 g17) fun v19 =>
  GJ_X2_measure_2 a1 v16 w11 g17 v19))
def GC_X2_measure_4 (a1 : Int) (v6 : Int) (v7 : Int) (g13 : uZ) : Option uZ :=
  cp (GF_X7_loudness v6 v7 g13) fun v23 =>
  wrZ g13 9 100 a1 v23 fun g24 =>
  wrZ g24 10 100 a1 (vp_nar .boolean ((1 : Int32))).toInt fun g25 =>
  some g25
def GJ_X2_measure_5 (g : uZ) : Option uZ :=
  some g
def GF_X2_measure (a1 : Int) (g : uZ) : Option uZ :=
  ck a1 <| if a1 < 0 then
  (GJ_X2_measure_5 g)
  else
  (if 100 ≤ a1 then
  (GJ_X2_measure_5 g)
  else
  (rdZ (g 10) 100 a1 fun v3 =>
  ck v3 <| if v3 = 0 then
  (cp (GF_X0_of 2 g) fun v5 =>
  lt (a1 * v5) fun v6 =>
  cp (GF_X0_of 3 g) fun v7 =>
  cp (GF_X0_of 5 g) fun v8 =>
  cp (GF_J9_min_7cf53 50 (v8 + 2) g) fun v9 =>
  lp (fun z => GB_X2_measure_3 a1 v6 v7 v9 z.1 z.2.1 z.2.2) (0, (0, g)) (fun z => GC_X2_measure_4 a1 v6 v7 z))
  else
  (GJ_X2_measure_5 g)))
def GB_X2_find_2 (v1 : Int) (w2 : Int) (g3 : uZ) : Option ((Int × uZ) ⊕ uZ) :=
  ck v1 <| ck w2 <| if v1 ≤ w2 then
  (some (Sum.inr g3))
  else
  (cp (GF_X2_measure w2 g3) fun g6 =>
  lt (w2 + 1) fun v7 =>
  some (Sum.inl (v7, g6)))
def GC_X2_find_3 (g4 : uZ) : Option uZ :=
  some g4
def GF_X2_find (g : uZ) : Option uZ :=
  cp (GF_X2_size g) fun v1 =>
  lp (fun z => GB_X2_find_2 v1 z.1 z.2) (0, g) (fun z => GC_X2_find_3 z)
def GB_X2_forgetAll_2 (w1 : Int) (g2 : uZ) : Option ((Int × uZ) ⊕ uZ) :=
  ck w1 <| if 100 ≤ w1 then
  (some (Sum.inr g2))
  else
  (wrZ g2 10 100 w1 (vp_nar .boolean ((0 : Int32))).toInt fun g5 =>
  lt (w1 + 1) fun v6 =>
  some (Sum.inl (v6, g5)))
def GC_X2_forgetAll_3 (g3 : uZ) : Option uZ :=
  some g3
def GF_X2_forgetAll (g : uZ) : Option uZ :=
  lp (fun z => GB_X2_forgetAll_2 z.1 z.2) (0, g) (fun z => GC_X2_forgetAll_3 z)
def GJ_X2_forgetThose_2 (w1 : Int) (w2 : Int) (g10 : uZ) : Option ((Int × (Int × uZ)) ⊕ uZ) :=
  cp (GF_X0_of 2 g10) fun v11 =>
  lt (w1 + v11) fun v12 =>
  lt (w2 + 1) fun v13 =>
  some (Sum.inl (v12, (v13, g10)))
def GB_X2_forgetThose_3 (a1 : Int) (a2 : Int) (w1 : Int) (w2 : Int) (g3 : uZ) : Option ((Int × (Int × uZ)) ⊕ uZ) :=
  ck w2 <| if 100 ≤ w2 then
  (some (Sum.inr g3))
  else
  (ck a2 <| ck w1 <| if a2 ≤ w1 then
  (GJ_X2_forgetThose_2 w1 w2 g3)
  else
  (cp (GF_X2_reach g3) fun v7 =>
  ck (w1 + v7) <| ck a1 <| if (w1 + v7) ≤ a1 then
  (GJ_X2_forgetThose_2 w1 w2 g3)
  else
  (wrZ g3 10 100 w2 (vp_nar .boolean ((0 : Int32))).toInt fun g9 =>
  GJ_X2_forgetThose_2 w1 w2 g9)))
def GC_X2_forgetThose_4 (g4 : uZ) : Option uZ :=
  some g4
def GF_X2_forgetThose (a1 : Int) (a2 : Int) (g : uZ) : Option uZ :=
  lp (fun z => GB_X2_forgetThose_3 a1 a2 z.1 z.2.1 z.2.2) (0, (0, g)) (fun z => GC_X2_forgetThose_4 z)
def GF_X1_frameCount (g : uZ) : Option Int :=
  some (g 11 6)
def GJ_X1_has_2 (v6 : Int) : Option Int :=
  bzZ v6 <|
  some v6
def GJ_X1_has_1 : Option Int :=
  GJ_X1_has_2 0
def GF_X1_has (a1 : Int) (a2 : Int) (g : uZ) : Option Int :=
  ck a1 <| if a1 < 0 then
  (GJ_X1_has_1)
  else
  (ck (g 11 6) <| if (g 11 6) ≤ a1 then
  (GJ_X1_has_1)
  else
  (ck a2 <| if a2 < 0 then
  (GJ_X1_has_1)
  else
  (rdZ (g 15) 100 a1 fun v4 =>
  ck v4 <| if v4 ≤ a2 then
  (GJ_X1_has_1)
  else
  (GJ_X1_has_2 1))))
def GJ_X1_sizeOf_2 (v4 : Int) : Option Int :=
  some v4
def GJ_X1_sizeOf_1 : Option Int :=
  GJ_X1_sizeOf_2 0
def GF_X1_sizeOf (a1 : Int) (g : uZ) : Option Int :=
  ck a1 <| if a1 < 0 then
  (GJ_X1_sizeOf_1)
  else
  (ck (g 11 6) <| if a1 < (g 11 6) then
  (rdZ (g 15) 100 a1 fun v3 =>
  GJ_X1_sizeOf_2 v3)
  else
  (GJ_X1_sizeOf_1))
def GF_X11_cell (a1 : Int) (a2 : Int) (g : uZ) : Option Int :=
  some ((a1 * 6) + a2)
def GJ_X1_lagOf_1 (v5 : Int) : Option Int :=
  some v5
def GF_X1_lagOf (a1 : Int) (a2 : Int) (g : uZ) : Option Int :=
  cp (GF_X1_has a1 a2 g) fun v1 =>
  ck v1 <| if v1 = 0 then
  (GJ_X1_lagOf_1 0)
  else
  (cp (GF_X11_cell a1 a2 g) fun v3 =>
  rdZ (g 12) 600 v3 fun v4 =>
  GJ_X1_lagOf_1 v4)
def GJ_X1_ownOf_1 (v5 : Int) : Option Int :=
  some v5
def GF_X1_ownOf (a1 : Int) (a2 : Int) (g : uZ) : Option Int :=
  cp (GF_X1_has a1 a2 g) fun v1 =>
  ck v1 <| if v1 = 0 then
  (GJ_X1_ownOf_1 0)
  else
  (cp (GF_X11_cell a1 a2 g) fun v3 =>
  rdZ (g 13) 600 v3 fun v4 =>
  GJ_X1_ownOf_1 v4)
def GJ_X1_halfOf_1 (v5 : Int) : Option Int :=
  some v5
def GF_X1_halfOf (a1 : Int) (a2 : Int) (g : uZ) : Option Int :=
  cp (GF_X1_has a1 a2 g) fun v1 =>
  ck v1 <| if v1 = 0 then
  (GJ_X1_halfOf_1 (-1))
  else
  (cp (GF_X11_cell a1 a2 g) fun v3 =>
  rdZ (g 14) 600 v3 fun v4 =>
  GJ_X1_halfOf_1 v4)
def GJ_X1_cheaperThan_2 (w2 : Int) (v10 : Int) : Option ((Int × Int) ⊕ Int) :=
  lt (w2 + 1) fun v11 =>
  some (Sum.inl (v10, v11))
def GB_X1_cheaperThan_3 (a1 : Int) (a2 : Int) (g : uZ) (w1 : Int) (w2 : Int) : Option ((Int × Int) ⊕ Int) :=
  cp (GF_X1_sizeOf a1 g) fun v4 =>
  ck v4 <| ck w2 <| if v4 ≤ w2 then
  (some (Sum.inr w1))
  else
  (cp (GF_X1_ownOf a1 w2 g) fun v6 =>
  cp (GF_X1_ownOf a1 a2 g) fun v7 =>
  ck v7 <| ck v6 <| if v7 ≤ v6 then
  (GJ_X1_cheaperThan_2 w2 w1)
  else
  (lt (w1 + 1) fun v9 =>
  GJ_X1_cheaperThan_2 w2 v9))
def GC_X1_cheaperThan_4 (v3 : Int) : Option Int :=
  some v3
def GF_X1_cheaperThan (a1 : Int) (a2 : Int) (g : uZ) : Option Int :=
  lp (fun z => GB_X1_cheaperThan_3 a1 a2 g z.1 z.2) (0, 0) (fun z => GC_X1_cheaperThan_4 z)
def GJ_X1_isDip_2 (v8 : Int) : Option Int :=
  bzZ v8 <|
  some v8
def GJ_X1_isDip_1 : Option Int :=
  GJ_X1_isDip_2 0
def GF_X1_isDip (a1 : Int) (a2 : Int) (g : uZ) : Option Int :=
  cp (GF_X2_relAt a1 a2 g) fun v1 =>
  cp (GF_X0_of 6 g) fun v2 =>
  ck v2 <| ck v1 <| if v2 < v1 then
  (GJ_X1_isDip_1)
  else
  (cp (GF_X2_relAt a1 (a2 - 1) g) fun v4 =>
  ck v4 <| if v4 ≤ v1 then
  (GJ_X1_isDip_1)
  else
  (cp (GF_X2_relAt a1 (a2 + 1) g) fun v6 =>
  ck v6 <| if v6 < v1 then
  (GJ_X1_isDip_1)
  else
  (GJ_X1_isDip_2 1)))
def GB_X1_dropWorst_2 (a1 : Int) (a2 : Int) (g : uZ) (w1 : Int) (w2 : Int) : Option ((Int × Int) ⊕ Int) :=
  ck a2 <| ck w2 <| if a2 ≤ w2 then
  (some (Sum.inr w1))
  else
  (cp (GF_X11_cell a1 w2 g) fun v5 =>
  rdZ (g 12) 600 v5 fun v6 =>
  cp (GF_X2_relAt a1 v6 g) fun v7 =>
  cp (GF_X11_cell a1 w1 g) fun v8 =>
  rdZ (g 12) 600 v8 fun v9 =>
  cp (GF_X2_relAt a1 v9 g) fun v10 =>
  ck v7 <| ck v10 <| lt (if v7 < v10 then w1 else w2) fun v12 =>
  lt (w2 + 1) fun v13 =>
  some (Sum.inl (v12, v13)))
def GB_X1_dropWorst_4 (a1 : Int) (a2 : Int) (w14 : Int) (g15 : uZ) : Option ((Int × uZ) ⊕ uZ) :=
  ck a2 <| ck (w14 + 1) <| if a2 ≤ (w14 + 1) then
  (some (Sum.inr g15))
  else
  (cp (GF_X11_cell a1 w14 g15) fun v18 =>
  cp (GF_X11_cell a1 (w14 + 1) g15) fun v19 =>
  rdZ (g15 12) 600 v19 fun v20 =>
  wrZ g15 12 600 v18 v20 fun g21 =>
  lt (w14 + 1) fun v22 =>
  some (Sum.inl (v22, g21)))
def GC_X1_dropWorst_5 (g16 : uZ) : Option uZ :=
  some g16
def GC_X1_dropWorst_6 (a1 : Int) (a2 : Int) (g : uZ) (v3 : Int) : Option uZ :=
  lp (fun z => GB_X1_dropWorst_4 a1 a2 z.1 z.2) (v3, g) (fun z => GC_X1_dropWorst_5 z)
def GF_X1_dropWorst (a1 : Int) (a2 : Int) (g : uZ) : Option uZ :=
  lp (fun z => GB_X1_dropWorst_2 a1 a2 g z.1 z.2) (0, 1) (fun z => GC_X1_dropWorst_6 a1 a2 g z)
def GJ_X1_keepDips_2 (w6 : Int) (v19 : Int) (g20 : uZ) : Option ((Int × (Int × uZ)) ⊕ (Int × uZ)) :=
  lt (w6 + 1) fun v21 =>
  some (Sum.inl (v19, (v21, g20)))
def GB_X1_keepDips_3 (a1 : Int) (v2 : Int) (v3 : Int) (w5 : Int) (w6 : Int) (g7 : uZ) : Option ((Int × (Int × uZ)) ⊕ (Int × uZ)) :=
  ck v3 <| ck w6 <| if v3 < w6 then
  (some (Sum.inr (w5, g7)))
  else
  (cp (GF_X1_isDip a1 w6 g7) fun v11 =>
  ck v11 <| if v11 = 0 then
  (GJ_X1_keepDips_2 w6 w5 g7)
  else
  (cp (GF_X11_cell a1 w5 g7) fun v13 =>
  wrZ g7 12 600 v13 w6 fun g14 =>
  lt (w5 + 1) fun v15 =>
  ck v15 <| ck v2 <| if v15 ≤ v2 then
  (GJ_X1_keepDips_2 w6 v15 g14)
  else
  (cp (GF_X1_dropWorst a1 v15 g14) fun g17 =>
  lt (v15 + (-1)) fun v18 =>
  GJ_X1_keepDips_2 w6 v18 g17)))
def GC_X1_keepDips_4 (v8 : Int) (g9 : uZ) : Option (Int × uZ) :=
  some (v8, g9)
def GF_X1_keepDips (a1 : Int) (g : uZ) : Option (Int × uZ) :=
  cp (GF_X0_of 7 g) fun v1 =>
  cp (GF_J9_min_7cf53 5 v1 g) fun v2 =>
  cp (GF_X0_of 5 g) fun v3 =>
  cp (GF_X0_of 4 g) fun v4 =>
  lp (fun z => GB_X1_keepDips_3 a1 v2 v3 z.1 z.2.1 z.2.2) (0, (v4, g)) (fun z => GC_X1_keepDips_4 z.1 z.2)
def GJ_X1_ownCost_1 (v5 : Int) : Option Int :=
  some v5
def GF_X1_ownCost (a1 : Int) (a2 : Int) (g : uZ) : Option Int :=
  ck a2 <| if a2 = 0 then
  (cp (GF_X0_of 9 g) fun v4 =>
  GJ_X1_ownCost_1 v4)
  else
  (cp (GF_X2_relAt a1 a2 g) fun v2 =>
  cp (GF_X0_of 8 g) fun v3 =>
  GJ_X1_ownCost_1 (v2 + (v3 * a2)))
def GJ_X1_findHalf_2 (w2 : Int) : Option (Int ⊕ (Unit ⊕ Int)) :=
  lt (w2 + 1) fun v11 =>
  some (Sum.inl v11)
def GB_X1_findHalf_3 (a1 : Int) (a2 : Int) (v1 : Int) (g : uZ) (w2 : Int) : Option (Int ⊕ (Unit ⊕ Int)) :=
  cp (GF_X1_sizeOf a1 g) fun v3 =>
  ck v3 <| ck w2 <| if v3 ≤ w2 then
  (some (Sum.inr (Sum.inl ())))
  else
  (cp (GF_X1_lagOf a1 w2 g) fun v5 =>
  ck a2 <| if w2 = a2 then
  (GJ_X1_findHalf_2 w2)
  else
  (ck v5 <| if v5 = 0 then
  (GJ_X1_findHalf_2 w2)
  else
  (ck v1 <| if v1 = 0 then
  (GJ_X1_findHalf_2 w2)
  else
  (cp (GF_J9_abs_0f7a4 (v1 - (2 * v5)) g) fun v9 =>
  ck v9 <| if 1 < v9 then
  (GJ_X1_findHalf_2 w2)
  else
  (some (Sum.inr (Sum.inr w2)))))))
def GC_X1_findHalf_4 : Option Int :=
  some (-1)
def GF_X1_findHalf (a1 : Int) (a2 : Int) (g : uZ) : Option Int :=
  cp (GF_X1_lagOf a1 a2 g) fun v1 =>
  lp (fun z => GB_X1_findHalf_3 a1 a2 v1 g z) 0 (fun z => ex2 (fun x => GC_X1_findHalf_4) (fun q => some q) z)
def GB_X1_find_3 (v12 : Int) (w3 : Int) (w17 : Int) (g18 : uZ) : Option ((Int × uZ) ⊕ uZ) :=
  ck v12 <| ck w17 <| if v12 < w17 then
  (some (Sum.inr g18))
  else
  (cp (GF_X11_cell w3 w17 g18) fun v21 =>
  cp (GF_X1_lagOf w3 w17 g18) fun v22 =>
  cp (GF_X1_ownCost w3 v22 g18) fun v23 =>
  wrZ g18 13 600 v21 v23 fun g24 =>
  cp (GF_X11_cell w3 w17 g24) fun v25 =>
  cp (GF_X1_findHalf w3 w17 g24) fun v26 =>
  wrZ g24 14 600 v25 v26 fun g27 =>
  lt (w17 + 1) fun v28 =>
  some (Sum.inl (v28, g27)))
def GC_X1_find_4 (w3 : Int) (g19 : uZ) : Option ((Int × uZ) ⊕ uZ) :=
  lt (w3 + 1) fun v29 =>
  some (Sum.inl (v29, g19))
def GJ_X1_find_5 (w3 : Int) (v12 : Int) (g13 : uZ) : Option ((Int × uZ) ⊕ uZ) :=
  cp (GF_X11_cell w3 v12 g13) fun v14 =>
  wrZ g13 12 600 v14 0 fun g15 =>
  wrZ g15 15 100 w3 (v12 + 1) fun g16 =>
  lp (fun z => GB_X1_find_3 v12 w3 z.1 z.2) (0, g16) (fun z => GC_X1_find_4 w3 z)
def GB_X1_find_6 (w3 : Int) (g4 : uZ) : Option ((Int × uZ) ⊕ uZ) :=
  ck (g4 11 6) <| ck w3 <| if (g4 11 6) ≤ w3 then
  (some (Sum.inr g4))
  else
  (cp (GF_X2_loudAt w3 g4) fun v7 =>
  cp (GF_X0_of 14 g4) fun v8 =>
  ck v8 <| ck v7 <| if v8 ≤ v7 then
  (clZ (GF_X1_keepDips w3 g4) fun v11 g10 =>
  GJ_X1_find_5 w3 v11 g10)
  else
  (GJ_X1_find_5 w3 0 g4))
def GC_X1_find_7 (g5 : uZ) : Option uZ :=
  some g5
def GF_X1_find (g : uZ) : Option uZ :=
  cp (GF_X2_size g) fun v1 =>
  pfZ g 11 6 v1 fun g2 =>
  lp (fun z => GB_X1_find_6 z.1 z.2) (0, g2) (fun z => GC_X1_find_7 z)
def GF_X9_setBy_17_4 (g : uZ) : Option uZ :=
  cp (GF_X0_of 10 g) fun v1 =>
  cp (GF_X0_of 11 g) fun v2 =>
  cp (GF_X0_of 12 g) fun v3 =>
  cp (GF_X9_set_17 v1 v2 v3 g) fun g4 =>
  some g4
def GJ_X5_findHeads_4 (w9 : Int) (v28 : Int) (v29 : Int) : Option ((Int × (Int × Int)) ⊕ (Int × Int)) :=
  lt (w9 + 1) fun v30 =>
  some (Sum.inl (v28, (v29, v30)))
def GJ_X5_findHeads_3 (v19 : Int) (w9 : Int) : Option ((Int × (Int × Int)) ⊕ (Int × Int)) :=
  GJ_X5_findHeads_4 w9 v19 w9
def GB_X5_findHeads_5 (a1 : Int) (v6 : Int) (g2 : uZ) (w7 : Int) (w8 : Int) (w9 : Int) : Option ((Int × (Int × Int)) ⊕ (Int × Int)) :=
  ck a1 <| if a1 ≤ 0 then
  (some (Sum.inr (w7, w8)))
  else
  (cp (GF_X1_sizeOf (a1 - 1) g2) fun v13 =>
  ck v13 <| ck w9 <| if v13 ≤ w9 then
  (some (Sum.inr (w7, w8)))
  else
  (cp (GF_X11_cell (a1 - 1) w9 g2) fun v15 =>
  rdZ (g2 19) 600 v15 fun v16 =>
  cp (GF_X1_lagOf (a1 - 1) w9 g2) fun v17 =>
  cp (GF_X9_price_17 v17 v6 g2) fun v18 =>
  lt (v16 + v18) fun v19 =>
  if w9 = 0 then
  (GJ_X5_findHeads_3 v19 w9)
  else
  (ck v19 <| ck w7 <| if v19 < w7 then
  (GJ_X5_findHeads_3 v19 w9)
  else
  (if v19 = w7 then
  (cp (GF_X11_cell (a1 - 1) w9 g2) fun v23 =>
  rdZ (g2 20) 600 v23 fun v24 =>
  cp (GF_X11_cell (a1 - 1) w8 g2) fun v25 =>
  rdZ (g2 20) 600 v25 fun v26 =>
  ck v26 <| ck v24 <| if v26 ≤ v24 then
  (GJ_X5_findHeads_4 w9 w7 w8)
  else
  (GJ_X5_findHeads_3 v19 w9))
  else
  (GJ_X5_findHeads_4 w9 w7 w8)))))
def GC_X5_findHeads_6 (a1 : Int) (w1 : Int) (g2 : uZ) (v10 : Int) (v11 : Int) : Option ((Int × uZ) ⊕ uZ) :=
  cp (GF_X11_cell a1 w1 g2) fun v31 =>
  cp (GF_X1_ownOf a1 w1 g2) fun v32 =>
  wrZ g2 19 600 v31 (v10 + v32) fun g33 =>
  cp (GF_X11_cell a1 w1 g33) fun v34 =>
  wrZ g33 21 600 v34 v11 fun g35 =>
  lt (w1 + 1) fun v36 =>
  some (Sum.inl (v36, g35))
def GB_X5_findHeads_7 (a1 : Int) (w1 : Int) (g2 : uZ) : Option ((Int × uZ) ⊕ uZ) :=
  cp (GF_X1_sizeOf a1 g2) fun v4 =>
  ck v4 <| ck w1 <| if v4 ≤ w1 then
  (some (Sum.inr g2))
  else
  (cp (GF_X1_lagOf a1 w1 g2) fun v6 =>
  lp (fun z => GB_X5_findHeads_5 a1 v6 g2 z.1 z.2.1 z.2.2) (0, (0, 0)) (fun z => GC_X5_findHeads_6 a1 w1 g2 z.1 z.2))
def GC_X5_findHeads_8 (g3 : uZ) : Option uZ :=
  some g3
def GF_X5_findHeads (a1 : Int) (g : uZ) : Option uZ :=
  lp (fun z => GB_X5_findHeads_7 a1 z.1 z.2) (0, g) (fun z => GC_X5_findHeads_8 z)
def GJ_X5_isAhead_1 (a2 : Int) (a3 : Int) : Option Int :=
  ck a3 <| ck a2 <| lt (if a3 ≤ a2 then 0 else 1) fun v17 =>
  bzZ v17 <|
  some v17
def GF_X5_isAhead (a1 : Int) (a2 : Int) (a3 : Int) (g : uZ) : Option Int :=
  cp (GF_X11_cell a1 a2 g) fun v1 =>
  rdZ (g 21) 600 v1 fun v2 =>
  cp (GF_X11_cell a1 a3 g) fun v3 =>
  rdZ (g 21) 600 v3 fun v4 =>
  ck v2 <| ck v4 <| if v2 = v4 then
  (GJ_X5_isAhead_1 a2 a3)
  else
  (cp (GF_X1_has (a1 - 1) v2 g) fun v6 =>
  ck v6 <| if v6 = 0 then
  (GJ_X5_isAhead_1 a2 a3)
  else
  (cp (GF_X1_has (a1 - 1) v4 g) fun v8 =>
  ck v8 <| if v8 = 0 then
  (GJ_X5_isAhead_1 a2 a3)
  else
  (cp (GF_X11_cell (a1 - 1) v2 g) fun v10 =>
  rdZ (g 20) 600 v10 fun v11 =>
  cp (GF_X11_cell (a1 - 1) v4 g) fun v12 =>
  rdZ (g 20) 600 v12 fun v13 =>
  ck v13 <| ck v11 <| lt (if v13 ≤ v11 then 0 else 1) fun v15 =>
  bzZ v15 <|
  some v15)))
def GJ_X5_findRanks_3 (w7 : Int) (v14 : Int) : Option ((Int × Int) ⊕ Int) :=
  lt (w7 + 1) fun v15 =>
  some (Sum.inl (v14, v15))
def GB_X5_findRanks_4 (a1 : Int) (w1 : Int) (g2 : uZ) (w6 : Int) (w7 : Int) : Option ((Int × Int) ⊕ Int) :=
  cp (GF_X1_sizeOf a1 g2) fun v9 =>
  ck v9 <| ck w7 <| if v9 ≤ w7 then
  (some (Sum.inr w6))
  else
  (cp (GF_X5_isAhead a1 w7 w1 g2) fun v11 =>
  ck v11 <| if v11 = 0 then
  (GJ_X5_findRanks_3 w7 w6)
  else
  (lt (w6 + 1) fun v13 =>
  GJ_X5_findRanks_3 w7 v13))
def GC_X5_findRanks_5 (a1 : Int) (w1 : Int) (g2 : uZ) (v8 : Int) : Option ((Int × uZ) ⊕ uZ) :=
  cp (GF_X11_cell a1 w1 g2) fun v16 =>
  wrZ g2 20 600 v16 v8 fun g17 =>
  lt (w1 + 1) fun v18 =>
  some (Sum.inl (v18, g17))
def GB_X5_findRanks_6 (a1 : Int) (w1 : Int) (g2 : uZ) : Option ((Int × uZ) ⊕ uZ) :=
  cp (GF_X1_sizeOf a1 g2) fun v4 =>
  ck v4 <| ck w1 <| if v4 ≤ w1 then
  (some (Sum.inr g2))
  else
  (lp (fun z => GB_X5_findRanks_4 a1 w1 g2 z.1 z.2) (0, 0) (fun z => GC_X5_findRanks_5 a1 w1 g2 z))
def GC_X5_findRanks_7 (g3 : uZ) : Option uZ :=
  some g3
def GF_X5_findRanks (a1 : Int) (g : uZ) : Option uZ :=
  lp (fun z => GB_X5_findRanks_6 a1 z.1 z.2) (0, g) (fun z => GC_X5_findRanks_7 z)
def GB_X5_findTails_3 (a1 : Int) (v6 : Int) (g2 : uZ) (w9 : Int) (w10 : Int) : Option ((Int × Int) ⊕ Int) :=
  ck (g2 16 12) <| ck (a1 + 1) <| if (g2 16 12) ≤ (a1 + 1) then
  (some (Sum.inr w9))
  else
  (cp (GF_X1_sizeOf (a1 + 1) g2) fun v13 =>
  ck v13 <| ck w10 <| if v13 ≤ w10 then
  (some (Sum.inr w9))
  else
  (cp (GF_X11_cell (a1 + 1) w10 g2) fun v15 =>
  rdZ (g2 22) 600 v15 fun v16 =>
  cp (GF_X1_lagOf (a1 + 1) w10 g2) fun v17 =>
  cp (GF_X9_price_17 v6 v17 g2) fun v18 =>
  lt (v16 + v18) fun v19 =>
  cp (GF_J9_min_7cf53 w9 v19 g2) fun v20 =>
  lt (w10 + 1) fun v21 =>
  some (Sum.inl (v20, v21))))
def GC_X5_findTails_4 (a1 : Int) (w1 : Int) (g2 : uZ) (v11 : Int) : Option ((Int × uZ) ⊕ uZ) :=
  cp (GF_X11_cell a1 w1 g2) fun v22 =>
  cp (GF_X1_ownOf a1 w1 g2) fun v23 =>
  wrZ g2 22 600 v22 (v11 + v23) fun g24 =>
  lt (w1 + 1) fun v25 =>
  some (Sum.inl (v25, g24))
def GB_X5_findTails_5 (a1 : Int) (w1 : Int) (g2 : uZ) : Option ((Int × uZ) ⊕ uZ) :=
  cp (GF_X1_sizeOf a1 g2) fun v4 =>
  ck v4 <| ck w1 <| if v4 ≤ w1 then
  (some (Sum.inr g2))
  else
  (cp (GF_X1_lagOf a1 w1 g2) fun v6 =>
  ck (g2 16 12) <| ck (a1 + 1) <| lt (if (g2 16 12) ≤ (a1 + 1) then 0 else 536870912) fun v8 =>
  lp (fun z => GB_X5_findTails_3 a1 v6 g2 z.1 z.2) (v8, 0) (fun z => GC_X5_findTails_4 a1 w1 g2 z))
def GC_X5_findTails_6 (g3 : uZ) : Option uZ :=
  some g3
def GF_X5_findTails (a1 : Int) (g : uZ) : Option uZ :=
  lp (fun z => GB_X5_findTails_5 a1 z.1 z.2) (0, g) (fun z => GC_X5_findTails_6 z)
def GJ_X5_firstAtEnd_3 (w2 : Int) (v18 : Int) : Option ((Int × Int) ⊕ Int) :=
  lt (w2 + 1) fun v19 =>
  some (Sum.inl (v18, v19))
def GJ_X5_firstAtEnd_2 (w2 : Int) : Option ((Int × Int) ⊕ Int) :=
  GJ_X5_firstAtEnd_3 w2 w2
def GB_X5_firstAtEnd_4 (a1 : Int) (g : uZ) (w1 : Int) (w2 : Int) : Option ((Int × Int) ⊕ Int) :=
  cp (GF_X1_sizeOf a1 g) fun v4 =>
  ck v4 <| ck w2 <| if v4 ≤ w2 then
  (some (Sum.inr w1))
  else
  (cp (GF_X11_cell a1 w2 g) fun v6 =>
  rdZ (g 19) 600 v6 fun v7 =>
  cp (GF_X11_cell a1 w1 g) fun v8 =>
  rdZ (g 19) 600 v8 fun v9 =>
  lt (v7 - v9) fun v10 =>
  ck v10 <| if v10 < 0 then
  (GJ_X5_firstAtEnd_2 w2)
  else
  (if v10 = 0 then
  (cp (GF_X11_cell a1 w2 g) fun v13 =>
  rdZ (g 20) 600 v13 fun v14 =>
  cp (GF_X11_cell a1 w1 g) fun v15 =>
  rdZ (g 20) 600 v15 fun v16 =>
  ck v16 <| ck v14 <| if v16 ≤ v14 then
  (GJ_X5_firstAtEnd_3 w2 w1)
  else
  (GJ_X5_firstAtEnd_2 w2))
  else
  (GJ_X5_firstAtEnd_3 w2 w1)))
def GC_X5_firstAtEnd_5 (v3 : Int) : Option Int :=
  some v3
def GF_X5_firstAtEnd (a1 : Int) (g : uZ) : Option Int :=
  lp (fun z => GB_X5_firstAtEnd_4 a1 g z.1 z.2) (0, 1) (fun z => GC_X5_firstAtEnd_5 z)
def GJ_X5_aheadOf_1 (a1 : Int) (g : uZ) (v5 : Int) : Option Int :=
  cp (GF_X1_has (a1 - 1) v5 g) fun v6 =>
  ck v6 <| lt (if v6 = 0 then 0 else v5) fun v8 =>
  some v8
def GF_X5_aheadOf (a1 : Int) (a2 : Int) (g : uZ) : Option Int :=
  cp (GF_X1_has a1 a2 g) fun v1 =>
  ck v1 <| if v1 = 0 then
  (GJ_X5_aheadOf_1 a1 g 0)
  else
  (cp (GF_X11_cell a1 a2 g) fun v3 =>
  rdZ (g 21) 600 v3 fun v4 =>
  GJ_X5_aheadOf_1 a1 g v4)
def GB_X5_find_2 (w4 : Int) (g5 : uZ) : Option ((Int × uZ) ⊕ uZ) :=
  ck (g5 16 12) <| ck w4 <| if (g5 16 12) ≤ w4 then
  (some (Sum.inr g5))
  else
  (cp (GF_X5_findHeads w4 g5) fun g8 =>
  cp (GF_X5_findRanks w4 g8) fun g9 =>
  lt (w4 + 1) fun v10 =>
  some (Sum.inl (v10, g9)))
def GB_X5_find_4 (w12 : Int) (g13 : uZ) : Option ((Int × uZ) ⊕ uZ) :=
  ck w12 <| if w12 < 0 then
  (some (Sum.inr g13))
  else
  (cp (GF_X5_findTails w12 g13) fun g16 =>
  lt (w12 + (-1)) fun v17 =>
  some (Sum.inl (v17, g16)))
def GB_X5_find_6 (w22 : Int) (w23 : Int) (g24 : uZ) : Option ((Int × (Int × uZ)) ⊕ uZ) :=
  ck w23 <| if w23 < 0 then
  (some (Sum.inr g24))
  else
  (wrZ g24 23 100 w23 w22 fun g27 =>
  cp (GF_X1_lagOf w23 w22 g27) fun v28 =>
  wrZ g27 24 100 w23 v28 fun g29 =>
  cp (GF_X5_aheadOf w23 w22 g29) fun v30 =>
  lt (w23 + (-1)) fun v31 =>
  some (Sum.inl (v30, (v31, g29))))
def GC_X5_find_7 (g25 : uZ) : Option uZ :=
  some g25
def GJ_X5_find_8 (g14 : uZ) (v20 : Int) : Option uZ :=
  lt ((g14 16 12) - 1) fun v21 =>
  lp (fun z => GB_X5_find_6 z.1 z.2.1 z.2.2) (v20, (v21, g14)) (fun z => GC_X5_find_7 z)
def GC_X5_find_9 (g14 : uZ) : Option uZ :=
  ck (g14 16 12) <| if (g14 16 12) = 0 then
  (GJ_X5_find_8 g14 0)
  else
  (cp (GF_X5_firstAtEnd ((g14 16 12) - 1) g14) fun v19 =>
  GJ_X5_find_8 g14 v19)
def GC_X5_find_10 (g6 : uZ) : Option uZ :=
  lt ((g6 16 12) - 1) fun v11 =>
  lp (fun z => GB_X5_find_4 z.1 z.2) (v11, g6) (fun z => GC_X5_find_9 z)
def GF_X5_find (g : uZ) : Option uZ :=
  cp (GF_X1_frameCount g) fun v1 =>
  pfZ g 16 12 v1 fun g2 =>
  cp (GF_X9_setBy_17_4 g2) fun g3 =>
  lp (fun z => GB_X5_find_2 z.1 z.2) (0, g3) (fun z => GC_X5_find_10 z)
def GF_X5_size (g : uZ) : Option Int :=
  some (g 16 12)
def GJ_X5_chosenIn_2 (v4 : Int) : Option Int :=
  some v4
def GJ_X5_chosenIn_1 : Option Int :=
  GJ_X5_chosenIn_2 0
def GF_X5_chosenIn (a1 : Int) (g : uZ) : Option Int :=
  ck a1 <| if a1 < 0 then
  (GJ_X5_chosenIn_1)
  else
  (ck (g 16 12) <| if a1 < (g 16 12) then
  (rdZ (g 23) 100 a1 fun v3 =>
  GJ_X5_chosenIn_2 v3)
  else
  (GJ_X5_chosenIn_1))
def GJ_X5_lagIn_2 (v4 : Int) : Option Int :=
  some v4
def GJ_X5_lagIn_1 : Option Int :=
  GJ_X5_lagIn_2 0
def GF_X5_lagIn (a1 : Int) (g : uZ) : Option Int :=
  ck a1 <| if a1 < 0 then
  (GJ_X5_lagIn_1)
  else
  (ck (g 16 12) <| if a1 < (g 16 12) then
  (rdZ (g 24) 100 a1 fun v3 =>
  GJ_X5_lagIn_2 v3)
  else
  (GJ_X5_lagIn_1))
def GB_X5_ownSum_2 (g : uZ) (w1 : Int) (w2 : Int) : Option ((Int × Int) ⊕ Int) :=
  ck (g 16 12) <| ck w2 <| if (g 16 12) ≤ w2 then
  (some (Sum.inr w1))
  else
  (rdZ (g 23) 100 w2 fun v5 =>
  cp (GF_X1_ownOf w2 v5 g) fun v6 =>
  lt (w1 + v6) fun v7 =>
  lt (w2 + 1) fun v8 =>
  some (Sum.inl (v7, v8)))
def GC_X5_ownSum_3 (v3 : Int) : Option Int :=
  some v3
def GF_X5_ownSum (g : uZ) : Option Int :=
  lp (fun z => GB_X5_ownSum_2 g z.1 z.2) (0, 0) (fun z => GC_X5_ownSum_3 z)
def GB_X5_stepSum_2 (g1 : uZ) (w2 : Int) (w3 : Int) : Option ((Int × Int) ⊕ Int) :=
  ck (g1 16 12) <| ck w3 <| if (g1 16 12) ≤ w3 then
  (some (Sum.inr w2))
  else
  (rdZ (g1 24) 100 (w3 - 1) fun v6 =>
  rdZ (g1 24) 100 w3 fun v7 =>
  cp (GF_X9_price_18 v6 v7 g1) fun v8 =>
  lt (w2 + v8) fun v9 =>
  lt (w3 + 1) fun v10 =>
  some (Sum.inl (v9, v10)))
def GC_X5_stepSum_3 (g1 : uZ) (v4 : Int) : Option (Int × uZ) :=
  some (v4, g1)
def GF_X5_stepSum (a1 : Int) (a2 : Int) (a3 : Int) (g : uZ) : Option (Int × uZ) :=
  cp (GF_X9_set_18 a1 a2 a3 g) fun g1 =>
  lp (fun z => GB_X5_stepSum_2 g1 z.1 z.2) (0, 1) (fun z => GC_X5_stepSum_3 g1 z)
def GF_X5_priceOf (a1 : Int) (g : uZ) : Option (Int × uZ) :=
  ck a1 <| if a1 = 1 then
  (cp (GF_X5_ownSum g) fun v2 =>
  some (v2, g))
  else
  (if a1 = 2 then
  (cp (GF_X0_of 10 g) fun v4 =>
  clZ (GF_X5_stepSum v4 0 0 g) fun v6 g5 =>
  some (v6, g5))
  else
  (if a1 = 3 then
  (cp (GF_X0_of 11 g) fun v8 =>
  clZ (GF_X5_stepSum 0 v8 0 g) fun v10 g9 =>
  some (v10, g9))
  else
  (if a1 = 4 then
  (cp (GF_X0_of 12 g) fun v12 =>
  clZ (GF_X5_stepSum 0 0 v12 g) fun v14 g13 =>
  some (v14, g13))
  else
  (cp (GF_X5_ownSum g) fun v15 =>
  cp (GF_X0_of 10 g) fun v16 =>
  cp (GF_X0_of 11 g) fun v17 =>
  cp (GF_X0_of 12 g) fun v18 =>
  clZ (GF_X5_stepSum v16 v17 v18 g) fun v20 g19 =>
  some ((v15 + v20), g19)))))
def GJ_X5_doublesChosen_2 (w2 : Int) (v9 : Int) : Option ((Int × Int) ⊕ Int) :=
  lt (w2 + 1) fun v10 =>
  some (Sum.inl (v9, v10))
def GB_X5_doublesChosen_3 (g : uZ) (w1 : Int) (w2 : Int) : Option ((Int × Int) ⊕ Int) :=
  ck (g 16 12) <| ck w2 <| if (g 16 12) ≤ w2 then
  (some (Sum.inr w1))
  else
  (rdZ (g 23) 100 w2 fun v5 =>
  cp (GF_X1_halfOf w2 v5 g) fun v6 =>
  ck v6 <| if v6 = (-1) then
  (GJ_X5_doublesChosen_2 w2 w1)
  else
  (lt (w1 + 1) fun v8 =>
  GJ_X5_doublesChosen_2 w2 v8))
def GC_X5_doublesChosen_4 (v3 : Int) : Option Int :=
  some v3
def GF_X5_doublesChosen (g : uZ) : Option Int :=
  lp (fun z => GB_X5_doublesChosen_3 g z.1 z.2) (0, 0) (fun z => GC_X5_doublesChosen_4 z)
def GF_X5_leastThrough (a1 : Int) (a2 : Int) (g : uZ) : Option Int :=
  cp (GF_X1_has a1 a2 g) fun v1 =>
  ck v1 <| if v1 = 0 then
  (some 0)
  else
  (cp (GF_X11_cell a1 a2 g) fun v3 =>
  rdZ (g 19) 600 v3 fun v4 =>
  cp (GF_X11_cell a1 a2 g) fun v5 =>
  rdZ (g 22) 600 v5 fun v6 =>
  cp (GF_X1_ownOf a1 a2 g) fun v7 =>
  some ((v4 + v6) - v7))
def GB_X5_advance_17_3 (a1 : Int) (v6 : Int) (g2 : uZ) (w7 : Int) (w8 : Int) : Option ((Int × Int) ⊕ Int) :=
  cp (GF_X1_sizeOf (a1 - 1) g2) fun v10 =>
  ck v10 <| ck w8 <| if v10 ≤ w8 then
  (some (Sum.inr w7))
  else
  (rdZ (g2 25) 6 w8 fun v12 =>
  cp (GF_X1_lagOf (a1 - 1) w8 g2) fun v13 =>
  cp (GF_X9_price_17 v13 v6 g2) fun v14 =>
  cp (GF_J9_min_7cf53 w7 (v12 + v14) g2) fun v15 =>
  lt (w8 + 1) fun v16 =>
  some (Sum.inl (v15, v16)))
def GC_X5_advance_17_4 (a1 : Int) (w1 : Int) (g2 : uZ) (v9 : Int) : Option ((Int × uZ) ⊕ uZ) :=
  cp (GF_X1_ownOf a1 w1 g2) fun v17 =>
  wrZ g2 26 6 w1 (v9 + v17) fun g18 =>
  lt (w1 + 1) fun v19 =>
  some (Sum.inl (v19, g18))
def GB_X5_advance_17_5 (a1 : Int) (w1 : Int) (g2 : uZ) : Option ((Int × uZ) ⊕ uZ) :=
  cp (GF_X1_sizeOf a1 g2) fun v4 =>
  ck v4 <| ck w1 <| if v4 ≤ w1 then
  (some (Sum.inr g2))
  else
  (cp (GF_X1_lagOf a1 w1 g2) fun v6 =>
  lp (fun z => GB_X5_advance_17_3 a1 v6 g2 z.1 z.2) (536870912, 0) (fun z => GC_X5_advance_17_4 a1 w1 g2 z))
def GB_X5_advance_17_7 (a1 : Int) (w20 : Int) (g21 : uZ) : Option ((Int × uZ) ⊕ uZ) :=
  cp (GF_X1_sizeOf a1 g21) fun v23 =>
  ck v23 <| ck w20 <| if v23 ≤ w20 then
  (some (Sum.inr g21))
  else
  (rdZ (g21 26) 6 w20 fun v25 =>
  wrZ g21 25 6 w20 v25 fun g26 =>
  lt (w20 + 1) fun v27 =>
  some (Sum.inl (v27, g26)))
def GC_X5_advance_17_8 (g22 : uZ) : Option uZ :=
  some g22
def GC_X5_advance_17_9 (a1 : Int) (g3 : uZ) : Option uZ :=
  lp (fun z => GB_X5_advance_17_7 a1 z.1 z.2) (0, g3) (fun z => GC_X5_advance_17_8 z)
def GF_X5_advance_17 (a1 : Int) (g : uZ) : Option uZ :=
  lp (fun z => GB_X5_advance_17_5 a1 z.1 z.2) (0, g) (fun z => GC_X5_advance_17_9 a1 z)
def GJ_X5_leastThroughTwo_2 (w5 : Int) (g6 : uZ) (v13 : Int) : Option ((Int × uZ) ⊕ uZ) :=
  wrZ g6 25 6 w5 v13 fun g14 =>
  lt (w5 + 1) fun v15 =>
  some (Sum.inl (v15, g14))
def GB_X5_leastThroughTwo_3 (a1 : Int) (a2 : Int) (w5 : Int) (g6 : uZ) : Option ((Int × uZ) ⊕ uZ) :=
  cp (GF_X1_sizeOf a1 g6) fun v8 =>
  ck v8 <| ck w5 <| if v8 ≤ w5 then
  (some (Sum.inr g6))
  else
  (ck a2 <| if w5 = a2 then
  (cp (GF_X11_cell a1 a2 g6) fun v11 =>
  rdZ (g6 19) 600 v11 fun v12 =>
  GJ_X5_leastThroughTwo_2 w5 g6 v12)
  else
  (GJ_X5_leastThroughTwo_2 w5 g6 536870912))
def GB_X5_leastThroughTwo_5 (a3 : Int) (w17 : Int) (g18 : uZ) : Option ((Int × uZ) ⊕ uZ) :=
  ck a3 <| ck w17 <| if a3 < w17 then
  (some (Sum.inr g18))
  else
  (cp (GF_X5_advance_17 w17 g18) fun g21 =>
  lt (w17 + 1) fun v22 =>
  some (Sum.inl (v22, g21)))
def GC_X5_leastThroughTwo_6 (a3 : Int) (a4 : Int) (g19 : uZ) : Option (Int × uZ) :=
  rdZ (g19 25) 6 a4 fun v23 =>
  cp (GF_X11_cell a3 a4 g19) fun v24 =>
  rdZ (g19 22) 600 v24 fun v25 =>
  cp (GF_X1_ownOf a3 a4 g19) fun v26 =>
  some (((v23 + v25) - v26), g19)
def GC_X5_leastThroughTwo_7 (a1 : Int) (a3 : Int) (a4 : Int) (g7 : uZ) : Option (Int × uZ) :=
  lt (a1 + 1) fun v16 =>
  lp (fun z => GB_X5_leastThroughTwo_5 a3 z.1 z.2) (v16, g7) (fun z => GC_X5_leastThroughTwo_6 a3 a4 z)
def GJ_X5_leastThroughTwo_8 (g : uZ) : Option (Int × uZ) :=
  some (0, g)
def GF_X5_leastThroughTwo (a1 : Int) (a2 : Int) (a3 : Int) (a4 : Int) (g : uZ) : Option (Int × uZ) :=
  cp (GF_X1_has a1 a2 g) fun v1 =>
  ck v1 <| if v1 = 0 then
  (GJ_X5_leastThroughTwo_8 g)
  else
  (cp (GF_X1_has a3 a4 g) fun v3 =>
  ck v3 <| if v3 = 0 then
  (GJ_X5_leastThroughTwo_8 g)
  else
  (lp (fun z => GB_X5_leastThroughTwo_3 a1 a2 z.1 z.2) (0, g) (fun z => GC_X5_leastThroughTwo_7 a1 a3 a4 z)))
def GB_X5_leastOfAll_17_3 (w8 : Int) (g9 : uZ) : Option ((Int × uZ) ⊕ uZ) :=
  cp (GF_X1_sizeOf 0 g9) fun v11 =>
  ck v11 <| ck w8 <| if v11 ≤ w8 then
  (some (Sum.inr g9))
  else
  (cp (GF_X1_ownOf 0 w8 g9) fun v13 =>
  wrZ g9 25 6 w8 v13 fun g14 =>
  lt (w8 + 1) fun v15 =>
  some (Sum.inl (v15, g14)))
def GJ_X5_leastOfAll_17_6 (w17 : Int) (g18 : uZ) (v26 : Int) : Option ((Int × uZ) ⊕ uZ) :=
  wrZ g18 25 6 w17 v26 fun g27 =>
  lt (w17 + 1) fun v28 =>
  some (Sum.inl (v28, g27))
def GB_X5_leastOfAll_17_7 (a2 : Int) (w2 : Int) (w17 : Int) (g18 : uZ) : Option ((Int × uZ) ⊕ uZ) :=
  ck a2 <| if a2 = 0 then
  (cp (GF_X1_sizeOf w2 g18) fun v21 =>
  ck v21 <| ck w17 <| if v21 ≤ w17 then
  (some (Sum.inr g18))
  else
  (cp (GF_X1_halfOf w2 w17 g18) fun v23 =>
  ck v23 <| if v23 = (-1) then
  (rdZ (g18 25) 6 w17 fun v25 =>
  GJ_X5_leastOfAll_17_6 w17 g18 v25)
  else
  (GJ_X5_leastOfAll_17_6 w17 g18 536870912)))
  else
  (some (Sum.inr g18))
def GC_X5_leastOfAll_17_8 (w2 : Int) (g19 : uZ) : Option ((Int × uZ) ⊕ uZ) :=
  lt (w2 + 1) fun v29 =>
  some (Sum.inl (v29, g19))
def GJ_X5_leastOfAll_17_9 (a2 : Int) (w2 : Int) (g16 : uZ) : Option ((Int × uZ) ⊕ uZ) :=
  lp (fun z => GB_X5_leastOfAll_17_7 a2 w2 z.1 z.2) (0, g16) (fun z => GC_X5_leastOfAll_17_8 w2 z)
def GC_X5_leastOfAll_17_4 (a2 : Int) (w2 : Int) (g10 : uZ) : Option ((Int × uZ) ⊕ uZ) :=
  GJ_X5_leastOfAll_17_9 a2 w2 g10
def GB_X5_leastOfAll_17_10 (a2 : Int) (w2 : Int) (g3 : uZ) : Option ((Int × uZ) ⊕ uZ) :=
  ck (g3 16 12) <| ck w2 <| if (g3 16 12) ≤ w2 then
  (some (Sum.inr g3))
  else
  (if w2 = 0 then
  (lp (fun z => GB_X5_leastOfAll_17_3 z.1 z.2) (0, g3) (fun z => GC_X5_leastOfAll_17_4 a2 w2 z))
  else
  (cp (GF_X5_advance_17 w2 g3) fun g7 =>
  GJ_X5_leastOfAll_17_9 a2 w2 g7))
def GB_X5_leastOfAll_17_12 (g4 : uZ) (w30 : Int) (w31 : Int) : Option ((Int × Int) ⊕ Int) :=
  cp (GF_X1_sizeOf ((g4 16 12) - 1) g4) fun v33 =>
  ck v33 <| ck w31 <| if v33 ≤ w31 then
  (some (Sum.inr w30))
  else
  (rdZ (g4 25) 6 w31 fun v35 =>
  cp (GF_J9_min_7cf53 w30 v35 g4) fun v36 =>
  lt (w31 + 1) fun v37 =>
  some (Sum.inl (v36, v37)))
def GC_X5_leastOfAll_17_13 (g4 : uZ) (v32 : Int) : Option (Int × uZ) :=
  some (v32, g4)
def GC_X5_leastOfAll_17_14 (g4 : uZ) : Option (Int × uZ) :=
  lp (fun z => GB_X5_leastOfAll_17_12 g4 z.1 z.2) (536870912, 0) (fun z => GC_X5_leastOfAll_17_13 g4 z)
def GF_X5_leastOfAll_17 (a2 : Int) (g : uZ) : Option (Int × uZ) :=
  ck (g 16 12) <| if (g 16 12) = 0 then
  (some (0, g))
  else
  (lp (fun z => GB_X5_leastOfAll_17_10 a2 z.1 z.2) (0, g) (fun z => GC_X5_leastOfAll_17_14 z))
def GF_X5_leastWithoutDoubles (g : uZ) : Option (Int × uZ) :=
  clZ (GF_X5_leastOfAll_17 0 g) fun v2 g1 =>
  some (v2, g1)
def GB_X5_advance_18_3 (a1 : Int) (v6 : Int) (g2 : uZ) (w7 : Int) (w8 : Int) : Option ((Int × Int) ⊕ Int) :=
  cp (GF_X1_sizeOf (a1 - 1) g2) fun v10 =>
  ck v10 <| ck w8 <| if v10 ≤ w8 then
  (some (Sum.inr w7))
  else
  (rdZ (g2 25) 6 w8 fun v12 =>
  cp (GF_X1_lagOf (a1 - 1) w8 g2) fun v13 =>
  cp (GF_X9_price_18 v13 v6 g2) fun v14 =>
  cp (GF_J9_min_7cf53 w7 (v12 + v14) g2) fun v15 =>
  lt (w8 + 1) fun v16 =>
  some (Sum.inl (v15, v16)))
def GC_X5_advance_18_4 (a1 : Int) (w1 : Int) (g2 : uZ) (v9 : Int) : Option ((Int × uZ) ⊕ uZ) :=
  cp (GF_X1_ownOf a1 w1 g2) fun v17 =>
  wrZ g2 26 6 w1 (v9 + v17) fun g18 =>
  lt (w1 + 1) fun v19 =>
  some (Sum.inl (v19, g18))
def GB_X5_advance_18_5 (a1 : Int) (w1 : Int) (g2 : uZ) : Option ((Int × uZ) ⊕ uZ) :=
  cp (GF_X1_sizeOf a1 g2) fun v4 =>
  ck v4 <| ck w1 <| if v4 ≤ w1 then
  (some (Sum.inr g2))
  else
  (cp (GF_X1_lagOf a1 w1 g2) fun v6 =>
  lp (fun z => GB_X5_advance_18_3 a1 v6 g2 z.1 z.2) (536870912, 0) (fun z => GC_X5_advance_18_4 a1 w1 g2 z))
def GB_X5_advance_18_7 (a1 : Int) (w20 : Int) (g21 : uZ) : Option ((Int × uZ) ⊕ uZ) :=
  cp (GF_X1_sizeOf a1 g21) fun v23 =>
  ck v23 <| ck w20 <| if v23 ≤ w20 then
  (some (Sum.inr g21))
  else
  (rdZ (g21 26) 6 w20 fun v25 =>
  wrZ g21 25 6 w20 v25 fun g26 =>
  lt (w20 + 1) fun v27 =>
  some (Sum.inl (v27, g26)))
def GC_X5_advance_18_8 (g22 : uZ) : Option uZ :=
  some g22
def GC_X5_advance_18_9 (a1 : Int) (g3 : uZ) : Option uZ :=
  lp (fun z => GB_X5_advance_18_7 a1 z.1 z.2) (0, g3) (fun z => GC_X5_advance_18_8 z)
def GF_X5_advance_18 (a1 : Int) (g : uZ) : Option uZ :=
  lp (fun z => GB_X5_advance_18_5 a1 z.1 z.2) (0, g) (fun z => GC_X5_advance_18_9 a1 z)
def GB_X5_leastOfAll_18_3 (w8 : Int) (g9 : uZ) : Option ((Int × uZ) ⊕ uZ) :=
  cp (GF_X1_sizeOf 0 g9) fun v11 =>
  ck v11 <| ck w8 <| if v11 ≤ w8 then
  (some (Sum.inr g9))
  else
  (cp (GF_X1_ownOf 0 w8 g9) fun v13 =>
  wrZ g9 25 6 w8 v13 fun g14 =>
  lt (w8 + 1) fun v15 =>
  some (Sum.inl (v15, g14)))
def GJ_X5_leastOfAll_18_6 (w17 : Int) (g18 : uZ) (v26 : Int) : Option ((Int × uZ) ⊕ uZ) :=
  wrZ g18 25 6 w17 v26 fun g27 =>
  lt (w17 + 1) fun v28 =>
  some (Sum.inl (v28, g27))
def GB_X5_leastOfAll_18_7 (a2 : Int) (w2 : Int) (w17 : Int) (g18 : uZ) : Option ((Int × uZ) ⊕ uZ) :=
  ck a2 <| if a2 = 0 then
  (cp (GF_X1_sizeOf w2 g18) fun v21 =>
  ck v21 <| ck w17 <| if v21 ≤ w17 then
  (some (Sum.inr g18))
  else
  (cp (GF_X1_halfOf w2 w17 g18) fun v23 =>
  ck v23 <| if v23 = (-1) then
  (rdZ (g18 25) 6 w17 fun v25 =>
  GJ_X5_leastOfAll_18_6 w17 g18 v25)
  else
  (GJ_X5_leastOfAll_18_6 w17 g18 536870912)))
  else
  (some (Sum.inr g18))
def GC_X5_leastOfAll_18_8 (w2 : Int) (g19 : uZ) : Option ((Int × uZ) ⊕ uZ) :=
  lt (w2 + 1) fun v29 =>
  some (Sum.inl (v29, g19))
def GJ_X5_leastOfAll_18_9 (a2 : Int) (w2 : Int) (g16 : uZ) : Option ((Int × uZ) ⊕ uZ) :=
  lp (fun z => GB_X5_leastOfAll_18_7 a2 w2 z.1 z.2) (0, g16) (fun z => GC_X5_leastOfAll_18_8 w2 z)
def GC_X5_leastOfAll_18_4 (a2 : Int) (w2 : Int) (g10 : uZ) : Option ((Int × uZ) ⊕ uZ) :=
  GJ_X5_leastOfAll_18_9 a2 w2 g10
def GB_X5_leastOfAll_18_10 (a2 : Int) (w2 : Int) (g3 : uZ) : Option ((Int × uZ) ⊕ uZ) :=
  ck (g3 16 12) <| ck w2 <| if (g3 16 12) ≤ w2 then
  (some (Sum.inr g3))
  else
  (if w2 = 0 then
  (lp (fun z => GB_X5_leastOfAll_18_3 z.1 z.2) (0, g3) (fun z => GC_X5_leastOfAll_18_4 a2 w2 z))
  else
  (cp (GF_X5_advance_18 w2 g3) fun g7 =>
  GJ_X5_leastOfAll_18_9 a2 w2 g7))
def GB_X5_leastOfAll_18_12 (g4 : uZ) (w30 : Int) (w31 : Int) : Option ((Int × Int) ⊕ Int) :=
  cp (GF_X1_sizeOf ((g4 16 12) - 1) g4) fun v33 =>
  ck v33 <| ck w31 <| if v33 ≤ w31 then
  (some (Sum.inr w30))
  else
  (rdZ (g4 25) 6 w31 fun v35 =>
  cp (GF_J9_min_7cf53 w30 v35 g4) fun v36 =>
  lt (w31 + 1) fun v37 =>
  some (Sum.inl (v36, v37)))
def GC_X5_leastOfAll_18_13 (g4 : uZ) (v32 : Int) : Option (Int × uZ) :=
  some (v32, g4)
def GC_X5_leastOfAll_18_14 (g4 : uZ) : Option (Int × uZ) :=
  lp (fun z => GB_X5_leastOfAll_18_12 g4 z.1 z.2) (536870912, 0) (fun z => GC_X5_leastOfAll_18_13 g4 z)
def GF_X5_leastOfAll_18 (a2 : Int) (g : uZ) : Option (Int × uZ) :=
  ck (g 16 12) <| if (g 16 12) = 0 then
  (some (0, g))
  else
  (lp (fun z => GB_X5_leastOfAll_18_10 a2 z.1 z.2) (0, g) (fun z => GC_X5_leastOfAll_18_14 z))
def GF_X5_leastWith (a1 : Int) (a2 : Int) (g : uZ) : Option (Int × uZ) :=
  cp (GF_X0_of 10 g) fun v1 =>
  cp (GF_X9_set_18 v1 a1 a2 g) fun g2 =>
  clZ (GF_X5_leastOfAll_18 1 g2) fun v4 g3 =>
  some (v4, g3)
def GB_X5_chosenLive_2 (a1 : Int) (g : uZ) (w5 : Int) (w6 : Int) : Option ((Int × Int) ⊕ Int) :=
  ck w6 <| ck a1 <| if w6 ≤ a1 then
  (some (Sum.inr w5))
  else
  (cp (GF_X5_aheadOf w6 w5 g) fun v9 =>
  lt (w6 + (-1)) fun v10 =>
  some (Sum.inl (v9, v10)))
def GC_X5_chosenLive_3 (v7 : Int) : Option Int :=
  some v7
def GJ_X5_chosenLive_4 : Option Int :=
  some 0
def GF_X5_chosenLive (a1 : Int) (a2 : Int) (g : uZ) : Option Int :=
  cp (GF_J9_min_7cf53 (a1 + a2) ((g 16 12) - 1) g) fun v1 =>
  ck a1 <| if a1 < 0 then
  (GJ_X5_chosenLive_4)
  else
  (ck v1 <| if a1 ≤ v1 then
  (cp (GF_X5_firstAtEnd v1 g) fun v4 =>
  lp (fun z => GB_X5_chosenLive_2 a1 g z.1 z.2) (v4, v1) (fun z => GC_X5_chosenLive_3 z))
  else
  (GJ_X5_chosenLive_4))
def GF_X9_setBy_28_4 (g : uZ) : Option uZ :=
  cp (GF_X0_of 10 g) fun v1 =>
  cp (GF_X0_of 11 g) fun v2 =>
  cp (GF_X0_of 12 g) fun v3 =>
  cp (GF_X9_set_28 v1 v2 v3 g) fun g4 =>
  some g4
def GF_X6_place (a1 : Int) (a2 : Int) (g : uZ) : Option Int :=
  cp (GF_X11_cell (a1 + 1) a2 g) fun v1 =>
  some (v1 * 8)
def GJ_X6_cheapestNext_3 (w3 : Int) (v20 : Int) (v21 : Int) : Option ((Int × (Int × Int)) ⊕ Int) :=
  lt (w3 + 1) fun v22 =>
  some (Sum.inl (v20, (v21, v22)))
def GJ_X6_cheapestNext_2 (v17 : Int) (w3 : Int) : Option ((Int × (Int × Int)) ⊕ Int) :=
  GJ_X6_cheapestNext_3 w3 w3 v17
def GB_X6_cheapestNext_4 (a1 : Int) (g : uZ) (w1 : Int) (w2 : Int) (w3 : Int) : Option ((Int × (Int × Int)) ⊕ Int) :=
  cp (GF_X1_sizeOf a1 g) fun v5 =>
  ck v5 <| ck w3 <| if v5 ≤ w3 then
  (some (Sum.inr w1))
  else
  (rdZ (g 32) 6 w3 fun v7 =>
  cp (GF_X11_cell (a1 + 1) w3 g) fun v8 =>
  rdZ (g 31) 606 v8 fun v9 =>
  ck v9 <| ck v7 <| if v9 ≤ v7 then
  (GJ_X6_cheapestNext_3 w3 w1 w2)
  else
  (rdZ (g 32) 6 w3 fun v11 =>
  ck v11 <| if 8 ≤ v11 then
  (GJ_X6_cheapestNext_3 w3 w1 w2)
  else
  (rdZ (g 33) 6 w3 fun v13 =>
  cp (GF_X6_place a1 w3 g) fun v14 =>
  rdZ (g 32) 6 w3 fun v15 =>
  rdZ (g 29) 4848 (v14 + v15) fun v16 =>
  lt (v13 + v16) fun v17 =>
  ck w1 <| if w1 = (-1) then
  (GJ_X6_cheapestNext_2 v17 w3)
  else
  (ck w2 <| ck v17 <| if w2 ≤ v17 then
  (GJ_X6_cheapestNext_3 w3 w1 w2)
  else
  (GJ_X6_cheapestNext_2 v17 w3)))))
def GC_X6_cheapestNext_5 (v4 : Int) : Option Int :=
  some v4
def GF_X6_cheapestNext (a1 : Int) (g : uZ) : Option Int :=
  lp (fun z => GB_X6_cheapestNext_4 a1 g z.1 z.2.1 z.2.2) ((-1), (0, 0)) (fun z => GC_X6_cheapestNext_5 z)
def GJ_X6_findWays_2 (w5 : Int) (g10 : uZ) (v15 : Int) : Option ((Int × uZ) ⊕ uZ) :=
  wrZ g10 33 6 w5 v15 fun g16 =>
  lt (w5 + 1) fun v17 =>
  some (Sum.inl (v17, g16))
def GB_X6_findWays_3 (a1 : Int) (a2 : Int) (w5 : Int) (g6 : uZ) : Option ((Int × uZ) ⊕ uZ) :=
  cp (GF_X1_sizeOf (a1 + 1) g6) fun v8 =>
  ck v8 <| ck w5 <| if v8 ≤ w5 then
  (some (Sum.inr g6))
  else
  (wrZ g6 32 6 w5 0 fun g10 =>
  ck a1 <| if 0 ≤ a1 then
  (cp (GF_X1_lagOf a1 a2 g10) fun v12 =>
  cp (GF_X1_lagOf (a1 + 1) w5 g10) fun v13 =>
  cp (GF_X9_price_28 v12 v13 g10) fun v14 =>
  GJ_X6_findWays_2 w5 g10 v14)
  else
  (GJ_X6_findWays_2 w5 g10 0))
def GB_X6_findWays_5 (a1 : Int) (v1 : Int) (v2 : Int) (w19 : Int) (w20 : Int) (g21 : uZ) : Option ((Int × (Int × uZ)) ⊕ (Int × uZ)) :=
  ck w19 <| if 8 ≤ w19 then
  (some (Sum.inr (w19, g21)))
  else
  (ck w20 <| if w20 = (-1) then
  (some (Sum.inr (w19, g21)))
  else
  (rdZ (g21 33) 6 w20 fun v26 =>
  cp (GF_X6_place (a1 + 1) w20 g21) fun v27 =>
  rdZ (g21 32) 6 w20 fun v28 =>
  rdZ (g21 29) 4848 (v27 + v28) fun v29 =>
  wrZ g21 29 4848 (v2 + w19) ((v1 + v26) + v29) fun g30 =>
  rdZ (g30 32) 6 w20 fun v31 =>
  wrZ g30 30 4848 (v2 + w19) ((w20 * 8) + v31) fun g32 =>
  rdZ (g32 32) 6 w20 fun v33 =>
  wrZ g32 32 6 w20 (v33 + 1) fun g34 =>
  lt (w19 + 1) fun v35 =>
  cp (GF_X6_cheapestNext (a1 + 1) g34) fun v36 =>
  some (Sum.inl (v35, (v36, g34)))))
def GC_X6_findWays_6 (a1 : Int) (a2 : Int) (v22 : Int) (g23 : uZ) : Option uZ :=
  cp (GF_X11_cell (a1 + 1) a2 g23) fun v37 =>
  wrZ g23 31 606 v37 v22 fun g38 =>
  some g38
def GC_X6_findWays_7 (a1 : Int) (a2 : Int) (v1 : Int) (v2 : Int) (g7 : uZ) : Option uZ :=
  cp (GF_X6_cheapestNext (a1 + 1) g7) fun v18 =>
  lp (fun z => GB_X6_findWays_5 a1 v1 v2 z.1 z.2.1 z.2.2) (0, (v18, g7)) (fun z => GC_X6_findWays_6 a1 a2 z.1 z.2)
def GF_X6_findWays (a1 : Int) (a2 : Int) (g : uZ) : Option uZ :=
  cp (GF_X1_ownOf a1 a2 g) fun v1 =>
  cp (GF_X6_place a1 a2 g) fun v2 =>
  cp (GF_X1_frameCount g) fun v3 =>
  ck (a1 + 1) <| ck v3 <| if (a1 + 1) < v3 then
  (lp (fun z => GB_X6_findWays_3 a1 a2 z.1 z.2) (0, g) (fun z => GC_X6_findWays_7 a1 a2 v1 v2 z))
  else
  (wrZ g 29 4848 v2 v1 fun g39 =>
  cp (GF_X11_cell (a1 + 1) a2 g39) fun v40 =>
  wrZ g39 31 606 v40 1 fun g41 =>
  some g41)
def GB_X6_find_3 (w4 : Int) (w8 : Int) (g9 : uZ) : Option ((Int × uZ) ⊕ uZ) :=
  cp (GF_X1_sizeOf w4 g9) fun v11 =>
  ck v11 <| ck w8 <| if v11 ≤ w8 then
  (some (Sum.inr g9))
  else
  (cp (GF_X6_findWays w4 w8 g9) fun g13 =>
  lt (w8 + 1) fun v14 =>
  some (Sum.inl (v14, g13)))
def GC_X6_find_4 (w4 : Int) (g10 : uZ) : Option ((Int × uZ) ⊕ uZ) :=
  lt (w4 + (-1)) fun v15 =>
  some (Sum.inl (v15, g10))
def GB_X6_find_5 (w4 : Int) (g5 : uZ) : Option ((Int × uZ) ⊕ uZ) :=
  ck w4 <| if w4 < 0 then
  (some (Sum.inr g5))
  else
  (lp (fun z => GB_X6_find_3 w4 z.1 z.2) (0, g5) (fun z => GC_X6_find_4 w4 z))
def GC_X6_find_6 (g6 : uZ) : Option uZ :=
  cp (GF_X6_findWays (-1) 0 g6) fun g16 =>
  some g16
def GF_X6_find (g : uZ) : Option uZ :=
  cp (GF_X9_setBy_28_4 g) fun g1 =>
  cp (GF_X1_frameCount g1) fun v2 =>
  lt (v2 - 1) fun v3 =>
  lp (fun z => GB_X6_find_5 z.1 z.2) (v3, g1) (fun z => GC_X6_find_6 z)
def GJ_X6_priceOf_2 (v6 : Int) : Option Int :=
  some v6
def GJ_X6_priceOf_1 : Option Int :=
  GJ_X6_priceOf_2 (-1)
def GF_X6_priceOf (a1 : Int) (g : uZ) : Option Int :=
  ck a1 <| if a1 < 0 then
  (GJ_X6_priceOf_1)
  else
  (rdZ (g 31) 606 0 fun v2 =>
  ck v2 <| if v2 ≤ a1 then
  (GJ_X6_priceOf_1)
  else
  (if a1 < 8 then
  (rdZ (g 29) 4848 a1 fun v5 =>
  GJ_X6_priceOf_2 v5)
  else
  (GJ_X6_priceOf_1)))
def GJ_X6_chosenIn_2 : Option ((Int × Int) ⊕ (Int ⊕ Int)) :=
  some (Sum.inr (Sum.inr (-1)))
def GB_X6_chosenIn_3 (a2 : Int) (g : uZ) (w9 : Int) (w10 : Int) : Option ((Int × Int) ⊕ (Int ⊕ Int)) :=
  ck a2 <| ck w10 <| if a2 ≤ w10 then
  (some (Sum.inr (Sum.inl w9)))
  else
  (ck w9 <| if w9 < 0 then
  (GJ_X6_chosenIn_2)
  else
  (dvZ w9 8 fun v14 =>
  cp (GF_X1_has w10 v14 g) fun v15 =>
  ck v15 <| if v15 = 0 then
  (GJ_X6_chosenIn_2)
  else
  (dvZ w9 8 fun v17 =>
  cp (GF_X6_place w10 v17 g) fun v18 =>
  rmdZ w9 8 fun v19 =>
  rdZ (g 30) 4848 (v18 + v19) fun v20 =>
  lt (w10 + 1) fun v21 =>
  some (Sum.inl (v20, v21)))))
def GC_X6_chosenIn_4 (v11 : Int) : Option Int :=
  dvZ v11 8 fun v22 =>
  some v22
def GJ_X6_chosenIn_5 : Option Int :=
  some (-1)
def GF_X6_chosenIn (a1 : Int) (a2 : Int) (g : uZ) : Option Int :=
  ck a1 <| if a1 < 0 then
  (GJ_X6_chosenIn_5)
  else
  (rdZ (g 31) 606 0 fun v2 =>
  ck v2 <| if v2 ≤ a1 then
  (GJ_X6_chosenIn_5)
  else
  (if 8 ≤ a1 then
  (GJ_X6_chosenIn_5)
  else
  (ck a2 <| if a2 < 0 then
  (GJ_X6_chosenIn_5)
  else
  (cp (GF_X1_frameCount g) fun v6 =>
  ck v6 <| if a2 < v6 then
  (rdZ (g 30) 4848 a1 fun v8 =>
  lp (fun z => GB_X6_chosenIn_3 a2 g z.1 z.2) (v8, 0) (fun z => ex2 (fun x => GC_X6_chosenIn_4 x) (fun q => some q) z))
  else
  (GJ_X6_chosenIn_5)))))
def GJ_X8_find_3 (w2 : Int) (g18 : uZ) : Option ((Int × uZ) ⊕ uZ) :=
  rdZ (g18 36) 100 ((g18 34 6) - 1) fun v19 =>
  wrZ g18 36 100 ((g18 34 6) - 1) (v19 + 1) fun g20 =>
  wrZ g20 37 100 w2 ((g20 34 6) - 1) fun g21 =>
  lt (w2 + 1) fun v22 =>
  some (Sum.inl (v22, g21))
def GJ_X8_find_2 (w2 : Int) (g3 : uZ) : Option ((Int × uZ) ⊕ uZ) :=
  wrZ g3 35 100 (g3 34 6) w2 fun g15 =>
  wrZ g15 36 100 (g15 34 6) 0 fun g16 =>
  pfZ g16 34 6 ((g16 34 6) + 1) fun g17 =>
  GJ_X8_find_3 w2 g17
def GB_X8_find_4 (w2 : Int) (g3 : uZ) : Option ((Int × uZ) ⊕ uZ) :=
  cp (GF_X5_size g3) fun v5 =>
  ck v5 <| ck w2 <| if v5 ≤ w2 then
  (some (Sum.inr g3))
  else
  (if w2 = 0 then
  (GJ_X8_find_2 w2 g3)
  else
  (cp (GF_X5_lagIn w2 g3) fun v8 =>
  ck v8 <| lt (if v8 = 0 then 1 else 0) fun v10 =>
  cp (GF_X5_lagIn (w2 - 1) g3) fun v11 =>
  ck v11 <| lt (if v11 = 0 then 1 else 0) fun v13 =>
  ck v10 <| ck v13 <| if v10 = v13 then
  (GJ_X8_find_3 w2 g3)
  else
  (GJ_X8_find_2 w2 g3)))
def GC_X8_find_5 (g4 : uZ) : Option uZ :=
  some g4
def GF_X8_find (g : uZ) : Option uZ :=
  pfZ g 34 6 0 fun g1 =>
  lp (fun z => GB_X8_find_4 z.1 z.2) (0, g1) (fun z => GC_X8_find_5 z)
def GF_X8_size (g : uZ) : Option Int :=
  some (g 34 6)
def GJ_X8_has_2 (v3 : Int) : Option Int :=
  bzZ v3 <|
  some v3
def GJ_X8_has_1 : Option Int :=
  GJ_X8_has_2 0
def GF_X8_has (a1 : Int) (g : uZ) : Option Int :=
  ck a1 <| if a1 < 0 then
  (GJ_X8_has_1)
  else
  (ck (g 34 6) <| if (g 34 6) ≤ a1 then
  (GJ_X8_has_1)
  else
  (GJ_X8_has_2 1))
def GJ_X8_firstFrame_1 (v4 : Int) : Option Int :=
  some v4
def GF_X8_firstFrame (a1 : Int) (g : uZ) : Option Int :=
  cp (GF_X8_has a1 g) fun v1 =>
  ck v1 <| if v1 = 0 then
  (GJ_X8_firstFrame_1 (-1))
  else
  (rdZ (g 35) 100 a1 fun v3 =>
  GJ_X8_firstFrame_1 v3)
def GJ_X8_length_1 (v4 : Int) : Option Int :=
  some v4
def GF_X8_length (a1 : Int) (g : uZ) : Option Int :=
  cp (GF_X8_has a1 g) fun v1 =>
  ck v1 <| if v1 = 0 then
  (GJ_X8_length_1 0)
  else
  (rdZ (g 36) 100 a1 fun v3 =>
  GJ_X8_length_1 v3)
def GJ_X8_isVoiced_2 (v6 : Int) : Option Int :=
  bzZ v6 <|
  some v6
def GJ_X8_isVoiced_1 : Option Int :=
  GJ_X8_isVoiced_2 0
def GF_X8_isVoiced (a1 : Int) (g : uZ) : Option Int :=
  cp (GF_X8_has a1 g) fun v1 =>
  ck v1 <| if v1 = 0 then
  (GJ_X8_isVoiced_1)
  else
  (rdZ (g 35) 100 a1 fun v3 =>
  cp (GF_X5_lagIn v3 g) fun v4 =>
  ck v4 <| if v4 = 0 then
  (GJ_X8_isVoiced_1)
  else
  (GJ_X8_isVoiced_2 1))
def GJ_X8_from_1 (v5 : Int) : Option Int :=
  some v5
def GF_X8_from (a1 : Int) (g : uZ) : Option Int :=
  cp (GF_X8_has a1 g) fun v1 =>
  ck v1 <| if v1 = 0 then
  (GJ_X8_from_1 0)
  else
  (rdZ (g 35) 100 a1 fun v3 =>
  cp (GF_X0_of 2 g) fun v4 =>
  GJ_X8_from_1 (v3 * v4))
def GJ_X8_to_1 (v8 : Int) : Option Int :=
  some v8
def GF_X8_to (a1 : Int) (g : uZ) : Option Int :=
  cp (GF_X8_has a1 g) fun v1 =>
  ck v1 <| if v1 = 0 then
  (GJ_X8_to_1 0)
  else
  (cp (GF_X7_size g) fun v3 =>
  rdZ (g 35) 100 a1 fun v4 =>
  rdZ (g 36) 100 a1 fun v5 =>
  cp (GF_X0_of 2 g) fun v6 =>
  cp (GF_J9_min_7cf53 v3 ((v4 + v5) * v6) g) fun v7 =>
  GJ_X8_to_1 v7)
def GF_X8_lagAtSample (a1 : Int) (g : uZ) : Option Int :=
  cp (GF_X0_of 2 g) fun v1 =>
  cp (GF_X11_quotient a1 v1 g) fun v2 =>
  cp (GF_X5_lagIn v2 g) fun v3 =>
  some v3
def GJ_X8_ofSample_2 (v7 : Int) : Option Int :=
  some v7
def GJ_X8_ofSample_1 : Option Int :=
  GJ_X8_ofSample_2 (-1)
def GF_X8_ofSample (a1 : Int) (g : uZ) : Option Int :=
  cp (GF_X0_of 2 g) fun v1 =>
  cp (GF_X11_quotient a1 v1 g) fun v2 =>
  ck v2 <| if v2 < 0 then
  (GJ_X8_ofSample_1)
  else
  (cp (GF_X5_size g) fun v4 =>
  ck v4 <| if v2 < v4 then
  (rdZ (g 37) 100 v2 fun v6 =>
  GJ_X8_ofSample_2 v6)
  else
  (GJ_X8_ofSample_1))
def GJ_X4_findNotes_5 (w2 : Int) (g21 : uZ) : Option ((Int × uZ) ⊕ uZ) :=
  lt (w2 + 1) fun v22 =>
  some (Sum.inl (v22, g21))
def GJ_X4_findNotes_3 (w2 : Int) (g18 : uZ) : Option ((Int × uZ) ⊕ uZ) :=
  rdZ (g18 40) 100 ((g18 38 6) - 1) fun v19 =>
  wrZ g18 40 100 ((g18 38 6) - 1) (v19 + 1) fun g20 =>
  GJ_X4_findNotes_5 w2 g20
def GJ_X4_findNotes_2 (w2 : Int) (g3 : uZ) : Option ((Int × uZ) ⊕ uZ) :=
  wrZ g3 39 100 (g3 38 6) w2 fun g15 =>
  wrZ g15 40 100 (g15 38 6) 0 fun g16 =>
  pfZ g16 38 6 ((g16 38 6) + 1) fun g17 =>
  GJ_X4_findNotes_3 w2 g17
def GJ_X4_findNotes_4 (v7 : Int) (w2 : Int) (g3 : uZ) (v11 : Int) : Option ((Int × uZ) ⊕ uZ) :=
  ck v11 <| if v11 = 0 then
  (GJ_X4_findNotes_2 w2 g3)
  else
  (cp (GF_J9_abs_0f7a4 (v7 - v11) g3) fun v13 =>
  ck v13 <| if v13 ≤ 1 then
  (GJ_X4_findNotes_3 w2 g3)
  else
  (GJ_X4_findNotes_2 w2 g3))
def GB_X4_findNotes_6 (w2 : Int) (g3 : uZ) : Option ((Int × uZ) ⊕ uZ) :=
  cp (GF_X5_size g3) fun v5 =>
  ck v5 <| ck w2 <| if v5 ≤ w2 then
  (some (Sum.inr g3))
  else
  (cp (GF_X5_lagIn w2 g3) fun v7 =>
  ck v7 <| if v7 = 0 then
  (GJ_X4_findNotes_5 w2 g3)
  else
  (if w2 = 0 then
  (GJ_X4_findNotes_4 v7 w2 g3 0)
  else
  (cp (GF_X5_lagIn (w2 - 1) g3) fun v10 =>
  GJ_X4_findNotes_4 v7 w2 g3 v10)))
def GC_X4_findNotes_7 (g4 : uZ) : Option uZ :=
  some g4
def GF_X4_findNotes (g : uZ) : Option uZ :=
  pfZ g 38 6 0 fun g1 =>
  lp (fun z => GB_X4_findNotes_6 z.1 z.2) (0, g1) (fun z => GC_X4_findNotes_7 z)
def GB_X4_tallyLags_43_2 (w1 : Int) (g2 : uZ) : Option ((Int × uZ) ⊕ uZ) :=
  ck w1 <| if 50 ≤ w1 then
  (some (Sum.inr g2))
  else
  (wrZ g2 43 50 w1 0 fun g5 =>
  lt (w1 + 1) fun v6 =>
  some (Sum.inl (v6, g5)))
def GJ_X4_tallyLags_43_4 (w8 : Int) (v19 : Int) (g20 : uZ) : Option ((Int × (Int × uZ)) ⊕ (Int × uZ)) :=
  lt (w8 + 1) fun v21 =>
  some (Sum.inl (v19, (v21, g20)))
def GB_X4_tallyLags_43_5 (a2 : Int) (a3 : Int) (w7 : Int) (w8 : Int) (g9 : uZ) : Option ((Int × (Int × uZ)) ⊕ (Int × uZ)) :=
  ck (a2 + a3) <| ck w8 <| if (a2 + a3) ≤ w8 then
  (some (Sum.inr (w7, g9)))
  else
  (cp (GF_X5_lagIn w8 g9) fun v13 =>
  ck v13 <| if v13 ≤ 0 then
  (GJ_X4_tallyLags_43_4 w8 w7 g9)
  else
  (if 50 ≤ v13 then
  (GJ_X4_tallyLags_43_4 w8 w7 g9)
  else
  (rdZ (g9 43) 50 v13 fun v16 =>
  wrZ g9 43 50 v13 (v16 + 1) fun g17 =>
  lt (w7 + 1) fun v18 =>
  GJ_X4_tallyLags_43_4 w8 v18 g17)))
def GC_X4_tallyLags_43_6 (v10 : Int) (g11 : uZ) : Option (Int × uZ) :=
  some (v10, g11)
def GC_X4_tallyLags_43_7 (a2 : Int) (a3 : Int) (g3 : uZ) : Option (Int × uZ) :=
  lp (fun z => GB_X4_tallyLags_43_5 a2 a3 z.1 z.2.1 z.2.2) (0, (a2, g3)) (fun z => GC_X4_tallyLags_43_6 z.1 z.2)
def GF_X4_tallyLags_43 (a2 : Int) (a3 : Int) (g : uZ) : Option (Int × uZ) :=
  lp (fun z => GB_X4_tallyLags_43_2 z.1 z.2) (0, g) (fun z => GC_X4_tallyLags_43_7 a2 a3 z)
def GB_X11_middleLag_43_2 (a2 : Int) (g : uZ) (w1 : Int) (w2 : Int) : Option ((Int × Int) ⊕ (Unit ⊕ Int)) :=
  ck w2 <| if 50 ≤ w2 then
  (some (Sum.inr (Sum.inl ())))
  else
  (rdZ (g 43) 50 w2 fun v4 =>
  lt (w1 + v4) fun v5 =>
  dvZ (a2 - 1) 2 fun v6 =>
  ck v5 <| ck v6 <| if v5 ≤ v6 then
  (lt (w2 + 1) fun v8 =>
  some (Sum.inl (v5, v8)))
  else
  (some (Sum.inr (Sum.inr w2))))
def GC_X11_middleLag_43_3 : Option Int :=
  some (-1)
def GF_X11_middleLag_43 (a2 : Int) (g : uZ) : Option Int :=
  lp (fun z => GB_X11_middleLag_43_2 a2 g z.1 z.2) (0, 0) (fun z => ex2 (fun x => GC_X11_middleLag_43_3) (fun q => some q) z)
def GB_X4_tallyLags_42_2 (w1 : Int) (g2 : uZ) : Option ((Int × uZ) ⊕ uZ) :=
  ck w1 <| if 50 ≤ w1 then
  (some (Sum.inr g2))
  else
  (wrZ g2 42 50 w1 0 fun g5 =>
  lt (w1 + 1) fun v6 =>
  some (Sum.inl (v6, g5)))
def GJ_X4_tallyLags_42_4 (w8 : Int) (v19 : Int) (g20 : uZ) : Option ((Int × (Int × uZ)) ⊕ (Int × uZ)) :=
  lt (w8 + 1) fun v21 =>
  some (Sum.inl (v19, (v21, g20)))
def GB_X4_tallyLags_42_5 (a2 : Int) (a3 : Int) (w7 : Int) (w8 : Int) (g9 : uZ) : Option ((Int × (Int × uZ)) ⊕ (Int × uZ)) :=
  ck (a2 + a3) <| ck w8 <| if (a2 + a3) ≤ w8 then
  (some (Sum.inr (w7, g9)))
  else
  (cp (GF_X5_lagIn w8 g9) fun v13 =>
  ck v13 <| if v13 ≤ 0 then
  (GJ_X4_tallyLags_42_4 w8 w7 g9)
  else
  (if 50 ≤ v13 then
  (GJ_X4_tallyLags_42_4 w8 w7 g9)
  else
  (rdZ (g9 42) 50 v13 fun v16 =>
  wrZ g9 42 50 v13 (v16 + 1) fun g17 =>
  lt (w7 + 1) fun v18 =>
  GJ_X4_tallyLags_42_4 w8 v18 g17)))
def GC_X4_tallyLags_42_6 (v10 : Int) (g11 : uZ) : Option (Int × uZ) :=
  some (v10, g11)
def GC_X4_tallyLags_42_7 (a2 : Int) (a3 : Int) (g3 : uZ) : Option (Int × uZ) :=
  lp (fun z => GB_X4_tallyLags_42_5 a2 a3 z.1 z.2.1 z.2.2) (0, (a2, g3)) (fun z => GC_X4_tallyLags_42_6 z.1 z.2)
def GF_X4_tallyLags_42 (a2 : Int) (a3 : Int) (g : uZ) : Option (Int × uZ) :=
  lp (fun z => GB_X4_tallyLags_42_2 z.1 z.2) (0, g) (fun z => GC_X4_tallyLags_42_7 a2 a3 z)
def GJ_X4_findSteady_2 (v12 : Int) (w4 : Int) (g18 : uZ) : Option ((Int × (Int × uZ)) ⊕ uZ) :=
  lt (w4 + 1) fun v19 =>
  some (Sum.inl (v12, (v19, g18)))
def GB_X4_findSteady_3 (w3 : Int) (w4 : Int) (g5 : uZ) : Option ((Int × (Int × uZ)) ⊕ uZ) :=
  cp (GF_X5_size g5) fun v7 =>
  ck v7 <| ck w4 <| if v7 ≤ w4 then
  (some (Sum.inr g5))
  else
  (cp (GF_X5_lagIn w4 g5) fun v9 =>
  cp (GF_X5_lagIn w3 g5) fun v10 =>
  ck v9 <| ck v10 <| lt (if v9 = v10 then w3 else w4) fun v12 =>
  cp (GF_X5_lagIn w4 g5) fun v13 =>
  ck v13 <| if v13 = 0 then
  (GJ_X4_findSteady_2 v12 w4 g5)
  else
  (ck ((w4 - v12) + 1) <| ck (g5 38 9) <| if ((w4 - v12) + 1) ≤ (g5 38 9) then
  (GJ_X4_findSteady_2 v12 w4 g5)
  else
  (pfZ g5 38 8 v12 fun g16 =>
  pfZ g16 38 9 ((w4 - v12) + 1) fun g17 =>
  GJ_X4_findSteady_2 v12 w4 g17)))
def GC_X4_findSteady_4 (g6 : uZ) : Option uZ :=
  some g6
def GF_X4_findSteady (g : uZ) : Option uZ :=
  pfZ g 38 8 (-1) fun g1 =>
  pfZ g1 38 9 0 fun g2 =>
  lp (fun z => GB_X4_findSteady_3 z.1 z.2.1 z.2.2) (0, (0, g2)) (fun z => GC_X4_findSteady_4 z)
def GB_X4_find_2 (w2 : Int) (g3 : uZ) : Option ((Int × uZ) ⊕ uZ) :=
  ck (g3 38 6) <| ck w2 <| if (g3 38 6) ≤ w2 then
  (some (Sum.inr g3))
  else
  (rdZ (g3 39) 100 w2 fun v6 =>
  rdZ (g3 40) 100 w2 fun v7 =>
  clZ (GF_X4_tallyLags_43 v6 v7 g3) fun v9 g8 =>
  rdZ (g8 40) 100 w2 fun v10 =>
  cp (GF_X11_middleLag_43 v10 g8) fun v11 =>
  wrZ g8 41 100 w2 v11 fun g12 =>
  lt (w2 + 1) fun v13 =>
  some (Sum.inl (v13, g12)))
def GC_X4_find_3 (g4 : uZ) : Option uZ :=
  cp (GF_X5_size g4) fun v14 =>
  clZ (GF_X4_tallyLags_42 0 v14 g4) fun v16 g15 =>
  pfZ g15 38 7 v16 fun g17 =>
  cp (GF_X4_findSteady g17) fun g18 =>
  some g18
def GF_X4_find (g : uZ) : Option uZ :=
  cp (GF_X4_findNotes g) fun g1 =>
  lp (fun z => GB_X4_find_2 z.1 z.2) (0, g1) (fun z => GC_X4_find_3 z)
def GF_X4_size (g : uZ) : Option Int :=
  some (g 38 6)
def GJ_X4_has_2 (v3 : Int) : Option Int :=
  bzZ v3 <|
  some v3
def GJ_X4_has_1 : Option Int :=
  GJ_X4_has_2 0
def GF_X4_has (a1 : Int) (g : uZ) : Option Int :=
  ck a1 <| if a1 < 0 then
  (GJ_X4_has_1)
  else
  (ck (g 38 6) <| if (g 38 6) ≤ a1 then
  (GJ_X4_has_1)
  else
  (GJ_X4_has_2 1))
def GJ_X4_firstFrame_1 (v4 : Int) : Option Int :=
  some v4
def GF_X4_firstFrame (a1 : Int) (g : uZ) : Option Int :=
  cp (GF_X4_has a1 g) fun v1 =>
  ck v1 <| if v1 = 0 then
  (GJ_X4_firstFrame_1 (-1))
  else
  (rdZ (g 39) 100 a1 fun v3 =>
  GJ_X4_firstFrame_1 v3)
def GJ_X4_length_1 (v4 : Int) : Option Int :=
  some v4
def GF_X4_length (a1 : Int) (g : uZ) : Option Int :=
  cp (GF_X4_has a1 g) fun v1 =>
  ck v1 <| if v1 = 0 then
  (GJ_X4_length_1 0)
  else
  (rdZ (g 40) 100 a1 fun v3 =>
  GJ_X4_length_1 v3)
def GJ_X4_lagOf_1 (v4 : Int) : Option Int :=
  some v4
def GF_X4_lagOf (a1 : Int) (g : uZ) : Option Int :=
  cp (GF_X4_has a1 g) fun v1 =>
  ck v1 <| if v1 = 0 then
  (GJ_X4_lagOf_1 0)
  else
  (rdZ (g 41) 100 a1 fun v3 =>
  GJ_X4_lagOf_1 v3)
def GF_X4_steadyFirst (g : uZ) : Option Int :=
  some (g 38 8)
def GF_X4_steadyLength (g : uZ) : Option Int :=
  some (g 38 9)
def GJ_X4_steadyLag_1 (v3 : Int) : Option Int :=
  some v3
def GF_X4_steadyLag (g : uZ) : Option Int :=
  ck (g 38 9) <| if (g 38 9) = 0 then
  (GJ_X4_steadyLag_1 0)
  else
  (cp (GF_X5_lagIn (g 38 8) g) fun v2 =>
  GJ_X4_steadyLag_1 v2)
def GB_X4_unlikeLags_2 (g : uZ) (w1 : Int) (w2 : Int) : Option ((Int × Int) ⊕ Int) :=
  ck w2 <| if 50 ≤ w2 then
  (some (Sum.inr w1))
  else
  (rdZ (g 42) 50 w2 fun v5 =>
  ck v5 <| lt (if v5 ≤ 0 then 0 else 1) fun v7 =>
  lt (w1 + v7) fun v8 =>
  lt (w2 + 1) fun v9 =>
  some (Sum.inl (v8, v9)))
def GC_X4_unlikeLags_3 (v3 : Int) : Option Int :=
  some v3
def GF_X4_unlikeLags (g : uZ) : Option Int :=
  lp (fun z => GB_X4_unlikeLags_2 g z.1 z.2) (0, 0) (fun z => GC_X4_unlikeLags_3 z)
def GJ_X4_unlikeLag_2 (w2 : Int) (v8 : Int) : Option ((Int × Int) ⊕ (Unit ⊕ Int)) :=
  lt (w2 + 1) fun v9 =>
  some (Sum.inl (v8, v9))
def GB_X4_unlikeLag_3 (a1 : Int) (g : uZ) (w1 : Int) (w2 : Int) : Option ((Int × Int) ⊕ (Unit ⊕ Int)) :=
  ck w2 <| if 50 ≤ w2 then
  (some (Sum.inr (Sum.inl ())))
  else
  (rdZ (g 42) 50 w2 fun v4 =>
  ck v4 <| if v4 ≤ 0 then
  (GJ_X4_unlikeLag_2 w2 w1)
  else
  (ck w1 <| ck a1 <| if w1 = a1 then
  (some (Sum.inr (Sum.inr w2)))
  else
  (lt (w1 + 1) fun v7 =>
  GJ_X4_unlikeLag_2 w2 v7)))
def GC_X4_unlikeLag_4 : Option Int :=
  some (-1)
def GF_X4_unlikeLag (a1 : Int) (g : uZ) : Option Int :=
  lp (fun z => GB_X4_unlikeLag_3 a1 g z.1 z.2) (0, 0) (fun z => ex2 (fun x => GC_X4_unlikeLag_4) (fun q => some q) z)
def GJ_X4_framesWith_2 (v4 : Int) : Option Int :=
  some v4
def GJ_X4_framesWith_1 : Option Int :=
  GJ_X4_framesWith_2 0
def GF_X4_framesWith (a1 : Int) (g : uZ) : Option Int :=
  ck a1 <| if a1 < 0 then
  (GJ_X4_framesWith_1)
  else
  (if a1 < 50 then
  (rdZ (g 42) 50 a1 fun v3 =>
  GJ_X4_framesWith_2 v3)
  else
  (GJ_X4_framesWith_1))
def GJ_X4_commonest_2 (w3 : Int) (v9 : Int) (v10 : Int) : Option ((Int × (Int × Int)) ⊕ Int) :=
  lt (w3 + 1) fun v11 =>
  some (Sum.inl (v9, (v10, v11)))
def GB_X4_commonest_3 (g : uZ) (w1 : Int) (w2 : Int) (w3 : Int) : Option ((Int × (Int × Int)) ⊕ Int) :=
  ck w3 <| if 50 ≤ w3 then
  (some (Sum.inr w1))
  else
  (rdZ (g 42) 50 w3 fun v6 =>
  ck v6 <| ck w2 <| if v6 ≤ w2 then
  (GJ_X4_commonest_2 w3 w1 w2)
  else
  (rdZ (g 42) 50 w3 fun v8 =>
  GJ_X4_commonest_2 w3 w3 v8))
def GC_X4_commonest_4 (v4 : Int) : Option Int :=
  some v4
def GF_X4_commonest (g : uZ) : Option Int :=
  lp (fun z => GB_X4_commonest_3 g z.1 z.2.1 z.2.2) ((-1), (0, 0)) (fun z => GC_X4_commonest_4 z)
def GB_X11_middleLag_42_2 (a2 : Int) (g : uZ) (w1 : Int) (w2 : Int) : Option ((Int × Int) ⊕ (Unit ⊕ Int)) :=
  ck w2 <| if 50 ≤ w2 then
  (some (Sum.inr (Sum.inl ())))
  else
  (rdZ (g 42) 50 w2 fun v4 =>
  lt (w1 + v4) fun v5 =>
  dvZ (a2 - 1) 2 fun v6 =>
  ck v5 <| ck v6 <| if v5 ≤ v6 then
  (lt (w2 + 1) fun v8 =>
  some (Sum.inl (v5, v8)))
  else
  (some (Sum.inr (Sum.inr w2))))
def GC_X11_middleLag_42_3 : Option Int :=
  some (-1)
def GF_X11_middleLag_42 (a2 : Int) (g : uZ) : Option Int :=
  lp (fun z => GB_X11_middleLag_42_2 a2 g z.1 z.2) (0, 0) (fun z => ex2 (fun x => GC_X11_middleLag_42_3) (fun q => some q) z)
def GJ_X4_middleOfAll_1 (v3 : Int) : Option Int :=
  some v3
def GF_X4_middleOfAll (g : uZ) : Option Int :=
  ck (g 38 7) <| if (g 38 7) = 0 then
  (GJ_X4_middleOfAll_1 (-1))
  else
  (cp (GF_X11_middleLag_42 (g 38 7) g) fun v2 =>
  GJ_X4_middleOfAll_1 v2)
def GJ_X3_findWorths_4 (w14 : Int) (v28 : Int) (g29 : uZ) : Option ((Int × (Int × uZ)) ⊕ (Int × uZ)) :=
  lt (w14 + 1) fun v30 =>
  some (Sum.inl (v28, (v30, g29)))
def GJ_X3_findWorths_3 (v23 : Int) (w4 : Int) (w14 : Int) (g15 : uZ) : Option ((Int × (Int × uZ)) ⊕ (Int × uZ)) :=
  wrZ g15 46 800 w4 w14 fun g27 =>
  GJ_X3_findWorths_4 w14 v23 g27
def GB_X3_findWorths_5 (a2 : Int) (v1 : Int) (v9 : Int) (v10 : Int) (w4 : Int) (w13 : Int) (w14 : Int) (g15 : uZ) : Option ((Int × (Int × uZ)) ⊕ (Int × uZ)) :=
  ck w14 <| ck w4 <| if w14 ≤ w4 then
  (some (Sum.inr (w13, g15)))
  else
  (ck (v9 + v10) <| if (v9 + v10) < w14 then
  (some (Sum.inr (w13, g15)))
  else
  (ck a2 <| if a2 ≤ w14 then
  (some (Sum.inr (w13, g15)))
  else
  (rdZ (g15 45) 800 w14 fun v21 =>
  cp (GF_J9_abs_0f7a4 (w14 - v9) g15) fun v22 =>
  lt (v21 - (v1 * v22)) fun v23 =>
  rdZ (g15 46) 800 w4 fun v24 =>
  ck v24 <| if v24 = (-1) then
  (GJ_X3_findWorths_3 v23 w4 w14 g15)
  else
  (ck v23 <| ck w13 <| if v23 ≤ w13 then
  (GJ_X3_findWorths_4 w14 w13 g15)
  else
  (GJ_X3_findWorths_3 v23 w4 w14 g15)))))
def GC_X3_findWorths_6 (w4 : Int) (v16 : Int) (g17 : uZ) : Option ((Int × uZ) ⊕ uZ) :=
  cp (GF_X7_at w4 g17) fun v31 =>
  wrZ g17 45 800 w4 (v16 + v31) fun g32 =>
  lt (w4 + (-1)) fun v33 =>
  some (Sum.inl (v33, g32))
def GB_X3_findWorths_7 (a1 : Int) (a2 : Int) (v1 : Int) (w4 : Int) (g5 : uZ) : Option ((Int × uZ) ⊕ uZ) :=
  ck w4 <| ck a1 <| if w4 < a1 then
  (some (Sum.inr g5))
  else
  (cp (GF_X8_lagAtSample w4 g5) fun v8 =>
  lt (w4 + v8) fun v9 =>
  dvZ (v9 - w4) 4 fun v10 =>
  wrZ g5 46 800 w4 (-1) fun g11 =>
  lt (v9 - v10) fun v12 =>
  lp (fun z => GB_X3_findWorths_5 a2 v1 v9 v10 w4 z.1 z.2.1 z.2.2) (0, (v12, g11)) (fun z => GC_X3_findWorths_6 w4 z.1 z.2))
def GC_X3_findWorths_8 (g6 : uZ) : Option uZ :=
  some g6
def GF_X3_findWorths (a1 : Int) (a2 : Int) (g : uZ) : Option uZ :=
  cp (GF_X0_of 13 g) fun v1 =>
  cp (GF_J9_min_7cf53 a2 800 g) fun v2 =>
  lt (v2 - 1) fun v3 =>
  lp (fun z => GB_X3_findWorths_7 a1 a2 v1 z.1 z.2) (v3, g) (fun z => GC_X3_findWorths_8 z)
def GB_X3_markSpan_2 (a2 : Int) (a3 : Int) (g : uZ) (w1 : Int) (w2 : Int) : Option ((Int × Int) ⊕ Int) :=
  ck a3 <| ck w2 <| if a3 ≤ w2 then
  (some (Sum.inr w1))
  else
  (cp (GF_X8_lagAtSample a2 g) fun v5 =>
  ck (a2 + v5) <| if (a2 + v5) ≤ w2 then
  (some (Sum.inr w1))
  else
  (rdZ (g 45) 800 w2 fun v7 =>
  rdZ (g 45) 800 w1 fun v8 =>
  ck v7 <| ck v8 <| lt (if v7 ≤ v8 then w1 else w2) fun v10 =>
  lt (w2 + 1) fun v11 =>
  some (Sum.inl (v10, v11))))
def GB_X3_markSpan_4 (a1 : Int) (a2 : Int) (a3 : Int) (w14 : Int) (g15 : uZ) : Option ((Int × uZ) ⊕ uZ) :=
  ck w14 <| ck a2 <| if w14 < a2 then
  (some (Sum.inr g15))
  else
  (ck a3 <| if a3 ≤ w14 then
  (some (Sum.inr g15))
  else
  (ck (g15 44 9) <| if 800 ≤ (g15 44 9) then
  (some (Sum.inr g15))
  else
  (wrZ g15 47 800 (g15 44 9) w14 fun g20 =>
  wrZ g20 48 800 (g20 44 9) a1 fun g21 =>
  pfZ g21 44 9 ((g21 44 9) + 1) fun g22 =>
  rdZ (g22 46) 800 w14 fun v23 =>
  some (Sum.inl (v23, g22)))))
def GC_X3_markSpan_5 (g16 : uZ) : Option uZ :=
  some g16
def GC_X3_markSpan_6 (a1 : Int) (a2 : Int) (a3 : Int) (g : uZ) (v3 : Int) : Option uZ :=
  rdZ (g 45) 800 v3 fun v12 =>
  wrZ g 50 100 a1 v12 fun g13 =>
  lp (fun z => GB_X3_markSpan_4 a1 a2 a3 z.1 z.2) (v3, g13) (fun z => GC_X3_markSpan_5 z)
def GF_X3_markSpan (a1 : Int) (a2 : Int) (a3 : Int) (g : uZ) : Option uZ :=
  lp (fun z => GB_X3_markSpan_2 a2 a3 g z.1 z.2) (a2, a2) (fun z => GC_X3_markSpan_6 a1 a2 a3 g z)
def GJ_X3_find_2 (w2 : Int) (g17 : uZ) : Option ((Int × uZ) ⊕ uZ) :=
  lt (w2 + 1) fun v18 =>
  some (Sum.inl (v18, g17))
def GB_X3_find_3 (w2 : Int) (g3 : uZ) : Option ((Int × uZ) ⊕ uZ) :=
  cp (GF_X8_size g3) fun v5 =>
  ck v5 <| ck w2 <| if v5 ≤ w2 then
  (some (Sum.inr g3))
  else
  (wrZ g3 49 101 w2 (g3 44 9) fun g7 =>
  wrZ g7 50 100 w2 0 fun g8 =>
  cp (GF_X8_isVoiced w2 g8) fun v9 =>
  ck v9 <| if v9 = 0 then
  (GJ_X3_find_2 w2 g8)
  else
  (cp (GF_X8_from w2 g8) fun v11 =>
  cp (GF_X8_to w2 g8) fun v12 =>
  cp (GF_X3_findWorths v11 v12 g8) fun g13 =>
  cp (GF_X8_from w2 g13) fun v14 =>
  cp (GF_X8_to w2 g13) fun v15 =>
  cp (GF_X3_markSpan w2 v14 v15 g13) fun g16 =>
  GJ_X3_find_2 w2 g16))
def GC_X3_find_4 (g4 : uZ) : Option uZ :=
  cp (GF_X8_size g4) fun v19 =>
  wrZ g4 49 101 v19 (g4 44 9) fun g20 =>
  some g20
def GF_X3_find (g : uZ) : Option uZ :=
  pfZ g 44 9 0 fun g1 =>
  lp (fun z => GB_X3_find_3 z.1 z.2) (0, g1) (fun z => GC_X3_find_4 z)
def GF_X3_size (g : uZ) : Option Int :=
  some (g 44 9)
def GJ_X3_has_2 (v3 : Int) : Option Int :=
  bzZ v3 <|
  some v3
def GJ_X3_has_1 : Option Int :=
  GJ_X3_has_2 0
def GF_X3_has (a1 : Int) (g : uZ) : Option Int :=
  ck a1 <| if a1 < 0 then
  (GJ_X3_has_1)
  else
  (ck (g 44 9) <| if (g 44 9) ≤ a1 then
  (GJ_X3_has_1)
  else
  (GJ_X3_has_2 1))
def GJ_X3_at_1 (v4 : Int) : Option Int :=
  some v4
def GF_X3_at (a1 : Int) (g : uZ) : Option Int :=
  cp (GF_X3_has a1 g) fun v1 =>
  ck v1 <| if v1 = 0 then
  (GJ_X3_at_1 (-1))
  else
  (rdZ (g 47) 800 a1 fun v3 =>
  GJ_X3_at_1 v3)
def GJ_X3_sizeIn_1 (v5 : Int) : Option Int :=
  some v5
def GF_X3_sizeIn (a1 : Int) (g : uZ) : Option Int :=
  cp (GF_X8_has a1 g) fun v1 =>
  ck v1 <| if v1 = 0 then
  (GJ_X3_sizeIn_1 0)
  else
  (rdZ (g 49) 101 (a1 + 1) fun v3 =>
  rdZ (g 49) 101 a1 fun v4 =>
  GJ_X3_sizeIn_1 (v3 - v4))
def GJ_X3_worthIn_1 (v4 : Int) : Option Int :=
  some v4
def GF_X3_worthIn (a1 : Int) (g : uZ) : Option Int :=
  cp (GF_X8_has a1 g) fun v1 =>
  ck v1 <| if v1 = 0 then
  (GJ_X3_worthIn_1 0)
  else
  (rdZ (g 50) 100 a1 fun v3 =>
  GJ_X3_worthIn_1 v3)
def GF_J9_abs_067f4 (a1 : Int) (g : uZ) : Option Int :=
  ck (lg_cmp (zL a1) ((0 : Int64))).toInt <| lt (if 0 ≤ (lg_cmp (zL a1) ((0 : Int64))).toInt then a1 else (-(zL a1)).toInt) fun v2 =>
  some v2
def GJ_X3_nearest_3 (w4 : Int) (v11 : Int) (v12 : Int) : Option ((Int × (Int × Int)) ⊕ Int) :=
  lt (w4 + 1) fun v13 =>
  some (Sum.inl (v11, (v12, v13)))
def GJ_X3_nearest_2 (v8 : Int) (w4 : Int) : Option ((Int × (Int × Int)) ⊕ Int) :=
  GJ_X3_nearest_3 w4 w4 v8
def GB_X3_nearest_4 (a1 : Int) (a3 : Int) (g : uZ) (w2 : Int) (w3 : Int) (w4 : Int) : Option ((Int × (Int × Int)) ⊕ Int) :=
  ck a3 <| ck w4 <| if a3 ≤ w4 then
  (some (Sum.inr w2))
  else
  (cp (GF_X3_at w4 g) fun v7 =>
  cp (GF_J9_abs_067f4 ((Int32.toInt64 (zI v7)) - (Int32.toInt64 (zI a1))).toInt g) fun v8 =>
  ck w2 <| if w2 = (-1) then
  (GJ_X3_nearest_2 v8 w4)
  else
  (ck (lg_cmp (zL v8) (zL w3)).toInt <| if 0 ≤ (lg_cmp (zL v8) (zL w3)).toInt then
  (GJ_X3_nearest_3 w4 w2 w3)
  else
  (GJ_X3_nearest_2 v8 w4)))
def GC_X3_nearest_5 (v5 : Int) : Option Int :=
  some v5
def GF_X3_nearest (a1 : Int) (a2 : Int) (a3 : Int) (g : uZ) : Option Int :=
  lt ((0 : Int64)).toInt fun v1 =>
  lp (fun z => GB_X3_nearest_4 a1 a3 g z.1 z.2.1 z.2.2) ((-1), (v1, a2)) (fun z => GC_X3_nearest_5 z)
def GJ_X3_gapBehind_2 (v10 : Int) : Option Int :=
  some v10
def GJ_X3_gapBehind_1 : Option Int :=
  GJ_X3_gapBehind_2 (-1)
def GF_X3_gapBehind (a1 : Int) (g : uZ) : Option Int :=
  cp (GF_X3_has a1 g) fun v1 =>
  ck v1 <| if v1 = 0 then
  (GJ_X3_gapBehind_1)
  else
  (cp (GF_X3_has (a1 + 1) g) fun v3 =>
  ck v3 <| if v3 = 0 then
  (GJ_X3_gapBehind_1)
  else
  (rdZ (g 48) 800 a1 fun v5 =>
  rdZ (g 48) 800 (a1 + 1) fun v6 =>
  ck v5 <| ck v6 <| if v5 = v6 then
  (rdZ (g 47) 800 (a1 + 1) fun v8 =>
  rdZ (g 47) 800 a1 fun v9 =>
  GJ_X3_gapBehind_2 (v8 - v9))
  else
  (GJ_X3_gapBehind_1)))
def GB_X3_gapCount_2 (g : uZ) (w1 : Int) (w2 : Int) : Option ((Int × Int) ⊕ Int) :=
  ck (g 44 9) <| ck w2 <| if (g 44 9) ≤ w2 then
  (some (Sum.inr w1))
  else
  (cp (GF_X3_gapBehind w2 g) fun v5 =>
  ck v5 <| lt (if v5 = (-1) then 0 else 1) fun v7 =>
  lt (w1 + v7) fun v8 =>
  lt (w2 + 1) fun v9 =>
  some (Sum.inl (v8, v9)))
def GC_X3_gapCount_3 (v3 : Int) : Option Int :=
  some v3
def GF_X3_gapCount (g : uZ) : Option Int :=
  lp (fun z => GB_X3_gapCount_2 g z.1 z.2) (0, 0) (fun z => GC_X3_gapCount_3 z)
def GB_X3_gapSum_2 (g : uZ) (w1 : Int) (w2 : Int) : Option ((Int × Int) ⊕ Int) :=
  ck (g 44 9) <| ck w2 <| if (g 44 9) ≤ w2 then
  (some (Sum.inr w1))
  else
  (cp (GF_X3_gapBehind w2 g) fun v5 =>
  cp (GF_J9_max_7cf53 0 v5 g) fun v6 =>
  lt (w1 + v6) fun v7 =>
  lt (w2 + 1) fun v8 =>
  some (Sum.inl (v7, v8)))
def GC_X3_gapSum_3 (v3 : Int) : Option Int :=
  some v3
def GF_X3_gapSum (g : uZ) : Option Int :=
  lp (fun z => GB_X3_gapSum_2 g z.1 z.2) (0, 0) (fun z => GC_X3_gapSum_3 z)
def GB_X3_longestGap_2 (g : uZ) (w1 : Int) (w2 : Int) : Option ((Int × Int) ⊕ Int) :=
  ck (g 44 9) <| ck w2 <| if (g 44 9) ≤ w2 then
  (some (Sum.inr w1))
  else
  (cp (GF_X3_gapBehind w2 g) fun v5 =>
  cp (GF_J9_max_7cf53 w1 v5 g) fun v6 =>
  lt (w2 + 1) fun v7 =>
  some (Sum.inl (v6, v7)))
def GC_X3_longestGap_3 (v3 : Int) : Option Int :=
  some v3
def GF_X3_longestGap (g : uZ) : Option Int :=
  lp (fun z => GB_X3_longestGap_2 g z.1 z.2) ((-1), 0) (fun z => GC_X3_longestGap_3 z)
def GJ_X3_shortestGap_3 (w2 : Int) (v9 : Int) : Option ((Int × Int) ⊕ Int) :=
  lt (w2 + 1) fun v10 =>
  some (Sum.inl (v9, v10))
def GJ_X3_shortestGap_2 (v5 : Int) (w2 : Int) : Option ((Int × Int) ⊕ Int) :=
  GJ_X3_shortestGap_3 w2 v5
def GB_X3_shortestGap_4 (g : uZ) (w1 : Int) (w2 : Int) : Option ((Int × Int) ⊕ Int) :=
  ck (g 44 9) <| ck w2 <| if (g 44 9) ≤ w2 then
  (some (Sum.inr w1))
  else
  (cp (GF_X3_gapBehind w2 g) fun v5 =>
  ck v5 <| if v5 = (-1) then
  (GJ_X3_shortestGap_3 w2 w1)
  else
  (ck w1 <| if w1 = (-1) then
  (GJ_X3_shortestGap_2 v5 w2)
  else
  (if w1 ≤ v5 then
  (GJ_X3_shortestGap_3 w2 w1)
  else
  (GJ_X3_shortestGap_2 v5 w2))))
def GC_X3_shortestGap_5 (v3 : Int) : Option Int :=
  some v3
def GF_X3_shortestGap (g : uZ) : Option Int :=
  lp (fun z => GB_X3_shortestGap_4 g z.1 z.2) ((-1), 0) (fun z => GC_X3_shortestGap_5 z)
def GJ_X3_jitter_2 (w2 : Int) (v13 : Int) : Option ((Int × Int) ⊕ Int) :=
  lt (w2 + 1) fun v14 =>
  some (Sum.inl (v13, v14))
def GB_X3_jitter_3 (g : uZ) (w1 : Int) (w2 : Int) : Option ((Int × Int) ⊕ Int) :=
  ck (g 44 9) <| ck w2 <| if (g 44 9) ≤ w2 then
  (some (Sum.inr w1))
  else
  (cp (GF_X3_gapBehind w2 g) fun v5 =>
  ck v5 <| if v5 = (-1) then
  (GJ_X3_jitter_2 w2 w1)
  else
  (cp (GF_X3_gapBehind (w2 + 1) g) fun v7 =>
  ck v7 <| if v7 = (-1) then
  (GJ_X3_jitter_2 w2 w1)
  else
  (cp (GF_X3_gapBehind (w2 + 1) g) fun v9 =>
  cp (GF_X3_gapBehind w2 g) fun v10 =>
  cp (GF_J9_abs_0f7a4 (v9 - v10) g) fun v11 =>
  lt (w1 + v11) fun v12 =>
  GJ_X3_jitter_2 w2 v12)))
def GC_X3_jitter_4 (v3 : Int) : Option Int :=
  some v3
def GF_X3_jitter (g : uZ) : Option Int :=
  lp (fun z => GB_X3_jitter_3 g z.1 z.2) (0, 0) (fun z => GC_X3_jitter_4 z)
def GJ_X3_shimmer_2 (w2 : Int) (v13 : Int) : Option ((Int × Int) ⊕ Int) :=
  lt (w2 + 1) fun v14 =>
  some (Sum.inl (v13, v14))
def GB_X3_shimmer_3 (g : uZ) (w1 : Int) (w2 : Int) : Option ((Int × Int) ⊕ Int) :=
  ck (g 44 9) <| ck w2 <| if (g 44 9) ≤ w2 then
  (some (Sum.inr w1))
  else
  (cp (GF_X3_gapBehind w2 g) fun v5 =>
  ck v5 <| if v5 = (-1) then
  (GJ_X3_shimmer_2 w2 w1)
  else
  (cp (GF_X3_at (w2 + 1) g) fun v7 =>
  cp (GF_X7_at v7 g) fun v8 =>
  cp (GF_X3_at w2 g) fun v9 =>
  cp (GF_X7_at v9 g) fun v10 =>
  cp (GF_J9_abs_0f7a4 (v8 - v10) g) fun v11 =>
  lt (w1 + v11) fun v12 =>
  GJ_X3_shimmer_2 w2 v12))
def GC_X3_shimmer_4 (v3 : Int) : Option Int :=
  some v3
def GF_X3_shimmer (g : uZ) : Option Int :=
  lp (fun z => GB_X3_shimmer_3 g z.1 z.2) (0, 0) (fun z => GC_X3_shimmer_4 z)
def GB_X3_roughness_2 (a1 : Int) (v1 : Int) (g : uZ) (w2 : Int) (w3 : Int) : Option ((Int × Int) ⊕ Int) :=
  ck v1 <| ck w3 <| if v1 ≤ w3 then
  (some (Sum.inr w2))
  else
  (cp (GF_X3_at a1 g) fun v6 =>
  cp (GF_X7_at (v6 + w3) g) fun v7 =>
  cp (GF_X3_at (a1 + 1) g) fun v8 =>
  cp (GF_X7_at (v8 + w3) g) fun v9 =>
  cp (GF_J9_abs_0f7a4 (v7 - v9) g) fun v10 =>
  lt (w2 + v10) fun v11 =>
  lt (w3 + 1) fun v12 =>
  some (Sum.inl (v11, v12)))
def GC_X3_roughness_3 (v1 : Int) (v4 : Int) : Option Int :=
  ck v1 <| lt (if v1 = (-1) then (-1) else v4) fun v14 =>
  some v14
def GF_X3_roughness (a1 : Int) (g : uZ) : Option Int :=
  cp (GF_X3_gapBehind a1 g) fun v1 =>
  lp (fun z => GB_X3_roughness_2 a1 v1 g z.1 z.2) (0, 0) (fun z => GC_X3_roughness_3 v1 z)
def GJ_X3_grasp_1 (v8 : Int) : Option Int :=
  some v8
def GF_X3_grasp (a1 : Int) (g : uZ) : Option Int :=
  cp (GF_X3_gapBehind a1 g) fun v1 =>
  ck v1 <| if v1 = (-1) then
  (cp (GF_X3_gapBehind (a1 - 1) g) fun v3 =>
  ck v3 <| if v3 = (-1) then
  (cp (GF_X3_at a1 g) fun v5 =>
  cp (GF_X8_lagAtSample v5 g) fun v6 =>
  GJ_X3_grasp_1 v6)
  else
  (cp (GF_X3_gapBehind (a1 - 1) g) fun v7 =>
  GJ_X3_grasp_1 v7))
  else
  (cp (GF_X3_gapBehind a1 g) fun v9 =>
  some v9)
def GJ_X3_renewed_2 (a1 : Int) (a2 : Int) (v15 : Int) (w9 : Int) (w10 : Int) (g : uZ) (v22 : Int) : Option ((Int × (Int × Int)) ⊕ Int) :=
  cp (GF_X11_quotient (v15 * a1) a2 g) fun v23 =>
  cp (GF_J9_max_7cf53 1 v23 g) fun v24 =>
  lt (w9 + v24) fun v25 =>
  lt (w10 + 1) fun v26 =>
  some (Sum.inl (v22, (v25, v26)))
def GB_X3_renewed_3 (a1 : Int) (a2 : Int) (a3 : Int) (v4 : Int) (v5 : Int) (v6 : Int) (g : uZ) (w8 : Int) (w9 : Int) (w10 : Int) : Option ((Int × (Int × Int)) ⊕ Int) :=
  ck w10 <| if 800 ≤ w10 then
  (some (Sum.inr w8))
  else
  (ck v6 <| ck w9 <| if v6 ≤ w9 then
  (some (Sum.inr w8))
  else
  (cp (GF_X3_nearest w9 v4 v5 g) fun v14 =>
  cp (GF_X3_grasp v14 g) fun v15 =>
  cp (GF_J9_abs_0f7a4 (w9 - a3) g) fun v16 =>
  ck v15 <| ck v16 <| if v15 ≤ v16 then
  (GJ_X3_renewed_2 a1 a2 v15 w9 w10 g w8)
  else
  (cp (GF_X3_at v14 g) fun v18 =>
  cp (GF_X7_at ((v18 + a3) - w9) g) fun v19 =>
  cp (GF_X11_quotient (v19 * (v15 - v16)) v15 g) fun v20 =>
  lt (w8 + v20) fun v21 =>
  GJ_X3_renewed_2 a1 a2 v15 w9 w10 g v21)))
def GC_X3_renewed_4 (v11 : Int) : Option Int :=
  some v11
def GF_X3_renewed (a1 : Int) (a2 : Int) (a3 : Int) (g : uZ) : Option Int :=
  cp (GF_X8_ofSample a3 g) fun v1 =>
  cp (GF_X8_isVoiced v1 g) fun v2 =>
  ck v2 <| if v2 = 0 then
  (cp (GF_X7_at a3 g) fun v27 =>
  some v27)
  else
  (rdZ (g 49) 101 v1 fun v4 =>
  rdZ (g 49) 101 (v1 + 1) fun v5 =>
  cp (GF_X8_to v1 g) fun v6 =>
  cp (GF_X3_at v4 g) fun v7 =>
  lp (fun z => GB_X3_renewed_3 a1 a2 a3 v4 v5 v6 g z.1 z.2.1 z.2.2) (0, (v7, 0)) (fun z => GC_X3_renewed_4 z))
def GF_X10_size (g : uZ) : Option Int :=
  some (g 51 5)
def GF_X10_hasRoom (g : uZ) : Option Int :=
  ck (g 51 5) <| lt (if 12 ≤ (g 51 5) then 0 else 1) fun v2 =>
  bzZ v2 <|
  some v2
def GJ_X10_add_1 (g5 : uZ) : Option uZ :=
  some g5
def GF_X10_add (a1 : Int) (g : uZ) : Option uZ :=
  cp (GF_X10_hasRoom g) fun v1 =>
  ck v1 <| if v1 = 0 then
  (GJ_X10_add_1 g)
  else
  (wrZ g 52 12 (g 51 5) a1 fun g3 =>
  pfZ g3 51 5 ((g3 51 5) + 1) fun g4 =>
  GJ_X10_add_1 g4)
def GF_X10_clear (g : uZ) : Option uZ :=
  pfZ g 51 5 0 fun g1 =>
  some g1
def GF_X10_price (g : uZ) : Option Int :=
  rdZ (g 54) 1313 0 fun v1 =>
  some v1
def GB_X10_pairs_2 (g : uZ) (w1 : Int) (w2 : Int) : Option ((Int × Int) ⊕ Int) :=
  ck (g 51 5) <| ck w2 <| if (g 51 5) ≤ w2 then
  (some (Sum.inr w1))
  else
  (rdZ (g 53) 12 w2 fun v5 =>
  ck v5 <| lt (if v5 = (-1) then 0 else 1) fun v7 =>
  lt (w1 + v7) fun v8 =>
  lt (w2 + 1) fun v9 =>
  some (Sum.inl (v8, v9)))
def GC_X10_pairs_3 (v3 : Int) : Option Int :=
  some v3
def GF_X10_pairs (g : uZ) : Option Int :=
  lp (fun z => GB_X10_pairs_2 g z.1 z.2) (0, 0) (fun z => GC_X10_pairs_3 z)
def GJ_X10_pairOf_2 (v4 : Int) : Option Int :=
  some v4
def GJ_X10_pairOf_1 : Option Int :=
  GJ_X10_pairOf_2 (-1)
def GF_X10_pairOf (a1 : Int) (g : uZ) : Option Int :=
  ck a1 <| if a1 < 0 then
  (GJ_X10_pairOf_1)
  else
  (ck (g 51 5) <| if a1 < (g 51 5) then
  (rdZ (g 53) 12 a1 fun v3 =>
  GJ_X10_pairOf_2 v3)
  else
  (GJ_X10_pairOf_1))
def GF_X10_pairPrice (a1 : Int) (a2 : Int) (g : uZ) : Option Int :=
  rdZ (g 52) 12 a1 fun v1 =>
  cp (GF_X4_lagOf a2 g) fun v2 =>
  cp (GF_J9_abs_0f7a4 (v1 - v2) g) fun v3 =>
  some (10 * v3)
def GJ_X10_findLeast_3 (w5 : Int) (w9 : Int) (g10 : uZ) (v27 : Int) : Option ((Int × uZ) ⊕ uZ) :=
  wrZ g10 54 1313 ((w5 * 101) + w9) v27 fun g28 =>
  lt (w9 + (-1)) fun v29 =>
  some (Sum.inl (v29, g28))
def GJ_X10_findLeast_4 (v3 : Int) (w5 : Int) (w9 : Int) (g10 : uZ) (v21 : Int) : Option ((Int × uZ) ⊕ uZ) :=
  ck (g10 51 5) <| ck w5 <| if (g10 51 5) ≤ w5 then
  (GJ_X10_findLeast_3 w5 w9 g10 v21)
  else
  (ck v3 <| ck w9 <| if v3 ≤ w9 then
  (GJ_X10_findLeast_3 w5 w9 g10 v21)
  else
  (cp (GF_X10_pairPrice w5 w9 g10) fun v24 =>
  rdZ (g10 54) 1313 ((((w5 + 1) * 101) + w9) + 1) fun v25 =>
  cp (GF_J9_min_7cf53 v21 (v24 + v25) g10) fun v26 =>
  GJ_X10_findLeast_3 w5 w9 g10 v26))
def GJ_X10_findLeast_5 (v1 : Int) (v3 : Int) (w5 : Int) (w9 : Int) (g10 : uZ) (v17 : Int) : Option ((Int × uZ) ⊕ uZ) :=
  ck v3 <| ck w9 <| if v3 ≤ w9 then
  (GJ_X10_findLeast_4 v3 w5 w9 g10 v17)
  else
  (rdZ (g10 54) 1313 (((w5 * 101) + w9) + 1) fun v19 =>
  cp (GF_J9_min_7cf53 v17 (v1 + v19) g10) fun v20 =>
  GJ_X10_findLeast_4 v3 w5 w9 g10 v20)
def GB_X10_findLeast_6 (v1 : Int) (v3 : Int) (w5 : Int) (w9 : Int) (g10 : uZ) : Option ((Int × uZ) ⊕ uZ) :=
  ck w9 <| if w9 < 0 then
  (some (Sum.inr g10))
  else
  (lt (v1 * ((((g10 51 5) - w5) + v3) - w9)) fun v13 =>
  ck (g10 51 5) <| ck w5 <| if (g10 51 5) ≤ w5 then
  (GJ_X10_findLeast_5 v1 v3 w5 w9 g10 v13)
  else
  (rdZ (g10 54) 1313 (((w5 + 1) * 101) + w9) fun v15 =>
  cp (GF_J9_min_7cf53 v13 (v1 + v15) g10) fun v16 =>
  GJ_X10_findLeast_5 v1 v3 w5 w9 g10 v16))
def GC_X10_findLeast_7 (w5 : Int) (g11 : uZ) : Option ((Int × uZ) ⊕ uZ) :=
  lt (w5 + (-1)) fun v30 =>
  some (Sum.inl (v30, g11))
def GB_X10_findLeast_8 (v1 : Int) (v3 : Int) (w5 : Int) (g6 : uZ) : Option ((Int × uZ) ⊕ uZ) :=
  ck w5 <| if w5 < 0 then
  (some (Sum.inr g6))
  else
  (lp (fun z => GB_X10_findLeast_6 v1 v3 w5 z.1 z.2) (v3, g6) (fun z => GC_X10_findLeast_7 w5 z))
def GC_X10_findLeast_9 (g7 : uZ) : Option uZ :=
  some g7
def GF_X10_findLeast (g : uZ) : Option uZ :=
  cp (GF_X0_of 15 g) fun v1 =>
  cp (GF_X4_size g) fun v2 =>
  cp (GF_J9_min_7cf53 100 v2 g) fun v3 =>
  lt (g 51 5) fun v4 =>
  lp (fun z => GB_X10_findLeast_8 v1 v3 z.1 z.2) (v4, g) (fun z => GC_X10_findLeast_9 z)
def GB_X10_firstPair_2 (a1 : Int) (a2 : Int) (v1 : Int) (v3 : Int) (g : uZ) (w4 : Int) : Option (Int ⊕ (Unit ⊕ Int)) :=
  ck v3 <| ck w4 <| if v3 ≤ w4 then
  (some (Sum.inr (Sum.inl ())))
  else
  (cp (GF_X10_pairPrice a1 w4 g) fun v6 =>
  rdZ (g 54) 1313 ((((a1 + 1) * 101) + w4) + 1) fun v7 =>
  lt (((v1 * (w4 - a2)) + v6) + v7) fun v8 =>
  rdZ (g 54) 1313 ((a1 * 101) + a2) fun v9 =>
  ck v8 <| ck v9 <| if v8 = v9 then
  (some (Sum.inr (Sum.inr w4)))
  else
  (lt (w4 + 1) fun v11 =>
  some (Sum.inl v11)))
def GC_X10_firstPair_3 : Option Int :=
  some (-1)
def GF_X10_firstPair (a1 : Int) (a2 : Int) (g : uZ) : Option Int :=
  cp (GF_X0_of 15 g) fun v1 =>
  cp (GF_X4_size g) fun v2 =>
  cp (GF_J9_min_7cf53 100 v2 g) fun v3 =>
  lp (fun z => GB_X10_firstPair_2 a1 a2 v1 v3 g z) a2 (fun z => ex2 (fun x => GC_X10_firstPair_3) (fun q => some q) z)
def GJ_X10_findPairs_2 (w3 : Int) (g8 : uZ) (v12 : Int) : Option ((Int × (Int × uZ)) ⊕ uZ) :=
  lt (w3 + 1) fun v13 =>
  some (Sum.inl (v12, (v13, g8)))
def GB_X10_findPairs_3 (w2 : Int) (w3 : Int) (g4 : uZ) : Option ((Int × (Int × uZ)) ⊕ uZ) :=
  ck (g4 51 5) <| ck w3 <| if (g4 51 5) ≤ w3 then
  (some (Sum.inr g4))
  else
  (cp (GF_X10_firstPair w3 w2 g4) fun v7 =>
  wrZ g4 53 12 w3 v7 fun g8 =>
  rdZ (g8 53) 12 w3 fun v9 =>
  ck v9 <| if v9 = (-1) then
  (GJ_X10_findPairs_2 w3 g8 w2)
  else
  (rdZ (g8 53) 12 w3 fun v11 =>
  GJ_X10_findPairs_2 w3 g8 (v11 + 1)))
def GC_X10_findPairs_4 (g5 : uZ) : Option uZ :=
  some g5
def GF_X10_findPairs (g : uZ) : Option uZ :=
  cp (GF_X10_findLeast g) fun g1 =>
  lp (fun z => GB_X10_findPairs_3 z.1 z.2.1 z.2.2) (0, (0, g1)) (fun z => GC_X10_findPairs_4 z)
def GF_X11_feed (a1 : Int) (a2 : Int) (a3 : Int) (a4 : Int) (a5 : Int) (g : uZ) : Option (Int × uZ) :=
  cp (GF_X7_tapeSize g) fun v1 =>
  ck (v1 + 20) <| if (v1 + 20) ≤ 400 then
  (cp (GF_X7_tapeNumber a1 g) fun g3 =>
  cp (GF_X7_tapeNumber a2 g3) fun g4 =>
  cp (GF_X7_tapeNumber a3 g4) fun g5 =>
  cp (GF_X7_tapeNumber a4 g5) fun g6 =>
  cp (GF_X7_tapeNumber a5 g6) fun g7 =>
  cp (GF_X7_tapeSize g7) fun v8 =>
  some (v8, g7))
  else
  (some ((-1), g))
def GF_X11_forgetAnswers (g : uZ) : Option uZ :=
  pfZ g 0 10 0 fun g1 =>
  pfZ g1 0 11 0 fun g2 =>
  pfZ g2 0 12 0 fun g3 =>
  some g3
def GF_X11_changedFrom (a1 : Int) (a2 : Int) (g : uZ) : Option (Int × uZ) :=
  cp (GF_X2_forgetThose a1 a2 g) fun g1 =>
  cp (GF_X11_forgetAnswers g1) fun g2 =>
  cp (GF_X7_size g2) fun v3 =>
  some (v3, g2)
def GJ_X11_samples_1 (g : uZ) : Option (Int × uZ) :=
  some ((-1000), g)
def GF_X11_samples (a1 : Int) (g : uZ) : Option (Int × uZ) :=
  ck a1 <| if a1 < 0 then
  (GJ_X11_samples_1 g)
  else
  (cp (GF_X7_tapeSize g) fun v2 =>
  ck v2 <| if v2 < a1 then
  (GJ_X11_samples_1 g)
  else
  (cp (GF_X7_hasRoom a1 g) fun v4 =>
  ck v4 <| if v4 = 0 then
  (GJ_X11_samples_1 g)
  else
  (cp (GF_X7_size g) fun v6 =>
  cp (GF_X7_appendFromTape a1 g) fun g7 =>
  cp (GF_X7_size g7) fun v8 =>
  clZ (GF_X11_changedFrom v6 v8 g7) fun v10 g9 =>
  some (v10, g9))))
def GJ_X11_isHeight_2 (v3 : Int) : Option Int :=
  bzZ v3 <|
  some v3
def GJ_X11_isHeight_1 : Option Int :=
  GJ_X11_isHeight_2 0
def GF_X11_isHeight (a1 : Int) (g : uZ) : Option Int :=
  ck a1 <| if a1 < 0 then
  (GJ_X11_isHeight_1)
  else
  (if 127 < a1 then
  (GJ_X11_isHeight_1)
  else
  (GJ_X11_isHeight_2 1))
def GB_X11_cycles_3 (a1 : Int) (a2 : Int) (w14 : Int) (g15 : uZ) : Option ((Int × uZ) ⊕ uZ) :=
  ck a1 <| ck w14 <| if a1 ≤ w14 then
  (some (Sum.inr g15))
  else
  (cp (GF_X11_quotient ((2 * a2) * w14) a1 g15) fun v18 =>
  cp (GF_X7_append (a2 - v18) g15) fun g19 =>
  lt (w14 + 1) fun v20 =>
  some (Sum.inl (v20, g19)))
def GC_X11_cycles_4 (w10 : Int) (g16 : uZ) : Option ((Int × uZ) ⊕ uZ) :=
  lt (w10 + 1) fun v21 =>
  some (Sum.inl (v21, g16))
def GB_X11_cycles_5 (a1 : Int) (a2 : Int) (a3 : Int) (w10 : Int) (g11 : uZ) : Option ((Int × uZ) ⊕ uZ) :=
  ck a3 <| ck w10 <| if a3 ≤ w10 then
  (some (Sum.inr g11))
  else
  (lp (fun z => GB_X11_cycles_3 a1 a2 z.1 z.2) (0, g11) (fun z => GC_X11_cycles_4 w10 z))
def GC_X11_cycles_6 (v9 : Int) (g12 : uZ) : Option (Int × uZ) :=
  cp (GF_X7_size g12) fun v22 =>
  clZ (GF_X11_changedFrom v9 v22 g12) fun v24 g23 =>
  some (v24, g23)
def GJ_X11_cycles_7 (g : uZ) : Option (Int × uZ) :=
  some ((-1000), g)
def GF_X11_cycles (a1 : Int) (a2 : Int) (a3 : Int) (g : uZ) : Option (Int × uZ) :=
  ck a1 <| if a1 < 2 then
  (GJ_X11_cycles_7 g)
  else
  (if 48 < a1 then
  (GJ_X11_cycles_7 g)
  else
  (cp (GF_X11_isHeight a2 g) fun v3 =>
  ck v3 <| if v3 = 0 then
  (GJ_X11_cycles_7 g)
  else
  (ck a3 <| if a3 < 1 then
  (GJ_X11_cycles_7 g)
  else
  (if 50 < a3 then
  (GJ_X11_cycles_7 g)
  else
  (cp (GF_X7_hasRoom (a1 * a3) g) fun v7 =>
  ck v7 <| if v7 = 0 then
  (GJ_X11_cycles_7 g)
  else
  (cp (GF_X7_size g) fun v9 =>
  lp (fun z => GB_X11_cycles_5 a1 a2 a3 z.1 z.2) (0, g) (fun z => GC_X11_cycles_6 v9 z)))))))
def GB_X11_noise_2 (a2 : Int) (a3 : Int) (w8 : Int) (w9 : Int) (g10 : uZ) : Option ((Int × (Int × uZ)) ⊕ uZ) :=
  ck a2 <| ck w9 <| if a2 ≤ w9 then
  (some (Sum.inr g10))
  else
  (lt ((w8 * 1103515245) + 12345) fun v13 =>
  rmdZ (((((zI v13).toUInt32) >>> ((Int32.toUInt32 ((16 : Int32))) &&& (Int32.toUInt32 ((31 : Int32))))).toInt32) &&& ((32767 : Int32))).toInt ((2 * a3) + 1) fun v14 =>
  cp (GF_X7_append (v14 - a3) g10) fun g15 =>
  lt (w9 + 1) fun v16 =>
  some (Sum.inl (v13, (v16, g15))))
def GC_X11_noise_3 (v7 : Int) (g11 : uZ) : Option (Int × uZ) :=
  cp (GF_X7_size g11) fun v17 =>
  clZ (GF_X11_changedFrom v7 v17 g11) fun v19 g18 =>
  some (v19, g18)
def GJ_X11_noise_4 (g : uZ) : Option (Int × uZ) :=
  some ((-1000), g)
def GF_X11_noise (a1 : Int) (a2 : Int) (a3 : Int) (g : uZ) : Option (Int × uZ) :=
  ck a2 <| if a2 < 1 then
  (GJ_X11_noise_4 g)
  else
  (if 400 < a2 then
  (GJ_X11_noise_4 g)
  else
  (cp (GF_X11_isHeight a3 g) fun v3 =>
  ck v3 <| if v3 = 0 then
  (GJ_X11_noise_4 g)
  else
  (cp (GF_X7_hasRoom a2 g) fun v5 =>
  ck v5 <| if v5 = 0 then
  (GJ_X11_noise_4 g)
  else
  (cp (GF_X7_size g) fun v7 =>
  lp (fun z => GB_X11_noise_2 a2 a3 z.1 z.2.1 z.2.2) (a1, (0, g)) (fun z => GC_X11_noise_3 v7 z)))))
def GJ_X11_poke_1 (g : uZ) : Option (Int × uZ) :=
  some ((-1000), g)
def GF_X11_poke (a1 : Int) (a2 : Int) (g : uZ) : Option (Int × uZ) :=
  cp (GF_X7_has a1 g) fun v1 =>
  ck v1 <| if v1 = 0 then
  (GJ_X11_poke_1 g)
  else
  (ck a2 <| if a2 < (-128) then
  (GJ_X11_poke_1 g)
  else
  (if a2 ≤ 127 then
  (cp (GF_X7_at a1 g) fun v5 =>
  cp (GF_X7_put a1 a2 g) fun g6 =>
  clZ (GF_X11_changedFrom a1 (a1 + 1) g6) fun v8 g7 =>
  some (v5, g7))
  else
  (GJ_X11_poke_1 g)))
def GJ_X11_cut_1 (g : uZ) : Option (Int × uZ) :=
  some ((-1000), g)
def GF_X11_cut (a1 : Int) (g : uZ) : Option (Int × uZ) :=
  ck a1 <| if a1 < 0 then
  (GJ_X11_cut_1 g)
  else
  (cp (GF_X7_size g) fun v2 =>
  ck v2 <| if a1 ≤ v2 then
  (cp (GF_X7_size g) fun v4 =>
  cp (GF_X7_drop a1 g) fun g5 =>
  cp (GF_X7_size g5) fun v6 =>
  clZ (GF_X11_changedFrom v6 v4 g5) fun v8 g7 =>
  some (v8, g7))
  else
  (GJ_X11_cut_1 g))
def GJ_X11_bound_2 (v3 : Int) (g9 : uZ) : Option (Int × uZ) :=
  cp (GF_X11_forgetAnswers g9) fun g10 =>
  some (v3, g10)
def GJ_X11_bound_1 (v3 : Int) (g4 : uZ) : Option (Int × uZ) :=
  cp (GF_X2_forgetAll g4) fun g8 =>
  GJ_X11_bound_2 v3 g8
def GF_X11_bound (a1 : Int) (a2 : Int) (g : uZ) : Option (Int × uZ) :=
  cp (GF_X0_allows a1 a2 g) fun v1 =>
  ck v1 <| if v1 = 0 then
  (some ((-1000), g))
  else
  (cp (GF_X0_of a1 g) fun v3 =>
  cp (GF_X0_put a1 a2 g) fun g4 =>
  ck a1 <| if a1 = 2 then
  (GJ_X11_bound_1 v3 g4)
  else
  (if a1 = 3 then
  (GJ_X11_bound_1 v3 g4)
  else
  (if a1 = 5 then
  (GJ_X11_bound_1 v3 g4)
  else
  (GJ_X11_bound_2 v3 g4))))
def GF_X11_findPath (g : uZ) : Option uZ :=
  ck (g 0 10) <| if (g 0 10) = 0 then
  (cp (GF_X2_find g) fun g2 =>
  cp (GF_X1_find g2) fun g3 =>
  cp (GF_X5_find g3) fun g4 =>
  cp (GF_X8_find g4) fun g5 =>
  cp (GF_X4_find g5) fun g6 =>
  pfZ g6 0 10 1 fun g7 =>
  some g7)
  else
  (some g)
def GF_X11_single (g : uZ) : Option (Int × uZ) :=
  cp (GF_X11_findPath g) fun g1 =>
  clZ (GF_X5_leastWithoutDoubles g1) fun v3 g2 =>
  some (v3, g2)
def GF_X11_doubled (g : uZ) : Option (Int × uZ) :=
  cp (GF_X11_findPath g) fun g1 =>
  cp (GF_X5_doublesChosen g1) fun v2 =>
  some (v2, g1)
def GF_X11_spans (g : uZ) : Option (Int × uZ) :=
  cp (GF_X11_findPath g) fun g1 =>
  cp (GF_X8_size g1) fun v2 =>
  some (v2, g1)
def GF_X11_notes (g : uZ) : Option (Int × uZ) :=
  cp (GF_X11_findPath g) fun g1 =>
  cp (GF_X4_size g1) fun v2 =>
  some (v2, g1)
def GF_X11_lags (g : uZ) : Option (Int × uZ) :=
  cp (GF_X11_findPath g) fun g1 =>
  cp (GF_X4_unlikeLags g1) fun v2 =>
  some (v2, g1)
def GJ_X11_tune_1 (g : uZ) : Option (Int × uZ) :=
  some ((-1000), g)
def GF_X11_tune (a1 : Int) (g : uZ) : Option (Int × uZ) :=
  ck a1 <| if a1 < 1 then
  (GJ_X11_tune_1 g)
  else
  (if 48 < a1 then
  (GJ_X11_tune_1 g)
  else
  (cp (GF_X10_hasRoom g) fun v3 =>
  ck v3 <| if v3 = 0 then
  (GJ_X11_tune_1 g)
  else
  (cp (GF_X10_add a1 g) fun g5 =>
  cp (GF_X10_size g5) fun v6 =>
  some (v6, g5))))
def GF_X11_hush (g : uZ) : Option (Int × uZ) :=
  cp (GF_X10_size g) fun v1 =>
  cp (GF_X10_clear g) fun g2 =>
  some (v1, g2)
def GJ_X11_findMarks_1 (g5 : uZ) : Option uZ :=
  some g5
def GF_X11_findMarks (g : uZ) : Option uZ :=
  cp (GF_X11_findPath g) fun g1 =>
  ck (g1 0 12) <| if (g1 0 12) = 0 then
  (cp (GF_X3_find g1) fun g3 =>
  pfZ g3 0 12 1 fun g4 =>
  GJ_X11_findMarks_1 g4)
  else
  (GJ_X11_findMarks_1 g1)
def GF_X11_marks (g : uZ) : Option (Int × uZ) :=
  cp (GF_X11_findMarks g) fun g1 =>
  cp (GF_X3_size g1) fun v2 =>
  some (v2, g1)
def GJ_X11_near_1 (g1 : uZ) (v6 : Int) : Option (Int × uZ) :=
  some (v6, g1)
def GF_X11_near (a1 : Int) (g : uZ) : Option (Int × uZ) :=
  cp (GF_X11_findMarks g) fun g1 =>
  cp (GF_X3_size g1) fun v2 =>
  cp (GF_X3_nearest a1 0 v2 g1) fun v3 =>
  ck v3 <| if v3 = (-1) then
  (GJ_X11_near_1 g1 (-1))
  else
  (cp (GF_X3_at v3 g1) fun v5 =>
  GJ_X11_near_1 g1 v5)
def GB_X11_behind_2 (a1 : Int) (g1 : uZ) (w2 : Int) : Option (Int ⊕ (Unit ⊕ (Int × uZ))) :=
  cp (GF_X3_size g1) fun v3 =>
  ck v3 <| ck w2 <| if v3 ≤ w2 then
  (some (Sum.inr (Sum.inl ())))
  else
  (cp (GF_X3_at w2 g1) fun v5 =>
  ck v5 <| ck a1 <| if v5 ≤ a1 then
  (lt (w2 + 1) fun v7 =>
  some (Sum.inl v7))
  else
  (cp (GF_X3_at w2 g1) fun v8 =>
  some (Sum.inr (Sum.inr (v8, g1)))))
def GC_X11_behind_3 (g1 : uZ) : Option (Int × uZ) :=
  some ((-1), g1)
def GF_X11_behind (a1 : Int) (g : uZ) : Option (Int × uZ) :=
  cp (GF_X11_findMarks g) fun g1 =>
  lp (fun z => GB_X11_behind_2 a1 g1 z) 0 (fun z => ex2 (fun x => GC_X11_behind_3 g1) (fun q => some q) z)
def GJ_X11_roughest_2 (w4 : Int) (v10 : Int) (v11 : Int) : Option ((Int × (Int × Int)) ⊕ Int) :=
  lt (w4 + 1) fun v12 =>
  some (Sum.inl (v10, (v11, v12)))
def GB_X11_roughest_3 (g1 : uZ) (w2 : Int) (w3 : Int) (w4 : Int) : Option ((Int × (Int × Int)) ⊕ Int) :=
  cp (GF_X3_size g1) fun v6 =>
  ck v6 <| ck w4 <| if v6 ≤ w4 then
  (some (Sum.inr w2))
  else
  (cp (GF_X3_roughness w4 g1) fun v8 =>
  ck v8 <| ck w3 <| if v8 ≤ w3 then
  (GJ_X11_roughest_2 w4 w2 w3)
  else
  (GJ_X11_roughest_2 w4 w4 v8))
def GC_X11_roughest_4 (g1 : uZ) (v5 : Int) : Option (Int × uZ) :=
  some (v5, g1)
def GF_X11_roughest (g : uZ) : Option (Int × uZ) :=
  cp (GF_X11_findMarks g) fun g1 =>
  lp (fun z => GB_X11_roughest_3 g1 z.1 z.2.1 z.2.2) ((-1), ((-1), 0)) (fun z => GC_X11_roughest_4 g1 z)
def GJ_X11_isLag_2 (v4 : Int) : Option Int :=
  bzZ v4 <|
  some v4
def GJ_X11_isLag_1 : Option Int :=
  GJ_X11_isLag_2 0
def GF_X11_isLag (a1 : Int) (g : uZ) : Option Int :=
  ck a1 <| if a1 < 0 then
  (GJ_X11_isLag_1)
  else
  (cp (GF_X0_of 5 g) fun v2 =>
  ck (v2 + 1) <| if (v2 + 1) < a1 then
  (GJ_X11_isLag_1)
  else
  (GJ_X11_isLag_2 1))
def GJ_X11_findRanking_1 (g5 : uZ) : Option uZ :=
  some g5
def GF_X11_findRanking (g : uZ) : Option uZ :=
  cp (GF_X11_findPath g) fun g1 =>
  ck (g1 0 11) <| if (g1 0 11) = 0 then
  (cp (GF_X6_find g1) fun g3 =>
  pfZ g3 0 11 1 fun g4 =>
  GJ_X11_findRanking_1 g4)
  else
  (GJ_X11_findRanking_1 g1)
def GB_X11_commonPart_2 (w1 : Int) (w2 : Int) (w3 : Int) : Option ((Int × (Int × Int)) ⊕ Int) :=
  ck w3 <| if 64 ≤ w3 then
  (some (Sum.inr w1))
  else
  (ck w2 <| if w2 = 0 then
  (some (Sum.inr w1))
  else
  (rmdZ w1 w2 fun v7 =>
  lt (w3 + 1) fun v8 =>
  some (Sum.inl (w2, (v7, v8)))))
def GC_X11_commonPart_3 (v4 : Int) : Option Int :=
  some v4
def GF_X11_commonPart (a1 : Int) (a2 : Int) (g : uZ) : Option Int :=
  lp (fun z => GB_X11_commonPart_2 z.1 z.2.1 z.2.2) (a1, (a2, 0)) (fun z => GC_X11_commonPart_3 z)
def GF_X11_lowest (a1 : Int) (a2 : Int) (a3 : Int) (g : uZ) : Option Int :=
  cp (GF_J9_abs_0f7a4 a1 g) fun v1 =>
  cp (GF_J9_abs_0f7a4 a2 g) fun v2 =>
  cp (GF_X11_commonPart v1 v2 g) fun v3 =>
  ck a3 <| lt (if a3 = 0 then a1 else a2) fun v5 =>
  cp (GF_X11_quotient v5 v3 g) fun v6 =>
  some v6
def GF_X12_thrown (g : uZ) : Option Int :=
  some (g 55 9)
def GJ_X12_right_1 (g4 : uZ) : Option (Int × uZ) :=
  ck (g4 55 9) <| lt (if (g4 55 9) = 0 then 1 else 0) fun v6 =>
  bzZ v6 <|
  some (v6, g4)
def GF_X12_right (a1 : Int) (a2 : Int) (g : uZ) : Option (Int × uZ) :=
  ck (g 55 9) <| if (g 55 9) = 0 then
  (ck a1 <| if a1 = 0 then
  (pfZ g 55 9 a2 fun g3 =>
  GJ_X12_right_1 g3)
  else
  (GJ_X12_right_1 g))
  else
  (GJ_X12_right_1 g)
def GJ_X12_isIn_2 (v3 : Int) : Option Int :=
  bzZ v3 <|
  some v3
def GJ_X12_isIn_1 : Option Int :=
  GJ_X12_isIn_2 0
def GF_X12_isIn (a1 : Int) (a2 : Int) (a3 : Int) (g : uZ) : Option Int :=
  ck a1 <| ck a2 <| if a1 < a2 then
  (GJ_X12_isIn_1)
  else
  (ck a3 <| if a3 < a1 then
  (GJ_X12_isIn_1)
  else
  (GJ_X12_isIn_2 1))
def GF_X12_apart (a1 : Int) (a2 : Int) (g : uZ) : Option Int :=
  ck a1 <| ck a2 <| lt (if a1 ≤ a2 then (a2 - a1) else (a1 - a2)) fun v2 =>
  some v2
def GB_X12_divisor_2 (w1 : Int) (w2 : Int) : Option ((Int × Int) ⊕ Int) :=
  ck w2 <| if w2 = 0 then
  (some (Sum.inr w1))
  else
  (rmdZ w1 w2 fun v5 =>
  some (Sum.inl (w2, v5)))
def GC_X12_divisor_3 (v3 : Int) : Option Int :=
  ck v3 <| lt (if 0 ≤ v3 then v3 else (-v3)) fun v7 =>
  some v7
def GF_X12_divisor (a1 : Int) (a2 : Int) (g : uZ) : Option Int :=
  lp (fun z => GB_X12_divisor_2 z.1 z.2) (a1, a2) (fun z => GC_X12_divisor_3 z)
def GJ_X12_down_2 (v5 : Int) : Option Int :=
  some v5
def GJ_X12_down_1 (v1 : Int) : Option Int :=
  GJ_X12_down_2 v1
def GF_X12_down (a1 : Int) (a2 : Int) (g : uZ) : Option Int :=
  dvZ a1 a2 fun v1 =>
  rmdZ a1 a2 fun v2 =>
  ck v2 <| if v2 = 0 then
  (GJ_X12_down_1 v1)
  else
  (ck a1 <| if 0 ≤ a1 then
  (GJ_X12_down_1 v1)
  else
  (GJ_X12_down_2 (v1 - 1)))
def GB_X12_comes_2 (a1 : Int) (w1 : Int) (g2 : uZ) : Option ((Int × uZ) ⊕ uZ) :=
  ck w1 <| if w1 < 0 then
  (some (Sum.inr g2))
  else
  (lt (((zI a1) >>> ((zI w1) &&& ((31 : Int32)))) &&& ((255 : Int32))).toInt fun v5 =>
  ck v5 <| lt (if v5 ≤ 127 then v5 else (v5 - 256)) fun v7 =>
  wrZ g2 60 400 (g2 55 7) v7 fun g8 =>
  pfZ g8 55 7 ((g8 55 7) + 1) fun g9 =>
  lt (w1 + (-8)) fun v10 =>
  some (Sum.inl (v10, g9)))
def GC_X12_comes_3 (g3 : uZ) : Option uZ :=
  some g3
def GF_X12_comes (a1 : Int) (g : uZ) : Option uZ :=
  lp (fun z => GB_X12_comes_2 a1 z.1 z.2) (24, g) (fun z => GC_X12_comes_3 z)
def GF_X12_feed (a1 : Int) (a2 : Int) (a3 : Int) (a4 : Int) (a5 : Int) (g : uZ) : Option (Int × uZ) :=
  pfZ g 55 9 0 fun g1 =>
  ck ((g1 55 7) + 20) <| if ((g1 55 7) + 20) ≤ 400 then
  (cp (GF_X12_comes a1 g1) fun g3 =>
  cp (GF_X12_comes a2 g3) fun g4 =>
  cp (GF_X12_comes a3 g4) fun g5 =>
  cp (GF_X12_comes a4 g5) fun g6 =>
  cp (GF_X12_comes a5 g6) fun g7 =>
  some ((g7 55 7), g7))
  else
  (some ((-1), g1))
def GF_X12_adds (a1 : Int) (g : uZ) : Option uZ :=
  wrZ g 59 800 (g 55 6) a1 fun g1 =>
  pfZ g1 55 6 ((g1 55 6) + 1) fun g2 =>
  some g2
def GB_X12_samples_2 (a1 : Int) (w5 : Int) (g6 : uZ) : Option ((Int × uZ) ⊕ uZ) :=
  ck a1 <| ck w5 <| if a1 ≤ w5 then
  (some (Sum.inr g6))
  else
  (rdZ (g6 60) 400 w5 fun v9 =>
  cp (GF_X12_adds v9 g6) fun g10 =>
  lt (w5 + 1) fun v11 =>
  some (Sum.inl (v11, g10)))
def GC_X12_samples_3 (g7 : uZ) : Option (Int × uZ) :=
  pfZ g7 55 7 0 fun g12 =>
  some ((g12 55 6), g12)
def GJ_X12_samples_4 (g1 : uZ) : Option (Int × uZ) :=
  some ((-1000), g1)
def GF_X12_samples (a1 : Int) (g : uZ) : Option (Int × uZ) :=
  pfZ g 55 9 0 fun g1 =>
  cp (GF_X12_isIn a1 0 (g1 55 7) g1) fun v2 =>
  ck v2 <| if v2 = 0 then
  (GJ_X12_samples_4 g1)
  else
  (ck ((g1 55 6) + a1) <| if ((g1 55 6) + a1) ≤ 800 then
  (lp (fun z => GB_X12_samples_2 a1 z.1 z.2) (0, g1) (fun z => GC_X12_samples_3 z))
  else
  (GJ_X12_samples_4 g1))
def GB_X12_cycles_3 (a1 : Int) (a2 : Int) (w13 : Int) (g14 : uZ) : Option ((Int × uZ) ⊕ uZ) :=
  ck a1 <| ck w13 <| if a1 ≤ w13 then
  (some (Sum.inr g14))
  else
  (dvZ ((2 * a2) * w13) a1 fun v17 =>
  cp (GF_X12_adds (a2 - v17) g14) fun g18 =>
  lt (w13 + 1) fun v19 =>
  some (Sum.inl (v19, g18)))
def GC_X12_cycles_4 (w9 : Int) (g15 : uZ) : Option ((Int × uZ) ⊕ uZ) :=
  lt (w9 + 1) fun v20 =>
  some (Sum.inl (v20, g15))
def GB_X12_cycles_5 (a1 : Int) (a2 : Int) (a3 : Int) (w9 : Int) (g10 : uZ) : Option ((Int × uZ) ⊕ uZ) :=
  ck a3 <| ck w9 <| if a3 ≤ w9 then
  (some (Sum.inr g10))
  else
  (lp (fun z => GB_X12_cycles_3 a1 a2 z.1 z.2) (0, g10) (fun z => GC_X12_cycles_4 w9 z))
def GC_X12_cycles_6 (g11 : uZ) : Option (Int × uZ) :=
  some ((g11 55 6), g11)
def GJ_X12_cycles_7 (g1 : uZ) : Option (Int × uZ) :=
  some ((-1000), g1)
def GF_X12_cycles (a1 : Int) (a2 : Int) (a3 : Int) (g : uZ) : Option (Int × uZ) :=
  pfZ g 55 9 0 fun g1 =>
  cp (GF_X12_isIn a1 2 48 g1) fun v2 =>
  ck v2 <| if v2 = 0 then
  (GJ_X12_cycles_7 g1)
  else
  (cp (GF_X12_isIn a2 0 127 g1) fun v4 =>
  ck v4 <| if v4 = 0 then
  (GJ_X12_cycles_7 g1)
  else
  (cp (GF_X12_isIn a3 1 50 g1) fun v6 =>
  ck v6 <| if v6 = 0 then
  (GJ_X12_cycles_7 g1)
  else
  (ck ((g1 55 6) + (a1 * a3)) <| if ((g1 55 6) + (a1 * a3)) ≤ 800 then
  (lp (fun z => GB_X12_cycles_5 a1 a2 a3 z.1 z.2) (0, g1) (fun z => GC_X12_cycles_6 z))
  else
  (GJ_X12_cycles_7 g1))))
def GF_X12_draw (a1 : Int) (g : uZ) : Option (Int × uZ) :=
  pfZ g 55 10 (((g 55 10) * 1103515245) + 12345) fun g1 =>
  rmdZ (((((zI (g1 55 10)).toUInt32) >>> ((Int32.toUInt32 ((16 : Int32))) &&& (Int32.toUInt32 ((31 : Int32))))).toInt32) &&& ((32767 : Int32))).toInt a1 fun v2 =>
  some (v2, g1)
def GB_X12_noise_2 (a2 : Int) (a3 : Int) (w8 : Int) (g9 : uZ) : Option ((Int × uZ) ⊕ uZ) :=
  ck a2 <| ck w8 <| if a2 ≤ w8 then
  (some (Sum.inr g9))
  else
  (clZ (GF_X12_draw ((2 * a3) + 1) g9) fun v13 g12 =>
  cp (GF_X12_adds (v13 - a3) g12) fun g14 =>
  lt (w8 + 1) fun v15 =>
  some (Sum.inl (v15, g14)))
def GC_X12_noise_3 (g10 : uZ) : Option (Int × uZ) :=
  some ((g10 55 6), g10)
def GJ_X12_noise_4 (g1 : uZ) : Option (Int × uZ) :=
  some ((-1000), g1)
def GF_X12_noise (a1 : Int) (a2 : Int) (a3 : Int) (g : uZ) : Option (Int × uZ) :=
  pfZ g 55 9 0 fun g1 =>
  cp (GF_X12_isIn a2 1 400 g1) fun v2 =>
  ck v2 <| if v2 = 0 then
  (GJ_X12_noise_4 g1)
  else
  (cp (GF_X12_isIn a3 0 127 g1) fun v4 =>
  ck v4 <| if v4 = 0 then
  (GJ_X12_noise_4 g1)
  else
  (ck ((g1 55 6) + a2) <| if ((g1 55 6) + a2) ≤ 800 then
  (pfZ g1 55 10 a1 fun g7 =>
  lp (fun z => GB_X12_noise_2 a2 a3 z.1 z.2) (0, g7) (fun z => GC_X12_noise_3 z))
  else
  (GJ_X12_noise_4 g1)))
def GJ_X12_poke_1 (g1 : uZ) : Option (Int × uZ) :=
  some ((-1000), g1)
def GF_X12_poke (a1 : Int) (a2 : Int) (g : uZ) : Option (Int × uZ) :=
  pfZ g 55 9 0 fun g1 =>
  cp (GF_X12_isIn a1 0 ((g1 55 6) - 1) g1) fun v2 =>
  ck v2 <| if v2 = 0 then
  (GJ_X12_poke_1 g1)
  else
  (cp (GF_X12_isIn a2 (-128) 127 g1) fun v4 =>
  ck v4 <| if v4 = 0 then
  (GJ_X12_poke_1 g1)
  else
  (rdZ (g1 59) 800 a1 fun v6 =>
  wrZ g1 59 800 a1 a2 fun g7 =>
  some (v6, g7)))
def GF_X12_cut (a1 : Int) (g : uZ) : Option (Int × uZ) :=
  pfZ g 55 9 0 fun g1 =>
  cp (GF_X12_isIn a1 0 (g1 55 6) g1) fun v2 =>
  ck v2 <| if v2 = 0 then
  (some ((-1000), g1))
  else
  (pfZ g1 55 6 ((g1 55 6) - a1) fun g4 =>
  some ((g4 55 6), g4))
def GJ_X12_sample_1 (g3 : uZ) (v7 : Int) : Option (Int × uZ) :=
  some (v7, g3)
def GF_X12_sample (a1 : Int) (g : uZ) : Option (Int × uZ) :=
  pfZ g 55 9 0 fun g1 =>
  cp (GF_X12_isIn a1 0 ((g1 55 6) - 1) g1) fun v2 =>
  clZ (GF_X12_right v2 1 g1) fun v4 g3 =>
  ck v4 <| if v4 = 0 then
  (GJ_X12_sample_1 g3 0)
  else
  (rdZ (g3 59) 800 a1 fun v6 =>
  GJ_X12_sample_1 g3 v6)
def GJ_X12_at_1 (v4 : Int) : Option Int :=
  some v4
def GF_X12_at (a1 : Int) (g : uZ) : Option Int :=
  cp (GF_X12_isIn a1 0 ((g 55 6) - 1) g) fun v1 =>
  ck v1 <| if v1 = 0 then
  (GJ_X12_at_1 0)
  else
  (rdZ (g 59) 800 a1 fun v3 =>
  GJ_X12_at_1 v3)
def GJ_X12_canBe_2 (v11 : Int) : Option Int :=
  bzZ v11 <|
  some v11
def GJ_X12_canBe_1 : Option Int :=
  GJ_X12_canBe_2 1
def GJ_X12_canBe_3 : Option Int :=
  some 0
def GF_X12_canBe (a1 : Int) (a2 : Int) (g : uZ) : Option Int :=
  cp (GF_X12_isIn a1 2 15 g) fun v1 =>
  ck v1 <| if v1 = 0 then
  (GJ_X12_canBe_3)
  else
  (rdZ (g 57) 16 a1 fun v3 =>
  rdZ (g 58) 16 a1 fun v4 =>
  cp (GF_X12_isIn a2 v3 v4 g) fun v5 =>
  ck v5 <| if v5 = 0 then
  (GJ_X12_canBe_3)
  else
  (ck a1 <| if a1 = 4 then
  (rdZ (g 56) 16 5 fun v12 =>
  ck v12 <| ck a2 <| lt (if v12 ≤ a2 then 0 else 1) fun v14 =>
  bzZ v14 <|
  some v14)
  else
  (if a1 = 5 then
  (rdZ (g 56) 16 4 fun v9 =>
  ck a2 <| ck v9 <| if a2 ≤ v9 then
  (GJ_X12_canBe_2 0)
  else
  (GJ_X12_canBe_1))
  else
  (GJ_X12_canBe_1))))
def GF_X12_bound (a1 : Int) (a2 : Int) (g : uZ) : Option (Int × uZ) :=
  pfZ g 55 9 0 fun g1 =>
  cp (GF_X12_canBe a1 a2 g1) fun v2 =>
  ck v2 <| if v2 = 0 then
  (some ((-1000), g1))
  else
  (rdZ (g1 56) 16 a1 fun v4 =>
  wrZ g1 56 16 a1 a2 fun g5 =>
  some (v4, g5))
def GJ_X12_frames_1 (v7 : Int) : Option Int :=
  some v7
def GF_X12_frames (g : uZ) : Option Int :=
  rdZ (g 56) 16 3 fun v1 =>
  rdZ (g 56) 16 5 fun v2 =>
  lt ((((g 55 6) - v1) - v2) - 1) fun v3 =>
  ck v3 <| if 0 ≤ v3 then
  (rdZ (g 56) 16 2 fun v5 =>
  dvZ v3 v5 fun v6 =>
  GJ_X12_frames_1 (v6 + 1))
  else
  (GJ_X12_frames_1 0)
def GF_X12_count (a1 : Int) (g : uZ) : Option (Int × uZ) :=
  pfZ g 55 9 0 fun g1 =>
  cp (GF_X12_isIn a1 0 17 g1) fun v2 =>
  clZ (GF_X12_right v2 1 g1) fun v4 g3 =>
  ck v4 <| if v4 = 0 then
  (some (0, g3))
  else
  (ck a1 <| if a1 = 0 then
  (some ((g3 55 6), g3))
  else
  (if a1 = 1 then
  (cp (GF_X12_frames g3) fun v8 =>
  some (v8, g3))
  else
  (if a1 = 16 then
  (some ((g3 55 7), g3))
  else
  (if a1 = 17 then
  (some ((g3 55 8), g3))
  else
  (rdZ (g3 56) 16 a1 fun v11 =>
  some (v11, g3))))))
def GB_X12_laysDiffs_3 (v2 : Int) (w4 : Int) (g5 : uZ) (w9 : Int) (w10 : Int) : Option ((Int × Int) ⊕ Int) :=
  rdZ (g5 56) 16 3 fun v12 =>
  ck v12 <| ck w10 <| if v12 ≤ w10 then
  (some (Sum.inr w9))
  else
  (rdZ (g5 59) 800 (v2 + w10) fun v14 =>
  rdZ (g5 59) 800 ((v2 + w10) + w4) fun v15 =>
  cp (GF_X12_apart v14 v15 g5) fun v16 =>
  lt (w9 + v16) fun v17 =>
  lt (w10 + 1) fun v18 =>
  some (Sum.inl (v17, v18)))
def GJ_X12_laysDiffs_5 (v22 : Int) (w4 : Int) (g19 : uZ) (v26 : Int) : Option ((Int × (Int × uZ)) ⊕ uZ) :=
  wrZ g19 63 50 w4 v26 fun g27 =>
  lt (w4 + 1) fun v28 =>
  some (Sum.inl (v22, (v28, g27)))
def GJ_X12_laysDiffs_4 (v22 : Int) (w4 : Int) (g19 : uZ) : Option ((Int × (Int × uZ)) ⊕ uZ) :=
  GJ_X12_laysDiffs_5 v22 w4 g19 1000
def GC_X12_laysDiffs_6 (w3 : Int) (w4 : Int) (g5 : uZ) (v11 : Int) : Option ((Int × (Int × uZ)) ⊕ uZ) :=
  wrZ g5 62 50 w4 v11 fun g19 =>
  ck w4 <| lt (if w4 = 0 then 0 else v11) fun v21 =>
  lt (w3 + v21) fun v22 =>
  if w4 = 0 then
  (GJ_X12_laysDiffs_4 v22 w4 g19)
  else
  (ck v22 <| if v22 = 0 then
  (GJ_X12_laysDiffs_4 v22 w4 g19)
  else
  (dvZ ((1000 * w4) * v11) v22 fun v25 =>
  GJ_X12_laysDiffs_5 v22 w4 g19 v25))
def GB_X12_laysDiffs_7 (v2 : Int) (w3 : Int) (w4 : Int) (g5 : uZ) : Option ((Int × (Int × uZ)) ⊕ uZ) :=
  rdZ (g5 56) 16 5 fun v7 =>
  ck (v7 + 1) <| ck w4 <| if (v7 + 1) < w4 then
  (some (Sum.inr g5))
  else
  (lp (fun z => GB_X12_laysDiffs_3 v2 w4 g5 z.1 z.2) (0, 0) (fun z => GC_X12_laysDiffs_6 w3 w4 g5 z))
def GC_X12_laysDiffs_8 (g6 : uZ) : Option uZ :=
  some g6
def GF_X12_laysDiffs (a1 : Int) (g : uZ) : Option uZ :=
  rdZ (g 56) 16 2 fun v1 =>
  lt (a1 * v1) fun v2 =>
  lp (fun z => GB_X12_laysDiffs_7 v2 z.1 z.2.1 z.2.2) (0, (0, g)) (fun z => GC_X12_laysDiffs_8 z)
def GB_X12_loudOf_2 (a1 : Int) (g : uZ) (w1 : Int) (w2 : Int) : Option ((Int × Int) ⊕ Int) :=
  rdZ (g 56) 16 3 fun v4 =>
  ck v4 <| ck w2 <| if v4 ≤ w2 then
  (some (Sum.inr w1))
  else
  (rdZ (g 56) 16 2 fun v6 =>
  rdZ (g 59) 800 ((a1 * v6) + w2) fun v7 =>
  cp (GF_X12_apart v7 0 g) fun v8 =>
  lt (w1 + v8) fun v9 =>
  lt (w2 + 1) fun v10 =>
  some (Sum.inl (v9, v10)))
def GC_X12_loudOf_3 (v3 : Int) : Option Int :=
  some v3
def GF_X12_loudOf (a1 : Int) (g : uZ) : Option Int :=
  lp (fun z => GB_X12_loudOf_2 a1 g z.1 z.2) (0, 0) (fun z => GC_X12_loudOf_3 z)
def GF_X12_isFrame (a1 : Int) (g : uZ) : Option (Int × uZ) :=
  cp (GF_X12_frames g) fun v1 =>
  cp (GF_X12_isIn a1 0 (v1 - 1) g) fun v2 =>
  clZ (GF_X12_right v2 1 g) fun v4 g3 =>
  bzZ v4 <|
  some (v4, g3)
def GF_X12_isLag (a1 : Int) (g : uZ) : Option (Int × uZ) :=
  rdZ (g 56) 16 5 fun v1 =>
  cp (GF_X12_isIn a1 0 (v1 + 1) g) fun v2 =>
  clZ (GF_X12_right v2 1 g) fun v4 g3 =>
  bzZ v4 <|
  some (v4, g3)
def GJ_X12_diff_1 (g10 : uZ) : Option (Int × uZ) :=
  some (0, g10)
def GF_X12_diff (a1 : Int) (a2 : Int) (g : uZ) : Option (Int × uZ) :=
  pfZ g 55 9 0 fun g1 =>
  clZ (GF_X12_isFrame a1 g1) fun v3 g2 =>
  ck v3 <| if v3 = 0 then
  (GJ_X12_diff_1 g2)
  else
  (clZ (GF_X12_isLag a2 g2) fun v6 g5 =>
  ck v6 <| if v6 = 0 then
  (GJ_X12_diff_1 g5)
  else
  (cp (GF_X12_laysDiffs a1 g5) fun g8 =>
  rdZ (g8 62) 50 a2 fun v9 =>
  some (v9, g8)))
def GJ_X12_rel_1 (g10 : uZ) : Option (Int × uZ) :=
  some (0, g10)
def GF_X12_rel (a1 : Int) (a2 : Int) (g : uZ) : Option (Int × uZ) :=
  pfZ g 55 9 0 fun g1 =>
  clZ (GF_X12_isFrame a1 g1) fun v3 g2 =>
  ck v3 <| if v3 = 0 then
  (GJ_X12_rel_1 g2)
  else
  (clZ (GF_X12_isLag a2 g2) fun v6 g5 =>
  ck v6 <| if v6 = 0 then
  (GJ_X12_rel_1 g5)
  else
  (cp (GF_X12_laysDiffs a1 g5) fun g8 =>
  rdZ (g8 63) 50 a2 fun v9 =>
  some (v9, g8)))
def GJ_X12_loud_1 (g2 : uZ) (v6 : Int) : Option (Int × uZ) :=
  some (v6, g2)
def GF_X12_loud (a1 : Int) (g : uZ) : Option (Int × uZ) :=
  pfZ g 55 9 0 fun g1 =>
  clZ (GF_X12_isFrame a1 g1) fun v3 g2 =>
  ck v3 <| if v3 = 0 then
  (GJ_X12_loud_1 g2 0)
  else
  (cp (GF_X12_loudOf a1 g2) fun v5 =>
  GJ_X12_loud_1 g2 v5)
def GJ_X12_isDipAt_2 (v10 : Int) : Option Int :=
  bzZ v10 <|
  some v10
def GJ_X12_isDipAt_1 : Option Int :=
  GJ_X12_isDipAt_2 0
def GF_X12_isDipAt (a1 : Int) (g : uZ) : Option Int :=
  rdZ (g 63) 50 a1 fun v1 =>
  rdZ (g 56) 16 6 fun v2 =>
  ck v2 <| ck v1 <| if v2 < v1 then
  (GJ_X12_isDipAt_1)
  else
  (rdZ (g 63) 50 a1 fun v4 =>
  rdZ (g 63) 50 (a1 - 1) fun v5 =>
  ck v5 <| ck v4 <| if v5 ≤ v4 then
  (GJ_X12_isDipAt_1)
  else
  (rdZ (g 63) 50 a1 fun v7 =>
  rdZ (g 63) 50 (a1 + 1) fun v8 =>
  ck v8 <| ck v7 <| if v8 < v7 then
  (GJ_X12_isDipAt_1)
  else
  (GJ_X12_isDipAt_2 1)))
def GJ_X12_laysDips_3 (w6 : Int) (g7 : uZ) (v14 : Int) : Option ((Int × uZ) ⊕ uZ) :=
  wrZ g7 67 50 w6 (vp_nar .boolean (zI v14)).toInt fun g15 =>
  lt (w6 + 1) fun v16 =>
  some (Sum.inl (v16, g15))
def GJ_X12_laysDips_2 (w6 : Int) (g7 : uZ) : Option ((Int × uZ) ⊕ uZ) :=
  GJ_X12_laysDips_3 w6 g7 0
def GB_X12_laysDips_4 (v4 : Int) (w6 : Int) (g7 : uZ) : Option ((Int × uZ) ⊕ uZ) :=
  rdZ (g7 56) 16 5 fun v9 =>
  ck v9 <| ck w6 <| if v9 < w6 then
  (some (Sum.inr g7))
  else
  (ck v4 <| if v4 = 0 then
  (GJ_X12_laysDips_2 w6 g7)
  else
  (cp (GF_X12_isDipAt w6 g7) fun v12 =>
  ck v12 <| if v12 = 0 then
  (GJ_X12_laysDips_2 w6 g7)
  else
  (GJ_X12_laysDips_3 w6 g7 1)))
def GC_X12_laysDips_5 (g8 : uZ) : Option uZ :=
  some g8
def GF_X12_laysDips (a1 : Int) (g : uZ) : Option uZ :=
  cp (GF_X12_loudOf a1 g) fun v1 =>
  rdZ (g 56) 16 14 fun v2 =>
  ck v1 <| ck v2 <| lt (if v1 < v2 then 0 else 1) fun v4 =>
  rdZ (g 56) 16 4 fun v5 =>
  lp (fun z => GB_X12_laysDips_4 v4 z.1 z.2) (v5, g) (fun z => GC_X12_laysDips_5 z)
def GJ_X12_aheadOf_3 (w3 : Int) (v17 : Int) : Option ((Int × Int) ⊕ Int) :=
  lt (w3 + 1) fun v18 =>
  some (Sum.inl (v17, v18))
def GJ_X12_aheadOf_2 (w2 : Int) (w3 : Int) : Option ((Int × Int) ⊕ Int) :=
  lt (w2 + 1) fun v16 =>
  GJ_X12_aheadOf_3 w3 v16
def GB_X12_aheadOf_4 (a1 : Int) (g : uZ) (w2 : Int) (w3 : Int) : Option ((Int × Int) ⊕ Int) :=
  rdZ (g 56) 16 5 fun v5 =>
  ck v5 <| ck w3 <| if v5 < w3 then
  (some (Sum.inr w2))
  else
  (rdZ (g 67) 50 w3 fun v7 =>
  ck v7 <| if v7 = 0 then
  (GJ_X12_aheadOf_3 w3 w2)
  else
  (rdZ (g 63) 50 w3 fun v9 =>
  rdZ (g 63) 50 a1 fun v10 =>
  ck v9 <| ck v10 <| if v9 < v10 then
  (GJ_X12_aheadOf_2 w2 w3)
  else
  (rdZ (g 63) 50 w3 fun v12 =>
  rdZ (g 63) 50 a1 fun v13 =>
  ck v12 <| ck v13 <| if v12 = v13 then
  (ck a1 <| if a1 ≤ w3 then
  (GJ_X12_aheadOf_3 w3 w2)
  else
  (GJ_X12_aheadOf_2 w2 w3))
  else
  (GJ_X12_aheadOf_3 w3 w2))))
def GC_X12_aheadOf_5 (v4 : Int) : Option Int :=
  some v4
def GF_X12_aheadOf (a1 : Int) (g : uZ) : Option Int :=
  rdZ (g 56) 16 4 fun v1 =>
  lp (fun z => GB_X12_aheadOf_4 a1 g z.1 z.2) (0, v1) (fun z => GC_X12_aheadOf_5 z)
def GJ_X12_laysFrame_2 (w5 : Int) (v21 : Int) (g22 : uZ) : Option ((Int × (Int × uZ)) ⊕ (Int × uZ)) :=
  lt (w5 + 1) fun v23 =>
  some (Sum.inl (v21, (v23, g22)))
def GB_X12_laysFrame_3 (a1 : Int) (w4 : Int) (w5 : Int) (g6 : uZ) : Option ((Int × (Int × uZ)) ⊕ (Int × uZ)) :=
  rdZ (g6 56) 16 5 fun v9 =>
  ck v9 <| ck w5 <| if v9 < w5 then
  (some (Sum.inr (w4, g6)))
  else
  (rdZ (g6 67) 50 w5 fun v11 =>
  ck v11 <| if v11 = 0 then
  (GJ_X12_laysFrame_2 w5 w4 g6)
  else
  (cp (GF_X12_aheadOf w5 g6) fun v13 =>
  rdZ (g6 56) 16 7 fun v14 =>
  ck v13 <| ck v14 <| if v13 < v14 then
  (wrZ g6 64 660 ((6 * a1) + w4) w5 fun g16 =>
  rdZ (g16 63) 50 w5 fun v17 =>
  rdZ (g16 56) 16 8 fun v18 =>
  wrZ g16 65 660 ((6 * a1) + w4) (v17 + (v18 * w5)) fun g19 =>
  lt (w4 + 1) fun v20 =>
  GJ_X12_laysFrame_2 w5 v20 g19)
  else
  (GJ_X12_laysFrame_2 w5 w4 g6)))
def GC_X12_laysFrame_4 (a1 : Int) (v7 : Int) (g8 : uZ) : Option uZ :=
  wrZ g8 64 660 ((6 * a1) + v7) 0 fun g24 =>
  rdZ (g24 56) 16 9 fun v25 =>
  wrZ g24 65 660 ((6 * a1) + v7) v25 fun g26 =>
  wrZ g26 66 110 a1 (v7 + 1) fun g27 =>
  some g27
def GF_X12_laysFrame (a1 : Int) (g : uZ) : Option uZ :=
  cp (GF_X12_laysDiffs a1 g) fun g1 =>
  cp (GF_X12_laysDips a1 g1) fun g2 =>
  rdZ (g2 56) 16 4 fun v3 =>
  lp (fun z => GB_X12_laysFrame_3 a1 z.1 z.2.1 z.2.2) (0, (v3, g2)) (fun z => GC_X12_laysFrame_4 a1 z.1 z.2)
def GB_X12_laysAll_2 (w3 : Int) (g4 : uZ) : Option ((Int × uZ) ⊕ uZ) :=
  ck (g4 55 17) <| ck w3 <| if (g4 55 17) ≤ w3 then
  (some (Sum.inr g4))
  else
  (cp (GF_X12_laysFrame w3 g4) fun g7 =>
  lt (w3 + 1) fun v8 =>
  some (Sum.inl (v8, g7)))
def GC_X12_laysAll_3 (g5 : uZ) : Option uZ :=
  some g5
def GF_X12_laysAll (g : uZ) : Option uZ :=
  cp (GF_X12_frames g) fun v1 =>
  pfZ g 55 17 v1 fun g2 =>
  lp (fun z => GB_X12_laysAll_2 z.1 z.2) (0, g2) (fun z => GC_X12_laysAll_3 z)
def GF_X12_lagAt1 (a1 : Int) (a2 : Int) (g : uZ) : Option Int :=
  rdZ (g 64) 660 ((6 * a1) + a2) fun v1 =>
  some v1
def GF_X12_ownAt (a1 : Int) (a2 : Int) (g : uZ) : Option Int :=
  rdZ (g 65) 660 ((6 * a1) + a2) fun v1 =>
  some v1
def GJ_X12_doubleOf_2 (w3 : Int) : Option (Int ⊕ (Unit ⊕ Int)) :=
  lt (w3 + 1) fun v11 =>
  some (Sum.inl v11)
def GB_X12_doubleOf_3 (a1 : Int) (a2 : Int) (v1 : Int) (g : uZ) (w3 : Int) : Option (Int ⊕ (Unit ⊕ Int)) :=
  rdZ (g 66) 110 a1 fun v4 =>
  ck v4 <| ck w3 <| if v4 ≤ w3 then
  (some (Sum.inr (Sum.inl ())))
  else
  (cp (GF_X12_lagAt1 a1 w3 g) fun v6 =>
  ck a2 <| if w3 = a2 then
  (GJ_X12_doubleOf_2 w3)
  else
  (ck v6 <| if v6 ≤ 0 then
  (GJ_X12_doubleOf_2 w3)
  else
  (cp (GF_X12_apart v1 (2 * v6) g) fun v9 =>
  ck v9 <| if 1 < v9 then
  (GJ_X12_doubleOf_2 w3)
  else
  (some (Sum.inr (Sum.inr w3))))))
def GC_X12_doubleOf_4 : Option Int :=
  some (-1)
def GF_X12_doubleOf (a1 : Int) (a2 : Int) (g : uZ) : Option Int :=
  cp (GF_X12_lagAt1 a1 a2 g) fun v1 =>
  ck v1 <| if v1 = 0 then
  (some (-1))
  else
  (lp (fun z => GB_X12_doubleOf_3 a1 a2 v1 g z) 0 (fun z => ex2 (fun x => GC_X12_doubleOf_4) (fun q => some q) z))
def GF_X12_candidates (a1 : Int) (g : uZ) : Option (Int × uZ) :=
  pfZ g 55 9 0 fun g1 =>
  clZ (GF_X12_isFrame a1 g1) fun v3 g2 =>
  ck v3 <| if v3 = 0 then
  (some (0, g2))
  else
  (cp (GF_X12_laysFrame a1 g2) fun g5 =>
  rdZ (g5 66) 110 a1 fun v6 =>
  some (v6, g5))
def GF_X12_isCandidate (a1 : Int) (a2 : Int) (g : uZ) : Option (Int × uZ) :=
  clZ (GF_X12_isFrame a1 g) fun v2 g1 =>
  ck v2 <| if v2 = 0 then
  (some (0, g1))
  else
  (cp (GF_X12_laysFrame a1 g1) fun g4 =>
  rdZ (g4 66) 110 a1 fun v5 =>
  cp (GF_X12_isIn a2 0 (v5 - 1) g4) fun v6 =>
  clZ (GF_X12_right v6 1 g4) fun v8 g7 =>
  bzZ v8 <|
  some (v8, g7))
def GB_X12_candidate_2 (a1 : Int) (a2 : Int) (g6 : uZ) (w15 : Int) (w16 : Int) : Option ((Int × Int) ⊕ Int) :=
  rdZ (g6 66) 110 a1 fun v18 =>
  ck v18 <| ck w16 <| if v18 ≤ w16 then
  (some (Sum.inr w15))
  else
  (cp (GF_X12_ownAt a1 w16 g6) fun v20 =>
  cp (GF_X12_ownAt a1 a2 g6) fun v21 =>
  ck v21 <| ck v20 <| lt (if v21 ≤ v20 then 0 else 1) fun v23 =>
  lt (w15 + v23) fun v24 =>
  lt (w16 + 1) fun v25 =>
  some (Sum.inl (v24, v25)))
def GC_X12_candidate_3 (g6 : uZ) (v17 : Int) : Option (Int × uZ) :=
  some (v17, g6)
def GJ_X12_candidate_4 (g26 : uZ) : Option (Int × uZ) :=
  some (0, g26)
def GF_X12_candidate (a1 : Int) (a2 : Int) (a3 : Int) (g : uZ) : Option (Int × uZ) :=
  pfZ g 55 9 0 fun g1 =>
  clZ (GF_X12_isCandidate a1 a2 g1) fun v3 g2 =>
  ck v3 <| if v3 = 0 then
  (GJ_X12_candidate_4 g2)
  else
  (cp (GF_X12_isIn a3 0 3 g2) fun v5 =>
  clZ (GF_X12_right v5 1 g2) fun v7 g6 =>
  ck v7 <| if v7 = 0 then
  (GJ_X12_candidate_4 g6)
  else
  (ck a3 <| if a3 = 0 then
  (cp (GF_X12_lagAt1 a1 a2 g6) fun v10 =>
  some (v10, g6))
  else
  (if a3 = 1 then
  (cp (GF_X12_ownAt a1 a2 g6) fun v12 =>
  some (v12, g6))
  else
  (if a3 = 2 then
  (cp (GF_X12_doubleOf a1 a2 g6) fun v14 =>
  some (v14, g6))
  else
  (lp (fun z => GB_X12_candidate_2 a1 a2 g6 z.1 z.2) (0, 0) (fun z => GC_X12_candidate_3 g6 z))))))
def GJ_X12_fine_1 (g8 : uZ) (v26 : Int) : Option (Int × uZ) :=
  some (v26, g8)
def GJ_X12_fine_2 (g29 : uZ) : Option (Int × uZ) :=
  some (0, g29)
def GF_X12_fine (a1 : Int) (a2 : Int) (a3 : Int) (g : uZ) : Option (Int × uZ) :=
  pfZ g 55 9 0 fun g1 =>
  clZ (GF_X12_isCandidate a1 a2 g1) fun v3 g2 =>
  ck v3 <| if v3 = 0 then
  (GJ_X12_fine_2 g2)
  else
  (cp (GF_X12_lagAt1 a1 a2 g2) fun v5 =>
  ck v5 <| lt (if v5 ≤ 0 then 0 else 1) fun v7 =>
  clZ (GF_X12_right v7 1 g2) fun v9 g8 =>
  ck v9 <| if v9 = 0 then
  (GJ_X12_fine_2 g8)
  else
  (cp (GF_X12_lagAt1 a1 a2 g8) fun v11 =>
  rdZ (g8 62) 50 (v11 - 1) fun v12 =>
  rdZ (g8 62) 50 v11 fun v13 =>
  rdZ (g8 62) 50 (v11 + 1) fun v14 =>
  lt (2 * ((v12 - (2 * v13)) + v14)) fun v15 =>
  ck v15 <| if v15 = 0 then
  (ck a3 <| lt (if a3 = 0 then v11 else 1) fun v28 =>
  some (v28, g8))
  else
  (rdZ (g8 62) 50 (v11 - 1) fun v17 =>
  rdZ (g8 62) 50 (v11 + 1) fun v18 =>
  lt (((v11 * v15) + v17) - v18) fun v19 =>
  cp (GF_X12_divisor v19 v15 g8) fun v20 =>
  lt (if 0 ≤ v15 then v20 else (-v20)) fun v22 =>
  ck a3 <| if a3 = 0 then
  (dvZ v19 v22 fun v24 =>
  GJ_X12_fine_1 g8 v24)
  else
  (dvZ v15 v22 fun v25 =>
  GJ_X12_fine_1 g8 v25))))
def GF_X12_isOctave (a1 : Int) (a2 : Int) (g : uZ) : Option Int :=
  ck a2 <| ck a1 <| lt (if a2 ≤ a1 then a2 else a1) fun v2 =>
  lt (if a2 ≤ a1 then a1 else a2) fun v4 =>
  ck v4 <| ck ((2 * v2) - 1) <| lt (if v4 < ((2 * v2) - 1) then 0 else 1) fun v6 =>
  bzZ v6 <|
  some v6
def GJ_X12_step_1 (a1 : Int) (a2 : Int) (g : uZ) : Option Int :=
  ck a1 <| ck a2 <| lt (if a1 = a2 then 0 else (g 55 22)) fun v9 =>
  some v9
def GF_X12_step (a1 : Int) (a2 : Int) (g : uZ) : Option Int :=
  ck a1 <| if a1 = 0 then
  (GJ_X12_step_1 a1 a2 g)
  else
  (ck a2 <| if a2 = 0 then
  (GJ_X12_step_1 a1 a2 g)
  else
  (rdZ (g 56) 16 10 fun v3 =>
  cp (GF_X12_apart a1 a2 g) fun v4 =>
  cp (GF_X12_isOctave a1 a2 g) fun v5 =>
  ck v5 <| lt (if v5 = 0 then 0 else (g 55 21)) fun v7 =>
  some ((v3 * v4) + v7)))
def GF_X12_between (a1 : Int) (a2 : Int) (a3 : Int) (g : uZ) : Option Int :=
  cp (GF_X12_lagAt1 a1 a2 g) fun v1 =>
  cp (GF_X12_lagAt1 (a1 + 1) a3 g) fun v2 =>
  cp (GF_X12_step v1 v2 g) fun v3 =>
  some v3
def GB_X12_opens_2 (w1 : Int) (g2 : uZ) : Option ((Int × uZ) ⊕ uZ) :=
  ck w1 <| if 660 ≤ w1 then
  (some (Sum.inr g2))
  else
  (wrZ g2 70 660 w1 (vp_nar .boolean ((0 : Int32))).toInt fun g5 =>
  lt (w1 + 1) fun v6 =>
  some (Sum.inl (v6, g5)))
def GC_X12_opens_3 (g3 : uZ) : Option uZ :=
  rdZ (g3 56) 16 11 fun v7 =>
  pfZ g3 55 21 v7 fun g8 =>
  rdZ (g8 56) 16 12 fun v9 =>
  pfZ g8 55 22 v9 fun g10 =>
  some g10
def GF_X12_opens (g : uZ) : Option uZ :=
  lp (fun z => GB_X12_opens_2 z.1 z.2) (0, g) (fun z => GC_X12_opens_3 z)
def GJ_X12_leavesOnly_2 (w1 : Int) (g8 : uZ) : Option ((Int × uZ) ⊕ uZ) :=
  lt (w1 + 1) fun v9 =>
  some (Sum.inl (v9, g8))
def GB_X12_leavesOnly_3 (a1 : Int) (a2 : Int) (w1 : Int) (g2 : uZ) : Option ((Int × uZ) ⊕ uZ) :=
  rdZ (g2 66) 110 a1 fun v4 =>
  ck v4 <| ck w1 <| if v4 ≤ w1 then
  (some (Sum.inr g2))
  else
  (ck a2 <| if w1 = a2 then
  (GJ_X12_leavesOnly_2 w1 g2)
  else
  (wrZ g2 70 660 ((6 * a1) + w1) (vp_nar .boolean ((1 : Int32))).toInt fun g7 =>
  GJ_X12_leavesOnly_2 w1 g7))
def GC_X12_leavesOnly_4 (g3 : uZ) : Option uZ :=
  some g3
def GF_X12_leavesOnly (a1 : Int) (a2 : Int) (g : uZ) : Option uZ :=
  lp (fun z => GB_X12_leavesOnly_3 a1 a2 z.1 z.2) (0, g) (fun z => GC_X12_leavesOnly_4 z)
def GJ_X12_leastBehind_2 (w2 : Int) (v12 : Int) : Option ((Int × Int) ⊕ Int) :=
  lt (w2 + 1) fun v13 =>
  some (Sum.inl (v12, v13))
def GB_X12_leastBehind_3 (a1 : Int) (a2 : Int) (g : uZ) (w1 : Int) (w2 : Int) : Option ((Int × Int) ⊕ Int) :=
  rdZ (g 66) 110 (a1 + 1) fun v4 =>
  ck v4 <| ck w2 <| if v4 ≤ w2 then
  (some (Sum.inr w1))
  else
  (rdZ (g 68) 660 ((6 * (a1 + 1)) + w2) fun v6 =>
  ck v6 <| if 2000000000 ≤ v6 then
  (GJ_X12_leastBehind_2 w2 w1)
  else
  (cp (GF_X12_between a1 a2 w2 g) fun v8 =>
  ck w1 <| ck (v8 + v6) <| if w1 ≤ (v8 + v6) then
  (GJ_X12_leastBehind_2 w2 w1)
  else
  (cp (GF_X12_between a1 a2 w2 g) fun v10 =>
  lt (v10 + v6) fun v11 =>
  GJ_X12_leastBehind_2 w2 v11)))
def GC_X12_leastBehind_4 (v3 : Int) : Option Int :=
  some v3
def GF_X12_leastBehind (a1 : Int) (a2 : Int) (g : uZ) : Option Int :=
  lp (fun z => GB_X12_leastBehind_3 a1 a2 g z.1 z.2) (2000000000, 0) (fun z => GC_X12_leastBehind_4 z)
def GJ_X12_laysCosts_4 (w2 : Int) (w6 : Int) (g7 : uZ) (v18 : Int) : Option ((Int × uZ) ⊕ uZ) :=
  wrZ g7 68 660 ((6 * w2) + w6) v18 fun g19 =>
  lt (w6 + 1) fun v20 =>
  some (Sum.inl (v20, g19))
def GJ_X12_laysCosts_3 (w2 : Int) (w6 : Int) (g7 : uZ) : Option ((Int × uZ) ⊕ uZ) :=
  GJ_X12_laysCosts_4 w2 w6 g7 2000000000
def GJ_X12_laysCosts_5 (w2 : Int) (w6 : Int) (g7 : uZ) (v13 : Int) : Option ((Int × uZ) ⊕ uZ) :=
  rdZ (g7 70) 660 ((6 * w2) + w6) fun v14 =>
  ck v14 <| if v14 = 0 then
  (ck v13 <| if v13 = 2000000000 then
  (GJ_X12_laysCosts_3 w2 w6 g7)
  else
  (cp (GF_X12_ownAt w2 w6 g7) fun v17 =>
  GJ_X12_laysCosts_4 w2 w6 g7 (v17 + v13)))
  else
  (GJ_X12_laysCosts_3 w2 w6 g7)
def GB_X12_laysCosts_6 (a1 : Int) (w2 : Int) (w6 : Int) (g7 : uZ) : Option ((Int × uZ) ⊕ uZ) :=
  rdZ (g7 66) 110 w2 fun v9 =>
  ck v9 <| ck w6 <| if v9 ≤ w6 then
  (some (Sum.inr g7))
  else
  (ck w2 <| ck a1 <| if w2 = a1 then
  (GJ_X12_laysCosts_5 w2 w6 g7 0)
  else
  (cp (GF_X12_leastBehind w2 w6 g7) fun v12 =>
  GJ_X12_laysCosts_5 w2 w6 g7 v12))
def GC_X12_laysCosts_7 (w2 : Int) (g8 : uZ) : Option ((Int × uZ) ⊕ uZ) :=
  lt (w2 + (-1)) fun v21 =>
  some (Sum.inl (v21, g8))
def GB_X12_laysCosts_8 (a1 : Int) (w2 : Int) (g3 : uZ) : Option ((Int × uZ) ⊕ uZ) :=
  ck w2 <| if w2 < 0 then
  (some (Sum.inr g3))
  else
  (lp (fun z => GB_X12_laysCosts_6 a1 w2 z.1 z.2) (0, g3) (fun z => GC_X12_laysCosts_7 w2 z))
def GC_X12_laysCosts_9 (g4 : uZ) : Option uZ :=
  some g4
def GF_X12_laysCosts (a1 : Int) (g : uZ) : Option uZ :=
  pfZ g 55 23 a1 fun g1 =>
  lp (fun z => GB_X12_laysCosts_8 a1 z.1 z.2) (a1, g1) (fun z => GC_X12_laysCosts_9 z)
def GJ_X12_leastOfAll_2 (w3 : Int) (v10 : Int) : Option ((Int × Int) ⊕ Int) :=
  lt (w3 + 1) fun v11 =>
  some (Sum.inl (v10, v11))
def GB_X12_leastOfAll_3 (g : uZ) (w2 : Int) (w3 : Int) : Option ((Int × Int) ⊕ Int) :=
  rdZ (g 66) 110 0 fun v5 =>
  ck v5 <| ck w3 <| if v5 ≤ w3 then
  (some (Sum.inr w2))
  else
  (rdZ (g 68) 660 w3 fun v7 =>
  ck w2 <| ck v7 <| if w2 ≤ v7 then
  (GJ_X12_leastOfAll_2 w3 w2)
  else
  (rdZ (g 68) 660 w3 fun v9 =>
  GJ_X12_leastOfAll_2 w3 v9))
def GC_X12_leastOfAll_4 (v4 : Int) : Option Int :=
  some v4
def GF_X12_leastOfAll (g : uZ) : Option Int :=
  ck (g 55 23) <| if 0 ≤ (g 55 23) then
  (lp (fun z => GB_X12_leastOfAll_3 g z.1 z.2) (2000000000, 0) (fun z => GC_X12_leastOfAll_4 z))
  else
  (some 0)
def GJ_X12_reached_1 (v6 : Int) : Option Int :=
  some v6
def GF_X12_reached (a1 : Int) (a2 : Int) (g : uZ) : Option Int :=
  rdZ (g 68) 660 ((6 * a1) + a2) fun v1 =>
  ck v1 <| if v1 = 2000000000 then
  (some 2000000000)
  else
  (ck a1 <| if a1 = 0 then
  (GJ_X12_reached_1 v1)
  else
  (rdZ (g 69) 110 (a1 - 1) fun v4 =>
  cp (GF_X12_between (a1 - 1) v4 a2 g) fun v5 =>
  GJ_X12_reached_1 (v1 + v5)))
def GB_X12_goesAlong_3 (w2 : Int) (w3 : Int) (g4 : uZ) (w7 : Int) : Option (Int ⊕ Int) :=
  cp (GF_X12_reached w3 w7 g4) fun v9 =>
  ck v9 <| ck w2 <| if v9 = w2 then
  (some (Sum.inr w7))
  else
  (lt (w7 + 1) fun v11 =>
  some (Sum.inl v11))
def GC_X12_goesAlong_4 (w3 : Int) (g4 : uZ) (v8 : Int) : Option ((Int × (Int × uZ)) ⊕ uZ) :=
  wrZ g4 69 110 w3 v8 fun g12 =>
  rdZ (g12 68) 660 ((6 * w3) + v8) fun v13 =>
  cp (GF_X12_ownAt w3 v8 g12) fun v14 =>
  lt (v13 - v14) fun v15 =>
  lt (w3 + 1) fun v16 =>
  some (Sum.inl (v15, (v16, g12)))
def GB_X12_goesAlong_5 (w2 : Int) (w3 : Int) (g4 : uZ) : Option ((Int × (Int × uZ)) ⊕ uZ) :=
  ck (g4 55 23) <| ck w3 <| if (g4 55 23) < w3 then
  (some (Sum.inr g4))
  else
  (lp (fun z => GB_X12_goesAlong_3 w2 w3 g4 z) 0 (fun z => GC_X12_goesAlong_4 w3 g4 z))
def GC_X12_goesAlong_6 (g5 : uZ) : Option uZ :=
  some g5
def GF_X12_goesAlong (g : uZ) : Option uZ :=
  cp (GF_X12_leastOfAll g) fun v1 =>
  lp (fun z => GB_X12_goesAlong_5 z.1 z.2.1 z.2.2) (v1, (0, g)) (fun z => GC_X12_goesAlong_6 z)
def GF_X12_laysPath (g : uZ) : Option uZ :=
  cp (GF_X12_laysAll g) fun g1 =>
  cp (GF_X12_opens g1) fun g2 =>
  cp (GF_X12_laysCosts ((g2 55 17) - 1) g2) fun g3 =>
  cp (GF_X12_goesAlong g3) fun g4 =>
  some g4
def GF_X12_lagOnPath (a1 : Int) (g : uZ) : Option Int :=
  rdZ (g 69) 110 a1 fun v1 =>
  cp (GF_X12_lagAt1 a1 v1 g) fun v2 =>
  some v2
def GJ_X12_part_6 (v24 : Int) : Option Int :=
  some v24
def GJ_X12_part_5 (v20 : Int) : Option Int :=
  some v20
def GJ_X12_part_4 : Option Int :=
  GJ_X12_part_5 0
def GJ_X12_part_3 (v16 : Int) : Option Int :=
  some v16
def GJ_X12_part_2 : Option Int :=
  GJ_X12_part_3 0
def GJ_X12_part_7 (a2 : Int) (v7 : Int) (v8 : Int) (g : uZ) (v11 : Int) : Option Int :=
  ck a2 <| if a2 = 2 then
  (ck v11 <| if v11 = 0 then
  (GJ_X12_part_6 0)
  else
  (rdZ (g 56) 16 10 fun v22 =>
  cp (GF_X12_apart v7 v8 g) fun v23 =>
  GJ_X12_part_6 (v22 * v23)))
  else
  (if a2 = 3 then
  (ck v11 <| if v11 = 0 then
  (GJ_X12_part_4)
  else
  (cp (GF_X12_isOctave v7 v8 g) fun v18 =>
  ck v18 <| if v18 = 0 then
  (GJ_X12_part_4)
  else
  (GJ_X12_part_5 (g 55 21))))
  else
  (ck v11 <| if v11 = 0 then
  (ck v7 <| ck v8 <| if v7 = v8 then
  (GJ_X12_part_2)
  else
  (GJ_X12_part_3 (g 55 22)))
  else
  (GJ_X12_part_2)))
def GJ_X12_part_1 (a2 : Int) (v7 : Int) (v8 : Int) (g : uZ) : Option Int :=
  GJ_X12_part_7 a2 v7 v8 g 0
def GJ_X12_part_8 (v4 : Int) : Option Int :=
  some v4
def GJ_X12_part_9 (a1 : Int) (a2 : Int) (g : uZ) (v4 : Int) : Option Int :=
  ck a1 <| if a1 = 0 then
  (GJ_X12_part_8 v4)
  else
  (ck a2 <| if a2 = 1 then
  (GJ_X12_part_8 v4)
  else
  (cp (GF_X12_lagOnPath (a1 - 1) g) fun v7 =>
  cp (GF_X12_lagOnPath a1 g) fun v8 =>
  ck v7 <| if v7 ≤ 0 then
  (GJ_X12_part_1 a2 v7 v8 g)
  else
  (ck v8 <| if v8 ≤ 0 then
  (GJ_X12_part_1 a2 v7 v8 g)
  else
  (GJ_X12_part_7 a2 v7 v8 g 1))))
def GF_X12_part (a1 : Int) (a2 : Int) (g : uZ) : Option Int :=
  ck a2 <| if a2 = 1 then
  (rdZ (g 69) 110 a1 fun v2 =>
  cp (GF_X12_ownAt a1 v2 g) fun v3 =>
  GJ_X12_part_9 a1 a2 g v3)
  else
  (GJ_X12_part_9 a1 a2 g 0)
def GB_X12_cost_2 (a1 : Int) (g6 : uZ) (w8 : Int) (w9 : Int) : Option ((Int × Int) ⊕ Int) :=
  ck (g6 55 17) <| ck w9 <| if (g6 55 17) ≤ w9 then
  (some (Sum.inr w8))
  else
  (cp (GF_X12_part w9 a1 g6) fun v12 =>
  lt (w8 + v12) fun v13 =>
  lt (w9 + 1) fun v14 =>
  some (Sum.inl (v13, v14)))
def GC_X12_cost_3 (g6 : uZ) (v10 : Int) : Option (Int × uZ) :=
  some (v10, g6)
def GF_X12_cost (a1 : Int) (g : uZ) : Option (Int × uZ) :=
  pfZ g 55 9 0 fun g1 =>
  cp (GF_X12_isIn a1 0 4 g1) fun v2 =>
  clZ (GF_X12_right v2 1 g1) fun v4 g3 =>
  ck v4 <| if v4 = 0 then
  (some (0, g3))
  else
  (cp (GF_X12_laysPath g3) fun g6 =>
  ck a1 <| if a1 = 0 then
  (cp (GF_X12_leastOfAll g6) fun v15 =>
  some (v15, g6))
  else
  (lp (fun z => GB_X12_cost_2 a1 g6 z.1 z.2) (0, 0) (fun z => GC_X12_cost_3 g6 z)))
def GF_X12_path (a1 : Int) (g : uZ) : Option (Int × uZ) :=
  pfZ g 55 9 0 fun g1 =>
  clZ (GF_X12_isFrame a1 g1) fun v3 g2 =>
  ck v3 <| if v3 = 0 then
  (some (0, g2))
  else
  (cp (GF_X12_laysPath g2) fun g5 =>
  rdZ (g5 69) 110 a1 fun v6 =>
  some (v6, g5))
def GF_X12_lag (a1 : Int) (g : uZ) : Option (Int × uZ) :=
  pfZ g 55 9 0 fun g1 =>
  clZ (GF_X12_isFrame a1 g1) fun v3 g2 =>
  ck v3 <| if v3 = 0 then
  (some (0, g2))
  else
  (cp (GF_X12_laysPath g2) fun g5 =>
  cp (GF_X12_lagOnPath a1 g5) fun v6 =>
  some (v6, g5))
def GF_X12_through (a1 : Int) (a2 : Int) (g : uZ) : Option (Int × uZ) :=
  pfZ g 55 9 0 fun g1 =>
  clZ (GF_X12_isCandidate a1 a2 g1) fun v3 g2 =>
  ck v3 <| if v3 = 0 then
  (some (0, g2))
  else
  (cp (GF_X12_laysAll g2) fun g5 =>
  cp (GF_X12_opens g5) fun g6 =>
  cp (GF_X12_leavesOnly a1 a2 g6) fun g7 =>
  cp (GF_X12_laysCosts ((g7 55 17) - 1) g7) fun g8 =>
  cp (GF_X12_leastOfAll g8) fun v9 =>
  some (v9, g8))
def GJ_X12_both_1 (g19 : uZ) : Option (Int × uZ) :=
  some (0, g19)
def GF_X12_both (a1 : Int) (a2 : Int) (a3 : Int) (a4 : Int) (g : uZ) : Option (Int × uZ) :=
  pfZ g 55 9 0 fun g1 =>
  clZ (GF_X12_isCandidate a1 a2 g1) fun v3 g2 =>
  ck v3 <| if v3 = 0 then
  (GJ_X12_both_1 g2)
  else
  (clZ (GF_X12_isCandidate a3 a4 g2) fun v6 g5 =>
  ck v6 <| if v6 = 0 then
  (GJ_X12_both_1 g5)
  else
  (ck a3 <| ck a1 <| lt (if a3 ≤ a1 then 0 else 1) fun v9 =>
  clZ (GF_X12_right v9 2 g5) fun v11 g10 =>
  ck v11 <| if v11 = 0 then
  (GJ_X12_both_1 g10)
  else
  (cp (GF_X12_laysAll g10) fun g13 =>
  cp (GF_X12_opens g13) fun g14 =>
  cp (GF_X12_leavesOnly a1 a2 g14) fun g15 =>
  cp (GF_X12_leavesOnly a3 a4 g15) fun g16 =>
  cp (GF_X12_laysCosts ((g16 55 17) - 1) g16) fun g17 =>
  cp (GF_X12_leastOfAll g17) fun v18 =>
  some (v18, g17))))
def GB_X12_single_3 (w4 : Int) (w8 : Int) (g9 : uZ) : Option ((Int × uZ) ⊕ uZ) :=
  rdZ (g9 66) 110 w4 fun v11 =>
  ck v11 <| ck w8 <| if v11 ≤ w8 then
  (some (Sum.inr g9))
  else
  (cp (GF_X12_doubleOf w4 w8 g9) fun v13 =>
  ck v13 <| lt (if v13 = (-1) then 0 else 1) fun v15 =>
  wrZ g9 70 660 ((6 * w4) + w8) (vp_nar .boolean (zI v15)).toInt fun g16 =>
  lt (w8 + 1) fun v17 =>
  some (Sum.inl (v17, g16)))
def GC_X12_single_4 (w4 : Int) (g10 : uZ) : Option ((Int × uZ) ⊕ uZ) :=
  lt (w4 + 1) fun v18 =>
  some (Sum.inl (v18, g10))
def GB_X12_single_5 (w4 : Int) (g5 : uZ) : Option ((Int × uZ) ⊕ uZ) :=
  ck (g5 55 17) <| ck w4 <| if (g5 55 17) ≤ w4 then
  (some (Sum.inr g5))
  else
  (lp (fun z => GB_X12_single_3 w4 z.1 z.2) (0, g5) (fun z => GC_X12_single_4 w4 z))
def GC_X12_single_6 (g6 : uZ) : Option (Int × uZ) :=
  cp (GF_X12_laysCosts ((g6 55 17) - 1) g6) fun g19 =>
  cp (GF_X12_leastOfAll g19) fun v20 =>
  some (v20, g19)
def GF_X12_single (g : uZ) : Option (Int × uZ) :=
  pfZ g 55 9 0 fun g1 =>
  cp (GF_X12_laysAll g1) fun g2 =>
  cp (GF_X12_opens g2) fun g3 =>
  lp (fun z => GB_X12_single_5 z.1 z.2) (0, g3) (fun z => GC_X12_single_6 z)
def GF_X12_livesBy (a1 : Int) (a2 : Int) (g : uZ) : Option (Int × uZ) :=
  ck (g 55 17) <| ck (a1 + a2) <| lt (if (g 55 17) ≤ (a1 + a2) then ((g 55 17) - 1) else (a1 + a2)) fun v2 =>
  cp (GF_X12_laysCosts v2 g) fun g3 =>
  cp (GF_X12_goesAlong g3) fun g4 =>
  rdZ (g4 69) 110 a1 fun v5 =>
  some (v5, g4)
def GJ_X12_live_1 (g13 : uZ) : Option (Int × uZ) :=
  some (0, g13)
def GF_X12_live (a1 : Int) (a2 : Int) (g : uZ) : Option (Int × uZ) :=
  pfZ g 55 9 0 fun g1 =>
  clZ (GF_X12_isFrame a1 g1) fun v3 g2 =>
  ck v3 <| if v3 = 0 then
  (GJ_X12_live_1 g2)
  else
  (cp (GF_X12_isIn a2 0 20 g2) fun v5 =>
  clZ (GF_X12_right v5 2 g2) fun v7 g6 =>
  ck v7 <| if v7 = 0 then
  (GJ_X12_live_1 g6)
  else
  (cp (GF_X12_laysAll g6) fun g9 =>
  cp (GF_X12_opens g9) fun g10 =>
  clZ (GF_X12_livesBy a1 a2 g10) fun v12 g11 =>
  some (v12, g11)))
def GB_X12_settles_2 (a1 : Int) (v8 : Int) (w9 : Int) (g10 : uZ) : Option ((Int × uZ) ⊕ (Int × uZ)) :=
  ck w9 <| if w9 ≤ 0 then
  (some (Sum.inr (w9, g10)))
  else
  (clZ (GF_X12_livesBy a1 (w9 - 1) g10) fun v15 g14 =>
  ck v15 <| ck v8 <| if v15 = v8 then
  (lt (w9 + (-1)) fun v17 =>
  some (Sum.inl (v17, g14)))
  else
  (some (Sum.inr (w9, g14))))
def GC_X12_settles_3 (v11 : Int) (g12 : uZ) : Option (Int × uZ) :=
  some (v11, g12)
def GF_X12_settles (a1 : Int) (g : uZ) : Option (Int × uZ) :=
  pfZ g 55 9 0 fun g1 =>
  clZ (GF_X12_isFrame a1 g1) fun v3 g2 =>
  ck v3 <| if v3 = 0 then
  (some (0, g2))
  else
  (cp (GF_X12_laysAll g2) fun g5 =>
  cp (GF_X12_opens g5) fun g6 =>
  clZ (GF_X12_livesBy a1 20 g6) fun v8 g7 =>
  lp (fun z => GB_X12_settles_2 a1 v8 z.1 z.2) (20, g7) (fun z => GC_X12_settles_3 z.1 z.2))
def GJ_X12_would_2 (a1 : Int) (a2 : Int) (g1 : uZ) (v6 : Int) : Option (Int × uZ) :=
  clZ (GF_X12_right v6 1 g1) fun v8 g7 =>
  ck v8 <| if v8 = 0 then
  (some (0, g7))
  else
  (cp (GF_X12_laysAll g7) fun g10 =>
  cp (GF_X12_opens g10) fun g11 =>
  pfZ g11 55 21 a1 fun g12 =>
  pfZ g12 55 22 a2 fun g13 =>
  cp (GF_X12_laysCosts ((g13 55 17) - 1) g13) fun g14 =>
  cp (GF_X12_leastOfAll g14) fun v15 =>
  some (v15, g14))
def GJ_X12_would_1 (a1 : Int) (a2 : Int) (g1 : uZ) : Option (Int × uZ) :=
  GJ_X12_would_2 a1 a2 g1 0
def GF_X12_would (a1 : Int) (a2 : Int) (g : uZ) : Option (Int × uZ) :=
  pfZ g 55 9 0 fun g1 =>
  cp (GF_X12_isIn a1 0 2000 g1) fun v2 =>
  ck v2 <| if v2 = 0 then
  (GJ_X12_would_1 a1 a2 g1)
  else
  (cp (GF_X12_isIn a2 0 2000 g1) fun v4 =>
  ck v4 <| if v4 = 0 then
  (GJ_X12_would_1 a1 a2 g1)
  else
  (GJ_X12_would_2 a1 a2 g1 1))
def GB_X12_doubled_2 (g2 : uZ) (w3 : Int) (w4 : Int) : Option ((Int × Int) ⊕ Int) :=
  ck (g2 55 17) <| ck w4 <| if (g2 55 17) ≤ w4 then
  (some (Sum.inr w3))
  else
  (rdZ (g2 69) 110 w4 fun v7 =>
  cp (GF_X12_doubleOf w4 v7 g2) fun v8 =>
  ck v8 <| lt (if v8 = (-1) then 0 else 1) fun v10 =>
  lt (w3 + v10) fun v11 =>
  lt (w4 + 1) fun v12 =>
  some (Sum.inl (v11, v12)))
def GC_X12_doubled_3 (g2 : uZ) (v5 : Int) : Option (Int × uZ) :=
  some (v5, g2)
def GF_X12_doubled (g : uZ) : Option (Int × uZ) :=
  pfZ g 55 9 0 fun g1 =>
  cp (GF_X12_laysPath g1) fun g2 =>
  lp (fun z => GB_X12_doubled_2 g2 z.1 z.2) (0, 0) (fun z => GC_X12_doubled_3 g2 z)
def GF_X12_rankAt (a1 : Int) (a2 : Int) (a3 : Int) (g : uZ) : Option Int :=
  some ((8 * ((6 * a1) + a2)) + a3)
def GB_X12_ranks_2 (a1 : Int) (a2 : Int) (a3 : Int) (g : uZ) (w3 : Int) : Option (Int ⊕ Int) :=
  ck w3 <| if w3 ≤ 0 then
  (some (Sum.inr w3))
  else
  (cp (GF_X12_rankAt a1 a2 (w3 - 1) g) fun v6 =>
  rdZ (g 71) 5280 v6 fun v7 =>
  ck v7 <| ck a3 <| if v7 ≤ a3 then
  (some (Sum.inr w3))
  else
  (lt (w3 + (-1)) fun v9 =>
  some (Sum.inl v9)))
def GB_X12_ranks_4 (a1 : Int) (a2 : Int) (v4 : Int) (w15 : Int) (g16 : uZ) : Option ((Int × uZ) ⊕ uZ) :=
  ck w15 <| ck v4 <| if w15 ≤ v4 then
  (some (Sum.inr g16))
  else
  (cp (GF_X12_rankAt a1 a2 w15 g16) fun v19 =>
  cp (GF_X12_rankAt a1 a2 (w15 - 1) g16) fun v20 =>
  rdZ (g16 71) 5280 v20 fun v21 =>
  wrZ g16 71 5280 v19 v21 fun g22 =>
  cp (GF_X12_rankAt a1 a2 w15 g22) fun v23 =>
  cp (GF_X12_rankAt a1 a2 (w15 - 1) g22) fun v24 =>
  rdZ (g22 72) 5280 v24 fun v25 =>
  wrZ g22 72 5280 v23 v25 fun g26 =>
  cp (GF_X12_rankAt a1 a2 w15 g26) fun v27 =>
  cp (GF_X12_rankAt a1 a2 (w15 - 1) g26) fun v28 =>
  rdZ (g26 73) 5280 v28 fun v29 =>
  wrZ g26 73 5280 v27 v29 fun g30 =>
  lt (w15 + (-1)) fun v31 =>
  some (Sum.inl (v31, g30)))
def GC_X12_ranks_5 (a1 : Int) (a2 : Int) (a3 : Int) (a4 : Int) (a5 : Int) (v1 : Int) (v4 : Int) (v14 : Int) (g17 : uZ) : Option uZ :=
  cp (GF_X12_rankAt a1 a2 v4 g17) fun v32 =>
  wrZ g17 71 5280 v32 a3 fun g33 =>
  cp (GF_X12_rankAt a1 a2 v4 g33) fun v34 =>
  wrZ g33 72 5280 v34 a4 fun g35 =>
  cp (GF_X12_rankAt a1 a2 v4 g35) fun v36 =>
  wrZ g35 73 5280 v36 a5 fun g37 =>
  wrZ g37 74 660 v1 (v14 + 1) fun g38 =>
  some g38
def GJ_X12_ranks_6 (a1 : Int) (a2 : Int) (a3 : Int) (a4 : Int) (a5 : Int) (v1 : Int) (v4 : Int) (g : uZ) (v14 : Int) : Option uZ :=
  lp (fun z => GB_X12_ranks_4 a1 a2 v4 z.1 z.2) (v14, g) (fun z => GC_X12_ranks_5 a1 a2 a3 a4 a5 v1 v4 v14 z)
def GC_X12_ranks_7 (a1 : Int) (a2 : Int) (a3 : Int) (a4 : Int) (a5 : Int) (v1 : Int) (g : uZ) (v4 : Int) : Option uZ :=
  ck v4 <| if v4 = 8 then
  (some g)
  else
  (rdZ (g 74) 660 v1 fun v11 =>
  ck v11 <| if 8 ≤ v11 then
  (GJ_X12_ranks_6 a1 a2 a3 a4 a5 v1 v4 g 7)
  else
  (rdZ (g 74) 660 v1 fun v13 =>
  GJ_X12_ranks_6 a1 a2 a3 a4 a5 v1 v4 g v13))
def GF_X12_ranks (a1 : Int) (a2 : Int) (a3 : Int) (a4 : Int) (a5 : Int) (g : uZ) : Option uZ :=
  lt ((6 * a1) + a2) fun v1 =>
  rdZ (g 74) 660 v1 fun v2 =>
  lp (fun z => GB_X12_ranks_2 a1 a2 a3 g z) v2 (fun z => GC_X12_ranks_7 a1 a2 a3 a4 a5 v1 g z)
def GB_X12_ranksFrom_3 (a1 : Int) (a2 : Int) (v10 : Int) (w3 : Int) (w11 : Int) (g12 : uZ) : Option ((Int × uZ) ⊕ uZ) :=
  rdZ (g12 74) 660 ((6 * (a1 + 1)) + w3) fun v14 =>
  ck v14 <| ck w11 <| if v14 ≤ w11 then
  (some (Sum.inr g12))
  else
  (cp (GF_X12_rankAt (a1 + 1) w3 w11 g12) fun v16 =>
  rdZ (g12 71) 5280 v16 fun v17 =>
  cp (GF_X12_ranks a1 a2 (v10 + v17) w3 w11 g12) fun g18 =>
  lt (w11 + 1) fun v19 =>
  some (Sum.inl (v19, g18)))
def GC_X12_ranksFrom_4 (w3 : Int) (g13 : uZ) : Option ((Int × uZ) ⊕ uZ) :=
  lt (w3 + 1) fun v20 =>
  some (Sum.inl (v20, g13))
def GB_X12_ranksFrom_5 (a1 : Int) (a2 : Int) (w3 : Int) (g4 : uZ) : Option ((Int × uZ) ⊕ uZ) :=
  rdZ (g4 66) 110 (a1 + 1) fun v6 =>
  ck v6 <| ck w3 <| if v6 ≤ w3 then
  (some (Sum.inr g4))
  else
  (cp (GF_X12_ownAt a1 a2 g4) fun v8 =>
  cp (GF_X12_between a1 a2 w3 g4) fun v9 =>
  lt (v8 + v9) fun v10 =>
  lp (fun z => GB_X12_ranksFrom_3 a1 a2 v10 w3 z.1 z.2) (0, g4) (fun z => GC_X12_ranksFrom_4 w3 z))
def GC_X12_ranksFrom_6 (g5 : uZ) : Option uZ :=
  some g5
def GF_X12_ranksFrom (a1 : Int) (a2 : Int) (g : uZ) : Option uZ :=
  wrZ g 74 660 ((6 * a1) + a2) 0 fun g1 =>
  ck a1 <| ck ((g1 55 17) - 1) <| if a1 = ((g1 55 17) - 1) then
  (cp (GF_X12_ownAt a1 a2 g1) fun v21 =>
  cp (GF_X12_ranks a1 a2 v21 (-1) (-1) g1) fun g22 =>
  some g22)
  else
  (lp (fun z => GB_X12_ranksFrom_5 a1 a2 z.1 z.2) (0, g1) (fun z => GC_X12_ranksFrom_6 z))
def GB_X12_tops_2 (a1 : Int) (g : uZ) (w2 : Int) : Option (Int ⊕ Int) :=
  ck w2 <| if w2 ≤ 0 then
  (some (Sum.inr w2))
  else
  (rdZ (g 75) 9 (w2 - 1) fun v5 =>
  ck v5 <| ck a1 <| if v5 ≤ a1 then
  (some (Sum.inr w2))
  else
  (lt (w2 + (-1)) fun v7 =>
  some (Sum.inl v7)))
def GB_X12_tops_4 (v3 : Int) (w13 : Int) (g14 : uZ) : Option ((Int × uZ) ⊕ uZ) :=
  ck w13 <| ck v3 <| if w13 ≤ v3 then
  (some (Sum.inr g14))
  else
  (rdZ (g14 75) 9 (w13 - 1) fun v17 =>
  wrZ g14 75 9 w13 v17 fun g18 =>
  rdZ (g18 76) 9 (w13 - 1) fun v19 =>
  wrZ g18 76 9 w13 v19 fun g20 =>
  rdZ (g20 77) 9 (w13 - 1) fun v21 =>
  wrZ g20 77 9 w13 v21 fun g22 =>
  lt (w13 + (-1)) fun v23 =>
  some (Sum.inl (v23, g22)))
def GC_X12_tops_5 (a1 : Int) (a2 : Int) (a3 : Int) (v3 : Int) (g15 : uZ) : Option uZ :=
  wrZ g15 75 9 v3 a1 fun g24 =>
  wrZ g24 76 9 v3 a2 fun g25 =>
  wrZ g25 77 9 v3 a3 fun g26 =>
  some g26
def GC_X12_tops_6 (a1 : Int) (a2 : Int) (a3 : Int) (g : uZ) (v3 : Int) : Option uZ :=
  ck v3 <| if v3 = 8 then
  (some g)
  else
  (ck (g 55 31) <| lt (if 8 ≤ (g 55 31) then 8 else ((g 55 31) + 1)) fun v10 =>
  pfZ g 55 31 v10 fun g11 =>
  lt ((g11 55 31) - 1) fun v12 =>
  lp (fun z => GB_X12_tops_4 v3 z.1 z.2) (v12, g11) (fun z => GC_X12_tops_5 a1 a2 a3 v3 z))
def GF_X12_tops (a1 : Int) (a2 : Int) (a3 : Int) (g : uZ) : Option uZ :=
  lt (g 55 31) fun v1 =>
  lp (fun z => GB_X12_tops_2 a1 g z) v1 (fun z => GC_X12_tops_6 a1 a2 a3 g z)
def GB_X12_laysTops_3 (w5 : Int) (w9 : Int) (g10 : uZ) : Option ((Int × uZ) ⊕ uZ) :=
  rdZ (g10 66) 110 w5 fun v12 =>
  ck v12 <| ck w9 <| if v12 ≤ w9 then
  (some (Sum.inr g10))
  else
  (cp (GF_X12_ranksFrom w5 w9 g10) fun g14 =>
  lt (w9 + 1) fun v15 =>
  some (Sum.inl (v15, g14)))
def GC_X12_laysTops_4 (w5 : Int) (g11 : uZ) : Option ((Int × uZ) ⊕ uZ) :=
  lt (w5 + (-1)) fun v16 =>
  some (Sum.inl (v16, g11))
def GB_X12_laysTops_5 (w5 : Int) (g6 : uZ) : Option ((Int × uZ) ⊕ uZ) :=
  ck w5 <| if w5 < 0 then
  (some (Sum.inr g6))
  else
  (lp (fun z => GB_X12_laysTops_3 w5 z.1 z.2) (0, g6) (fun z => GC_X12_laysTops_4 w5 z))
def GB_X12_laysTops_8 (w18 : Int) (w23 : Int) (g24 : uZ) : Option ((Int × uZ) ⊕ uZ) :=
  rdZ (g24 74) 660 w18 fun v26 =>
  ck v26 <| ck w23 <| if v26 ≤ w23 then
  (some (Sum.inr g24))
  else
  (cp (GF_X12_rankAt 0 w18 w23 g24) fun v28 =>
  rdZ (g24 71) 5280 v28 fun v29 =>
  cp (GF_X12_tops v29 w18 w23 g24) fun g30 =>
  lt (w23 + 1) fun v31 =>
  some (Sum.inl (v31, g30)))
def GC_X12_laysTops_9 (w18 : Int) (g25 : uZ) : Option ((Int × uZ) ⊕ uZ) :=
  lt (w18 + 1) fun v32 =>
  some (Sum.inl (v32, g25))
def GB_X12_laysTops_10 (w18 : Int) (g19 : uZ) : Option ((Int × uZ) ⊕ uZ) :=
  rdZ (g19 66) 110 0 fun v21 =>
  ck v21 <| ck w18 <| if v21 ≤ w18 then
  (some (Sum.inr g19))
  else
  (lp (fun z => GB_X12_laysTops_8 w18 z.1 z.2) (0, g19) (fun z => GC_X12_laysTops_9 w18 z))
def GC_X12_laysTops_11 (g20 : uZ) : Option uZ :=
  some g20
def GC_X12_laysTops_12 (g7 : uZ) : Option uZ :=
  ck (g7 55 17) <| if (g7 55 17) = 0 then
  (cp (GF_X12_tops 0 (-1) (-1) g7) fun g33 =>
  some g33)
  else
  (lp (fun z => GB_X12_laysTops_10 z.1 z.2) (0, g7) (fun z => GC_X12_laysTops_11 z))
def GF_X12_laysTops (g : uZ) : Option uZ :=
  cp (GF_X12_laysAll g) fun g1 =>
  cp (GF_X12_opens g1) fun g2 =>
  pfZ g2 55 31 0 fun g3 =>
  lt ((g3 55 17) - 1) fun v4 =>
  lp (fun z => GB_X12_laysTops_5 z.1 z.2) (v4, g3) (fun z => GC_X12_laysTops_12 z)
def GJ_X12_best_1 (g6 : uZ) (v9 : Int) : Option (Int × uZ) :=
  some (v9, g6)
def GF_X12_best (a1 : Int) (g : uZ) : Option (Int × uZ) :=
  pfZ g 55 9 0 fun g1 =>
  cp (GF_X12_isIn a1 0 7 g1) fun v2 =>
  clZ (GF_X12_right v2 1 g1) fun v4 g3 =>
  ck v4 <| if v4 = 0 then
  (some (0, g3))
  else
  (cp (GF_X12_laysTops g3) fun g6 =>
  ck (g6 55 31) <| ck a1 <| if (g6 55 31) ≤ a1 then
  (GJ_X12_best_1 g6 (-1))
  else
  (rdZ (g6 75) 9 a1 fun v8 =>
  GJ_X12_best_1 g6 v8))
def GB_X12_bestAt_2 (a2 : Int) (g11 : uZ) (w15 : Int) (w16 : Int) (w17 : Int) : Option ((Int × (Int × Int)) ⊕ Int) :=
  ck a2 <| ck w17 <| if a2 ≤ w17 then
  (some (Sum.inr w15))
  else
  (cp (GF_X12_rankAt w17 w15 w16 g11) fun v20 =>
  rdZ (g11 72) 5280 v20 fun v21 =>
  rdZ (g11 73) 5280 v20 fun v22 =>
  lt (w17 + 1) fun v23 =>
  some (Sum.inl (v21, (v22, v23))))
def GC_X12_bestAt_3 (g11 : uZ) (v18 : Int) : Option (Int × uZ) :=
  some (v18, g11)
def GJ_X12_bestAt_4 (g24 : uZ) : Option (Int × uZ) :=
  some (0, g24)
def GF_X12_bestAt (a1 : Int) (a2 : Int) (g : uZ) : Option (Int × uZ) :=
  pfZ g 55 9 0 fun g1 =>
  cp (GF_X12_isIn a1 0 7 g1) fun v2 =>
  clZ (GF_X12_right v2 1 g1) fun v4 g3 =>
  ck v4 <| if v4 = 0 then
  (GJ_X12_bestAt_4 g3)
  else
  (cp (GF_X12_frames g3) fun v6 =>
  cp (GF_X12_isIn a2 0 (v6 - 1) g3) fun v7 =>
  clZ (GF_X12_right v7 2 g3) fun v9 g8 =>
  ck v9 <| if v9 = 0 then
  (GJ_X12_bestAt_4 g8)
  else
  (cp (GF_X12_laysTops g8) fun g11 =>
  ck a1 <| ck (g11 55 31) <| if a1 < (g11 55 31) then
  (rdZ (g11 76) 9 a1 fun v13 =>
  rdZ (g11 77) 9 a1 fun v14 =>
  lp (fun z => GB_X12_bestAt_2 a2 g11 z.1 z.2.1 z.2.2) (v13, (v14, 0)) (fun z => GC_X12_bestAt_3 g11 z))
  else
  (some ((-1), g11))))
def GJ_X12_laysSpans_3 (w3 : Int) (g17 : uZ) : Option ((Int × uZ) ⊕ uZ) :=
  lt (w3 + 1) fun v18 =>
  some (Sum.inl (v18, g17))
def GJ_X12_laysSpans_2 (w3 : Int) (g4 : uZ) : Option ((Int × uZ) ⊕ uZ) :=
  wrZ g4 78 111 (g4 55 33) w3 fun g15 =>
  pfZ g15 55 33 ((g15 55 33) + 1) fun g16 =>
  GJ_X12_laysSpans_3 w3 g16
def GB_X12_laysSpans_4 (w3 : Int) (g4 : uZ) : Option ((Int × uZ) ⊕ uZ) :=
  ck (g4 55 17) <| ck w3 <| if (g4 55 17) ≤ w3 then
  (some (Sum.inr g4))
  else
  (if w3 = 0 then
  (GJ_X12_laysSpans_2 w3 g4)
  else
  (cp (GF_X12_lagOnPath w3 g4) fun v8 =>
  ck v8 <| lt (if v8 ≤ 0 then 0 else 1) fun v10 =>
  cp (GF_X12_lagOnPath (w3 - 1) g4) fun v11 =>
  ck v11 <| lt (if v11 ≤ 0 then 0 else 1) fun v13 =>
  ck v10 <| ck v13 <| if v10 = v13 then
  (GJ_X12_laysSpans_3 w3 g4)
  else
  (GJ_X12_laysSpans_2 w3 g4)))
def GC_X12_laysSpans_5 (g5 : uZ) : Option uZ :=
  wrZ g5 78 111 (g5 55 33) (g5 55 17) fun g19 =>
  some g19
def GF_X12_laysSpans (g : uZ) : Option uZ :=
  cp (GF_X12_laysPath g) fun g1 =>
  pfZ g1 55 33 0 fun g2 =>
  lp (fun z => GB_X12_laysSpans_4 z.1 z.2) (0, g2) (fun z => GC_X12_laysSpans_5 z)
def GF_X12_isVoiced (a1 : Int) (g : uZ) : Option Int :=
  rdZ (g 78) 111 a1 fun v1 =>
  cp (GF_X12_lagOnPath v1 g) fun v2 =>
  ck v2 <| lt (if v2 ≤ 0 then 0 else 1) fun v4 =>
  bzZ v4 <|
  some v4
def GF_X12_firstSample (a1 : Int) (g : uZ) : Option Int :=
  rdZ (g 78) 111 a1 fun v1 =>
  rdZ (g 56) 16 2 fun v2 =>
  some (v1 * v2)
def GF_X12_behindSpan (a1 : Int) (g : uZ) : Option Int :=
  rdZ (g 78) 111 (a1 + 1) fun v1 =>
  rdZ (g 56) 16 2 fun v2 =>
  lt (v1 * v2) fun v3 =>
  ck (g 55 6) <| ck v3 <| lt (if (g 55 6) ≤ v3 then (g 55 6) else v3) fun v5 =>
  some v5
def GF_X12_spans (g : uZ) : Option (Int × uZ) :=
  pfZ g 55 9 0 fun g1 =>
  cp (GF_X12_laysSpans g1) fun g2 =>
  some ((g2 55 33), g2)
def GF_X12_periodAt (a1 : Int) (a2 : Int) (g : uZ) : Option Int :=
  rdZ (g 56) 16 2 fun v1 =>
  dvZ a2 v1 fun v2 =>
  rdZ (g 78) 111 (a1 + 1) fun v3 =>
  lt (v3 - 1) fun v4 =>
  ck v4 <| ck v2 <| lt (if v4 ≤ v2 then v4 else v2) fun v6 =>
  cp (GF_X12_lagOnPath v6 g) fun v7 =>
  some v7
def GF_X12_lesser (a1 : Int) (a2 : Int) (g : uZ) : Option Int :=
  ck a2 <| ck a1 <| lt (if a2 ≤ a1 then a2 else a1) fun v2 =>
  some v2
def GJ_X12_laysBehind_3 (w9 : Int) (v19 : Int) (v20 : Int) : Option ((Int × (Int × Int)) ⊕ (Int × Int)) :=
  lt (w9 + 1) fun v21 =>
  some (Sum.inl (v19, (v20, v21)))
def GJ_X12_laysBehind_2 (v16 : Int) (w9 : Int) : Option ((Int × (Int × Int)) ⊕ (Int × Int)) :=
  GJ_X12_laysBehind_3 w9 w9 v16
def GB_X12_laysBehind_4 (a2 : Int) (v1 : Int) (v6 : Int) (g : uZ) (w7 : Int) (w8 : Int) (w9 : Int) : Option ((Int × (Int × Int)) ⊕ (Int × Int)) :=
  ck v6 <| ck w9 <| if v6 < w9 then
  (some (Sum.inr (w7, w8)))
  else
  (rdZ (g 86) 800 w9 fun v13 =>
  rdZ (g 56) 16 13 fun v14 =>
  cp (GF_X12_apart (w9 - a2) v1 g) fun v15 =>
  lt (v13 - (v14 * v15)) fun v16 =>
  ck w7 <| if w7 = (-1) then
  (GJ_X12_laysBehind_2 v16 w9)
  else
  (ck v16 <| ck w8 <| if v16 ≤ w8 then
  (GJ_X12_laysBehind_3 w9 w7 w8)
  else
  (GJ_X12_laysBehind_2 v16 w9)))
def GC_X12_laysBehind_5 (a2 : Int) (g : uZ) (v10 : Int) (v11 : Int) : Option uZ :=
  wrZ g 87 800 a2 v10 fun g22 =>
  rdZ (g22 59) 800 a2 fun v23 =>
  wrZ g22 86 800 a2 (v23 + v11) fun g24 =>
  some g24
def GF_X12_laysBehind (a1 : Int) (a2 : Int) (g : uZ) : Option uZ :=
  cp (GF_X12_periodAt a1 a2 g) fun v1 =>
  dvZ v1 4 fun v2 =>
  lt ((a2 + v1) - v2) fun v3 =>
  dvZ v1 4 fun v4 =>
  cp (GF_X12_behindSpan a1 g) fun v5 =>
  cp (GF_X12_lesser ((a2 + v1) + v4) (v5 - 1) g) fun v6 =>
  lp (fun z => GB_X12_laysBehind_4 a2 v1 v6 g z.1 z.2.1 z.2.2) ((-1), (0, v3)) (fun z => GC_X12_laysBehind_5 a2 g z.1 z.2)
def GB_X12_marksOf_2 (a1 : Int) (v1 : Int) (w4 : Int) (g5 : uZ) : Option ((Int × uZ) ⊕ uZ) :=
  ck w4 <| ck v1 <| if w4 < v1 then
  (some (Sum.inr g5))
  else
  (cp (GF_X12_laysBehind a1 w4 g5) fun g8 =>
  lt (w4 + (-1)) fun v9 =>
  some (Sum.inl (v9, g8)))
def GB_X12_marksOf_4 (a1 : Int) (v1 : Int) (v2 : Int) (g6 : uZ) (w10 : Int) (w11 : Int) : Option ((Int × Int) ⊕ Int) :=
  cp (GF_X12_periodAt a1 v1 g6) fun v13 =>
  cp (GF_X12_lesser (v1 + v13) v2 g6) fun v14 =>
  ck v14 <| ck w11 <| if v14 ≤ w11 then
  (some (Sum.inr w10))
  else
  (rdZ (g6 86) 800 w11 fun v16 =>
  rdZ (g6 86) 800 w10 fun v17 =>
  ck v16 <| ck v17 <| lt (if v16 ≤ v17 then w10 else w11) fun v19 =>
  lt (w11 + 1) fun v20 =>
  some (Sum.inl (v19, v20)))
def GB_X12_marksOf_6 (a1 : Int) (w23 : Int) (g24 : uZ) : Option ((Int × uZ) ⊕ uZ) :=
  ck w23 <| if w23 = (-1) then
  (some (Sum.inr g24))
  else
  (wrZ g24 88 400 (g24 55 49) w23 fun g27 =>
  wrZ g27 89 400 (g27 55 49) a1 fun g28 =>
  pfZ g28 55 49 ((g28 55 49) + 1) fun g29 =>
  rdZ (g29 87) 800 w23 fun v30 =>
  some (Sum.inl (v30, g29)))
def GC_X12_marksOf_7 (g25 : uZ) : Option uZ :=
  some g25
def GC_X12_marksOf_8 (a1 : Int) (g6 : uZ) (v12 : Int) : Option uZ :=
  rdZ (g6 86) 800 v12 fun v21 =>
  wrZ g6 91 110 a1 v21 fun g22 =>
  lp (fun z => GB_X12_marksOf_6 a1 z.1 z.2) (v12, g22) (fun z => GC_X12_marksOf_7 z)
def GC_X12_marksOf_9 (a1 : Int) (v1 : Int) (v2 : Int) (g6 : uZ) : Option uZ :=
  lp (fun z => GB_X12_marksOf_4 a1 v1 v2 g6 z.1 z.2) (v1, v1) (fun z => GC_X12_marksOf_8 a1 g6 z)
def GF_X12_marksOf (a1 : Int) (g : uZ) : Option uZ :=
  cp (GF_X12_firstSample a1 g) fun v1 =>
  cp (GF_X12_behindSpan a1 g) fun v2 =>
  lt (v2 - 1) fun v3 =>
  lp (fun z => GB_X12_marksOf_2 a1 v1 z.1 z.2) (v3, g) (fun z => GC_X12_marksOf_9 a1 v1 v2 z)
def GJ_X12_laysMarks_2 (w3 : Int) (g12 : uZ) : Option ((Int × uZ) ⊕ uZ) :=
  lt (w3 + 1) fun v13 =>
  some (Sum.inl (v13, g12))
def GB_X12_laysMarks_3 (w3 : Int) (g4 : uZ) : Option ((Int × uZ) ⊕ uZ) :=
  ck (g4 55 33) <| ck w3 <| if (g4 55 33) ≤ w3 then
  (some (Sum.inr g4))
  else
  (wrZ g4 90 111 w3 (g4 55 49) fun g7 =>
  wrZ g7 91 110 w3 0 fun g8 =>
  cp (GF_X12_isVoiced w3 g8) fun v9 =>
  ck v9 <| if v9 = 0 then
  (GJ_X12_laysMarks_2 w3 g8)
  else
  (cp (GF_X12_marksOf w3 g8) fun g11 =>
  GJ_X12_laysMarks_2 w3 g11))
def GC_X12_laysMarks_4 (g5 : uZ) : Option uZ :=
  wrZ g5 90 111 (g5 55 33) (g5 55 49) fun g14 =>
  some g14
def GF_X12_laysMarks (g : uZ) : Option uZ :=
  cp (GF_X12_laysSpans g) fun g1 =>
  pfZ g1 55 49 0 fun g2 =>
  lp (fun z => GB_X12_laysMarks_3 z.1 z.2) (0, g2) (fun z => GC_X12_laysMarks_4 z)
def GJ_X12_span_2 (a1 : Int) (a2 : Int) (g2 : uZ) (v7 : Int) : Option (Int × uZ) :=
  clZ (GF_X12_right v7 1 g2) fun v9 g8 =>
  ck v9 <| if v9 = 0 then
  (some (0, g8))
  else
  (ck a2 <| if a2 = 0 then
  (rdZ (g8 78) 111 a1 fun v12 =>
  some (v12, g8))
  else
  (if a2 = 1 then
  (rdZ (g8 78) 111 (a1 + 1) fun v14 =>
  rdZ (g8 78) 111 a1 fun v15 =>
  some ((v14 - v15), g8))
  else
  (if a2 = 2 then
  (cp (GF_X12_isVoiced a1 g8) fun v17 =>
  ck v17 <| lt (if v17 = 0 then 0 else 1) fun v19 =>
  some (v19, g8))
  else
  (if a2 = 3 then
  (cp (GF_X12_firstSample a1 g8) fun v21 =>
  some (v21, g8))
  else
  (if a2 = 4 then
  (cp (GF_X12_behindSpan a1 g8) fun v23 =>
  some (v23, g8))
  else
  (if a2 = 5 then
  (rdZ (g8 90) 111 (a1 + 1) fun v25 =>
  rdZ (g8 90) 111 a1 fun v26 =>
  some ((v25 - v26), g8))
  else
  (rdZ (g8 91) 110 a1 fun v27 =>
  some (v27, g8))))))))
def GJ_X12_span_1 (a1 : Int) (a2 : Int) (g2 : uZ) : Option (Int × uZ) :=
  GJ_X12_span_2 a1 a2 g2 0
def GF_X12_span (a1 : Int) (a2 : Int) (g : uZ) : Option (Int × uZ) :=
  pfZ g 55 9 0 fun g1 =>
  cp (GF_X12_laysMarks g1) fun g2 =>
  cp (GF_X12_isIn a1 0 ((g2 55 33) - 1) g2) fun v3 =>
  ck v3 <| if v3 = 0 then
  (GJ_X12_span_1 a1 a2 g2)
  else
  (cp (GF_X12_isIn a2 0 6 g2) fun v5 =>
  ck v5 <| if v5 = 0 then
  (GJ_X12_span_1 a1 a2 g2)
  else
  (GJ_X12_span_2 a1 a2 g2 1))
def GB_X12_sorts_2 (a2 : Int) (w1 : Int) (g2 : uZ) : Option ((Int × uZ) ⊕ (Int × uZ)) :=
  ck w1 <| if w1 ≤ 0 then
  (some (Sum.inr (w1, g2)))
  else
  (rdZ (g2 82) 110 (w1 - 1) fun v6 =>
  ck v6 <| ck a2 <| if v6 ≤ a2 then
  (some (Sum.inr (w1, g2)))
  else
  (rdZ (g2 82) 110 (w1 - 1) fun v8 =>
  wrZ g2 82 110 w1 v8 fun g9 =>
  lt (w1 + (-1)) fun v10 =>
  some (Sum.inl (v10, g9))))
def GC_X12_sorts_3 (a1 : Int) (a2 : Int) (v3 : Int) (g4 : uZ) : Option (Int × uZ) :=
  wrZ g4 82 110 v3 a2 fun g11 =>
  some ((a1 + 1), g11)
def GF_X12_sorts (a1 : Int) (a2 : Int) (g : uZ) : Option (Int × uZ) :=
  lp (fun z => GB_X12_sorts_2 a2 z.1 z.2) (a1, g) (fun z => GC_X12_sorts_3 a1 a2 z.1 z.2)
def GB_X12_middleOf_2 (a1 : Int) (a2 : Int) (w1 : Int) (w2 : Int) (g3 : uZ) : Option ((Int × (Int × uZ)) ⊕ (Int × uZ)) :=
  ck (a1 + a2) <| ck w2 <| if (a1 + a2) ≤ w2 then
  (some (Sum.inr (w1, g3)))
  else
  (cp (GF_X12_lagOnPath w2 g3) fun v7 =>
  clZ (GF_X12_sorts w1 v7 g3) fun v9 g8 =>
  lt (w2 + 1) fun v10 =>
  some (Sum.inl (v9, (v10, g8))))
def GC_X12_middleOf_3 (v4 : Int) (g5 : uZ) : Option (Int × uZ) :=
  dvZ (v4 - 1) 2 fun v11 =>
  rdZ (g5 82) 110 v11 fun v12 =>
  some (v12, g5)
def GF_X12_middleOf (a1 : Int) (a2 : Int) (g : uZ) : Option (Int × uZ) :=
  lp (fun z => GB_X12_middleOf_2 a1 a2 z.1 z.2.1 z.2.2) (0, (a1, g)) (fun z => GC_X12_middleOf_3 z.1 z.2)
def GJ_X12_goesOnNote_2 (v7 : Int) : Option Int :=
  bzZ v7 <|
  some v7
def GJ_X12_goesOnNote_1 : Option Int :=
  GJ_X12_goesOnNote_2 0
def GF_X12_goesOnNote (a1 : Int) (g : uZ) : Option Int :=
  cp (GF_X12_lagOnPath (a1 - 1) g) fun v1 =>
  cp (GF_X12_lagOnPath a1 g) fun v2 =>
  ck v1 <| if v1 ≤ 0 then
  (GJ_X12_goesOnNote_1)
  else
  (ck v2 <| if v2 ≤ 0 then
  (GJ_X12_goesOnNote_1)
  else
  (cp (GF_X12_apart v1 v2 g) fun v5 =>
  ck v5 <| if 1 < v5 then
  (GJ_X12_goesOnNote_1)
  else
  (GJ_X12_goesOnNote_2 1)))
def GB_X12_laysNotes_3 (g4 : uZ) (w8 : Int) : Option (Int ⊕ Int) :=
  ck (g4 55 17) <| ck w8 <| if (g4 55 17) ≤ w8 then
  (some (Sum.inr w8))
  else
  (cp (GF_X12_goesOnNote w8 g4) fun v11 =>
  ck v11 <| if v11 = 0 then
  (some (Sum.inr w8))
  else
  (lt (w8 + 1) fun v13 =>
  some (Sum.inl v13)))
def GJ_X12_laysNotes_4 (v9 : Int) (g22 : uZ) : Option ((Int × uZ) ⊕ uZ) :=
  some (Sum.inl (v9, g22))
def GC_X12_laysNotes_5 (w3 : Int) (g4 : uZ) (v9 : Int) : Option ((Int × uZ) ⊕ uZ) :=
  cp (GF_X12_lagOnPath w3 g4) fun v14 =>
  ck v14 <| if v14 ≤ 0 then
  (GJ_X12_laysNotes_4 v9 g4)
  else
  (wrZ g4 79 110 (g4 55 38) w3 fun g16 =>
  wrZ g16 80 110 (g16 55 38) (v9 - w3) fun g17 =>
  clZ (GF_X12_middleOf w3 (v9 - w3) g17) fun v19 g18 =>
  wrZ g18 81 110 (g17 55 38) v19 fun g20 =>
  pfZ g20 55 38 ((g20 55 38) + 1) fun g21 =>
  GJ_X12_laysNotes_4 v9 g21)
def GB_X12_laysNotes_6 (w3 : Int) (g4 : uZ) : Option ((Int × uZ) ⊕ uZ) :=
  ck (g4 55 17) <| ck w3 <| if (g4 55 17) ≤ w3 then
  (some (Sum.inr g4))
  else
  (lt (w3 + 1) fun v7 =>
  lp (fun z => GB_X12_laysNotes_3 g4 z) v7 (fun z => GC_X12_laysNotes_5 w3 g4 z))
def GC_X12_laysNotes_7 (g5 : uZ) : Option uZ :=
  some g5
def GF_X12_laysNotes (g : uZ) : Option uZ :=
  cp (GF_X12_laysPath g) fun g1 =>
  pfZ g1 55 38 0 fun g2 =>
  lp (fun z => GB_X12_laysNotes_6 z.1 z.2) (0, g2) (fun z => GC_X12_laysNotes_7 z)
def GF_X12_notes (g : uZ) : Option (Int × uZ) :=
  pfZ g 55 9 0 fun g1 =>
  cp (GF_X12_laysNotes g1) fun g2 =>
  some ((g2 55 38), g2)
def GJ_X12_note_2 (g8 : uZ) (v16 : Int) : Option (Int × uZ) :=
  some (v16, g8)
def GJ_X12_note_3 (a1 : Int) (a2 : Int) (g2 : uZ) (v7 : Int) : Option (Int × uZ) :=
  clZ (GF_X12_right v7 1 g2) fun v9 g8 =>
  ck v9 <| if v9 = 0 then
  (some (0, g8))
  else
  (ck a2 <| if a2 = 0 then
  (rdZ (g8 79) 110 a1 fun v15 =>
  GJ_X12_note_2 g8 v15)
  else
  (if a2 = 1 then
  (rdZ (g8 80) 110 a1 fun v14 =>
  GJ_X12_note_2 g8 v14)
  else
  (rdZ (g8 81) 110 a1 fun v13 =>
  GJ_X12_note_2 g8 v13)))
def GJ_X12_note_1 (a1 : Int) (a2 : Int) (g2 : uZ) : Option (Int × uZ) :=
  GJ_X12_note_3 a1 a2 g2 0
def GF_X12_note (a1 : Int) (a2 : Int) (g : uZ) : Option (Int × uZ) :=
  pfZ g 55 9 0 fun g1 =>
  cp (GF_X12_laysNotes g1) fun g2 =>
  cp (GF_X12_isIn a1 0 ((g2 55 38) - 1) g2) fun v3 =>
  ck v3 <| if v3 = 0 then
  (GJ_X12_note_1 a1 a2 g2)
  else
  (cp (GF_X12_isIn a2 0 2 g2) fun v5 =>
  ck v5 <| if v5 = 0 then
  (GJ_X12_note_1 a1 a2 g2)
  else
  (GJ_X12_note_3 a1 a2 g2 1))
def GB_X12_steady_3 (w9 : Int) (g6 : uZ) (w14 : Int) : Option (Int ⊕ Int) :=
  ck (g6 55 17) <| ck w14 <| if (g6 55 17) ≤ w14 then
  (some (Sum.inr w14))
  else
  (cp (GF_X12_lagOnPath w14 g6) fun v17 =>
  cp (GF_X12_lagOnPath w9 g6) fun v18 =>
  ck v17 <| ck v18 <| if v17 = v18 then
  (lt (w14 + 1) fun v20 =>
  some (Sum.inl v20))
  else
  (some (Sum.inr w14)))
def GJ_X12_steady_4 (v15 : Int) (v25 : Int) (v26 : Int) : Option ((Int × (Int × Int)) ⊕ (Int × Int)) :=
  some (Sum.inl (v25, (v26, v15)))
def GC_X12_steady_5 (w7 : Int) (w8 : Int) (w9 : Int) (g6 : uZ) (v15 : Int) : Option ((Int × (Int × Int)) ⊕ (Int × Int)) :=
  cp (GF_X12_lagOnPath w9 g6) fun v21 =>
  ck v21 <| if v21 ≤ 0 then
  (GJ_X12_steady_4 v15 w7 w8)
  else
  (ck (v15 - w9) <| ck w8 <| if (v15 - w9) ≤ w8 then
  (GJ_X12_steady_4 v15 w7 w8)
  else
  (lt (v15 - w9) fun v24 =>
  GJ_X12_steady_4 v15 w9 v24))
def GB_X12_steady_6 (g6 : uZ) (w7 : Int) (w8 : Int) (w9 : Int) : Option ((Int × (Int × Int)) ⊕ (Int × Int)) :=
  ck (g6 55 17) <| ck w9 <| if (g6 55 17) ≤ w9 then
  (some (Sum.inr (w7, w8)))
  else
  (lt (w9 + 1) fun v13 =>
  lp (fun z => GB_X12_steady_3 w9 g6 z) v13 (fun z => GC_X12_steady_5 w7 w8 w9 g6 z))
def GJ_X12_steady_7 (g6 : uZ) (v32 : Int) : Option (Int × uZ) :=
  some (v32, g6)
def GC_X12_steady_8 (a1 : Int) (g6 : uZ) (v10 : Int) (v11 : Int) : Option (Int × uZ) :=
  ck a1 <| if a1 = 2 then
  (ck v10 <| if v10 = (-1) then
  (GJ_X12_steady_7 g6 0)
  else
  (cp (GF_X12_lagOnPath v10 g6) fun v31 =>
  GJ_X12_steady_7 g6 v31))
  else
  (lt (if a1 = 0 then v10 else v11) fun v29 =>
  some (v29, g6))
def GF_X12_steady (a1 : Int) (g : uZ) : Option (Int × uZ) :=
  pfZ g 55 9 0 fun g1 =>
  cp (GF_X12_isIn a1 0 2 g1) fun v2 =>
  clZ (GF_X12_right v2 1 g1) fun v4 g3 =>
  ck v4 <| if v4 = 0 then
  (some (0, g3))
  else
  (cp (GF_X12_laysPath g3) fun g6 =>
  lp (fun z => GB_X12_steady_6 g6 z.1 z.2.1 z.2.2) ((-1), (0, 0)) (fun z => GC_X12_steady_8 a1 g6 z.1 z.2))
def GB_X12_laysOften_2 (w2 : Int) (g3 : uZ) : Option ((Int × uZ) ⊕ uZ) :=
  ck w2 <| if 50 ≤ w2 then
  (some (Sum.inr g3))
  else
  (wrZ g3 83 50 w2 0 fun g6 =>
  lt (w2 + 1) fun v7 =>
  some (Sum.inl (v7, g6)))
def GB_X12_laysOften_4 (w8 : Int) (g9 : uZ) : Option ((Int × uZ) ⊕ uZ) :=
  ck (g9 55 17) <| ck w8 <| if (g9 55 17) ≤ w8 then
  (some (Sum.inr g9))
  else
  (cp (GF_X12_lagOnPath w8 g9) fun v12 =>
  rdZ (g9 83) 50 v12 fun v13 =>
  wrZ g9 83 50 v12 (v13 + 1) fun g14 =>
  lt (w8 + 1) fun v15 =>
  some (Sum.inl (v15, g14)))
def GC_X12_laysOften_5 (g10 : uZ) : Option uZ :=
  wrZ g10 83 50 0 0 fun g16 =>
  some g16
def GC_X12_laysOften_6 (g4 : uZ) : Option uZ :=
  lp (fun z => GB_X12_laysOften_4 z.1 z.2) (0, g4) (fun z => GC_X12_laysOften_5 z)
def GF_X12_laysOften (g : uZ) : Option uZ :=
  cp (GF_X12_laysPath g) fun g1 =>
  lp (fun z => GB_X12_laysOften_2 z.1 z.2) (0, g1) (fun z => GC_X12_laysOften_6 z)
def GB_X12_lags_2 (g2 : uZ) (w3 : Int) (w4 : Int) : Option ((Int × Int) ⊕ Int) :=
  ck w4 <| if 50 ≤ w4 then
  (some (Sum.inr w3))
  else
  (rdZ (g2 83) 50 w4 fun v7 =>
  ck v7 <| lt (if v7 ≤ 0 then 0 else 1) fun v9 =>
  lt (w3 + v9) fun v10 =>
  lt (w4 + 1) fun v11 =>
  some (Sum.inl (v10, v11)))
def GC_X12_lags_3 (g2 : uZ) (v5 : Int) : Option (Int × uZ) :=
  some (v5, g2)
def GF_X12_lags (g : uZ) : Option (Int × uZ) :=
  pfZ g 55 9 0 fun g1 =>
  cp (GF_X12_laysOften g1) fun g2 =>
  lp (fun z => GB_X12_lags_2 g2 z.1 z.2) (0, 1) (fun z => GC_X12_lags_3 g2 z)
def GJ_X12_lagAt_2 (g14 : uZ) (v19 : Int) : Option ((Int × (Int × uZ)) ⊕ (uZ ⊕ (Int × uZ))) :=
  some (Sum.inr (Sum.inr (v19, g14)))
def GJ_X12_lagAt_3 (w4 : Int) (g5 : uZ) (v20 : Int) : Option ((Int × (Int × uZ)) ⊕ (uZ ⊕ (Int × uZ))) :=
  lt (w4 + 1) fun v21 =>
  some (Sum.inl (v20, (v21, g5)))
def GB_X12_lagAt_4 (a1 : Int) (a2 : Int) (w3 : Int) (w4 : Int) (g5 : uZ) : Option ((Int × (Int × uZ)) ⊕ (uZ ⊕ (Int × uZ))) :=
  ck w4 <| if 50 ≤ w4 then
  (some (Sum.inr (Sum.inl g5)))
  else
  (ck a1 <| if a1 < 0 then
  (some (Sum.inr (Sum.inl g5)))
  else
  (rdZ (g5 83) 50 w4 fun v9 =>
  ck v9 <| if v9 = 0 then
  (GJ_X12_lagAt_3 w4 g5 w3)
  else
  (ck w3 <| if w3 = 0 then
  (cp (GF_X12_isIn a2 0 1 g5) fun v13 =>
  clZ (GF_X12_right v13 1 g5) fun v15 g14 =>
  ck v15 <| if v15 = 0 then
  (GJ_X12_lagAt_2 g14 0)
  else
  (ck a2 <| if a2 = 0 then
  (GJ_X12_lagAt_2 g14 w4)
  else
  (rdZ (g14 83) 50 w4 fun v18 =>
  GJ_X12_lagAt_2 g14 v18)))
  else
  (lt (w3 + (-1)) fun v12 =>
  GJ_X12_lagAt_3 w4 g5 v12))))
def GC_X12_lagAt_5 (g6 : uZ) : Option (Int × uZ) :=
  clZ (GF_X12_right 0 1 g6) fun v23 g22 =>
  some (0, g22)
def GF_X12_lagAt (a1 : Int) (a2 : Int) (g : uZ) : Option (Int × uZ) :=
  pfZ g 55 9 0 fun g1 =>
  cp (GF_X12_laysOften g1) fun g2 =>
  lp (fun z => GB_X12_lagAt_4 a1 a2 z.1 z.2.1 z.2.2) (a1, (1, g2)) (fun z => ex2 (fun x => GC_X12_lagAt_5 x) (fun q => some q) z)
def GB_X12_inMiddle_2 (g : uZ) (w2 : Int) (w3 : Int) : Option ((Int × Int) ⊕ Int) :=
  rdZ (g 83) 50 w3 fun v5 =>
  ck w2 <| ck v5 <| if w2 < v5 then
  (some (Sum.inr w3))
  else
  (rdZ (g 83) 50 w3 fun v7 =>
  lt (w2 - v7) fun v8 =>
  lt (w3 + 1) fun v9 =>
  some (Sum.inl (v8, v9)))
def GC_X12_inMiddle_3 (v4 : Int) : Option Int :=
  some v4
def GF_X12_inMiddle (a1 : Int) (g : uZ) : Option Int :=
  dvZ (a1 - 1) 2 fun v1 =>
  lp (fun z => GB_X12_inMiddle_2 g z.1 z.2) (v1, 1) (fun z => GC_X12_inMiddle_3 z)
def GJ_X12_common_3 (v14 : Int) (w9 : Int) (v21 : Int) : Option ((Int × (Int × Int)) ⊕ (Int × Int)) :=
  lt (w9 + 1) fun v22 =>
  some (Sum.inl (v21, (v14, v22)))
def GJ_X12_common_2 (v14 : Int) (w9 : Int) : Option ((Int × (Int × Int)) ⊕ (Int × Int)) :=
  GJ_X12_common_3 v14 w9 w9
def GB_X12_common_4 (g6 : uZ) (w7 : Int) (w8 : Int) (w9 : Int) : Option ((Int × (Int × Int)) ⊕ (Int × Int)) :=
  ck w9 <| if 50 ≤ w9 then
  (some (Sum.inr (w7, w8)))
  else
  (rdZ (g6 83) 50 w9 fun v13 =>
  lt (w8 + v13) fun v14 =>
  rdZ (g6 83) 50 w9 fun v15 =>
  ck v15 <| if v15 ≤ 0 then
  (GJ_X12_common_3 v14 w9 w7)
  else
  (ck w7 <| if w7 = (-1) then
  (GJ_X12_common_2 v14 w9)
  else
  (rdZ (g6 83) 50 w9 fun v18 =>
  rdZ (g6 83) 50 w7 fun v19 =>
  ck v18 <| ck v19 <| if v18 ≤ v19 then
  (GJ_X12_common_3 v14 w9 w7)
  else
  (GJ_X12_common_2 v14 w9))))
def GJ_X12_common_6 (g6 : uZ) (v26 : Int) : Option (Int × uZ) :=
  some (v26, g6)
def GJ_X12_common_5 (v10 : Int) (g6 : uZ) : Option (Int × uZ) :=
  GJ_X12_common_6 g6 v10
def GC_X12_common_7 (a1 : Int) (g6 : uZ) (v10 : Int) (v11 : Int) : Option (Int × uZ) :=
  ck a1 <| if a1 = 0 then
  (GJ_X12_common_5 v10 g6)
  else
  (ck v11 <| if v11 = 0 then
  (GJ_X12_common_5 v10 g6)
  else
  (cp (GF_X12_inMiddle v11 g6) fun v25 =>
  GJ_X12_common_6 g6 v25))
def GF_X12_common (a1 : Int) (g : uZ) : Option (Int × uZ) :=
  pfZ g 55 9 0 fun g1 =>
  cp (GF_X12_isIn a1 0 1 g1) fun v2 =>
  clZ (GF_X12_right v2 1 g1) fun v4 g3 =>
  ck v4 <| if v4 = 0 then
  (some (0, g3))
  else
  (cp (GF_X12_laysOften g3) fun g6 =>
  lp (fun z => GB_X12_common_4 g6 z.1 z.2.1 z.2.2) ((-1), (0, 1)) (fun z => GC_X12_common_7 a1 g6 z.1 z.2))
def GJ_X12_tune_1 (g1 : uZ) : Option (Int × uZ) :=
  some ((-1000), g1)
def GF_X12_tune (a1 : Int) (g : uZ) : Option (Int × uZ) :=
  pfZ g 55 9 0 fun g1 =>
  cp (GF_X12_isIn a1 1 48 g1) fun v2 =>
  ck v2 <| if v2 = 0 then
  (GJ_X12_tune_1 g1)
  else
  (ck (g1 55 8) <| if (g1 55 8) = 12 then
  (GJ_X12_tune_1 g1)
  else
  (wrZ g1 61 12 (g1 55 8) a1 fun g5 =>
  pfZ g5 55 8 ((g5 55 8) + 1) fun g6 =>
  some ((g6 55 8), g6)))
def GF_X12_hush (g : uZ) : Option (Int × uZ) :=
  pfZ g 55 9 0 fun g1 =>
  lt (g1 55 8) fun v2 =>
  pfZ g1 55 8 0 fun g3 =>
  some (v2, g3)
def GF_X12_matchAt (a1 : Int) (a2 : Int) (g : uZ) : Option Int :=
  some ((111 * a1) + a2)
def GF_X12_pairCost (a1 : Int) (a2 : Int) (g : uZ) : Option Int :=
  rdZ (g 61) 12 a1 fun v1 =>
  rdZ (g 81) 110 a2 fun v2 =>
  cp (GF_X12_apart v1 v2 g) fun v3 =>
  some (10 * v3)
def GB_X12_goesMatch_3 (v8 : Int) (w2 : Int) (w3 : Int) (g4 : uZ) (w9 : Int) : Option (Int ⊕ Int) :=
  ck (g4 55 38) <| ck w9 <| if (g4 55 38) ≤ w9 then
  (some (Sum.inr w9))
  else
  (rdZ (g4 56) 16 15 fun v12 =>
  cp (GF_X12_pairCost w3 w9 g4) fun v13 =>
  cp (GF_X12_matchAt (w3 + 1) (w9 + 1) g4) fun v14 =>
  rdZ (g4 84) 1450 v14 fun v15 =>
  ck ((((w9 - w2) * v12) + v13) + v15) <| ck v8 <| if ((((w9 - w2) * v12) + v13) + v15) = v8 then
  (some (Sum.inr w9))
  else
  (lt (w9 + 1) fun v17 =>
  some (Sum.inl v17)))
def GJ_X12_goesMatch_4 (w3 : Int) (v24 : Int) (g25 : uZ) : Option ((Int × (Int × uZ)) ⊕ uZ) :=
  lt (w3 + 1) fun v26 =>
  some (Sum.inl (v24, (v26, g25)))
def GC_X12_goesMatch_5 (w2 : Int) (w3 : Int) (g4 : uZ) (v10 : Int) : Option ((Int × (Int × uZ)) ⊕ uZ) :=
  ck (g4 55 38) <| ck v10 <| lt (if (g4 55 38) ≤ v10 then (-1) else v10) fun v19 =>
  wrZ g4 85 12 w3 v19 fun g20 =>
  ck (g20 55 38) <| if (g20 55 38) ≤ v10 then
  (GJ_X12_goesMatch_4 w3 w2 g20)
  else
  (pfZ g20 55 42 ((g20 55 42) + 1) fun g22 =>
  lt (v10 + 1) fun v23 =>
  GJ_X12_goesMatch_4 w3 v23 g22)
def GB_X12_goesMatch_6 (w2 : Int) (w3 : Int) (g4 : uZ) : Option ((Int × (Int × uZ)) ⊕ uZ) :=
  ck (g4 55 8) <| ck w3 <| if (g4 55 8) ≤ w3 then
  (some (Sum.inr g4))
  else
  (cp (GF_X12_matchAt w3 w2 g4) fun v7 =>
  rdZ (g4 84) 1450 v7 fun v8 =>
  lp (fun z => GB_X12_goesMatch_3 v8 w2 w3 g4 z) w2 (fun z => GC_X12_goesMatch_5 w2 w3 g4 z))
def GC_X12_goesMatch_7 (g5 : uZ) : Option uZ :=
  some g5
def GF_X12_goesMatch (g : uZ) : Option uZ :=
  pfZ g 55 42 0 fun g1 =>
  lp (fun z => GB_X12_goesMatch_6 z.1 z.2.1 z.2.2) (0, (0, g1)) (fun z => GC_X12_goesMatch_7 z)
def GJ_X12_laysMatch_4 (w3 : Int) (w8 : Int) (g9 : uZ) (v33 : Int) : Option ((Int × uZ) ⊕ uZ) :=
  cp (GF_X12_matchAt w3 w8 g9) fun v34 =>
  wrZ g9 84 1450 v34 v33 fun g35 =>
  lt (w8 + (-1)) fun v36 =>
  some (Sum.inl (v36, g35))
def GJ_X12_laysMatch_5 (w3 : Int) (w8 : Int) (g9 : uZ) (v26 : Int) : Option ((Int × uZ) ⊕ uZ) :=
  ck (g9 55 8) <| ck w3 <| if (g9 55 8) ≤ w3 then
  (GJ_X12_laysMatch_4 w3 w8 g9 v26)
  else
  (ck (g9 55 38) <| ck w8 <| if (g9 55 38) ≤ w8 then
  (GJ_X12_laysMatch_4 w3 w8 g9 v26)
  else
  (cp (GF_X12_pairCost w3 w8 g9) fun v29 =>
  cp (GF_X12_matchAt (w3 + 1) (w8 + 1) g9) fun v30 =>
  rdZ (g9 84) 1450 v30 fun v31 =>
  cp (GF_X12_lesser v26 (v29 + v31) g9) fun v32 =>
  GJ_X12_laysMatch_4 w3 w8 g9 v32))
def GJ_X12_laysMatch_6 (w3 : Int) (w8 : Int) (g9 : uZ) (v20 : Int) : Option ((Int × uZ) ⊕ uZ) :=
  ck (g9 55 38) <| ck w8 <| if (g9 55 38) ≤ w8 then
  (GJ_X12_laysMatch_5 w3 w8 g9 v20)
  else
  (rdZ (g9 56) 16 15 fun v22 =>
  cp (GF_X12_matchAt w3 (w8 + 1) g9) fun v23 =>
  rdZ (g9 84) 1450 v23 fun v24 =>
  cp (GF_X12_lesser v20 (v22 + v24) g9) fun v25 =>
  GJ_X12_laysMatch_5 w3 w8 g9 v25)
def GJ_X12_laysMatch_7 (w3 : Int) (w8 : Int) (g9 : uZ) (v14 : Int) : Option ((Int × uZ) ⊕ uZ) :=
  ck (g9 55 8) <| ck w3 <| if (g9 55 8) ≤ w3 then
  (GJ_X12_laysMatch_6 w3 w8 g9 v14)
  else
  (rdZ (g9 56) 16 15 fun v16 =>
  cp (GF_X12_matchAt (w3 + 1) w8 g9) fun v17 =>
  rdZ (g9 84) 1450 v17 fun v18 =>
  cp (GF_X12_lesser v14 (v16 + v18) g9) fun v19 =>
  GJ_X12_laysMatch_6 w3 w8 g9 v19)
def GJ_X12_laysMatch_3 (w3 : Int) (w8 : Int) (g9 : uZ) : Option ((Int × uZ) ⊕ uZ) :=
  GJ_X12_laysMatch_7 w3 w8 g9 2000000000
def GB_X12_laysMatch_8 (w3 : Int) (w8 : Int) (g9 : uZ) : Option ((Int × uZ) ⊕ uZ) :=
  ck w8 <| if w8 < 0 then
  (some (Sum.inr g9))
  else
  (ck w3 <| ck (g9 55 8) <| if w3 = (g9 55 8) then
  (ck (g9 55 38) <| if w8 = (g9 55 38) then
  (GJ_X12_laysMatch_7 w3 w8 g9 0)
  else
  (GJ_X12_laysMatch_3 w3 w8 g9))
  else
  (GJ_X12_laysMatch_3 w3 w8 g9))
def GC_X12_laysMatch_9 (w3 : Int) (g10 : uZ) : Option ((Int × uZ) ⊕ uZ) :=
  lt (w3 + (-1)) fun v37 =>
  some (Sum.inl (v37, g10))
def GB_X12_laysMatch_10 (w3 : Int) (g4 : uZ) : Option ((Int × uZ) ⊕ uZ) :=
  ck w3 <| if w3 < 0 then
  (some (Sum.inr g4))
  else
  (lt (g4 55 38) fun v7 =>
  lp (fun z => GB_X12_laysMatch_8 w3 z.1 z.2) (v7, g4) (fun z => GC_X12_laysMatch_9 w3 z))
def GC_X12_laysMatch_11 (g5 : uZ) : Option uZ :=
  cp (GF_X12_goesMatch g5) fun g38 =>
  some g38
def GF_X12_laysMatch (g : uZ) : Option uZ :=
  cp (GF_X12_laysNotes g) fun g1 =>
  lt (g1 55 8) fun v2 =>
  lp (fun z => GB_X12_laysMatch_10 z.1 z.2) (v2, g1) (fun z => GC_X12_laysMatch_11 z)
def GJ_X12_match_1 (g6 : uZ) (v9 : Int) : Option (Int × uZ) :=
  some (v9, g6)
def GF_X12_match (a1 : Int) (g : uZ) : Option (Int × uZ) :=
  pfZ g 55 9 0 fun g1 =>
  cp (GF_X12_isIn a1 0 1 g1) fun v2 =>
  clZ (GF_X12_right v2 1 g1) fun v4 g3 =>
  ck v4 <| if v4 = 0 then
  (some (0, g3))
  else
  (cp (GF_X12_laysMatch g3) fun g6 =>
  ck a1 <| if a1 = 0 then
  (rdZ (g6 84) 1450 0 fun v8 =>
  GJ_X12_match_1 g6 v8)
  else
  (GJ_X12_match_1 g6 (g6 55 42)))
def GF_X12_matched (a1 : Int) (g : uZ) : Option (Int × uZ) :=
  pfZ g 55 9 0 fun g1 =>
  cp (GF_X12_isIn a1 0 ((g1 55 8) - 1) g1) fun v2 =>
  clZ (GF_X12_right v2 1 g1) fun v4 g3 =>
  ck v4 <| if v4 = 0 then
  (some (0, g3))
  else
  (cp (GF_X12_laysMatch g3) fun g6 =>
  rdZ (g6 85) 12 a1 fun v7 =>
  some (v7, g6))
def GF_X12_marks (g : uZ) : Option (Int × uZ) :=
  pfZ g 55 9 0 fun g1 =>
  cp (GF_X12_laysMarks g1) fun g2 =>
  some ((g2 55 49), g2)
def GJ_X12_mark_1 (g4 : uZ) (v8 : Int) : Option (Int × uZ) :=
  some (v8, g4)
def GF_X12_mark (a1 : Int) (g : uZ) : Option (Int × uZ) :=
  pfZ g 55 9 0 fun g1 =>
  cp (GF_X12_laysMarks g1) fun g2 =>
  cp (GF_X12_isIn a1 0 ((g2 55 49) - 1) g2) fun v3 =>
  clZ (GF_X12_right v3 1 g2) fun v5 g4 =>
  ck v5 <| if v5 = 0 then
  (GJ_X12_mark_1 g4 0)
  else
  (rdZ (g4 88) 400 a1 fun v7 =>
  GJ_X12_mark_1 g4 v7)
def GF_X12_off (a1 : Int) (a2 : Int) (g : uZ) : Option Int :=
  ck (lg_cmp (zL a1) (zL a2)).toInt <| lt (if (lg_cmp (zL a1) (zL a2)).toInt ≤ 0 then ((zL a2) - (zL a1)).toInt else ((zL a1) - (zL a2)).toInt) fun v2 =>
  some v2
def GJ_X12_near_3 (w4 : Int) (v13 : Int) : Option ((Int × Int) ⊕ Int) :=
  lt (w4 + 1) fun v14 =>
  some (Sum.inl (v13, v14))
def GJ_X12_near_2 (w4 : Int) : Option ((Int × Int) ⊕ Int) :=
  GJ_X12_near_3 w4 w4
def GB_X12_near_4 (a1 : Int) (g2 : uZ) (w3 : Int) (w4 : Int) : Option ((Int × Int) ⊕ Int) :=
  ck (g2 55 49) <| ck w4 <| if (g2 55 49) ≤ w4 then
  (some (Sum.inr w3))
  else
  (ck w3 <| if w3 = (-1) then
  (GJ_X12_near_2 w4)
  else
  (rdZ (g2 88) 400 w4 fun v8 =>
  cp (GF_X12_off (Int32.toInt64 (zI v8)).toInt (Int32.toInt64 (zI a1)).toInt g2) fun v9 =>
  rdZ (g2 88) 400 w3 fun v10 =>
  cp (GF_X12_off (Int32.toInt64 (zI v10)).toInt (Int32.toInt64 (zI a1)).toInt g2) fun v11 =>
  ck (lg_cmp (zL v9) (zL v11)).toInt <| if 0 ≤ (lg_cmp (zL v9) (zL v11)).toInt then
  (GJ_X12_near_3 w4 w3)
  else
  (GJ_X12_near_2 w4)))
def GJ_X12_near_5 (g2 : uZ) (v17 : Int) : Option (Int × uZ) :=
  some (v17, g2)
def GC_X12_near_6 (g2 : uZ) (v5 : Int) : Option (Int × uZ) :=
  ck v5 <| if v5 = (-1) then
  (GJ_X12_near_5 g2 (-1))
  else
  (rdZ (g2 88) 400 v5 fun v16 =>
  GJ_X12_near_5 g2 v16)
def GF_X12_near (a1 : Int) (g : uZ) : Option (Int × uZ) :=
  pfZ g 55 9 0 fun g1 =>
  cp (GF_X12_laysMarks g1) fun g2 =>
  lp (fun z => GB_X12_near_4 a1 g2 z.1 z.2) ((-1), 0) (fun z => GC_X12_near_6 g2 z)
def GB_X12_behind_2 (a1 : Int) (g2 : uZ) (w3 : Int) : Option (Int ⊕ (Unit ⊕ (Int × uZ))) :=
  ck (g2 55 49) <| ck w3 <| if (g2 55 49) ≤ w3 then
  (some (Sum.inr (Sum.inl ())))
  else
  (rdZ (g2 88) 400 w3 fun v5 =>
  ck v5 <| ck a1 <| if v5 ≤ a1 then
  (lt (w3 + 1) fun v7 =>
  some (Sum.inl v7))
  else
  (rdZ (g2 88) 400 w3 fun v8 =>
  some (Sum.inr (Sum.inr (v8, g2)))))
def GC_X12_behind_3 (g2 : uZ) : Option (Int × uZ) :=
  some ((-1), g2)
def GF_X12_behind (a1 : Int) (g : uZ) : Option (Int × uZ) :=
  pfZ g 55 9 0 fun g1 =>
  cp (GF_X12_laysMarks g1) fun g2 =>
  lp (fun z => GB_X12_behind_2 a1 g2 z) 0 (fun z => ex2 (fun x => GC_X12_behind_3 g2) (fun q => some q) z)
def GJ_X12_hasGap_2 (v5 : Int) : Option Int :=
  bzZ v5 <|
  some v5
def GJ_X12_hasGap_1 : Option Int :=
  GJ_X12_hasGap_2 0
def GF_X12_hasGap (a1 : Int) (g : uZ) : Option Int :=
  ck (g 55 49) <| ck (a1 + 1) <| if (g 55 49) ≤ (a1 + 1) then
  (GJ_X12_hasGap_1)
  else
  (rdZ (g 89) 400 (a1 + 1) fun v2 =>
  rdZ (g 89) 400 a1 fun v3 =>
  ck v2 <| ck v3 <| if v2 = v3 then
  (GJ_X12_hasGap_2 1)
  else
  (GJ_X12_hasGap_1))
def GF_X12_gapOf (a1 : Int) (g : uZ) : Option Int :=
  rdZ (g 88) 400 (a1 + 1) fun v1 =>
  rdZ (g 88) 400 a1 fun v2 =>
  some (v1 - v2)
def GJ_X12_gaps_6 (w12 : Int) (v44 : Int) (v45 : Int) (v46 : Int) (v47 : Int) (v48 : Int) : Option ((Int × (Int × (Int × (Int × (Int × Int))))) ⊕ (Int × (Int × (Int × (Int × Int))))) :=
  lt (w12 + 1) fun v49 =>
  some (Sum.inl (v44, (v45, (v46, (v47, (v48, v49))))))
def GJ_X12_gaps_3 (v21 : Int) (v27 : Int) (v34 : Int) (v38 : Int) (w12 : Int) (v43 : Int) : Option ((Int × (Int × (Int × (Int × (Int × Int))))) ⊕ (Int × (Int × (Int × (Int × Int))))) :=
  GJ_X12_gaps_6 w12 v21 v34 v27 v38 v43
def GJ_X12_gaps_2 (v21 : Int) (v27 : Int) (v34 : Int) (v38 : Int) (w12 : Int) (g6 : uZ) : Option ((Int × (Int × (Int × (Int × (Int × Int))))) ⊕ (Int × (Int × (Int × (Int × Int))))) :=
  cp (GF_X12_gapOf w12 g6) fun v42 =>
  GJ_X12_gaps_3 v21 v27 v34 v38 w12 v42
def GJ_X12_gaps_4 (v21 : Int) (v27 : Int) (v34 : Int) (w11 : Int) (w12 : Int) (g6 : uZ) (v38 : Int) : Option ((Int × (Int × (Int × (Int × (Int × Int))))) ⊕ (Int × (Int × (Int × (Int × Int))))) :=
  ck w11 <| if w11 = (-1) then
  (GJ_X12_gaps_2 v21 v27 v34 v38 w12 g6)
  else
  (cp (GF_X12_gapOf w12 g6) fun v40 =>
  ck v40 <| if w11 ≤ v40 then
  (GJ_X12_gaps_3 v21 v27 v34 v38 w12 w11)
  else
  (GJ_X12_gaps_2 v21 v27 v34 v38 w12 g6))
def GJ_X12_gaps_5 (v21 : Int) (v27 : Int) (w8 : Int) (w10 : Int) (w11 : Int) (w12 : Int) (g6 : uZ) (v33 : Int) : Option ((Int × (Int × (Int × (Int × (Int × Int))))) ⊕ (Int × (Int × (Int × (Int × Int))))) :=
  lt (w8 + v33) fun v34 =>
  cp (GF_X12_gapOf w12 g6) fun v35 =>
  ck v35 <| ck w10 <| if v35 ≤ w10 then
  (GJ_X12_gaps_4 v21 v27 v34 w11 w12 g6 w10)
  else
  (cp (GF_X12_gapOf w12 g6) fun v37 =>
  GJ_X12_gaps_4 v21 v27 v34 w11 w12 g6 v37)
def GB_X12_gaps_7 (g6 : uZ) (w7 : Int) (w8 : Int) (w9 : Int) (w10 : Int) (w11 : Int) (w12 : Int) : Option ((Int × (Int × (Int × (Int × (Int × Int))))) ⊕ (Int × (Int × (Int × (Int × Int))))) :=
  ck (g6 55 49) <| ck w12 <| if (g6 55 49) ≤ w12 then
  (some (Sum.inr (w7, (w8, (w9, (w10, w11))))))
  else
  (cp (GF_X12_hasGap w12 g6) fun v19 =>
  ck v19 <| if v19 = 0 then
  (GJ_X12_gaps_6 w12 w7 w8 w9 w10 w11)
  else
  (lt (w7 + 1) fun v21 =>
  rdZ (g6 88) 400 w12 fun v22 =>
  rdZ (g6 59) 800 v22 fun v23 =>
  rdZ (g6 88) 400 (w12 + 1) fun v24 =>
  rdZ (g6 59) 800 v24 fun v25 =>
  cp (GF_X12_apart v23 v25 g6) fun v26 =>
  lt (w9 + v26) fun v27 =>
  cp (GF_X12_hasGap (w12 + 1) g6) fun v28 =>
  ck v28 <| if v28 = 0 then
  (GJ_X12_gaps_5 v21 v27 w8 w10 w11 w12 g6 0)
  else
  (cp (GF_X12_gapOf w12 g6) fun v30 =>
  cp (GF_X12_gapOf (w12 + 1) g6) fun v31 =>
  cp (GF_X12_apart v30 v31 g6) fun v32 =>
  GJ_X12_gaps_5 v21 v27 w8 w10 w11 w12 g6 v32)))
def GC_X12_gaps_8 (a1 : Int) (g6 : uZ) (v13 : Int) (v14 : Int) (v15 : Int) (v16 : Int) (v17 : Int) : Option (Int × uZ) :=
  ck a1 <| if a1 = 0 then
  (some (v13, g6))
  else
  (if a1 = 1 then
  (some (v14, g6))
  else
  (if a1 = 2 then
  (some (v15, g6))
  else
  (if a1 = 3 then
  (some (v16, g6))
  else
  (some (v17, g6)))))
def GF_X12_gaps (a1 : Int) (g : uZ) : Option (Int × uZ) :=
  pfZ g 55 9 0 fun g1 =>
  cp (GF_X12_isIn a1 0 4 g1) fun v2 =>
  clZ (GF_X12_right v2 1 g1) fun v4 g3 =>
  ck v4 <| if v4 = 0 then
  (some (0, g3))
  else
  (cp (GF_X12_laysMarks g3) fun g6 =>
  lp (fun z => GB_X12_gaps_7 g6 z.1 z.2.1 z.2.2.1 z.2.2.2.1 z.2.2.2.2.1 z.2.2.2.2.2) (0, (0, (0, ((-1), ((-1), 0))))) (fun z => GC_X12_gaps_8 a1 g6 z.1 z.2.1 z.2.2.1 z.2.2.2.1 z.2.2.2.2))
def GB_X12_roughOf_2 (a1 : Int) (g : uZ) (w3 : Int) (w4 : Int) : Option ((Int × Int) ⊕ Int) :=
  cp (GF_X12_gapOf a1 g) fun v6 =>
  ck v6 <| ck w4 <| if v6 ≤ w4 then
  (some (Sum.inr w3))
  else
  (rdZ (g 88) 400 a1 fun v8 =>
  cp (GF_X12_at (v8 + w4) g) fun v9 =>
  rdZ (g 88) 400 (a1 + 1) fun v10 =>
  cp (GF_X12_at (v10 + w4) g) fun v11 =>
  cp (GF_X12_apart v9 v11 g) fun v12 =>
  lt (w3 + v12) fun v13 =>
  lt (w4 + 1) fun v14 =>
  some (Sum.inl (v13, v14)))
def GC_X12_roughOf_3 (v5 : Int) : Option Int :=
  some v5
def GF_X12_roughOf (a1 : Int) (g : uZ) : Option Int :=
  cp (GF_X12_hasGap a1 g) fun v1 =>
  ck v1 <| if v1 = 0 then
  (some (-1))
  else
  (lp (fun z => GB_X12_roughOf_2 a1 g z.1 z.2) (0, 0) (fun z => GC_X12_roughOf_3 z))
def GJ_X12_rough_1 (g4 : uZ) (v8 : Int) : Option (Int × uZ) :=
  some (v8, g4)
def GF_X12_rough (a1 : Int) (g : uZ) : Option (Int × uZ) :=
  pfZ g 55 9 0 fun g1 =>
  cp (GF_X12_laysMarks g1) fun g2 =>
  cp (GF_X12_isIn a1 0 ((g2 55 49) - 1) g2) fun v3 =>
  clZ (GF_X12_right v3 1 g2) fun v5 g4 =>
  ck v5 <| if v5 = 0 then
  (GJ_X12_rough_1 g4 0)
  else
  (cp (GF_X12_roughOf a1 g4) fun v7 =>
  GJ_X12_rough_1 g4 v7)
def GJ_X12_roughest_3 (w4 : Int) (v13 : Int) : Option ((Int × Int) ⊕ Int) :=
  lt (w4 + 1) fun v14 =>
  some (Sum.inl (v13, v14))
def GJ_X12_roughest_2 (w4 : Int) : Option ((Int × Int) ⊕ Int) :=
  GJ_X12_roughest_3 w4 w4
def GB_X12_roughest_4 (g2 : uZ) (w3 : Int) (w4 : Int) : Option ((Int × Int) ⊕ Int) :=
  ck (g2 55 49) <| ck w4 <| if (g2 55 49) ≤ w4 then
  (some (Sum.inr w3))
  else
  (cp (GF_X12_roughOf w4 g2) fun v7 =>
  ck v7 <| if v7 = (-1) then
  (GJ_X12_roughest_3 w4 w3)
  else
  (ck w3 <| if w3 = (-1) then
  (GJ_X12_roughest_2 w4)
  else
  (cp (GF_X12_roughOf w4 g2) fun v10 =>
  cp (GF_X12_roughOf w3 g2) fun v11 =>
  ck v10 <| ck v11 <| if v10 ≤ v11 then
  (GJ_X12_roughest_3 w4 w3)
  else
  (GJ_X12_roughest_2 w4))))
def GC_X12_roughest_5 (g2 : uZ) (v5 : Int) : Option (Int × uZ) :=
  some (v5, g2)
def GF_X12_roughest (g : uZ) : Option (Int × uZ) :=
  pfZ g 55 9 0 fun g1 =>
  cp (GF_X12_laysMarks g1) fun g2 =>
  lp (fun z => GB_X12_roughest_4 g2 z.1 z.2) ((-1), 0) (fun z => GC_X12_roughest_5 g2 z)
def GJ_X12_mean_2 (v12 : Int) (w4 : Int) (w5 : Int) (v16 : Int) : Option ((Int × (Int × Int)) ⊕ (Int × Int)) :=
  lt (w4 + v16) fun v17 =>
  lt (w5 + 1) fun v18 =>
  some (Sum.inl (v12, (v17, v18)))
def GB_X12_mean_3 (g2 : uZ) (w3 : Int) (w4 : Int) (w5 : Int) : Option ((Int × (Int × Int)) ⊕ (Int × Int)) :=
  ck (g2 55 49) <| ck w5 <| if (g2 55 49) ≤ w5 then
  (some (Sum.inr (w3, w4)))
  else
  (cp (GF_X12_hasGap w5 g2) fun v9 =>
  ck v9 <| lt (if v9 = 0 then 0 else 1) fun v11 =>
  lt (w3 + v11) fun v12 =>
  cp (GF_X12_hasGap w5 g2) fun v13 =>
  ck v13 <| if v13 = 0 then
  (GJ_X12_mean_2 v12 w4 w5 0)
  else
  (cp (GF_X12_gapOf w5 g2) fun v15 =>
  GJ_X12_mean_2 v12 w4 w5 v15))
def GJ_X12_mean_4 (g21 : uZ) (v28 : Int) : Option (Int × uZ) :=
  some (v28, g21)
def GC_X12_mean_5 (a1 : Int) (g2 : uZ) (v6 : Int) (v7 : Int) : Option (Int × uZ) :=
  ck v6 <| lt (if v6 ≤ 0 then 0 else 1) fun v20 =>
  clZ (GF_X12_right v20 1 g2) fun v22 g21 =>
  ck v22 <| if v22 = 0 then
  (some (0, g21))
  else
  (cp (GF_X12_divisor v7 v6 g21) fun v24 =>
  ck a1 <| if a1 = 0 then
  (dvZ v7 v24 fun v26 =>
  GJ_X12_mean_4 g21 v26)
  else
  (dvZ v6 v24 fun v27 =>
  GJ_X12_mean_4 g21 v27))
def GF_X12_mean (a1 : Int) (g : uZ) : Option (Int × uZ) :=
  pfZ g 55 9 0 fun g1 =>
  cp (GF_X12_laysMarks g1) fun g2 =>
  lp (fun z => GB_X12_mean_3 g2 z.1 z.2.1 z.2.2) (0, (0, 0)) (fun z => GC_X12_mean_5 a1 g2 z.1 z.2)
def GJ_X12_graspOf_1 (v12 : Int) : Option Int :=
  some v12
def GF_X12_graspOf (a1 : Int) (g : uZ) : Option Int :=
  cp (GF_X12_hasGap a1 g) fun v1 =>
  ck v1 <| if v1 = 0 then
  (rdZ (g 89) 400 a1 fun v3 =>
  rdZ (g 90) 111 v3 fun v4 =>
  ck a1 <| ck v4 <| lt (if a1 ≤ v4 then 0 else 1) fun v6 =>
  ck v6 <| if v6 = 0 then
  (rdZ (g 89) 400 a1 fun v8 =>
  rdZ (g 88) 400 a1 fun v9 =>
  cp (GF_X12_periodAt v8 v9 g) fun v10 =>
  GJ_X12_graspOf_1 v10)
  else
  (cp (GF_X12_gapOf (a1 - 1) g) fun v11 =>
  GJ_X12_graspOf_1 v11))
  else
  (cp (GF_X12_gapOf a1 g) fun v13 =>
  some v13)
def GB_X12_markNear_2 (a1 : Int) (a2 : Int) (g : uZ) (w2 : Int) (w3 : Int) : Option ((Int × Int) ⊕ Int) :=
  rdZ (g 90) 111 (a1 + 1) fun v5 =>
  ck v5 <| ck w3 <| if v5 ≤ w3 then
  (some (Sum.inr w2))
  else
  (rdZ (g 88) 400 w3 fun v7 =>
  cp (GF_X12_apart v7 a2 g) fun v8 =>
  rdZ (g 88) 400 w2 fun v9 =>
  cp (GF_X12_apart v9 a2 g) fun v10 =>
  ck v10 <| ck v8 <| lt (if v10 ≤ v8 then w2 else w3) fun v12 =>
  lt (w3 + 1) fun v13 =>
  some (Sum.inl (v12, v13)))
def GC_X12_markNear_3 (v4 : Int) : Option Int :=
  some v4
def GF_X12_markNear (a1 : Int) (a2 : Int) (g : uZ) : Option Int :=
  rdZ (g 90) 111 a1 fun v1 =>
  lp (fun z => GB_X12_markNear_2 a1 a2 g z.1 z.2) (v1, v1) (fun z => GC_X12_markNear_3 z)
def GJ_X12_setAnew_2 (a3 : Int) (a4 : Int) (v9 : Int) (w4 : Int) (v16 : Int) : Option ((Int × Int) ⊕ Int) :=
  dvZ (v9 * a3) a4 fun v17 =>
  ck v17 <| lt (if 1 ≤ v17 then v17 else 1) fun v19 =>
  lt (w4 + v19) fun v20 =>
  some (Sum.inl (v16, v20))
def GB_X12_setAnew_3 (a1 : Int) (a2 : Int) (a3 : Int) (a4 : Int) (g : uZ) (w3 : Int) (w4 : Int) : Option ((Int × Int) ⊕ Int) :=
  cp (GF_X12_behindSpan a1 g) fun v6 =>
  ck v6 <| ck w4 <| if v6 ≤ w4 then
  (some (Sum.inr w3))
  else
  (cp (GF_X12_markNear a1 w4 g) fun v8 =>
  cp (GF_X12_graspOf v8 g) fun v9 =>
  cp (GF_X12_apart a2 w4 g) fun v10 =>
  ck v9 <| ck v10 <| if v9 ≤ v10 then
  (GJ_X12_setAnew_2 a3 a4 v9 w4 w3)
  else
  (rdZ (g 88) 400 v8 fun v12 =>
  cp (GF_X12_at ((v12 + a2) - w4) g) fun v13 =>
  cp (GF_X12_down (v13 * (v9 - v10)) v9 g) fun v14 =>
  lt (w3 + v14) fun v15 =>
  GJ_X12_setAnew_2 a3 a4 v9 w4 v15))
def GC_X12_setAnew_4 (v5 : Int) : Option Int :=
  some v5
def GF_X12_setAnew (a1 : Int) (a2 : Int) (a3 : Int) (a4 : Int) (g : uZ) : Option Int :=
  rdZ (g 90) 111 a1 fun v1 =>
  rdZ (g 88) 400 v1 fun v2 =>
  lp (fun z => GB_X12_setAnew_3 a1 a2 a3 a4 g z.1 z.2) (0, v2) (fun z => GC_X12_setAnew_4 z)
def GJ_X12_anew_7 (g26 : uZ) : Option (Int × uZ) :=
  some (0, g26)
def GJ_X12_anew_3 (w15 : Int) : Option (Int ⊕ (Unit ⊕ (Int × uZ))) :=
  lt (w15 + 1) fun v24 =>
  some (Sum.inl v24)
def GB_X12_anew_4 (a1 : Int) (a2 : Int) (a3 : Int) (g14 : uZ) (w15 : Int) : Option (Int ⊕ (Unit ⊕ (Int × uZ))) :=
  ck (g14 55 33) <| ck w15 <| if (g14 55 33) ≤ w15 then
  (some (Sum.inr (Sum.inl ())))
  else
  (cp (GF_X12_isVoiced w15 g14) fun v17 =>
  ck v17 <| if v17 = 0 then
  (GJ_X12_anew_3 w15)
  else
  (cp (GF_X12_firstSample w15 g14) fun v19 =>
  cp (GF_X12_behindSpan w15 g14) fun v20 =>
  cp (GF_X12_isIn a3 v19 (v20 - 1) g14) fun v21 =>
  ck v21 <| if v21 = 0 then
  (GJ_X12_anew_3 w15)
  else
  (cp (GF_X12_setAnew w15 a3 a1 a2 g14) fun v23 =>
  some (Sum.inr (Sum.inr (v23, g14))))))
def GC_X12_anew_5 (a3 : Int) (g14 : uZ) : Option (Int × uZ) :=
  rdZ (g14 59) 800 a3 fun v25 =>
  some (v25, g14)
def GJ_X12_anew_6 (a1 : Int) (a2 : Int) (a3 : Int) (g3 : uZ) (v10 : Int) : Option (Int × uZ) :=
  clZ (GF_X12_right v10 2 g3) fun v12 g11 =>
  ck v12 <| if v12 = 0 then
  (GJ_X12_anew_7 g11)
  else
  (cp (GF_X12_laysMarks g11) fun g14 =>
  lp (fun z => GB_X12_anew_4 a1 a2 a3 g14 z) 0 (fun z => ex2 (fun x => GC_X12_anew_5 a3 g14) (fun q => some q) z))
def GJ_X12_anew_1 (a1 : Int) (a2 : Int) (a3 : Int) (g3 : uZ) : Option (Int × uZ) :=
  GJ_X12_anew_6 a1 a2 a3 g3 0
def GF_X12_anew (a1 : Int) (a2 : Int) (a3 : Int) (g : uZ) : Option (Int × uZ) :=
  pfZ g 55 9 0 fun g1 =>
  cp (GF_X12_isIn a3 0 ((g1 55 6) - 1) g1) fun v2 =>
  clZ (GF_X12_right v2 1 g1) fun v4 g3 =>
  ck v4 <| if v4 = 0 then
  (GJ_X12_anew_7 g3)
  else
  (cp (GF_X12_isIn a1 1 4 g3) fun v6 =>
  ck v6 <| if v6 = 0 then
  (GJ_X12_anew_1 a1 a2 a3 g3)
  else
  (cp (GF_X12_isIn a2 1 4 g3) fun v8 =>
  ck v8 <| if v8 = 0 then
  (GJ_X12_anew_1 a1 a2 a3 g3)
  else
  (GJ_X12_anew_6 a1 a2 a3 g3 1)))
def GF_X11_sample (a1 : Int) (g : uZ) : Option ((Int ⊕ Nat) × uZ) :=
  cp (GF_X7_has a1 g) fun v1 =>
  ck v1 <| if v1 = 0 then
  (some (Sum.inr 1, g))
  else
  (cp (GF_X7_at a1 g) fun v3 =>
  some (Sum.inl v3, g))
def GJ_X11_count_2 (a1 : Int) (g : uZ) (v3 : Int) : Option ((Int ⊕ Nat) × uZ) :=
  ck v3 <| if v3 = 0 then
  (some (Sum.inr 1, g))
  else
  (ck a1 <| if a1 = 0 then
  (cp (GF_X7_size g) fun v6 =>
  some (Sum.inl v6, g))
  else
  (if a1 = 1 then
  (cp (GF_X2_size g) fun v8 =>
  some (Sum.inl v8, g))
  else
  (if a1 = 16 then
  (cp (GF_X7_tapeSize g) fun v10 =>
  some (Sum.inl v10, g))
  else
  (if a1 = 17 then
  (cp (GF_X10_size g) fun v12 =>
  some (Sum.inl v12, g))
  else
  (cp (GF_X0_of a1 g) fun v13 =>
  some (Sum.inl v13, g))))))
def GJ_X11_count_1 (a1 : Int) (g : uZ) : Option ((Int ⊕ Nat) × uZ) :=
  GJ_X11_count_2 a1 g 0
def GF_X11_count (a1 : Int) (g : uZ) : Option ((Int ⊕ Nat) × uZ) :=
  ck a1 <| if a1 < 0 then
  (GJ_X11_count_1 a1 g)
  else
  (if 17 < a1 then
  (GJ_X11_count_1 a1 g)
  else
  (GJ_X11_count_2 a1 g 1))
def GJ_X11_diff_2 (a1 : Int) (a2 : Int) (g : uZ) (v5 : Int) : Option ((Int ⊕ Nat) × uZ) :=
  ck v5 <| if v5 = 0 then
  (some (Sum.inr 1, g))
  else
  (cp (GF_X2_measure a1 g) fun g7 =>
  cp (GF_X2_diffAt a1 a2 g7) fun v8 =>
  some (Sum.inl v8, g7))
def GJ_X11_diff_1 (a1 : Int) (a2 : Int) (g : uZ) : Option ((Int ⊕ Nat) × uZ) :=
  GJ_X11_diff_2 a1 a2 g 0
def GF_X11_diff (a1 : Int) (a2 : Int) (g : uZ) : Option ((Int ⊕ Nat) × uZ) :=
  cp (GF_X2_has a1 g) fun v1 =>
  ck v1 <| if v1 = 0 then
  (GJ_X11_diff_1 a1 a2 g)
  else
  (cp (GF_X11_isLag a2 g) fun v3 =>
  ck v3 <| if v3 = 0 then
  (GJ_X11_diff_1 a1 a2 g)
  else
  (GJ_X11_diff_2 a1 a2 g 1))
def GJ_X11_rel_2 (a1 : Int) (a2 : Int) (g : uZ) (v5 : Int) : Option ((Int ⊕ Nat) × uZ) :=
  ck v5 <| if v5 = 0 then
  (some (Sum.inr 1, g))
  else
  (cp (GF_X2_measure a1 g) fun g7 =>
  cp (GF_X2_relAt a1 a2 g7) fun v8 =>
  some (Sum.inl v8, g7))
def GJ_X11_rel_1 (a1 : Int) (a2 : Int) (g : uZ) : Option ((Int ⊕ Nat) × uZ) :=
  GJ_X11_rel_2 a1 a2 g 0
def GF_X11_rel (a1 : Int) (a2 : Int) (g : uZ) : Option ((Int ⊕ Nat) × uZ) :=
  cp (GF_X2_has a1 g) fun v1 =>
  ck v1 <| if v1 = 0 then
  (GJ_X11_rel_1 a1 a2 g)
  else
  (cp (GF_X11_isLag a2 g) fun v3 =>
  ck v3 <| if v3 = 0 then
  (GJ_X11_rel_1 a1 a2 g)
  else
  (GJ_X11_rel_2 a1 a2 g 1))
def GF_X11_loud (a1 : Int) (g : uZ) : Option ((Int ⊕ Nat) × uZ) :=
  cp (GF_X2_has a1 g) fun v1 =>
  ck v1 <| if v1 = 0 then
  (some (Sum.inr 1, g))
  else
  (cp (GF_X2_measure a1 g) fun g3 =>
  cp (GF_X2_loudAt a1 g3) fun v4 =>
  some (Sum.inl v4, g3))
def GF_X11_candidates (a1 : Int) (g : uZ) : Option ((Int ⊕ Nat) × uZ) :=
  cp (GF_X2_has a1 g) fun v1 =>
  ck v1 <| if v1 = 0 then
  (some (Sum.inr 1, g))
  else
  (cp (GF_X11_findPath g) fun g3 =>
  cp (GF_X1_sizeOf a1 g3) fun v4 =>
  some (Sum.inl v4, g3))
def GJ_X11_candidate_2 (a1 : Int) (a2 : Int) (a3 : Int) (g1 : uZ) (v6 : Int) : Option ((Int ⊕ Nat) × uZ) :=
  ck v6 <| if v6 = 0 then
  (some (Sum.inr 1, g1))
  else
  (ck a3 <| if a3 = 0 then
  (cp (GF_X1_lagOf a1 a2 g1) fun v9 =>
  some (Sum.inl v9, g1))
  else
  (if a3 = 1 then
  (cp (GF_X1_ownOf a1 a2 g1) fun v11 =>
  some (Sum.inl v11, g1))
  else
  (if a3 = 2 then
  (cp (GF_X1_halfOf a1 a2 g1) fun v13 =>
  some (Sum.inl v13, g1))
  else
  (cp (GF_X1_cheaperThan a1 a2 g1) fun v14 =>
  some (Sum.inl v14, g1)))))
def GJ_X11_candidate_1 (a1 : Int) (a2 : Int) (a3 : Int) (g1 : uZ) : Option ((Int ⊕ Nat) × uZ) :=
  GJ_X11_candidate_2 a1 a2 a3 g1 0
def GF_X11_candidate (a1 : Int) (a2 : Int) (a3 : Int) (g : uZ) : Option ((Int ⊕ Nat) × uZ) :=
  cp (GF_X11_findPath g) fun g1 =>
  cp (GF_X1_has a1 a2 g1) fun v2 =>
  ck v2 <| if v2 = 0 then
  (some (Sum.inr 1, g1))
  else
  (ck a3 <| if a3 < 0 then
  (GJ_X11_candidate_1 a1 a2 a3 g1)
  else
  (if 3 < a3 then
  (GJ_X11_candidate_1 a1 a2 a3 g1)
  else
  (GJ_X11_candidate_2 a1 a2 a3 g1 1)))
def GJ_X11_fine_1 (g1 : uZ) (v17 : Int) : Option ((Int ⊕ Nat) × uZ) :=
  some (Sum.inl v17, g1)
def GF_X11_fine (a1 : Int) (a2 : Int) (a3 : Int) (g : uZ) : Option ((Int ⊕ Nat) × uZ) :=
  cp (GF_X11_findPath g) fun g1 =>
  cp (GF_X1_has a1 a2 g1) fun v2 =>
  ck v2 <| if v2 = 0 then
  (some (Sum.inr 1, g1))
  else
  (cp (GF_X1_lagOf a1 a2 g1) fun v4 =>
  ck v4 <| lt (if v4 = 0 then 0 else 1) fun v6 =>
  ck v6 <| if v6 = 0 then
  (some (Sum.inr 1, g1))
  else
  (cp (GF_X2_diffAt a1 (v4 - 1) g1) fun v8 =>
  cp (GF_X2_diffAt a1 v4 g1) fun v9 =>
  cp (GF_X2_diffAt a1 (v4 + 1) g1) fun v10 =>
  lt (2 * ((v8 - (2 * v9)) + v10)) fun v11 =>
  ck v11 <| if v11 = 0 then
  (ck a3 <| lt (if a3 = 0 then v4 else 1) fun v19 =>
  some (Sum.inl v19, g1))
  else
  (lt (((v4 * v11) + v8) - v10) fun v13 =>
  if 0 ≤ v11 then
  (cp (GF_X11_lowest v13 v11 a3 g1) fun v15 =>
  GJ_X11_fine_1 g1 v15)
  else
  (cp (GF_X11_lowest (-v13) (-v11) a3 g1) fun v16 =>
  GJ_X11_fine_1 g1 v16))))
def GJ_X11_cost_2 (a1 : Int) (g : uZ) (v3 : Int) : Option ((Int ⊕ Nat) × uZ) :=
  ck v3 <| if v3 = 0 then
  (some (Sum.inr 1, g))
  else
  (cp (GF_X11_findPath g) fun g5 =>
  clZ (GF_X5_priceOf a1 g5) fun v7 g6 =>
  some (Sum.inl v7, g6))
def GJ_X11_cost_1 (a1 : Int) (g : uZ) : Option ((Int ⊕ Nat) × uZ) :=
  GJ_X11_cost_2 a1 g 0
def GF_X11_cost (a1 : Int) (g : uZ) : Option ((Int ⊕ Nat) × uZ) :=
  ck a1 <| if a1 < 0 then
  (GJ_X11_cost_1 a1 g)
  else
  (if 4 < a1 then
  (GJ_X11_cost_1 a1 g)
  else
  (GJ_X11_cost_2 a1 g 1))
def GF_X11_path (a1 : Int) (g : uZ) : Option ((Int ⊕ Nat) × uZ) :=
  cp (GF_X2_has a1 g) fun v1 =>
  ck v1 <| if v1 = 0 then
  (some (Sum.inr 1, g))
  else
  (cp (GF_X11_findPath g) fun g3 =>
  cp (GF_X5_chosenIn a1 g3) fun v4 =>
  some (Sum.inl v4, g3))
def GF_X11_lag (a1 : Int) (g : uZ) : Option ((Int ⊕ Nat) × uZ) :=
  cp (GF_X2_has a1 g) fun v1 =>
  ck v1 <| if v1 = 0 then
  (some (Sum.inr 1, g))
  else
  (cp (GF_X11_findPath g) fun g3 =>
  cp (GF_X5_lagIn a1 g3) fun v4 =>
  some (Sum.inl v4, g3))
def GF_X11_through (a1 : Int) (a2 : Int) (g : uZ) : Option ((Int ⊕ Nat) × uZ) :=
  cp (GF_X11_findPath g) fun g1 =>
  cp (GF_X1_has a1 a2 g1) fun v2 =>
  ck v2 <| if v2 = 0 then
  (some (Sum.inr 1, g1))
  else
  (cp (GF_X5_leastThrough a1 a2 g1) fun v4 =>
  some (Sum.inl v4, g1))
def GF_X11_both (a1 : Int) (a2 : Int) (a3 : Int) (a4 : Int) (g : uZ) : Option ((Int ⊕ Nat) × uZ) :=
  cp (GF_X11_findPath g) fun g1 =>
  cp (GF_X1_has a1 a2 g1) fun v2 =>
  ck v2 <| if v2 = 0 then
  (some (Sum.inr 1, g1))
  else
  (cp (GF_X1_has a3 a4 g1) fun v4 =>
  ck v4 <| if v4 = 0 then
  (some (Sum.inr 1, g1))
  else
  (ck a3 <| ck a1 <| lt (if a3 ≤ a1 then 0 else 1) fun v7 =>
  ck v7 <| if v7 = 0 then
  (some (Sum.inr 2, g1))
  else
  (clZ (GF_X5_leastThroughTwo a1 a2 a3 a4 g1) fun v10 g9 =>
  some (Sum.inl v10, g9))))
def GJ_X11_live_2 (a1 : Int) (a2 : Int) (g3 : uZ) (v6 : Int) : Option ((Int ⊕ Nat) × uZ) :=
  ck v6 <| if v6 = 0 then
  (some (Sum.inr 2, g3))
  else
  (cp (GF_X5_chosenLive a1 a2 g3) fun v8 =>
  some (Sum.inl v8, g3))
def GJ_X11_live_1 (a1 : Int) (a2 : Int) (g3 : uZ) : Option ((Int ⊕ Nat) × uZ) :=
  GJ_X11_live_2 a1 a2 g3 0
def GF_X11_live (a1 : Int) (a2 : Int) (g : uZ) : Option ((Int ⊕ Nat) × uZ) :=
  cp (GF_X2_has a1 g) fun v1 =>
  ck v1 <| if v1 = 0 then
  (some (Sum.inr 1, g))
  else
  (cp (GF_X11_findPath g) fun g3 =>
  ck a2 <| if a2 < 0 then
  (GJ_X11_live_1 a1 a2 g3)
  else
  (if 20 < a2 then
  (GJ_X11_live_1 a1 a2 g3)
  else
  (GJ_X11_live_2 a1 a2 g3 1)))
def GB_X11_settles_2 (a1 : Int) (v4 : Int) (g3 : uZ) (w5 : Int) : Option (Int ⊕ Int) :=
  ck w5 <| if w5 ≤ 0 then
  (some (Sum.inr w5))
  else
  (cp (GF_X5_chosenLive a1 (w5 - 1) g3) fun v8 =>
  ck v8 <| ck v4 <| if v8 = v4 then
  (lt (w5 + (-1)) fun v10 =>
  some (Sum.inl v10))
  else
  (some (Sum.inr w5)))
def GC_X11_settles_3 (g3 : uZ) (v6 : Int) : Option ((Int ⊕ Nat) × uZ) :=
  some (Sum.inl v6, g3)
def GF_X11_settles (a1 : Int) (g : uZ) : Option ((Int ⊕ Nat) × uZ) :=
  cp (GF_X2_has a1 g) fun v1 =>
  ck v1 <| if v1 = 0 then
  (some (Sum.inr 1, g))
  else
  (cp (GF_X11_findPath g) fun g3 =>
  cp (GF_X5_chosenLive a1 20 g3) fun v4 =>
  lp (fun z => GB_X11_settles_2 a1 v4 g3 z) 20 (fun z => GC_X11_settles_3 g3 z))
def GJ_X11_best_2 (a1 : Int) (g : uZ) (v3 : Int) : Option ((Int ⊕ Nat) × uZ) :=
  ck v3 <| if v3 = 0 then
  (some (Sum.inr 2, g))
  else
  (cp (GF_X11_findRanking g) fun g5 =>
  cp (GF_X6_priceOf a1 g5) fun v6 =>
  some (Sum.inl v6, g5))
def GJ_X11_best_1 (a1 : Int) (g : uZ) : Option ((Int ⊕ Nat) × uZ) :=
  GJ_X11_best_2 a1 g 0
def GF_X11_best (a1 : Int) (g : uZ) : Option ((Int ⊕ Nat) × uZ) :=
  ck a1 <| if a1 < 0 then
  (GJ_X11_best_1 a1 g)
  else
  (if 8 ≤ a1 then
  (GJ_X11_best_1 a1 g)
  else
  (GJ_X11_best_2 a1 g 1))
def GJ_X11_bestAt_2 (a1 : Int) (a2 : Int) (g : uZ) (v3 : Int) : Option ((Int ⊕ Nat) × uZ) :=
  ck v3 <| if v3 = 0 then
  (some (Sum.inr 2, g))
  else
  (cp (GF_X2_has a2 g) fun v5 =>
  ck v5 <| if v5 = 0 then
  (some (Sum.inr 1, g))
  else
  (cp (GF_X11_findRanking g) fun g7 =>
  cp (GF_X6_chosenIn a1 a2 g7) fun v8 =>
  some (Sum.inl v8, g7)))
def GJ_X11_bestAt_1 (a1 : Int) (a2 : Int) (g : uZ) : Option ((Int ⊕ Nat) × uZ) :=
  GJ_X11_bestAt_2 a1 a2 g 0
def GF_X11_bestAt (a1 : Int) (a2 : Int) (g : uZ) : Option ((Int ⊕ Nat) × uZ) :=
  ck a1 <| if a1 < 0 then
  (GJ_X11_bestAt_1 a1 a2 g)
  else
  (if 8 ≤ a1 then
  (GJ_X11_bestAt_1 a1 a2 g)
  else
  (GJ_X11_bestAt_2 a1 a2 g 1))
def GJ_X11_would_2 (a1 : Int) (a2 : Int) (g : uZ) (v5 : Int) : Option ((Int ⊕ Nat) × uZ) :=
  ck v5 <| if v5 = 0 then
  (some (Sum.inr 2, g))
  else
  (cp (GF_X11_findPath g) fun g7 =>
  clZ (GF_X5_leastWith a1 a2 g7) fun v9 g8 =>
  some (Sum.inl v9, g8))
def GJ_X11_would_1 (a1 : Int) (a2 : Int) (g : uZ) : Option ((Int ⊕ Nat) × uZ) :=
  GJ_X11_would_2 a1 a2 g 0
def GF_X11_would (a1 : Int) (a2 : Int) (g : uZ) : Option ((Int ⊕ Nat) × uZ) :=
  ck a1 <| if a1 < 0 then
  (GJ_X11_would_1 a1 a2 g)
  else
  (if 2000 < a1 then
  (GJ_X11_would_1 a1 a2 g)
  else
  (ck a2 <| if a2 < 0 then
  (GJ_X11_would_1 a1 a2 g)
  else
  (if 2000 < a2 then
  (GJ_X11_would_1 a1 a2 g)
  else
  (GJ_X11_would_2 a1 a2 g 1))))
def GJ_X11_span_2 (a1 : Int) (a2 : Int) (g1 : uZ) (v6 : Int) : Option ((Int ⊕ Nat) × uZ) :=
  ck v6 <| if v6 = 0 then
  (some (Sum.inr 1, g1))
  else
  (ck a2 <| if a2 = 0 then
  (cp (GF_X8_firstFrame a1 g1) fun v9 =>
  some (Sum.inl v9, g1))
  else
  (if a2 = 1 then
  (cp (GF_X8_length a1 g1) fun v11 =>
  some (Sum.inl v11, g1))
  else
  (if a2 = 2 then
  (cp (GF_X8_isVoiced a1 g1) fun v13 =>
  ck v13 <| lt (if v13 = 0 then 0 else 1) fun v15 =>
  some (Sum.inl v15, g1))
  else
  (if a2 = 3 then
  (cp (GF_X8_from a1 g1) fun v17 =>
  some (Sum.inl v17, g1))
  else
  (if a2 = 4 then
  (cp (GF_X8_to a1 g1) fun v19 =>
  some (Sum.inl v19, g1))
  else
  (if a2 = 5 then
  (cp (GF_X11_findMarks g1) fun g21 =>
  cp (GF_X3_sizeIn a1 g21) fun v22 =>
  some (Sum.inl v22, g21))
  else
  (cp (GF_X11_findMarks g1) fun g23 =>
  cp (GF_X3_worthIn a1 g23) fun v24 =>
  some (Sum.inl v24, g23))))))))
def GJ_X11_span_1 (a1 : Int) (a2 : Int) (g1 : uZ) : Option ((Int ⊕ Nat) × uZ) :=
  GJ_X11_span_2 a1 a2 g1 0
def GF_X11_span (a1 : Int) (a2 : Int) (g : uZ) : Option ((Int ⊕ Nat) × uZ) :=
  cp (GF_X11_findPath g) fun g1 =>
  cp (GF_X8_has a1 g1) fun v2 =>
  ck v2 <| if v2 = 0 then
  (GJ_X11_span_1 a1 a2 g1)
  else
  (ck a2 <| if a2 < 0 then
  (GJ_X11_span_1 a1 a2 g1)
  else
  (if 6 < a2 then
  (GJ_X11_span_1 a1 a2 g1)
  else
  (GJ_X11_span_2 a1 a2 g1 1)))
def GJ_X11_note_2 (a1 : Int) (a2 : Int) (g1 : uZ) (v6 : Int) : Option ((Int ⊕ Nat) × uZ) :=
  ck v6 <| if v6 = 0 then
  (some (Sum.inr 1, g1))
  else
  (ck a2 <| if a2 = 0 then
  (cp (GF_X4_firstFrame a1 g1) fun v9 =>
  some (Sum.inl v9, g1))
  else
  (if a2 = 1 then
  (cp (GF_X4_length a1 g1) fun v11 =>
  some (Sum.inl v11, g1))
  else
  (cp (GF_X4_lagOf a1 g1) fun v12 =>
  some (Sum.inl v12, g1))))
def GJ_X11_note_1 (a1 : Int) (a2 : Int) (g1 : uZ) : Option ((Int ⊕ Nat) × uZ) :=
  GJ_X11_note_2 a1 a2 g1 0
def GF_X11_note (a1 : Int) (a2 : Int) (g : uZ) : Option ((Int ⊕ Nat) × uZ) :=
  cp (GF_X11_findPath g) fun g1 =>
  cp (GF_X4_has a1 g1) fun v2 =>
  ck v2 <| if v2 = 0 then
  (GJ_X11_note_1 a1 a2 g1)
  else
  (ck a2 <| if a2 < 0 then
  (GJ_X11_note_1 a1 a2 g1)
  else
  (if 2 < a2 then
  (GJ_X11_note_1 a1 a2 g1)
  else
  (GJ_X11_note_2 a1 a2 g1 1)))
def GJ_X11_steady_2 (a1 : Int) (g : uZ) (v3 : Int) : Option ((Int ⊕ Nat) × uZ) :=
  ck v3 <| if v3 = 0 then
  (some (Sum.inr 1, g))
  else
  (cp (GF_X11_findPath g) fun g5 =>
  ck a1 <| if a1 = 0 then
  (cp (GF_X4_steadyFirst g5) fun v7 =>
  some (Sum.inl v7, g5))
  else
  (if a1 = 1 then
  (cp (GF_X4_steadyLength g5) fun v9 =>
  some (Sum.inl v9, g5))
  else
  (cp (GF_X4_steadyLag g5) fun v10 =>
  some (Sum.inl v10, g5))))
def GJ_X11_steady_1 (a1 : Int) (g : uZ) : Option ((Int ⊕ Nat) × uZ) :=
  GJ_X11_steady_2 a1 g 0
def GF_X11_steady (a1 : Int) (g : uZ) : Option ((Int ⊕ Nat) × uZ) :=
  ck a1 <| if a1 < 0 then
  (GJ_X11_steady_1 a1 g)
  else
  (if 2 < a1 then
  (GJ_X11_steady_1 a1 g)
  else
  (GJ_X11_steady_2 a1 g 1))
def GJ_X11_lagAt_2 (g1 : uZ) (v12 : Int) : Option ((Int ⊕ Nat) × uZ) :=
  some (Sum.inl v12, g1)
def GJ_X11_lagAt_3 (a1 : Int) (a2 : Int) (g1 : uZ) (v7 : Int) : Option ((Int ⊕ Nat) × uZ) :=
  ck v7 <| if v7 = 0 then
  (some (Sum.inr 1, g1))
  else
  (cp (GF_X4_unlikeLag a1 g1) fun v9 =>
  ck a2 <| if a2 = 0 then
  (GJ_X11_lagAt_2 g1 v9)
  else
  (cp (GF_X4_framesWith v9 g1) fun v11 =>
  GJ_X11_lagAt_2 g1 v11))
def GJ_X11_lagAt_1 (a1 : Int) (a2 : Int) (g1 : uZ) : Option ((Int ⊕ Nat) × uZ) :=
  GJ_X11_lagAt_3 a1 a2 g1 0
def GF_X11_lagAt (a1 : Int) (a2 : Int) (g : uZ) : Option ((Int ⊕ Nat) × uZ) :=
  cp (GF_X11_findPath g) fun g1 =>
  ck a1 <| if a1 < 0 then
  (GJ_X11_lagAt_1 a1 a2 g1)
  else
  (cp (GF_X4_unlikeLags g1) fun v3 =>
  ck v3 <| if v3 ≤ a1 then
  (GJ_X11_lagAt_1 a1 a2 g1)
  else
  (ck a2 <| if a2 < 0 then
  (GJ_X11_lagAt_1 a1 a2 g1)
  else
  (if 1 < a2 then
  (GJ_X11_lagAt_1 a1 a2 g1)
  else
  (GJ_X11_lagAt_3 a1 a2 g1 1))))
def GJ_X11_common_2 (g5 : uZ) (v9 : Int) : Option ((Int ⊕ Nat) × uZ) :=
  some (Sum.inl v9, g5)
def GJ_X11_common_3 (a1 : Int) (g : uZ) (v3 : Int) : Option ((Int ⊕ Nat) × uZ) :=
  ck v3 <| if v3 = 0 then
  (some (Sum.inr 1, g))
  else
  (cp (GF_X11_findPath g) fun g5 =>
  ck a1 <| if a1 = 0 then
  (cp (GF_X4_commonest g5) fun v8 =>
  GJ_X11_common_2 g5 v8)
  else
  (cp (GF_X4_middleOfAll g5) fun v7 =>
  GJ_X11_common_2 g5 v7))
def GJ_X11_common_1 (a1 : Int) (g : uZ) : Option ((Int ⊕ Nat) × uZ) :=
  GJ_X11_common_3 a1 g 0
def GF_X11_common (a1 : Int) (g : uZ) : Option ((Int ⊕ Nat) × uZ) :=
  ck a1 <| if a1 < 0 then
  (GJ_X11_common_1 a1 g)
  else
  (if 1 < a1 then
  (GJ_X11_common_1 a1 g)
  else
  (GJ_X11_common_3 a1 g 1))
def GJ_X11_match_2 (g6 : uZ) (v10 : Int) : Option ((Int ⊕ Nat) × uZ) :=
  some (Sum.inl v10, g6)
def GJ_X11_match_3 (a1 : Int) (g : uZ) (v3 : Int) : Option ((Int ⊕ Nat) × uZ) :=
  ck v3 <| if v3 = 0 then
  (some (Sum.inr 1, g))
  else
  (cp (GF_X11_findPath g) fun g5 =>
  cp (GF_X10_findPairs g5) fun g6 =>
  ck a1 <| if a1 = 0 then
  (cp (GF_X10_price g6) fun v9 =>
  GJ_X11_match_2 g6 v9)
  else
  (cp (GF_X10_pairs g6) fun v8 =>
  GJ_X11_match_2 g6 v8))
def GJ_X11_match_1 (a1 : Int) (g : uZ) : Option ((Int ⊕ Nat) × uZ) :=
  GJ_X11_match_3 a1 g 0
def GF_X11_match (a1 : Int) (g : uZ) : Option ((Int ⊕ Nat) × uZ) :=
  ck a1 <| if a1 < 0 then
  (GJ_X11_match_1 a1 g)
  else
  (if 1 < a1 then
  (GJ_X11_match_1 a1 g)
  else
  (GJ_X11_match_3 a1 g 1))
def GJ_X11_matched_2 (a1 : Int) (g : uZ) (v4 : Int) : Option ((Int ⊕ Nat) × uZ) :=
  ck v4 <| if v4 = 0 then
  (some (Sum.inr 1, g))
  else
  (cp (GF_X11_findPath g) fun g6 =>
  cp (GF_X10_findPairs g6) fun g7 =>
  cp (GF_X10_pairOf a1 g7) fun v8 =>
  some (Sum.inl v8, g7))
def GJ_X11_matched_1 (a1 : Int) (g : uZ) : Option ((Int ⊕ Nat) × uZ) :=
  GJ_X11_matched_2 a1 g 0
def GF_X11_matched (a1 : Int) (g : uZ) : Option ((Int ⊕ Nat) × uZ) :=
  ck a1 <| if a1 < 0 then
  (GJ_X11_matched_1 a1 g)
  else
  (cp (GF_X10_size g) fun v2 =>
  ck v2 <| if v2 ≤ a1 then
  (GJ_X11_matched_1 a1 g)
  else
  (GJ_X11_matched_2 a1 g 1))
def GF_X11_mark (a1 : Int) (g : uZ) : Option ((Int ⊕ Nat) × uZ) :=
  cp (GF_X11_findMarks g) fun g1 =>
  cp (GF_X3_has a1 g1) fun v2 =>
  ck v2 <| if v2 = 0 then
  (some (Sum.inr 1, g1))
  else
  (cp (GF_X3_at a1 g1) fun v4 =>
  some (Sum.inl v4, g1))
def GJ_X11_gaps_2 (a1 : Int) (g : uZ) (v3 : Int) : Option ((Int ⊕ Nat) × uZ) :=
  ck v3 <| if v3 = 0 then
  (some (Sum.inr 1, g))
  else
  (cp (GF_X11_findMarks g) fun g5 =>
  ck a1 <| if a1 = 0 then
  (cp (GF_X3_gapCount g5) fun v7 =>
  some (Sum.inl v7, g5))
  else
  (if a1 = 1 then
  (cp (GF_X3_jitter g5) fun v9 =>
  some (Sum.inl v9, g5))
  else
  (if a1 = 2 then
  (cp (GF_X3_shimmer g5) fun v11 =>
  some (Sum.inl v11, g5))
  else
  (if a1 = 3 then
  (cp (GF_X3_longestGap g5) fun v13 =>
  some (Sum.inl v13, g5))
  else
  (cp (GF_X3_shortestGap g5) fun v14 =>
  some (Sum.inl v14, g5))))))
def GJ_X11_gaps_1 (a1 : Int) (g : uZ) : Option ((Int ⊕ Nat) × uZ) :=
  GJ_X11_gaps_2 a1 g 0
def GF_X11_gaps (a1 : Int) (g : uZ) : Option ((Int ⊕ Nat) × uZ) :=
  ck a1 <| if a1 < 0 then
  (GJ_X11_gaps_1 a1 g)
  else
  (if 4 < a1 then
  (GJ_X11_gaps_1 a1 g)
  else
  (GJ_X11_gaps_2 a1 g 1))
def GF_X11_rough (a1 : Int) (g : uZ) : Option ((Int ⊕ Nat) × uZ) :=
  cp (GF_X11_findMarks g) fun g1 =>
  cp (GF_X3_has a1 g1) fun v2 =>
  ck v2 <| if v2 = 0 then
  (some (Sum.inr 1, g1))
  else
  (cp (GF_X3_roughness a1 g1) fun v4 =>
  some (Sum.inl v4, g1))
def GF_X11_mean (a1 : Int) (g : uZ) : Option ((Int ⊕ Nat) × uZ) :=
  cp (GF_X11_findMarks g) fun g1 =>
  cp (GF_X3_gapCount g1) fun v2 =>
  ck v2 <| lt (if v2 ≤ 0 then 0 else 1) fun v4 =>
  ck v4 <| if v4 = 0 then
  (some (Sum.inr 1, g1))
  else
  (cp (GF_X3_gapSum g1) fun v6 =>
  cp (GF_X3_gapCount g1) fun v7 =>
  cp (GF_X11_lowest v6 v7 a1 g1) fun v8 =>
  some (Sum.inl v8, g1))
def GJ_X11_anew_2 (a1 : Int) (a2 : Int) (a3 : Int) (g : uZ) (v7 : Int) : Option ((Int ⊕ Nat) × uZ) :=
  ck v7 <| if v7 = 0 then
  (some (Sum.inr 2, g))
  else
  (cp (GF_X11_findMarks g) fun g9 =>
  cp (GF_X3_renewed a1 a2 a3 g9) fun v10 =>
  some (Sum.inl v10, g9))
def GJ_X11_anew_1 (a1 : Int) (a2 : Int) (a3 : Int) (g : uZ) : Option ((Int ⊕ Nat) × uZ) :=
  GJ_X11_anew_2 a1 a2 a3 g 0
def GF_X11_anew (a1 : Int) (a2 : Int) (a3 : Int) (g : uZ) : Option ((Int ⊕ Nat) × uZ) :=
  cp (GF_X7_has a3 g) fun v1 =>
  ck v1 <| if v1 = 0 then
  (some (Sum.inr 1, g))
  else
  (ck a1 <| if a1 < 1 then
  (GJ_X11_anew_1 a1 a2 a3 g)
  else
  (if 4 < a1 then
  (GJ_X11_anew_1 a1 a2 a3 g)
  else
  (ck a2 <| if a2 < 1 then
  (GJ_X11_anew_1 a1 a2 a3 g)
  else
  (if 4 < a2 then
  (GJ_X11_anew_1 a1 a2 a3 g)
  else
  (GJ_X11_anew_2 a1 a2 a3 g 1)))))

/-! quotients; frames of the class and of the reference -/
theorem tn0 : (0 : Int).toNat = 0 := rfl
theorem tn1 : (1 : Int).toNat = 1 := rfl
theorem tn2 : (2 : Int).toNat = 2 := rfl
theorem tn3 : (3 : Int).toNat = 3 := rfl
theorem tn4 : (4 : Int).toNat = 4 := rfl
theorem tn5 : (5 : Int).toNat = 5 := rfl
theorem tn6 : (6 : Int).toNat = 6 := rfl
theorem tn7 : (7 : Int).toNat = 7 := rfl
theorem tn8 : (8 : Int).toNat = 8 := rfl
theorem tn9 : (9 : Int).toNat = 9 := rfl
theorem tn10 : (10 : Int).toNat = 10 := rfl
theorem tn11 : (11 : Int).toNat = 11 := rfl
theorem tn12 : (12 : Int).toNat = 12 := rfl
theorem tn13 : (13 : Int).toNat = 13 := rfl
theorem tn14 : (14 : Int).toNat = 14 := rfl
theorem tn15 : (15 : Int).toNat = 15 := rfl
theorem tn16 : (16 : Int).toNat = 16 := rfl
theorem tn17 : (17 : Int).toNat = 17 := rfl
theorem Fr.f {L : List Nat} {M : List (Nat × Nat)} {g g' : uZ} (h : Fr L M g g') (c : Nat) (hc : c ∉ L) (hm : c ∉ M.map Prod.fst) : g' c = g c := funext fun j => h c j hc (fun h9 => hm (List.mem_map.mpr ⟨_, h9, rfl⟩))
theorem xor_neg (x y : Int32) : (x ^^^ y).toInt < 0 ↔ ¬ (x.toInt < 0 ↔ y.toInt < 0) := by
  have h : (x.toBitVec ^^^ y.toBitVec).msb = (x.toBitVec.msb ^^ y.toBitVec.msb) := BitVec.msb_xor
  rw [BitVec.msb_eq_toInt, BitVec.msb_eq_toInt, BitVec.msb_eq_toInt] at h
  show (x.toBitVec ^^^ y.toBitVec).toInt < 0 ↔ ¬ (x.toBitVec.toInt < 0 ↔ y.toBitVec.toInt < 0)
  generalize (x.toBitVec ^^^ y.toBitVec).toInt = A at *
  generalize x.toBitVec.toInt = X at *
  generalize y.toBitVec.toInt = Y at *
  by_cases h1 : X < 0 <;> by_cases h2 : Y < 0 <;> by_cases h3 : A < 0 <;> simp_all <;> omega
theorem div_at {a b k : Int} (hb : 0 < b) (h1 : k * b ≤ a) (h2 : a < (k + 1) * b) : a / b = k := by
  have e1 := (Int.le_ediv_iff_mul_le hb).mpr h1
  have e2 := (Int.ediv_lt_iff_lt_mul hb).mpr h2
  omega
theorem p_floor (g : uZ) {a b : Int} (ha : inR a) (hb : inR b) (h0 : 0 < b) : GF_J9_floorDiv_7cf53 a b g = some (a / b) := by
  unfold GF_J9_floorDiv_7cf53 GJ_J9_floorDiv_7cf53_1
  have hx := xor_neg (zI a) (zI b)
  rw [toInt_zI ha, toInt_zI hb] at hx
  by_cases h : 0 ≤ a
  · have hq : ¬ (zI a ^^^ zI b).toInt < 0 := by rw [hx]; omega
    simp -implicitDefEqProofs (disch := omega) only [ck_ok, ck_t, if_pos, if_neg, rdZ_ok, wrZ_ok, pfZ_ok, lt_ok, cp_ok, clZ_ok, bzZ_0, bzZ_1, dvZ_ok, rmdZ_ok, tn0, tn1, tn2, tn3, tn4, tn5, tn6, tn7, tn8, tn9, tn10, tn11, tn12, tn13, tn14, tn15, tn16, tn17]
    rw [Int.tdiv_eq_ediv_of_nonneg h]
  · have hq : (zI a ^^^ zI b).toInt < 0 := by rw [hx]; omega
    have e : a.tdiv b = -((-a) / b) := by
      rw [← Int.tdiv_eq_ediv_of_nonneg (by omega : 0 ≤ -a), Int.neg_tdiv, Int.neg_neg]
    have m1 := Int.mul_ediv_add_emod (-a) b
    have m2 := Int.emod_nonneg (-a) (by omega : b ≠ 0)
    have m3 := Int.emod_lt_of_pos (-a) h0
    rw [dvZ_ok ha hb (by omega), e]
    generalize hqq : (-a) / b = q at *
    generalize hrr : (-a) % b = r at *
    have e2 : -q * b = -(b * q) := by rw [Int.neg_mul, Int.mul_comm]
    have e3 : (-q - 1) * b = -(b * q) - b := by rw [Int.sub_mul, e2, Int.one_mul]
    have e4 : (-q + 1) * b = -(b * q) + b := by rw [Int.add_mul, e2, Int.one_mul]
    have hqr : inR (-q * b) := by omega
    by_cases hr : r = 0
    · simp -implicitDefEqProofs (disch := omega) only [ck_ok, ck_t, if_pos, if_neg, rdZ_ok, wrZ_ok, pfZ_ok, lt_ok, cp_ok, clZ_ok, bzZ_0, bzZ_1, dvZ_ok, rmdZ_ok, tn0, tn1, tn2, tn3, tn4, tn5, tn6, tn7, tn8, tn9, tn10, tn11, tn12, tn13, tn14, tn15, tn16, tn17]
      rw [div_at (k := -q) h0 (by omega) (by omega)]
    · simp -implicitDefEqProofs (disch := omega) only [ck_ok, ck_t, if_pos, if_neg, rdZ_ok, wrZ_ok, pfZ_ok, lt_ok, cp_ok, clZ_ok, bzZ_0, bzZ_1, dvZ_ok, rmdZ_ok, tn0, tn1, tn2, tn3, tn4, tn5, tn6, tn7, tn8, tn9, tn10, tn11, tn12, tn13, tn14, tn15, tn16, tn17]
      rw [div_at (k := -q - 1) h0 (by omega) (by rw [Int.sub_add_cancel, e2]; omega)]
theorem p_quot (g : uZ) {a b : Int} (ha : inR a) (hb : inR b) (h0 : 0 < b) : GF_X11_quotient a b g = some (a / b) := by
  unfold GF_X11_quotient GJ_X11_quotient_1
  rw [p_floor g ha hb h0]
  simp -implicitDefEqProofs (disch := omega) only [ck_ok, ck_t, if_pos, if_neg, rdZ_ok, wrZ_ok, pfZ_ok, lt_ok, cp_ok, clZ_ok, bzZ_0, bzZ_1, dvZ_ok, rmdZ_ok, tn0, tn1, tn2, tn3, tn4, tn5, tn6, tn7, tn8, tn9, tn10, tn11, tn12, tn13, tn14, tn15, tn16, tn17]
theorem p_min (g : uZ) {a b : Int} (ha : inR a) (hb : inR b) : GF_J9_min_7cf53 a b g = some (if b < a then b else a) := by
  unfold GF_J9_min_7cf53
  simp -implicitDefEqProofs (disch := omega) only [ck_ok, ck_t, if_pos, if_neg, rdZ_ok, wrZ_ok, pfZ_ok, lt_ok, cp_ok, clZ_ok, bzZ_0, bzZ_1, dvZ_ok, rmdZ_ok, tn0, tn1, tn2, tn3, tn4, tn5, tn6, tn7, tn8, tn9, tn10, tn11, tn12, tn13, tn14, tn15, tn16, tn17]
theorem p_max (g : uZ) {a b : Int} (ha : inR a) (hb : inR b) : GF_J9_max_7cf53 a b g = some (if a < b then b else a) := by
  unfold GF_J9_max_7cf53
  simp -implicitDefEqProofs (disch := omega) only [ck_ok, ck_t, if_pos, if_neg, rdZ_ok, wrZ_ok, pfZ_ok, lt_ok, cp_ok, clZ_ok, bzZ_0, bzZ_1, dvZ_ok, rmdZ_ok, tn0, tn1, tn2, tn3, tn4, tn5, tn6, tn7, tn8, tn9, tn10, tn11, tn12, tn13, tn14, tn15, tn16, tn17]
theorem p_abs (g : uZ) {a : Int} (ha : inR a) : GF_J9_abs_0f7a4 a g = some (ab a) := by
  unfold GF_J9_abs_0f7a4
  simp -implicitDefEqProofs (disch := omega) only [ck_ok, ck_t, if_pos, if_neg, rdZ_ok, wrZ_ok, pfZ_ok, lt_ok, cp_ok, clZ_ok, bzZ_0, bzZ_1, dvZ_ok, rmdZ_ok, tn0, tn1, tn2, tn3, tn4, tn5, tn6, tn7, tn8, tn9, tn10, tn11, tn12, tn13, tn14, tn15, tn16, tn17]
  rfl
theorem m_apart (g : uZ) {a b : Int} (ha : inR a) (hb : inR b) : GF_X12_apart a b g = some (ab (a - b)) := by
  unfold GF_X12_apart ab
  simp -implicitDefEqProofs (disch := omega) only [ck_ok, ck_t, if_pos, if_neg, rdZ_ok, wrZ_ok, pfZ_ok, lt_ok, cp_ok, clZ_ok, bzZ_0, bzZ_1, dvZ_ok, rmdZ_ok, tn0, tn1, tn2, tn3, tn4, tn5, tn6, tn7, tn8, tn9, tn10, tn11, tn12, tn13, tn14, tn15, tn16, tn17]
  congr 1
  split <;> split <;> omega
theorem p2_reach {g : uZ} (hB : BOk (g 5)) : GF_X2_reach g = some (rcS (g 5) : Int) := by
  unfold GF_X2_reach rcS
  have h3 := hB.b3
  have h5 := hB.b5
  rw [p0_3, cp_ok, p0_5, cp_ok]
  congr 1
  omega
theorem p2_size {g : uZ} {n : Nat} (h : g 1 2 = n) (hn : n ≤ 800) (hB : BOk (g 5)) : GF_X2_size g = some (nfS (g 5) n : Int) := by
  unfold GF_X2_size GF_X7_size GJ_X2_size_1
  have h2 := hB.b2
  have h3 := hB.b3
  have h5 := hB.b5
  have h100 := nfS_100 hB hn
  rw [p2_reach hB, h]
  unfold nfS at *
  have hr : rcS (g 5) = bN (g 5) 3 + bN (g 5) 5 + 1 := rfl
  by_cases hc : n < rcS (g 5)
  · rw [if_pos hc]
    simp -implicitDefEqProofs (disch := omega) only [ck_ok, ck_t, if_pos, if_neg, rdZ_ok, wrZ_ok, pfZ_ok, lt_ok, cp_ok, clZ_ok, bzZ_0, bzZ_1, dvZ_ok, rmdZ_ok, tn0, tn1, tn2, tn3, tn4, tn5, tn6, tn7, tn8, tn9, tn10, tn11, tn12, tn13, tn14, tn15, tn16, tn17]
    rfl
  · rw [if_neg hc] at *
    have hq : inR ((n : Int) - (rcS (g 5) : Int)) := by omega
    have e : ((n : Int) - (rcS (g 5) : Int)) / (g 5 2) = ((n - rcS (g 5)) / bN (g 5) 2 : Nat) := by
      rw [h2.1, Int.natCast_ediv]
      congr 1
      omega
    generalize (n - rcS (g 5)) / bN (g 5) 2 = q at *
    simp -implicitDefEqProofs (disch := omega) only [ck_ok, ck_t, if_pos, if_neg, rdZ_ok, wrZ_ok, pfZ_ok, lt_ok, cp_ok, clZ_ok, bzZ_0, bzZ_1, dvZ_ok, rmdZ_ok, tn0, tn1, tn2, tn3, tn4, tn5, tn6, tn7, tn8, tn9, tn10, tn11, tn12, tn13, tn14, tn15, tn16, tn17, p0_2, p_quot, p_min, e]
    refine congrArg some ?_
    split <;> omega
theorem p2_has {g : uZ} {n : Nat} (h : g 1 2 = n) (hn : n ≤ 800) (hB : BOk (g 5)) {f : Int} (hf : inR f) : GF_X2_has f g = some (if 0 ≤ f ∧ f < nfS (g 5) n then 1 else 0) := by
  unfold GF_X2_has GJ_X2_has_1 GJ_X2_has_2
  have h100 := nfS_100 hB hn
  rw [p2_size h hn hB]
  generalize nfS (g 5) n = q at *
  by_cases h1 : f < 0
  · simp -implicitDefEqProofs (disch := omega) only [ck_ok, ck_t, if_pos, if_neg, rdZ_ok, wrZ_ok, pfZ_ok, lt_ok, cp_ok, clZ_ok, bzZ_0, bzZ_1, dvZ_ok, rmdZ_ok, tn0, tn1, tn2, tn3, tn4, tn5, tn6, tn7, tn8, tn9, tn10, tn11, tn12, tn13, tn14, tn15, tn16, tn17]
  · by_cases h2 : f < q
    · simp -implicitDefEqProofs (disch := omega) only [ck_ok, ck_t, if_pos, if_neg, rdZ_ok, wrZ_ok, pfZ_ok, lt_ok, cp_ok, clZ_ok, bzZ_0, bzZ_1, dvZ_ok, rmdZ_ok, tn0, tn1, tn2, tn3, tn4, tn5, tn6, tn7, tn8, tn9, tn10, tn11, tn12, tn13, tn14, tn15, tn16, tn17]
    · simp -implicitDefEqProofs (disch := omega) only [ck_ok, ck_t, if_pos, if_neg, rdZ_ok, wrZ_ok, pfZ_ok, lt_ok, cp_ok, clZ_ok, bzZ_0, bzZ_1, dvZ_ok, rmdZ_ok, tn0, tn1, tn2, tn3, tn4, tn5, tn6, tn7, tn8, tn9, tn10, tn11, tn12, tn13, tn14, tn15, tn16, tn17]
theorem p7_off {g : uZ} {n : Nat} (h : g 1 2 = n) (hn : n ≤ 800) (hx : XOk (g 2)) {hop wide f L : Nat} (hw : wide ≤ 60) (hfit : f * hop + wide + L ≤ n) {s : Int} (hs : s = (f * hop : Nat)) : GF_X7_offItself s wide L g = some (dfS (g 2) hop wide f L) := by
  subst hs
  unfold GF_X7_offItself dfS
  generalize f * hop = S at *
  simp -implicitDefEqProofs (disch := omega) only [ck_ok, ck_t, if_pos, if_neg, rdZ_ok, wrZ_ok, pfZ_ok, lt_ok, cp_ok, clZ_ok, bzZ_0, bzZ_1, dvZ_ok, rmdZ_ok, tn0, tn1, tn2, tn3, tn4, tn5, tn6, tn7, tn8, tn9, tn10, tn11, tn12, tn13, tn14, tn15, tn16, tn17]
  rw [lp_for (fun i => (sm i (fun i => ab (g 2 (S + i) - g 2 (S + i + L))), (S : Int) + i)) wide (sm wide (fun i => ab (g 2 (S + i) - g 2 (S + i + L)))) (by simp [sm]) (by omega)]
  · rfl
  · intro i hi
    have x1 := hx (S + i)
    have x2 := hx (S + i + L)
    unfold GB_X7_offItself_2
    simp only
    rw [ck_ok (by omega), ck_ok (by omega), if_neg (by omega), rdZ_at (S + i) (by omega) (by omega), rdZ_at (S + i + L) (by omega) (by omega)]
    simp -implicitDefEqProofs (disch := omega) only [ck_ok, ck_t, if_pos, if_neg, rdZ_ok, wrZ_ok, pfZ_ok, lt_ok, cp_ok, clZ_ok, bzZ_0, bzZ_1, dvZ_ok, rmdZ_ok, tn0, tn1, tn2, tn3, tn4, tn5, tn6, tn7, tn8, tn9, tn10, tn11, tn12, tn13, tn14, tn15, tn16, tn17]
    rw [sm_s]
    congr 3
  · unfold GB_X7_offItself_2
    simp -implicitDefEqProofs (disch := omega) only [ck_ok, ck_t, if_pos, if_neg, rdZ_ok, wrZ_ok, pfZ_ok, lt_ok, cp_ok, clZ_ok, bzZ_0, bzZ_1, dvZ_ok, rmdZ_ok, tn0, tn1, tn2, tn3, tn4, tn5, tn6, tn7, tn8, tn9, tn10, tn11, tn12, tn13, tn14, tn15, tn16, tn17]
theorem p7_loud {g : uZ} {n : Nat} (h : g 1 2 = n) (hn : n ≤ 800) (hx : XOk (g 2)) {hop wide f : Nat} (hw : wide ≤ 60) (hfit : f * hop + wide ≤ n) {s : Int} (hs : s = (f * hop : Nat)) : GF_X7_loudness s wide g = some (ldS (g 2) hop wide f) := by
  subst hs
  unfold GF_X7_loudness ldS
  generalize f * hop = S at *
  rw [lp_for (fun i => (sm i (fun i => ab (g 2 (S + i))), (S : Int) + i)) wide (sm wide (fun i => ab (g 2 (S + i)))) (by simp [sm]) (by omega)]
  · rfl
  · intro i hi
    have x1 := hx (S + i)
    have e : atS (g 2) n ((S : Int) + i) = g 2 (S + i) := by
      unfold atS
      rw [if_pos (by omega)]
      congr 1
    unfold GB_X7_loudness_2
    simp only
    rw [ck_ok (by omega), ck_ok (by omega), if_neg (by omega), p7_at h hn (by omega), e, cp_ok, p_abs g (by omega), cp_ok]
    simp -implicitDefEqProofs (disch := omega) only [ck_ok, ck_t, if_pos, if_neg, rdZ_ok, wrZ_ok, pfZ_ok, lt_ok, cp_ok, clZ_ok, bzZ_0, bzZ_1, dvZ_ok, rmdZ_ok, tn0, tn1, tn2, tn3, tn4, tn5, tn6, tn7, tn8, tn9, tn10, tn11, tn12, tn13, tn14, tn15, tn16, tn17]
    rw [sm_s]
    congr 3
  · unfold GB_X7_loudness_2
    simp -implicitDefEqProofs (disch := omega) only [ck_ok, ck_t, if_pos, if_neg, rdZ_ok, wrZ_ok, pfZ_ok, lt_ok, cp_ok, clZ_ok, bzZ_0, bzZ_1, dvZ_ok, rmdZ_ok, tn0, tn1, tn2, tn3, tn4, tn5, tn6, tn7, tn8, tn9, tn10, tn11, tn12, tn13, tn14, tn15, tn16, tn17]

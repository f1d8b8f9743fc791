theorem rC_X6_find_4 {w4_ : Int32} {w4 : Int} (e_w4 : w4_ = zI w4) {g10 : uZ} {zr : ((Int × uZ) ⊕ uZ)} (h : GC_X6_find_4 w4 g10 = some zr) : C_X6_find_4 w4_ (zS g10) = some (em_3 zr) := by
  subst e_w4
  unfold GC_X6_find_4 at h
  unfold C_X6_find_4
  refine lt_r (e_add rfl kz_m1) h ?_
  clear h
  intro v15 h
  cases h
  exact congrArg some (congrArg Sum.inl (e_pair rfl rfl))
theorem rB_X6_find_5 {w4_ : Int32} {w4 : Int} (e_w4 : w4_ = zI w4) {g5 : uZ} {zr : ((Int × uZ) ⊕ uZ)} (h : GB_X6_find_5 w4 g5 = some zr) : B_X6_find_5 w4_ (zS g5) = some (em_3 zr) := by
  subst e_w4
  unfold GB_X6_find_5 at h
  unfold B_X6_find_5
  obtain ⟨hr1, h⟩ := ck_e h
  refine ite_r (c_lt rfl kz_0 hr1 ir_0) h ?_ ?_
  · clear h
    intro h
    cases h
    exact congrArg some (congrArg Sum.inr rfl)
  · clear h
    intro h
    refine lp_r em_2 zS (e_pair kz_0 rfl) (fun q r h => rB_X6_find_3 rfl rfl h) h ?_
    clear h
    intro z h
    exact rC_X6_find_4 rfl h
theorem rC_X6_find_6 {g6 : uZ} {zr : uZ} (h : GC_X6_find_6 g6 = some zr) : C_X6_find_6 (zS g6) = some (zS zr) := by
  unfold GC_X6_find_6 at h
  unfold C_X6_find_6
  refine cp_r (e := zS) (fun _ h => rF_X6_findWays kz_m1 kz_0 h) h ?_
  clear h
  intro g16 h
  cases h
  rfl
theorem rF_X6_find {g : uZ} {zr : uZ} (h : GF_X6_find g = some zr) : F_X6_find (zS g) = some (zS zr) := by
  unfold GF_X6_find at h
  unfold F_X6_find
  refine cp_r (e := zS) (fun _ h => rF_X9_setBy_28_4 h) h ?_
  clear h
  intro g1 h
  refine cp_r (e := zI) (fun _ h => rF_X1_frameCount h) h ?_
  clear h
  intro v2 h
  refine lt_r (e_sub rfl kz_1) h ?_
  clear h
  intro v3 h
  refine lp_r em_2 zS (e_pair rfl rfl) (fun q r h => rB_X6_find_5 rfl h) h ?_
  clear h
  intro z h
  exact rC_X6_find_6 h
theorem rJ_X6_priceOf_2 {v6_ : Int32} {v6 : Int} (e_v6 : v6_ = zI v6) {zr : Int} (h : GJ_X6_priceOf_2 v6 = some zr) : J_X6_priceOf_2 v6_ = some (zI zr) := by
  subst e_v6
  unfold GJ_X6_priceOf_2 at h
  unfold J_X6_priceOf_2
  cases h
  rfl
theorem rJ_X6_priceOf_1 {zr : Int} (h : GJ_X6_priceOf_1 = some zr) : J_X6_priceOf_1 = some (zI zr) := by
  unfold GJ_X6_priceOf_1 at h
  unfold J_X6_priceOf_1
  exact rJ_X6_priceOf_2 kz_m1 h
theorem rF_X6_priceOf {a1_ : Int32} {a1 : Int} (e_a1 : a1_ = zI a1) {g : uZ} {zr : Int} (h : GF_X6_priceOf a1 g = some zr) : F_X6_priceOf a1_ (zS g) = some (zI zr) := by
  subst e_a1
  unfold GF_X6_priceOf at h
  unfold F_X6_priceOf
  obtain ⟨hr1, h⟩ := ck_e h
  refine ite_r (c_lt rfl kz_0 hr1 ir_0) h ?_ ?_
  · clear h
    intro h
    exact rJ_X6_priceOf_1 h
  · clear h
    intro h
    refine rd_r (Nat.le_of_ble_eq_true rfl) kz_0 h ?_
    clear h
    intro v2 h
    obtain ⟨hr2, h⟩ := ck_e h
    refine ite_r (c_le rfl rfl hr2 hr1) h ?_ ?_
    · clear h
      intro h
      exact rJ_X6_priceOf_1 h
    · clear h
      intro h
      refine ite_r (c_lt rfl kz_8 hr1 ir_8) h ?_ ?_
      · clear h
        intro h
        refine rd_r (Nat.le_of_ble_eq_true rfl) rfl h ?_
        clear h
        intro v5 h
        exact rJ_X6_priceOf_2 rfl h
      · clear h
        intro h
        exact rJ_X6_priceOf_1 h
theorem rJ_X6_chosenIn_2 {zr : ((Int × Int) ⊕ (Int ⊕ Int))} (h : GJ_X6_chosenIn_2 = some zr) : J_X6_chosenIn_2 = some (em_13 zr) := by
  unfold GJ_X6_chosenIn_2 at h
  unfold J_X6_chosenIn_2
  cases h
  exact congrArg some (congrArg Sum.inr (congrArg Sum.inr kz_m1))
theorem rB_X6_chosenIn_3 {a2_ : Int32} {a2 : Int} (e_a2 : a2_ = zI a2) {g : uZ} {w9_ : Int32} {w9 : Int} (e_w9 : w9_ = zI w9) {w10_ : Int32} {w10 : Int} (e_w10 : w10_ = zI w10) {zr : ((Int × Int) ⊕ (Int ⊕ Int))} (h : GB_X6_chosenIn_3 a2 g w9 w10 = some zr) : B_X6_chosenIn_3 a2_ (zS g) w9_ w10_ = some (em_13 zr) := by
  subst e_a2 e_w9 e_w10
  unfold GB_X6_chosenIn_3 at h
  unfold B_X6_chosenIn_3
  obtain ⟨hr1, h⟩ := ck_e h
  obtain ⟨hr2, h⟩ := ck_e h
  refine ite_r (c_le rfl rfl hr1 hr2) h ?_ ?_
  · clear h
    intro h
    cases h
    exact congrArg some (congrArg Sum.inr (congrArg Sum.inl rfl))
  · clear h
    intro h
    obtain ⟨hr3, h⟩ := ck_e h
    refine ite_r (c_lt rfl kz_0 hr3 ir_0) h ?_ ?_
    · clear h
      intro h
      exact rJ_X6_chosenIn_2 h
    · clear h
      intro h
      refine dv_r rfl kz_8 h ?_
      clear h
      intro v14 h
      refine cp_r (e := zI) (fun _ h => rF_X1_has rfl rfl h) h ?_
      clear h
      intro v15 h
      obtain ⟨hr4, h⟩ := ck_e h
      refine ite_r (c_eq rfl kz_0 hr4 ir_0) h ?_ ?_
      · clear h
        intro h
        exact rJ_X6_chosenIn_2 h
      · clear h
        intro h
        refine dv_r rfl kz_8 h ?_
        clear h
        intro v17 h
        refine cp_r (e := zI) (fun _ h => rF_X6_place rfl rfl h) h ?_
        clear h
        intro v18 h
        refine rmd_r rfl kz_8 h ?_
        clear h
        intro v19 h
        refine rd_r (Nat.le_of_ble_eq_true rfl) (e_add rfl rfl) h ?_
        clear h
        intro v20 h
        refine lt_r (e_add rfl kz_1) h ?_
        clear h
        intro v21 h
        cases h
        exact congrArg some (congrArg Sum.inl (e_pair rfl rfl))
theorem rC_X6_chosenIn_4 {v11_ : Int32} {v11 : Int} (e_v11 : v11_ = zI v11) {zr : Int} (h : GC_X6_chosenIn_4 v11 = some zr) : C_X6_chosenIn_4 v11_ = some (zI zr) := by
  subst e_v11
  unfold GC_X6_chosenIn_4 at h
  unfold C_X6_chosenIn_4
  refine dv_r rfl kz_8 h ?_
  clear h
  intro v22 h
  cases h
  rfl
theorem rJ_X6_chosenIn_5 {zr : Int} (h : GJ_X6_chosenIn_5 = some zr) : J_X6_chosenIn_5 = some (zI zr) := by
  unfold GJ_X6_chosenIn_5 at h
  unfold J_X6_chosenIn_5
  cases h
  exact congrArg some kz_m1
theorem rF_X6_chosenIn {a1_ : Int32} {a1 : Int} (e_a1 : a1_ = zI a1) {a2_ : Int32} {a2 : Int} (e_a2 : a2_ = zI a2) {g : uZ} {zr : Int} (h : GF_X6_chosenIn a1 a2 g = some zr) : F_X6_chosenIn a1_ a2_ (zS g) = some (zI zr) := by
  subst e_a1 e_a2
  unfold GF_X6_chosenIn at h
  unfold F_X6_chosenIn
  obtain ⟨hr1, h⟩ := ck_e h
  refine ite_r (c_lt rfl kz_0 hr1 ir_0) h ?_ ?_
  · clear h
    intro h
    exact rJ_X6_chosenIn_5 h
  · clear h
    intro h
    refine rd_r (Nat.le_of_ble_eq_true rfl) kz_0 h ?_
    clear h
    intro v2 h
    obtain ⟨hr2, h⟩ := ck_e h
    refine ite_r (c_le rfl rfl hr2 hr1) h ?_ ?_
    · clear h
      intro h
      exact rJ_X6_chosenIn_5 h
    · clear h
      intro h
      refine ite_r (c_le kz_8 rfl ir_8 hr1) h ?_ ?_
      · clear h
        intro h
        exact rJ_X6_chosenIn_5 h
      · clear h
        intro h
        obtain ⟨hr3, h⟩ := ck_e h
        refine ite_r (c_lt rfl kz_0 hr3 ir_0) h ?_ ?_
        · clear h
          intro h
          exact rJ_X6_chosenIn_5 h
        · clear h
          intro h
          refine cp_r (e := zI) (fun _ h => rF_X1_frameCount h) h ?_
          clear h
          intro v6 h
          obtain ⟨hr4, h⟩ := ck_e h
          refine ite_r (c_lt rfl rfl hr3 hr4) h ?_ ?_
          · clear h
            intro h
            refine rd_r (Nat.le_of_ble_eq_true rfl) rfl h ?_
            clear h
            intro v8 h
            refine lp_r em_0 em_12 (e_pair rfl kz_0) (fun q r h => rB_X6_chosenIn_3 rfl rfl rfl h) h ?_
            clear h
            intro z h
            rcases z with z | z
            · exact rC_X6_chosenIn_4 rfl h
            · cases h
              rfl
          · clear h
            intro h
            exact rJ_X6_chosenIn_5 h
theorem rJ_X8_find_3 {w2_ : Int32} {w2 : Int} (e_w2 : w2_ = zI w2) {g18 : uZ} {zr : ((Int × uZ) ⊕ uZ)} (h : GJ_X8_find_3 w2 g18 = some zr) : J_X8_find_3 w2_ (zS g18) = some (em_3 zr) := by
  subst e_w2
  unfold GJ_X8_find_3 at h
  unfold J_X8_find_3
  refine rd_r (Nat.le_of_ble_eq_true rfl) (e_sub rfl kz_1) h ?_
  clear h
  intro v19 h
  refine wr_r (Nat.le_of_ble_eq_true rfl) (e_sub rfl kz_1) (e_add rfl kz_1) h ?_
  clear h
  intro g20 h
  refine wr_r (Nat.le_of_ble_eq_true rfl) rfl (e_sub rfl kz_1) h ?_
  clear h
  intro g21 h
  refine lt_r (e_add rfl kz_1) h ?_
  clear h
  intro v22 h
  cases h
  exact congrArg some (congrArg Sum.inl (e_pair rfl rfl))
theorem rJ_X8_find_2 {w2_ : Int32} {w2 : Int} (e_w2 : w2_ = zI w2) {g3 : uZ} {zr : ((Int × uZ) ⊕ uZ)} (h : GJ_X8_find_2 w2 g3 = some zr) : J_X8_find_2 w2_ (zS g3) = some (em_3 zr) := by
  subst e_w2
  unfold GJ_X8_find_2 at h
  unfold J_X8_find_2
  refine wr_r (Nat.le_of_ble_eq_true rfl) rfl rfl h ?_
  clear h
  intro g15 h
  refine wr_r (Nat.le_of_ble_eq_true rfl) rfl kz_0 h ?_
  clear h
  intro g16 h
  refine pf_r (e_add rfl kz_1) h ?_
  clear h
  intro g17 h
  exact rJ_X8_find_3 rfl h
theorem rB_X8_find_4 {w2_ : Int32} {w2 : Int} (e_w2 : w2_ = zI w2) {g3 : uZ} {zr : ((Int × uZ) ⊕ uZ)} (h : GB_X8_find_4 w2 g3 = some zr) : B_X8_find_4 w2_ (zS g3) = some (em_3 zr) := by
  subst e_w2
  unfold GB_X8_find_4 at h
  unfold B_X8_find_4
  refine cp_r (e := zI) (fun _ h => rF_X5_size h) h ?_
  clear h
  intro v5 h
  obtain ⟨hr1, h⟩ := ck_e h
  obtain ⟨hr2, h⟩ := ck_e h
  refine ite_r (c_le rfl rfl hr1 hr2) h ?_ ?_
  · clear h
    intro h
    cases h
    exact congrArg some (congrArg Sum.inr rfl)
  · clear h
    intro h
    refine ite_r (c_eq rfl kz_0 hr2 ir_0) h ?_ ?_
    · clear h
      intro h
      exact rJ_X8_find_2 rfl h
    · clear h
      intro h
      refine cp_r (e := zI) (fun _ h => rF_X5_lagIn rfl h) h ?_
      clear h
      intro v8 h
      obtain ⟨hr3, h⟩ := ck_e h
      refine lt_r (e_ite (c_eq rfl kz_0 hr3 ir_0) kz_1 kz_0) h ?_
      clear h
      intro v10 h
      refine cp_r (e := zI) (fun _ h => rF_X5_lagIn (e_sub rfl kz_1) h) h ?_
      clear h
      intro v11 h
      obtain ⟨hr4, h⟩ := ck_e h
      refine lt_r (e_ite (c_eq rfl kz_0 hr4 ir_0) kz_1 kz_0) h ?_
      clear h
      intro v13 h
      obtain ⟨hr5, h⟩ := ck_e h
      obtain ⟨hr6, h⟩ := ck_e h
      refine ite_r (c_eq rfl rfl hr5 hr6) h ?_ ?_
      · clear h
        intro h
        exact rJ_X8_find_3 rfl h
      · clear h
        intro h
        exact rJ_X8_find_2 rfl h
theorem rC_X8_find_5 {g4 : uZ} {zr : uZ} (h : GC_X8_find_5 g4 = some zr) : C_X8_find_5 (zS g4) = some (zS zr) := by
  unfold GC_X8_find_5 at h
  unfold C_X8_find_5
  cases h
  rfl
theorem rF_X8_find {g : uZ} {zr : uZ} (h : GF_X8_find g = some zr) : F_X8_find (zS g) = some (zS zr) := by
  unfold GF_X8_find at h
  unfold F_X8_find
  refine pf_r kz_0 h ?_
  clear h
  intro g1 h
  refine lp_r em_2 zS (e_pair kz_0 rfl) (fun q r h => rB_X8_find_4 rfl h) h ?_
  clear h
  intro z h
  exact rC_X8_find_5 h
theorem rF_X8_size {g : uZ} {zr : Int} (h : GF_X8_size g = some zr) : F_X8_size (zS g) = some (zI zr) := by
  unfold GF_X8_size at h
  unfold F_X8_size
  cases h
  rfl
theorem rJ_X8_has_2 {v3_ : Int32} {v3 : Int} (e_v3 : v3_ = zI v3) {zr : Int} (h : GJ_X8_has_2 v3 = some zr) : J_X8_has_2 v3_ = some (zI zr) := by
  subst e_v3
  unfold GJ_X8_has_2 at h
  unfold J_X8_has_2
  refine bz_r rfl h ?_
  clear h
  intro h
  cases h
  rfl
theorem rJ_X8_has_1 {zr : Int} (h : GJ_X8_has_1 = some zr) : J_X8_has_1 = some (zI zr) := by
  unfold GJ_X8_has_1 at h
  unfold J_X8_has_1
  exact rJ_X8_has_2 kz_0 h
theorem rF_X8_has {a1_ : Int32} {a1 : Int} (e_a1 : a1_ = zI a1) {g : uZ} {zr : Int} (h : GF_X8_has a1 g = some zr) : F_X8_has a1_ (zS g) = some (zI zr) := by
  subst e_a1
  unfold GF_X8_has at h
  unfold F_X8_has
  obtain ⟨hr1, h⟩ := ck_e h
  refine ite_r (c_lt rfl kz_0 hr1 ir_0) h ?_ ?_
  · clear h
    intro h
    exact rJ_X8_has_1 h
  · clear h
    intro h
    obtain ⟨hr2, h⟩ := ck_e h
    refine ite_r (c_le rfl rfl hr2 hr1) h ?_ ?_
    · clear h
      intro h
      exact rJ_X8_has_1 h
    · clear h
      intro h
      exact rJ_X8_has_2 kz_1 h
theorem rJ_X8_firstFrame_1 {v4_ : Int32} {v4 : Int} (e_v4 : v4_ = zI v4) {zr : Int} (h : GJ_X8_firstFrame_1 v4 = some zr) : J_X8_firstFrame_1 v4_ = some (zI zr) := by
  subst e_v4
  unfold GJ_X8_firstFrame_1 at h
  unfold J_X8_firstFrame_1
  cases h
  rfl
theorem rF_X8_firstFrame {a1_ : Int32} {a1 : Int} (e_a1 : a1_ = zI a1) {g : uZ} {zr : Int} (h : GF_X8_firstFrame a1 g = some zr) : F_X8_firstFrame a1_ (zS g) = some (zI zr) := by
  subst e_a1
  unfold GF_X8_firstFrame at h
  unfold F_X8_firstFrame
  refine cp_r (e := zI) (fun _ h => rF_X8_has rfl h) h ?_
  clear h
  intro v1 h
  obtain ⟨hr1, h⟩ := ck_e h
  refine ite_r (c_eq rfl kz_0 hr1 ir_0) h ?_ ?_
  · clear h
    intro h
    exact rJ_X8_firstFrame_1 kz_m1 h
  · clear h
    intro h
    refine rd_r (Nat.le_of_ble_eq_true rfl) rfl h ?_
    clear h
    intro v3 h
    exact rJ_X8_firstFrame_1 rfl h
theorem rJ_X8_length_1 {v4_ : Int32} {v4 : Int} (e_v4 : v4_ = zI v4) {zr : Int} (h : GJ_X8_length_1 v4 = some zr) : J_X8_length_1 v4_ = some (zI zr) := by
  subst e_v4
  unfold GJ_X8_length_1 at h
  unfold J_X8_length_1
  cases h
  rfl
theorem rF_X8_length {a1_ : Int32} {a1 : Int} (e_a1 : a1_ = zI a1) {g : uZ} {zr : Int} (h : GF_X8_length a1 g = some zr) : F_X8_length a1_ (zS g) = some (zI zr) := by
  subst e_a1
  unfold GF_X8_length at h
  unfold F_X8_length
  refine cp_r (e := zI) (fun _ h => rF_X8_has rfl h) h ?_
  clear h
  intro v1 h
  obtain ⟨hr1, h⟩ := ck_e h
  refine ite_r (c_eq rfl kz_0 hr1 ir_0) h ?_ ?_
  · clear h
    intro h
    exact rJ_X8_length_1 kz_0 h
  · clear h
    intro h
    refine rd_r (Nat.le_of_ble_eq_true rfl) rfl h ?_
    clear h
    intro v3 h
    exact rJ_X8_length_1 rfl h
theorem rJ_X8_isVoiced_2 {v6_ : Int32} {v6 : Int} (e_v6 : v6_ = zI v6) {zr : Int} (h : GJ_X8_isVoiced_2 v6 = some zr) : J_X8_isVoiced_2 v6_ = some (zI zr) := by
  subst e_v6
  unfold GJ_X8_isVoiced_2 at h
  unfold J_X8_isVoiced_2
  refine bz_r rfl h ?_
  clear h
  intro h
  cases h
  rfl
theorem rJ_X8_isVoiced_1 {zr : Int} (h : GJ_X8_isVoiced_1 = some zr) : J_X8_isVoiced_1 = some (zI zr) := by
  unfold GJ_X8_isVoiced_1 at h
  unfold J_X8_isVoiced_1
  exact rJ_X8_isVoiced_2 kz_0 h
theorem rF_X8_isVoiced {a1_ : Int32} {a1 : Int} (e_a1 : a1_ = zI a1) {g : uZ} {zr : Int} (h : GF_X8_isVoiced a1 g = some zr) : F_X8_isVoiced a1_ (zS g) = some (zI zr) := by
  subst e_a1
  unfold GF_X8_isVoiced at h
  unfold F_X8_isVoiced
  refine cp_r (e := zI) (fun _ h => rF_X8_has rfl h) h ?_
  clear h
  intro v1 h
  obtain ⟨hr1, h⟩ := ck_e h
  refine ite_r (c_eq rfl kz_0 hr1 ir_0) h ?_ ?_
  · clear h
    intro h
    exact rJ_X8_isVoiced_1 h
  · clear h
    intro h
    refine rd_r (Nat.le_of_ble_eq_true rfl) rfl h ?_
    clear h
    intro v3 h
    refine cp_r (e := zI) (fun _ h => rF_X5_lagIn rfl h) h ?_
    clear h
    intro v4 h
    obtain ⟨hr2, h⟩ := ck_e h
    refine ite_r (c_eq rfl kz_0 hr2 ir_0) h ?_ ?_
    · clear h
      intro h
      exact rJ_X8_isVoiced_1 h
    · clear h
      intro h
      exact rJ_X8_isVoiced_2 kz_1 h
theorem rJ_X8_from_1 {v5_ : Int32} {v5 : Int} (e_v5 : v5_ = zI v5) {zr : Int} (h : GJ_X8_from_1 v5 = some zr) : J_X8_from_1 v5_ = some (zI zr) := by
  subst e_v5
  unfold GJ_X8_from_1 at h
  unfold J_X8_from_1
  cases h
  rfl
theorem rF_X8_from {a1_ : Int32} {a1 : Int} (e_a1 : a1_ = zI a1) {g : uZ} {zr : Int} (h : GF_X8_from a1 g = some zr) : F_X8_from a1_ (zS g) = some (zI zr) := by
  subst e_a1
  unfold GF_X8_from at h
  unfold F_X8_from
  refine cp_r (e := zI) (fun _ h => rF_X8_has rfl h) h ?_
  clear h
  intro v1 h
  obtain ⟨hr1, h⟩ := ck_e h
  refine ite_r (c_eq rfl kz_0 hr1 ir_0) h ?_ ?_
  · clear h
    intro h
    exact rJ_X8_from_1 kz_0 h
  · clear h
    intro h
    refine rd_r (Nat.le_of_ble_eq_true rfl) rfl h ?_
    clear h
    intro v3 h
    refine cp_r (e := zI) (fun _ h => rF_X0_of kz_2 h) h ?_
    clear h
    intro v4 h
    exact rJ_X8_from_1 (e_mul rfl rfl) h
theorem rJ_X8_to_1 {v8_ : Int32} {v8 : Int} (e_v8 : v8_ = zI v8) {zr : Int} (h : GJ_X8_to_1 v8 = some zr) : J_X8_to_1 v8_ = some (zI zr) := by
  subst e_v8
  unfold GJ_X8_to_1 at h
  unfold J_X8_to_1
  cases h
  rfl
theorem rF_X8_to {a1_ : Int32} {a1 : Int} (e_a1 : a1_ = zI a1) {g : uZ} {zr : Int} (h : GF_X8_to a1 g = some zr) : F_X8_to a1_ (zS g) = some (zI zr) := by
  subst e_a1
  unfold GF_X8_to at h
  unfold F_X8_to
  refine cp_r (e := zI) (fun _ h => rF_X8_has rfl h) h ?_
  clear h
  intro v1 h
  obtain ⟨hr1, h⟩ := ck_e h
  refine ite_r (c_eq rfl kz_0 hr1 ir_0) h ?_ ?_
  · clear h
    intro h
    exact rJ_X8_to_1 kz_0 h
  · clear h
    intro h
    refine cp_r (e := zI) (fun _ h => rF_X7_size h) h ?_
    clear h
    intro v3 h
    refine rd_r (Nat.le_of_ble_eq_true rfl) rfl h ?_
    clear h
    intro v4 h
    refine rd_r (Nat.le_of_ble_eq_true rfl) rfl h ?_
    clear h
    intro v5 h
    refine cp_r (e := zI) (fun _ h => rF_X0_of kz_2 h) h ?_
    clear h
    intro v6 h
    refine cp_r (e := zI) (fun _ h => rF_J9_min_7cf53 rfl (e_mul (e_add rfl rfl) rfl) h) h ?_
    clear h
    intro v7 h
    exact rJ_X8_to_1 rfl h
theorem rF_X8_lagAtSample {a1_ : Int32} {a1 : Int} (e_a1 : a1_ = zI a1) {g : uZ} {zr : Int} (h : GF_X8_lagAtSample a1 g = some zr) : F_X8_lagAtSample a1_ (zS g) = some (zI zr) := by
  subst e_a1
  unfold GF_X8_lagAtSample at h
  unfold F_X8_lagAtSample
  refine cp_r (e := zI) (fun _ h => rF_X0_of kz_2 h) h ?_
  clear h
  intro v1 h
  refine cp_r (e := zI) (fun _ h => rF_X11_quotient rfl rfl h) h ?_
  clear h
  intro v2 h
  refine cp_r (e := zI) (fun _ h => rF_X5_lagIn rfl h) h ?_
  clear h
  intro v3 h
  cases h
  rfl
theorem rJ_X8_ofSample_2 {v7_ : Int32} {v7 : Int} (e_v7 : v7_ = zI v7) {zr : Int} (h : GJ_X8_ofSample_2 v7 = some zr) : J_X8_ofSample_2 v7_ = some (zI zr) := by
  subst e_v7
  unfold GJ_X8_ofSample_2 at h
  unfold J_X8_ofSample_2
  cases h
  rfl
theorem rJ_X8_ofSample_1 {zr : Int} (h : GJ_X8_ofSample_1 = some zr) : J_X8_ofSample_1 = some (zI zr) := by
  unfold GJ_X8_ofSample_1 at h
  unfold J_X8_ofSample_1
  exact rJ_X8_ofSample_2 kz_m1 h
theorem rF_X8_ofSample {a1_ : Int32} {a1 : Int} (e_a1 : a1_ = zI a1) {g : uZ} {zr : Int} (h : GF_X8_ofSample a1 g = some zr) : F_X8_ofSample a1_ (zS g) = some (zI zr) := by
  subst e_a1
  unfold GF_X8_ofSample at h
  unfold F_X8_ofSample
  refine cp_r (e := zI) (fun _ h => rF_X0_of kz_2 h) h ?_
  clear h
  intro v1 h
  refine cp_r (e := zI) (fun _ h => rF_X11_quotient rfl rfl h) h ?_
  clear h
  intro v2 h
  obtain ⟨hr1, h⟩ := ck_e h
  refine ite_r (c_lt rfl kz_0 hr1 ir_0) h ?_ ?_
  · clear h
    intro h
    exact rJ_X8_ofSample_1 h
  · clear h
    intro h
    refine cp_r (e := zI) (fun _ h => rF_X5_size h) h ?_
    clear h
    intro v4 h
    obtain ⟨hr2, h⟩ := ck_e h
    refine ite_r (c_lt rfl rfl hr1 hr2) h ?_ ?_
    · clear h
      intro h
      refine rd_r (Nat.le_of_ble_eq_true rfl) rfl h ?_
      clear h
      intro v6 h
      exact rJ_X8_ofSample_2 rfl h
    · clear h
      intro h
      exact rJ_X8_ofSample_1 h
theorem rJ_X4_findNotes_5 {w2_ : Int32} {w2 : Int} (e_w2 : w2_ = zI w2) {g21 : uZ} {zr : ((Int × uZ) ⊕ uZ)} (h : GJ_X4_findNotes_5 w2 g21 = some zr) : J_X4_findNotes_5 w2_ (zS g21) = some (em_3 zr) := by
  subst e_w2
  unfold GJ_X4_findNotes_5 at h
  unfold J_X4_findNotes_5
  refine lt_r (e_add rfl kz_1) h ?_
  clear h
  intro v22 h
  cases h
  exact congrArg some (congrArg Sum.inl (e_pair rfl rfl))
theorem rJ_X4_findNotes_3 {w2_ : Int32} {w2 : Int} (e_w2 : w2_ = zI w2) {g18 : uZ} {zr : ((Int × uZ) ⊕ uZ)} (h : GJ_X4_findNotes_3 w2 g18 = some zr) : J_X4_findNotes_3 w2_ (zS g18) = some (em_3 zr) := by
  subst e_w2
  unfold GJ_X4_findNotes_3 at h
  unfold J_X4_findNotes_3
  refine rd_r (Nat.le_of_ble_eq_true rfl) (e_sub rfl kz_1) h ?_
  clear h
  intro v19 h
  refine wr_r (Nat.le_of_ble_eq_true rfl) (e_sub rfl kz_1) (e_add rfl kz_1) h ?_
  clear h
  intro g20 h
  exact rJ_X4_findNotes_5 rfl h
theorem rJ_X4_findNotes_2 {w2_ : Int32} {w2 : Int} (e_w2 : w2_ = zI w2) {g3 : uZ} {zr : ((Int × uZ) ⊕ uZ)} (h : GJ_X4_findNotes_2 w2 g3 = some zr) : J_X4_findNotes_2 w2_ (zS g3) = some (em_3 zr) := by
  subst e_w2
  unfold GJ_X4_findNotes_2 at h
  unfold J_X4_findNotes_2
  refine wr_r (Nat.le_of_ble_eq_true rfl) rfl rfl h ?_
  clear h
  intro g15 h
  refine wr_r (Nat.le_of_ble_eq_true rfl) rfl kz_0 h ?_
  clear h
  intro g16 h
  refine pf_r (e_add rfl kz_1) h ?_
  clear h
  intro g17 h
  exact rJ_X4_findNotes_3 rfl h
theorem rJ_X4_findNotes_4 {v7_ : Int32} {v7 : Int} (e_v7 : v7_ = zI v7) {w2_ : Int32} {w2 : Int} (e_w2 : w2_ = zI w2) {g3 : uZ} {v11_ : Int32} {v11 : Int} (e_v11 : v11_ = zI v11) {zr : ((Int × uZ) ⊕ uZ)} (h : GJ_X4_findNotes_4 v7 w2 g3 v11 = some zr) : J_X4_findNotes_4 v7_ w2_ (zS g3) v11_ = some (em_3 zr) := by
  subst e_v7 e_w2 e_v11
  unfold GJ_X4_findNotes_4 at h
  unfold J_X4_findNotes_4
  obtain ⟨hr1, h⟩ := ck_e h
  refine ite_r (c_eq rfl kz_0 hr1 ir_0) h ?_ ?_
  · clear h
    intro h
    exact rJ_X4_findNotes_2 rfl h
  · clear h
    intro h
    refine cp_r (e := zI) (fun _ h => rF_J9_abs_0f7a4 (e_sub rfl rfl) h) h ?_
    clear h
    intro v13 h
    obtain ⟨hr2, h⟩ := ck_e h
    refine ite_r (c_le rfl kz_1 hr2 ir_1) h ?_ ?_
    · clear h
      intro h
      exact rJ_X4_findNotes_3 rfl h
    · clear h
      intro h
      exact rJ_X4_findNotes_2 rfl h
theorem rB_X4_findNotes_6 {w2_ : Int32} {w2 : Int} (e_w2 : w2_ = zI w2) {g3 : uZ} {zr : ((Int × uZ) ⊕ uZ)} (h : GB_X4_findNotes_6 w2 g3 = some zr) : B_X4_findNotes_6 w2_ (zS g3) = some (em_3 zr) := by
  subst e_w2
  unfold GB_X4_findNotes_6 at h
  unfold B_X4_findNotes_6
  refine cp_r (e := zI) (fun _ h => rF_X5_size h) h ?_
  clear h
  intro v5 h
  obtain ⟨hr1, h⟩ := ck_e h
  obtain ⟨hr2, h⟩ := ck_e h
  refine ite_r (c_le rfl rfl hr1 hr2) h ?_ ?_
  · clear h
    intro h
    cases h
    exact congrArg some (congrArg Sum.inr rfl)
  · clear h
    intro h
    refine cp_r (e := zI) (fun _ h => rF_X5_lagIn rfl h) h ?_
    clear h
    intro v7 h
    obtain ⟨hr3, h⟩ := ck_e h
    refine ite_r (c_eq rfl kz_0 hr3 ir_0) h ?_ ?_
    · clear h
      intro h
      exact rJ_X4_findNotes_5 rfl h
    · clear h
      intro h
      refine ite_r (c_eq rfl kz_0 hr2 ir_0) h ?_ ?_
      · clear h
        intro h
        exact rJ_X4_findNotes_4 rfl rfl kz_0 h
      · clear h
        intro h
        refine cp_r (e := zI) (fun _ h => rF_X5_lagIn (e_sub rfl kz_1) h) h ?_
        clear h
        intro v10 h
        exact rJ_X4_findNotes_4 rfl rfl rfl h
theorem rC_X4_findNotes_7 {g4 : uZ} {zr : uZ} (h : GC_X4_findNotes_7 g4 = some zr) : C_X4_findNotes_7 (zS g4) = some (zS zr) := by
  unfold GC_X4_findNotes_7 at h
  unfold C_X4_findNotes_7
  cases h
  rfl
theorem rF_X4_findNotes {g : uZ} {zr : uZ} (h : GF_X4_findNotes g = some zr) : F_X4_findNotes (zS g) = some (zS zr) := by
  unfold GF_X4_findNotes at h
  unfold F_X4_findNotes
  refine pf_r kz_0 h ?_
  clear h
  intro g1 h
  refine lp_r em_2 zS (e_pair kz_0 rfl) (fun q r h => rB_X4_findNotes_6 rfl h) h ?_
  clear h
  intro z h
  exact rC_X4_findNotes_7 h
theorem rB_X4_tallyLags_43_2 {w1_ : Int32} {w1 : Int} (e_w1 : w1_ = zI w1) {g2 : uZ} {zr : ((Int × uZ) ⊕ uZ)} (h : GB_X4_tallyLags_43_2 w1 g2 = some zr) : B_X4_tallyLags_43_2 w1_ (zS g2) = some (em_3 zr) := by
  subst e_w1
  unfold GB_X4_tallyLags_43_2 at h
  unfold B_X4_tallyLags_43_2
  obtain ⟨hr1, h⟩ := ck_e h
  refine ite_r (c_le kz_50 rfl ir_50 hr1) h ?_ ?_
  · clear h
    intro h
    cases h
    exact congrArg some (congrArg Sum.inr rfl)
  · clear h
    intro h
    refine wr_r (Nat.le_of_ble_eq_true rfl) rfl kz_0 h ?_
    clear h
    intro g5 h
    refine lt_r (e_add rfl kz_1) h ?_
    clear h
    intro v6 h
    cases h
    exact congrArg some (congrArg Sum.inl (e_pair rfl rfl))
theorem rJ_X4_tallyLags_43_4 {w8_ : Int32} {w8 : Int} (e_w8 : w8_ = zI w8) {v19_ : Int32} {v19 : Int} (e_v19 : v19_ = zI v19) {g20 : uZ} {zr : ((Int × (Int × uZ)) ⊕ (Int × uZ))} (h : GJ_X4_tallyLags_43_4 w8 v19 g20 = some zr) : J_X4_tallyLags_43_4 w8_ v19_ (zS g20) = some (em_6 zr) := by
  subst e_w8 e_v19
  unfold GJ_X4_tallyLags_43_4 at h
  unfold J_X4_tallyLags_43_4
  refine lt_r (e_add rfl kz_1) h ?_
  clear h
  intro v21 h
  cases h
  exact congrArg some (congrArg Sum.inl (e_pair rfl (e_pair rfl rfl)))
theorem rB_X4_tallyLags_43_5 {a2_ : Int32} {a2 : Int} (e_a2 : a2_ = zI a2) {a3_ : Int32} {a3 : Int} (e_a3 : a3_ = zI a3) {w7_ : Int32} {w7 : Int} (e_w7 : w7_ = zI w7) {w8_ : Int32} {w8 : Int} (e_w8 : w8_ = zI w8) {g9 : uZ} {zr : ((Int × (Int × uZ)) ⊕ (Int × uZ))} (h : GB_X4_tallyLags_43_5 a2 a3 w7 w8 g9 = some zr) : B_X4_tallyLags_43_5 a2_ a3_ w7_ w8_ (zS g9) = some (em_6 zr) := by
  subst e_a2 e_a3 e_w7 e_w8
  unfold GB_X4_tallyLags_43_5 at h
  unfold B_X4_tallyLags_43_5
  obtain ⟨hr1, h⟩ := ck_e h
  obtain ⟨hr2, h⟩ := ck_e h
  refine ite_r (c_le (e_add rfl rfl) rfl hr1 hr2) h ?_ ?_
  · clear h
    intro h
    cases h
    exact congrArg some (congrArg Sum.inr (e_pair rfl rfl))
  · clear h
    intro h
    refine cp_r (e := zI) (fun _ h => rF_X5_lagIn rfl h) h ?_
    clear h
    intro v13 h
    obtain ⟨hr3, h⟩ := ck_e h
    refine ite_r (c_le rfl kz_0 hr3 ir_0) h ?_ ?_
    · clear h
      intro h
      exact rJ_X4_tallyLags_43_4 rfl rfl h
    · clear h
      intro h
      refine ite_r (c_le kz_50 rfl ir_50 hr3) h ?_ ?_
      · clear h
        intro h
        exact rJ_X4_tallyLags_43_4 rfl rfl h
      · clear h
        intro h
        refine rd_r (Nat.le_of_ble_eq_true rfl) rfl h ?_
        clear h
        intro v16 h
        refine wr_r (Nat.le_of_ble_eq_true rfl) rfl (e_add rfl kz_1) h ?_
        clear h
        intro g17 h
        refine lt_r (e_add rfl kz_1) h ?_
        clear h
        intro v18 h
        exact rJ_X4_tallyLags_43_4 rfl rfl h
theorem rC_X4_tallyLags_43_6 {v10_ : Int32} {v10 : Int} (e_v10 : v10_ = zI v10) {g11 : uZ} {zr : (Int × uZ)} (h : GC_X4_tallyLags_43_6 v10 g11 = some zr) : C_X4_tallyLags_43_6 v10_ (zS g11) = some (em_2 zr) := by
  subst e_v10
  unfold GC_X4_tallyLags_43_6 at h
  unfold C_X4_tallyLags_43_6
  cases h
  exact congrArg some (e_pair rfl rfl)
theorem rC_X4_tallyLags_43_7 {a2_ : Int32} {a2 : Int} (e_a2 : a2_ = zI a2) {a3_ : Int32} {a3 : Int} (e_a3 : a3_ = zI a3) {g3 : uZ} {zr : (Int × uZ)} (h : GC_X4_tallyLags_43_7 a2 a3 g3 = some zr) : C_X4_tallyLags_43_7 a2_ a3_ (zS g3) = some (em_2 zr) := by
  subst e_a2 e_a3
  unfold GC_X4_tallyLags_43_7 at h
  unfold C_X4_tallyLags_43_7
  refine lp_r em_4 em_2 (e_pair kz_0 (e_pair rfl rfl)) (fun q r h => rB_X4_tallyLags_43_5 rfl rfl rfl rfl h) h ?_
  clear h
  intro z h
  exact rC_X4_tallyLags_43_6 rfl h
theorem rF_X4_tallyLags_43 {a2_ : Int32} {a2 : Int} (e_a2 : a2_ = zI a2) {a3_ : Int32} {a3 : Int} (e_a3 : a3_ = zI a3) {g : uZ} {zr : (Int × uZ)} (h : GF_X4_tallyLags_43 a2 a3 g = some zr) : F_X4_tallyLags_43 a2_ a3_ (zS g) = some (em_2 zr) := by
  subst e_a2 e_a3
  unfold GF_X4_tallyLags_43 at h
  unfold F_X4_tallyLags_43
  refine lp_r em_2 zS (e_pair kz_0 rfl) (fun q r h => rB_X4_tallyLags_43_2 rfl h) h ?_
  clear h
  intro z h
  exact rC_X4_tallyLags_43_7 rfl rfl h
theorem rB_X11_middleLag_43_2 {a2_ : Int32} {a2 : Int} (e_a2 : a2_ = zI a2) {g : uZ} {w1_ : Int32} {w1 : Int} (e_w1 : w1_ = zI w1) {w2_ : Int32} {w2 : Int} (e_w2 : w2_ = zI w2) {zr : ((Int × Int) ⊕ (Unit ⊕ Int))} (h : GB_X11_middleLag_43_2 a2 g w1 w2 = some zr) : B_X11_middleLag_43_2 a2_ (zS g) w1_ w2_ = some (em_14 zr) := by
  subst e_a2 e_w1 e_w2
  unfold GB_X11_middleLag_43_2 at h
  unfold B_X11_middleLag_43_2
  obtain ⟨hr1, h⟩ := ck_e h
  refine ite_r (c_le kz_50 rfl ir_50 hr1) h ?_ ?_
  · clear h
    intro h
    cases h
    exact congrArg some (congrArg Sum.inr (congrArg Sum.inl rfl))
  · clear h
    intro h
    refine rd_r (Nat.le_of_ble_eq_true rfl) rfl h ?_
    clear h
    intro v4 h
    refine lt_r (e_add rfl rfl) h ?_
    clear h
    intro v5 h
    refine dv_r (e_sub rfl kz_1) kz_2 h ?_
    clear h
    intro v6 h
    obtain ⟨hr2, h⟩ := ck_e h
    obtain ⟨hr3, h⟩ := ck_e h
    refine ite_r (c_le rfl rfl hr2 hr3) h ?_ ?_
    · clear h
      intro h
      refine lt_r (e_add rfl kz_1) h ?_
      clear h
      intro v8 h
      cases h
      exact congrArg some (congrArg Sum.inl (e_pair rfl rfl))
    · clear h
      intro h
      cases h
      exact congrArg some (congrArg Sum.inr (congrArg Sum.inr rfl))
theorem rC_X11_middleLag_43_3 {zr : Int} (h : GC_X11_middleLag_43_3 = some zr) : C_X11_middleLag_43_3 = some (zI zr) := by
  unfold GC_X11_middleLag_43_3 at h
  unfold C_X11_middleLag_43_3
  cases h
  exact congrArg some kz_m1
theorem rF_X11_middleLag_43 {a2_ : Int32} {a2 : Int} (e_a2 : a2_ = zI a2) {g : uZ} {zr : Int} (h : GF_X11_middleLag_43 a2 g = some zr) : F_X11_middleLag_43 a2_ (zS g) = some (zI zr) := by
  subst e_a2
  unfold GF_X11_middleLag_43 at h
  unfold F_X11_middleLag_43
  refine lp_r em_0 em_7 (e_pair kz_0 kz_0) (fun q r h => rB_X11_middleLag_43_2 rfl rfl rfl h) h ?_
  clear h
  intro z h
  rcases z with z | z
  · exact rC_X11_middleLag_43_3 h
  · cases h
    rfl
theorem rB_X4_tallyLags_42_2 {w1_ : Int32} {w1 : Int} (e_w1 : w1_ = zI w1) {g2 : uZ} {zr : ((Int × uZ) ⊕ uZ)} (h : GB_X4_tallyLags_42_2 w1 g2 = some zr) : B_X4_tallyLags_42_2 w1_ (zS g2) = some (em_3 zr) := by
  subst e_w1
  unfold GB_X4_tallyLags_42_2 at h
  unfold B_X4_tallyLags_42_2
  obtain ⟨hr1, h⟩ := ck_e h
  refine ite_r (c_le kz_50 rfl ir_50 hr1) h ?_ ?_
  · clear h
    intro h
    cases h
    exact congrArg some (congrArg Sum.inr rfl)
  · clear h
    intro h
    refine wr_r (Nat.le_of_ble_eq_true rfl) rfl kz_0 h ?_
    clear h
    intro g5 h
    refine lt_r (e_add rfl kz_1) h ?_
    clear h
    intro v6 h
    cases h
    exact congrArg some (congrArg Sum.inl (e_pair rfl rfl))
theorem rJ_X4_tallyLags_42_4 {w8_ : Int32} {w8 : Int} (e_w8 : w8_ = zI w8) {v19_ : Int32} {v19 : Int} (e_v19 : v19_ = zI v19) {g20 : uZ} {zr : ((Int × (Int × uZ)) ⊕ (Int × uZ))} (h : GJ_X4_tallyLags_42_4 w8 v19 g20 = some zr) : J_X4_tallyLags_42_4 w8_ v19_ (zS g20) = some (em_6 zr) := by
  subst e_w8 e_v19
  unfold GJ_X4_tallyLags_42_4 at h
  unfold J_X4_tallyLags_42_4
  refine lt_r (e_add rfl kz_1) h ?_
  clear h
  intro v21 h
  cases h
  exact congrArg some (congrArg Sum.inl (e_pair rfl (e_pair rfl rfl)))
theorem rB_X4_tallyLags_42_5 {a2_ : Int32} {a2 : Int} (e_a2 : a2_ = zI a2) {a3_ : Int32} {a3 : Int} (e_a3 : a3_ = zI a3) {w7_ : Int32} {w7 : Int} (e_w7 : w7_ = zI w7) {w8_ : Int32} {w8 : Int} (e_w8 : w8_ = zI w8) {g9 : uZ} {zr : ((Int × (Int × uZ)) ⊕ (Int × uZ))} (h : GB_X4_tallyLags_42_5 a2 a3 w7 w8 g9 = some zr) : B_X4_tallyLags_42_5 a2_ a3_ w7_ w8_ (zS g9) = some (em_6 zr) := by
  subst e_a2 e_a3 e_w7 e_w8
  unfold GB_X4_tallyLags_42_5 at h
  unfold B_X4_tallyLags_42_5
  obtain ⟨hr1, h⟩ := ck_e h
  obtain ⟨hr2, h⟩ := ck_e h
  refine ite_r (c_le (e_add rfl rfl) rfl hr1 hr2) h ?_ ?_
  · clear h
    intro h
    cases h
    exact congrArg some (congrArg Sum.inr (e_pair rfl rfl))
  · clear h
    intro h
    refine cp_r (e := zI) (fun _ h => rF_X5_lagIn rfl h) h ?_
    clear h
    intro v13 h
    obtain ⟨hr3, h⟩ := ck_e h
    refine ite_r (c_le rfl kz_0 hr3 ir_0) h ?_ ?_
    · clear h
      intro h
      exact rJ_X4_tallyLags_42_4 rfl rfl h
    · clear h
      intro h
      refine ite_r (c_le kz_50 rfl ir_50 hr3) h ?_ ?_
      · clear h
        intro h
        exact rJ_X4_tallyLags_42_4 rfl rfl h
      · clear h
        intro h
        refine rd_r (Nat.le_of_ble_eq_true rfl) rfl h ?_
        clear h
        intro v16 h
        refine wr_r (Nat.le_of_ble_eq_true rfl) rfl (e_add rfl kz_1) h ?_
        clear h
        intro g17 h
        refine lt_r (e_add rfl kz_1) h ?_
        clear h
        intro v18 h
        exact rJ_X4_tallyLags_42_4 rfl rfl h
theorem rC_X4_tallyLags_42_6 {v10_ : Int32} {v10 : Int} (e_v10 : v10_ = zI v10) {g11 : uZ} {zr : (Int × uZ)} (h : GC_X4_tallyLags_42_6 v10 g11 = some zr) : C_X4_tallyLags_42_6 v10_ (zS g11) = some (em_2 zr) := by
  subst e_v10
  unfold GC_X4_tallyLags_42_6 at h
  unfold C_X4_tallyLags_42_6
  cases h
  exact congrArg some (e_pair rfl rfl)
theorem rC_X4_tallyLags_42_7 {a2_ : Int32} {a2 : Int} (e_a2 : a2_ = zI a2) {a3_ : Int32} {a3 : Int} (e_a3 : a3_ = zI a3) {g3 : uZ} {zr : (Int × uZ)} (h : GC_X4_tallyLags_42_7 a2 a3 g3 = some zr) : C_X4_tallyLags_42_7 a2_ a3_ (zS g3) = some (em_2 zr) := by
  subst e_a2 e_a3
  unfold GC_X4_tallyLags_42_7 at h
  unfold C_X4_tallyLags_42_7
  refine lp_r em_4 em_2 (e_pair kz_0 (e_pair rfl rfl)) (fun q r h => rB_X4_tallyLags_42_5 rfl rfl rfl rfl h) h ?_
  clear h
  intro z h
  exact rC_X4_tallyLags_42_6 rfl h
theorem rF_X4_tallyLags_42 {a2_ : Int32} {a2 : Int} (e_a2 : a2_ = zI a2) {a3_ : Int32} {a3 : Int} (e_a3 : a3_ = zI a3) {g : uZ} {zr : (Int × uZ)} (h : GF_X4_tallyLags_42 a2 a3 g = some zr) : F_X4_tallyLags_42 a2_ a3_ (zS g) = some (em_2 zr) := by
  subst e_a2 e_a3
  unfold GF_X4_tallyLags_42 at h
  unfold F_X4_tallyLags_42
  refine lp_r em_2 zS (e_pair kz_0 rfl) (fun q r h => rB_X4_tallyLags_42_2 rfl h) h ?_
  clear h
  intro z h
  exact rC_X4_tallyLags_42_7 rfl rfl h
theorem rJ_X4_findSteady_2 {v12_ : Int32} {v12 : Int} (e_v12 : v12_ = zI v12) {w4_ : Int32} {w4 : Int} (e_w4 : w4_ = zI w4) {g18 : uZ} {zr : ((Int × (Int × uZ)) ⊕ uZ)} (h : GJ_X4_findSteady_2 v12 w4 g18 = some zr) : J_X4_findSteady_2 v12_ w4_ (zS g18) = some (em_5 zr) := by
  subst e_v12 e_w4
  unfold GJ_X4_findSteady_2 at h
  unfold J_X4_findSteady_2
  refine lt_r (e_add rfl kz_1) h ?_
  clear h
  intro v19 h
  cases h
  exact congrArg some (congrArg Sum.inl (e_pair rfl (e_pair rfl rfl)))
theorem rB_X4_findSteady_3 {w3_ : Int32} {w3 : Int} (e_w3 : w3_ = zI w3) {w4_ : Int32} {w4 : Int} (e_w4 : w4_ = zI w4) {g5 : uZ} {zr : ((Int × (Int × uZ)) ⊕ uZ)} (h : GB_X4_findSteady_3 w3 w4 g5 = some zr) : B_X4_findSteady_3 w3_ w4_ (zS g5) = some (em_5 zr) := by
  subst e_w3 e_w4
  unfold GB_X4_findSteady_3 at h
  unfold B_X4_findSteady_3
  refine cp_r (e := zI) (fun _ h => rF_X5_size h) h ?_
  clear h
  intro v7 h
  obtain ⟨hr1, h⟩ := ck_e h
  obtain ⟨hr2, h⟩ := ck_e h
  refine ite_r (c_le rfl rfl hr1 hr2) h ?_ ?_
  · clear h
    intro h
    cases h
    exact congrArg some (congrArg Sum.inr rfl)
  · clear h
    intro h
    refine cp_r (e := zI) (fun _ h => rF_X5_lagIn rfl h) h ?_
    clear h
    intro v9 h
    refine cp_r (e := zI) (fun _ h => rF_X5_lagIn rfl h) h ?_
    clear h
    intro v10 h
    obtain ⟨hr3, h⟩ := ck_e h
    obtain ⟨hr4, h⟩ := ck_e h
    refine lt_r (e_ite (c_eq rfl rfl hr3 hr4) rfl rfl) h ?_
    clear h
    intro v12 h
    refine cp_r (e := zI) (fun _ h => rF_X5_lagIn rfl h) h ?_
    clear h
    intro v13 h
    obtain ⟨hr5, h⟩ := ck_e h
    refine ite_r (c_eq rfl kz_0 hr5 ir_0) h ?_ ?_
    · clear h
      intro h
      exact rJ_X4_findSteady_2 rfl rfl h
    · clear h
      intro h
      obtain ⟨hr6, h⟩ := ck_e h
      obtain ⟨hr7, h⟩ := ck_e h
      refine ite_r (c_le (e_add (e_sub rfl rfl) kz_1) rfl hr6 hr7) h ?_ ?_
      · clear h
        intro h
        exact rJ_X4_findSteady_2 rfl rfl h
      · clear h
        intro h
        refine pf_r rfl h ?_
        clear h
        intro g16 h
        refine pf_r (e_add (e_sub rfl rfl) kz_1) h ?_
        clear h
        intro g17 h
        exact rJ_X4_findSteady_2 rfl rfl h
theorem rC_X4_findSteady_4 {g6 : uZ} {zr : uZ} (h : GC_X4_findSteady_4 g6 = some zr) : C_X4_findSteady_4 (zS g6) = some (zS zr) := by
  unfold GC_X4_findSteady_4 at h
  unfold C_X4_findSteady_4
  cases h
  rfl
theorem rF_X4_findSteady {g : uZ} {zr : uZ} (h : GF_X4_findSteady g = some zr) : F_X4_findSteady (zS g) = some (zS zr) := by
  unfold GF_X4_findSteady at h
  unfold F_X4_findSteady
  refine pf_r kz_m1 h ?_
  clear h
  intro g1 h
  refine pf_r kz_0 h ?_
  clear h
  intro g2 h
  refine lp_r em_4 zS (e_pair kz_0 (e_pair kz_0 rfl)) (fun q r h => rB_X4_findSteady_3 rfl rfl h) h ?_
  clear h
  intro z h
  exact rC_X4_findSteady_4 h
theorem rB_X4_find_2 {w2_ : Int32} {w2 : Int} (e_w2 : w2_ = zI w2) {g3 : uZ} {zr : ((Int × uZ) ⊕ uZ)} (h : GB_X4_find_2 w2 g3 = some zr) : B_X4_find_2 w2_ (zS g3) = some (em_3 zr) := by
  subst e_w2
  unfold GB_X4_find_2 at h
  unfold B_X4_find_2
  obtain ⟨hr1, h⟩ := ck_e h
  obtain ⟨hr2, h⟩ := ck_e h
  refine ite_r (c_le rfl rfl hr1 hr2) h ?_ ?_
  · clear h
    intro h
    cases h
    exact congrArg some (congrArg Sum.inr rfl)
  · clear h
    intro h
    refine rd_r (Nat.le_of_ble_eq_true rfl) rfl h ?_
    clear h
    intro v6 h
    refine rd_r (Nat.le_of_ble_eq_true rfl) rfl h ?_
    clear h
    intro v7 h
    refine cl_r (fun _ _ h => rF_X4_tallyLags_43 rfl rfl h) h ?_
    clear h
    intro v9 g8 h
    refine rd_r (Nat.le_of_ble_eq_true rfl) rfl h ?_
    clear h
    intro v10 h
    refine cp_r (e := zI) (fun _ h => rF_X11_middleLag_43 rfl h) h ?_
    clear h
    intro v11 h
    refine wr_r (Nat.le_of_ble_eq_true rfl) rfl rfl h ?_
    clear h
    intro g12 h
    refine lt_r (e_add rfl kz_1) h ?_
    clear h
    intro v13 h
    cases h
    exact congrArg some (congrArg Sum.inl (e_pair rfl rfl))
theorem rC_X4_find_3 {g4 : uZ} {zr : uZ} (h : GC_X4_find_3 g4 = some zr) : C_X4_find_3 (zS g4) = some (zS zr) := by
  unfold GC_X4_find_3 at h
  unfold C_X4_find_3
  refine cp_r (e := zI) (fun _ h => rF_X5_size h) h ?_
  clear h
  intro v14 h
  refine cl_r (fun _ _ h => rF_X4_tallyLags_42 kz_0 rfl h) h ?_
  clear h
  intro v16 g15 h
  refine pf_r rfl h ?_
  clear h
  intro g17 h
  refine cp_r (e := zS) (fun _ h => rF_X4_findSteady h) h ?_
  clear h
  intro g18 h
  cases h
  rfl
theorem rF_X4_find {g : uZ} {zr : uZ} (h : GF_X4_find g = some zr) : F_X4_find (zS g) = some (zS zr) := by
  unfold GF_X4_find at h
  unfold F_X4_find
  refine cp_r (e := zS) (fun _ h => rF_X4_findNotes h) h ?_
  clear h
  intro g1 h
  refine lp_r em_2 zS (e_pair kz_0 rfl) (fun q r h => rB_X4_find_2 rfl h) h ?_
  clear h
  intro z h
  exact rC_X4_find_3 h
theorem rF_X4_size {g : uZ} {zr : Int} (h : GF_X4_size g = some zr) : F_X4_size (zS g) = some (zI zr) := by
  unfold GF_X4_size at h
  unfold F_X4_size
  cases h
  rfl
theorem rJ_X4_has_2 {v3_ : Int32} {v3 : Int} (e_v3 : v3_ = zI v3) {zr : Int} (h : GJ_X4_has_2 v3 = some zr) : J_X4_has_2 v3_ = some (zI zr) := by
  subst e_v3
  unfold GJ_X4_has_2 at h
  unfold J_X4_has_2
  refine bz_r rfl h ?_
  clear h
  intro h
  cases h
  rfl
theorem rJ_X4_has_1 {zr : Int} (h : GJ_X4_has_1 = some zr) : J_X4_has_1 = some (zI zr) := by
  unfold GJ_X4_has_1 at h
  unfold J_X4_has_1
  exact rJ_X4_has_2 kz_0 h
theorem rF_X4_has {a1_ : Int32} {a1 : Int} (e_a1 : a1_ = zI a1) {g : uZ} {zr : Int} (h : GF_X4_has a1 g = some zr) : F_X4_has a1_ (zS g) = some (zI zr) := by
  subst e_a1
  unfold GF_X4_has at h
  unfold F_X4_has
  obtain ⟨hr1, h⟩ := ck_e h
  refine ite_r (c_lt rfl kz_0 hr1 ir_0) h ?_ ?_
  · clear h
    intro h
    exact rJ_X4_has_1 h
  · clear h
    intro h
    obtain ⟨hr2, h⟩ := ck_e h
    refine ite_r (c_le rfl rfl hr2 hr1) h ?_ ?_
    · clear h
      intro h
      exact rJ_X4_has_1 h
    · clear h
      intro h
      exact rJ_X4_has_2 kz_1 h
theorem rJ_X4_firstFrame_1 {v4_ : Int32} {v4 : Int} (e_v4 : v4_ = zI v4) {zr : Int} (h : GJ_X4_firstFrame_1 v4 = some zr) : J_X4_firstFrame_1 v4_ = some (zI zr) := by
  subst e_v4
  unfold GJ_X4_firstFrame_1 at h
  unfold J_X4_firstFrame_1
  cases h
  rfl
theorem rF_X4_firstFrame {a1_ : Int32} {a1 : Int} (e_a1 : a1_ = zI a1) {g : uZ} {zr : Int} (h : GF_X4_firstFrame a1 g = some zr) : F_X4_firstFrame a1_ (zS g) = some (zI zr) := by
  subst e_a1
  unfold GF_X4_firstFrame at h
  unfold F_X4_firstFrame
  refine cp_r (e := zI) (fun _ h => rF_X4_has rfl h) h ?_
  clear h
  intro v1 h
  obtain ⟨hr1, h⟩ := ck_e h
  refine ite_r (c_eq rfl kz_0 hr1 ir_0) h ?_ ?_
  · clear h
    intro h
    exact rJ_X4_firstFrame_1 kz_m1 h
  · clear h
    intro h
    refine rd_r (Nat.le_of_ble_eq_true rfl) rfl h ?_
    clear h
    intro v3 h
    exact rJ_X4_firstFrame_1 rfl h
theorem rJ_X4_length_1 {v4_ : Int32} {v4 : Int} (e_v4 : v4_ = zI v4) {zr : Int} (h : GJ_X4_length_1 v4 = some zr) : J_X4_length_1 v4_ = some (zI zr) := by
  subst e_v4
  unfold GJ_X4_length_1 at h
  unfold J_X4_length_1
  cases h
  rfl
theorem rF_X4_length {a1_ : Int32} {a1 : Int} (e_a1 : a1_ = zI a1) {g : uZ} {zr : Int} (h : GF_X4_length a1 g = some zr) : F_X4_length a1_ (zS g) = some (zI zr) := by
  subst e_a1
  unfold GF_X4_length at h
  unfold F_X4_length
  refine cp_r (e := zI) (fun _ h => rF_X4_has rfl h) h ?_
  clear h
  intro v1 h
  obtain ⟨hr1, h⟩ := ck_e h
  refine ite_r (c_eq rfl kz_0 hr1 ir_0) h ?_ ?_
  · clear h
    intro h
    exact rJ_X4_length_1 kz_0 h
  · clear h
    intro h
    refine rd_r (Nat.le_of_ble_eq_true rfl) rfl h ?_
    clear h
    intro v3 h
    exact rJ_X4_length_1 rfl h
theorem rJ_X4_lagOf_1 {v4_ : Int32} {v4 : Int} (e_v4 : v4_ = zI v4) {zr : Int} (h : GJ_X4_lagOf_1 v4 = some zr) : J_X4_lagOf_1 v4_ = some (zI zr) := by
  subst e_v4
  unfold GJ_X4_lagOf_1 at h
  unfold J_X4_lagOf_1
  cases h
  rfl
theorem rF_X4_lagOf {a1_ : Int32} {a1 : Int} (e_a1 : a1_ = zI a1) {g : uZ} {zr : Int} (h : GF_X4_lagOf a1 g = some zr) : F_X4_lagOf a1_ (zS g) = some (zI zr) := by
  subst e_a1
  unfold GF_X4_lagOf at h
  unfold F_X4_lagOf
  refine cp_r (e := zI) (fun _ h => rF_X4_has rfl h) h ?_
  clear h
  intro v1 h
  obtain ⟨hr1, h⟩ := ck_e h
  refine ite_r (c_eq rfl kz_0 hr1 ir_0) h ?_ ?_
  · clear h
    intro h
    exact rJ_X4_lagOf_1 kz_0 h
  · clear h
    intro h
    refine rd_r (Nat.le_of_ble_eq_true rfl) rfl h ?_
    clear h
    intro v3 h
    exact rJ_X4_lagOf_1 rfl h
theorem rF_X4_steadyFirst {g : uZ} {zr : Int} (h : GF_X4_steadyFirst g = some zr) : F_X4_steadyFirst (zS g) = some (zI zr) := by
  unfold GF_X4_steadyFirst at h
  unfold F_X4_steadyFirst
  cases h
  rfl
theorem rF_X4_steadyLength {g : uZ} {zr : Int} (h : GF_X4_steadyLength g = some zr) : F_X4_steadyLength (zS g) = some (zI zr) := by
  unfold GF_X4_steadyLength at h
  unfold F_X4_steadyLength
  cases h
  rfl
theorem rJ_X4_steadyLag_1 {v3_ : Int32} {v3 : Int} (e_v3 : v3_ = zI v3) {zr : Int} (h : GJ_X4_steadyLag_1 v3 = some zr) : J_X4_steadyLag_1 v3_ = some (zI zr) := by
  subst e_v3
  unfold GJ_X4_steadyLag_1 at h
  unfold J_X4_steadyLag_1
  cases h
  rfl
theorem rF_X4_steadyLag {g : uZ} {zr : Int} (h : GF_X4_steadyLag g = some zr) : F_X4_steadyLag (zS g) = some (zI zr) := by
  unfold GF_X4_steadyLag at h
  unfold F_X4_steadyLag
  obtain ⟨hr1, h⟩ := ck_e h
  refine ite_r (c_eq rfl kz_0 hr1 ir_0) h ?_ ?_
  · clear h
    intro h
    exact rJ_X4_steadyLag_1 kz_0 h
  · clear h
    intro h
    refine cp_r (e := zI) (fun _ h => rF_X5_lagIn rfl h) h ?_
    clear h
    intro v2 h
    exact rJ_X4_steadyLag_1 rfl h
theorem rB_X4_unlikeLags_2 {g : uZ} {w1_ : Int32} {w1 : Int} (e_w1 : w1_ = zI w1) {w2_ : Int32} {w2 : Int} (e_w2 : w2_ = zI w2) {zr : ((Int × Int) ⊕ Int)} (h : GB_X4_unlikeLags_2 g w1 w2 = some zr) : B_X4_unlikeLags_2 (zS g) w1_ w2_ = some (em_1 zr) := by
  subst e_w1 e_w2
  unfold GB_X4_unlikeLags_2 at h
  unfold B_X4_unlikeLags_2
  obtain ⟨hr1, h⟩ := ck_e h
  refine ite_r (c_le kz_50 rfl ir_50 hr1) h ?_ ?_
  · clear h
    intro h
    cases h
    exact congrArg some (congrArg Sum.inr rfl)
  · clear h
    intro h
    refine rd_r (Nat.le_of_ble_eq_true rfl) rfl h ?_
    clear h
    intro v5 h
    obtain ⟨hr2, h⟩ := ck_e h
    refine lt_r (e_ite (c_le rfl kz_0 hr2 ir_0) kz_0 kz_1) h ?_
    clear h
    intro v7 h
    refine lt_r (e_add rfl rfl) h ?_
    clear h
    intro v8 h
    refine lt_r (e_add rfl kz_1) h ?_
    clear h
    intro v9 h
    cases h
    exact congrArg some (congrArg Sum.inl (e_pair rfl rfl))
theorem rC_X4_unlikeLags_3 {v3_ : Int32} {v3 : Int} (e_v3 : v3_ = zI v3) {zr : Int} (h : GC_X4_unlikeLags_3 v3 = some zr) : C_X4_unlikeLags_3 v3_ = some (zI zr) := by
  subst e_v3
  unfold GC_X4_unlikeLags_3 at h
  unfold C_X4_unlikeLags_3
  cases h
  rfl
theorem rF_X4_unlikeLags {g : uZ} {zr : Int} (h : GF_X4_unlikeLags g = some zr) : F_X4_unlikeLags (zS g) = some (zI zr) := by
  unfold GF_X4_unlikeLags at h
  unfold F_X4_unlikeLags
  refine lp_r em_0 zI (e_pair kz_0 kz_0) (fun q r h => rB_X4_unlikeLags_2 rfl rfl h) h ?_
  clear h
  intro z h
  exact rC_X4_unlikeLags_3 rfl h
theorem rJ_X4_unlikeLag_2 {w2_ : Int32} {w2 : Int} (e_w2 : w2_ = zI w2) {v8_ : Int32} {v8 : Int} (e_v8 : v8_ = zI v8) {zr : ((Int × Int) ⊕ (Unit ⊕ Int))} (h : GJ_X4_unlikeLag_2 w2 v8 = some zr) : J_X4_unlikeLag_2 w2_ v8_ = some (em_14 zr) := by
  subst e_w2 e_v8
  unfold GJ_X4_unlikeLag_2 at h
  unfold J_X4_unlikeLag_2
  refine lt_r (e_add rfl kz_1) h ?_
  clear h
  intro v9 h
  cases h
  exact congrArg some (congrArg Sum.inl (e_pair rfl rfl))
theorem rB_X4_unlikeLag_3 {a1_ : Int32} {a1 : Int} (e_a1 : a1_ = zI a1) {g : uZ} {w1_ : Int32} {w1 : Int} (e_w1 : w1_ = zI w1) {w2_ : Int32} {w2 : Int} (e_w2 : w2_ = zI w2) {zr : ((Int × Int) ⊕ (Unit ⊕ Int))} (h : GB_X4_unlikeLag_3 a1 g w1 w2 = some zr) : B_X4_unlikeLag_3 a1_ (zS g) w1_ w2_ = some (em_14 zr) := by
  subst e_a1 e_w1 e_w2
  unfold GB_X4_unlikeLag_3 at h
  unfold B_X4_unlikeLag_3
  obtain ⟨hr1, h⟩ := ck_e h
  refine ite_r (c_le kz_50 rfl ir_50 hr1) h ?_ ?_
  · clear h
    intro h
    cases h
    exact congrArg some (congrArg Sum.inr (congrArg Sum.inl rfl))
  · clear h
    intro h
    refine rd_r (Nat.le_of_ble_eq_true rfl) rfl h ?_
    clear h
    intro v4 h
    obtain ⟨hr2, h⟩ := ck_e h
    refine ite_r (c_le rfl kz_0 hr2 ir_0) h ?_ ?_
    · clear h
      intro h
      exact rJ_X4_unlikeLag_2 rfl rfl h
    · clear h
      intro h
      obtain ⟨hr3, h⟩ := ck_e h
      obtain ⟨hr4, h⟩ := ck_e h
      refine ite_r (c_eq rfl rfl hr3 hr4) h ?_ ?_
      · clear h
        intro h
        cases h
        exact congrArg some (congrArg Sum.inr (congrArg Sum.inr rfl))
      · clear h
        intro h
        refine lt_r (e_add rfl kz_1) h ?_
        clear h
        intro v7 h
        exact rJ_X4_unlikeLag_2 rfl rfl h
theorem rC_X4_unlikeLag_4 {zr : Int} (h : GC_X4_unlikeLag_4 = some zr) : C_X4_unlikeLag_4 = some (zI zr) := by
  unfold GC_X4_unlikeLag_4 at h
  unfold C_X4_unlikeLag_4
  cases h
  exact congrArg some kz_m1
theorem rF_X4_unlikeLag {a1_ : Int32} {a1 : Int} (e_a1 : a1_ = zI a1) {g : uZ} {zr : Int} (h : GF_X4_unlikeLag a1 g = some zr) : F_X4_unlikeLag a1_ (zS g) = some (zI zr) := by
  subst e_a1
  unfold GF_X4_unlikeLag at h
  unfold F_X4_unlikeLag
  refine lp_r em_0 em_7 (e_pair kz_0 kz_0) (fun q r h => rB_X4_unlikeLag_3 rfl rfl rfl h) h ?_
  clear h
  intro z h
  rcases z with z | z
  · exact rC_X4_unlikeLag_4 h
  · cases h
    rfl
theorem rJ_X4_framesWith_2 {v4_ : Int32} {v4 : Int} (e_v4 : v4_ = zI v4) {zr : Int} (h : GJ_X4_framesWith_2 v4 = some zr) : J_X4_framesWith_2 v4_ = some (zI zr) := by
  subst e_v4
  unfold GJ_X4_framesWith_2 at h
  unfold J_X4_framesWith_2
  cases h
  rfl
theorem rJ_X4_framesWith_1 {zr : Int} (h : GJ_X4_framesWith_1 = some zr) : J_X4_framesWith_1 = some (zI zr) := by
  unfold GJ_X4_framesWith_1 at h
  unfold J_X4_framesWith_1
  exact rJ_X4_framesWith_2 kz_0 h
theorem rF_X4_framesWith {a1_ : Int32} {a1 : Int} (e_a1 : a1_ = zI a1) {g : uZ} {zr : Int} (h : GF_X4_framesWith a1 g = some zr) : F_X4_framesWith a1_ (zS g) = some (zI zr) := by
  subst e_a1
  unfold GF_X4_framesWith at h
  unfold F_X4_framesWith
  obtain ⟨hr1, h⟩ := ck_e h
  refine ite_r (c_lt rfl kz_0 hr1 ir_0) h ?_ ?_
  · clear h
    intro h
    exact rJ_X4_framesWith_1 h
  · clear h
    intro h
    refine ite_r (c_lt rfl kz_50 hr1 ir_50) h ?_ ?_
    · clear h
      intro h
      refine rd_r (Nat.le_of_ble_eq_true rfl) rfl h ?_
      clear h
      intro v3 h
      exact rJ_X4_framesWith_2 rfl h
    · clear h
      intro h
      exact rJ_X4_framesWith_1 h
theorem rJ_X4_commonest_2 {w3_ : Int32} {w3 : Int} (e_w3 : w3_ = zI w3) {v9_ : Int32} {v9 : Int} (e_v9 : v9_ = zI v9) {v10_ : Int32} {v10 : Int} (e_v10 : v10_ = zI v10) {zr : ((Int × (Int × Int)) ⊕ Int)} (h : GJ_X4_commonest_2 w3 v9 v10 = some zr) : J_X4_commonest_2 w3_ v9_ v10_ = some (em_11 zr) := by
  subst e_w3 e_v9 e_v10
  unfold GJ_X4_commonest_2 at h
  unfold J_X4_commonest_2
  refine lt_r (e_add rfl kz_1) h ?_
  clear h
  intro v11 h
  cases h
  exact congrArg some (congrArg Sum.inl (e_pair rfl (e_pair rfl rfl)))
theorem rB_X4_commonest_3 {g : uZ} {w1_ : Int32} {w1 : Int} (e_w1 : w1_ = zI w1) {w2_ : Int32} {w2 : Int} (e_w2 : w2_ = zI w2) {w3_ : Int32} {w3 : Int} (e_w3 : w3_ = zI w3) {zr : ((Int × (Int × Int)) ⊕ Int)} (h : GB_X4_commonest_3 g w1 w2 w3 = some zr) : B_X4_commonest_3 (zS g) w1_ w2_ w3_ = some (em_11 zr) := by
  subst e_w1 e_w2 e_w3
  unfold GB_X4_commonest_3 at h
  unfold B_X4_commonest_3
  obtain ⟨hr1, h⟩ := ck_e h
  refine ite_r (c_le kz_50 rfl ir_50 hr1) h ?_ ?_
  · clear h
    intro h
    cases h
    exact congrArg some (congrArg Sum.inr rfl)
  · clear h
    intro h
    refine rd_r (Nat.le_of_ble_eq_true rfl) rfl h ?_
    clear h
    intro v6 h
    obtain ⟨hr2, h⟩ := ck_e h
    obtain ⟨hr3, h⟩ := ck_e h
    refine ite_r (c_le rfl rfl hr2 hr3) h ?_ ?_
    · clear h
      intro h
      exact rJ_X4_commonest_2 rfl rfl rfl h
    · clear h
      intro h
      refine rd_r (Nat.le_of_ble_eq_true rfl) rfl h ?_
      clear h
      intro v8 h
      exact rJ_X4_commonest_2 rfl rfl rfl h
theorem rC_X4_commonest_4 {v4_ : Int32} {v4 : Int} (e_v4 : v4_ = zI v4) {zr : Int} (h : GC_X4_commonest_4 v4 = some zr) : C_X4_commonest_4 v4_ = some (zI zr) := by
  subst e_v4
  unfold GC_X4_commonest_4 at h
  unfold C_X4_commonest_4
  cases h
  rfl
theorem rF_X4_commonest {g : uZ} {zr : Int} (h : GF_X4_commonest g = some zr) : F_X4_commonest (zS g) = some (zI zr) := by
  unfold GF_X4_commonest at h
  unfold F_X4_commonest
  refine lp_r em_9 zI (e_pair kz_m1 (e_pair kz_0 kz_0)) (fun q r h => rB_X4_commonest_3 rfl rfl rfl h) h ?_
  clear h
  intro z h
  exact rC_X4_commonest_4 rfl h
theorem rB_X11_middleLag_42_2 {a2_ : Int32} {a2 : Int} (e_a2 : a2_ = zI a2) {g : uZ} {w1_ : Int32} {w1 : Int} (e_w1 : w1_ = zI w1) {w2_ : Int32} {w2 : Int} (e_w2 : w2_ = zI w2) {zr : ((Int × Int) ⊕ (Unit ⊕ Int))} (h : GB_X11_middleLag_42_2 a2 g w1 w2 = some zr) : B_X11_middleLag_42_2 a2_ (zS g) w1_ w2_ = some (em_14 zr) := by
  subst e_a2 e_w1 e_w2
  unfold GB_X11_middleLag_42_2 at h
  unfold B_X11_middleLag_42_2
  obtain ⟨hr1, h⟩ := ck_e h
  refine ite_r (c_le kz_50 rfl ir_50 hr1) h ?_ ?_
  · clear h
    intro h
    cases h
    exact congrArg some (congrArg Sum.inr (congrArg Sum.inl rfl))
  · clear h
    intro h
    refine rd_r (Nat.le_of_ble_eq_true rfl) rfl h ?_
    clear h
    intro v4 h
    refine lt_r (e_add rfl rfl) h ?_
    clear h
    intro v5 h
    refine dv_r (e_sub rfl kz_1) kz_2 h ?_
    clear h
    intro v6 h
    obtain ⟨hr2, h⟩ := ck_e h
    obtain ⟨hr3, h⟩ := ck_e h
    refine ite_r (c_le rfl rfl hr2 hr3) h ?_ ?_
    · clear h
      intro h
      refine lt_r (e_add rfl kz_1) h ?_
      clear h
      intro v8 h
      cases h
      exact congrArg some (congrArg Sum.inl (e_pair rfl rfl))
    · clear h
      intro h
      cases h
      exact congrArg some (congrArg Sum.inr (congrArg Sum.inr rfl))
theorem rC_X11_middleLag_42_3 {zr : Int} (h : GC_X11_middleLag_42_3 = some zr) : C_X11_middleLag_42_3 = some (zI zr) := by
  unfold GC_X11_middleLag_42_3 at h
  unfold C_X11_middleLag_42_3
  cases h
  exact congrArg some kz_m1
theorem rF_X11_middleLag_42 {a2_ : Int32} {a2 : Int} (e_a2 : a2_ = zI a2) {g : uZ} {zr : Int} (h : GF_X11_middleLag_42 a2 g = some zr) : F_X11_middleLag_42 a2_ (zS g) = some (zI zr) := by
  subst e_a2
  unfold GF_X11_middleLag_42 at h
  unfold F_X11_middleLag_42
  refine lp_r em_0 em_7 (e_pair kz_0 kz_0) (fun q r h => rB_X11_middleLag_42_2 rfl rfl rfl h) h ?_
  clear h
  intro z h
  rcases z with z | z
  · exact rC_X11_middleLag_42_3 h
  · cases h
    rfl
theorem rJ_X4_middleOfAll_1 {v3_ : Int32} {v3 : Int} (e_v3 : v3_ = zI v3) {zr : Int} (h : GJ_X4_middleOfAll_1 v3 = some zr) : J_X4_middleOfAll_1 v3_ = some (zI zr) := by
  subst e_v3
  unfold GJ_X4_middleOfAll_1 at h
  unfold J_X4_middleOfAll_1
  cases h
  rfl
theorem rF_X4_middleOfAll {g : uZ} {zr : Int} (h : GF_X4_middleOfAll g = some zr) : F_X4_middleOfAll (zS g) = some (zI zr) := by
  unfold GF_X4_middleOfAll at h
  unfold F_X4_middleOfAll
  obtain ⟨hr1, h⟩ := ck_e h
  refine ite_r (c_eq rfl kz_0 hr1 ir_0) h ?_ ?_
  · clear h
    intro h
    exact rJ_X4_middleOfAll_1 kz_m1 h
  · clear h
    intro h
    refine cp_r (e := zI) (fun _ h => rF_X11_middleLag_42 rfl h) h ?_
    clear h
    intro v2 h
    exact rJ_X4_middleOfAll_1 rfl h
theorem rJ_X3_findWorths_4 {w14_ : Int32} {w14 : Int} (e_w14 : w14_ = zI w14) {v28_ : Int32} {v28 : Int} (e_v28 : v28_ = zI v28) {g29 : uZ} {zr : ((Int × (Int × uZ)) ⊕ (Int × uZ))} (h : GJ_X3_findWorths_4 w14 v28 g29 = some zr) : J_X3_findWorths_4 w14_ v28_ (zS g29) = some (em_6 zr) := by
  subst e_w14 e_v28
  unfold GJ_X3_findWorths_4 at h
  unfold J_X3_findWorths_4
  refine lt_r (e_add rfl kz_1) h ?_
  clear h
  intro v30 h
  cases h
  exact congrArg some (congrArg Sum.inl (e_pair rfl (e_pair rfl rfl)))
theorem rJ_X3_findWorths_3 {v23_ : Int32} {v23 : Int} (e_v23 : v23_ = zI v23) {w4_ : Int32} {w4 : Int} (e_w4 : w4_ = zI w4) {w14_ : Int32} {w14 : Int} (e_w14 : w14_ = zI w14) {g15 : uZ} {zr : ((Int × (Int × uZ)) ⊕ (Int × uZ))} (h : GJ_X3_findWorths_3 v23 w4 w14 g15 = some zr) : J_X3_findWorths_3 v23_ w4_ w14_ (zS g15) = some (em_6 zr) := by
  subst e_v23 e_w4 e_w14
  unfold GJ_X3_findWorths_3 at h
  unfold J_X3_findWorths_3
  refine wr_r (Nat.le_of_ble_eq_true rfl) rfl rfl h ?_
  clear h
  intro g27 h
  exact rJ_X3_findWorths_4 rfl rfl h
theorem rB_X3_findWorths_5 {a2_ : Int32} {a2 : Int} (e_a2 : a2_ = zI a2) {v1_ : Int32} {v1 : Int} (e_v1 : v1_ = zI v1) {v9_ : Int32} {v9 : Int} (e_v9 : v9_ = zI v9) {v10_ : Int32} {v10 : Int} (e_v10 : v10_ = zI v10) {w4_ : Int32} {w4 : Int} (e_w4 : w4_ = zI w4) {w13_ : Int32} {w13 : Int} (e_w13 : w13_ = zI w13) {w14_ : Int32} {w14 : Int} (e_w14 : w14_ = zI w14) {g15 : uZ} {zr : ((Int × (Int × uZ)) ⊕ (Int × uZ))} (h : GB_X3_findWorths_5 a2 v1 v9 v10 w4 w13 w14 g15 = some zr) : B_X3_findWorths_5 a2_ v1_ v9_ v10_ w4_ w13_ w14_ (zS g15) = some (em_6 zr) := by
  subst e_a2 e_v1 e_v9 e_v10 e_w4 e_w13 e_w14
  unfold GB_X3_findWorths_5 at h
  unfold B_X3_findWorths_5
  obtain ⟨hr1, h⟩ := ck_e h
  obtain ⟨hr2, h⟩ := ck_e h
  refine ite_r (c_le rfl rfl hr1 hr2) h ?_ ?_
  · clear h
    intro h
    cases h
    exact congrArg some (congrArg Sum.inr (e_pair rfl rfl))
  · clear h
    intro h
    obtain ⟨hr3, h⟩ := ck_e h
    refine ite_r (c_lt (e_add rfl rfl) rfl hr3 hr1) h ?_ ?_
    · clear h
      intro h
      cases h
      exact congrArg some (congrArg Sum.inr (e_pair rfl rfl))
    · clear h
      intro h
      obtain ⟨hr4, h⟩ := ck_e h
      refine ite_r (c_le rfl rfl hr4 hr1) h ?_ ?_
      · clear h
        intro h
        cases h
        exact congrArg some (congrArg Sum.inr (e_pair rfl rfl))
      · clear h
        intro h
        refine rd_r (Nat.le_of_ble_eq_true rfl) rfl h ?_
        clear h
        intro v21 h
        refine cp_r (e := zI) (fun _ h => rF_J9_abs_0f7a4 (e_sub rfl rfl) h) h ?_
        clear h
        intro v22 h
        refine lt_r (e_sub rfl (e_mul rfl rfl)) h ?_
        clear h
        intro v23 h
        refine rd_r (Nat.le_of_ble_eq_true rfl) rfl h ?_
        clear h
        intro v24 h
        obtain ⟨hr5, h⟩ := ck_e h
        refine ite_r (c_eq rfl kz_m1 hr5 ir_m1) h ?_ ?_
        · clear h
          intro h
          exact rJ_X3_findWorths_3 rfl rfl rfl h
        · clear h
          intro h
          obtain ⟨hr6, h⟩ := ck_e h
          obtain ⟨hr7, h⟩ := ck_e h
          refine ite_r (c_le rfl rfl hr6 hr7) h ?_ ?_
          · clear h
            intro h
            exact rJ_X3_findWorths_4 rfl rfl h
          · clear h
            intro h
            exact rJ_X3_findWorths_3 rfl rfl rfl h
theorem rC_X3_findWorths_6 {w4_ : Int32} {w4 : Int} (e_w4 : w4_ = zI w4) {v16_ : Int32} {v16 : Int} (e_v16 : v16_ = zI v16) {g17 : uZ} {zr : ((Int × uZ) ⊕ uZ)} (h : GC_X3_findWorths_6 w4 v16 g17 = some zr) : C_X3_findWorths_6 w4_ v16_ (zS g17) = some (em_3 zr) := by
  subst e_w4 e_v16
  unfold GC_X3_findWorths_6 at h
  unfold C_X3_findWorths_6
  refine cp_r (e := zI) (fun _ h => rF_X7_at rfl h) h ?_
  clear h
  intro v31 h
  refine wr_r (Nat.le_of_ble_eq_true rfl) rfl (e_add rfl rfl) h ?_
  clear h
  intro g32 h
  refine lt_r (e_add rfl kz_m1) h ?_
  clear h
  intro v33 h
  cases h
  exact congrArg some (congrArg Sum.inl (e_pair rfl rfl))
theorem rB_X3_findWorths_7 {a1_ : Int32} {a1 : Int} (e_a1 : a1_ = zI a1) {a2_ : Int32} {a2 : Int} (e_a2 : a2_ = zI a2) {v1_ : Int32} {v1 : Int} (e_v1 : v1_ = zI v1) {w4_ : Int32} {w4 : Int} (e_w4 : w4_ = zI w4) {g5 : uZ} {zr : ((Int × uZ) ⊕ uZ)} (h : GB_X3_findWorths_7 a1 a2 v1 w4 g5 = some zr) : B_X3_findWorths_7 a1_ a2_ v1_ w4_ (zS g5) = some (em_3 zr) := by
  subst e_a1 e_a2 e_v1 e_w4
  unfold GB_X3_findWorths_7 at h
  unfold B_X3_findWorths_7
  obtain ⟨hr1, h⟩ := ck_e h
  obtain ⟨hr2, h⟩ := ck_e h
  refine ite_r (c_lt rfl rfl hr1 hr2) h ?_ ?_
  · clear h
    intro h
    cases h
    exact congrArg some (congrArg Sum.inr rfl)
  · clear h
    intro h
    refine cp_r (e := zI) (fun _ h => rF_X8_lagAtSample rfl h) h ?_
    clear h
    intro v8 h
    refine lt_r (e_add rfl rfl) h ?_
    clear h
    intro v9 h
    refine dv_r (e_sub rfl rfl) kz_4 h ?_
    clear h
    intro v10 h
    refine wr_r (Nat.le_of_ble_eq_true rfl) rfl kz_m1 h ?_
    clear h
    intro g11 h
    refine lt_r (e_sub rfl rfl) h ?_
    clear h
    intro v12 h
    refine lp_r em_4 em_2 (e_pair kz_0 (e_pair rfl rfl)) (fun q r h => rB_X3_findWorths_5 rfl rfl rfl rfl rfl rfl rfl h) h ?_
    clear h
    intro z h
    exact rC_X3_findWorths_6 rfl rfl h
theorem rC_X3_findWorths_8 {g6 : uZ} {zr : uZ} (h : GC_X3_findWorths_8 g6 = some zr) : C_X3_findWorths_8 (zS g6) = some (zS zr) := by
  unfold GC_X3_findWorths_8 at h
  unfold C_X3_findWorths_8
  cases h
  rfl
theorem rF_X3_findWorths {a1_ : Int32} {a1 : Int} (e_a1 : a1_ = zI a1) {a2_ : Int32} {a2 : Int} (e_a2 : a2_ = zI a2) {g : uZ} {zr : uZ} (h : GF_X3_findWorths a1 a2 g = some zr) : F_X3_findWorths a1_ a2_ (zS g) = some (zS zr) := by
  subst e_a1 e_a2
  unfold GF_X3_findWorths at h
  unfold F_X3_findWorths
  refine cp_r (e := zI) (fun _ h => rF_X0_of kz_13 h) h ?_
  clear h
  intro v1 h
  refine cp_r (e := zI) (fun _ h => rF_J9_min_7cf53 rfl kz_800 h) h ?_
  clear h
  intro v2 h
  refine lt_r (e_sub rfl kz_1) h ?_
  clear h
  intro v3 h
  refine lp_r em_2 zS (e_pair rfl rfl) (fun q r h => rB_X3_findWorths_7 rfl rfl rfl rfl h) h ?_
  clear h
  intro z h
  exact rC_X3_findWorths_8 h
theorem rB_X3_markSpan_2 {a2_ : Int32} {a2 : Int} (e_a2 : a2_ = zI a2) {a3_ : Int32} {a3 : Int} (e_a3 : a3_ = zI a3) {g : uZ} {w1_ : Int32} {w1 : Int} (e_w1 : w1_ = zI w1) {w2_ : Int32} {w2 : Int} (e_w2 : w2_ = zI w2) {zr : ((Int × Int) ⊕ Int)} (h : GB_X3_markSpan_2 a2 a3 g w1 w2 = some zr) : B_X3_markSpan_2 a2_ a3_ (zS g) w1_ w2_ = some (em_1 zr) := by
  subst e_a2 e_a3 e_w1 e_w2
  unfold GB_X3_markSpan_2 at h
  unfold B_X3_markSpan_2
  obtain ⟨hr1, h⟩ := ck_e h
  obtain ⟨hr2, h⟩ := ck_e h
  refine ite_r (c_le rfl rfl hr1 hr2) h ?_ ?_
  · clear h
    intro h
    cases h
    exact congrArg some (congrArg Sum.inr rfl)
  · clear h
    intro h
    refine cp_r (e := zI) (fun _ h => rF_X8_lagAtSample rfl h) h ?_
    clear h
    intro v5 h
    obtain ⟨hr3, h⟩ := ck_e h
    refine ite_r (c_le (e_add rfl rfl) rfl hr3 hr2) h ?_ ?_
    · clear h
      intro h
      cases h
      exact congrArg some (congrArg Sum.inr rfl)
    · clear h
      intro h
      refine rd_r (Nat.le_of_ble_eq_true rfl) rfl h ?_
      clear h
      intro v7 h
      refine rd_r (Nat.le_of_ble_eq_true rfl) rfl h ?_
      clear h
      intro v8 h
      obtain ⟨hr4, h⟩ := ck_e h
      obtain ⟨hr5, h⟩ := ck_e h
      refine lt_r (e_ite (c_le rfl rfl hr4 hr5) rfl rfl) h ?_
      clear h
      intro v10 h
      refine lt_r (e_add rfl kz_1) h ?_
      clear h
      intro v11 h
      cases h
      exact congrArg some (congrArg Sum.inl (e_pair rfl rfl))
theorem rB_X3_markSpan_4 {a1_ : Int32} {a1 : Int} (e_a1 : a1_ = zI a1) {a2_ : Int32} {a2 : Int} (e_a2 : a2_ = zI a2) {a3_ : Int32} {a3 : Int} (e_a3 : a3_ = zI a3) {w14_ : Int32} {w14 : Int} (e_w14 : w14_ = zI w14) {g15 : uZ} {zr : ((Int × uZ) ⊕ uZ)} (h : GB_X3_markSpan_4 a1 a2 a3 w14 g15 = some zr) : B_X3_markSpan_4 a1_ a2_ a3_ w14_ (zS g15) = some (em_3 zr) := by
  subst e_a1 e_a2 e_a3 e_w14
  unfold GB_X3_markSpan_4 at h
  unfold B_X3_markSpan_4
  obtain ⟨hr1, h⟩ := ck_e h
  obtain ⟨hr2, h⟩ := ck_e h
  refine ite_r (c_lt rfl rfl hr1 hr2) h ?_ ?_
  · clear h
    intro h
    cases h
    exact congrArg some (congrArg Sum.inr rfl)
  · clear h
    intro h
    obtain ⟨hr3, h⟩ := ck_e h
    refine ite_r (c_le rfl rfl hr3 hr1) h ?_ ?_
    · clear h
      intro h
      cases h
      exact congrArg some (congrArg Sum.inr rfl)
    · clear h
      intro h
      obtain ⟨hr4, h⟩ := ck_e h
      refine ite_r (c_le kz_800 rfl ir_800 hr4) h ?_ ?_
      · clear h
        intro h
        cases h
        exact congrArg some (congrArg Sum.inr rfl)
      · clear h
        intro h
        refine wr_r (Nat.le_of_ble_eq_true rfl) rfl rfl h ?_
        clear h
        intro g20 h
        refine wr_r (Nat.le_of_ble_eq_true rfl) rfl rfl h ?_
        clear h
        intro g21 h
        refine pf_r (e_add rfl kz_1) h ?_
        clear h
        intro g22 h
        refine rd_r (Nat.le_of_ble_eq_true rfl) rfl h ?_
        clear h
        intro v23 h
        cases h
        exact congrArg some (congrArg Sum.inl (e_pair rfl rfl))
theorem rC_X3_markSpan_5 {g16 : uZ} {zr : uZ} (h : GC_X3_markSpan_5 g16 = some zr) : C_X3_markSpan_5 (zS g16) = some (zS zr) := by
  unfold GC_X3_markSpan_5 at h
  unfold C_X3_markSpan_5
  cases h
  rfl
theorem rC_X3_markSpan_6 {a1_ : Int32} {a1 : Int} (e_a1 : a1_ = zI a1) {a2_ : Int32} {a2 : Int} (e_a2 : a2_ = zI a2) {a3_ : Int32} {a3 : Int} (e_a3 : a3_ = zI a3) {g : uZ} {v3_ : Int32} {v3 : Int} (e_v3 : v3_ = zI v3) {zr : uZ} (h : GC_X3_markSpan_6 a1 a2 a3 g v3 = some zr) : C_X3_markSpan_6 a1_ a2_ a3_ (zS g) v3_ = some (zS zr) := by
  subst e_a1 e_a2 e_a3 e_v3
  unfold GC_X3_markSpan_6 at h
  unfold C_X3_markSpan_6
  refine rd_r (Nat.le_of_ble_eq_true rfl) rfl h ?_
  clear h
  intro v12 h
  refine wr_r (Nat.le_of_ble_eq_true rfl) rfl rfl h ?_
  clear h
  intro g13 h
  refine lp_r em_2 zS (e_pair rfl rfl) (fun q r h => rB_X3_markSpan_4 rfl rfl rfl rfl h) h ?_
  clear h
  intro z h
  exact rC_X3_markSpan_5 h
theorem rF_X3_markSpan {a1_ : Int32} {a1 : Int} (e_a1 : a1_ = zI a1) {a2_ : Int32} {a2 : Int} (e_a2 : a2_ = zI a2) {a3_ : Int32} {a3 : Int} (e_a3 : a3_ = zI a3) {g : uZ} {zr : uZ} (h : GF_X3_markSpan a1 a2 a3 g = some zr) : F_X3_markSpan a1_ a2_ a3_ (zS g) = some (zS zr) := by
  subst e_a1 e_a2 e_a3
  unfold GF_X3_markSpan at h
  unfold F_X3_markSpan
  refine lp_r em_0 zI (e_pair rfl rfl) (fun q r h => rB_X3_markSpan_2 rfl rfl rfl rfl h) h ?_
  clear h
  intro z h
  exact rC_X3_markSpan_6 rfl rfl rfl rfl h
theorem rJ_X3_find_2 {w2_ : Int32} {w2 : Int} (e_w2 : w2_ = zI w2) {g17 : uZ} {zr : ((Int × uZ) ⊕ uZ)} (h : GJ_X3_find_2 w2 g17 = some zr) : J_X3_find_2 w2_ (zS g17) = some (em_3 zr) := by
  subst e_w2
  unfold GJ_X3_find_2 at h
  unfold J_X3_find_2
  refine lt_r (e_add rfl kz_1) h ?_
  clear h
  intro v18 h
  cases h
  exact congrArg some (congrArg Sum.inl (e_pair rfl rfl))
theorem rB_X3_find_3 {w2_ : Int32} {w2 : Int} (e_w2 : w2_ = zI w2) {g3 : uZ} {zr : ((Int × uZ) ⊕ uZ)} (h : GB_X3_find_3 w2 g3 = some zr) : B_X3_find_3 w2_ (zS g3) = some (em_3 zr) := by
  subst e_w2
  unfold GB_X3_find_3 at h
  unfold B_X3_find_3
  refine cp_r (e := zI) (fun _ h => rF_X8_size h) h ?_
  clear h
  intro v5 h
  obtain ⟨hr1, h⟩ := ck_e h
  obtain ⟨hr2, h⟩ := ck_e h
  refine ite_r (c_le rfl rfl hr1 hr2) h ?_ ?_
  · clear h
    intro h
    cases h
    exact congrArg some (congrArg Sum.inr rfl)
  · clear h
    intro h
    refine wr_r (Nat.le_of_ble_eq_true rfl) rfl rfl h ?_
    clear h
    intro g7 h
    refine wr_r (Nat.le_of_ble_eq_true rfl) rfl kz_0 h ?_
    clear h
    intro g8 h
    refine cp_r (e := zI) (fun _ h => rF_X8_isVoiced rfl h) h ?_
    clear h
    intro v9 h
    obtain ⟨hr3, h⟩ := ck_e h
    refine ite_r (c_eq rfl kz_0 hr3 ir_0) h ?_ ?_
    · clear h
      intro h
      exact rJ_X3_find_2 rfl h
    · clear h
      intro h
      refine cp_r (e := zI) (fun _ h => rF_X8_from rfl h) h ?_
      clear h
      intro v11 h
      refine cp_r (e := zI) (fun _ h => rF_X8_to rfl h) h ?_
      clear h
      intro v12 h
      refine cp_r (e := zS) (fun _ h => rF_X3_findWorths rfl rfl h) h ?_
      clear h
      intro g13 h
      refine cp_r (e := zI) (fun _ h => rF_X8_from rfl h) h ?_
      clear h
      intro v14 h
      refine cp_r (e := zI) (fun _ h => rF_X8_to rfl h) h ?_
      clear h
      intro v15 h
      refine cp_r (e := zS) (fun _ h => rF_X3_markSpan rfl rfl rfl h) h ?_
      clear h
      intro g16 h
      exact rJ_X3_find_2 rfl h
theorem rC_X3_find_4 {g4 : uZ} {zr : uZ} (h : GC_X3_find_4 g4 = some zr) : C_X3_find_4 (zS g4) = some (zS zr) := by
  unfold GC_X3_find_4 at h
  unfold C_X3_find_4
  refine cp_r (e := zI) (fun _ h => rF_X8_size h) h ?_
  clear h
  intro v19 h
  refine wr_r (Nat.le_of_ble_eq_true rfl) rfl rfl h ?_
  clear h
  intro g20 h
  cases h
  rfl
theorem rF_X3_find {g : uZ} {zr : uZ} (h : GF_X3_find g = some zr) : F_X3_find (zS g) = some (zS zr) := by
  unfold GF_X3_find at h
  unfold F_X3_find
  refine pf_r kz_0 h ?_
  clear h
  intro g1 h
  refine lp_r em_2 zS (e_pair kz_0 rfl) (fun q r h => rB_X3_find_3 rfl h) h ?_
  clear h
  intro z h
  exact rC_X3_find_4 h
theorem rF_X3_size {g : uZ} {zr : Int} (h : GF_X3_size g = some zr) : F_X3_size (zS g) = some (zI zr) := by
  unfold GF_X3_size at h
  unfold F_X3_size
  cases h
  rfl
theorem rJ_X3_has_2 {v3_ : Int32} {v3 : Int} (e_v3 : v3_ = zI v3) {zr : Int} (h : GJ_X3_has_2 v3 = some zr) : J_X3_has_2 v3_ = some (zI zr) := by
  subst e_v3
  unfold GJ_X3_has_2 at h
  unfold J_X3_has_2
  refine bz_r rfl h ?_
  clear h
  intro h
  cases h
  rfl
theorem rJ_X3_has_1 {zr : Int} (h : GJ_X3_has_1 = some zr) : J_X3_has_1 = some (zI zr) := by
  unfold GJ_X3_has_1 at h
  unfold J_X3_has_1
  exact rJ_X3_has_2 kz_0 h
theorem rF_X3_has {a1_ : Int32} {a1 : Int} (e_a1 : a1_ = zI a1) {g : uZ} {zr : Int} (h : GF_X3_has a1 g = some zr) : F_X3_has a1_ (zS g) = some (zI zr) := by
  subst e_a1
  unfold GF_X3_has at h
  unfold F_X3_has
  obtain ⟨hr1, h⟩ := ck_e h
  refine ite_r (c_lt rfl kz_0 hr1 ir_0) h ?_ ?_
  · clear h
    intro h
    exact rJ_X3_has_1 h
  · clear h
    intro h
    obtain ⟨hr2, h⟩ := ck_e h
    refine ite_r (c_le rfl rfl hr2 hr1) h ?_ ?_
    · clear h
      intro h
      exact rJ_X3_has_1 h
    · clear h
      intro h
      exact rJ_X3_has_2 kz_1 h
theorem rJ_X3_at_1 {v4_ : Int32} {v4 : Int} (e_v4 : v4_ = zI v4) {zr : Int} (h : GJ_X3_at_1 v4 = some zr) : J_X3_at_1 v4_ = some (zI zr) := by
  subst e_v4
  unfold GJ_X3_at_1 at h
  unfold J_X3_at_1
  cases h
  rfl
theorem rF_X3_at {a1_ : Int32} {a1 : Int} (e_a1 : a1_ = zI a1) {g : uZ} {zr : Int} (h : GF_X3_at a1 g = some zr) : F_X3_at a1_ (zS g) = some (zI zr) := by
  subst e_a1
  unfold GF_X3_at at h
  unfold F_X3_at
  refine cp_r (e := zI) (fun _ h => rF_X3_has rfl h) h ?_
  clear h
  intro v1 h
  obtain ⟨hr1, h⟩ := ck_e h
  refine ite_r (c_eq rfl kz_0 hr1 ir_0) h ?_ ?_
  · clear h
    intro h
    exact rJ_X3_at_1 kz_m1 h
  · clear h
    intro h
    refine rd_r (Nat.le_of_ble_eq_true rfl) rfl h ?_
    clear h
    intro v3 h
    exact rJ_X3_at_1 rfl h
theorem rJ_X3_sizeIn_1 {v5_ : Int32} {v5 : Int} (e_v5 : v5_ = zI v5) {zr : Int} (h : GJ_X3_sizeIn_1 v5 = some zr) : J_X3_sizeIn_1 v5_ = some (zI zr) := by
  subst e_v5
  unfold GJ_X3_sizeIn_1 at h
  unfold J_X3_sizeIn_1
  cases h
  rfl
theorem rF_X3_sizeIn {a1_ : Int32} {a1 : Int} (e_a1 : a1_ = zI a1) {g : uZ} {zr : Int} (h : GF_X3_sizeIn a1 g = some zr) : F_X3_sizeIn a1_ (zS g) = some (zI zr) := by
  subst e_a1
  unfold GF_X3_sizeIn at h
  unfold F_X3_sizeIn
  refine cp_r (e := zI) (fun _ h => rF_X8_has rfl h) h ?_
  clear h
  intro v1 h
  obtain ⟨hr1, h⟩ := ck_e h
  refine ite_r (c_eq rfl kz_0 hr1 ir_0) h ?_ ?_
  · clear h
    intro h
    exact rJ_X3_sizeIn_1 kz_0 h
  · clear h
    intro h
    refine rd_r (Nat.le_of_ble_eq_true rfl) (e_add rfl kz_1) h ?_
    clear h
    intro v3 h
    refine rd_r (Nat.le_of_ble_eq_true rfl) rfl h ?_
    clear h
    intro v4 h
    exact rJ_X3_sizeIn_1 (e_sub rfl rfl) h
theorem rJ_X3_worthIn_1 {v4_ : Int32} {v4 : Int} (e_v4 : v4_ = zI v4) {zr : Int} (h : GJ_X3_worthIn_1 v4 = some zr) : J_X3_worthIn_1 v4_ = some (zI zr) := by
  subst e_v4
  unfold GJ_X3_worthIn_1 at h
  unfold J_X3_worthIn_1
  cases h
  rfl
theorem rF_X3_worthIn {a1_ : Int32} {a1 : Int} (e_a1 : a1_ = zI a1) {g : uZ} {zr : Int} (h : GF_X3_worthIn a1 g = some zr) : F_X3_worthIn a1_ (zS g) = some (zI zr) := by
  subst e_a1
  unfold GF_X3_worthIn at h
  unfold F_X3_worthIn
  refine cp_r (e := zI) (fun _ h => rF_X8_has rfl h) h ?_
  clear h
  intro v1 h
  obtain ⟨hr1, h⟩ := ck_e h
  refine ite_r (c_eq rfl kz_0 hr1 ir_0) h ?_ ?_
  · clear h
    intro h
    exact rJ_X3_worthIn_1 kz_0 h
  · clear h
    intro h
    refine rd_r (Nat.le_of_ble_eq_true rfl) rfl h ?_
    clear h
    intro v3 h
    exact rJ_X3_worthIn_1 rfl h
theorem rF_J9_abs_067f4 {a1_ : Int64} {a1 : Int} (e_a1 : a1_ = zL a1) {g : uZ} {zr : Int} (h : GF_J9_abs_067f4 a1 g = some zr) : F_J9_abs_067f4 a1_ (zS g) = some (zL zr) := by
  subst e_a1
  unfold GF_J9_abs_067f4 at h
  unfold F_J9_abs_067f4
  obtain ⟨hr1, h⟩ := ck_e h
  refine lt_rL (e_iteL (c_le kz_0 (zI_toInt _).symm ir_0 hr1) rfl (zL_toInt _).symm) h ?_
  clear h
  intro v2 h
  cases h
  rfl
theorem rJ_X3_nearest_3 {w4_ : Int32} {w4 : Int} (e_w4 : w4_ = zI w4) {v11_ : Int32} {v11 : Int} (e_v11 : v11_ = zI v11) {v12_ : Int64} {v12 : Int} (e_v12 : v12_ = zL v12) {zr : ((Int × (Int × Int)) ⊕ Int)} (h : GJ_X3_nearest_3 w4 v11 v12 = some zr) : J_X3_nearest_3 w4_ v11_ v12_ = some (em_17 zr) := by
  subst e_w4 e_v11 e_v12
  unfold GJ_X3_nearest_3 at h
  unfold J_X3_nearest_3
  refine lt_r (e_add rfl kz_1) h ?_
  clear h
  intro v13 h
  cases h
  exact congrArg some (congrArg Sum.inl (e_pair rfl (e_pair rfl rfl)))
theorem rJ_X3_nearest_2 {v8_ : Int64} {v8 : Int} (e_v8 : v8_ = zL v8) {w4_ : Int32} {w4 : Int} (e_w4 : w4_ = zI w4) {zr : ((Int × (Int × Int)) ⊕ Int)} (h : GJ_X3_nearest_2 v8 w4 = some zr) : J_X3_nearest_2 v8_ w4_ = some (em_17 zr) := by
  subst e_v8 e_w4
  unfold GJ_X3_nearest_2 at h
  unfold J_X3_nearest_2
  exact rJ_X3_nearest_3 rfl rfl rfl h
theorem rB_X3_nearest_4 {a1_ : Int32} {a1 : Int} (e_a1 : a1_ = zI a1) {a3_ : Int32} {a3 : Int} (e_a3 : a3_ = zI a3) {g : uZ} {w2_ : Int32} {w2 : Int} (e_w2 : w2_ = zI w2) {w3_ : Int64} {w3 : Int} (e_w3 : w3_ = zL w3) {w4_ : Int32} {w4 : Int} (e_w4 : w4_ = zI w4) {zr : ((Int × (Int × Int)) ⊕ Int)} (h : GB_X3_nearest_4 a1 a3 g w2 w3 w4 = some zr) : B_X3_nearest_4 a1_ a3_ (zS g) w2_ w3_ w4_ = some (em_17 zr) := by
  subst e_a1 e_a3 e_w2 e_w3 e_w4
  unfold GB_X3_nearest_4 at h
  unfold B_X3_nearest_4
  obtain ⟨hr1, h⟩ := ck_e h
  obtain ⟨hr2, h⟩ := ck_e h
  refine ite_r (c_le rfl rfl hr1 hr2) h ?_ ?_
  · clear h
    intro h
    cases h
    exact congrArg some (congrArg Sum.inr rfl)
  · clear h
    intro h
    refine cp_r (e := zI) (fun _ h => rF_X3_at rfl h) h ?_
    clear h
    intro v7 h
    refine cp_r (e := zL) (fun _ h => rF_J9_abs_067f4 (zL_toInt _).symm h) h ?_
    clear h
    intro v8 h
    obtain ⟨hr3, h⟩ := ck_e h
    refine ite_r (c_eq rfl kz_m1 hr3 ir_m1) h ?_ ?_
    · clear h
      intro h
      exact rJ_X3_nearest_2 rfl rfl h
    · clear h
      intro h
      obtain ⟨hr4, h⟩ := ck_e h
      refine ite_r (c_le kz_0 (zI_toInt _).symm ir_0 hr4) h ?_ ?_
      · clear h
        intro h
        exact rJ_X3_nearest_3 rfl rfl rfl h
      · clear h
        intro h
        exact rJ_X3_nearest_2 rfl rfl h
theorem rC_X3_nearest_5 {v5_ : Int32} {v5 : Int} (e_v5 : v5_ = zI v5) {zr : Int} (h : GC_X3_nearest_5 v5 = some zr) : C_X3_nearest_5 v5_ = some (zI zr) := by
  subst e_v5
  unfold GC_X3_nearest_5 at h
  unfold C_X3_nearest_5
  cases h
  rfl
theorem rF_X3_nearest {a1_ : Int32} {a1 : Int} (e_a1 : a1_ = zI a1) {a2_ : Int32} {a2 : Int} (e_a2 : a2_ = zI a2) {a3_ : Int32} {a3 : Int} (e_a3 : a3_ = zI a3) {g : uZ} {zr : Int} (h : GF_X3_nearest a1 a2 a3 g = some zr) : F_X3_nearest a1_ a2_ a3_ (zS g) = some (zI zr) := by
  subst e_a1 e_a2 e_a3
  unfold GF_X3_nearest at h
  unfold F_X3_nearest
  refine lt_rL (zL_toInt _).symm h ?_
  clear h
  intro v1 h
  refine lp_r em_16 zI (e_pair kz_m1 (e_pair rfl rfl)) (fun q r h => rB_X3_nearest_4 rfl rfl rfl rfl rfl h) h ?_
  clear h
  intro z h
  exact rC_X3_nearest_5 rfl h
theorem rJ_X3_gapBehind_2 {v10_ : Int32} {v10 : Int} (e_v10 : v10_ = zI v10) {zr : Int} (h : GJ_X3_gapBehind_2 v10 = some zr) : J_X3_gapBehind_2 v10_ = some (zI zr) := by
  subst e_v10
  unfold GJ_X3_gapBehind_2 at h
  unfold J_X3_gapBehind_2
  cases h
  rfl
theorem rJ_X3_gapBehind_1 {zr : Int} (h : GJ_X3_gapBehind_1 = some zr) : J_X3_gapBehind_1 = some (zI zr) := by
  unfold GJ_X3_gapBehind_1 at h
  unfold J_X3_gapBehind_1
  exact rJ_X3_gapBehind_2 kz_m1 h
theorem rF_X3_gapBehind {a1_ : Int32} {a1 : Int} (e_a1 : a1_ = zI a1) {g : uZ} {zr : Int} (h : GF_X3_gapBehind a1 g = some zr) : F_X3_gapBehind a1_ (zS g) = some (zI zr) := by
  subst e_a1
  unfold GF_X3_gapBehind at h
  unfold F_X3_gapBehind
  refine cp_r (e := zI) (fun _ h => rF_X3_has rfl h) h ?_
  clear h
  intro v1 h
  obtain ⟨hr1, h⟩ := ck_e h
  refine ite_r (c_eq rfl kz_0 hr1 ir_0) h ?_ ?_
  · clear h
    intro h
    exact rJ_X3_gapBehind_1 h
  · clear h
    intro h
    refine cp_r (e := zI) (fun _ h => rF_X3_has (e_add rfl kz_1) h) h ?_
    clear h
    intro v3 h
    obtain ⟨hr2, h⟩ := ck_e h
    refine ite_r (c_eq rfl kz_0 hr2 ir_0) h ?_ ?_
    · clear h
      intro h
      exact rJ_X3_gapBehind_1 h
    · clear h
      intro h
      refine rd_r (Nat.le_of_ble_eq_true rfl) rfl h ?_
      clear h
      intro v5 h
      refine rd_r (Nat.le_of_ble_eq_true rfl) (e_add rfl kz_1) h ?_
      clear h
      intro v6 h
      obtain ⟨hr3, h⟩ := ck_e h
      obtain ⟨hr4, h⟩ := ck_e h
      refine ite_r (c_eq rfl rfl hr3 hr4) h ?_ ?_
      · clear h
        intro h
        refine rd_r (Nat.le_of_ble_eq_true rfl) (e_add rfl kz_1) h ?_
        clear h
        intro v8 h
        refine rd_r (Nat.le_of_ble_eq_true rfl) rfl h ?_
        clear h
        intro v9 h
        exact rJ_X3_gapBehind_2 (e_sub rfl rfl) h
      · clear h
        intro h
        exact rJ_X3_gapBehind_1 h
theorem rB_X3_gapCount_2 {g : uZ} {w1_ : Int32} {w1 : Int} (e_w1 : w1_ = zI w1) {w2_ : Int32} {w2 : Int} (e_w2 : w2_ = zI w2) {zr : ((Int × Int) ⊕ Int)} (h : GB_X3_gapCount_2 g w1 w2 = some zr) : B_X3_gapCount_2 (zS g) w1_ w2_ = some (em_1 zr) := by
  subst e_w1 e_w2
  unfold GB_X3_gapCount_2 at h
  unfold B_X3_gapCount_2
  obtain ⟨hr1, h⟩ := ck_e h
  obtain ⟨hr2, h⟩ := ck_e h
  refine ite_r (c_le rfl rfl hr1 hr2) h ?_ ?_
  · clear h
    intro h
    cases h
    exact congrArg some (congrArg Sum.inr rfl)
  · clear h
    intro h
    refine cp_r (e := zI) (fun _ h => rF_X3_gapBehind rfl h) h ?_
    clear h
    intro v5 h
    obtain ⟨hr3, h⟩ := ck_e h
    refine lt_r (e_ite (c_eq rfl kz_m1 hr3 ir_m1) kz_0 kz_1) h ?_
    clear h
    intro v7 h
    refine lt_r (e_add rfl rfl) h ?_
    clear h
    intro v8 h
    refine lt_r (e_add rfl kz_1) h ?_
    clear h
    intro v9 h
    cases h
    exact congrArg some (congrArg Sum.inl (e_pair rfl rfl))
theorem rC_X3_gapCount_3 {v3_ : Int32} {v3 : Int} (e_v3 : v3_ = zI v3) {zr : Int} (h : GC_X3_gapCount_3 v3 = some zr) : C_X3_gapCount_3 v3_ = some (zI zr) := by
  subst e_v3
  unfold GC_X3_gapCount_3 at h
  unfold C_X3_gapCount_3
  cases h
  rfl
theorem rF_X3_gapCount {g : uZ} {zr : Int} (h : GF_X3_gapCount g = some zr) : F_X3_gapCount (zS g) = some (zI zr) := by
  unfold GF_X3_gapCount at h
  unfold F_X3_gapCount
  refine lp_r em_0 zI (e_pair kz_0 kz_0) (fun q r h => rB_X3_gapCount_2 rfl rfl h) h ?_
  clear h
  intro z h
  exact rC_X3_gapCount_3 rfl h
theorem rB_X3_gapSum_2 {g : uZ} {w1_ : Int32} {w1 : Int} (e_w1 : w1_ = zI w1) {w2_ : Int32} {w2 : Int} (e_w2 : w2_ = zI w2) {zr : ((Int × Int) ⊕ Int)} (h : GB_X3_gapSum_2 g w1 w2 = some zr) : B_X3_gapSum_2 (zS g) w1_ w2_ = some (em_1 zr) := by
  subst e_w1 e_w2
  unfold GB_X3_gapSum_2 at h
  unfold B_X3_gapSum_2
  obtain ⟨hr1, h⟩ := ck_e h
  obtain ⟨hr2, h⟩ := ck_e h
  refine ite_r (c_le rfl rfl hr1 hr2) h ?_ ?_
  · clear h
    intro h
    cases h
    exact congrArg some (congrArg Sum.inr rfl)
  · clear h
    intro h
    refine cp_r (e := zI) (fun _ h => rF_X3_gapBehind rfl h) h ?_
    clear h
    intro v5 h
    refine cp_r (e := zI) (fun _ h => rF_J9_max_7cf53 kz_0 rfl h) h ?_
    clear h
    intro v6 h
    refine lt_r (e_add rfl rfl) h ?_
    clear h
    intro v7 h
    refine lt_r (e_add rfl kz_1) h ?_
    clear h
    intro v8 h
    cases h
    exact congrArg some (congrArg Sum.inl (e_pair rfl rfl))
theorem rC_X3_gapSum_3 {v3_ : Int32} {v3 : Int} (e_v3 : v3_ = zI v3) {zr : Int} (h : GC_X3_gapSum_3 v3 = some zr) : C_X3_gapSum_3 v3_ = some (zI zr) := by
  subst e_v3
  unfold GC_X3_gapSum_3 at h
  unfold C_X3_gapSum_3
  cases h
  rfl
theorem rF_X3_gapSum {g : uZ} {zr : Int} (h : GF_X3_gapSum g = some zr) : F_X3_gapSum (zS g) = some (zI zr) := by
  unfold GF_X3_gapSum at h
  unfold F_X3_gapSum
  refine lp_r em_0 zI (e_pair kz_0 kz_0) (fun q r h => rB_X3_gapSum_2 rfl rfl h) h ?_
  clear h
  intro z h
  exact rC_X3_gapSum_3 rfl h
theorem rB_X3_longestGap_2 {g : uZ} {w1_ : Int32} {w1 : Int} (e_w1 : w1_ = zI w1) {w2_ : Int32} {w2 : Int} (e_w2 : w2_ = zI w2) {zr : ((Int × Int) ⊕ Int)} (h : GB_X3_longestGap_2 g w1 w2 = some zr) : B_X3_longestGap_2 (zS g) w1_ w2_ = some (em_1 zr) := by
  subst e_w1 e_w2
  unfold GB_X3_longestGap_2 at h
  unfold B_X3_longestGap_2
  obtain ⟨hr1, h⟩ := ck_e h
  obtain ⟨hr2, h⟩ := ck_e h
  refine ite_r (c_le rfl rfl hr1 hr2) h ?_ ?_
  · clear h
    intro h
    cases h
    exact congrArg some (congrArg Sum.inr rfl)
  · clear h
    intro h
    refine cp_r (e := zI) (fun _ h => rF_X3_gapBehind rfl h) h ?_
    clear h
    intro v5 h
    refine cp_r (e := zI) (fun _ h => rF_J9_max_7cf53 rfl rfl h) h ?_
    clear h
    intro v6 h
    refine lt_r (e_add rfl kz_1) h ?_
    clear h
    intro v7 h
    cases h
    exact congrArg some (congrArg Sum.inl (e_pair rfl rfl))
theorem rC_X3_longestGap_3 {v3_ : Int32} {v3 : Int} (e_v3 : v3_ = zI v3) {zr : Int} (h : GC_X3_longestGap_3 v3 = some zr) : C_X3_longestGap_3 v3_ = some (zI zr) := by
  subst e_v3
  unfold GC_X3_longestGap_3 at h
  unfold C_X3_longestGap_3
  cases h
  rfl
theorem rF_X3_longestGap {g : uZ} {zr : Int} (h : GF_X3_longestGap g = some zr) : F_X3_longestGap (zS g) = some (zI zr) := by
  unfold GF_X3_longestGap at h
  unfold F_X3_longestGap
  refine lp_r em_0 zI (e_pair kz_m1 kz_0) (fun q r h => rB_X3_longestGap_2 rfl rfl h) h ?_
  clear h
  intro z h
  exact rC_X3_longestGap_3 rfl h
theorem rJ_X3_shortestGap_3 {w2_ : Int32} {w2 : Int} (e_w2 : w2_ = zI w2) {v9_ : Int32} {v9 : Int} (e_v9 : v9_ = zI v9) {zr : ((Int × Int) ⊕ Int)} (h : GJ_X3_shortestGap_3 w2 v9 = some zr) : J_X3_shortestGap_3 w2_ v9_ = some (em_1 zr) := by
  subst e_w2 e_v9
  unfold GJ_X3_shortestGap_3 at h
  unfold J_X3_shortestGap_3
  refine lt_r (e_add rfl kz_1) h ?_
  clear h
  intro v10 h
  cases h
  exact congrArg some (congrArg Sum.inl (e_pair rfl rfl))
theorem rJ_X3_shortestGap_2 {v5_ : Int32} {v5 : Int} (e_v5 : v5_ = zI v5) {w2_ : Int32} {w2 : Int} (e_w2 : w2_ = zI w2) {zr : ((Int × Int) ⊕ Int)} (h : GJ_X3_shortestGap_2 v5 w2 = some zr) : J_X3_shortestGap_2 v5_ w2_ = some (em_1 zr) := by
  subst e_v5 e_w2
  unfold GJ_X3_shortestGap_2 at h
  unfold J_X3_shortestGap_2
  exact rJ_X3_shortestGap_3 rfl rfl h
theorem rB_X3_shortestGap_4 {g : uZ} {w1_ : Int32} {w1 : Int} (e_w1 : w1_ = zI w1) {w2_ : Int32} {w2 : Int} (e_w2 : w2_ = zI w2) {zr : ((Int × Int) ⊕ Int)} (h : GB_X3_shortestGap_4 g w1 w2 = some zr) : B_X3_shortestGap_4 (zS g) w1_ w2_ = some (em_1 zr) := by
  subst e_w1 e_w2
  unfold GB_X3_shortestGap_4 at h
  unfold B_X3_shortestGap_4
  obtain ⟨hr1, h⟩ := ck_e h
  obtain ⟨hr2, h⟩ := ck_e h
  refine ite_r (c_le rfl rfl hr1 hr2) h ?_ ?_
  · clear h
    intro h
    cases h
    exact congrArg some (congrArg Sum.inr rfl)
  · clear h
    intro h
    refine cp_r (e := zI) (fun _ h => rF_X3_gapBehind rfl h) h ?_
    clear h
    intro v5 h
    obtain ⟨hr3, h⟩ := ck_e h
    refine ite_r (c_eq rfl kz_m1 hr3 ir_m1) h ?_ ?_
    · clear h
      intro h
      exact rJ_X3_shortestGap_3 rfl rfl h
    · clear h
      intro h
      obtain ⟨hr4, h⟩ := ck_e h
      refine ite_r (c_eq rfl kz_m1 hr4 ir_m1) h ?_ ?_
      · clear h
        intro h
        exact rJ_X3_shortestGap_2 rfl rfl h
      · clear h
        intro h
        refine ite_r (c_le rfl rfl hr4 hr3) h ?_ ?_
        · clear h
          intro h
          exact rJ_X3_shortestGap_3 rfl rfl h
        · clear h
          intro h
          exact rJ_X3_shortestGap_2 rfl rfl h
theorem rC_X3_shortestGap_5 {v3_ : Int32} {v3 : Int} (e_v3 : v3_ = zI v3) {zr : Int} (h : GC_X3_shortestGap_5 v3 = some zr) : C_X3_shortestGap_5 v3_ = some (zI zr) := by
  subst e_v3
  unfold GC_X3_shortestGap_5 at h
  unfold C_X3_shortestGap_5
  cases h
  rfl
theorem rF_X3_shortestGap {g : uZ} {zr : Int} (h : GF_X3_shortestGap g = some zr) : F_X3_shortestGap (zS g) = some (zI zr) := by
  unfold GF_X3_shortestGap at h
  unfold F_X3_shortestGap
  refine lp_r em_0 zI (e_pair kz_m1 kz_0) (fun q r h => rB_X3_shortestGap_4 rfl rfl h) h ?_
  clear h
  intro z h
  exact rC_X3_shortestGap_5 rfl h
theorem rJ_X3_jitter_2 {w2_ : Int32} {w2 : Int} (e_w2 : w2_ = zI w2) {v13_ : Int32} {v13 : Int} (e_v13 : v13_ = zI v13) {zr : ((Int × Int) ⊕ Int)} (h : GJ_X3_jitter_2 w2 v13 = some zr) : J_X3_jitter_2 w2_ v13_ = some (em_1 zr) := by
  subst e_w2 e_v13
  unfold GJ_X3_jitter_2 at h
  unfold J_X3_jitter_2
  refine lt_r (e_add rfl kz_1) h ?_
  clear h
  intro v14 h
  cases h
  exact congrArg some (congrArg Sum.inl (e_pair rfl rfl))
theorem rB_X3_jitter_3 {g : uZ} {w1_ : Int32} {w1 : Int} (e_w1 : w1_ = zI w1) {w2_ : Int32} {w2 : Int} (e_w2 : w2_ = zI w2) {zr : ((Int × Int) ⊕ Int)} (h : GB_X3_jitter_3 g w1 w2 = some zr) : B_X3_jitter_3 (zS g) w1_ w2_ = some (em_1 zr) := by
  subst e_w1 e_w2
  unfold GB_X3_jitter_3 at h
  unfold B_X3_jitter_3
  obtain ⟨hr1, h⟩ := ck_e h
  obtain ⟨hr2, h⟩ := ck_e h
  refine ite_r (c_le rfl rfl hr1 hr2) h ?_ ?_
  · clear h
    intro h
    cases h
    exact congrArg some (congrArg Sum.inr rfl)
  · clear h
    intro h
    refine cp_r (e := zI) (fun _ h => rF_X3_gapBehind rfl h) h ?_
    clear h
    intro v5 h
    obtain ⟨hr3, h⟩ := ck_e h
    refine ite_r (c_eq rfl kz_m1 hr3 ir_m1) h ?_ ?_
    · clear h
      intro h
      exact rJ_X3_jitter_2 rfl rfl h
    · clear h
      intro h
      refine cp_r (e := zI) (fun _ h => rF_X3_gapBehind (e_add rfl kz_1) h) h ?_
      clear h
      intro v7 h
      obtain ⟨hr4, h⟩ := ck_e h
      refine ite_r (c_eq rfl kz_m1 hr4 ir_m1) h ?_ ?_
      · clear h
        intro h
        exact rJ_X3_jitter_2 rfl rfl h
      · clear h
        intro h
        refine cp_r (e := zI) (fun _ h => rF_X3_gapBehind (e_add rfl kz_1) h) h ?_
        clear h
        intro v9 h
        refine cp_r (e := zI) (fun _ h => rF_X3_gapBehind rfl h) h ?_
        clear h
        intro v10 h
        refine cp_r (e := zI) (fun _ h => rF_J9_abs_0f7a4 (e_sub rfl rfl) h) h ?_
        clear h
        intro v11 h
        refine lt_r (e_add rfl rfl) h ?_
        clear h
        intro v12 h
        exact rJ_X3_jitter_2 rfl rfl h
theorem rC_X3_jitter_4 {v3_ : Int32} {v3 : Int} (e_v3 : v3_ = zI v3) {zr : Int} (h : GC_X3_jitter_4 v3 = some zr) : C_X3_jitter_4 v3_ = some (zI zr) := by
  subst e_v3
  unfold GC_X3_jitter_4 at h
  unfold C_X3_jitter_4
  cases h
  rfl
theorem rF_X3_jitter {g : uZ} {zr : Int} (h : GF_X3_jitter g = some zr) : F_X3_jitter (zS g) = some (zI zr) := by
  unfold GF_X3_jitter at h
  unfold F_X3_jitter
  refine lp_r em_0 zI (e_pair kz_0 kz_0) (fun q r h => rB_X3_jitter_3 rfl rfl h) h ?_
  clear h
  intro z h
  exact rC_X3_jitter_4 rfl h
theorem rJ_X3_shimmer_2 {w2_ : Int32} {w2 : Int} (e_w2 : w2_ = zI w2) {v13_ : Int32} {v13 : Int} (e_v13 : v13_ = zI v13) {zr : ((Int × Int) ⊕ Int)} (h : GJ_X3_shimmer_2 w2 v13 = some zr) : J_X3_shimmer_2 w2_ v13_ = some (em_1 zr) := by
  subst e_w2 e_v13
  unfold GJ_X3_shimmer_2 at h
  unfold J_X3_shimmer_2
  refine lt_r (e_add rfl kz_1) h ?_
  clear h
  intro v14 h
  cases h
  exact congrArg some (congrArg Sum.inl (e_pair rfl rfl))
theorem rB_X3_shimmer_3 {g : uZ} {w1_ : Int32} {w1 : Int} (e_w1 : w1_ = zI w1) {w2_ : Int32} {w2 : Int} (e_w2 : w2_ = zI w2) {zr : ((Int × Int) ⊕ Int)} (h : GB_X3_shimmer_3 g w1 w2 = some zr) : B_X3_shimmer_3 (zS g) w1_ w2_ = some (em_1 zr) := by
  subst e_w1 e_w2
  unfold GB_X3_shimmer_3 at h
  unfold B_X3_shimmer_3
  obtain ⟨hr1, h⟩ := ck_e h
  obtain ⟨hr2, h⟩ := ck_e h
  refine ite_r (c_le rfl rfl hr1 hr2) h ?_ ?_
  · clear h
    intro h
    cases h
    exact congrArg some (congrArg Sum.inr rfl)
  · clear h
    intro h
    refine cp_r (e := zI) (fun _ h => rF_X3_gapBehind rfl h) h ?_
    clear h
    intro v5 h
    obtain ⟨hr3, h⟩ := ck_e h
    refine ite_r (c_eq rfl kz_m1 hr3 ir_m1) h ?_ ?_
    · clear h
      intro h
      exact rJ_X3_shimmer_2 rfl rfl h
    · clear h
      intro h
      refine cp_r (e := zI) (fun _ h => rF_X3_at (e_add rfl kz_1) h) h ?_
      clear h
      intro v7 h
      refine cp_r (e := zI) (fun _ h => rF_X7_at rfl h) h ?_
      clear h
      intro v8 h
      refine cp_r (e := zI) (fun _ h => rF_X3_at rfl h) h ?_
      clear h
      intro v9 h
      refine cp_r (e := zI) (fun _ h => rF_X7_at rfl h) h ?_
      clear h
      intro v10 h
      refine cp_r (e := zI) (fun _ h => rF_J9_abs_0f7a4 (e_sub rfl rfl) h) h ?_
      clear h
      intro v11 h
      refine lt_r (e_add rfl rfl) h ?_
      clear h
      intro v12 h
      exact rJ_X3_shimmer_2 rfl rfl h
theorem rC_X3_shimmer_4 {v3_ : Int32} {v3 : Int} (e_v3 : v3_ = zI v3) {zr : Int} (h : GC_X3_shimmer_4 v3 = some zr) : C_X3_shimmer_4 v3_ = some (zI zr) := by
  subst e_v3
  unfold GC_X3_shimmer_4 at h
  unfold C_X3_shimmer_4
  cases h
  rfl
theorem rF_X3_shimmer {g : uZ} {zr : Int} (h : GF_X3_shimmer g = some zr) : F_X3_shimmer (zS g) = some (zI zr) := by
  unfold GF_X3_shimmer at h
  unfold F_X3_shimmer
  refine lp_r em_0 zI (e_pair kz_0 kz_0) (fun q r h => rB_X3_shimmer_3 rfl rfl h) h ?_
  clear h
  intro z h
  exact rC_X3_shimmer_4 rfl h
theorem rB_X3_roughness_2 {a1_ : Int32} {a1 : Int} (e_a1 : a1_ = zI a1) {v1_ : Int32} {v1 : Int} (e_v1 : v1_ = zI v1) {g : uZ} {w2_ : Int32} {w2 : Int} (e_w2 : w2_ = zI w2) {w3_ : Int32} {w3 : Int} (e_w3 : w3_ = zI w3) {zr : ((Int × Int) ⊕ Int)} (h : GB_X3_roughness_2 a1 v1 g w2 w3 = some zr) : B_X3_roughness_2 a1_ v1_ (zS g) w2_ w3_ = some (em_1 zr) := by
  subst e_a1 e_v1 e_w2 e_w3
  unfold GB_X3_roughness_2 at h
  unfold B_X3_roughness_2
  obtain ⟨hr1, h⟩ := ck_e h
  obtain ⟨hr2, h⟩ := ck_e h
  refine ite_r (c_le rfl rfl hr1 hr2) h ?_ ?_
  · clear h
    intro h
    cases h
    exact congrArg some (congrArg Sum.inr rfl)
  · clear h
    intro h
    refine cp_r (e := zI) (fun _ h => rF_X3_at rfl h) h ?_
    clear h
    intro v6 h
    refine cp_r (e := zI) (fun _ h => rF_X7_at (e_add rfl rfl) h) h ?_
    clear h
    intro v7 h
    refine cp_r (e := zI) (fun _ h => rF_X3_at (e_add rfl kz_1) h) h ?_
    clear h
    intro v8 h
    refine cp_r (e := zI) (fun _ h => rF_X7_at (e_add rfl rfl) h) h ?_
    clear h
    intro v9 h
    refine cp_r (e := zI) (fun _ h => rF_J9_abs_0f7a4 (e_sub rfl rfl) h) h ?_
    clear h
    intro v10 h
    refine lt_r (e_add rfl rfl) h ?_
    clear h
    intro v11 h
    refine lt_r (e_add rfl kz_1) h ?_
    clear h
    intro v12 h
    cases h
    exact congrArg some (congrArg Sum.inl (e_pair rfl rfl))
theorem rC_X3_roughness_3 {v1_ : Int32} {v1 : Int} (e_v1 : v1_ = zI v1) {v4_ : Int32} {v4 : Int} (e_v4 : v4_ = zI v4) {zr : Int} (h : GC_X3_roughness_3 v1 v4 = some zr) : C_X3_roughness_3 v1_ v4_ = some (zI zr) := by
  subst e_v1 e_v4
  unfold GC_X3_roughness_3 at h
  unfold C_X3_roughness_3
  obtain ⟨hr1, h⟩ := ck_e h
  refine lt_r (e_ite (c_eq rfl kz_m1 hr1 ir_m1) kz_m1 rfl) h ?_
  clear h
  intro v14 h
  cases h
  rfl
theorem rF_X3_roughness {a1_ : Int32} {a1 : Int} (e_a1 : a1_ = zI a1) {g : uZ} {zr : Int} (h : GF_X3_roughness a1 g = some zr) : F_X3_roughness a1_ (zS g) = some (zI zr) := by
  subst e_a1
  unfold GF_X3_roughness at h
  unfold F_X3_roughness
  refine cp_r (e := zI) (fun _ h => rF_X3_gapBehind rfl h) h ?_
  clear h
  intro v1 h
  refine lp_r em_0 zI (e_pair kz_0 kz_0) (fun q r h => rB_X3_roughness_2 rfl rfl rfl rfl h) h ?_
  clear h
  intro z h
  exact rC_X3_roughness_3 rfl rfl h
theorem rJ_X3_grasp_1 {v8_ : Int32} {v8 : Int} (e_v8 : v8_ = zI v8) {zr : Int} (h : GJ_X3_grasp_1 v8 = some zr) : J_X3_grasp_1 v8_ = some (zI zr) := by
  subst e_v8
  unfold GJ_X3_grasp_1 at h
  unfold J_X3_grasp_1
  cases h
  rfl
theorem rF_X3_grasp {a1_ : Int32} {a1 : Int} (e_a1 : a1_ = zI a1) {g : uZ} {zr : Int} (h : GF_X3_grasp a1 g = some zr) : F_X3_grasp a1_ (zS g) = some (zI zr) := by
  subst e_a1
  unfold GF_X3_grasp at h
  unfold F_X3_grasp
  refine cp_r (e := zI) (fun _ h => rF_X3_gapBehind rfl h) h ?_
  clear h
  intro v1 h
  obtain ⟨hr1, h⟩ := ck_e h
  refine ite_r (c_eq rfl kz_m1 hr1 ir_m1) h ?_ ?_
  · clear h
    intro h
    refine cp_r (e := zI) (fun _ h => rF_X3_gapBehind (e_sub rfl kz_1) h) h ?_
    clear h
    intro v3 h
    obtain ⟨hr2, h⟩ := ck_e h
    refine ite_r (c_eq rfl kz_m1 hr2 ir_m1) h ?_ ?_
    · clear h
      intro h
      refine cp_r (e := zI) (fun _ h => rF_X3_at rfl h) h ?_
      clear h
      intro v5 h
      refine cp_r (e := zI) (fun _ h => rF_X8_lagAtSample rfl h) h ?_
      clear h
      intro v6 h
      exact rJ_X3_grasp_1 rfl h
    · clear h
      intro h
      refine cp_r (e := zI) (fun _ h => rF_X3_gapBehind (e_sub rfl kz_1) h) h ?_
      clear h
      intro v7 h
      exact rJ_X3_grasp_1 rfl h
  · clear h
    intro h
    refine cp_r (e := zI) (fun _ h => rF_X3_gapBehind rfl h) h ?_
    clear h
    intro v9 h
    cases h
    rfl
theorem rJ_X3_renewed_2 {a1_ : Int32} {a1 : Int} (e_a1 : a1_ = zI a1) {a2_ : Int32} {a2 : Int} (e_a2 : a2_ = zI a2) {v15_ : Int32} {v15 : Int} (e_v15 : v15_ = zI v15) {w9_ : Int32} {w9 : Int} (e_w9 : w9_ = zI w9) {w10_ : Int32} {w10 : Int} (e_w10 : w10_ = zI w10) {g : uZ} {v22_ : Int32} {v22 : Int} (e_v22 : v22_ = zI v22) {zr : ((Int × (Int × Int)) ⊕ Int)} (h : GJ_X3_renewed_2 a1 a2 v15 w9 w10 g v22 = some zr) : J_X3_renewed_2 a1_ a2_ v15_ w9_ w10_ (zS g) v22_ = some (em_11 zr) := by
  subst e_a1 e_a2 e_v15 e_w9 e_w10 e_v22
  unfold GJ_X3_renewed_2 at h
  unfold J_X3_renewed_2
  refine cp_r (e := zI) (fun _ h => rF_X11_quotient (e_mul rfl rfl) rfl h) h ?_
  clear h
  intro v23 h
  refine cp_r (e := zI) (fun _ h => rF_J9_max_7cf53 kz_1 rfl h) h ?_
  clear h
  intro v24 h
  refine lt_r (e_add rfl rfl) h ?_
  clear h
  intro v25 h
  refine lt_r (e_add rfl kz_1) h ?_
  clear h
  intro v26 h
  cases h
  exact congrArg some (congrArg Sum.inl (e_pair rfl (e_pair rfl rfl)))
theorem rB_X3_renewed_3 {a1_ : Int32} {a1 : Int} (e_a1 : a1_ = zI a1) {a2_ : Int32} {a2 : Int} (e_a2 : a2_ = zI a2) {a3_ : Int32} {a3 : Int} (e_a3 : a3_ = zI a3) {v4_ : Int32} {v4 : Int} (e_v4 : v4_ = zI v4) {v5_ : Int32} {v5 : Int} (e_v5 : v5_ = zI v5) {v6_ : Int32} {v6 : Int} (e_v6 : v6_ = zI v6) {g : uZ} {w8_ : Int32} {w8 : Int} (e_w8 : w8_ = zI w8) {w9_ : Int32} {w9 : Int} (e_w9 : w9_ = zI w9) {w10_ : Int32} {w10 : Int} (e_w10 : w10_ = zI w10) {zr : ((Int × (Int × Int)) ⊕ Int)} (h : GB_X3_renewed_3 a1 a2 a3 v4 v5 v6 g w8 w9 w10 = some zr) : B_X3_renewed_3 a1_ a2_ a3_ v4_ v5_ v6_ (zS g) w8_ w9_ w10_ = some (em_11 zr) := by
  subst e_a1 e_a2 e_a3 e_v4 e_v5 e_v6 e_w8 e_w9 e_w10
  unfold GB_X3_renewed_3 at h
  unfold B_X3_renewed_3
  obtain ⟨hr1, h⟩ := ck_e h
  refine ite_r (c_le kz_800 rfl ir_800 hr1) h ?_ ?_
  · clear h
    intro h
    cases h
    exact congrArg some (congrArg Sum.inr rfl)
  · clear h
    intro h
    obtain ⟨hr2, h⟩ := ck_e h
    obtain ⟨hr3, h⟩ := ck_e h
    refine ite_r (c_le rfl rfl hr2 hr3) h ?_ ?_
    · clear h
      intro h
      cases h
      exact congrArg some (congrArg Sum.inr rfl)
    · clear h
      intro h
      refine cp_r (e := zI) (fun _ h => rF_X3_nearest rfl rfl rfl h) h ?_
      clear h
      intro v14 h
      refine cp_r (e := zI) (fun _ h => rF_X3_grasp rfl h) h ?_
      clear h
      intro v15 h
      refine cp_r (e := zI) (fun _ h => rF_J9_abs_0f7a4 (e_sub rfl rfl) h) h ?_
      clear h
      intro v16 h
      obtain ⟨hr4, h⟩ := ck_e h
      obtain ⟨hr5, h⟩ := ck_e h
      refine ite_r (c_le rfl rfl hr4 hr5) h ?_ ?_
      · clear h
        intro h
        exact rJ_X3_renewed_2 rfl rfl rfl rfl rfl rfl h
      · clear h
        intro h
        refine cp_r (e := zI) (fun _ h => rF_X3_at rfl h) h ?_
        clear h
        intro v18 h
        refine cp_r (e := zI) (fun _ h => rF_X7_at (e_sub (e_add rfl rfl) rfl) h) h ?_
        clear h
        intro v19 h
        refine cp_r (e := zI) (fun _ h => rF_X11_quotient (e_mul rfl (e_sub rfl rfl)) rfl h) h ?_
        clear h
        intro v20 h
        refine lt_r (e_add rfl rfl) h ?_
        clear h
        intro v21 h
        exact rJ_X3_renewed_2 rfl rfl rfl rfl rfl rfl h
theorem rC_X3_renewed_4 {v11_ : Int32} {v11 : Int} (e_v11 : v11_ = zI v11) {zr : Int} (h : GC_X3_renewed_4 v11 = some zr) : C_X3_renewed_4 v11_ = some (zI zr) := by
  subst e_v11
  unfold GC_X3_renewed_4 at h
  unfold C_X3_renewed_4
  cases h
  rfl
theorem rF_X3_renewed {a1_ : Int32} {a1 : Int} (e_a1 : a1_ = zI a1) {a2_ : Int32} {a2 : Int} (e_a2 : a2_ = zI a2) {a3_ : Int32} {a3 : Int} (e_a3 : a3_ = zI a3) {g : uZ} {zr : Int} (h : GF_X3_renewed a1 a2 a3 g = some zr) : F_X3_renewed a1_ a2_ a3_ (zS g) = some (zI zr) := by
  subst e_a1 e_a2 e_a3
  unfold GF_X3_renewed at h
  unfold F_X3_renewed
  refine cp_r (e := zI) (fun _ h => rF_X8_ofSample rfl h) h ?_
  clear h
  intro v1 h
  refine cp_r (e := zI) (fun _ h => rF_X8_isVoiced rfl h) h ?_
  clear h
  intro v2 h
  obtain ⟨hr1, h⟩ := ck_e h
  refine ite_r (c_eq rfl kz_0 hr1 ir_0) h ?_ ?_
  · clear h
    intro h
    refine cp_r (e := zI) (fun _ h => rF_X7_at rfl h) h ?_
    clear h
    intro v27 h
    cases h
    rfl
  · clear h
    intro h
    refine rd_r (Nat.le_of_ble_eq_true rfl) rfl h ?_
    clear h
    intro v4 h
    refine rd_r (Nat.le_of_ble_eq_true rfl) (e_add rfl kz_1) h ?_
    clear h
    intro v5 h
    refine cp_r (e := zI) (fun _ h => rF_X8_to rfl h) h ?_
    clear h
    intro v6 h
    refine cp_r (e := zI) (fun _ h => rF_X3_at rfl h) h ?_
    clear h
    intro v7 h
    refine lp_r em_9 zI (e_pair kz_0 (e_pair rfl kz_0)) (fun q r h => rB_X3_renewed_3 rfl rfl rfl rfl rfl rfl rfl rfl rfl h) h ?_
    clear h
    intro z h
    exact rC_X3_renewed_4 rfl h
theorem rF_X10_size {g : uZ} {zr : Int} (h : GF_X10_size g = some zr) : F_X10_size (zS g) = some (zI zr) := by
  unfold GF_X10_size at h
  unfold F_X10_size
  cases h
  rfl
theorem rF_X10_hasRoom {g : uZ} {zr : Int} (h : GF_X10_hasRoom g = some zr) : F_X10_hasRoom (zS g) = some (zI zr) := by
  unfold GF_X10_hasRoom at h
  unfold F_X10_hasRoom
  obtain ⟨hr1, h⟩ := ck_e h
  refine lt_r (e_ite (c_le kz_12 rfl ir_12 hr1) kz_0 kz_1) h ?_
  clear h
  intro v2 h
  refine bz_r rfl h ?_
  clear h
  intro h
  cases h
  rfl
theorem rJ_X10_add_1 {g5 : uZ} {zr : uZ} (h : GJ_X10_add_1 g5 = some zr) : J_X10_add_1 (zS g5) = some (zS zr) := by
  unfold GJ_X10_add_1 at h
  unfold J_X10_add_1
  cases h
  rfl
theorem rF_X10_add {a1_ : Int32} {a1 : Int} (e_a1 : a1_ = zI a1) {g : uZ} {zr : uZ} (h : GF_X10_add a1 g = some zr) : F_X10_add a1_ (zS g) = some (zS zr) := by
  subst e_a1
  unfold GF_X10_add at h
  unfold F_X10_add
  refine cp_r (e := zI) (fun _ h => rF_X10_hasRoom h) h ?_
  clear h
  intro v1 h
  obtain ⟨hr1, h⟩ := ck_e h
  refine ite_r (c_eq rfl kz_0 hr1 ir_0) h ?_ ?_
  · clear h
    intro h
    exact rJ_X10_add_1 h
  · clear h
    intro h
    refine wr_r (Nat.le_of_ble_eq_true rfl) rfl rfl h ?_
    clear h
    intro g3 h
    refine pf_r (e_add rfl kz_1) h ?_
    clear h
    intro g4 h
    exact rJ_X10_add_1 h
theorem rF_X10_clear {g : uZ} {zr : uZ} (h : GF_X10_clear g = some zr) : F_X10_clear (zS g) = some (zS zr) := by
  unfold GF_X10_clear at h
  unfold F_X10_clear
  refine pf_r kz_0 h ?_
  clear h
  intro g1 h
  cases h
  rfl
theorem rF_X10_price {g : uZ} {zr : Int} (h : GF_X10_price g = some zr) : F_X10_price (zS g) = some (zI zr) := by
  unfold GF_X10_price at h
  unfold F_X10_price
  refine rd_r (Nat.le_of_ble_eq_true rfl) kz_0 h ?_
  clear h
  intro v1 h
  cases h
  rfl
theorem rB_X10_pairs_2 {g : uZ} {w1_ : Int32} {w1 : Int} (e_w1 : w1_ = zI w1) {w2_ : Int32} {w2 : Int} (e_w2 : w2_ = zI w2) {zr : ((Int × Int) ⊕ Int)} (h : GB_X10_pairs_2 g w1 w2 = some zr) : B_X10_pairs_2 (zS g) w1_ w2_ = some (em_1 zr) := by
  subst e_w1 e_w2
  unfold GB_X10_pairs_2 at h
  unfold B_X10_pairs_2
  obtain ⟨hr1, h⟩ := ck_e h
  obtain ⟨hr2, h⟩ := ck_e h
  refine ite_r (c_le rfl rfl hr1 hr2) h ?_ ?_
  · clear h
    intro h
    cases h
    exact congrArg some (congrArg Sum.inr rfl)
  · clear h
    intro h
    refine rd_r (Nat.le_of_ble_eq_true rfl) rfl h ?_
    clear h
    intro v5 h
    obtain ⟨hr3, h⟩ := ck_e h
    refine lt_r (e_ite (c_eq rfl kz_m1 hr3 ir_m1) kz_0 kz_1) h ?_
    clear h
    intro v7 h
    refine lt_r (e_add rfl rfl) h ?_
    clear h
    intro v8 h
    refine lt_r (e_add rfl kz_1) h ?_
    clear h
    intro v9 h
    cases h
    exact congrArg some (congrArg Sum.inl (e_pair rfl rfl))
theorem rC_X10_pairs_3 {v3_ : Int32} {v3 : Int} (e_v3 : v3_ = zI v3) {zr : Int} (h : GC_X10_pairs_3 v3 = some zr) : C_X10_pairs_3 v3_ = some (zI zr) := by
  subst e_v3
  unfold GC_X10_pairs_3 at h
  unfold C_X10_pairs_3
  cases h
  rfl
theorem rF_X10_pairs {g : uZ} {zr : Int} (h : GF_X10_pairs g = some zr) : F_X10_pairs (zS g) = some (zI zr) := by
  unfold GF_X10_pairs at h
  unfold F_X10_pairs
  refine lp_r em_0 zI (e_pair kz_0 kz_0) (fun q r h => rB_X10_pairs_2 rfl rfl h) h ?_
  clear h
  intro z h
  exact rC_X10_pairs_3 rfl h
theorem rJ_X10_pairOf_2 {v4_ : Int32} {v4 : Int} (e_v4 : v4_ = zI v4) {zr : Int} (h : GJ_X10_pairOf_2 v4 = some zr) : J_X10_pairOf_2 v4_ = some (zI zr) := by
  subst e_v4
  unfold GJ_X10_pairOf_2 at h
  unfold J_X10_pairOf_2
  cases h
  rfl
theorem rJ_X10_pairOf_1 {zr : Int} (h : GJ_X10_pairOf_1 = some zr) : J_X10_pairOf_1 = some (zI zr) := by
  unfold GJ_X10_pairOf_1 at h
  unfold J_X10_pairOf_1
  exact rJ_X10_pairOf_2 kz_m1 h
theorem rF_X10_pairOf {a1_ : Int32} {a1 : Int} (e_a1 : a1_ = zI a1) {g : uZ} {zr : Int} (h : GF_X10_pairOf a1 g = some zr) : F_X10_pairOf a1_ (zS g) = some (zI zr) := by
  subst e_a1
  unfold GF_X10_pairOf at h
  unfold F_X10_pairOf
  obtain ⟨hr1, h⟩ := ck_e h
  refine ite_r (c_lt rfl kz_0 hr1 ir_0) h ?_ ?_
  · clear h
    intro h
    exact rJ_X10_pairOf_1 h
  · clear h
    intro h
    obtain ⟨hr2, h⟩ := ck_e h
    refine ite_r (c_lt rfl rfl hr1 hr2) h ?_ ?_
    · clear h
      intro h
      refine rd_r (Nat.le_of_ble_eq_true rfl) rfl h ?_
      clear h
      intro v3 h
      exact rJ_X10_pairOf_2 rfl h
    · clear h
      intro h
      exact rJ_X10_pairOf_1 h
theorem rF_X10_pairPrice {a1_ : Int32} {a1 : Int} (e_a1 : a1_ = zI a1) {a2_ : Int32} {a2 : Int} (e_a2 : a2_ = zI a2) {g : uZ} {zr : Int} (h : GF_X10_pairPrice a1 a2 g = some zr) : F_X10_pairPrice a1_ a2_ (zS g) = some (zI zr) := by
  subst e_a1 e_a2
  unfold GF_X10_pairPrice at h
  unfold F_X10_pairPrice
  refine rd_r (Nat.le_of_ble_eq_true rfl) rfl h ?_
  clear h
  intro v1 h
  refine cp_r (e := zI) (fun _ h => rF_X4_lagOf rfl h) h ?_
  clear h
  intro v2 h
  refine cp_r (e := zI) (fun _ h => rF_J9_abs_0f7a4 (e_sub rfl rfl) h) h ?_
  clear h
  intro v3 h
  cases h
  exact congrArg some (e_mul kz_10 rfl)
theorem rJ_X10_findLeast_3 {w5_ : Int32} {w5 : Int} (e_w5 : w5_ = zI w5) {w9_ : Int32} {w9 : Int} (e_w9 : w9_ = zI w9) {g10 : uZ} {v27_ : Int32} {v27 : Int} (e_v27 : v27_ = zI v27) {zr : ((Int × uZ) ⊕ uZ)} (h : GJ_X10_findLeast_3 w5 w9 g10 v27 = some zr) : J_X10_findLeast_3 w5_ w9_ (zS g10) v27_ = some (em_3 zr) := by
  subst e_w5 e_w9 e_v27
  unfold GJ_X10_findLeast_3 at h
  unfold J_X10_findLeast_3
  refine wr_r (Nat.le_of_ble_eq_true rfl) (e_add (e_mul rfl kz_101) rfl) rfl h ?_
  clear h
  intro g28 h
  refine lt_r (e_add rfl kz_m1) h ?_
  clear h
  intro v29 h
  cases h
  exact congrArg some (congrArg Sum.inl (e_pair rfl rfl))
theorem rJ_X10_findLeast_4 {v3_ : Int32} {v3 : Int} (e_v3 : v3_ = zI v3) {w5_ : Int32} {w5 : Int} (e_w5 : w5_ = zI w5) {w9_ : Int32} {w9 : Int} (e_w9 : w9_ = zI w9) {g10 : uZ} {v21_ : Int32} {v21 : Int} (e_v21 : v21_ = zI v21) {zr : ((Int × uZ) ⊕ uZ)} (h : GJ_X10_findLeast_4 v3 w5 w9 g10 v21 = some zr) : J_X10_findLeast_4 v3_ w5_ w9_ (zS g10) v21_ = some (em_3 zr) := by
  subst e_v3 e_w5 e_w9 e_v21
  unfold GJ_X10_findLeast_4 at h
  unfold J_X10_findLeast_4
  obtain ⟨hr1, h⟩ := ck_e h
  obtain ⟨hr2, h⟩ := ck_e h
  refine ite_r (c_le rfl rfl hr1 hr2) h ?_ ?_
  · clear h
    intro h
    exact rJ_X10_findLeast_3 rfl rfl rfl h
  · clear h
    intro h
    obtain ⟨hr3, h⟩ := ck_e h
    obtain ⟨hr4, h⟩ := ck_e h
    refine ite_r (c_le rfl rfl hr3 hr4) h ?_ ?_
    · clear h
      intro h
      exact rJ_X10_findLeast_3 rfl rfl rfl h
    · clear h
      intro h
      refine cp_r (e := zI) (fun _ h => rF_X10_pairPrice rfl rfl h) h ?_
      clear h
      intro v24 h
      refine rd_r (Nat.le_of_ble_eq_true rfl) (e_add (e_add (e_mul (e_add rfl kz_1) kz_101) rfl) kz_1) h ?_
      clear h
      intro v25 h
      refine cp_r (e := zI) (fun _ h => rF_J9_min_7cf53 rfl (e_add rfl rfl) h) h ?_
      clear h
      intro v26 h
      exact rJ_X10_findLeast_3 rfl rfl rfl h
theorem rJ_X10_findLeast_5 {v1_ : Int32} {v1 : Int} (e_v1 : v1_ = zI v1) {v3_ : Int32} {v3 : Int} (e_v3 : v3_ = zI v3) {w5_ : Int32} {w5 : Int} (e_w5 : w5_ = zI w5) {w9_ : Int32} {w9 : Int} (e_w9 : w9_ = zI w9) {g10 : uZ} {v17_ : Int32} {v17 : Int} (e_v17 : v17_ = zI v17) {zr : ((Int × uZ) ⊕ uZ)} (h : GJ_X10_findLeast_5 v1 v3 w5 w9 g10 v17 = some zr) : J_X10_findLeast_5 v1_ v3_ w5_ w9_ (zS g10) v17_ = some (em_3 zr) := by
  subst e_v1 e_v3 e_w5 e_w9 e_v17
  unfold GJ_X10_findLeast_5 at h
  unfold J_X10_findLeast_5
  obtain ⟨hr1, h⟩ := ck_e h
  obtain ⟨hr2, h⟩ := ck_e h
  refine ite_r (c_le rfl rfl hr1 hr2) h ?_ ?_
  · clear h
    intro h
    exact rJ_X10_findLeast_4 rfl rfl rfl rfl h
  · clear h
    intro h
    refine rd_r (Nat.le_of_ble_eq_true rfl) (e_add (e_add (e_mul rfl kz_101) rfl) kz_1) h ?_
    clear h
    intro v19 h
    refine cp_r (e := zI) (fun _ h => rF_J9_min_7cf53 rfl (e_add rfl rfl) h) h ?_
    clear h
    intro v20 h
    exact rJ_X10_findLeast_4 rfl rfl rfl rfl h
theorem rB_X10_findLeast_6 {v1_ : Int32} {v1 : Int} (e_v1 : v1_ = zI v1) {v3_ : Int32} {v3 : Int} (e_v3 : v3_ = zI v3) {w5_ : Int32} {w5 : Int} (e_w5 : w5_ = zI w5) {w9_ : Int32} {w9 : Int} (e_w9 : w9_ = zI w9) {g10 : uZ} {zr : ((Int × uZ) ⊕ uZ)} (h : GB_X10_findLeast_6 v1 v3 w5 w9 g10 = some zr) : B_X10_findLeast_6 v1_ v3_ w5_ w9_ (zS g10) = some (em_3 zr) := by
  subst e_v1 e_v3 e_w5 e_w9
  unfold GB_X10_findLeast_6 at h
  unfold B_X10_findLeast_6
  obtain ⟨hr1, h⟩ := ck_e h
  refine ite_r (c_lt rfl kz_0 hr1 ir_0) h ?_ ?_
  · clear h
    intro h
    cases h
    exact congrArg some (congrArg Sum.inr rfl)
  · clear h
    intro h
    refine lt_r (e_mul rfl (e_sub (e_add (e_sub rfl rfl) rfl) rfl)) h ?_
    clear h
    intro v13 h
    obtain ⟨hr2, h⟩ := ck_e h
    obtain ⟨hr3, h⟩ := ck_e h
    refine ite_r (c_le rfl rfl hr2 hr3) h ?_ ?_
    · clear h
      intro h
      exact rJ_X10_findLeast_5 rfl rfl rfl rfl rfl h
    · clear h
      intro h
      refine rd_r (Nat.le_of_ble_eq_true rfl) (e_add (e_mul (e_add rfl kz_1) kz_101) rfl) h ?_
      clear h
      intro v15 h
      refine cp_r (e := zI) (fun _ h => rF_J9_min_7cf53 rfl (e_add rfl rfl) h) h ?_
      clear h
      intro v16 h
      exact rJ_X10_findLeast_5 rfl rfl rfl rfl rfl h
theorem rC_X10_findLeast_7 {w5_ : Int32} {w5 : Int} (e_w5 : w5_ = zI w5) {g11 : uZ} {zr : ((Int × uZ) ⊕ uZ)} (h : GC_X10_findLeast_7 w5 g11 = some zr) : C_X10_findLeast_7 w5_ (zS g11) = some (em_3 zr) := by
  subst e_w5
  unfold GC_X10_findLeast_7 at h
  unfold C_X10_findLeast_7
  refine lt_r (e_add rfl kz_m1) h ?_
  clear h
  intro v30 h
  cases h
  exact congrArg some (congrArg Sum.inl (e_pair rfl rfl))
theorem rB_X10_findLeast_8 {v1_ : Int32} {v1 : Int} (e_v1 : v1_ = zI v1) {v3_ : Int32} {v3 : Int} (e_v3 : v3_ = zI v3) {w5_ : Int32} {w5 : Int} (e_w5 : w5_ = zI w5) {g6 : uZ} {zr : ((Int × uZ) ⊕ uZ)} (h : GB_X10_findLeast_8 v1 v3 w5 g6 = some zr) : B_X10_findLeast_8 v1_ v3_ w5_ (zS g6) = some (em_3 zr) := by
  subst e_v1 e_v3 e_w5
  unfold GB_X10_findLeast_8 at h
  unfold B_X10_findLeast_8
  obtain ⟨hr1, h⟩ := ck_e h
  refine ite_r (c_lt rfl kz_0 hr1 ir_0) h ?_ ?_
  · clear h
    intro h
    cases h
    exact congrArg some (congrArg Sum.inr rfl)
  · clear h
    intro h
    refine lp_r em_2 zS (e_pair rfl rfl) (fun q r h => rB_X10_findLeast_6 rfl rfl rfl rfl h) h ?_
    clear h
    intro z h
    exact rC_X10_findLeast_7 rfl h
theorem rC_X10_findLeast_9 {g7 : uZ} {zr : uZ} (h : GC_X10_findLeast_9 g7 = some zr) : C_X10_findLeast_9 (zS g7) = some (zS zr) := by
  unfold GC_X10_findLeast_9 at h
  unfold C_X10_findLeast_9
  cases h
  rfl
theorem rF_X10_findLeast {g : uZ} {zr : uZ} (h : GF_X10_findLeast g = some zr) : F_X10_findLeast (zS g) = some (zS zr) := by
  unfold GF_X10_findLeast at h
  unfold F_X10_findLeast
  refine cp_r (e := zI) (fun _ h => rF_X0_of kz_15 h) h ?_
  clear h
  intro v1 h
  refine cp_r (e := zI) (fun _ h => rF_X4_size h) h ?_
  clear h
  intro v2 h
  refine cp_r (e := zI) (fun _ h => rF_J9_min_7cf53 kz_100 rfl h) h ?_
  clear h
  intro v3 h
  refine lt_r rfl h ?_
  clear h
  intro v4 h
  refine lp_r em_2 zS (e_pair rfl rfl) (fun q r h => rB_X10_findLeast_8 rfl rfl rfl h) h ?_
  clear h
  intro z h
  exact rC_X10_findLeast_9 h
theorem rB_X10_firstPair_2 {a1_ : Int32} {a1 : Int} (e_a1 : a1_ = zI a1) {a2_ : Int32} {a2 : Int} (e_a2 : a2_ = zI a2) {v1_ : Int32} {v1 : Int} (e_v1 : v1_ = zI v1) {v3_ : Int32} {v3 : Int} (e_v3 : v3_ = zI v3) {g : uZ} {w4_ : Int32} {w4 : Int} (e_w4 : w4_ = zI w4) {zr : (Int ⊕ (Unit ⊕ Int))} (h : GB_X10_firstPair_2 a1 a2 v1 v3 g w4 = some zr) : B_X10_firstPair_2 a1_ a2_ v1_ v3_ (zS g) w4_ = some (em_8 zr) := by
  subst e_a1 e_a2 e_v1 e_v3 e_w4
  unfold GB_X10_firstPair_2 at h
  unfold B_X10_firstPair_2
  obtain ⟨hr1, h⟩ := ck_e h
  obtain ⟨hr2, h⟩ := ck_e h
  refine ite_r (c_le rfl rfl hr1 hr2) h ?_ ?_
  · clear h
    intro h
    cases h
    exact congrArg some (congrArg Sum.inr (congrArg Sum.inl rfl))
  · clear h
    intro h
    refine cp_r (e := zI) (fun _ h => rF_X10_pairPrice rfl rfl h) h ?_
    clear h
    intro v6 h
    refine rd_r (Nat.le_of_ble_eq_true rfl) (e_add (e_add (e_mul (e_add rfl kz_1) kz_101) rfl) kz_1) h ?_
    clear h
    intro v7 h
    refine lt_r (e_add (e_add (e_mul rfl (e_sub rfl rfl)) rfl) rfl) h ?_
    clear h
    intro v8 h
    refine rd_r (Nat.le_of_ble_eq_true rfl) (e_add (e_mul rfl kz_101) rfl) h ?_
    clear h
    intro v9 h
    obtain ⟨hr3, h⟩ := ck_e h
    obtain ⟨hr4, h⟩ := ck_e h
    refine ite_r (c_eq rfl rfl hr3 hr4) h ?_ ?_
    · clear h
      intro h
      cases h
      exact congrArg some (congrArg Sum.inr (congrArg Sum.inr rfl))
    · clear h
      intro h
      refine lt_r (e_add rfl kz_1) h ?_
      clear h
      intro v11 h
      cases h
      exact congrArg some (congrArg Sum.inl rfl)
theorem rC_X10_firstPair_3 {zr : Int} (h : GC_X10_firstPair_3 = some zr) : C_X10_firstPair_3 = some (zI zr) := by
  unfold GC_X10_firstPair_3 at h
  unfold C_X10_firstPair_3
  cases h
  exact congrArg some kz_m1
theorem rF_X10_firstPair {a1_ : Int32} {a1 : Int} (e_a1 : a1_ = zI a1) {a2_ : Int32} {a2 : Int} (e_a2 : a2_ = zI a2) {g : uZ} {zr : Int} (h : GF_X10_firstPair a1 a2 g = some zr) : F_X10_firstPair a1_ a2_ (zS g) = some (zI zr) := by
  subst e_a1 e_a2
  unfold GF_X10_firstPair at h
  unfold F_X10_firstPair
  refine cp_r (e := zI) (fun _ h => rF_X0_of kz_15 h) h ?_
  clear h
  intro v1 h
  refine cp_r (e := zI) (fun _ h => rF_X4_size h) h ?_
  clear h
  intro v2 h
  refine cp_r (e := zI) (fun _ h => rF_J9_min_7cf53 kz_100 rfl h) h ?_
  clear h
  intro v3 h
  refine lp_r zI em_7 rfl (fun q r h => rB_X10_firstPair_2 rfl rfl rfl rfl rfl h) h ?_
  clear h
  intro z h
  rcases z with z | z
  · exact rC_X10_firstPair_3 h
  · cases h
    rfl
theorem rJ_X10_findPairs_2 {w3_ : Int32} {w3 : Int} (e_w3 : w3_ = zI w3) {g8 : uZ} {v12_ : Int32} {v12 : Int} (e_v12 : v12_ = zI v12) {zr : ((Int × (Int × uZ)) ⊕ uZ)} (h : GJ_X10_findPairs_2 w3 g8 v12 = some zr) : J_X10_findPairs_2 w3_ (zS g8) v12_ = some (em_5 zr) := by
  subst e_w3 e_v12
  unfold GJ_X10_findPairs_2 at h
  unfold J_X10_findPairs_2
  refine lt_r (e_add rfl kz_1) h ?_
  clear h
  intro v13 h
  cases h
  exact congrArg some (congrArg Sum.inl (e_pair rfl (e_pair rfl rfl)))
theorem rB_X10_findPairs_3 {w2_ : Int32} {w2 : Int} (e_w2 : w2_ = zI w2) {w3_ : Int32} {w3 : Int} (e_w3 : w3_ = zI w3) {g4 : uZ} {zr : ((Int × (Int × uZ)) ⊕ uZ)} (h : GB_X10_findPairs_3 w2 w3 g4 = some zr) : B_X10_findPairs_3 w2_ w3_ (zS g4) = some (em_5 zr) := by
  subst e_w2 e_w3
  unfold GB_X10_findPairs_3 at h
  unfold B_X10_findPairs_3
  obtain ⟨hr1, h⟩ := ck_e h
  obtain ⟨hr2, h⟩ := ck_e h
  refine ite_r (c_le rfl rfl hr1 hr2) h ?_ ?_
  · clear h
    intro h
    cases h
    exact congrArg some (congrArg Sum.inr rfl)
  · clear h
    intro h
    refine cp_r (e := zI) (fun _ h => rF_X10_firstPair rfl rfl h) h ?_
    clear h
    intro v7 h
    refine wr_r (Nat.le_of_ble_eq_true rfl) rfl rfl h ?_
    clear h
    intro g8 h
    refine rd_r (Nat.le_of_ble_eq_true rfl) rfl h ?_
    clear h
    intro v9 h
    obtain ⟨hr3, h⟩ := ck_e h
    refine ite_r (c_eq rfl kz_m1 hr3 ir_m1) h ?_ ?_
    · clear h
      intro h
      exact rJ_X10_findPairs_2 rfl rfl h
    · clear h
      intro h
      refine rd_r (Nat.le_of_ble_eq_true rfl) rfl h ?_
      clear h
      intro v11 h
      exact rJ_X10_findPairs_2 rfl (e_add rfl kz_1) h
theorem rC_X10_findPairs_4 {g5 : uZ} {zr : uZ} (h : GC_X10_findPairs_4 g5 = some zr) : C_X10_findPairs_4 (zS g5) = some (zS zr) := by
  unfold GC_X10_findPairs_4 at h
  unfold C_X10_findPairs_4
  cases h
  rfl
theorem rF_X10_findPairs {g : uZ} {zr : uZ} (h : GF_X10_findPairs g = some zr) : F_X10_findPairs (zS g) = some (zS zr) := by
  unfold GF_X10_findPairs at h
  unfold F_X10_findPairs
  refine cp_r (e := zS) (fun _ h => rF_X10_findLeast h) h ?_
  clear h
  intro g1 h
  refine lp_r em_4 zS (e_pair kz_0 (e_pair kz_0 rfl)) (fun q r h => rB_X10_findPairs_3 rfl rfl h) h ?_
  clear h
  intro z h
  exact rC_X10_findPairs_4 h
theorem rF_X11_feed {a1_ : Int32} {a1 : Int} (e_a1 : a1_ = zI a1) {a2_ : Int32} {a2 : Int} (e_a2 : a2_ = zI a2) {a3_ : Int32} {a3 : Int} (e_a3 : a3_ = zI a3) {a4_ : Int32} {a4 : Int} (e_a4 : a4_ = zI a4) {a5_ : Int32} {a5 : Int} (e_a5 : a5_ = zI a5) {g : uZ} {zr : (Int × uZ)} (h : GF_X11_feed a1 a2 a3 a4 a5 g = some zr) : F_X11_feed a1_ a2_ a3_ a4_ a5_ (zS g) = some (em_2 zr) := by
  subst e_a1 e_a2 e_a3 e_a4 e_a5
  unfold GF_X11_feed at h
  unfold F_X11_feed
  refine cp_r (e := zI) (fun _ h => rF_X7_tapeSize h) h ?_
  clear h
  intro v1 h
  obtain ⟨hr1, h⟩ := ck_e h
  refine ite_r (c_le (e_add rfl kz_20) kz_400 hr1 ir_400) h ?_ ?_
  · clear h
    intro h
    refine cp_r (e := zS) (fun _ h => rF_X7_tapeNumber rfl h) h ?_
    clear h
    intro g3 h
    refine cp_r (e := zS) (fun _ h => rF_X7_tapeNumber rfl h) h ?_
    clear h
    intro g4 h
    refine cp_r (e := zS) (fun _ h => rF_X7_tapeNumber rfl h) h ?_
    clear h
    intro g5 h
    refine cp_r (e := zS) (fun _ h => rF_X7_tapeNumber rfl h) h ?_
    clear h
    intro g6 h
    refine cp_r (e := zS) (fun _ h => rF_X7_tapeNumber rfl h) h ?_
    clear h
    intro g7 h
    refine cp_r (e := zI) (fun _ h => rF_X7_tapeSize h) h ?_
    clear h
    intro v8 h
    cases h
    exact congrArg some (e_pair rfl rfl)
  · clear h
    intro h
    cases h
    exact congrArg some (e_pair kz_m1 rfl)
theorem rF_X11_forgetAnswers {g : uZ} {zr : uZ} (h : GF_X11_forgetAnswers g = some zr) : F_X11_forgetAnswers (zS g) = some (zS zr) := by
  unfold GF_X11_forgetAnswers at h
  unfold F_X11_forgetAnswers
  refine pf_r kz_0 h ?_
  clear h
  intro g1 h
  refine pf_r kz_0 h ?_
  clear h
  intro g2 h
  refine pf_r kz_0 h ?_
  clear h
  intro g3 h
  cases h
  rfl
theorem rF_X11_changedFrom {a1_ : Int32} {a1 : Int} (e_a1 : a1_ = zI a1) {a2_ : Int32} {a2 : Int} (e_a2 : a2_ = zI a2) {g : uZ} {zr : (Int × uZ)} (h : GF_X11_changedFrom a1 a2 g = some zr) : F_X11_changedFrom a1_ a2_ (zS g) = some (em_2 zr) := by
  subst e_a1 e_a2
  unfold GF_X11_changedFrom at h
  unfold F_X11_changedFrom
  refine cp_r (e := zS) (fun _ h => rF_X2_forgetThose rfl rfl h) h ?_
  clear h
  intro g1 h
  refine cp_r (e := zS) (fun _ h => rF_X11_forgetAnswers h) h ?_
  clear h
  intro g2 h
  refine cp_r (e := zI) (fun _ h => rF_X7_size h) h ?_
  clear h
  intro v3 h
  cases h
  exact congrArg some (e_pair rfl rfl)
theorem rJ_X11_samples_1 {g : uZ} {zr : (Int × uZ)} (h : GJ_X11_samples_1 g = some zr) : J_X11_samples_1 (zS g) = some (em_2 zr) := by
  unfold GJ_X11_samples_1 at h
  unfold J_X11_samples_1
  cases h
  exact congrArg some (e_pair kz_m1000 rfl)
theorem rF_X11_samples {a1_ : Int32} {a1 : Int} (e_a1 : a1_ = zI a1) {g : uZ} {zr : (Int × uZ)} (h : GF_X11_samples a1 g = some zr) : F_X11_samples a1_ (zS g) = some (em_2 zr) := by
  subst e_a1
  unfold GF_X11_samples at h
  unfold F_X11_samples
  obtain ⟨hr1, h⟩ := ck_e h
  refine ite_r (c_lt rfl kz_0 hr1 ir_0) h ?_ ?_
  · clear h
    intro h
    exact rJ_X11_samples_1 h
  · clear h
    intro h
    refine cp_r (e := zI) (fun _ h => rF_X7_tapeSize h) h ?_
    clear h
    intro v2 h
    obtain ⟨hr2, h⟩ := ck_e h
    refine ite_r (c_lt rfl rfl hr2 hr1) h ?_ ?_
    · clear h
      intro h
      exact rJ_X11_samples_1 h
    · clear h
      intro h
      refine cp_r (e := zI) (fun _ h => rF_X7_hasRoom rfl h) h ?_
      clear h
      intro v4 h
      obtain ⟨hr3, h⟩ := ck_e h
      refine ite_r (c_eq rfl kz_0 hr3 ir_0) h ?_ ?_
      · clear h
        intro h
        exact rJ_X11_samples_1 h
      · clear h
        intro h
        refine cp_r (e := zI) (fun _ h => rF_X7_size h) h ?_
        clear h
        intro v6 h
        refine cp_r (e := zS) (fun _ h => rF_X7_appendFromTape rfl h) h ?_
        clear h
        intro g7 h
        refine cp_r (e := zI) (fun _ h => rF_X7_size h) h ?_
        clear h
        intro v8 h
        refine cl_r (fun _ _ h => rF_X11_changedFrom rfl rfl h) h ?_
        clear h
        intro v10 g9 h
        cases h
        exact congrArg some (e_pair rfl rfl)
theorem rJ_X11_isHeight_2 {v3_ : Int32} {v3 : Int} (e_v3 : v3_ = zI v3) {zr : Int} (h : GJ_X11_isHeight_2 v3 = some zr) : J_X11_isHeight_2 v3_ = some (zI zr) := by
  subst e_v3
  unfold GJ_X11_isHeight_2 at h
  unfold J_X11_isHeight_2
  refine bz_r rfl h ?_
  clear h
  intro h
  cases h
  rfl
theorem rJ_X11_isHeight_1 {zr : Int} (h : GJ_X11_isHeight_1 = some zr) : J_X11_isHeight_1 = some (zI zr) := by
  unfold GJ_X11_isHeight_1 at h
  unfold J_X11_isHeight_1
  exact rJ_X11_isHeight_2 kz_0 h
theorem rF_X11_isHeight {a1_ : Int32} {a1 : Int} (e_a1 : a1_ = zI a1) {g : uZ} {zr : Int} (h : GF_X11_isHeight a1 g = some zr) : F_X11_isHeight a1_ (zS g) = some (zI zr) := by
  subst e_a1
  unfold GF_X11_isHeight at h
  unfold F_X11_isHeight
  obtain ⟨hr1, h⟩ := ck_e h
  refine ite_r (c_lt rfl kz_0 hr1 ir_0) h ?_ ?_
  · clear h
    intro h
    exact rJ_X11_isHeight_1 h
  · clear h
    intro h
    refine ite_r (c_lt kz_127 rfl ir_127 hr1) h ?_ ?_
    · clear h
      intro h
      exact rJ_X11_isHeight_1 h
    · clear h
      intro h
      exact rJ_X11_isHeight_2 kz_1 h
theorem rB_X11_cycles_3 {a1_ : Int32} {a1 : Int} (e_a1 : a1_ = zI a1) {a2_ : Int32} {a2 : Int} (e_a2 : a2_ = zI a2) {w14_ : Int32} {w14 : Int} (e_w14 : w14_ = zI w14) {g15 : uZ} {zr : ((Int × uZ) ⊕ uZ)} (h : GB_X11_cycles_3 a1 a2 w14 g15 = some zr) : B_X11_cycles_3 a1_ a2_ w14_ (zS g15) = some (em_3 zr) := by
  subst e_a1 e_a2 e_w14
  unfold GB_X11_cycles_3 at h
  unfold B_X11_cycles_3
  obtain ⟨hr1, h⟩ := ck_e h
  obtain ⟨hr2, h⟩ := ck_e h
  refine ite_r (c_le rfl rfl hr1 hr2) h ?_ ?_
  · clear h
    intro h
    cases h
    exact congrArg some (congrArg Sum.inr rfl)
  · clear h
    intro h
    refine cp_r (e := zI) (fun _ h => rF_X11_quotient (e_mul (e_mul kz_2 rfl) rfl) rfl h) h ?_
    clear h
    intro v18 h
    refine cp_r (e := zS) (fun _ h => rF_X7_append (e_sub rfl rfl) h) h ?_
    clear h
    intro g19 h
    refine lt_r (e_add rfl kz_1) h ?_
    clear h
    intro v20 h
    cases h
    exact congrArg some (congrArg Sum.inl (e_pair rfl rfl))
theorem rC_X11_cycles_4 {w10_ : Int32} {w10 : Int} (e_w10 : w10_ = zI w10) {g16 : uZ} {zr : ((Int × uZ) ⊕ uZ)} (h : GC_X11_cycles_4 w10 g16 = some zr) : C_X11_cycles_4 w10_ (zS g16) = some (em_3 zr) := by
  subst e_w10
  unfold GC_X11_cycles_4 at h
  unfold C_X11_cycles_4
  refine lt_r (e_add rfl kz_1) h ?_
  clear h
  intro v21 h
  cases h
  exact congrArg some (congrArg Sum.inl (e_pair rfl rfl))
theorem rB_X11_cycles_5 {a1_ : Int32} {a1 : Int} (e_a1 : a1_ = zI a1) {a2_ : Int32} {a2 : Int} (e_a2 : a2_ = zI a2) {a3_ : Int32} {a3 : Int} (e_a3 : a3_ = zI a3) {w10_ : Int32} {w10 : Int} (e_w10 : w10_ = zI w10) {g11 : uZ} {zr : ((Int × uZ) ⊕ uZ)} (h : GB_X11_cycles_5 a1 a2 a3 w10 g11 = some zr) : B_X11_cycles_5 a1_ a2_ a3_ w10_ (zS g11) = some (em_3 zr) := by
  subst e_a1 e_a2 e_a3 e_w10
  unfold GB_X11_cycles_5 at h
  unfold B_X11_cycles_5
  obtain ⟨hr1, h⟩ := ck_e h
  obtain ⟨hr2, h⟩ := ck_e h
  refine ite_r (c_le rfl rfl hr1 hr2) h ?_ ?_
  · clear h
    intro h
    cases h
    exact congrArg some (congrArg Sum.inr rfl)
  · clear h
    intro h
    refine lp_r em_2 zS (e_pair kz_0 rfl) (fun q r h => rB_X11_cycles_3 rfl rfl rfl h) h ?_
    clear h
    intro z h
    exact rC_X11_cycles_4 rfl h
theorem rC_X11_cycles_6 {v9_ : Int32} {v9 : Int} (e_v9 : v9_ = zI v9) {g12 : uZ} {zr : (Int × uZ)} (h : GC_X11_cycles_6 v9 g12 = some zr) : C_X11_cycles_6 v9_ (zS g12) = some (em_2 zr) := by
  subst e_v9
  unfold GC_X11_cycles_6 at h
  unfold C_X11_cycles_6
  refine cp_r (e := zI) (fun _ h => rF_X7_size h) h ?_
  clear h
  intro v22 h
  refine cl_r (fun _ _ h => rF_X11_changedFrom rfl rfl h) h ?_
  clear h
  intro v24 g23 h
  cases h
  exact congrArg some (e_pair rfl rfl)
theorem rJ_X11_cycles_7 {g : uZ} {zr : (Int × uZ)} (h : GJ_X11_cycles_7 g = some zr) : J_X11_cycles_7 (zS g) = some (em_2 zr) := by
  unfold GJ_X11_cycles_7 at h
  unfold J_X11_cycles_7
  cases h
  exact congrArg some (e_pair kz_m1000 rfl)
theorem rF_X11_cycles {a1_ : Int32} {a1 : Int} (e_a1 : a1_ = zI a1) {a2_ : Int32} {a2 : Int} (e_a2 : a2_ = zI a2) {a3_ : Int32} {a3 : Int} (e_a3 : a3_ = zI a3) {g : uZ} {zr : (Int × uZ)} (h : GF_X11_cycles a1 a2 a3 g = some zr) : F_X11_cycles a1_ a2_ a3_ (zS g) = some (em_2 zr) := by
  subst e_a1 e_a2 e_a3
  unfold GF_X11_cycles at h
  unfold F_X11_cycles
  obtain ⟨hr1, h⟩ := ck_e h
  refine ite_r (c_lt rfl kz_2 hr1 ir_2) h ?_ ?_
  · clear h
    intro h
    exact rJ_X11_cycles_7 h
  · clear h
    intro h
    refine ite_r (c_lt kz_48 rfl ir_48 hr1) h ?_ ?_
    · clear h
      intro h
      exact rJ_X11_cycles_7 h
    · clear h
      intro h
      refine cp_r (e := zI) (fun _ h => rF_X11_isHeight rfl h) h ?_
      clear h
      intro v3 h
      obtain ⟨hr2, h⟩ := ck_e h
      refine ite_r (c_eq rfl kz_0 hr2 ir_0) h ?_ ?_
      · clear h
        intro h
        exact rJ_X11_cycles_7 h
      · clear h
        intro h
        obtain ⟨hr3, h⟩ := ck_e h
        refine ite_r (c_lt rfl kz_1 hr3 ir_1) h ?_ ?_
        · clear h
          intro h
          exact rJ_X11_cycles_7 h
        · clear h
          intro h
          refine ite_r (c_lt kz_50 rfl ir_50 hr3) h ?_ ?_
          · clear h
            intro h
            exact rJ_X11_cycles_7 h
          · clear h
            intro h
            refine cp_r (e := zI) (fun _ h => rF_X7_hasRoom (e_mul rfl rfl) h) h ?_
            clear h
            intro v7 h
            obtain ⟨hr4, h⟩ := ck_e h
            refine ite_r (c_eq rfl kz_0 hr4 ir_0) h ?_ ?_
            · clear h
              intro h
              exact rJ_X11_cycles_7 h
            · clear h
              intro h
              refine cp_r (e := zI) (fun _ h => rF_X7_size h) h ?_
              clear h
              intro v9 h
              refine lp_r em_2 zS (e_pair kz_0 rfl) (fun q r h => rB_X11_cycles_5 rfl rfl rfl rfl h) h ?_
              clear h
              intro z h
              exact rC_X11_cycles_6 rfl h
theorem rB_X11_noise_2 {a2_ : Int32} {a2 : Int} (e_a2 : a2_ = zI a2) {a3_ : Int32} {a3 : Int} (e_a3 : a3_ = zI a3) {w8_ : Int32} {w8 : Int} (e_w8 : w8_ = zI w8) {w9_ : Int32} {w9 : Int} (e_w9 : w9_ = zI w9) {g10 : uZ} {zr : ((Int × (Int × uZ)) ⊕ uZ)} (h : GB_X11_noise_2 a2 a3 w8 w9 g10 = some zr) : B_X11_noise_2 a2_ a3_ w8_ w9_ (zS g10) = some (em_5 zr) := by
  subst e_a2 e_a3 e_w8 e_w9
  unfold GB_X11_noise_2 at h
  unfold B_X11_noise_2
  obtain ⟨hr1, h⟩ := ck_e h
  obtain ⟨hr2, h⟩ := ck_e h
  refine ite_r (c_le rfl rfl hr1 hr2) h ?_ ?_
  · clear h
    intro h
    cases h
    exact congrArg some (congrArg Sum.inr rfl)
  · clear h
    intro h
    refine lt_r (e_add (e_mul rfl kz_1103515245) kz_12345) h ?_
    clear h
    intro v13 h
    refine rmd_r (zI_toInt _).symm (e_add (e_mul kz_2 rfl) kz_1) h ?_
    clear h
    intro v14 h
    refine cp_r (e := zS) (fun _ h => rF_X7_append (e_sub rfl rfl) h) h ?_
    clear h
    intro g15 h
    refine lt_r (e_add rfl kz_1) h ?_
    clear h
    intro v16 h
    cases h
    exact congrArg some (congrArg Sum.inl (e_pair rfl (e_pair rfl rfl)))
theorem rC_X11_noise_3 {v7_ : Int32} {v7 : Int} (e_v7 : v7_ = zI v7) {g11 : uZ} {zr : (Int × uZ)} (h : GC_X11_noise_3 v7 g11 = some zr) : C_X11_noise_3 v7_ (zS g11) = some (em_2 zr) := by
  subst e_v7
  unfold GC_X11_noise_3 at h
  unfold C_X11_noise_3
  refine cp_r (e := zI) (fun _ h => rF_X7_size h) h ?_
  clear h
  intro v17 h
  refine cl_r (fun _ _ h => rF_X11_changedFrom rfl rfl h) h ?_
  clear h
  intro v19 g18 h
  cases h
  exact congrArg some (e_pair rfl rfl)
theorem rJ_X11_noise_4 {g : uZ} {zr : (Int × uZ)} (h : GJ_X11_noise_4 g = some zr) : J_X11_noise_4 (zS g) = some (em_2 zr) := by
  unfold GJ_X11_noise_4 at h
  unfold J_X11_noise_4
  cases h
  exact congrArg some (e_pair kz_m1000 rfl)
theorem rF_X11_noise {a1_ : Int32} {a1 : Int} (e_a1 : a1_ = zI a1) {a2_ : Int32} {a2 : Int} (e_a2 : a2_ = zI a2) {a3_ : Int32} {a3 : Int} (e_a3 : a3_ = zI a3) {g : uZ} {zr : (Int × uZ)} (h : GF_X11_noise a1 a2 a3 g = some zr) : F_X11_noise a1_ a2_ a3_ (zS g) = some (em_2 zr) := by
  subst e_a1 e_a2 e_a3
  unfold GF_X11_noise at h
  unfold F_X11_noise
  obtain ⟨hr1, h⟩ := ck_e h
  refine ite_r (c_lt rfl kz_1 hr1 ir_1) h ?_ ?_
  · clear h
    intro h
    exact rJ_X11_noise_4 h
  · clear h
    intro h
    refine ite_r (c_lt kz_400 rfl ir_400 hr1) h ?_ ?_
    · clear h
      intro h
      exact rJ_X11_noise_4 h
    · clear h
      intro h
      refine cp_r (e := zI) (fun _ h => rF_X11_isHeight rfl h) h ?_
      clear h
      intro v3 h
      obtain ⟨hr2, h⟩ := ck_e h
      refine ite_r (c_eq rfl kz_0 hr2 ir_0) h ?_ ?_
      · clear h
        intro h
        exact rJ_X11_noise_4 h
      · clear h
        intro h
        refine cp_r (e := zI) (fun _ h => rF_X7_hasRoom rfl h) h ?_
        clear h
        intro v5 h
        obtain ⟨hr3, h⟩ := ck_e h
        refine ite_r (c_eq rfl kz_0 hr3 ir_0) h ?_ ?_
        · clear h
          intro h
          exact rJ_X11_noise_4 h
        · clear h
          intro h
          refine cp_r (e := zI) (fun _ h => rF_X7_size h) h ?_
          clear h
          intro v7 h
          refine lp_r em_4 zS (e_pair rfl (e_pair kz_0 rfl)) (fun q r h => rB_X11_noise_2 rfl rfl rfl rfl h) h ?_
          clear h
          intro z h
          exact rC_X11_noise_3 rfl h
theorem rJ_X11_poke_1 {g : uZ} {zr : (Int × uZ)} (h : GJ_X11_poke_1 g = some zr) : J_X11_poke_1 (zS g) = some (em_2 zr) := by
  unfold GJ_X11_poke_1 at h
  unfold J_X11_poke_1
  cases h
  exact congrArg some (e_pair kz_m1000 rfl)
theorem rF_X11_poke {a1_ : Int32} {a1 : Int} (e_a1 : a1_ = zI a1) {a2_ : Int32} {a2 : Int} (e_a2 : a2_ = zI a2) {g : uZ} {zr : (Int × uZ)} (h : GF_X11_poke a1 a2 g = some zr) : F_X11_poke a1_ a2_ (zS g) = some (em_2 zr) := by
  subst e_a1 e_a2
  unfold GF_X11_poke at h
  unfold F_X11_poke
  refine cp_r (e := zI) (fun _ h => rF_X7_has rfl h) h ?_
  clear h
  intro v1 h
  obtain ⟨hr1, h⟩ := ck_e h
  refine ite_r (c_eq rfl kz_0 hr1 ir_0) h ?_ ?_
  · clear h
    intro h
    exact rJ_X11_poke_1 h
  · clear h
    intro h
    obtain ⟨hr2, h⟩ := ck_e h
    refine ite_r (c_lt rfl kz_m128 hr2 ir_m128) h ?_ ?_
    · clear h
      intro h
      exact rJ_X11_poke_1 h
    · clear h
      intro h
      refine ite_r (c_le rfl kz_127 hr2 ir_127) h ?_ ?_
      · clear h
        intro h
        refine cp_r (e := zI) (fun _ h => rF_X7_at rfl h) h ?_
        clear h
        intro v5 h
        refine cp_r (e := zS) (fun _ h => rF_X7_put rfl rfl h) h ?_
        clear h
        intro g6 h
        refine cl_r (fun _ _ h => rF_X11_changedFrom rfl (e_add rfl kz_1) h) h ?_
        clear h
        intro v8 g7 h
        cases h
        exact congrArg some (e_pair rfl rfl)
      · clear h
        intro h
        exact rJ_X11_poke_1 h
theorem rJ_X11_cut_1 {g : uZ} {zr : (Int × uZ)} (h : GJ_X11_cut_1 g = some zr) : J_X11_cut_1 (zS g) = some (em_2 zr) := by
  unfold GJ_X11_cut_1 at h
  unfold J_X11_cut_1
  cases h
  exact congrArg some (e_pair kz_m1000 rfl)
theorem rF_X11_cut {a1_ : Int32} {a1 : Int} (e_a1 : a1_ = zI a1) {g : uZ} {zr : (Int × uZ)} (h : GF_X11_cut a1 g = some zr) : F_X11_cut a1_ (zS g) = some (em_2 zr) := by
  subst e_a1
  unfold GF_X11_cut at h
  unfold F_X11_cut
  obtain ⟨hr1, h⟩ := ck_e h
  refine ite_r (c_lt rfl kz_0 hr1 ir_0) h ?_ ?_
  · clear h
    intro h
    exact rJ_X11_cut_1 h
  · clear h
    intro h
    refine cp_r (e := zI) (fun _ h => rF_X7_size h) h ?_
    clear h
    intro v2 h
    obtain ⟨hr2, h⟩ := ck_e h
    refine ite_r (c_le rfl rfl hr1 hr2) h ?_ ?_
    · clear h
      intro h
      refine cp_r (e := zI) (fun _ h => rF_X7_size h) h ?_
      clear h
      intro v4 h
      refine cp_r (e := zS) (fun _ h => rF_X7_drop rfl h) h ?_
      clear h
      intro g5 h
      refine cp_r (e := zI) (fun _ h => rF_X7_size h) h ?_
      clear h
      intro v6 h
      refine cl_r (fun _ _ h => rF_X11_changedFrom rfl rfl h) h ?_
      clear h
      intro v8 g7 h
      cases h
      exact congrArg some (e_pair rfl rfl)
    · clear h
      intro h
      exact rJ_X11_cut_1 h
theorem rJ_X11_bound_2 {v3_ : Int32} {v3 : Int} (e_v3 : v3_ = zI v3) {g9 : uZ} {zr : (Int × uZ)} (h : GJ_X11_bound_2 v3 g9 = some zr) : J_X11_bound_2 v3_ (zS g9) = some (em_2 zr) := by
  subst e_v3
  unfold GJ_X11_bound_2 at h
  unfold J_X11_bound_2
  refine cp_r (e := zS) (fun _ h => rF_X11_forgetAnswers h) h ?_
  clear h
  intro g10 h
  cases h
  exact congrArg some (e_pair rfl rfl)
theorem rJ_X11_bound_1 {v3_ : Int32} {v3 : Int} (e_v3 : v3_ = zI v3) {g4 : uZ} {zr : (Int × uZ)} (h : GJ_X11_bound_1 v3 g4 = some zr) : J_X11_bound_1 v3_ (zS g4) = some (em_2 zr) := by
  subst e_v3
  unfold GJ_X11_bound_1 at h
  unfold J_X11_bound_1
  refine cp_r (e := zS) (fun _ h => rF_X2_forgetAll h) h ?_
  clear h
  intro g8 h
  exact rJ_X11_bound_2 rfl h
theorem rF_X11_bound {a1_ : Int32} {a1 : Int} (e_a1 : a1_ = zI a1) {a2_ : Int32} {a2 : Int} (e_a2 : a2_ = zI a2) {g : uZ} {zr : (Int × uZ)} (h : GF_X11_bound a1 a2 g = some zr) : F_X11_bound a1_ a2_ (zS g) = some (em_2 zr) := by
  subst e_a1 e_a2
  unfold GF_X11_bound at h
  unfold F_X11_bound
  refine cp_r (e := zI) (fun _ h => rF_X0_allows rfl rfl h) h ?_
  clear h
  intro v1 h
  obtain ⟨hr1, h⟩ := ck_e h
  refine ite_r (c_eq rfl kz_0 hr1 ir_0) h ?_ ?_
  · clear h
    intro h
    cases h
    exact congrArg some (e_pair kz_m1000 rfl)
  · clear h
    intro h
    refine cp_r (e := zI) (fun _ h => rF_X0_of rfl h) h ?_
    clear h
    intro v3 h
    refine cp_r (e := zS) (fun _ h => rF_X0_put rfl rfl h) h ?_
    clear h
    intro g4 h
    obtain ⟨hr2, h⟩ := ck_e h
    refine ite_r (c_eq rfl kz_2 hr2 ir_2) h ?_ ?_
    · clear h
      intro h
      exact rJ_X11_bound_1 rfl h
    · clear h
      intro h
      refine ite_r (c_eq rfl kz_3 hr2 ir_3) h ?_ ?_
      · clear h
        intro h
        exact rJ_X11_bound_1 rfl h
      · clear h
        intro h
        refine ite_r (c_eq rfl kz_5 hr2 ir_5) h ?_ ?_
        · clear h
          intro h
          exact rJ_X11_bound_1 rfl h
        · clear h
          intro h
          exact rJ_X11_bound_2 rfl h
theorem rF_X11_findPath {g : uZ} {zr : uZ} (h : GF_X11_findPath g = some zr) : F_X11_findPath (zS g) = some (zS zr) := by
  unfold GF_X11_findPath at h
  unfold F_X11_findPath
  obtain ⟨hr1, h⟩ := ck_e h
  refine ite_r (c_eq rfl kz_0 hr1 ir_0) h ?_ ?_
  · clear h
    intro h
    refine cp_r (e := zS) (fun _ h => rF_X2_find h) h ?_
    clear h
    intro g2 h
    refine cp_r (e := zS) (fun _ h => rF_X1_find h) h ?_
    clear h
    intro g3 h
    refine cp_r (e := zS) (fun _ h => rF_X5_find h) h ?_
    clear h
    intro g4 h
    refine cp_r (e := zS) (fun _ h => rF_X8_find h) h ?_
    clear h
    intro g5 h
    refine cp_r (e := zS) (fun _ h => rF_X4_find h) h ?_
    clear h
    intro g6 h
    refine pf_r kz_1 h ?_
    clear h
    intro g7 h
    cases h
    rfl
  · clear h
    intro h
    cases h
    rfl
theorem rF_X11_single {g : uZ} {zr : (Int × uZ)} (h : GF_X11_single g = some zr) : F_X11_single (zS g) = some (em_2 zr) := by
  unfold GF_X11_single at h
  unfold F_X11_single
  refine cp_r (e := zS) (fun _ h => rF_X11_findPath h) h ?_
  clear h
  intro g1 h
  refine cl_r (fun _ _ h => rF_X5_leastWithoutDoubles h) h ?_
  clear h
  intro v3 g2 h
  cases h
  exact congrArg some (e_pair rfl rfl)
theorem rF_X11_doubled {g : uZ} {zr : (Int × uZ)} (h : GF_X11_doubled g = some zr) : F_X11_doubled (zS g) = some (em_2 zr) := by
  unfold GF_X11_doubled at h
  unfold F_X11_doubled
  refine cp_r (e := zS) (fun _ h => rF_X11_findPath h) h ?_
  clear h
  intro g1 h
  refine cp_r (e := zI) (fun _ h => rF_X5_doublesChosen h) h ?_
  clear h
  intro v2 h
  cases h
  exact congrArg some (e_pair rfl rfl)
theorem rF_X11_spans {g : uZ} {zr : (Int × uZ)} (h : GF_X11_spans g = some zr) : F_X11_spans (zS g) = some (em_2 zr) := by
  unfold GF_X11_spans at h
  unfold F_X11_spans
  refine cp_r (e := zS) (fun _ h => rF_X11_findPath h) h ?_
  clear h
  intro g1 h
  refine cp_r (e := zI) (fun _ h => rF_X8_size h) h ?_
  clear h
  intro v2 h
  cases h
  exact congrArg some (e_pair rfl rfl)
theorem rF_X11_notes {g : uZ} {zr : (Int × uZ)} (h : GF_X11_notes g = some zr) : F_X11_notes (zS g) = some (em_2 zr) := by
  unfold GF_X11_notes at h
  unfold F_X11_notes
  refine cp_r (e := zS) (fun _ h => rF_X11_findPath h) h ?_
  clear h
  intro g1 h
  refine cp_r (e := zI) (fun _ h => rF_X4_size h) h ?_
  clear h
  intro v2 h
  cases h
  exact congrArg some (e_pair rfl rfl)
theorem rF_X11_lags {g : uZ} {zr : (Int × uZ)} (h : GF_X11_lags g = some zr) : F_X11_lags (zS g) = some (em_2 zr) := by
  unfold GF_X11_lags at h
  unfold F_X11_lags
  refine cp_r (e := zS) (fun _ h => rF_X11_findPath h) h ?_
  clear h
  intro g1 h
  refine cp_r (e := zI) (fun _ h => rF_X4_unlikeLags h) h ?_
  clear h
  intro v2 h
  cases h
  exact congrArg some (e_pair rfl rfl)
theorem rJ_X11_tune_1 {g : uZ} {zr : (Int × uZ)} (h : GJ_X11_tune_1 g = some zr) : J_X11_tune_1 (zS g) = some (em_2 zr) := by
  unfold GJ_X11_tune_1 at h
  unfold J_X11_tune_1
  cases h
  exact congrArg some (e_pair kz_m1000 rfl)
theorem rF_X11_tune {a1_ : Int32} {a1 : Int} (e_a1 : a1_ = zI a1) {g : uZ} {zr : (Int × uZ)} (h : GF_X11_tune a1 g = some zr) : F_X11_tune a1_ (zS g) = some (em_2 zr) := by
  subst e_a1
  unfold GF_X11_tune at h
  unfold F_X11_tune
  obtain ⟨hr1, h⟩ := ck_e h
  refine ite_r (c_lt rfl kz_1 hr1 ir_1) h ?_ ?_
  · clear h
    intro h
    exact rJ_X11_tune_1 h
  · clear h
    intro h
    refine ite_r (c_lt kz_48 rfl ir_48 hr1) h ?_ ?_
    · clear h
      intro h
      exact rJ_X11_tune_1 h
    · clear h
      intro h
      refine cp_r (e := zI) (fun _ h => rF_X10_hasRoom h) h ?_
      clear h
      intro v3 h
      obtain ⟨hr2, h⟩ := ck_e h
      refine ite_r (c_eq rfl kz_0 hr2 ir_0) h ?_ ?_
      · clear h
        intro h
        exact rJ_X11_tune_1 h
      · clear h
        intro h
        refine cp_r (e := zS) (fun _ h => rF_X10_add rfl h) h ?_
        clear h
        intro g5 h
        refine cp_r (e := zI) (fun _ h => rF_X10_size h) h ?_
        clear h
        intro v6 h
        cases h
        exact congrArg some (e_pair rfl rfl)
theorem rF_X11_hush {g : uZ} {zr : (Int × uZ)} (h : GF_X11_hush g = some zr) : F_X11_hush (zS g) = some (em_2 zr) := by
  unfold GF_X11_hush at h
  unfold F_X11_hush
  refine cp_r (e := zI) (fun _ h => rF_X10_size h) h ?_
  clear h
  intro v1 h
  refine cp_r (e := zS) (fun _ h => rF_X10_clear h) h ?_
  clear h
  intro g2 h
  cases h
  exact congrArg some (e_pair rfl rfl)
theorem rJ_X11_findMarks_1 {g5 : uZ} {zr : uZ} (h : GJ_X11_findMarks_1 g5 = some zr) : J_X11_findMarks_1 (zS g5) = some (zS zr) := by
  unfold GJ_X11_findMarks_1 at h
  unfold J_X11_findMarks_1
  cases h
  rfl
theorem rF_X11_findMarks {g : uZ} {zr : uZ} (h : GF_X11_findMarks g = some zr) : F_X11_findMarks (zS g) = some (zS zr) := by
  unfold GF_X11_findMarks at h
  unfold F_X11_findMarks
  refine cp_r (e := zS) (fun _ h => rF_X11_findPath h) h ?_
  clear h
  intro g1 h
  obtain ⟨hr1, h⟩ := ck_e h
  refine ite_r (c_eq rfl kz_0 hr1 ir_0) h ?_ ?_
  · clear h
    intro h
    refine cp_r (e := zS) (fun _ h => rF_X3_find h) h ?_
    clear h
    intro g3 h
    refine pf_r kz_1 h ?_
    clear h
    intro g4 h
    exact rJ_X11_findMarks_1 h
  · clear h
    intro h
    exact rJ_X11_findMarks_1 h
theorem rF_X11_marks {g : uZ} {zr : (Int × uZ)} (h : GF_X11_marks g = some zr) : F_X11_marks (zS g) = some (em_2 zr) := by
  unfold GF_X11_marks at h
  unfold F_X11_marks
  refine cp_r (e := zS) (fun _ h => rF_X11_findMarks h) h ?_
  clear h
  intro g1 h
  refine cp_r (e := zI) (fun _ h => rF_X3_size h) h ?_
  clear h
  intro v2 h
  cases h
  exact congrArg some (e_pair rfl rfl)
theorem rJ_X11_near_1 {g1 : uZ} {v6_ : Int32} {v6 : Int} (e_v6 : v6_ = zI v6) {zr : (Int × uZ)} (h : GJ_X11_near_1 g1 v6 = some zr) : J_X11_near_1 (zS g1) v6_ = some (em_2 zr) := by
  subst e_v6
  unfold GJ_X11_near_1 at h
  unfold J_X11_near_1
  cases h
  exact congrArg some (e_pair rfl rfl)
theorem rF_X11_near {a1_ : Int32} {a1 : Int} (e_a1 : a1_ = zI a1) {g : uZ} {zr : (Int × uZ)} (h : GF_X11_near a1 g = some zr) : F_X11_near a1_ (zS g) = some (em_2 zr) := by
  subst e_a1
  unfold GF_X11_near at h
  unfold F_X11_near
  refine cp_r (e := zS) (fun _ h => rF_X11_findMarks h) h ?_
  clear h
  intro g1 h
  refine cp_r (e := zI) (fun _ h => rF_X3_size h) h ?_
  clear h
  intro v2 h
  refine cp_r (e := zI) (fun _ h => rF_X3_nearest rfl kz_0 rfl h) h ?_
  clear h
  intro v3 h
  obtain ⟨hr1, h⟩ := ck_e h
  refine ite_r (c_eq rfl kz_m1 hr1 ir_m1) h ?_ ?_
  · clear h
    intro h
    exact rJ_X11_near_1 kz_m1 h
  · clear h
    intro h
    refine cp_r (e := zI) (fun _ h => rF_X3_at rfl h) h ?_
    clear h
    intro v5 h
    exact rJ_X11_near_1 rfl h
theorem rB_X11_behind_2 {a1_ : Int32} {a1 : Int} (e_a1 : a1_ = zI a1) {g1 : uZ} {w2_ : Int32} {w2 : Int} (e_w2 : w2_ = zI w2) {zr : (Int ⊕ (Unit ⊕ (Int × uZ)))} (h : GB_X11_behind_2 a1 g1 w2 = some zr) : B_X11_behind_2 a1_ (zS g1) w2_ = some (em_19 zr) := by
  subst e_a1 e_w2
  unfold GB_X11_behind_2 at h
  unfold B_X11_behind_2
  refine cp_r (e := zI) (fun _ h => rF_X3_size h) h ?_
  clear h
  intro v3 h
  obtain ⟨hr1, h⟩ := ck_e h
  obtain ⟨hr2, h⟩ := ck_e h
  refine ite_r (c_le rfl rfl hr1 hr2) h ?_ ?_
  · clear h
    intro h
    cases h
    exact congrArg some (congrArg Sum.inr (congrArg Sum.inl rfl))
  · clear h
    intro h
    refine cp_r (e := zI) (fun _ h => rF_X3_at rfl h) h ?_
    clear h
    intro v5 h
    obtain ⟨hr3, h⟩ := ck_e h
    obtain ⟨hr4, h⟩ := ck_e h
    refine ite_r (c_le rfl rfl hr3 hr4) h ?_ ?_
    · clear h
      intro h
      refine lt_r (e_add rfl kz_1) h ?_
      clear h
      intro v7 h
      cases h
      exact congrArg some (congrArg Sum.inl rfl)
    · clear h
      intro h
      refine cp_r (e := zI) (fun _ h => rF_X3_at rfl h) h ?_
      clear h
      intro v8 h
      cases h
      exact congrArg some (congrArg Sum.inr (congrArg Sum.inr (e_pair rfl rfl)))
theorem rC_X11_behind_3 {g1 : uZ} {zr : (Int × uZ)} (h : GC_X11_behind_3 g1 = some zr) : C_X11_behind_3 (zS g1) = some (em_2 zr) := by
  unfold GC_X11_behind_3 at h
  unfold C_X11_behind_3
  cases h
  exact congrArg some (e_pair kz_m1 rfl)
theorem rF_X11_behind {a1_ : Int32} {a1 : Int} (e_a1 : a1_ = zI a1) {g : uZ} {zr : (Int × uZ)} (h : GF_X11_behind a1 g = some zr) : F_X11_behind a1_ (zS g) = some (em_2 zr) := by
  subst e_a1
  unfold GF_X11_behind at h
  unfold F_X11_behind
  refine cp_r (e := zS) (fun _ h => rF_X11_findMarks h) h ?_
  clear h
  intro g1 h
  refine lp_r zI em_18 kz_0 (fun q r h => rB_X11_behind_2 rfl rfl h) h ?_
  clear h
  intro z h
  rcases z with z | z
  · exact rC_X11_behind_3 h
  · cases h
    rfl
theorem rJ_X11_roughest_2 {w4_ : Int32} {w4 : Int} (e_w4 : w4_ = zI w4) {v10_ : Int32} {v10 : Int} (e_v10 : v10_ = zI v10) {v11_ : Int32} {v11 : Int} (e_v11 : v11_ = zI v11) {zr : ((Int × (Int × Int)) ⊕ Int)} (h : GJ_X11_roughest_2 w4 v10 v11 = some zr) : J_X11_roughest_2 w4_ v10_ v11_ = some (em_11 zr) := by
  subst e_w4 e_v10 e_v11
  unfold GJ_X11_roughest_2 at h
  unfold J_X11_roughest_2
  refine lt_r (e_add rfl kz_1) h ?_
  clear h
  intro v12 h
  cases h
  exact congrArg some (congrArg Sum.inl (e_pair rfl (e_pair rfl rfl)))
theorem rB_X11_roughest_3 {g1 : uZ} {w2_ : Int32} {w2 : Int} (e_w2 : w2_ = zI w2) {w3_ : Int32} {w3 : Int} (e_w3 : w3_ = zI w3) {w4_ : Int32} {w4 : Int} (e_w4 : w4_ = zI w4) {zr : ((Int × (Int × Int)) ⊕ Int)} (h : GB_X11_roughest_3 g1 w2 w3 w4 = some zr) : B_X11_roughest_3 (zS g1) w2_ w3_ w4_ = some (em_11 zr) := by
  subst e_w2 e_w3 e_w4
  unfold GB_X11_roughest_3 at h
  unfold B_X11_roughest_3
  refine cp_r (e := zI) (fun _ h => rF_X3_size h) h ?_
  clear h
  intro v6 h
  obtain ⟨hr1, h⟩ := ck_e h
  obtain ⟨hr2, h⟩ := ck_e h
  refine ite_r (c_le rfl rfl hr1 hr2) h ?_ ?_
  · clear h
    intro h
    cases h
    exact congrArg some (congrArg Sum.inr rfl)
  · clear h
    intro h
    refine cp_r (e := zI) (fun _ h => rF_X3_roughness rfl h) h ?_
    clear h
    intro v8 h
    obtain ⟨hr3, h⟩ := ck_e h
    obtain ⟨hr4, h⟩ := ck_e h
    refine ite_r (c_le rfl rfl hr3 hr4) h ?_ ?_
    · clear h
      intro h
      exact rJ_X11_roughest_2 rfl rfl rfl h
    · clear h
      intro h
      exact rJ_X11_roughest_2 rfl rfl rfl h
theorem rC_X11_roughest_4 {g1 : uZ} {v5_ : Int32} {v5 : Int} (e_v5 : v5_ = zI v5) {zr : (Int × uZ)} (h : GC_X11_roughest_4 g1 v5 = some zr) : C_X11_roughest_4 (zS g1) v5_ = some (em_2 zr) := by
  subst e_v5
  unfold GC_X11_roughest_4 at h
  unfold C_X11_roughest_4
  cases h
  exact congrArg some (e_pair rfl rfl)
theorem rF_X11_roughest {g : uZ} {zr : (Int × uZ)} (h : GF_X11_roughest g = some zr) : F_X11_roughest (zS g) = some (em_2 zr) := by
  unfold GF_X11_roughest at h
  unfold F_X11_roughest
  refine cp_r (e := zS) (fun _ h => rF_X11_findMarks h) h ?_
  clear h
  intro g1 h
  refine lp_r em_9 zI (e_pair kz_m1 (e_pair kz_m1 kz_0)) (fun q r h => rB_X11_roughest_3 rfl rfl rfl h) h ?_
  clear h
  intro z h
  exact rC_X11_roughest_4 rfl h
theorem rJ_X11_isLag_2 {v4_ : Int32} {v4 : Int} (e_v4 : v4_ = zI v4) {zr : Int} (h : GJ_X11_isLag_2 v4 = some zr) : J_X11_isLag_2 v4_ = some (zI zr) := by
  subst e_v4
  unfold GJ_X11_isLag_2 at h
  unfold J_X11_isLag_2
  refine bz_r rfl h ?_
  clear h
  intro h
  cases h
  rfl
theorem rJ_X11_isLag_1 {zr : Int} (h : GJ_X11_isLag_1 = some zr) : J_X11_isLag_1 = some (zI zr) := by
  unfold GJ_X11_isLag_1 at h
  unfold J_X11_isLag_1
  exact rJ_X11_isLag_2 kz_0 h
theorem rF_X11_isLag {a1_ : Int32} {a1 : Int} (e_a1 : a1_ = zI a1) {g : uZ} {zr : Int} (h : GF_X11_isLag a1 g = some zr) : F_X11_isLag a1_ (zS g) = some (zI zr) := by
  subst e_a1
  unfold GF_X11_isLag at h
  unfold F_X11_isLag
  obtain ⟨hr1, h⟩ := ck_e h
  refine ite_r (c_lt rfl kz_0 hr1 ir_0) h ?_ ?_
  · clear h
    intro h
    exact rJ_X11_isLag_1 h
  · clear h
    intro h
    refine cp_r (e := zI) (fun _ h => rF_X0_of kz_5 h) h ?_
    clear h
    intro v2 h
    obtain ⟨hr2, h⟩ := ck_e h
    refine ite_r (c_lt (e_add rfl kz_1) rfl hr2 hr1) h ?_ ?_
    · clear h
      intro h
      exact rJ_X11_isLag_1 h
    · clear h
      intro h
      exact rJ_X11_isLag_2 kz_1 h
theorem rJ_X11_findRanking_1 {g5 : uZ} {zr : uZ} (h : GJ_X11_findRanking_1 g5 = some zr) : J_X11_findRanking_1 (zS g5) = some (zS zr) := by
  unfold GJ_X11_findRanking_1 at h
  unfold J_X11_findRanking_1
  cases h
  rfl
theorem rF_X11_findRanking {g : uZ} {zr : uZ} (h : GF_X11_findRanking g = some zr) : F_X11_findRanking (zS g) = some (zS zr) := by
  unfold GF_X11_findRanking at h
  unfold F_X11_findRanking
  refine cp_r (e := zS) (fun _ h => rF_X11_findPath h) h ?_
  clear h
  intro g1 h
  obtain ⟨hr1, h⟩ := ck_e h
  refine ite_r (c_eq rfl kz_0 hr1 ir_0) h ?_ ?_
  · clear h
    intro h
    refine cp_r (e := zS) (fun _ h => rF_X6_find h) h ?_
    clear h
    intro g3 h
    refine pf_r kz_1 h ?_
    clear h
    intro g4 h
    exact rJ_X11_findRanking_1 h
  · clear h
    intro h
    exact rJ_X11_findRanking_1 h
theorem rB_X11_commonPart_2 {w1_ : Int32} {w1 : Int} (e_w1 : w1_ = zI w1) {w2_ : Int32} {w2 : Int} (e_w2 : w2_ = zI w2) {w3_ : Int32} {w3 : Int} (e_w3 : w3_ = zI w3) {zr : ((Int × (Int × Int)) ⊕ Int)} (h : GB_X11_commonPart_2 w1 w2 w3 = some zr) : B_X11_commonPart_2 w1_ w2_ w3_ = some (em_11 zr) := by
  subst e_w1 e_w2 e_w3
  unfold GB_X11_commonPart_2 at h
  unfold B_X11_commonPart_2
  obtain ⟨hr1, h⟩ := ck_e h
  refine ite_r (c_le kz_64 rfl ir_64 hr1) h ?_ ?_
  · clear h
    intro h
    cases h
    exact congrArg some (congrArg Sum.inr rfl)
  · clear h
    intro h
    obtain ⟨hr2, h⟩ := ck_e h
    refine ite_r (c_eq rfl kz_0 hr2 ir_0) h ?_ ?_
    · clear h
      intro h
      cases h
      exact congrArg some (congrArg Sum.inr rfl)
    · clear h
      intro h
      refine rmd_r rfl rfl h ?_
      clear h
      intro v7 h
      refine lt_r (e_add rfl kz_1) h ?_
      clear h
      intro v8 h
      cases h
      exact congrArg some (congrArg Sum.inl (e_pair rfl (e_pair rfl rfl)))
theorem rC_X11_commonPart_3 {v4_ : Int32} {v4 : Int} (e_v4 : v4_ = zI v4) {zr : Int} (h : GC_X11_commonPart_3 v4 = some zr) : C_X11_commonPart_3 v4_ = some (zI zr) := by
  subst e_v4
  unfold GC_X11_commonPart_3 at h
  unfold C_X11_commonPart_3
  cases h
  rfl
theorem rF_X11_commonPart {a1_ : Int32} {a1 : Int} (e_a1 : a1_ = zI a1) {a2_ : Int32} {a2 : Int} (e_a2 : a2_ = zI a2) {g : uZ} {zr : Int} (h : GF_X11_commonPart a1 a2 g = some zr) : F_X11_commonPart a1_ a2_ (zS g) = some (zI zr) := by
  subst e_a1 e_a2
  unfold GF_X11_commonPart at h
  unfold F_X11_commonPart
  refine lp_r em_9 zI (e_pair rfl (e_pair rfl kz_0)) (fun q r h => rB_X11_commonPart_2 rfl rfl rfl h) h ?_
  clear h
  intro z h
  exact rC_X11_commonPart_3 rfl h
theorem rF_X11_lowest {a1_ : Int32} {a1 : Int} (e_a1 : a1_ = zI a1) {a2_ : Int32} {a2 : Int} (e_a2 : a2_ = zI a2) {a3_ : Int32} {a3 : Int} (e_a3 : a3_ = zI a3) {g : uZ} {zr : Int} (h : GF_X11_lowest a1 a2 a3 g = some zr) : F_X11_lowest a1_ a2_ a3_ (zS g) = some (zI zr) := by
  subst e_a1 e_a2 e_a3
  unfold GF_X11_lowest at h
  unfold F_X11_lowest
  refine cp_r (e := zI) (fun _ h => rF_J9_abs_0f7a4 rfl h) h ?_
  clear h
  intro v1 h
  refine cp_r (e := zI) (fun _ h => rF_J9_abs_0f7a4 rfl h) h ?_
  clear h
  intro v2 h
  refine cp_r (e := zI) (fun _ h => rF_X11_commonPart rfl rfl h) h ?_
  clear h
  intro v3 h
  obtain ⟨hr1, h⟩ := ck_e h
  refine lt_r (e_ite (c_eq rfl kz_0 hr1 ir_0) rfl rfl) h ?_
  clear h
  intro v5 h
  refine cp_r (e := zI) (fun _ h => rF_X11_quotient rfl rfl h) h ?_
  clear h
  intro v6 h
  cases h
  rfl
theorem rF_X12_thrown {g : uZ} {zr : Int} (h : GF_X12_thrown g = some zr) : F_X12_thrown (zS g) = some (zI zr) := by
  unfold GF_X12_thrown at h
  unfold F_X12_thrown
  cases h
  rfl
theorem rJ_X12_right_1 {g4 : uZ} {zr : (Int × uZ)} (h : GJ_X12_right_1 g4 = some zr) : J_X12_right_1 (zS g4) = some (em_2 zr) := by
  unfold GJ_X12_right_1 at h
  unfold J_X12_right_1
  obtain ⟨hr1, h⟩ := ck_e h
  refine lt_r (e_ite (c_eq rfl kz_0 hr1 ir_0) kz_1 kz_0) h ?_
  clear h
  intro v6 h
  refine bz_r rfl h ?_
  clear h
  intro h
  cases h
  exact congrArg some (e_pair rfl rfl)
theorem rF_X12_right {a1_ : Int32} {a1 : Int} (e_a1 : a1_ = zI a1) {a2_ : Int32} {a2 : Int} (e_a2 : a2_ = zI a2) {g : uZ} {zr : (Int × uZ)} (h : GF_X12_right a1 a2 g = some zr) : F_X12_right a1_ a2_ (zS g) = some (em_2 zr) := by
  subst e_a1 e_a2
  unfold GF_X12_right at h
  unfold F_X12_right
  obtain ⟨hr1, h⟩ := ck_e h
  refine ite_r (c_eq rfl kz_0 hr1 ir_0) h ?_ ?_
  · clear h
    intro h
    obtain ⟨hr2, h⟩ := ck_e h
    refine ite_r (c_eq rfl kz_0 hr2 ir_0) h ?_ ?_
    · clear h
      intro h
      refine pf_r rfl h ?_
      clear h
      intro g3 h
      exact rJ_X12_right_1 h
    · clear h
      intro h
      exact rJ_X12_right_1 h
  · clear h
    intro h
    exact rJ_X12_right_1 h
theorem rJ_X12_isIn_2 {v3_ : Int32} {v3 : Int} (e_v3 : v3_ = zI v3) {zr : Int} (h : GJ_X12_isIn_2 v3 = some zr) : J_X12_isIn_2 v3_ = some (zI zr) := by
  subst e_v3
  unfold GJ_X12_isIn_2 at h
  unfold J_X12_isIn_2
  refine bz_r rfl h ?_
  clear h
  intro h
  cases h
  rfl
theorem rJ_X12_isIn_1 {zr : Int} (h : GJ_X12_isIn_1 = some zr) : J_X12_isIn_1 = some (zI zr) := by
  unfold GJ_X12_isIn_1 at h
  unfold J_X12_isIn_1
  exact rJ_X12_isIn_2 kz_0 h
theorem rF_X12_isIn {a1_ : Int32} {a1 : Int} (e_a1 : a1_ = zI a1) {a2_ : Int32} {a2 : Int} (e_a2 : a2_ = zI a2) {a3_ : Int32} {a3 : Int} (e_a3 : a3_ = zI a3) {g : uZ} {zr : Int} (h : GF_X12_isIn a1 a2 a3 g = some zr) : F_X12_isIn a1_ a2_ a3_ (zS g) = some (zI zr) := by
  subst e_a1 e_a2 e_a3
  unfold GF_X12_isIn at h
  unfold F_X12_isIn
  obtain ⟨hr1, h⟩ := ck_e h
  obtain ⟨hr2, h⟩ := ck_e h
  refine ite_r (c_lt rfl rfl hr1 hr2) h ?_ ?_
  · clear h
    intro h
    exact rJ_X12_isIn_1 h
  · clear h
    intro h
    obtain ⟨hr3, h⟩ := ck_e h
    refine ite_r (c_lt rfl rfl hr3 hr1) h ?_ ?_
    · clear h
      intro h
      exact rJ_X12_isIn_1 h
    · clear h
      intro h
      exact rJ_X12_isIn_2 kz_1 h
theorem rF_X12_apart {a1_ : Int32} {a1 : Int} (e_a1 : a1_ = zI a1) {a2_ : Int32} {a2 : Int} (e_a2 : a2_ = zI a2) {g : uZ} {zr : Int} (h : GF_X12_apart a1 a2 g = some zr) : F_X12_apart a1_ a2_ (zS g) = some (zI zr) := by
  subst e_a1 e_a2
  unfold GF_X12_apart at h
  unfold F_X12_apart
  obtain ⟨hr1, h⟩ := ck_e h
  obtain ⟨hr2, h⟩ := ck_e h
  refine lt_r (e_ite (c_le rfl rfl hr1 hr2) (e_sub rfl rfl) (e_sub rfl rfl)) h ?_
  clear h
  intro v2 h
  cases h
  rfl
theorem rB_X12_divisor_2 {w1_ : Int32} {w1 : Int} (e_w1 : w1_ = zI w1) {w2_ : Int32} {w2 : Int} (e_w2 : w2_ = zI w2) {zr : ((Int × Int) ⊕ Int)} (h : GB_X12_divisor_2 w1 w2 = some zr) : B_X12_divisor_2 w1_ w2_ = some (em_1 zr) := by
  subst e_w1 e_w2
  unfold GB_X12_divisor_2 at h
  unfold B_X12_divisor_2
  obtain ⟨hr1, h⟩ := ck_e h
  refine ite_r (c_eq rfl kz_0 hr1 ir_0) h ?_ ?_
  · clear h
    intro h
    cases h
    exact congrArg some (congrArg Sum.inr rfl)
  · clear h
    intro h
    refine rmd_r rfl rfl h ?_
    clear h
    intro v5 h
    cases h
    exact congrArg some (congrArg Sum.inl (e_pair rfl rfl))
theorem rC_X12_divisor_3 {v3_ : Int32} {v3 : Int} (e_v3 : v3_ = zI v3) {zr : Int} (h : GC_X12_divisor_3 v3 = some zr) : C_X12_divisor_3 v3_ = some (zI zr) := by
  subst e_v3
  unfold GC_X12_divisor_3 at h
  unfold C_X12_divisor_3
  obtain ⟨hr1, h⟩ := ck_e h
  refine lt_r (e_ite (c_le kz_0 rfl ir_0 hr1) rfl (e_neg rfl)) h ?_
  clear h
  intro v7 h
  cases h
  rfl
theorem rF_X12_divisor {a1_ : Int32} {a1 : Int} (e_a1 : a1_ = zI a1) {a2_ : Int32} {a2 : Int} (e_a2 : a2_ = zI a2) {g : uZ} {zr : Int} (h : GF_X12_divisor a1 a2 g = some zr) : F_X12_divisor a1_ a2_ (zS g) = some (zI zr) := by
  subst e_a1 e_a2
  unfold GF_X12_divisor at h
  unfold F_X12_divisor
  refine lp_r em_0 zI (e_pair rfl rfl) (fun q r h => rB_X12_divisor_2 rfl rfl h) h ?_
  clear h
  intro z h
  exact rC_X12_divisor_3 rfl h
theorem rJ_X12_down_2 {v5_ : Int32} {v5 : Int} (e_v5 : v5_ = zI v5) {zr : Int} (h : GJ_X12_down_2 v5 = some zr) : J_X12_down_2 v5_ = some (zI zr) := by
  subst e_v5
  unfold GJ_X12_down_2 at h
  unfold J_X12_down_2
  cases h
  rfl
theorem rJ_X12_down_1 {v1_ : Int32} {v1 : Int} (e_v1 : v1_ = zI v1) {zr : Int} (h : GJ_X12_down_1 v1 = some zr) : J_X12_down_1 v1_ = some (zI zr) := by
  subst e_v1
  unfold GJ_X12_down_1 at h
  unfold J_X12_down_1
  exact rJ_X12_down_2 rfl h
theorem rF_X12_down {a1_ : Int32} {a1 : Int} (e_a1 : a1_ = zI a1) {a2_ : Int32} {a2 : Int} (e_a2 : a2_ = zI a2) {g : uZ} {zr : Int} (h : GF_X12_down a1 a2 g = some zr) : F_X12_down a1_ a2_ (zS g) = some (zI zr) := by
  subst e_a1 e_a2
  unfold GF_X12_down at h
  unfold F_X12_down
  refine dv_r rfl rfl h ?_
  clear h
  intro v1 h
  refine rmd_r rfl rfl h ?_
  clear h
  intro v2 h
  obtain ⟨hr1, h⟩ := ck_e h
  refine ite_r (c_eq rfl kz_0 hr1 ir_0) h ?_ ?_
  · clear h
    intro h
    exact rJ_X12_down_1 rfl h
  · clear h
    intro h
    obtain ⟨hr2, h⟩ := ck_e h
    refine ite_r (c_le kz_0 rfl ir_0 hr2) h ?_ ?_
    · clear h
      intro h
      exact rJ_X12_down_1 rfl h
    · clear h
      intro h
      exact rJ_X12_down_2 (e_sub rfl kz_1) h
theorem rB_X12_comes_2 {a1_ : Int32} {a1 : Int} (e_a1 : a1_ = zI a1) {w1_ : Int32} {w1 : Int} (e_w1 : w1_ = zI w1) {g2 : uZ} {zr : ((Int × uZ) ⊕ uZ)} (h : GB_X12_comes_2 a1 w1 g2 = some zr) : B_X12_comes_2 a1_ w1_ (zS g2) = some (em_3 zr) := by
  subst e_a1 e_w1
  unfold GB_X12_comes_2 at h
  unfold B_X12_comes_2
  obtain ⟨hr1, h⟩ := ck_e h
  refine ite_r (c_lt rfl kz_0 hr1 ir_0) h ?_ ?_
  · clear h
    intro h
    cases h
    exact congrArg some (congrArg Sum.inr rfl)
  · clear h
    intro h
    refine lt_r (zI_toInt _).symm h ?_
    clear h
    intro v5 h
    obtain ⟨hr2, h⟩ := ck_e h
    refine lt_r (e_ite (c_le rfl kz_127 hr2 ir_127) rfl (e_sub rfl kz_256)) h ?_
    clear h
    intro v7 h
    refine wr_r (Nat.le_of_ble_eq_true rfl) rfl rfl h ?_
    clear h
    intro g8 h
    refine pf_r (e_add rfl kz_1) h ?_
    clear h
    intro g9 h
    refine lt_r (e_add rfl kz_m8) h ?_
    clear h
    intro v10 h
    cases h
    exact congrArg some (congrArg Sum.inl (e_pair rfl rfl))
theorem rC_X12_comes_3 {g3 : uZ} {zr : uZ} (h : GC_X12_comes_3 g3 = some zr) : C_X12_comes_3 (zS g3) = some (zS zr) := by
  unfold GC_X12_comes_3 at h
  unfold C_X12_comes_3
  cases h
  rfl
theorem rF_X12_comes {a1_ : Int32} {a1 : Int} (e_a1 : a1_ = zI a1) {g : uZ} {zr : uZ} (h : GF_X12_comes a1 g = some zr) : F_X12_comes a1_ (zS g) = some (zS zr) := by
  subst e_a1
  unfold GF_X12_comes at h
  unfold F_X12_comes
  refine lp_r em_2 zS (e_pair kz_24 rfl) (fun q r h => rB_X12_comes_2 rfl rfl h) h ?_
  clear h
  intro z h
  exact rC_X12_comes_3 h

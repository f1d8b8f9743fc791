theorem rF_X7_size {g : uZ} {zr : Int} (h : GF_X7_size g = some zr) : F_X7_size (zS g) = some (zI zr) := by
  unfold GF_X7_size at h
  unfold F_X7_size
  cases h
  rfl
theorem rJ_X7_has_2 {v3_ : Int32} {v3 : Int} (e_v3 : v3_ = zI v3) {zr : Int} (h : GJ_X7_has_2 v3 = some zr) : J_X7_has_2 v3_ = some (zI zr) := by
  subst e_v3
  unfold GJ_X7_has_2 at h
  unfold J_X7_has_2
  refine bz_r rfl h ?_
  clear h
  intro h
  cases h
  rfl
theorem rJ_X7_has_1 {zr : Int} (h : GJ_X7_has_1 = some zr) : J_X7_has_1 = some (zI zr) := by
  unfold GJ_X7_has_1 at h
  unfold J_X7_has_1
  exact rJ_X7_has_2 kz_0 h
theorem rF_X7_has {a1_ : Int32} {a1 : Int} (e_a1 : a1_ = zI a1) {g : uZ} {zr : Int} (h : GF_X7_has a1 g = some zr) : F_X7_has a1_ (zS g) = some (zI zr) := by
  subst e_a1
  unfold GF_X7_has at h
  unfold F_X7_has
  obtain ⟨hr1, h⟩ := ck_e h
  refine ite_r (c_lt rfl kz_0 hr1 ir_0) h ?_ ?_
  · clear h
    intro h
    exact rJ_X7_has_1 h
  · clear h
    intro h
    obtain ⟨hr2, h⟩ := ck_e h
    refine ite_r (c_le rfl rfl hr2 hr1) h ?_ ?_
    · clear h
      intro h
      exact rJ_X7_has_1 h
    · clear h
      intro h
      exact rJ_X7_has_2 kz_1 h
theorem rF_X7_hasRoom {a1_ : Int32} {a1 : Int} (e_a1 : a1_ = zI a1) {g : uZ} {zr : Int} (h : GF_X7_hasRoom a1 g = some zr) : F_X7_hasRoom a1_ (zS g) = some (zI zr) := by
  subst e_a1
  unfold GF_X7_hasRoom at h
  unfold F_X7_hasRoom
  obtain ⟨hr1, h⟩ := ck_e h
  refine lt_r (e_ite (c_lt kz_800 (e_add rfl rfl) ir_800 hr1) kz_0 kz_1) h ?_
  clear h
  intro v2 h
  refine bz_r rfl h ?_
  clear h
  intro h
  cases h
  rfl
theorem rJ_X7_at_2 {v4_ : Int32} {v4 : Int} (e_v4 : v4_ = zI v4) {zr : Int} (h : GJ_X7_at_2 v4 = some zr) : J_X7_at_2 v4_ = some (zI zr) := by
  subst e_v4
  unfold GJ_X7_at_2 at h
  unfold J_X7_at_2
  cases h
  rfl
theorem rJ_X7_at_1 {zr : Int} (h : GJ_X7_at_1 = some zr) : J_X7_at_1 = some (zI zr) := by
  unfold GJ_X7_at_1 at h
  unfold J_X7_at_1
  exact rJ_X7_at_2 kz_0 h
theorem rF_X7_at {a1_ : Int32} {a1 : Int} (e_a1 : a1_ = zI a1) {g : uZ} {zr : Int} (h : GF_X7_at a1 g = some zr) : F_X7_at a1_ (zS g) = some (zI zr) := by
  subst e_a1
  unfold GF_X7_at at h
  unfold F_X7_at
  obtain ⟨hr1, h⟩ := ck_e h
  refine ite_r (c_lt rfl kz_0 hr1 ir_0) h ?_ ?_
  · clear h
    intro h
    exact rJ_X7_at_1 h
  · clear h
    intro h
    obtain ⟨hr2, h⟩ := ck_e h
    refine ite_r (c_lt rfl rfl hr1 hr2) h ?_ ?_
    · clear h
      intro h
      refine rd_r (Nat.le_of_ble_eq_true rfl) rfl h ?_
      clear h
      intro v3 h
      exact rJ_X7_at_2 rfl h
    · clear h
      intro h
      exact rJ_X7_at_1 h
theorem rJ_X7_put_1 {g4 : uZ} {zr : uZ} (h : GJ_X7_put_1 g4 = some zr) : J_X7_put_1 (zS g4) = some (zS zr) := by
  unfold GJ_X7_put_1 at h
  unfold J_X7_put_1
  cases h
  rfl
theorem rF_X7_put {a1_ : Int32} {a1 : Int} (e_a1 : a1_ = zI a1) {a2_ : Int32} {a2 : Int} (e_a2 : a2_ = zI a2) {g : uZ} {zr : uZ} (h : GF_X7_put a1 a2 g = some zr) : F_X7_put a1_ a2_ (zS g) = some (zS zr) := by
  subst e_a1 e_a2
  unfold GF_X7_put at h
  unfold F_X7_put
  refine cp_r (e := zI) (fun _ h => rF_X7_has rfl h) h ?_
  clear h
  intro v1 h
  obtain ⟨hr1, h⟩ := ck_e h
  refine ite_r (c_eq rfl kz_0 hr1 ir_0) h ?_ ?_
  · clear h
    intro h
    exact rJ_X7_put_1 h
  · clear h
    intro h
    refine wr_r (Nat.le_of_ble_eq_true rfl) rfl rfl h ?_
    clear h
    intro g3 h
    exact rJ_X7_put_1 h
theorem rJ_X7_append_1 {g4 : uZ} {zr : uZ} (h : GJ_X7_append_1 g4 = some zr) : J_X7_append_1 (zS g4) = some (zS zr) := by
  unfold GJ_X7_append_1 at h
  unfold J_X7_append_1
  cases h
  rfl
theorem rF_X7_append {a1_ : Int32} {a1 : Int} (e_a1 : a1_ = zI a1) {g : uZ} {zr : uZ} (h : GF_X7_append a1 g = some zr) : F_X7_append a1_ (zS g) = some (zS zr) := by
  subst e_a1
  unfold GF_X7_append at h
  unfold F_X7_append
  obtain ⟨hr1, h⟩ := ck_e h
  refine ite_r (c_le kz_800 rfl ir_800 hr1) h ?_ ?_
  · clear h
    intro h
    exact rJ_X7_append_1 h
  · clear h
    intro h
    refine wr_r (Nat.le_of_ble_eq_true rfl) rfl rfl h ?_
    clear h
    intro g2 h
    refine pf_r (e_add rfl kz_1) h ?_
    clear h
    intro g3 h
    exact rJ_X7_append_1 h
theorem rF_J9_max_7cf53 {a1_ : Int32} {a1 : Int} (e_a1 : a1_ = zI a1) {a2_ : Int32} {a2 : Int} (e_a2 : a2_ = zI a2) {g : uZ} {zr : Int} (h : GF_J9_max_7cf53 a1 a2 g = some zr) : F_J9_max_7cf53 a1_ a2_ (zS g) = some (zI zr) := by
  subst e_a1 e_a2
  unfold GF_J9_max_7cf53 at h
  unfold F_J9_max_7cf53
  obtain ⟨hr1, h⟩ := ck_e h
  obtain ⟨hr2, h⟩ := ck_e h
  refine lt_r (e_ite (c_lt rfl rfl hr1 hr2) rfl rfl) h ?_
  clear h
  intro v2 h
  cases h
  rfl
theorem rF_X7_drop {a1_ : Int32} {a1 : Int} (e_a1 : a1_ = zI a1) {g : uZ} {zr : uZ} (h : GF_X7_drop a1 g = some zr) : F_X7_drop a1_ (zS g) = some (zS zr) := by
  subst e_a1
  unfold GF_X7_drop at h
  unfold F_X7_drop
  refine cp_r (e := zI) (fun _ h => rF_J9_max_7cf53 kz_0 (e_sub rfl rfl) h) h ?_
  clear h
  intro v1 h
  refine pf_r rfl h ?_
  clear h
  intro g2 h
  cases h
  rfl
theorem rB_X7_offItself_2 {a1_ : Int32} {a1 : Int} (e_a1 : a1_ = zI a1) {a2_ : Int32} {a2 : Int} (e_a2 : a2_ = zI a2) {a3_ : Int32} {a3 : Int} (e_a3 : a3_ = zI a3) {g : uZ} {w4_ : Int32} {w4 : Int} (e_w4 : w4_ = zI w4) {w5_ : Int32} {w5 : Int} (e_w5 : w5_ = zI w5) {zr : ((Int × Int) ⊕ Int)} (h : GB_X7_offItself_2 a1 a2 a3 g w4 w5 = some zr) : B_X7_offItself_2 a1_ a2_ a3_ (zS g) w4_ w5_ = some (em_1 zr) := by
  subst e_a1 e_a2 e_a3 e_w4 e_w5
  unfold GB_X7_offItself_2 at h
  unfold B_X7_offItself_2
  obtain ⟨hr1, h⟩ := ck_e h
  obtain ⟨hr2, h⟩ := ck_e h
  refine ite_r (c_le (e_add rfl rfl) rfl hr1 hr2) h ?_ ?_
  · clear h
    intro h
    cases h
    exact congrArg some (congrArg Sum.inr rfl)
  · clear h
    intro h
    refine rd_r (Nat.le_of_ble_eq_true rfl) rfl h ?_
    clear h
    intro v8 h
    refine rd_r (Nat.le_of_ble_eq_true rfl) (e_add rfl rfl) h ?_
    clear h
    intro v9 h
    refine lt_r (e_sub rfl rfl) h ?_
    clear h
    intro v10 h
    obtain ⟨hr3, h⟩ := ck_e h
    refine lt_r (e_ite (c_le kz_0 rfl ir_0 hr3) rfl (e_neg rfl)) h ?_
    clear h
    intro v12 h
    refine lt_r (e_add rfl rfl) h ?_
    clear h
    intro v13 h
    refine lt_r (e_add rfl kz_1) h ?_
    clear h
    intro v14 h
    cases h
    exact congrArg some (congrArg Sum.inl (e_pair rfl rfl))
theorem rC_X7_offItself_3 {v6_ : Int32} {v6 : Int} (e_v6 : v6_ = zI v6) {zr : Int} (h : GC_X7_offItself_3 v6 = some zr) : C_X7_offItself_3 v6_ = some (zI zr) := by
  subst e_v6
  unfold GC_X7_offItself_3 at h
  unfold C_X7_offItself_3
  cases h
  rfl
theorem rJ_X7_offItself_4 {zr : Int} (h : GJ_X7_offItself_4 = some zr) : J_X7_offItself_4 = some (zI zr) := by
  unfold GJ_X7_offItself_4 at h
  unfold J_X7_offItself_4
  cases h
  exact congrArg some kz_0
theorem rF_X7_offItself {a1_ : Int32} {a1 : Int} (e_a1 : a1_ = zI a1) {a2_ : Int32} {a2 : Int} (e_a2 : a2_ = zI a2) {a3_ : Int32} {a3 : Int} (e_a3 : a3_ = zI a3) {g : uZ} {zr : Int} (h : GF_X7_offItself a1 a2 a3 g = some zr) : F_X7_offItself a1_ a2_ a3_ (zS g) = some (zI zr) := by
  subst e_a1 e_a2 e_a3
  unfold GF_X7_offItself at h
  unfold F_X7_offItself
  obtain ⟨hr1, h⟩ := ck_e h
  refine ite_r (c_lt rfl kz_0 hr1 ir_0) h ?_ ?_
  · clear h
    intro h
    exact rJ_X7_offItself_4 h
  · clear h
    intro h
    obtain ⟨hr2, h⟩ := ck_e h
    refine ite_r (c_lt rfl kz_0 hr2 ir_0) h ?_ ?_
    · clear h
      intro h
      exact rJ_X7_offItself_4 h
    · clear h
      intro h
      obtain ⟨hr3, h⟩ := ck_e h
      obtain ⟨hr4, h⟩ := ck_e h
      refine ite_r (c_le (e_add (e_add rfl rfl) rfl) rfl hr3 hr4) h ?_ ?_
      · clear h
        intro h
        refine lp_r em_0 zI (e_pair kz_0 rfl) (fun q r h => rB_X7_offItself_2 rfl rfl rfl rfl rfl h) h ?_
        clear h
        intro z h
        exact rC_X7_offItself_3 rfl h
      · clear h
        intro h
        exact rJ_X7_offItself_4 h
theorem rF_J9_abs_0f7a4 {a1_ : Int32} {a1 : Int} (e_a1 : a1_ = zI a1) {g : uZ} {zr : Int} (h : GF_J9_abs_0f7a4 a1 g = some zr) : F_J9_abs_0f7a4 a1_ (zS g) = some (zI zr) := by
  subst e_a1
  unfold GF_J9_abs_0f7a4 at h
  unfold F_J9_abs_0f7a4
  obtain ⟨hr1, h⟩ := ck_e h
  refine lt_r (e_ite (c_le kz_0 rfl ir_0 hr1) rfl (e_neg rfl)) h ?_
  clear h
  intro v2 h
  cases h
  rfl
theorem rB_X7_loudness_2 {a1_ : Int32} {a1 : Int} (e_a1 : a1_ = zI a1) {a2_ : Int32} {a2 : Int} (e_a2 : a2_ = zI a2) {g : uZ} {w1_ : Int32} {w1 : Int} (e_w1 : w1_ = zI w1) {w2_ : Int32} {w2 : Int} (e_w2 : w2_ = zI w2) {zr : ((Int × Int) ⊕ Int)} (h : GB_X7_loudness_2 a1 a2 g w1 w2 = some zr) : B_X7_loudness_2 a1_ a2_ (zS g) w1_ w2_ = some (em_1 zr) := by
  subst e_a1 e_a2 e_w1 e_w2
  unfold GB_X7_loudness_2 at h
  unfold B_X7_loudness_2
  obtain ⟨hr1, h⟩ := ck_e h
  obtain ⟨hr2, h⟩ := ck_e h
  refine ite_r (c_le (e_add rfl rfl) rfl hr1 hr2) h ?_ ?_
  · clear h
    intro h
    cases h
    exact congrArg some (congrArg Sum.inr rfl)
  · clear h
    intro h
    refine cp_r (e := zI) (fun _ h => rF_X7_at rfl h) h ?_
    clear h
    intro v5 h
    refine cp_r (e := zI) (fun _ h => rF_J9_abs_0f7a4 rfl h) h ?_
    clear h
    intro v6 h
    refine lt_r (e_add rfl rfl) h ?_
    clear h
    intro v7 h
    refine lt_r (e_add rfl kz_1) h ?_
    clear h
    intro v8 h
    cases h
    exact congrArg some (congrArg Sum.inl (e_pair rfl rfl))
theorem rC_X7_loudness_3 {v3_ : Int32} {v3 : Int} (e_v3 : v3_ = zI v3) {zr : Int} (h : GC_X7_loudness_3 v3 = some zr) : C_X7_loudness_3 v3_ = some (zI zr) := by
  subst e_v3
  unfold GC_X7_loudness_3 at h
  unfold C_X7_loudness_3
  cases h
  rfl
theorem rF_X7_loudness {a1_ : Int32} {a1 : Int} (e_a1 : a1_ = zI a1) {a2_ : Int32} {a2 : Int} (e_a2 : a2_ = zI a2) {g : uZ} {zr : Int} (h : GF_X7_loudness a1 a2 g = some zr) : F_X7_loudness a1_ a2_ (zS g) = some (zI zr) := by
  subst e_a1 e_a2
  unfold GF_X7_loudness at h
  unfold F_X7_loudness
  refine lp_r em_0 zI (e_pair kz_0 rfl) (fun q r h => rB_X7_loudness_2 rfl rfl rfl rfl h) h ?_
  clear h
  intro z h
  exact rC_X7_loudness_3 rfl h
theorem rF_X7_tapeSize {g : uZ} {zr : Int} (h : GF_X7_tapeSize g = some zr) : F_X7_tapeSize (zS g) = some (zI zr) := by
  unfold GF_X7_tapeSize at h
  unfold F_X7_tapeSize
  cases h
  rfl
theorem rB_X7_tapeNumber_2 {a1_ : Int32} {a1 : Int} (e_a1 : a1_ = zI a1) {w1_ : Int32} {w1 : Int} (e_w1 : w1_ = zI w1) {g2 : uZ} {zr : ((Int × uZ) ⊕ uZ)} (h : GB_X7_tapeNumber_2 a1 w1 g2 = some zr) : B_X7_tapeNumber_2 a1_ w1_ (zS g2) = some (em_3 zr) := by
  subst e_a1 e_w1
  unfold GB_X7_tapeNumber_2 at h
  unfold B_X7_tapeNumber_2
  obtain ⟨hr1, h⟩ := ck_e h
  refine ite_r (c_lt rfl kz_0 hr1 ir_0) h ?_ ?_
  · clear h
    intro h
    cases h
    exact congrArg some (congrArg Sum.inr rfl)
  · clear h
    intro h
    obtain ⟨hr2, h⟩ := ck_e h
    refine ite_r (c_le kz_400 rfl ir_400 hr2) h ?_ ?_
    · clear h
      intro h
      cases h
      exact congrArg some (congrArg Sum.inr rfl)
    · clear h
      intro h
      refine wr_r (Nat.le_of_ble_eq_true rfl) rfl (zI_toInt _).symm h ?_
      clear h
      intro g6 h
      refine pf_r (e_add rfl kz_1) h ?_
      clear h
      intro g7 h
      refine lt_r (e_add rfl kz_m8) h ?_
      clear h
      intro v8 h
      cases h
      exact congrArg some (congrArg Sum.inl (e_pair rfl rfl))
theorem rC_X7_tapeNumber_3 {g3 : uZ} {zr : uZ} (h : GC_X7_tapeNumber_3 g3 = some zr) : C_X7_tapeNumber_3 (zS g3) = some (zS zr) := by
  unfold GC_X7_tapeNumber_3 at h
  unfold C_X7_tapeNumber_3
  cases h
  rfl
theorem rF_X7_tapeNumber {a1_ : Int32} {a1 : Int} (e_a1 : a1_ = zI a1) {g : uZ} {zr : uZ} (h : GF_X7_tapeNumber a1 g = some zr) : F_X7_tapeNumber a1_ (zS g) = some (zS zr) := by
  subst e_a1
  unfold GF_X7_tapeNumber at h
  unfold F_X7_tapeNumber
  refine lp_r em_2 zS (e_pair kz_24 rfl) (fun q r h => rB_X7_tapeNumber_2 rfl rfl h) h ?_
  clear h
  intro z h
  exact rC_X7_tapeNumber_3 h
theorem rB_X7_appendFromTape_2 {a1_ : Int32} {a1 : Int} (e_a1 : a1_ = zI a1) {w1_ : Int32} {w1 : Int} (e_w1 : w1_ = zI w1) {g2 : uZ} {zr : ((Int × uZ) ⊕ uZ)} (h : GB_X7_appendFromTape_2 a1 w1 g2 = some zr) : B_X7_appendFromTape_2 a1_ w1_ (zS g2) = some (em_3 zr) := by
  subst e_a1 e_w1
  unfold GB_X7_appendFromTape_2 at h
  unfold B_X7_appendFromTape_2
  obtain ⟨hr1, h⟩ := ck_e h
  obtain ⟨hr2, h⟩ := ck_e h
  refine ite_r (c_le rfl rfl hr1 hr2) h ?_ ?_
  · clear h
    intro h
    cases h
    exact congrArg some (congrArg Sum.inr rfl)
  · clear h
    intro h
    obtain ⟨hr3, h⟩ := ck_e h
    refine ite_r (c_le rfl rfl hr3 hr2) h ?_ ?_
    · clear h
      intro h
      cases h
      exact congrArg some (congrArg Sum.inr rfl)
    · clear h
      intro h
      refine rd_r (Nat.le_of_ble_eq_true rfl) rfl h ?_
      clear h
      intro v6 h
      refine cp_r (e := zS) (fun _ h => rF_X7_append rfl h) h ?_
      clear h
      intro g7 h
      refine lt_r (e_add rfl kz_1) h ?_
      clear h
      intro v8 h
      cases h
      exact congrArg some (congrArg Sum.inl (e_pair rfl rfl))
theorem rC_X7_appendFromTape_3 {g3 : uZ} {zr : uZ} (h : GC_X7_appendFromTape_3 g3 = some zr) : C_X7_appendFromTape_3 (zS g3) = some (zS zr) := by
  unfold GC_X7_appendFromTape_3 at h
  unfold C_X7_appendFromTape_3
  refine pf_r kz_0 h ?_
  clear h
  intro g9 h
  cases h
  rfl
theorem rF_X7_appendFromTape {a1_ : Int32} {a1 : Int} (e_a1 : a1_ = zI a1) {g : uZ} {zr : uZ} (h : GF_X7_appendFromTape a1 g = some zr) : F_X7_appendFromTape a1_ (zS g) = some (zS zr) := by
  subst e_a1
  unfold GF_X7_appendFromTape at h
  unfold F_X7_appendFromTape
  refine lp_r em_2 zS (e_pair kz_0 rfl) (fun q r h => rB_X7_appendFromTape_2 rfl rfl h) h ?_
  clear h
  intro z h
  exact rC_X7_appendFromTape_3 h
theorem rJ_X0_of_2 {v4_ : Int32} {v4 : Int} (e_v4 : v4_ = zI v4) {zr : Int} (h : GJ_X0_of_2 v4 = some zr) : J_X0_of_2 v4_ = some (zI zr) := by
  subst e_v4
  unfold GJ_X0_of_2 at h
  unfold J_X0_of_2
  cases h
  rfl
theorem rJ_X0_of_1 {zr : Int} (h : GJ_X0_of_1 = some zr) : J_X0_of_1 = some (zI zr) := by
  unfold GJ_X0_of_1 at h
  unfold J_X0_of_1
  exact rJ_X0_of_2 kz_0 h
theorem rF_X0_of {a1_ : Int32} {a1 : Int} (e_a1 : a1_ = zI a1) {g : uZ} {zr : Int} (h : GF_X0_of a1 g = some zr) : F_X0_of a1_ (zS g) = some (zI zr) := by
  subst e_a1
  unfold GF_X0_of at h
  unfold F_X0_of
  obtain ⟨hr1, h⟩ := ck_e h
  refine ite_r (c_lt rfl kz_2 hr1 ir_2) h ?_ ?_
  · clear h
    intro h
    exact rJ_X0_of_1 h
  · clear h
    intro h
    refine ite_r (c_le rfl kz_15 hr1 ir_15) h ?_ ?_
    · clear h
      intro h
      refine rd_r (Nat.le_of_ble_eq_true rfl) rfl h ?_
      clear h
      intro v3 h
      exact rJ_X0_of_2 rfl h
    · clear h
      intro h
      exact rJ_X0_of_1 h
theorem rJ_X0_allows_2 {v11_ : Int32} {v11 : Int} (e_v11 : v11_ = zI v11) {zr : Int} (h : GJ_X0_allows_2 v11 = some zr) : J_X0_allows_2 v11_ = some (zI zr) := by
  subst e_v11
  unfold GJ_X0_allows_2 at h
  unfold J_X0_allows_2
  refine bz_r rfl h ?_
  clear h
  intro h
  cases h
  rfl
theorem rJ_X0_allows_1 {zr : Int} (h : GJ_X0_allows_1 = some zr) : J_X0_allows_1 = some (zI zr) := by
  unfold GJ_X0_allows_1 at h
  unfold J_X0_allows_1
  exact rJ_X0_allows_2 kz_1 h
theorem rJ_X0_allows_3 {zr : Int} (h : GJ_X0_allows_3 = some zr) : J_X0_allows_3 = some (zI zr) := by
  unfold GJ_X0_allows_3 at h
  unfold J_X0_allows_3
  cases h
  exact congrArg some kz_0
theorem rF_X0_allows {a1_ : Int32} {a1 : Int} (e_a1 : a1_ = zI a1) {a2_ : Int32} {a2 : Int} (e_a2 : a2_ = zI a2) {g : uZ} {zr : Int} (h : GF_X0_allows a1 a2 g = some zr) : F_X0_allows a1_ a2_ (zS g) = some (zI zr) := by
  subst e_a1 e_a2
  unfold GF_X0_allows at h
  unfold F_X0_allows
  obtain ⟨hr1, h⟩ := ck_e h
  refine ite_r (c_lt rfl kz_2 hr1 ir_2) h ?_ ?_
  · clear h
    intro h
    exact rJ_X0_allows_3 h
  · clear h
    intro h
    refine ite_r (c_lt kz_15 rfl ir_15 hr1) h ?_ ?_
    · clear h
      intro h
      exact rJ_X0_allows_3 h
    · clear h
      intro h
      refine rd_rK (Nat.le_of_ble_eq_true rfl) u_least_k rfl h ?_
      clear h
      intro v3 h
      obtain ⟨hr2, h⟩ := ck_e h
      obtain ⟨hr3, h⟩ := ck_e h
      refine ite_r (c_lt rfl rfl hr2 hr3) h ?_ ?_
      · clear h
        intro h
        exact rJ_X0_allows_3 h
      · clear h
        intro h
        refine rd_rK (Nat.le_of_ble_eq_true rfl) u_most_k rfl h ?_
        clear h
        intro v5 h
        obtain ⟨hr4, h⟩ := ck_e h
        refine ite_r (c_le rfl rfl hr2 hr4) h ?_ ?_
        · clear h
          intro h
          refine ite_r (c_eq rfl kz_4 hr1 ir_4) h ?_ ?_
          · clear h
            intro h
            refine rd_r (Nat.le_of_ble_eq_true rfl) kz_5 h ?_
            clear h
            intro v12 h
            obtain ⟨hr5, h⟩ := ck_e h
            refine lt_r (e_ite (c_le rfl rfl hr5 hr2) kz_0 kz_1) h ?_
            clear h
            intro v14 h
            refine bz_r rfl h ?_
            clear h
            intro h
            cases h
            rfl
          · clear h
            intro h
            refine ite_r (c_eq rfl kz_5 hr1 ir_5) h ?_ ?_
            · clear h
              intro h
              refine rd_r (Nat.le_of_ble_eq_true rfl) kz_4 h ?_
              clear h
              intro v9 h
              obtain ⟨hr6, h⟩ := ck_e h
              refine ite_r (c_le rfl rfl hr2 hr6) h ?_ ?_
              · clear h
                intro h
                exact rJ_X0_allows_2 kz_0 h
              · clear h
                intro h
                exact rJ_X0_allows_1 h
            · clear h
              intro h
              exact rJ_X0_allows_1 h
        · clear h
          intro h
          exact rJ_X0_allows_3 h
theorem rJ_X0_put_1 {g4 : uZ} {zr : uZ} (h : GJ_X0_put_1 g4 = some zr) : J_X0_put_1 (zS g4) = some (zS zr) := by
  unfold GJ_X0_put_1 at h
  unfold J_X0_put_1
  cases h
  rfl
theorem rF_X0_put {a1_ : Int32} {a1 : Int} (e_a1 : a1_ = zI a1) {a2_ : Int32} {a2 : Int} (e_a2 : a2_ = zI a2) {g : uZ} {zr : uZ} (h : GF_X0_put a1 a2 g = some zr) : F_X0_put a1_ a2_ (zS g) = some (zS zr) := by
  subst e_a1 e_a2
  unfold GF_X0_put at h
  unfold F_X0_put
  refine cp_r (e := zI) (fun _ h => rF_X0_allows rfl rfl h) h ?_
  clear h
  intro v1 h
  obtain ⟨hr1, h⟩ := ck_e h
  refine ite_r (c_eq rfl kz_0 hr1 ir_0) h ?_ ?_
  · clear h
    intro h
    exact rJ_X0_put_1 h
  · clear h
    intro h
    refine wr_r (Nat.le_of_ble_eq_true rfl) rfl rfl h ?_
    clear h
    intro g3 h
    exact rJ_X0_put_1 h
theorem rF_X9_set_17 {a1_ : Int32} {a1 : Int} (e_a1 : a1_ = zI a1) {a2_ : Int32} {a2 : Int} (e_a2 : a2_ = zI a2) {a3_ : Int32} {a3 : Int} (e_a3 : a3_ = zI a3) {g : uZ} {zr : uZ} (h : GF_X9_set_17 a1 a2 a3 g = some zr) : F_X9_set_17 a1_ a2_ a3_ (zS g) = some (zS zr) := by
  subst e_a1 e_a2 e_a3
  unfold GF_X9_set_17 at h
  unfold F_X9_set_17
  refine pf_r rfl h ?_
  clear h
  intro g1 h
  refine pf_r rfl h ?_
  clear h
  intro g2 h
  refine pf_r rfl h ?_
  clear h
  intro g3 h
  cases h
  rfl
theorem rF_X9_set_18 {a1_ : Int32} {a1 : Int} (e_a1 : a1_ = zI a1) {a2_ : Int32} {a2 : Int} (e_a2 : a2_ = zI a2) {a3_ : Int32} {a3 : Int} (e_a3 : a3_ = zI a3) {g : uZ} {zr : uZ} (h : GF_X9_set_18 a1 a2 a3 g = some zr) : F_X9_set_18 a1_ a2_ a3_ (zS g) = some (zS zr) := by
  subst e_a1 e_a2 e_a3
  unfold GF_X9_set_18 at h
  unfold F_X9_set_18
  refine pf_r rfl h ?_
  clear h
  intro g1 h
  refine pf_r rfl h ?_
  clear h
  intro g2 h
  refine pf_r rfl h ?_
  clear h
  intro g3 h
  cases h
  rfl
theorem rF_X9_set_28 {a1_ : Int32} {a1 : Int} (e_a1 : a1_ = zI a1) {a2_ : Int32} {a2 : Int} (e_a2 : a2_ = zI a2) {a3_ : Int32} {a3 : Int} (e_a3 : a3_ = zI a3) {g : uZ} {zr : uZ} (h : GF_X9_set_28 a1 a2 a3 g = some zr) : F_X9_set_28 a1_ a2_ a3_ (zS g) = some (zS zr) := by
  subst e_a1 e_a2 e_a3
  unfold GF_X9_set_28 at h
  unfold F_X9_set_28
  refine pf_r rfl h ?_
  clear h
  intro g1 h
  refine pf_r rfl h ?_
  clear h
  intro g2 h
  refine pf_r rfl h ?_
  clear h
  intro g3 h
  cases h
  rfl
theorem rJ_X9_price_17_1 {a1_ : Int32} {a1 : Int} (e_a1 : a1_ = zI a1) {a2_ : Int32} {a2 : Int} (e_a2 : a2_ = zI a2) {g : uZ} {zr : Int} (h : GJ_X9_price_17_1 a1 a2 g = some zr) : J_X9_price_17_1 a1_ a2_ (zS g) = some (zI zr) := by
  subst e_a1 e_a2
  unfold GJ_X9_price_17_1 at h
  unfold J_X9_price_17_1
  obtain ⟨hr1, h⟩ := ck_e h
  obtain ⟨hr2, h⟩ := ck_e h
  refine lt_r (e_ite (c_eq rfl rfl hr1 hr2) kz_0 rfl) h ?_
  clear h
  intro v10 h
  cases h
  rfl
theorem rF_X9_price_17 {a1_ : Int32} {a1 : Int} (e_a1 : a1_ = zI a1) {a2_ : Int32} {a2 : Int} (e_a2 : a2_ = zI a2) {g : uZ} {zr : Int} (h : GF_X9_price_17 a1 a2 g = some zr) : F_X9_price_17 a1_ a2_ (zS g) = some (zI zr) := by
  subst e_a1 e_a2
  unfold GF_X9_price_17 at h
  unfold F_X9_price_17
  obtain ⟨hr1, h⟩ := ck_e h
  refine ite_r (c_eq rfl kz_0 hr1 ir_0) h ?_ ?_
  · clear h
    intro h
    exact rJ_X9_price_17_1 rfl rfl h
  · clear h
    intro h
    obtain ⟨hr2, h⟩ := ck_e h
    refine ite_r (c_eq rfl kz_0 hr2 ir_0) h ?_ ?_
    · clear h
      intro h
      exact rJ_X9_price_17_1 rfl rfl h
    · clear h
      intro h
      refine lt_r (e_ite (c_le rfl rfl hr1 hr2) rfl rfl) h ?_
      clear h
      intro v4 h
      refine lt_r (e_ite (c_le rfl rfl hr1 hr2) rfl rfl) h ?_
      clear h
      intro v6 h
      obtain ⟨hr3, h⟩ := ck_e h
      obtain ⟨hr4, h⟩ := ck_e h
      refine lt_r (e_ite (c_lt rfl (e_sub (e_mul kz_2 rfl) kz_1) hr3 hr4) kz_0 rfl) h ?_
      clear h
      intro v8 h
      cases h
      exact congrArg some (e_add (e_mul rfl (e_sub rfl rfl)) rfl)
theorem rJ_X9_price_18_1 {a1_ : Int32} {a1 : Int} (e_a1 : a1_ = zI a1) {a2_ : Int32} {a2 : Int} (e_a2 : a2_ = zI a2) {g : uZ} {zr : Int} (h : GJ_X9_price_18_1 a1 a2 g = some zr) : J_X9_price_18_1 a1_ a2_ (zS g) = some (zI zr) := by
  subst e_a1 e_a2
  unfold GJ_X9_price_18_1 at h
  unfold J_X9_price_18_1
  obtain ⟨hr1, h⟩ := ck_e h
  obtain ⟨hr2, h⟩ := ck_e h
  refine lt_r (e_ite (c_eq rfl rfl hr1 hr2) kz_0 rfl) h ?_
  clear h
  intro v10 h
  cases h
  rfl
theorem rF_X9_price_18 {a1_ : Int32} {a1 : Int} (e_a1 : a1_ = zI a1) {a2_ : Int32} {a2 : Int} (e_a2 : a2_ = zI a2) {g : uZ} {zr : Int} (h : GF_X9_price_18 a1 a2 g = some zr) : F_X9_price_18 a1_ a2_ (zS g) = some (zI zr) := by
  subst e_a1 e_a2
  unfold GF_X9_price_18 at h
  unfold F_X9_price_18
  obtain ⟨hr1, h⟩ := ck_e h
  refine ite_r (c_eq rfl kz_0 hr1 ir_0) h ?_ ?_
  · clear h
    intro h
    exact rJ_X9_price_18_1 rfl rfl h
  · clear h
    intro h
    obtain ⟨hr2, h⟩ := ck_e h
    refine ite_r (c_eq rfl kz_0 hr2 ir_0) h ?_ ?_
    · clear h
      intro h
      exact rJ_X9_price_18_1 rfl rfl h
    · clear h
      intro h
      refine lt_r (e_ite (c_le rfl rfl hr1 hr2) rfl rfl) h ?_
      clear h
      intro v4 h
      refine lt_r (e_ite (c_le rfl rfl hr1 hr2) rfl rfl) h ?_
      clear h
      intro v6 h
      obtain ⟨hr3, h⟩ := ck_e h
      obtain ⟨hr4, h⟩ := ck_e h
      refine lt_r (e_ite (c_lt rfl (e_sub (e_mul kz_2 rfl) kz_1) hr3 hr4) kz_0 rfl) h ?_
      clear h
      intro v8 h
      cases h
      exact congrArg some (e_add (e_mul rfl (e_sub rfl rfl)) rfl)
theorem rJ_X9_price_28_1 {a1_ : Int32} {a1 : Int} (e_a1 : a1_ = zI a1) {a2_ : Int32} {a2 : Int} (e_a2 : a2_ = zI a2) {g : uZ} {zr : Int} (h : GJ_X9_price_28_1 a1 a2 g = some zr) : J_X9_price_28_1 a1_ a2_ (zS g) = some (zI zr) := by
  subst e_a1 e_a2
  unfold GJ_X9_price_28_1 at h
  unfold J_X9_price_28_1
  obtain ⟨hr1, h⟩ := ck_e h
  obtain ⟨hr2, h⟩ := ck_e h
  refine lt_r (e_ite (c_eq rfl rfl hr1 hr2) kz_0 rfl) h ?_
  clear h
  intro v10 h
  cases h
  rfl
theorem rF_X9_price_28 {a1_ : Int32} {a1 : Int} (e_a1 : a1_ = zI a1) {a2_ : Int32} {a2 : Int} (e_a2 : a2_ = zI a2) {g : uZ} {zr : Int} (h : GF_X9_price_28 a1 a2 g = some zr) : F_X9_price_28 a1_ a2_ (zS g) = some (zI zr) := by
  subst e_a1 e_a2
  unfold GF_X9_price_28 at h
  unfold F_X9_price_28
  obtain ⟨hr1, h⟩ := ck_e h
  refine ite_r (c_eq rfl kz_0 hr1 ir_0) h ?_ ?_
  · clear h
    intro h
    exact rJ_X9_price_28_1 rfl rfl h
  · clear h
    intro h
    obtain ⟨hr2, h⟩ := ck_e h
    refine ite_r (c_eq rfl kz_0 hr2 ir_0) h ?_ ?_
    · clear h
      intro h
      exact rJ_X9_price_28_1 rfl rfl h
    · clear h
      intro h
      refine lt_r (e_ite (c_le rfl rfl hr1 hr2) rfl rfl) h ?_
      clear h
      intro v4 h
      refine lt_r (e_ite (c_le rfl rfl hr1 hr2) rfl rfl) h ?_
      clear h
      intro v6 h
      obtain ⟨hr3, h⟩ := ck_e h
      obtain ⟨hr4, h⟩ := ck_e h
      refine lt_r (e_ite (c_lt rfl (e_sub (e_mul kz_2 rfl) kz_1) hr3 hr4) kz_0 rfl) h ?_
      clear h
      intro v8 h
      cases h
      exact congrArg some (e_add (e_mul rfl (e_sub rfl rfl)) rfl)
theorem rF_X2_reach {g : uZ} {zr : Int} (h : GF_X2_reach g = some zr) : F_X2_reach (zS g) = some (zI zr) := by
  unfold GF_X2_reach at h
  unfold F_X2_reach
  refine cp_r (e := zI) (fun _ h => rF_X0_of kz_3 h) h ?_
  clear h
  intro v1 h
  refine cp_r (e := zI) (fun _ h => rF_X0_of kz_5 h) h ?_
  clear h
  intro v2 h
  cases h
  exact congrArg some (e_add (e_add rfl rfl) kz_1)
theorem rJ_J9_floorDiv_7cf53_1 {v1_ : Int32} {v1 : Int} (e_v1 : v1_ = zI v1) {zr : Int} (h : GJ_J9_floorDiv_7cf53_1 v1 = some zr) : J_J9_floorDiv_7cf53_1 v1_ = some (zI zr) := by
  subst e_v1
  unfold GJ_J9_floorDiv_7cf53_1 at h
  unfold J_J9_floorDiv_7cf53_1
  cases h
  rfl
theorem rF_J9_floorDiv_7cf53 {a1_ : Int32} {a1 : Int} (e_a1 : a1_ = zI a1) {a2_ : Int32} {a2 : Int} (e_a2 : a2_ = zI a2) {g : uZ} {zr : Int} (h : GF_J9_floorDiv_7cf53 a1 a2 g = some zr) : F_J9_floorDiv_7cf53 a1_ a2_ (zS g) = some (zI zr) := by
  subst e_a1 e_a2
  unfold GF_J9_floorDiv_7cf53 at h
  unfold F_J9_floorDiv_7cf53
  refine dv_r rfl rfl h ?_
  clear h
  intro v1 h
  obtain ⟨hr1, h⟩ := ck_e h
  refine ite_r (c_le kz_0 (zI_toInt _).symm ir_0 hr1) h ?_ ?_
  · clear h
    intro h
    exact rJ_J9_floorDiv_7cf53_1 rfl h
  · clear h
    intro h
    obtain ⟨hr2, h⟩ := ck_e h
    obtain ⟨hr3, h⟩ := ck_e h
    refine ite_r (c_eq (e_mul rfl rfl) rfl hr2 hr3) h ?_ ?_
    · clear h
      intro h
      exact rJ_J9_floorDiv_7cf53_1 rfl h
    · clear h
      intro h
      cases h
      exact congrArg some (e_sub rfl kz_1)
theorem rJ_X11_quotient_1 {v3_ : Int32} {v3 : Int} (e_v3 : v3_ = zI v3) {zr : Int} (h : GJ_X11_quotient_1 v3 = some zr) : J_X11_quotient_1 v3_ = some (zI zr) := by
  subst e_v3
  unfold GJ_X11_quotient_1 at h
  unfold J_X11_quotient_1
  cases h
  rfl
theorem rF_X11_quotient {a1_ : Int32} {a1 : Int} (e_a1 : a1_ = zI a1) {a2_ : Int32} {a2 : Int} (e_a2 : a2_ = zI a2) {g : uZ} {zr : Int} (h : GF_X11_quotient a1 a2 g = some zr) : F_X11_quotient a1_ a2_ (zS g) = some (zI zr) := by
  subst e_a1 e_a2
  unfold GF_X11_quotient at h
  unfold F_X11_quotient
  obtain ⟨hr1, h⟩ := ck_e h
  refine ite_r (c_lt kz_0 rfl ir_0 hr1) h ?_ ?_
  · clear h
    intro h
    refine cp_r (e := zI) (fun _ h => rF_J9_floorDiv_7cf53 rfl rfl h) h ?_
    clear h
    intro v2 h
    exact rJ_X11_quotient_1 rfl h
  · clear h
    intro h
    exact rJ_X11_quotient_1 kz_0 h
theorem rF_J9_min_7cf53 {a1_ : Int32} {a1 : Int} (e_a1 : a1_ = zI a1) {a2_ : Int32} {a2 : Int} (e_a2 : a2_ = zI a2) {g : uZ} {zr : Int} (h : GF_J9_min_7cf53 a1 a2 g = some zr) : F_J9_min_7cf53 a1_ a2_ (zS g) = some (zI zr) := by
  subst e_a1 e_a2
  unfold GF_J9_min_7cf53 at h
  unfold F_J9_min_7cf53
  obtain ⟨hr1, h⟩ := ck_e h
  obtain ⟨hr2, h⟩ := ck_e h
  refine lt_r (e_ite (c_lt rfl rfl hr1 hr2) rfl rfl) h ?_
  clear h
  intro v2 h
  cases h
  rfl
theorem rJ_X2_size_1 {v8_ : Int32} {v8 : Int} (e_v8 : v8_ = zI v8) {zr : Int} (h : GJ_X2_size_1 v8 = some zr) : J_X2_size_1 v8_ = some (zI zr) := by
  subst e_v8
  unfold GJ_X2_size_1 at h
  unfold J_X2_size_1
  cases h
  rfl
theorem rF_X2_size {g : uZ} {zr : Int} (h : GF_X2_size g = some zr) : F_X2_size (zS g) = some (zI zr) := by
  unfold GF_X2_size at h
  unfold F_X2_size
  refine cp_r (e := zI) (fun _ h => rF_X7_size h) h ?_
  clear h
  intro v1 h
  refine cp_r (e := zI) (fun _ h => rF_X2_reach h) h ?_
  clear h
  intro v2 h
  refine lt_r (e_sub rfl rfl) h ?_
  clear h
  intro v3 h
  obtain ⟨hr1, h⟩ := ck_e h
  refine ite_r (c_le kz_0 rfl ir_0 hr1) h ?_ ?_
  · clear h
    intro h
    refine cp_r (e := zI) (fun _ h => rF_X0_of kz_2 h) h ?_
    clear h
    intro v5 h
    refine cp_r (e := zI) (fun _ h => rF_X11_quotient rfl rfl h) h ?_
    clear h
    intro v6 h
    refine cp_r (e := zI) (fun _ h => rF_J9_min_7cf53 kz_100 (e_add rfl kz_1) h) h ?_
    clear h
    intro v7 h
    exact rJ_X2_size_1 rfl h
  · clear h
    intro h
    exact rJ_X2_size_1 kz_0 h
theorem rJ_X2_has_2 {v4_ : Int32} {v4 : Int} (e_v4 : v4_ = zI v4) {zr : Int} (h : GJ_X2_has_2 v4 = some zr) : J_X2_has_2 v4_ = some (zI zr) := by
  subst e_v4
  unfold GJ_X2_has_2 at h
  unfold J_X2_has_2
  refine bz_r rfl h ?_
  clear h
  intro h
  cases h
  rfl
theorem rJ_X2_has_1 {zr : Int} (h : GJ_X2_has_1 = some zr) : J_X2_has_1 = some (zI zr) := by
  unfold GJ_X2_has_1 at h
  unfold J_X2_has_1
  exact rJ_X2_has_2 kz_0 h
theorem rF_X2_has {a1_ : Int32} {a1 : Int} (e_a1 : a1_ = zI a1) {g : uZ} {zr : Int} (h : GF_X2_has a1 g = some zr) : F_X2_has a1_ (zS g) = some (zI zr) := by
  subst e_a1
  unfold GF_X2_has at h
  unfold F_X2_has
  obtain ⟨hr1, h⟩ := ck_e h
  refine ite_r (c_lt rfl kz_0 hr1 ir_0) h ?_ ?_
  · clear h
    intro h
    exact rJ_X2_has_1 h
  · clear h
    intro h
    refine cp_r (e := zI) (fun _ h => rF_X2_size h) h ?_
    clear h
    intro v2 h
    obtain ⟨hr2, h⟩ := ck_e h
    refine ite_r (c_le rfl rfl hr2 hr1) h ?_ ?_
    · clear h
      intro h
      exact rJ_X2_has_1 h
    · clear h
      intro h
      exact rJ_X2_has_2 kz_1 h
theorem rJ_X2_diffAt_1 {zr : Int} (h : GJ_X2_diffAt_1 = some zr) : J_X2_diffAt_1 = some (zI zr) := by
  unfold GJ_X2_diffAt_1 at h
  unfold J_X2_diffAt_1
  cases h
  exact congrArg some kz_0
theorem rF_X2_diffAt {a1_ : Int32} {a1 : Int} (e_a1 : a1_ = zI a1) {a2_ : Int32} {a2 : Int} (e_a2 : a2_ = zI a2) {g : uZ} {zr : Int} (h : GF_X2_diffAt a1 a2 g = some zr) : F_X2_diffAt a1_ a2_ (zS g) = some (zI zr) := by
  subst e_a1 e_a2
  unfold GF_X2_diffAt at h
  unfold F_X2_diffAt
  obtain ⟨hr1, h⟩ := ck_e h
  refine ite_r (c_lt rfl kz_0 hr1 ir_0) h ?_ ?_
  · clear h
    intro h
    exact rJ_X2_diffAt_1 h
  · clear h
    intro h
    refine ite_r (c_le kz_100 rfl ir_100 hr1) h ?_ ?_
    · clear h
      intro h
      exact rJ_X2_diffAt_1 h
    · clear h
      intro h
      obtain ⟨hr2, h⟩ := ck_e h
      refine ite_r (c_lt rfl kz_0 hr2 ir_0) h ?_ ?_
      · clear h
        intro h
        exact rJ_X2_diffAt_1 h
      · clear h
        intro h
        refine ite_r (c_lt rfl kz_50 hr2 ir_50) h ?_ ?_
        · clear h
          intro h
          refine rd_r (Nat.le_of_ble_eq_true rfl) (e_add (e_mul rfl kz_50) rfl) h ?_
          clear h
          intro v5 h
          cases h
          rfl
        · clear h
          intro h
          exact rJ_X2_diffAt_1 h
theorem rJ_X2_relAt_1 {zr : Int} (h : GJ_X2_relAt_1 = some zr) : J_X2_relAt_1 = some (zI zr) := by
  unfold GJ_X2_relAt_1 at h
  unfold J_X2_relAt_1
  cases h
  exact congrArg some kz_0
theorem rF_X2_relAt {a1_ : Int32} {a1 : Int} (e_a1 : a1_ = zI a1) {a2_ : Int32} {a2 : Int} (e_a2 : a2_ = zI a2) {g : uZ} {zr : Int} (h : GF_X2_relAt a1 a2 g = some zr) : F_X2_relAt a1_ a2_ (zS g) = some (zI zr) := by
  subst e_a1 e_a2
  unfold GF_X2_relAt at h
  unfold F_X2_relAt
  obtain ⟨hr1, h⟩ := ck_e h
  refine ite_r (c_lt rfl kz_0 hr1 ir_0) h ?_ ?_
  · clear h
    intro h
    exact rJ_X2_relAt_1 h
  · clear h
    intro h
    refine ite_r (c_le kz_100 rfl ir_100 hr1) h ?_ ?_
    · clear h
      intro h
      exact rJ_X2_relAt_1 h
    · clear h
      intro h
      obtain ⟨hr2, h⟩ := ck_e h
      refine ite_r (c_lt rfl kz_0 hr2 ir_0) h ?_ ?_
      · clear h
        intro h
        exact rJ_X2_relAt_1 h
      · clear h
        intro h
        refine ite_r (c_lt rfl kz_50 hr2 ir_50) h ?_ ?_
        · clear h
          intro h
          refine rd_r (Nat.le_of_ble_eq_true rfl) (e_add (e_mul rfl kz_50) rfl) h ?_
          clear h
          intro v5 h
          cases h
          rfl
        · clear h
          intro h
          exact rJ_X2_relAt_1 h
theorem rJ_X2_loudAt_2 {v4_ : Int32} {v4 : Int} (e_v4 : v4_ = zI v4) {zr : Int} (h : GJ_X2_loudAt_2 v4 = some zr) : J_X2_loudAt_2 v4_ = some (zI zr) := by
  subst e_v4
  unfold GJ_X2_loudAt_2 at h
  unfold J_X2_loudAt_2
  cases h
  rfl
theorem rJ_X2_loudAt_1 {zr : Int} (h : GJ_X2_loudAt_1 = some zr) : J_X2_loudAt_1 = some (zI zr) := by
  unfold GJ_X2_loudAt_1 at h
  unfold J_X2_loudAt_1
  exact rJ_X2_loudAt_2 kz_0 h
theorem rF_X2_loudAt {a1_ : Int32} {a1 : Int} (e_a1 : a1_ = zI a1) {g : uZ} {zr : Int} (h : GF_X2_loudAt a1 g = some zr) : F_X2_loudAt a1_ (zS g) = some (zI zr) := by
  subst e_a1
  unfold GF_X2_loudAt at h
  unfold F_X2_loudAt
  obtain ⟨hr1, h⟩ := ck_e h
  refine ite_r (c_lt rfl kz_0 hr1 ir_0) h ?_ ?_
  · clear h
    intro h
    exact rJ_X2_loudAt_1 h
  · clear h
    intro h
    refine ite_r (c_lt rfl kz_100 hr1 ir_100) h ?_ ?_
    · clear h
      intro h
      refine rd_r (Nat.le_of_ble_eq_true rfl) rfl h ?_
      clear h
      intro v3 h
      exact rJ_X2_loudAt_2 rfl h
    · clear h
      intro h
      exact rJ_X2_loudAt_1 h
theorem rJ_X2_measure_2 {a1_ : Int32} {a1 : Int} (e_a1 : a1_ = zI a1) {v16_ : Int32} {v16 : Int} (e_v16 : v16_ = zI v16) {w11_ : Int32} {w11 : Int} (e_w11 : w11_ = zI w11) {g17 : uZ} {v20_ : Int32} {v20 : Int} (e_v20 : v20_ = zI v20) {zr : ((Int × (Int × uZ)) ⊕ uZ)} (h : GJ_X2_measure_2 a1 v16 w11 g17 v20 = some zr) : J_X2_measure_2 a1_ v16_ w11_ (zS g17) v20_ = some (em_5 zr) := by
  subst e_a1 e_v16 e_w11 e_v20
  unfold GJ_X2_measure_2 at h
  unfold J_X2_measure_2
  refine wr_r (Nat.le_of_ble_eq_true rfl) (e_add (e_mul rfl kz_50) rfl) rfl h ?_
  clear h
  intro g21 h
  refine lt_r (e_add rfl kz_1) h ?_
  clear h
  intro v22 h
  cases h
  exact congrArg some (congrArg Sum.inl (e_pair rfl (e_pair rfl rfl)))
theorem rB_X2_measure_3 {a1_ : Int32} {a1 : Int} (e_a1 : a1_ = zI a1) {v6_ : Int32} {v6 : Int} (e_v6 : v6_ = zI v6) {v7_ : Int32} {v7 : Int} (e_v7 : v7_ = zI v7) {v9_ : Int32} {v9 : Int} (e_v9 : v9_ = zI v9) {w10_ : Int32} {w10 : Int} (e_w10 : w10_ = zI w10) {w11_ : Int32} {w11 : Int} (e_w11 : w11_ = zI w11) {g12 : uZ} {zr : ((Int × (Int × uZ)) ⊕ uZ)} (h : GB_X2_measure_3 a1 v6 v7 v9 w10 w11 g12 = some zr) : B_X2_measure_3 a1_ v6_ v7_ v9_ w10_ w11_ (zS g12) = some (em_5 zr) := by
  subst e_a1 e_v6 e_v7 e_v9 e_w10 e_w11
  unfold GB_X2_measure_3 at h
  unfold B_X2_measure_3
  obtain ⟨hr1, h⟩ := ck_e h
  obtain ⟨hr2, h⟩ := ck_e h
  refine ite_r (c_le rfl rfl hr1 hr2) h ?_ ?_
  · clear h
    intro h
    cases h
    exact congrArg some (congrArg Sum.inr rfl)
  · clear h
    intro h
    refine cp_r (e := zI) (fun _ h => rF_X7_offItself rfl rfl rfl h) h ?_
    clear h
    intro v15 h
    refine lt_r (e_add rfl rfl) h ?_
    clear h
    intro v16 h
    refine wr_r (Nat.le_of_ble_eq_true rfl) (e_add (e_mul rfl kz_50) rfl) rfl h ?_
    clear h
    intro g17 h
    obtain ⟨hr3, h⟩ := ck_e h
    refine ite_r (c_eq rfl kz_0 hr3 ir_0) h ?_ ?_
    · clear h
      intro h
      exact rJ_X2_measure_2 rfl rfl rfl kz_1000 h
    · clear h
      intro h
      refine cp_r (e := zI) (fun _ h => rF_X11_quotient (e_mul (e_mul kz_1000 rfl) rfl) rfl h) h ?_
      clear h
      intro v19 h
      exact rJ_X2_measure_2 rfl rfl rfl rfl h
theorem rC_X2_measure_4 {a1_ : Int32} {a1 : Int} (e_a1 : a1_ = zI a1) {v6_ : Int32} {v6 : Int} (e_v6 : v6_ = zI v6) {v7_ : Int32} {v7 : Int} (e_v7 : v7_ = zI v7) {g13 : uZ} {zr : uZ} (h : GC_X2_measure_4 a1 v6 v7 g13 = some zr) : C_X2_measure_4 a1_ v6_ v7_ (zS g13) = some (zS zr) := by
  subst e_a1 e_v6 e_v7
  unfold GC_X2_measure_4 at h
  unfold C_X2_measure_4
  refine cp_r (e := zI) (fun _ h => rF_X7_loudness rfl rfl h) h ?_
  clear h
  intro v23 h
  refine wr_r (Nat.le_of_ble_eq_true rfl) rfl rfl h ?_
  clear h
  intro g24 h
  refine wr_r (Nat.le_of_ble_eq_true rfl) rfl (zI_toInt _).symm h ?_
  clear h
  intro g25 h
  cases h
  rfl
theorem rJ_X2_measure_5 {g : uZ} {zr : uZ} (h : GJ_X2_measure_5 g = some zr) : J_X2_measure_5 (zS g) = some (zS zr) := by
  unfold GJ_X2_measure_5 at h
  unfold J_X2_measure_5
  cases h
  rfl
theorem rF_X2_measure {a1_ : Int32} {a1 : Int} (e_a1 : a1_ = zI a1) {g : uZ} {zr : uZ} (h : GF_X2_measure a1 g = some zr) : F_X2_measure a1_ (zS g) = some (zS zr) := by
  subst e_a1
  unfold GF_X2_measure at h
  unfold F_X2_measure
  obtain ⟨hr1, h⟩ := ck_e h
  refine ite_r (c_lt rfl kz_0 hr1 ir_0) h ?_ ?_
  · clear h
    intro h
    exact rJ_X2_measure_5 h
  · clear h
    intro h
    refine ite_r (c_le kz_100 rfl ir_100 hr1) h ?_ ?_
    · clear h
      intro h
      exact rJ_X2_measure_5 h
    · clear h
      intro h
      refine rd_r (Nat.le_of_ble_eq_true rfl) rfl h ?_
      clear h
      intro v3 h
      obtain ⟨hr2, h⟩ := ck_e h
      refine ite_r (c_eq rfl kz_0 hr2 ir_0) h ?_ ?_
      · clear h
        intro h
        refine cp_r (e := zI) (fun _ h => rF_X0_of kz_2 h) h ?_
        clear h
        intro v5 h
        refine lt_r (e_mul rfl rfl) h ?_
        clear h
        intro v6 h
        refine cp_r (e := zI) (fun _ h => rF_X0_of kz_3 h) h ?_
        clear h
        intro v7 h
        refine cp_r (e := zI) (fun _ h => rF_X0_of kz_5 h) h ?_
        clear h
        intro v8 h
        refine cp_r (e := zI) (fun _ h => rF_J9_min_7cf53 kz_50 (e_add rfl kz_2) h) h ?_
        clear h
        intro v9 h
        refine lp_r em_4 zS (e_pair kz_0 (e_pair kz_0 rfl)) (fun q r h => rB_X2_measure_3 rfl rfl rfl rfl rfl rfl h) h ?_
        clear h
        intro z h
        exact rC_X2_measure_4 rfl rfl rfl h
      · clear h
        intro h
        exact rJ_X2_measure_5 h
theorem rB_X2_find_2 {v1_ : Int32} {v1 : Int} (e_v1 : v1_ = zI v1) {w2_ : Int32} {w2 : Int} (e_w2 : w2_ = zI w2) {g3 : uZ} {zr : ((Int × uZ) ⊕ uZ)} (h : GB_X2_find_2 v1 w2 g3 = some zr) : B_X2_find_2 v1_ w2_ (zS g3) = some (em_3 zr) := by
  subst e_v1 e_w2
  unfold GB_X2_find_2 at h
  unfold B_X2_find_2
  obtain ⟨hr1, h⟩ := ck_e h
  obtain ⟨hr2, h⟩ := ck_e h
  refine ite_r (c_le rfl rfl hr1 hr2) h ?_ ?_
  · clear h
    intro h
    cases h
    exact congrArg some (congrArg Sum.inr rfl)
  · clear h
    intro h
    refine cp_r (e := zS) (fun _ h => rF_X2_measure rfl h) h ?_
    clear h
    intro g6 h
    refine lt_r (e_add rfl kz_1) h ?_
    clear h
    intro v7 h
    cases h
    exact congrArg some (congrArg Sum.inl (e_pair rfl rfl))
theorem rC_X2_find_3 {g4 : uZ} {zr : uZ} (h : GC_X2_find_3 g4 = some zr) : C_X2_find_3 (zS g4) = some (zS zr) := by
  unfold GC_X2_find_3 at h
  unfold C_X2_find_3
  cases h
  rfl
theorem rF_X2_find {g : uZ} {zr : uZ} (h : GF_X2_find g = some zr) : F_X2_find (zS g) = some (zS zr) := by
  unfold GF_X2_find at h
  unfold F_X2_find
  refine cp_r (e := zI) (fun _ h => rF_X2_size h) h ?_
  clear h
  intro v1 h
  refine lp_r em_2 zS (e_pair kz_0 rfl) (fun q r h => rB_X2_find_2 rfl rfl h) h ?_
  clear h
  intro z h
  exact rC_X2_find_3 h
theorem rB_X2_forgetAll_2 {w1_ : Int32} {w1 : Int} (e_w1 : w1_ = zI w1) {g2 : uZ} {zr : ((Int × uZ) ⊕ uZ)} (h : GB_X2_forgetAll_2 w1 g2 = some zr) : B_X2_forgetAll_2 w1_ (zS g2) = some (em_3 zr) := by
  subst e_w1
  unfold GB_X2_forgetAll_2 at h
  unfold B_X2_forgetAll_2
  obtain ⟨hr1, h⟩ := ck_e h
  refine ite_r (c_le kz_100 rfl ir_100 hr1) h ?_ ?_
  · clear h
    intro h
    cases h
    exact congrArg some (congrArg Sum.inr rfl)
  · clear h
    intro h
    refine wr_r (Nat.le_of_ble_eq_true rfl) rfl (zI_toInt _).symm h ?_
    clear h
    intro g5 h
    refine lt_r (e_add rfl kz_1) h ?_
    clear h
    intro v6 h
    cases h
    exact congrArg some (congrArg Sum.inl (e_pair rfl rfl))
theorem rC_X2_forgetAll_3 {g3 : uZ} {zr : uZ} (h : GC_X2_forgetAll_3 g3 = some zr) : C_X2_forgetAll_3 (zS g3) = some (zS zr) := by
  unfold GC_X2_forgetAll_3 at h
  unfold C_X2_forgetAll_3
  cases h
  rfl
theorem rF_X2_forgetAll {g : uZ} {zr : uZ} (h : GF_X2_forgetAll g = some zr) : F_X2_forgetAll (zS g) = some (zS zr) := by
  unfold GF_X2_forgetAll at h
  unfold F_X2_forgetAll
  refine lp_r em_2 zS (e_pair kz_0 rfl) (fun q r h => rB_X2_forgetAll_2 rfl h) h ?_
  clear h
  intro z h
  exact rC_X2_forgetAll_3 h
theorem rJ_X2_forgetThose_2 {w1_ : Int32} {w1 : Int} (e_w1 : w1_ = zI w1) {w2_ : Int32} {w2 : Int} (e_w2 : w2_ = zI w2) {g10 : uZ} {zr : ((Int × (Int × uZ)) ⊕ uZ)} (h : GJ_X2_forgetThose_2 w1 w2 g10 = some zr) : J_X2_forgetThose_2 w1_ w2_ (zS g10) = some (em_5 zr) := by
  subst e_w1 e_w2
  unfold GJ_X2_forgetThose_2 at h
  unfold J_X2_forgetThose_2
  refine cp_r (e := zI) (fun _ h => rF_X0_of kz_2 h) h ?_
  clear h
  intro v11 h
  refine lt_r (e_add rfl rfl) h ?_
  clear h
  intro v12 h
  refine lt_r (e_add rfl kz_1) h ?_
  clear h
  intro v13 h
  cases h
  exact congrArg some (congrArg Sum.inl (e_pair rfl (e_pair rfl rfl)))
theorem rB_X2_forgetThose_3 {a1_ : Int32} {a1 : Int} (e_a1 : a1_ = zI a1) {a2_ : Int32} {a2 : Int} (e_a2 : a2_ = zI a2) {w1_ : Int32} {w1 : Int} (e_w1 : w1_ = zI w1) {w2_ : Int32} {w2 : Int} (e_w2 : w2_ = zI w2) {g3 : uZ} {zr : ((Int × (Int × uZ)) ⊕ uZ)} (h : GB_X2_forgetThose_3 a1 a2 w1 w2 g3 = some zr) : B_X2_forgetThose_3 a1_ a2_ w1_ w2_ (zS g3) = some (em_5 zr) := by
  subst e_a1 e_a2 e_w1 e_w2
  unfold GB_X2_forgetThose_3 at h
  unfold B_X2_forgetThose_3
  obtain ⟨hr1, h⟩ := ck_e h
  refine ite_r (c_le kz_100 rfl ir_100 hr1) h ?_ ?_
  · clear h
    intro h
    cases h
    exact congrArg some (congrArg Sum.inr rfl)
  · clear h
    intro h
    obtain ⟨hr2, h⟩ := ck_e h
    obtain ⟨hr3, h⟩ := ck_e h
    refine ite_r (c_le rfl rfl hr2 hr3) h ?_ ?_
    · clear h
      intro h
      exact rJ_X2_forgetThose_2 rfl rfl h
    · clear h
      intro h
      refine cp_r (e := zI) (fun _ h => rF_X2_reach h) h ?_
      clear h
      intro v7 h
      obtain ⟨hr4, h⟩ := ck_e h
      obtain ⟨hr5, h⟩ := ck_e h
      refine ite_r (c_le (e_add rfl rfl) rfl hr4 hr5) h ?_ ?_
      · clear h
        intro h
        exact rJ_X2_forgetThose_2 rfl rfl h
      · clear h
        intro h
        refine wr_r (Nat.le_of_ble_eq_true rfl) rfl (zI_toInt _).symm h ?_
        clear h
        intro g9 h
        exact rJ_X2_forgetThose_2 rfl rfl h
theorem rC_X2_forgetThose_4 {g4 : uZ} {zr : uZ} (h : GC_X2_forgetThose_4 g4 = some zr) : C_X2_forgetThose_4 (zS g4) = some (zS zr) := by
  unfold GC_X2_forgetThose_4 at h
  unfold C_X2_forgetThose_4
  cases h
  rfl
theorem rF_X2_forgetThose {a1_ : Int32} {a1 : Int} (e_a1 : a1_ = zI a1) {a2_ : Int32} {a2 : Int} (e_a2 : a2_ = zI a2) {g : uZ} {zr : uZ} (h : GF_X2_forgetThose a1 a2 g = some zr) : F_X2_forgetThose a1_ a2_ (zS g) = some (zS zr) := by
  subst e_a1 e_a2
  unfold GF_X2_forgetThose at h
  unfold F_X2_forgetThose
  refine lp_r em_4 zS (e_pair kz_0 (e_pair kz_0 rfl)) (fun q r h => rB_X2_forgetThose_3 rfl rfl rfl rfl h) h ?_
  clear h
  intro z h
  exact rC_X2_forgetThose_4 h
theorem rF_X1_frameCount {g : uZ} {zr : Int} (h : GF_X1_frameCount g = some zr) : F_X1_frameCount (zS g) = some (zI zr) := by
  unfold GF_X1_frameCount at h
  unfold F_X1_frameCount
  cases h
  rfl
theorem rJ_X1_has_2 {v6_ : Int32} {v6 : Int} (e_v6 : v6_ = zI v6) {zr : Int} (h : GJ_X1_has_2 v6 = some zr) : J_X1_has_2 v6_ = some (zI zr) := by
  subst e_v6
  unfold GJ_X1_has_2 at h
  unfold J_X1_has_2
  refine bz_r rfl h ?_
  clear h
  intro h
  cases h
  rfl
theorem rJ_X1_has_1 {zr : Int} (h : GJ_X1_has_1 = some zr) : J_X1_has_1 = some (zI zr) := by
  unfold GJ_X1_has_1 at h
  unfold J_X1_has_1
  exact rJ_X1_has_2 kz_0 h
theorem rF_X1_has {a1_ : Int32} {a1 : Int} (e_a1 : a1_ = zI a1) {a2_ : Int32} {a2 : Int} (e_a2 : a2_ = zI a2) {g : uZ} {zr : Int} (h : GF_X1_has a1 a2 g = some zr) : F_X1_has a1_ a2_ (zS g) = some (zI zr) := by
  subst e_a1 e_a2
  unfold GF_X1_has at h
  unfold F_X1_has
  obtain ⟨hr1, h⟩ := ck_e h
  refine ite_r (c_lt rfl kz_0 hr1 ir_0) h ?_ ?_
  · clear h
    intro h
    exact rJ_X1_has_1 h
  · clear h
    intro h
    obtain ⟨hr2, h⟩ := ck_e h
    refine ite_r (c_le rfl rfl hr2 hr1) h ?_ ?_
    · clear h
      intro h
      exact rJ_X1_has_1 h
    · clear h
      intro h
      obtain ⟨hr3, h⟩ := ck_e h
      refine ite_r (c_lt rfl kz_0 hr3 ir_0) h ?_ ?_
      · clear h
        intro h
        exact rJ_X1_has_1 h
      · clear h
        intro h
        refine rd_r (Nat.le_of_ble_eq_true rfl) rfl h ?_
        clear h
        intro v4 h
        obtain ⟨hr4, h⟩ := ck_e h
        refine ite_r (c_le rfl rfl hr4 hr3) h ?_ ?_
        · clear h
          intro h
          exact rJ_X1_has_1 h
        · clear h
          intro h
          exact rJ_X1_has_2 kz_1 h
theorem rJ_X1_sizeOf_2 {v4_ : Int32} {v4 : Int} (e_v4 : v4_ = zI v4) {zr : Int} (h : GJ_X1_sizeOf_2 v4 = some zr) : J_X1_sizeOf_2 v4_ = some (zI zr) := by
  subst e_v4
  unfold GJ_X1_sizeOf_2 at h
  unfold J_X1_sizeOf_2
  cases h
  rfl
theorem rJ_X1_sizeOf_1 {zr : Int} (h : GJ_X1_sizeOf_1 = some zr) : J_X1_sizeOf_1 = some (zI zr) := by
  unfold GJ_X1_sizeOf_1 at h
  unfold J_X1_sizeOf_1
  exact rJ_X1_sizeOf_2 kz_0 h
theorem rF_X1_sizeOf {a1_ : Int32} {a1 : Int} (e_a1 : a1_ = zI a1) {g : uZ} {zr : Int} (h : GF_X1_sizeOf a1 g = some zr) : F_X1_sizeOf a1_ (zS g) = some (zI zr) := by
  subst e_a1
  unfold GF_X1_sizeOf at h
  unfold F_X1_sizeOf
  obtain ⟨hr1, h⟩ := ck_e h
  refine ite_r (c_lt rfl kz_0 hr1 ir_0) h ?_ ?_
  · clear h
    intro h
    exact rJ_X1_sizeOf_1 h
  · clear h
    intro h
    obtain ⟨hr2, h⟩ := ck_e h
    refine ite_r (c_lt rfl rfl hr1 hr2) h ?_ ?_
    · clear h
      intro h
      refine rd_r (Nat.le_of_ble_eq_true rfl) rfl h ?_
      clear h
      intro v3 h
      exact rJ_X1_sizeOf_2 rfl h
    · clear h
      intro h
      exact rJ_X1_sizeOf_1 h
theorem rF_X11_cell {a1_ : Int32} {a1 : Int} (e_a1 : a1_ = zI a1) {a2_ : Int32} {a2 : Int} (e_a2 : a2_ = zI a2) {g : uZ} {zr : Int} (h : GF_X11_cell a1 a2 g = some zr) : F_X11_cell a1_ a2_ (zS g) = some (zI zr) := by
  subst e_a1 e_a2
  unfold GF_X11_cell at h
  unfold F_X11_cell
  cases h
  exact congrArg some (e_add (e_mul rfl kz_6) rfl)
theorem rJ_X1_lagOf_1 {v5_ : Int32} {v5 : Int} (e_v5 : v5_ = zI v5) {zr : Int} (h : GJ_X1_lagOf_1 v5 = some zr) : J_X1_lagOf_1 v5_ = some (zI zr) := by
  subst e_v5
  unfold GJ_X1_lagOf_1 at h
  unfold J_X1_lagOf_1
  cases h
  rfl
theorem rF_X1_lagOf {a1_ : Int32} {a1 : Int} (e_a1 : a1_ = zI a1) {a2_ : Int32} {a2 : Int} (e_a2 : a2_ = zI a2) {g : uZ} {zr : Int} (h : GF_X1_lagOf a1 a2 g = some zr) : F_X1_lagOf a1_ a2_ (zS g) = some (zI zr) := by
  subst e_a1 e_a2
  unfold GF_X1_lagOf at h
  unfold F_X1_lagOf
  refine cp_r (e := zI) (fun _ h => rF_X1_has rfl rfl h) h ?_
  clear h
  intro v1 h
  obtain ⟨hr1, h⟩ := ck_e h
  refine ite_r (c_eq rfl kz_0 hr1 ir_0) h ?_ ?_
  · clear h
    intro h
    exact rJ_X1_lagOf_1 kz_0 h
  · clear h
    intro h
    refine cp_r (e := zI) (fun _ h => rF_X11_cell rfl rfl h) h ?_
    clear h
    intro v3 h
    refine rd_r (Nat.le_of_ble_eq_true rfl) rfl h ?_
    clear h
    intro v4 h
    exact rJ_X1_lagOf_1 rfl h
theorem rJ_X1_ownOf_1 {v5_ : Int32} {v5 : Int} (e_v5 : v5_ = zI v5) {zr : Int} (h : GJ_X1_ownOf_1 v5 = some zr) : J_X1_ownOf_1 v5_ = some (zI zr) := by
  subst e_v5
  unfold GJ_X1_ownOf_1 at h
  unfold J_X1_ownOf_1
  cases h
  rfl
theorem rF_X1_ownOf {a1_ : Int32} {a1 : Int} (e_a1 : a1_ = zI a1) {a2_ : Int32} {a2 : Int} (e_a2 : a2_ = zI a2) {g : uZ} {zr : Int} (h : GF_X1_ownOf a1 a2 g = some zr) : F_X1_ownOf a1_ a2_ (zS g) = some (zI zr) := by
  subst e_a1 e_a2
  unfold GF_X1_ownOf at h
  unfold F_X1_ownOf
  refine cp_r (e := zI) (fun _ h => rF_X1_has rfl rfl h) h ?_
  clear h
  intro v1 h
  obtain ⟨hr1, h⟩ := ck_e h
  refine ite_r (c_eq rfl kz_0 hr1 ir_0) h ?_ ?_
  · clear h
    intro h
    exact rJ_X1_ownOf_1 kz_0 h
  · clear h
    intro h
    refine cp_r (e := zI) (fun _ h => rF_X11_cell rfl rfl h) h ?_
    clear h
    intro v3 h
    refine rd_r (Nat.le_of_ble_eq_true rfl) rfl h ?_
    clear h
    intro v4 h
    exact rJ_X1_ownOf_1 rfl h
theorem rJ_X1_halfOf_1 {v5_ : Int32} {v5 : Int} (e_v5 : v5_ = zI v5) {zr : Int} (h : GJ_X1_halfOf_1 v5 = some zr) : J_X1_halfOf_1 v5_ = some (zI zr) := by
  subst e_v5
  unfold GJ_X1_halfOf_1 at h
  unfold J_X1_halfOf_1
  cases h
  rfl
theorem rF_X1_halfOf {a1_ : Int32} {a1 : Int} (e_a1 : a1_ = zI a1) {a2_ : Int32} {a2 : Int} (e_a2 : a2_ = zI a2) {g : uZ} {zr : Int} (h : GF_X1_halfOf a1 a2 g = some zr) : F_X1_halfOf a1_ a2_ (zS g) = some (zI zr) := by
  subst e_a1 e_a2
  unfold GF_X1_halfOf at h
  unfold F_X1_halfOf
  refine cp_r (e := zI) (fun _ h => rF_X1_has rfl rfl h) h ?_
  clear h
  intro v1 h
  obtain ⟨hr1, h⟩ := ck_e h
  refine ite_r (c_eq rfl kz_0 hr1 ir_0) h ?_ ?_
  · clear h
    intro h
    exact rJ_X1_halfOf_1 kz_m1 h
  · clear h
    intro h
    refine cp_r (e := zI) (fun _ h => rF_X11_cell rfl rfl h) h ?_
    clear h
    intro v3 h
    refine rd_r (Nat.le_of_ble_eq_true rfl) rfl h ?_
    clear h
    intro v4 h
    exact rJ_X1_halfOf_1 rfl h
theorem rJ_X1_cheaperThan_2 {w2_ : Int32} {w2 : Int} (e_w2 : w2_ = zI w2) {v10_ : Int32} {v10 : Int} (e_v10 : v10_ = zI v10) {zr : ((Int × Int) ⊕ Int)} (h : GJ_X1_cheaperThan_2 w2 v10 = some zr) : J_X1_cheaperThan_2 w2_ v10_ = some (em_1 zr) := by
  subst e_w2 e_v10
  unfold GJ_X1_cheaperThan_2 at h
  unfold J_X1_cheaperThan_2
  refine lt_r (e_add rfl kz_1) h ?_
  clear h
  intro v11 h
  cases h
  exact congrArg some (congrArg Sum.inl (e_pair rfl rfl))
theorem rB_X1_cheaperThan_3 {a1_ : Int32} {a1 : Int} (e_a1 : a1_ = zI a1) {a2_ : Int32} {a2 : Int} (e_a2 : a2_ = zI a2) {g : uZ} {w1_ : Int32} {w1 : Int} (e_w1 : w1_ = zI w1) {w2_ : Int32} {w2 : Int} (e_w2 : w2_ = zI w2) {zr : ((Int × Int) ⊕ Int)} (h : GB_X1_cheaperThan_3 a1 a2 g w1 w2 = some zr) : B_X1_cheaperThan_3 a1_ a2_ (zS g) w1_ w2_ = some (em_1 zr) := by
  subst e_a1 e_a2 e_w1 e_w2
  unfold GB_X1_cheaperThan_3 at h
  unfold B_X1_cheaperThan_3
  refine cp_r (e := zI) (fun _ h => rF_X1_sizeOf rfl h) h ?_
  clear h
  intro v4 h
  obtain ⟨hr1, h⟩ := ck_e h
  obtain ⟨hr2, h⟩ := ck_e h
  refine ite_r (c_le rfl rfl hr1 hr2) h ?_ ?_
  · clear h
    intro h
    cases h
    exact congrArg some (congrArg Sum.inr rfl)
  · clear h
    intro h
    refine cp_r (e := zI) (fun _ h => rF_X1_ownOf rfl rfl h) h ?_
    clear h
    intro v6 h
    refine cp_r (e := zI) (fun _ h => rF_X1_ownOf rfl rfl h) h ?_
    clear h
    intro v7 h
    obtain ⟨hr3, h⟩ := ck_e h
    obtain ⟨hr4, h⟩ := ck_e h
    refine ite_r (c_le rfl rfl hr3 hr4) h ?_ ?_
    · clear h
      intro h
      exact rJ_X1_cheaperThan_2 rfl rfl h
    · clear h
      intro h
      refine lt_r (e_add rfl kz_1) h ?_
      clear h
      intro v9 h
      exact rJ_X1_cheaperThan_2 rfl rfl h
theorem rC_X1_cheaperThan_4 {v3_ : Int32} {v3 : Int} (e_v3 : v3_ = zI v3) {zr : Int} (h : GC_X1_cheaperThan_4 v3 = some zr) : C_X1_cheaperThan_4 v3_ = some (zI zr) := by
  subst e_v3
  unfold GC_X1_cheaperThan_4 at h
  unfold C_X1_cheaperThan_4
  cases h
  rfl
theorem rF_X1_cheaperThan {a1_ : Int32} {a1 : Int} (e_a1 : a1_ = zI a1) {a2_ : Int32} {a2 : Int} (e_a2 : a2_ = zI a2) {g : uZ} {zr : Int} (h : GF_X1_cheaperThan a1 a2 g = some zr) : F_X1_cheaperThan a1_ a2_ (zS g) = some (zI zr) := by
  subst e_a1 e_a2
  unfold GF_X1_cheaperThan at h
  unfold F_X1_cheaperThan
  refine lp_r em_0 zI (e_pair kz_0 kz_0) (fun q r h => rB_X1_cheaperThan_3 rfl rfl rfl rfl h) h ?_
  clear h
  intro z h
  exact rC_X1_cheaperThan_4 rfl h
theorem rJ_X1_isDip_2 {v8_ : Int32} {v8 : Int} (e_v8 : v8_ = zI v8) {zr : Int} (h : GJ_X1_isDip_2 v8 = some zr) : J_X1_isDip_2 v8_ = some (zI zr) := by
  subst e_v8
  unfold GJ_X1_isDip_2 at h
  unfold J_X1_isDip_2
  refine bz_r rfl h ?_
  clear h
  intro h
  cases h
  rfl
theorem rJ_X1_isDip_1 {zr : Int} (h : GJ_X1_isDip_1 = some zr) : J_X1_isDip_1 = some (zI zr) := by
  unfold GJ_X1_isDip_1 at h
  unfold J_X1_isDip_1
  exact rJ_X1_isDip_2 kz_0 h
theorem rF_X1_isDip {a1_ : Int32} {a1 : Int} (e_a1 : a1_ = zI a1) {a2_ : Int32} {a2 : Int} (e_a2 : a2_ = zI a2) {g : uZ} {zr : Int} (h : GF_X1_isDip a1 a2 g = some zr) : F_X1_isDip a1_ a2_ (zS g) = some (zI zr) := by
  subst e_a1 e_a2
  unfold GF_X1_isDip at h
  unfold F_X1_isDip
  refine cp_r (e := zI) (fun _ h => rF_X2_relAt rfl rfl h) h ?_
  clear h
  intro v1 h
  refine cp_r (e := zI) (fun _ h => rF_X0_of kz_6 h) h ?_
  clear h
  intro v2 h
  obtain ⟨hr1, h⟩ := ck_e h
  obtain ⟨hr2, h⟩ := ck_e h
  refine ite_r (c_lt rfl rfl hr1 hr2) h ?_ ?_
  · clear h
    intro h
    exact rJ_X1_isDip_1 h
  · clear h
    intro h
    refine cp_r (e := zI) (fun _ h => rF_X2_relAt rfl (e_sub rfl kz_1) h) h ?_
    clear h
    intro v4 h
    obtain ⟨hr3, h⟩ := ck_e h
    refine ite_r (c_le rfl rfl hr3 hr2) h ?_ ?_
    · clear h
      intro h
      exact rJ_X1_isDip_1 h
    · clear h
      intro h
      refine cp_r (e := zI) (fun _ h => rF_X2_relAt rfl (e_add rfl kz_1) h) h ?_
      clear h
      intro v6 h
      obtain ⟨hr4, h⟩ := ck_e h
      refine ite_r (c_lt rfl rfl hr4 hr2) h ?_ ?_
      · clear h
        intro h
        exact rJ_X1_isDip_1 h
      · clear h
        intro h
        exact rJ_X1_isDip_2 kz_1 h
theorem rB_X1_dropWorst_2 {a1_ : Int32} {a1 : Int} (e_a1 : a1_ = zI a1) {a2_ : Int32} {a2 : Int} (e_a2 : a2_ = zI a2) {g : uZ} {w1_ : Int32} {w1 : Int} (e_w1 : w1_ = zI w1) {w2_ : Int32} {w2 : Int} (e_w2 : w2_ = zI w2) {zr : ((Int × Int) ⊕ Int)} (h : GB_X1_dropWorst_2 a1 a2 g w1 w2 = some zr) : B_X1_dropWorst_2 a1_ a2_ (zS g) w1_ w2_ = some (em_1 zr) := by
  subst e_a1 e_a2 e_w1 e_w2
  unfold GB_X1_dropWorst_2 at h
  unfold B_X1_dropWorst_2
  obtain ⟨hr1, h⟩ := ck_e h
  obtain ⟨hr2, h⟩ := ck_e h
  refine ite_r (c_le rfl rfl hr1 hr2) h ?_ ?_
  · clear h
    intro h
    cases h
    exact congrArg some (congrArg Sum.inr rfl)
  · clear h
    intro h
    refine cp_r (e := zI) (fun _ h => rF_X11_cell rfl rfl h) h ?_
    clear h
    intro v5 h
    refine rd_r (Nat.le_of_ble_eq_true rfl) rfl h ?_
    clear h
    intro v6 h
    refine cp_r (e := zI) (fun _ h => rF_X2_relAt rfl rfl h) h ?_
    clear h
    intro v7 h
    refine cp_r (e := zI) (fun _ h => rF_X11_cell rfl rfl h) h ?_
    clear h
    intro v8 h
    refine rd_r (Nat.le_of_ble_eq_true rfl) rfl h ?_
    clear h
    intro v9 h
    refine cp_r (e := zI) (fun _ h => rF_X2_relAt rfl rfl h) h ?_
    clear h
    intro v10 h
    obtain ⟨hr3, h⟩ := ck_e h
    obtain ⟨hr4, h⟩ := ck_e h
    refine lt_r (e_ite (c_lt rfl rfl hr3 hr4) rfl rfl) h ?_
    clear h
    intro v12 h
    refine lt_r (e_add rfl kz_1) h ?_
    clear h
    intro v13 h
    cases h
    exact congrArg some (congrArg Sum.inl (e_pair rfl rfl))
theorem rB_X1_dropWorst_4 {a1_ : Int32} {a1 : Int} (e_a1 : a1_ = zI a1) {a2_ : Int32} {a2 : Int} (e_a2 : a2_ = zI a2) {w14_ : Int32} {w14 : Int} (e_w14 : w14_ = zI w14) {g15 : uZ} {zr : ((Int × uZ) ⊕ uZ)} (h : GB_X1_dropWorst_4 a1 a2 w14 g15 = some zr) : B_X1_dropWorst_4 a1_ a2_ w14_ (zS g15) = some (em_3 zr) := by
  subst e_a1 e_a2 e_w14
  unfold GB_X1_dropWorst_4 at h
  unfold B_X1_dropWorst_4
  obtain ⟨hr1, h⟩ := ck_e h
  obtain ⟨hr2, h⟩ := ck_e h
  refine ite_r (c_le rfl (e_add rfl kz_1) hr1 hr2) h ?_ ?_
  · clear h
    intro h
    cases h
    exact congrArg some (congrArg Sum.inr rfl)
  · clear h
    intro h
    refine cp_r (e := zI) (fun _ h => rF_X11_cell rfl rfl h) h ?_
    clear h
    intro v18 h
    refine cp_r (e := zI) (fun _ h => rF_X11_cell rfl (e_add rfl kz_1) h) h ?_
    clear h
    intro v19 h
    refine rd_r (Nat.le_of_ble_eq_true rfl) rfl h ?_
    clear h
    intro v20 h
    refine wr_r (Nat.le_of_ble_eq_true rfl) rfl rfl h ?_
    clear h
    intro g21 h
    refine lt_r (e_add rfl kz_1) h ?_
    clear h
    intro v22 h
    cases h
    exact congrArg some (congrArg Sum.inl (e_pair rfl rfl))
theorem rC_X1_dropWorst_5 {g16 : uZ} {zr : uZ} (h : GC_X1_dropWorst_5 g16 = some zr) : C_X1_dropWorst_5 (zS g16) = some (zS zr) := by
  unfold GC_X1_dropWorst_5 at h
  unfold C_X1_dropWorst_5
  cases h
  rfl
theorem rC_X1_dropWorst_6 {a1_ : Int32} {a1 : Int} (e_a1 : a1_ = zI a1) {a2_ : Int32} {a2 : Int} (e_a2 : a2_ = zI a2) {g : uZ} {v3_ : Int32} {v3 : Int} (e_v3 : v3_ = zI v3) {zr : uZ} (h : GC_X1_dropWorst_6 a1 a2 g v3 = some zr) : C_X1_dropWorst_6 a1_ a2_ (zS g) v3_ = some (zS zr) := by
  subst e_a1 e_a2 e_v3
  unfold GC_X1_dropWorst_6 at h
  unfold C_X1_dropWorst_6
  refine lp_r em_2 zS (e_pair rfl rfl) (fun q r h => rB_X1_dropWorst_4 rfl rfl rfl h) h ?_
  clear h
  intro z h
  exact rC_X1_dropWorst_5 h
theorem rF_X1_dropWorst {a1_ : Int32} {a1 : Int} (e_a1 : a1_ = zI a1) {a2_ : Int32} {a2 : Int} (e_a2 : a2_ = zI a2) {g : uZ} {zr : uZ} (h : GF_X1_dropWorst a1 a2 g = some zr) : F_X1_dropWorst a1_ a2_ (zS g) = some (zS zr) := by
  subst e_a1 e_a2
  unfold GF_X1_dropWorst at h
  unfold F_X1_dropWorst
  refine lp_r em_0 zI (e_pair kz_0 kz_1) (fun q r h => rB_X1_dropWorst_2 rfl rfl rfl rfl h) h ?_
  clear h
  intro z h
  exact rC_X1_dropWorst_6 rfl rfl rfl h
theorem rJ_X1_keepDips_2 {w6_ : Int32} {w6 : Int} (e_w6 : w6_ = zI w6) {v19_ : Int32} {v19 : Int} (e_v19 : v19_ = zI v19) {g20 : uZ} {zr : ((Int × (Int × uZ)) ⊕ (Int × uZ))} (h : GJ_X1_keepDips_2 w6 v19 g20 = some zr) : J_X1_keepDips_2 w6_ v19_ (zS g20) = some (em_6 zr) := by
  subst e_w6 e_v19
  unfold GJ_X1_keepDips_2 at h
  unfold J_X1_keepDips_2
  refine lt_r (e_add rfl kz_1) h ?_
  clear h
  intro v21 h
  cases h
  exact congrArg some (congrArg Sum.inl (e_pair rfl (e_pair rfl rfl)))
theorem rB_X1_keepDips_3 {a1_ : Int32} {a1 : Int} (e_a1 : a1_ = zI a1) {v2_ : Int32} {v2 : Int} (e_v2 : v2_ = zI v2) {v3_ : Int32} {v3 : Int} (e_v3 : v3_ = zI v3) {w5_ : Int32} {w5 : Int} (e_w5 : w5_ = zI w5) {w6_ : Int32} {w6 : Int} (e_w6 : w6_ = zI w6) {g7 : uZ} {zr : ((Int × (Int × uZ)) ⊕ (Int × uZ))} (h : GB_X1_keepDips_3 a1 v2 v3 w5 w6 g7 = some zr) : B_X1_keepDips_3 a1_ v2_ v3_ w5_ w6_ (zS g7) = some (em_6 zr) := by
  subst e_a1 e_v2 e_v3 e_w5 e_w6
  unfold GB_X1_keepDips_3 at h
  unfold B_X1_keepDips_3
  obtain ⟨hr1, h⟩ := ck_e h
  obtain ⟨hr2, h⟩ := ck_e h
  refine ite_r (c_lt rfl rfl hr1 hr2) h ?_ ?_
  · clear h
    intro h
    cases h
    exact congrArg some (congrArg Sum.inr (e_pair rfl rfl))
  · clear h
    intro h
    refine cp_r (e := zI) (fun _ h => rF_X1_isDip rfl rfl h) h ?_
    clear h
    intro v11 h
    obtain ⟨hr3, h⟩ := ck_e h
    refine ite_r (c_eq rfl kz_0 hr3 ir_0) h ?_ ?_
    · clear h
      intro h
      exact rJ_X1_keepDips_2 rfl rfl h
    · clear h
      intro h
      refine cp_r (e := zI) (fun _ h => rF_X11_cell rfl rfl h) h ?_
      clear h
      intro v13 h
      refine wr_r (Nat.le_of_ble_eq_true rfl) rfl rfl h ?_
      clear h
      intro g14 h
      refine lt_r (e_add rfl kz_1) h ?_
      clear h
      intro v15 h
      obtain ⟨hr4, h⟩ := ck_e h
      obtain ⟨hr5, h⟩ := ck_e h
      refine ite_r (c_le rfl rfl hr4 hr5) h ?_ ?_
      · clear h
        intro h
        exact rJ_X1_keepDips_2 rfl rfl h
      · clear h
        intro h
        refine cp_r (e := zS) (fun _ h => rF_X1_dropWorst rfl rfl h) h ?_
        clear h
        intro g17 h
        refine lt_r (e_add rfl kz_m1) h ?_
        clear h
        intro v18 h
        exact rJ_X1_keepDips_2 rfl rfl h
theorem rC_X1_keepDips_4 {v8_ : Int32} {v8 : Int} (e_v8 : v8_ = zI v8) {g9 : uZ} {zr : (Int × uZ)} (h : GC_X1_keepDips_4 v8 g9 = some zr) : C_X1_keepDips_4 v8_ (zS g9) = some (em_2 zr) := by
  subst e_v8
  unfold GC_X1_keepDips_4 at h
  unfold C_X1_keepDips_4
  cases h
  exact congrArg some (e_pair rfl rfl)
theorem rF_X1_keepDips {a1_ : Int32} {a1 : Int} (e_a1 : a1_ = zI a1) {g : uZ} {zr : (Int × uZ)} (h : GF_X1_keepDips a1 g = some zr) : F_X1_keepDips a1_ (zS g) = some (em_2 zr) := by
  subst e_a1
  unfold GF_X1_keepDips at h
  unfold F_X1_keepDips
  refine cp_r (e := zI) (fun _ h => rF_X0_of kz_7 h) h ?_
  clear h
  intro v1 h
  refine cp_r (e := zI) (fun _ h => rF_J9_min_7cf53 kz_5 rfl h) h ?_
  clear h
  intro v2 h
  refine cp_r (e := zI) (fun _ h => rF_X0_of kz_5 h) h ?_
  clear h
  intro v3 h
  refine cp_r (e := zI) (fun _ h => rF_X0_of kz_4 h) h ?_
  clear h
  intro v4 h
  refine lp_r em_4 em_2 (e_pair kz_0 (e_pair rfl rfl)) (fun q r h => rB_X1_keepDips_3 rfl rfl rfl rfl rfl h) h ?_
  clear h
  intro z h
  exact rC_X1_keepDips_4 rfl h
theorem rJ_X1_ownCost_1 {v5_ : Int32} {v5 : Int} (e_v5 : v5_ = zI v5) {zr : Int} (h : GJ_X1_ownCost_1 v5 = some zr) : J_X1_ownCost_1 v5_ = some (zI zr) := by
  subst e_v5
  unfold GJ_X1_ownCost_1 at h
  unfold J_X1_ownCost_1
  cases h
  rfl
theorem rF_X1_ownCost {a1_ : Int32} {a1 : Int} (e_a1 : a1_ = zI a1) {a2_ : Int32} {a2 : Int} (e_a2 : a2_ = zI a2) {g : uZ} {zr : Int} (h : GF_X1_ownCost a1 a2 g = some zr) : F_X1_ownCost a1_ a2_ (zS g) = some (zI zr) := by
  subst e_a1 e_a2
  unfold GF_X1_ownCost at h
  unfold F_X1_ownCost
  obtain ⟨hr1, h⟩ := ck_e h
  refine ite_r (c_eq rfl kz_0 hr1 ir_0) h ?_ ?_
  · clear h
    intro h
    refine cp_r (e := zI) (fun _ h => rF_X0_of kz_9 h) h ?_
    clear h
    intro v4 h
    exact rJ_X1_ownCost_1 rfl h
  · clear h
    intro h
    refine cp_r (e := zI) (fun _ h => rF_X2_relAt rfl rfl h) h ?_
    clear h
    intro v2 h
    refine cp_r (e := zI) (fun _ h => rF_X0_of kz_8 h) h ?_
    clear h
    intro v3 h
    exact rJ_X1_ownCost_1 (e_add rfl (e_mul rfl rfl)) h
theorem rJ_X1_findHalf_2 {w2_ : Int32} {w2 : Int} (e_w2 : w2_ = zI w2) {zr : (Int ⊕ (Unit ⊕ Int))} (h : GJ_X1_findHalf_2 w2 = some zr) : J_X1_findHalf_2 w2_ = some (em_8 zr) := by
  subst e_w2
  unfold GJ_X1_findHalf_2 at h
  unfold J_X1_findHalf_2
  refine lt_r (e_add rfl kz_1) h ?_
  clear h
  intro v11 h
  cases h
  exact congrArg some (congrArg Sum.inl rfl)
theorem rB_X1_findHalf_3 {a1_ : Int32} {a1 : Int} (e_a1 : a1_ = zI a1) {a2_ : Int32} {a2 : Int} (e_a2 : a2_ = zI a2) {v1_ : Int32} {v1 : Int} (e_v1 : v1_ = zI v1) {g : uZ} {w2_ : Int32} {w2 : Int} (e_w2 : w2_ = zI w2) {zr : (Int ⊕ (Unit ⊕ Int))} (h : GB_X1_findHalf_3 a1 a2 v1 g w2 = some zr) : B_X1_findHalf_3 a1_ a2_ v1_ (zS g) w2_ = some (em_8 zr) := by
  subst e_a1 e_a2 e_v1 e_w2
  unfold GB_X1_findHalf_3 at h
  unfold B_X1_findHalf_3
  refine cp_r (e := zI) (fun _ h => rF_X1_sizeOf rfl h) h ?_
  clear h
  intro v3 h
  obtain ⟨hr1, h⟩ := ck_e h
  obtain ⟨hr2, h⟩ := ck_e h
  refine ite_r (c_le rfl rfl hr1 hr2) h ?_ ?_
  · clear h
    intro h
    cases h
    exact congrArg some (congrArg Sum.inr (congrArg Sum.inl rfl))
  · clear h
    intro h
    refine cp_r (e := zI) (fun _ h => rF_X1_lagOf rfl rfl h) h ?_
    clear h
    intro v5 h
    obtain ⟨hr3, h⟩ := ck_e h
    refine ite_r (c_eq rfl rfl hr2 hr3) h ?_ ?_
    · clear h
      intro h
      exact rJ_X1_findHalf_2 rfl h
    · clear h
      intro h
      obtain ⟨hr4, h⟩ := ck_e h
      refine ite_r (c_eq rfl kz_0 hr4 ir_0) h ?_ ?_
      · clear h
        intro h
        exact rJ_X1_findHalf_2 rfl h
      · clear h
        intro h
        obtain ⟨hr5, h⟩ := ck_e h
        refine ite_r (c_eq rfl kz_0 hr5 ir_0) h ?_ ?_
        · clear h
          intro h
          exact rJ_X1_findHalf_2 rfl h
        · clear h
          intro h
          refine cp_r (e := zI) (fun _ h => rF_J9_abs_0f7a4 (e_sub rfl (e_mul kz_2 rfl)) h) h ?_
          clear h
          intro v9 h
          obtain ⟨hr6, h⟩ := ck_e h
          refine ite_r (c_lt kz_1 rfl ir_1 hr6) h ?_ ?_
          · clear h
            intro h
            exact rJ_X1_findHalf_2 rfl h
          · clear h
            intro h
            cases h
            exact congrArg some (congrArg Sum.inr (congrArg Sum.inr rfl))
theorem rC_X1_findHalf_4 {zr : Int} (h : GC_X1_findHalf_4 = some zr) : C_X1_findHalf_4 = some (zI zr) := by
  unfold GC_X1_findHalf_4 at h
  unfold C_X1_findHalf_4
  cases h
  exact congrArg some kz_m1
theorem rF_X1_findHalf {a1_ : Int32} {a1 : Int} (e_a1 : a1_ = zI a1) {a2_ : Int32} {a2 : Int} (e_a2 : a2_ = zI a2) {g : uZ} {zr : Int} (h : GF_X1_findHalf a1 a2 g = some zr) : F_X1_findHalf a1_ a2_ (zS g) = some (zI zr) := by
  subst e_a1 e_a2
  unfold GF_X1_findHalf at h
  unfold F_X1_findHalf
  refine cp_r (e := zI) (fun _ h => rF_X1_lagOf rfl rfl h) h ?_
  clear h
  intro v1 h
  refine lp_r zI em_7 kz_0 (fun q r h => rB_X1_findHalf_3 rfl rfl rfl rfl h) h ?_
  clear h
  intro z h
  rcases z with z | z
  · exact rC_X1_findHalf_4 h
  · cases h
    rfl
theorem rB_X1_find_3 {v12_ : Int32} {v12 : Int} (e_v12 : v12_ = zI v12) {w3_ : Int32} {w3 : Int} (e_w3 : w3_ = zI w3) {w17_ : Int32} {w17 : Int} (e_w17 : w17_ = zI w17) {g18 : uZ} {zr : ((Int × uZ) ⊕ uZ)} (h : GB_X1_find_3 v12 w3 w17 g18 = some zr) : B_X1_find_3 v12_ w3_ w17_ (zS g18) = some (em_3 zr) := by
  subst e_v12 e_w3 e_w17
  unfold GB_X1_find_3 at h
  unfold B_X1_find_3
  obtain ⟨hr1, h⟩ := ck_e h
  obtain ⟨hr2, h⟩ := ck_e h
  refine ite_r (c_lt rfl rfl hr1 hr2) h ?_ ?_
  · clear h
    intro h
    cases h
    exact congrArg some (congrArg Sum.inr rfl)
  · clear h
    intro h
    refine cp_r (e := zI) (fun _ h => rF_X11_cell rfl rfl h) h ?_
    clear h
    intro v21 h
    refine cp_r (e := zI) (fun _ h => rF_X1_lagOf rfl rfl h) h ?_
    clear h
    intro v22 h
    refine cp_r (e := zI) (fun _ h => rF_X1_ownCost rfl rfl h) h ?_
    clear h
    intro v23 h
    refine wr_r (Nat.le_of_ble_eq_true rfl) rfl rfl h ?_
    clear h
    intro g24 h
    refine cp_r (e := zI) (fun _ h => rF_X11_cell rfl rfl h) h ?_
    clear h
    intro v25 h
    refine cp_r (e := zI) (fun _ h => rF_X1_findHalf rfl rfl h) h ?_
    clear h
    intro v26 h
    refine wr_r (Nat.le_of_ble_eq_true rfl) rfl rfl h ?_
    clear h
    intro g27 h
    refine lt_r (e_add rfl kz_1) h ?_
    clear h
    intro v28 h
    cases h
    exact congrArg some (congrArg Sum.inl (e_pair rfl rfl))
theorem rC_X1_find_4 {w3_ : Int32} {w3 : Int} (e_w3 : w3_ = zI w3) {g19 : uZ} {zr : ((Int × uZ) ⊕ uZ)} (h : GC_X1_find_4 w3 g19 = some zr) : C_X1_find_4 w3_ (zS g19) = some (em_3 zr) := by
  subst e_w3
  unfold GC_X1_find_4 at h
  unfold C_X1_find_4
  refine lt_r (e_add rfl kz_1) h ?_
  clear h
  intro v29 h
  cases h
  exact congrArg some (congrArg Sum.inl (e_pair rfl rfl))
theorem rJ_X1_find_5 {w3_ : Int32} {w3 : Int} (e_w3 : w3_ = zI w3) {v12_ : Int32} {v12 : Int} (e_v12 : v12_ = zI v12) {g13 : uZ} {zr : ((Int × uZ) ⊕ uZ)} (h : GJ_X1_find_5 w3 v12 g13 = some zr) : J_X1_find_5 w3_ v12_ (zS g13) = some (em_3 zr) := by
  subst e_w3 e_v12
  unfold GJ_X1_find_5 at h
  unfold J_X1_find_5
  refine cp_r (e := zI) (fun _ h => rF_X11_cell rfl rfl h) h ?_
  clear h
  intro v14 h
  refine wr_r (Nat.le_of_ble_eq_true rfl) rfl kz_0 h ?_
  clear h
  intro g15 h
  refine wr_r (Nat.le_of_ble_eq_true rfl) rfl (e_add rfl kz_1) h ?_
  clear h
  intro g16 h
  refine lp_r em_2 zS (e_pair kz_0 rfl) (fun q r h => rB_X1_find_3 rfl rfl rfl h) h ?_
  clear h
  intro z h
  exact rC_X1_find_4 rfl h
theorem rB_X1_find_6 {w3_ : Int32} {w3 : Int} (e_w3 : w3_ = zI w3) {g4 : uZ} {zr : ((Int × uZ) ⊕ uZ)} (h : GB_X1_find_6 w3 g4 = some zr) : B_X1_find_6 w3_ (zS g4) = some (em_3 zr) := by
  subst e_w3
  unfold GB_X1_find_6 at h
  unfold B_X1_find_6
  obtain ⟨hr1, h⟩ := ck_e h
  obtain ⟨hr2, h⟩ := ck_e h
  refine ite_r (c_le rfl rfl hr1 hr2) h ?_ ?_
  · clear h
    intro h
    cases h
    exact congrArg some (congrArg Sum.inr rfl)
  · clear h
    intro h
    refine cp_r (e := zI) (fun _ h => rF_X2_loudAt rfl h) h ?_
    clear h
    intro v7 h
    refine cp_r (e := zI) (fun _ h => rF_X0_of kz_14 h) h ?_
    clear h
    intro v8 h
    obtain ⟨hr3, h⟩ := ck_e h
    obtain ⟨hr4, h⟩ := ck_e h
    refine ite_r (c_le rfl rfl hr3 hr4) h ?_ ?_
    · clear h
      intro h
      refine cl_r (fun _ _ h => rF_X1_keepDips rfl h) h ?_
      clear h
      intro v11 g10 h
      exact rJ_X1_find_5 rfl rfl h
    · clear h
      intro h
      exact rJ_X1_find_5 rfl kz_0 h
theorem rC_X1_find_7 {g5 : uZ} {zr : uZ} (h : GC_X1_find_7 g5 = some zr) : C_X1_find_7 (zS g5) = some (zS zr) := by
  unfold GC_X1_find_7 at h
  unfold C_X1_find_7
  cases h
  rfl
theorem rF_X1_find {g : uZ} {zr : uZ} (h : GF_X1_find g = some zr) : F_X1_find (zS g) = some (zS zr) := by
  unfold GF_X1_find at h
  unfold F_X1_find
  refine cp_r (e := zI) (fun _ h => rF_X2_size h) h ?_
  clear h
  intro v1 h
  refine pf_r rfl h ?_
  clear h
  intro g2 h
  refine lp_r em_2 zS (e_pair kz_0 rfl) (fun q r h => rB_X1_find_6 rfl h) h ?_
  clear h
  intro z h
  exact rC_X1_find_7 h
theorem rF_X9_setBy_17_4 {g : uZ} {zr : uZ} (h : GF_X9_setBy_17_4 g = some zr) : F_X9_setBy_17_4 (zS g) = some (zS zr) := by
  unfold GF_X9_setBy_17_4 at h
  unfold F_X9_setBy_17_4
  refine cp_r (e := zI) (fun _ h => rF_X0_of kz_10 h) h ?_
  clear h
  intro v1 h
  refine cp_r (e := zI) (fun _ h => rF_X0_of kz_11 h) h ?_
  clear h
  intro v2 h
  refine cp_r (e := zI) (fun _ h => rF_X0_of kz_12 h) h ?_
  clear h
  intro v3 h
  refine cp_r (e := zS) (fun _ h => rF_X9_set_17 rfl rfl rfl h) h ?_
  clear h
  intro g4 h
  cases h
  rfl
theorem rJ_X5_findHeads_4 {w9_ : Int32} {w9 : Int} (e_w9 : w9_ = zI w9) {v28_ : Int32} {v28 : Int} (e_v28 : v28_ = zI v28) {v29_ : Int32} {v29 : Int} (e_v29 : v29_ = zI v29) {zr : ((Int × (Int × Int)) ⊕ (Int × Int))} (h : GJ_X5_findHeads_4 w9 v28 v29 = some zr) : J_X5_findHeads_4 w9_ v28_ v29_ = some (em_10 zr) := by
  subst e_w9 e_v28 e_v29
  unfold GJ_X5_findHeads_4 at h
  unfold J_X5_findHeads_4
  refine lt_r (e_add rfl kz_1) h ?_
  clear h
  intro v30 h
  cases h
  exact congrArg some (congrArg Sum.inl (e_pair rfl (e_pair rfl rfl)))
theorem rJ_X5_findHeads_3 {v19_ : Int32} {v19 : Int} (e_v19 : v19_ = zI v19) {w9_ : Int32} {w9 : Int} (e_w9 : w9_ = zI w9) {zr : ((Int × (Int × Int)) ⊕ (Int × Int))} (h : GJ_X5_findHeads_3 v19 w9 = some zr) : J_X5_findHeads_3 v19_ w9_ = some (em_10 zr) := by
  subst e_v19 e_w9
  unfold GJ_X5_findHeads_3 at h
  unfold J_X5_findHeads_3
  exact rJ_X5_findHeads_4 rfl rfl rfl h
theorem rB_X5_findHeads_5 {a1_ : Int32} {a1 : Int} (e_a1 : a1_ = zI a1) {v6_ : Int32} {v6 : Int} (e_v6 : v6_ = zI v6) {g2 : uZ} {w7_ : Int32} {w7 : Int} (e_w7 : w7_ = zI w7) {w8_ : Int32} {w8 : Int} (e_w8 : w8_ = zI w8) {w9_ : Int32} {w9 : Int} (e_w9 : w9_ = zI w9) {zr : ((Int × (Int × Int)) ⊕ (Int × Int))} (h : GB_X5_findHeads_5 a1 v6 g2 w7 w8 w9 = some zr) : B_X5_findHeads_5 a1_ v6_ (zS g2) w7_ w8_ w9_ = some (em_10 zr) := by
  subst e_a1 e_v6 e_w7 e_w8 e_w9
  unfold GB_X5_findHeads_5 at h
  unfold B_X5_findHeads_5
  obtain ⟨hr1, h⟩ := ck_e h
  refine ite_r (c_le rfl kz_0 hr1 ir_0) h ?_ ?_
  · clear h
    intro h
    cases h
    exact congrArg some (congrArg Sum.inr (e_pair rfl rfl))
  · clear h
    intro h
    refine cp_r (e := zI) (fun _ h => rF_X1_sizeOf (e_sub rfl kz_1) h) h ?_
    clear h
    intro v13 h
    obtain ⟨hr2, h⟩ := ck_e h
    obtain ⟨hr3, h⟩ := ck_e h
    refine ite_r (c_le rfl rfl hr2 hr3) h ?_ ?_
    · clear h
      intro h
      cases h
      exact congrArg some (congrArg Sum.inr (e_pair rfl rfl))
    · clear h
      intro h
      refine cp_r (e := zI) (fun _ h => rF_X11_cell (e_sub rfl kz_1) rfl h) h ?_
      clear h
      intro v15 h
      refine rd_r (Nat.le_of_ble_eq_true rfl) rfl h ?_
      clear h
      intro v16 h
      refine cp_r (e := zI) (fun _ h => rF_X1_lagOf (e_sub rfl kz_1) rfl h) h ?_
      clear h
      intro v17 h
      refine cp_r (e := zI) (fun _ h => rF_X9_price_17 rfl rfl h) h ?_
      clear h
      intro v18 h
      refine lt_r (e_add rfl rfl) h ?_
      clear h
      intro v19 h
      refine ite_r (c_eq rfl kz_0 hr3 ir_0) h ?_ ?_
      · clear h
        intro h
        exact rJ_X5_findHeads_3 rfl rfl h
      · clear h
        intro h
        obtain ⟨hr4, h⟩ := ck_e h
        obtain ⟨hr5, h⟩ := ck_e h
        refine ite_r (c_lt rfl rfl hr4 hr5) h ?_ ?_
        · clear h
          intro h
          exact rJ_X5_findHeads_3 rfl rfl h
        · clear h
          intro h
          refine ite_r (c_eq rfl rfl hr4 hr5) h ?_ ?_
          · clear h
            intro h
            refine cp_r (e := zI) (fun _ h => rF_X11_cell (e_sub rfl kz_1) rfl h) h ?_
            clear h
            intro v23 h
            refine rd_r (Nat.le_of_ble_eq_true rfl) rfl h ?_
            clear h
            intro v24 h
            refine cp_r (e := zI) (fun _ h => rF_X11_cell (e_sub rfl kz_1) rfl h) h ?_
            clear h
            intro v25 h
            refine rd_r (Nat.le_of_ble_eq_true rfl) rfl h ?_
            clear h
            intro v26 h
            obtain ⟨hr6, h⟩ := ck_e h
            obtain ⟨hr7, h⟩ := ck_e h
            refine ite_r (c_le rfl rfl hr6 hr7) h ?_ ?_
            · clear h
              intro h
              exact rJ_X5_findHeads_4 rfl rfl rfl h
            · clear h
              intro h
              exact rJ_X5_findHeads_3 rfl rfl h
          · clear h
            intro h
            exact rJ_X5_findHeads_4 rfl rfl rfl h
theorem rC_X5_findHeads_6 {a1_ : Int32} {a1 : Int} (e_a1 : a1_ = zI a1) {w1_ : Int32} {w1 : Int} (e_w1 : w1_ = zI w1) {g2 : uZ} {v10_ : Int32} {v10 : Int} (e_v10 : v10_ = zI v10) {v11_ : Int32} {v11 : Int} (e_v11 : v11_ = zI v11) {zr : ((Int × uZ) ⊕ uZ)} (h : GC_X5_findHeads_6 a1 w1 g2 v10 v11 = some zr) : C_X5_findHeads_6 a1_ w1_ (zS g2) v10_ v11_ = some (em_3 zr) := by
  subst e_a1 e_w1 e_v10 e_v11
  unfold GC_X5_findHeads_6 at h
  unfold C_X5_findHeads_6
  refine cp_r (e := zI) (fun _ h => rF_X11_cell rfl rfl h) h ?_
  clear h
  intro v31 h
  refine cp_r (e := zI) (fun _ h => rF_X1_ownOf rfl rfl h) h ?_
  clear h
  intro v32 h
  refine wr_r (Nat.le_of_ble_eq_true rfl) rfl (e_add rfl rfl) h ?_
  clear h
  intro g33 h
  refine cp_r (e := zI) (fun _ h => rF_X11_cell rfl rfl h) h ?_
  clear h
  intro v34 h
  refine wr_r (Nat.le_of_ble_eq_true rfl) rfl rfl h ?_
  clear h
  intro g35 h
  refine lt_r (e_add rfl kz_1) h ?_
  clear h
  intro v36 h
  cases h
  exact congrArg some (congrArg Sum.inl (e_pair rfl rfl))
theorem rB_X5_findHeads_7 {a1_ : Int32} {a1 : Int} (e_a1 : a1_ = zI a1) {w1_ : Int32} {w1 : Int} (e_w1 : w1_ = zI w1) {g2 : uZ} {zr : ((Int × uZ) ⊕ uZ)} (h : GB_X5_findHeads_7 a1 w1 g2 = some zr) : B_X5_findHeads_7 a1_ w1_ (zS g2) = some (em_3 zr) := by
  subst e_a1 e_w1
  unfold GB_X5_findHeads_7 at h
  unfold B_X5_findHeads_7
  refine cp_r (e := zI) (fun _ h => rF_X1_sizeOf rfl h) h ?_
  clear h
  intro v4 h
  obtain ⟨hr1, h⟩ := ck_e h
  obtain ⟨hr2, h⟩ := ck_e h
  refine ite_r (c_le rfl rfl hr1 hr2) h ?_ ?_
  · clear h
    intro h
    cases h
    exact congrArg some (congrArg Sum.inr rfl)
  · clear h
    intro h
    refine cp_r (e := zI) (fun _ h => rF_X1_lagOf rfl rfl h) h ?_
    clear h
    intro v6 h
    refine lp_r em_9 em_0 (e_pair kz_0 (e_pair kz_0 kz_0)) (fun q r h => rB_X5_findHeads_5 rfl rfl rfl rfl rfl h) h ?_
    clear h
    intro z h
    exact rC_X5_findHeads_6 rfl rfl rfl rfl h
theorem rC_X5_findHeads_8 {g3 : uZ} {zr : uZ} (h : GC_X5_findHeads_8 g3 = some zr) : C_X5_findHeads_8 (zS g3) = some (zS zr) := by
  unfold GC_X5_findHeads_8 at h
  unfold C_X5_findHeads_8
  cases h
  rfl
theorem rF_X5_findHeads {a1_ : Int32} {a1 : Int} (e_a1 : a1_ = zI a1) {g : uZ} {zr : uZ} (h : GF_X5_findHeads a1 g = some zr) : F_X5_findHeads a1_ (zS g) = some (zS zr) := by
  subst e_a1
  unfold GF_X5_findHeads at h
  unfold F_X5_findHeads
  refine lp_r em_2 zS (e_pair kz_0 rfl) (fun q r h => rB_X5_findHeads_7 rfl rfl h) h ?_
  clear h
  intro z h
  exact rC_X5_findHeads_8 h
theorem rJ_X5_isAhead_1 {a2_ : Int32} {a2 : Int} (e_a2 : a2_ = zI a2) {a3_ : Int32} {a3 : Int} (e_a3 : a3_ = zI a3) {zr : Int} (h : GJ_X5_isAhead_1 a2 a3 = some zr) : J_X5_isAhead_1 a2_ a3_ = some (zI zr) := by
  subst e_a2 e_a3
  unfold GJ_X5_isAhead_1 at h
  unfold J_X5_isAhead_1
  obtain ⟨hr1, h⟩ := ck_e h
  obtain ⟨hr2, h⟩ := ck_e h
  refine lt_r (e_ite (c_le rfl rfl hr1 hr2) kz_0 kz_1) h ?_
  clear h
  intro v17 h
  refine bz_r rfl h ?_
  clear h
  intro h
  cases h
  rfl
theorem rF_X5_isAhead {a1_ : Int32} {a1 : Int} (e_a1 : a1_ = zI a1) {a2_ : Int32} {a2 : Int} (e_a2 : a2_ = zI a2) {a3_ : Int32} {a3 : Int} (e_a3 : a3_ = zI a3) {g : uZ} {zr : Int} (h : GF_X5_isAhead a1 a2 a3 g = some zr) : F_X5_isAhead a1_ a2_ a3_ (zS g) = some (zI zr) := by
  subst e_a1 e_a2 e_a3
  unfold GF_X5_isAhead at h
  unfold F_X5_isAhead
  refine cp_r (e := zI) (fun _ h => rF_X11_cell rfl rfl h) h ?_
  clear h
  intro v1 h
  refine rd_r (Nat.le_of_ble_eq_true rfl) rfl h ?_
  clear h
  intro v2 h
  refine cp_r (e := zI) (fun _ h => rF_X11_cell rfl rfl h) h ?_
  clear h
  intro v3 h
  refine rd_r (Nat.le_of_ble_eq_true rfl) rfl h ?_
  clear h
  intro v4 h
  obtain ⟨hr1, h⟩ := ck_e h
  obtain ⟨hr2, h⟩ := ck_e h
  refine ite_r (c_eq rfl rfl hr1 hr2) h ?_ ?_
  · clear h
    intro h
    exact rJ_X5_isAhead_1 rfl rfl h
  · clear h
    intro h
    refine cp_r (e := zI) (fun _ h => rF_X1_has (e_sub rfl kz_1) rfl h) h ?_
    clear h
    intro v6 h
    obtain ⟨hr3, h⟩ := ck_e h
    refine ite_r (c_eq rfl kz_0 hr3 ir_0) h ?_ ?_
    · clear h
      intro h
      exact rJ_X5_isAhead_1 rfl rfl h
    · clear h
      intro h
      refine cp_r (e := zI) (fun _ h => rF_X1_has (e_sub rfl kz_1) rfl h) h ?_
      clear h
      intro v8 h
      obtain ⟨hr4, h⟩ := ck_e h
      refine ite_r (c_eq rfl kz_0 hr4 ir_0) h ?_ ?_
      · clear h
        intro h
        exact rJ_X5_isAhead_1 rfl rfl h
      · clear h
        intro h
        refine cp_r (e := zI) (fun _ h => rF_X11_cell (e_sub rfl kz_1) rfl h) h ?_
        clear h
        intro v10 h
        refine rd_r (Nat.le_of_ble_eq_true rfl) rfl h ?_
        clear h
        intro v11 h
        refine cp_r (e := zI) (fun _ h => rF_X11_cell (e_sub rfl kz_1) rfl h) h ?_
        clear h
        intro v12 h
        refine rd_r (Nat.le_of_ble_eq_true rfl) rfl h ?_
        clear h
        intro v13 h
        obtain ⟨hr5, h⟩ := ck_e h
        obtain ⟨hr6, h⟩ := ck_e h
        refine lt_r (e_ite (c_le rfl rfl hr5 hr6) kz_0 kz_1) h ?_
        clear h
        intro v15 h
        refine bz_r rfl h ?_
        clear h
        intro h
        cases h
        rfl
theorem rJ_X5_findRanks_3 {w7_ : Int32} {w7 : Int} (e_w7 : w7_ = zI w7) {v14_ : Int32} {v14 : Int} (e_v14 : v14_ = zI v14) {zr : ((Int × Int) ⊕ Int)} (h : GJ_X5_findRanks_3 w7 v14 = some zr) : J_X5_findRanks_3 w7_ v14_ = some (em_1 zr) := by
  subst e_w7 e_v14
  unfold GJ_X5_findRanks_3 at h
  unfold J_X5_findRanks_3
  refine lt_r (e_add rfl kz_1) h ?_
  clear h
  intro v15 h
  cases h
  exact congrArg some (congrArg Sum.inl (e_pair rfl rfl))
theorem rB_X5_findRanks_4 {a1_ : Int32} {a1 : Int} (e_a1 : a1_ = zI a1) {w1_ : Int32} {w1 : Int} (e_w1 : w1_ = zI w1) {g2 : uZ} {w6_ : Int32} {w6 : Int} (e_w6 : w6_ = zI w6) {w7_ : Int32} {w7 : Int} (e_w7 : w7_ = zI w7) {zr : ((Int × Int) ⊕ Int)} (h : GB_X5_findRanks_4 a1 w1 g2 w6 w7 = some zr) : B_X5_findRanks_4 a1_ w1_ (zS g2) w6_ w7_ = some (em_1 zr) := by
  subst e_a1 e_w1 e_w6 e_w7
  unfold GB_X5_findRanks_4 at h
  unfold B_X5_findRanks_4
  refine cp_r (e := zI) (fun _ h => rF_X1_sizeOf rfl h) h ?_
  clear h
  intro v9 h
  obtain ⟨hr1, h⟩ := ck_e h
  obtain ⟨hr2, h⟩ := ck_e h
  refine ite_r (c_le rfl rfl hr1 hr2) h ?_ ?_
  · clear h
    intro h
    cases h
    exact congrArg some (congrArg Sum.inr rfl)
  · clear h
    intro h
    refine cp_r (e := zI) (fun _ h => rF_X5_isAhead rfl rfl rfl h) h ?_
    clear h
    intro v11 h
    obtain ⟨hr3, h⟩ := ck_e h
    refine ite_r (c_eq rfl kz_0 hr3 ir_0) h ?_ ?_
    · clear h
      intro h
      exact rJ_X5_findRanks_3 rfl rfl h
    · clear h
      intro h
      refine lt_r (e_add rfl kz_1) h ?_
      clear h
      intro v13 h
      exact rJ_X5_findRanks_3 rfl rfl h
theorem rC_X5_findRanks_5 {a1_ : Int32} {a1 : Int} (e_a1 : a1_ = zI a1) {w1_ : Int32} {w1 : Int} (e_w1 : w1_ = zI w1) {g2 : uZ} {v8_ : Int32} {v8 : Int} (e_v8 : v8_ = zI v8) {zr : ((Int × uZ) ⊕ uZ)} (h : GC_X5_findRanks_5 a1 w1 g2 v8 = some zr) : C_X5_findRanks_5 a1_ w1_ (zS g2) v8_ = some (em_3 zr) := by
  subst e_a1 e_w1 e_v8
  unfold GC_X5_findRanks_5 at h
  unfold C_X5_findRanks_5
  refine cp_r (e := zI) (fun _ h => rF_X11_cell rfl rfl h) h ?_
  clear h
  intro v16 h
  refine wr_r (Nat.le_of_ble_eq_true rfl) rfl rfl h ?_
  clear h
  intro g17 h
  refine lt_r (e_add rfl kz_1) h ?_
  clear h
  intro v18 h
  cases h
  exact congrArg some (congrArg Sum.inl (e_pair rfl rfl))
theorem rB_X5_findRanks_6 {a1_ : Int32} {a1 : Int} (e_a1 : a1_ = zI a1) {w1_ : Int32} {w1 : Int} (e_w1 : w1_ = zI w1) {g2 : uZ} {zr : ((Int × uZ) ⊕ uZ)} (h : GB_X5_findRanks_6 a1 w1 g2 = some zr) : B_X5_findRanks_6 a1_ w1_ (zS g2) = some (em_3 zr) := by
  subst e_a1 e_w1
  unfold GB_X5_findRanks_6 at h
  unfold B_X5_findRanks_6
  refine cp_r (e := zI) (fun _ h => rF_X1_sizeOf rfl h) h ?_
  clear h
  intro v4 h
  obtain ⟨hr1, h⟩ := ck_e h
  obtain ⟨hr2, h⟩ := ck_e h
  refine ite_r (c_le rfl rfl hr1 hr2) h ?_ ?_
  · clear h
    intro h
    cases h
    exact congrArg some (congrArg Sum.inr rfl)
  · clear h
    intro h
    refine lp_r em_0 zI (e_pair kz_0 kz_0) (fun q r h => rB_X5_findRanks_4 rfl rfl rfl rfl h) h ?_
    clear h
    intro z h
    exact rC_X5_findRanks_5 rfl rfl rfl h
theorem rC_X5_findRanks_7 {g3 : uZ} {zr : uZ} (h : GC_X5_findRanks_7 g3 = some zr) : C_X5_findRanks_7 (zS g3) = some (zS zr) := by
  unfold GC_X5_findRanks_7 at h
  unfold C_X5_findRanks_7
  cases h
  rfl
theorem rF_X5_findRanks {a1_ : Int32} {a1 : Int} (e_a1 : a1_ = zI a1) {g : uZ} {zr : uZ} (h : GF_X5_findRanks a1 g = some zr) : F_X5_findRanks a1_ (zS g) = some (zS zr) := by
  subst e_a1
  unfold GF_X5_findRanks at h
  unfold F_X5_findRanks
  refine lp_r em_2 zS (e_pair kz_0 rfl) (fun q r h => rB_X5_findRanks_6 rfl rfl h) h ?_
  clear h
  intro z h
  exact rC_X5_findRanks_7 h
theorem rB_X5_findTails_3 {a1_ : Int32} {a1 : Int} (e_a1 : a1_ = zI a1) {v6_ : Int32} {v6 : Int} (e_v6 : v6_ = zI v6) {g2 : uZ} {w9_ : Int32} {w9 : Int} (e_w9 : w9_ = zI w9) {w10_ : Int32} {w10 : Int} (e_w10 : w10_ = zI w10) {zr : ((Int × Int) ⊕ Int)} (h : GB_X5_findTails_3 a1 v6 g2 w9 w10 = some zr) : B_X5_findTails_3 a1_ v6_ (zS g2) w9_ w10_ = some (em_1 zr) := by
  subst e_a1 e_v6 e_w9 e_w10
  unfold GB_X5_findTails_3 at h
  unfold B_X5_findTails_3
  obtain ⟨hr1, h⟩ := ck_e h
  obtain ⟨hr2, h⟩ := ck_e h
  refine ite_r (c_le rfl (e_add rfl kz_1) hr1 hr2) h ?_ ?_
  · clear h
    intro h
    cases h
    exact congrArg some (congrArg Sum.inr rfl)
  · clear h
    intro h
    refine cp_r (e := zI) (fun _ h => rF_X1_sizeOf (e_add rfl kz_1) h) h ?_
    clear h
    intro v13 h
    obtain ⟨hr3, h⟩ := ck_e h
    obtain ⟨hr4, h⟩ := ck_e h
    refine ite_r (c_le rfl rfl hr3 hr4) h ?_ ?_
    · clear h
      intro h
      cases h
      exact congrArg some (congrArg Sum.inr rfl)
    · clear h
      intro h
      refine cp_r (e := zI) (fun _ h => rF_X11_cell (e_add rfl kz_1) rfl h) h ?_
      clear h
      intro v15 h
      refine rd_r (Nat.le_of_ble_eq_true rfl) rfl h ?_
      clear h
      intro v16 h
      refine cp_r (e := zI) (fun _ h => rF_X1_lagOf (e_add rfl kz_1) rfl h) h ?_
      clear h
      intro v17 h
      refine cp_r (e := zI) (fun _ h => rF_X9_price_17 rfl rfl h) h ?_
      clear h
      intro v18 h
      refine lt_r (e_add rfl rfl) h ?_
      clear h
      intro v19 h
      refine cp_r (e := zI) (fun _ h => rF_J9_min_7cf53 rfl rfl h) h ?_
      clear h
      intro v20 h
      refine lt_r (e_add rfl kz_1) h ?_
      clear h
      intro v21 h
      cases h
      exact congrArg some (congrArg Sum.inl (e_pair rfl rfl))
theorem rC_X5_findTails_4 {a1_ : Int32} {a1 : Int} (e_a1 : a1_ = zI a1) {w1_ : Int32} {w1 : Int} (e_w1 : w1_ = zI w1) {g2 : uZ} {v11_ : Int32} {v11 : Int} (e_v11 : v11_ = zI v11) {zr : ((Int × uZ) ⊕ uZ)} (h : GC_X5_findTails_4 a1 w1 g2 v11 = some zr) : C_X5_findTails_4 a1_ w1_ (zS g2) v11_ = some (em_3 zr) := by
  subst e_a1 e_w1 e_v11
  unfold GC_X5_findTails_4 at h
  unfold C_X5_findTails_4
  refine cp_r (e := zI) (fun _ h => rF_X11_cell rfl rfl h) h ?_
  clear h
  intro v22 h
  refine cp_r (e := zI) (fun _ h => rF_X1_ownOf rfl rfl h) h ?_
  clear h
  intro v23 h
  refine wr_r (Nat.le_of_ble_eq_true rfl) rfl (e_add rfl rfl) h ?_
  clear h
  intro g24 h
  refine lt_r (e_add rfl kz_1) h ?_
  clear h
  intro v25 h
  cases h
  exact congrArg some (congrArg Sum.inl (e_pair rfl rfl))
theorem rB_X5_findTails_5 {a1_ : Int32} {a1 : Int} (e_a1 : a1_ = zI a1) {w1_ : Int32} {w1 : Int} (e_w1 : w1_ = zI w1) {g2 : uZ} {zr : ((Int × uZ) ⊕ uZ)} (h : GB_X5_findTails_5 a1 w1 g2 = some zr) : B_X5_findTails_5 a1_ w1_ (zS g2) = some (em_3 zr) := by
  subst e_a1 e_w1
  unfold GB_X5_findTails_5 at h
  unfold B_X5_findTails_5
  refine cp_r (e := zI) (fun _ h => rF_X1_sizeOf rfl h) h ?_
  clear h
  intro v4 h
  obtain ⟨hr1, h⟩ := ck_e h
  obtain ⟨hr2, h⟩ := ck_e h
  refine ite_r (c_le rfl rfl hr1 hr2) h ?_ ?_
  · clear h
    intro h
    cases h
    exact congrArg some (congrArg Sum.inr rfl)
  · clear h
    intro h
    refine cp_r (e := zI) (fun _ h => rF_X1_lagOf rfl rfl h) h ?_
    clear h
    intro v6 h
    obtain ⟨hr3, h⟩ := ck_e h
    obtain ⟨hr4, h⟩ := ck_e h
    refine lt_r (e_ite (c_le rfl (e_add rfl kz_1) hr3 hr4) kz_0 kz_536870912) h ?_
    clear h
    intro v8 h
    refine lp_r em_0 zI (e_pair rfl kz_0) (fun q r h => rB_X5_findTails_3 rfl rfl rfl rfl h) h ?_
    clear h
    intro z h
    exact rC_X5_findTails_4 rfl rfl rfl h
theorem rC_X5_findTails_6 {g3 : uZ} {zr : uZ} (h : GC_X5_findTails_6 g3 = some zr) : C_X5_findTails_6 (zS g3) = some (zS zr) := by
  unfold GC_X5_findTails_6 at h
  unfold C_X5_findTails_6
  cases h
  rfl
theorem rF_X5_findTails {a1_ : Int32} {a1 : Int} (e_a1 : a1_ = zI a1) {g : uZ} {zr : uZ} (h : GF_X5_findTails a1 g = some zr) : F_X5_findTails a1_ (zS g) = some (zS zr) := by
  subst e_a1
  unfold GF_X5_findTails at h
  unfold F_X5_findTails
  refine lp_r em_2 zS (e_pair kz_0 rfl) (fun q r h => rB_X5_findTails_5 rfl rfl h) h ?_
  clear h
  intro z h
  exact rC_X5_findTails_6 h
theorem rJ_X5_firstAtEnd_3 {w2_ : Int32} {w2 : Int} (e_w2 : w2_ = zI w2) {v18_ : Int32} {v18 : Int} (e_v18 : v18_ = zI v18) {zr : ((Int × Int) ⊕ Int)} (h : GJ_X5_firstAtEnd_3 w2 v18 = some zr) : J_X5_firstAtEnd_3 w2_ v18_ = some (em_1 zr) := by
  subst e_w2 e_v18
  unfold GJ_X5_firstAtEnd_3 at h
  unfold J_X5_firstAtEnd_3
  refine lt_r (e_add rfl kz_1) h ?_
  clear h
  intro v19 h
  cases h
  exact congrArg some (congrArg Sum.inl (e_pair rfl rfl))
theorem rJ_X5_firstAtEnd_2 {w2_ : Int32} {w2 : Int} (e_w2 : w2_ = zI w2) {zr : ((Int × Int) ⊕ Int)} (h : GJ_X5_firstAtEnd_2 w2 = some zr) : J_X5_firstAtEnd_2 w2_ = some (em_1 zr) := by
  subst e_w2
  unfold GJ_X5_firstAtEnd_2 at h
  unfold J_X5_firstAtEnd_2
  exact rJ_X5_firstAtEnd_3 rfl rfl h
theorem rB_X5_firstAtEnd_4 {a1_ : Int32} {a1 : Int} (e_a1 : a1_ = zI a1) {g : uZ} {w1_ : Int32} {w1 : Int} (e_w1 : w1_ = zI w1) {w2_ : Int32} {w2 : Int} (e_w2 : w2_ = zI w2) {zr : ((Int × Int) ⊕ Int)} (h : GB_X5_firstAtEnd_4 a1 g w1 w2 = some zr) : B_X5_firstAtEnd_4 a1_ (zS g) w1_ w2_ = some (em_1 zr) := by
  subst e_a1 e_w1 e_w2
  unfold GB_X5_firstAtEnd_4 at h
  unfold B_X5_firstAtEnd_4
  refine cp_r (e := zI) (fun _ h => rF_X1_sizeOf rfl h) h ?_
  clear h
  intro v4 h
  obtain ⟨hr1, h⟩ := ck_e h
  obtain ⟨hr2, h⟩ := ck_e h
  refine ite_r (c_le rfl rfl hr1 hr2) h ?_ ?_
  · clear h
    intro h
    cases h
    exact congrArg some (congrArg Sum.inr rfl)
  · clear h
    intro h
    refine cp_r (e := zI) (fun _ h => rF_X11_cell rfl rfl h) h ?_
    clear h
    intro v6 h
    refine rd_r (Nat.le_of_ble_eq_true rfl) rfl h ?_
    clear h
    intro v7 h
    refine cp_r (e := zI) (fun _ h => rF_X11_cell rfl rfl h) h ?_
    clear h
    intro v8 h
    refine rd_r (Nat.le_of_ble_eq_true rfl) rfl h ?_
    clear h
    intro v9 h
    refine lt_r (e_sub rfl rfl) h ?_
    clear h
    intro v10 h
    obtain ⟨hr3, h⟩ := ck_e h
    refine ite_r (c_lt rfl kz_0 hr3 ir_0) h ?_ ?_
    · clear h
      intro h
      exact rJ_X5_firstAtEnd_2 rfl h
    · clear h
      intro h
      refine ite_r (c_eq rfl kz_0 hr3 ir_0) h ?_ ?_
      · clear h
        intro h
        refine cp_r (e := zI) (fun _ h => rF_X11_cell rfl rfl h) h ?_
        clear h
        intro v13 h
        refine rd_r (Nat.le_of_ble_eq_true rfl) rfl h ?_
        clear h
        intro v14 h
        refine cp_r (e := zI) (fun _ h => rF_X11_cell rfl rfl h) h ?_
        clear h
        intro v15 h
        refine rd_r (Nat.le_of_ble_eq_true rfl) rfl h ?_
        clear h
        intro v16 h
        obtain ⟨hr4, h⟩ := ck_e h
        obtain ⟨hr5, h⟩ := ck_e h
        refine ite_r (c_le rfl rfl hr4 hr5) h ?_ ?_
        · clear h
          intro h
          exact rJ_X5_firstAtEnd_3 rfl rfl h
        · clear h
          intro h
          exact rJ_X5_firstAtEnd_2 rfl h
      · clear h
        intro h
        exact rJ_X5_firstAtEnd_3 rfl rfl h
theorem rC_X5_firstAtEnd_5 {v3_ : Int32} {v3 : Int} (e_v3 : v3_ = zI v3) {zr : Int} (h : GC_X5_firstAtEnd_5 v3 = some zr) : C_X5_firstAtEnd_5 v3_ = some (zI zr) := by
  subst e_v3
  unfold GC_X5_firstAtEnd_5 at h
  unfold C_X5_firstAtEnd_5
  cases h
  rfl
theorem rF_X5_firstAtEnd {a1_ : Int32} {a1 : Int} (e_a1 : a1_ = zI a1) {g : uZ} {zr : Int} (h : GF_X5_firstAtEnd a1 g = some zr) : F_X5_firstAtEnd a1_ (zS g) = some (zI zr) := by
  subst e_a1
  unfold GF_X5_firstAtEnd at h
  unfold F_X5_firstAtEnd
  refine lp_r em_0 zI (e_pair kz_0 kz_1) (fun q r h => rB_X5_firstAtEnd_4 rfl rfl rfl h) h ?_
  clear h
  intro z h
  exact rC_X5_firstAtEnd_5 rfl h
theorem rJ_X5_aheadOf_1 {a1_ : Int32} {a1 : Int} (e_a1 : a1_ = zI a1) {g : uZ} {v5_ : Int32} {v5 : Int} (e_v5 : v5_ = zI v5) {zr : Int} (h : GJ_X5_aheadOf_1 a1 g v5 = some zr) : J_X5_aheadOf_1 a1_ (zS g) v5_ = some (zI zr) := by
  subst e_a1 e_v5
  unfold GJ_X5_aheadOf_1 at h
  unfold J_X5_aheadOf_1
  refine cp_r (e := zI) (fun _ h => rF_X1_has (e_sub rfl kz_1) rfl h) h ?_
  clear h
  intro v6 h
  obtain ⟨hr1, h⟩ := ck_e h
  refine lt_r (e_ite (c_eq rfl kz_0 hr1 ir_0) kz_0 rfl) h ?_
  clear h
  intro v8 h
  cases h
  rfl
theorem rF_X5_aheadOf {a1_ : Int32} {a1 : Int} (e_a1 : a1_ = zI a1) {a2_ : Int32} {a2 : Int} (e_a2 : a2_ = zI a2) {g : uZ} {zr : Int} (h : GF_X5_aheadOf a1 a2 g = some zr) : F_X5_aheadOf a1_ a2_ (zS g) = some (zI zr) := by
  subst e_a1 e_a2
  unfold GF_X5_aheadOf at h
  unfold F_X5_aheadOf
  refine cp_r (e := zI) (fun _ h => rF_X1_has rfl rfl h) h ?_
  clear h
  intro v1 h
  obtain ⟨hr1, h⟩ := ck_e h
  refine ite_r (c_eq rfl kz_0 hr1 ir_0) h ?_ ?_
  · clear h
    intro h
    exact rJ_X5_aheadOf_1 rfl kz_0 h
  · clear h
    intro h
    refine cp_r (e := zI) (fun _ h => rF_X11_cell rfl rfl h) h ?_
    clear h
    intro v3 h
    refine rd_r (Nat.le_of_ble_eq_true rfl) rfl h ?_
    clear h
    intro v4 h
    exact rJ_X5_aheadOf_1 rfl rfl h
theorem rB_X5_find_2 {w4_ : Int32} {w4 : Int} (e_w4 : w4_ = zI w4) {g5 : uZ} {zr : ((Int × uZ) ⊕ uZ)} (h : GB_X5_find_2 w4 g5 = some zr) : B_X5_find_2 w4_ (zS g5) = some (em_3 zr) := by
  subst e_w4
  unfold GB_X5_find_2 at h
  unfold B_X5_find_2
  obtain ⟨hr1, h⟩ := ck_e h
  obtain ⟨hr2, h⟩ := ck_e h
  refine ite_r (c_le rfl rfl hr1 hr2) h ?_ ?_
  · clear h
    intro h
    cases h
    exact congrArg some (congrArg Sum.inr rfl)
  · clear h
    intro h
    refine cp_r (e := zS) (fun _ h => rF_X5_findHeads rfl h) h ?_
    clear h
    intro g8 h
    refine cp_r (e := zS) (fun _ h => rF_X5_findRanks rfl h) h ?_
    clear h
    intro g9 h
    refine lt_r (e_add rfl kz_1) h ?_
    clear h
    intro v10 h
    cases h
    exact congrArg some (congrArg Sum.inl (e_pair rfl rfl))
theorem rB_X5_find_4 {w12_ : Int32} {w12 : Int} (e_w12 : w12_ = zI w12) {g13 : uZ} {zr : ((Int × uZ) ⊕ uZ)} (h : GB_X5_find_4 w12 g13 = some zr) : B_X5_find_4 w12_ (zS g13) = some (em_3 zr) := by
  subst e_w12
  unfold GB_X5_find_4 at h
  unfold B_X5_find_4
  obtain ⟨hr1, h⟩ := ck_e h
  refine ite_r (c_lt rfl kz_0 hr1 ir_0) h ?_ ?_
  · clear h
    intro h
    cases h
    exact congrArg some (congrArg Sum.inr rfl)
  · clear h
    intro h
    refine cp_r (e := zS) (fun _ h => rF_X5_findTails rfl h) h ?_
    clear h
    intro g16 h
    refine lt_r (e_add rfl kz_m1) h ?_
    clear h
    intro v17 h
    cases h
    exact congrArg some (congrArg Sum.inl (e_pair rfl rfl))
theorem rB_X5_find_6 {w22_ : Int32} {w22 : Int} (e_w22 : w22_ = zI w22) {w23_ : Int32} {w23 : Int} (e_w23 : w23_ = zI w23) {g24 : uZ} {zr : ((Int × (Int × uZ)) ⊕ uZ)} (h : GB_X5_find_6 w22 w23 g24 = some zr) : B_X5_find_6 w22_ w23_ (zS g24) = some (em_5 zr) := by
  subst e_w22 e_w23
  unfold GB_X5_find_6 at h
  unfold B_X5_find_6
  obtain ⟨hr1, h⟩ := ck_e h
  refine ite_r (c_lt rfl kz_0 hr1 ir_0) h ?_ ?_
  · clear h
    intro h
    cases h
    exact congrArg some (congrArg Sum.inr rfl)
  · clear h
    intro h
    refine wr_r (Nat.le_of_ble_eq_true rfl) rfl rfl h ?_
    clear h
    intro g27 h
    refine cp_r (e := zI) (fun _ h => rF_X1_lagOf rfl rfl h) h ?_
    clear h
    intro v28 h
    refine wr_r (Nat.le_of_ble_eq_true rfl) rfl rfl h ?_
    clear h
    intro g29 h
    refine cp_r (e := zI) (fun _ h => rF_X5_aheadOf rfl rfl h) h ?_
    clear h
    intro v30 h
    refine lt_r (e_add rfl kz_m1) h ?_
    clear h
    intro v31 h
    cases h
    exact congrArg some (congrArg Sum.inl (e_pair rfl (e_pair rfl rfl)))
theorem rC_X5_find_7 {g25 : uZ} {zr : uZ} (h : GC_X5_find_7 g25 = some zr) : C_X5_find_7 (zS g25) = some (zS zr) := by
  unfold GC_X5_find_7 at h
  unfold C_X5_find_7
  cases h
  rfl
theorem rJ_X5_find_8 {g14 : uZ} {v20_ : Int32} {v20 : Int} (e_v20 : v20_ = zI v20) {zr : uZ} (h : GJ_X5_find_8 g14 v20 = some zr) : J_X5_find_8 (zS g14) v20_ = some (zS zr) := by
  subst e_v20
  unfold GJ_X5_find_8 at h
  unfold J_X5_find_8
  refine lt_r (e_sub rfl kz_1) h ?_
  clear h
  intro v21 h
  refine lp_r em_4 zS (e_pair rfl (e_pair rfl rfl)) (fun q r h => rB_X5_find_6 rfl rfl h) h ?_
  clear h
  intro z h
  exact rC_X5_find_7 h
theorem rC_X5_find_9 {g14 : uZ} {zr : uZ} (h : GC_X5_find_9 g14 = some zr) : C_X5_find_9 (zS g14) = some (zS zr) := by
  unfold GC_X5_find_9 at h
  unfold C_X5_find_9
  obtain ⟨hr1, h⟩ := ck_e h
  refine ite_r (c_eq rfl kz_0 hr1 ir_0) h ?_ ?_
  · clear h
    intro h
    exact rJ_X5_find_8 kz_0 h
  · clear h
    intro h
    refine cp_r (e := zI) (fun _ h => rF_X5_firstAtEnd (e_sub rfl kz_1) h) h ?_
    clear h
    intro v19 h
    exact rJ_X5_find_8 rfl h
theorem rC_X5_find_10 {g6 : uZ} {zr : uZ} (h : GC_X5_find_10 g6 = some zr) : C_X5_find_10 (zS g6) = some (zS zr) := by
  unfold GC_X5_find_10 at h
  unfold C_X5_find_10
  refine lt_r (e_sub rfl kz_1) h ?_
  clear h
  intro v11 h
  refine lp_r em_2 zS (e_pair rfl rfl) (fun q r h => rB_X5_find_4 rfl h) h ?_
  clear h
  intro z h
  exact rC_X5_find_9 h
theorem rF_X5_find {g : uZ} {zr : uZ} (h : GF_X5_find g = some zr) : F_X5_find (zS g) = some (zS zr) := by
  unfold GF_X5_find at h
  unfold F_X5_find
  refine cp_r (e := zI) (fun _ h => rF_X1_frameCount h) h ?_
  clear h
  intro v1 h
  refine pf_r rfl h ?_
  clear h
  intro g2 h
  refine cp_r (e := zS) (fun _ h => rF_X9_setBy_17_4 h) h ?_
  clear h
  intro g3 h
  refine lp_r em_2 zS (e_pair kz_0 rfl) (fun q r h => rB_X5_find_2 rfl h) h ?_
  clear h
  intro z h
  exact rC_X5_find_10 h
theorem rF_X5_size {g : uZ} {zr : Int} (h : GF_X5_size g = some zr) : F_X5_size (zS g) = some (zI zr) := by
  unfold GF_X5_size at h
  unfold F_X5_size
  cases h
  rfl
theorem rJ_X5_chosenIn_2 {v4_ : Int32} {v4 : Int} (e_v4 : v4_ = zI v4) {zr : Int} (h : GJ_X5_chosenIn_2 v4 = some zr) : J_X5_chosenIn_2 v4_ = some (zI zr) := by
  subst e_v4
  unfold GJ_X5_chosenIn_2 at h
  unfold J_X5_chosenIn_2
  cases h
  rfl
theorem rJ_X5_chosenIn_1 {zr : Int} (h : GJ_X5_chosenIn_1 = some zr) : J_X5_chosenIn_1 = some (zI zr) := by
  unfold GJ_X5_chosenIn_1 at h
  unfold J_X5_chosenIn_1
  exact rJ_X5_chosenIn_2 kz_0 h
theorem rF_X5_chosenIn {a1_ : Int32} {a1 : Int} (e_a1 : a1_ = zI a1) {g : uZ} {zr : Int} (h : GF_X5_chosenIn a1 g = some zr) : F_X5_chosenIn a1_ (zS g) = some (zI zr) := by
  subst e_a1
  unfold GF_X5_chosenIn at h
  unfold F_X5_chosenIn
  obtain ⟨hr1, h⟩ := ck_e h
  refine ite_r (c_lt rfl kz_0 hr1 ir_0) h ?_ ?_
  · clear h
    intro h
    exact rJ_X5_chosenIn_1 h
  · clear h
    intro h
    obtain ⟨hr2, h⟩ := ck_e h
    refine ite_r (c_lt rfl rfl hr1 hr2) h ?_ ?_
    · clear h
      intro h
      refine rd_r (Nat.le_of_ble_eq_true rfl) rfl h ?_
      clear h
      intro v3 h
      exact rJ_X5_chosenIn_2 rfl h
    · clear h
      intro h
      exact rJ_X5_chosenIn_1 h
theorem rJ_X5_lagIn_2 {v4_ : Int32} {v4 : Int} (e_v4 : v4_ = zI v4) {zr : Int} (h : GJ_X5_lagIn_2 v4 = some zr) : J_X5_lagIn_2 v4_ = some (zI zr) := by
  subst e_v4
  unfold GJ_X5_lagIn_2 at h
  unfold J_X5_lagIn_2
  cases h
  rfl
theorem rJ_X5_lagIn_1 {zr : Int} (h : GJ_X5_lagIn_1 = some zr) : J_X5_lagIn_1 = some (zI zr) := by
  unfold GJ_X5_lagIn_1 at h
  unfold J_X5_lagIn_1
  exact rJ_X5_lagIn_2 kz_0 h
theorem rF_X5_lagIn {a1_ : Int32} {a1 : Int} (e_a1 : a1_ = zI a1) {g : uZ} {zr : Int} (h : GF_X5_lagIn a1 g = some zr) : F_X5_lagIn a1_ (zS g) = some (zI zr) := by
  subst e_a1
  unfold GF_X5_lagIn at h
  unfold F_X5_lagIn
  obtain ⟨hr1, h⟩ := ck_e h
  refine ite_r (c_lt rfl kz_0 hr1 ir_0) h ?_ ?_
  · clear h
    intro h
    exact rJ_X5_lagIn_1 h
  · clear h
    intro h
    obtain ⟨hr2, h⟩ := ck_e h
    refine ite_r (c_lt rfl rfl hr1 hr2) h ?_ ?_
    · clear h
      intro h
      refine rd_r (Nat.le_of_ble_eq_true rfl) rfl h ?_
      clear h
      intro v3 h
      exact rJ_X5_lagIn_2 rfl h
    · clear h
      intro h
      exact rJ_X5_lagIn_1 h
theorem rB_X5_ownSum_2 {g : uZ} {w1_ : Int32} {w1 : Int} (e_w1 : w1_ = zI w1) {w2_ : Int32} {w2 : Int} (e_w2 : w2_ = zI w2) {zr : ((Int × Int) ⊕ Int)} (h : GB_X5_ownSum_2 g w1 w2 = some zr) : B_X5_ownSum_2 (zS g) w1_ w2_ = some (em_1 zr) := by
  subst e_w1 e_w2
  unfold GB_X5_ownSum_2 at h
  unfold B_X5_ownSum_2
  obtain ⟨hr1, h⟩ := ck_e h
  obtain ⟨hr2, h⟩ := ck_e h
  refine ite_r (c_le rfl rfl hr1 hr2) h ?_ ?_
  · clear h
    intro h
    cases h
    exact congrArg some (congrArg Sum.inr rfl)
  · clear h
    intro h
    refine rd_r (Nat.le_of_ble_eq_true rfl) rfl h ?_
    clear h
    intro v5 h
    refine cp_r (e := zI) (fun _ h => rF_X1_ownOf rfl rfl h) h ?_
    clear h
    intro v6 h
    refine lt_r (e_add rfl rfl) h ?_
    clear h
    intro v7 h
    refine lt_r (e_add rfl kz_1) h ?_
    clear h
    intro v8 h
    cases h
    exact congrArg some (congrArg Sum.inl (e_pair rfl rfl))
theorem rC_X5_ownSum_3 {v3_ : Int32} {v3 : Int} (e_v3 : v3_ = zI v3) {zr : Int} (h : GC_X5_ownSum_3 v3 = some zr) : C_X5_ownSum_3 v3_ = some (zI zr) := by
  subst e_v3
  unfold GC_X5_ownSum_3 at h
  unfold C_X5_ownSum_3
  cases h
  rfl
theorem rF_X5_ownSum {g : uZ} {zr : Int} (h : GF_X5_ownSum g = some zr) : F_X5_ownSum (zS g) = some (zI zr) := by
  unfold GF_X5_ownSum at h
  unfold F_X5_ownSum
  refine lp_r em_0 zI (e_pair kz_0 kz_0) (fun q r h => rB_X5_ownSum_2 rfl rfl h) h ?_
  clear h
  intro z h
  exact rC_X5_ownSum_3 rfl h
theorem rB_X5_stepSum_2 {g1 : uZ} {w2_ : Int32} {w2 : Int} (e_w2 : w2_ = zI w2) {w3_ : Int32} {w3 : Int} (e_w3 : w3_ = zI w3) {zr : ((Int × Int) ⊕ Int)} (h : GB_X5_stepSum_2 g1 w2 w3 = some zr) : B_X5_stepSum_2 (zS g1) w2_ w3_ = some (em_1 zr) := by
  subst e_w2 e_w3
  unfold GB_X5_stepSum_2 at h
  unfold B_X5_stepSum_2
  obtain ⟨hr1, h⟩ := ck_e h
  obtain ⟨hr2, h⟩ := ck_e h
  refine ite_r (c_le rfl rfl hr1 hr2) h ?_ ?_
  · clear h
    intro h
    cases h
    exact congrArg some (congrArg Sum.inr rfl)
  · clear h
    intro h
    refine rd_r (Nat.le_of_ble_eq_true rfl) (e_sub rfl kz_1) h ?_
    clear h
    intro v6 h
    refine rd_r (Nat.le_of_ble_eq_true rfl) rfl h ?_
    clear h
    intro v7 h
    refine cp_r (e := zI) (fun _ h => rF_X9_price_18 rfl rfl h) h ?_
    clear h
    intro v8 h
    refine lt_r (e_add rfl rfl) h ?_
    clear h
    intro v9 h
    refine lt_r (e_add rfl kz_1) h ?_
    clear h
    intro v10 h
    cases h
    exact congrArg some (congrArg Sum.inl (e_pair rfl rfl))
theorem rC_X5_stepSum_3 {g1 : uZ} {v4_ : Int32} {v4 : Int} (e_v4 : v4_ = zI v4) {zr : (Int × uZ)} (h : GC_X5_stepSum_3 g1 v4 = some zr) : C_X5_stepSum_3 (zS g1) v4_ = some (em_2 zr) := by
  subst e_v4
  unfold GC_X5_stepSum_3 at h
  unfold C_X5_stepSum_3
  cases h
  exact congrArg some (e_pair rfl rfl)
theorem rF_X5_stepSum {a1_ : Int32} {a1 : Int} (e_a1 : a1_ = zI a1) {a2_ : Int32} {a2 : Int} (e_a2 : a2_ = zI a2) {a3_ : Int32} {a3 : Int} (e_a3 : a3_ = zI a3) {g : uZ} {zr : (Int × uZ)} (h : GF_X5_stepSum a1 a2 a3 g = some zr) : F_X5_stepSum a1_ a2_ a3_ (zS g) = some (em_2 zr) := by
  subst e_a1 e_a2 e_a3
  unfold GF_X5_stepSum at h
  unfold F_X5_stepSum
  refine cp_r (e := zS) (fun _ h => rF_X9_set_18 rfl rfl rfl h) h ?_
  clear h
  intro g1 h
  refine lp_r em_0 zI (e_pair kz_0 kz_1) (fun q r h => rB_X5_stepSum_2 rfl rfl h) h ?_
  clear h
  intro z h
  exact rC_X5_stepSum_3 rfl h
theorem rF_X5_priceOf {a1_ : Int32} {a1 : Int} (e_a1 : a1_ = zI a1) {g : uZ} {zr : (Int × uZ)} (h : GF_X5_priceOf a1 g = some zr) : F_X5_priceOf a1_ (zS g) = some (em_2 zr) := by
  subst e_a1
  unfold GF_X5_priceOf at h
  unfold F_X5_priceOf
  obtain ⟨hr1, h⟩ := ck_e h
  refine ite_r (c_eq rfl kz_1 hr1 ir_1) h ?_ ?_
  · clear h
    intro h
    refine cp_r (e := zI) (fun _ h => rF_X5_ownSum h) h ?_
    clear h
    intro v2 h
    cases h
    exact congrArg some (e_pair rfl rfl)
  · clear h
    intro h
    refine ite_r (c_eq rfl kz_2 hr1 ir_2) h ?_ ?_
    · clear h
      intro h
      refine cp_r (e := zI) (fun _ h => rF_X0_of kz_10 h) h ?_
      clear h
      intro v4 h
      refine cl_r (fun _ _ h => rF_X5_stepSum rfl kz_0 kz_0 h) h ?_
      clear h
      intro v6 g5 h
      cases h
      exact congrArg some (e_pair rfl rfl)
    · clear h
      intro h
      refine ite_r (c_eq rfl kz_3 hr1 ir_3) h ?_ ?_
      · clear h
        intro h
        refine cp_r (e := zI) (fun _ h => rF_X0_of kz_11 h) h ?_
        clear h
        intro v8 h
        refine cl_r (fun _ _ h => rF_X5_stepSum kz_0 rfl kz_0 h) h ?_
        clear h
        intro v10 g9 h
        cases h
        exact congrArg some (e_pair rfl rfl)
      · clear h
        intro h
        refine ite_r (c_eq rfl kz_4 hr1 ir_4) h ?_ ?_
        · clear h
          intro h
          refine cp_r (e := zI) (fun _ h => rF_X0_of kz_12 h) h ?_
          clear h
          intro v12 h
          refine cl_r (fun _ _ h => rF_X5_stepSum kz_0 kz_0 rfl h) h ?_
          clear h
          intro v14 g13 h
          cases h
          exact congrArg some (e_pair rfl rfl)
        · clear h
          intro h
          refine cp_r (e := zI) (fun _ h => rF_X5_ownSum h) h ?_
          clear h
          intro v15 h
          refine cp_r (e := zI) (fun _ h => rF_X0_of kz_10 h) h ?_
          clear h
          intro v16 h
          refine cp_r (e := zI) (fun _ h => rF_X0_of kz_11 h) h ?_
          clear h
          intro v17 h
          refine cp_r (e := zI) (fun _ h => rF_X0_of kz_12 h) h ?_
          clear h
          intro v18 h
          refine cl_r (fun _ _ h => rF_X5_stepSum rfl rfl rfl h) h ?_
          clear h
          intro v20 g19 h
          cases h
          exact congrArg some (e_pair (e_add rfl rfl) rfl)
theorem rJ_X5_doublesChosen_2 {w2_ : Int32} {w2 : Int} (e_w2 : w2_ = zI w2) {v9_ : Int32} {v9 : Int} (e_v9 : v9_ = zI v9) {zr : ((Int × Int) ⊕ Int)} (h : GJ_X5_doublesChosen_2 w2 v9 = some zr) : J_X5_doublesChosen_2 w2_ v9_ = some (em_1 zr) := by
  subst e_w2 e_v9
  unfold GJ_X5_doublesChosen_2 at h
  unfold J_X5_doublesChosen_2
  refine lt_r (e_add rfl kz_1) h ?_
  clear h
  intro v10 h
  cases h
  exact congrArg some (congrArg Sum.inl (e_pair rfl rfl))
theorem rB_X5_doublesChosen_3 {g : uZ} {w1_ : Int32} {w1 : Int} (e_w1 : w1_ = zI w1) {w2_ : Int32} {w2 : Int} (e_w2 : w2_ = zI w2) {zr : ((Int × Int) ⊕ Int)} (h : GB_X5_doublesChosen_3 g w1 w2 = some zr) : B_X5_doublesChosen_3 (zS g) w1_ w2_ = some (em_1 zr) := by
  subst e_w1 e_w2
  unfold GB_X5_doublesChosen_3 at h
  unfold B_X5_doublesChosen_3
  obtain ⟨hr1, h⟩ := ck_e h
  obtain ⟨hr2, h⟩ := ck_e h
  refine ite_r (c_le rfl rfl hr1 hr2) h ?_ ?_
  · clear h
    intro h
    cases h
    exact congrArg some (congrArg Sum.inr rfl)
  · clear h
    intro h
    refine rd_r (Nat.le_of_ble_eq_true rfl) rfl h ?_
    clear h
    intro v5 h
    refine cp_r (e := zI) (fun _ h => rF_X1_halfOf rfl rfl h) h ?_
    clear h
    intro v6 h
    obtain ⟨hr3, h⟩ := ck_e h
    refine ite_r (c_eq rfl kz_m1 hr3 ir_m1) h ?_ ?_
    · clear h
      intro h
      exact rJ_X5_doublesChosen_2 rfl rfl h
    · clear h
      intro h
      refine lt_r (e_add rfl kz_1) h ?_
      clear h
      intro v8 h
      exact rJ_X5_doublesChosen_2 rfl rfl h
theorem rC_X5_doublesChosen_4 {v3_ : Int32} {v3 : Int} (e_v3 : v3_ = zI v3) {zr : Int} (h : GC_X5_doublesChosen_4 v3 = some zr) : C_X5_doublesChosen_4 v3_ = some (zI zr) := by
  subst e_v3
  unfold GC_X5_doublesChosen_4 at h
  unfold C_X5_doublesChosen_4
  cases h
  rfl
theorem rF_X5_doublesChosen {g : uZ} {zr : Int} (h : GF_X5_doublesChosen g = some zr) : F_X5_doublesChosen (zS g) = some (zI zr) := by
  unfold GF_X5_doublesChosen at h
  unfold F_X5_doublesChosen
  refine lp_r em_0 zI (e_pair kz_0 kz_0) (fun q r h => rB_X5_doublesChosen_3 rfl rfl h) h ?_
  clear h
  intro z h
  exact rC_X5_doublesChosen_4 rfl h
theorem rF_X5_leastThrough {a1_ : Int32} {a1 : Int} (e_a1 : a1_ = zI a1) {a2_ : Int32} {a2 : Int} (e_a2 : a2_ = zI a2) {g : uZ} {zr : Int} (h : GF_X5_leastThrough a1 a2 g = some zr) : F_X5_leastThrough a1_ a2_ (zS g) = some (zI zr) := by
  subst e_a1 e_a2
  unfold GF_X5_leastThrough at h
  unfold F_X5_leastThrough
  refine cp_r (e := zI) (fun _ h => rF_X1_has rfl rfl h) h ?_
  clear h
  intro v1 h
  obtain ⟨hr1, h⟩ := ck_e h
  refine ite_r (c_eq rfl kz_0 hr1 ir_0) h ?_ ?_
  · clear h
    intro h
    cases h
    exact congrArg some kz_0
  · clear h
    intro h
    refine cp_r (e := zI) (fun _ h => rF_X11_cell rfl rfl h) h ?_
    clear h
    intro v3 h
    refine rd_r (Nat.le_of_ble_eq_true rfl) rfl h ?_
    clear h
    intro v4 h
    refine cp_r (e := zI) (fun _ h => rF_X11_cell rfl rfl h) h ?_
    clear h
    intro v5 h
    refine rd_r (Nat.le_of_ble_eq_true rfl) rfl h ?_
    clear h
    intro v6 h
    refine cp_r (e := zI) (fun _ h => rF_X1_ownOf rfl rfl h) h ?_
    clear h
    intro v7 h
    cases h
    exact congrArg some (e_sub (e_add rfl rfl) rfl)
theorem rB_X5_advance_17_3 {a1_ : Int32} {a1 : Int} (e_a1 : a1_ = zI a1) {v6_ : Int32} {v6 : Int} (e_v6 : v6_ = zI v6) {g2 : uZ} {w7_ : Int32} {w7 : Int} (e_w7 : w7_ = zI w7) {w8_ : Int32} {w8 : Int} (e_w8 : w8_ = zI w8) {zr : ((Int × Int) ⊕ Int)} (h : GB_X5_advance_17_3 a1 v6 g2 w7 w8 = some zr) : B_X5_advance_17_3 a1_ v6_ (zS g2) w7_ w8_ = some (em_1 zr) := by
  subst e_a1 e_v6 e_w7 e_w8
  unfold GB_X5_advance_17_3 at h
  unfold B_X5_advance_17_3
  refine cp_r (e := zI) (fun _ h => rF_X1_sizeOf (e_sub rfl kz_1) h) h ?_
  clear h
  intro v10 h
  obtain ⟨hr1, h⟩ := ck_e h
  obtain ⟨hr2, h⟩ := ck_e h
  refine ite_r (c_le rfl rfl hr1 hr2) h ?_ ?_
  · clear h
    intro h
    cases h
    exact congrArg some (congrArg Sum.inr rfl)
  · clear h
    intro h
    refine rd_r (Nat.le_of_ble_eq_true rfl) rfl h ?_
    clear h
    intro v12 h
    refine cp_r (e := zI) (fun _ h => rF_X1_lagOf (e_sub rfl kz_1) rfl h) h ?_
    clear h
    intro v13 h
    refine cp_r (e := zI) (fun _ h => rF_X9_price_17 rfl rfl h) h ?_
    clear h
    intro v14 h
    refine cp_r (e := zI) (fun _ h => rF_J9_min_7cf53 rfl (e_add rfl rfl) h) h ?_
    clear h
    intro v15 h
    refine lt_r (e_add rfl kz_1) h ?_
    clear h
    intro v16 h
    cases h
    exact congrArg some (congrArg Sum.inl (e_pair rfl rfl))
theorem rC_X5_advance_17_4 {a1_ : Int32} {a1 : Int} (e_a1 : a1_ = zI a1) {w1_ : Int32} {w1 : Int} (e_w1 : w1_ = zI w1) {g2 : uZ} {v9_ : Int32} {v9 : Int} (e_v9 : v9_ = zI v9) {zr : ((Int × uZ) ⊕ uZ)} (h : GC_X5_advance_17_4 a1 w1 g2 v9 = some zr) : C_X5_advance_17_4 a1_ w1_ (zS g2) v9_ = some (em_3 zr) := by
  subst e_a1 e_w1 e_v9
  unfold GC_X5_advance_17_4 at h
  unfold C_X5_advance_17_4
  refine cp_r (e := zI) (fun _ h => rF_X1_ownOf rfl rfl h) h ?_
  clear h
  intro v17 h
  refine wr_r (Nat.le_of_ble_eq_true rfl) rfl (e_add rfl rfl) h ?_
  clear h
  intro g18 h
  refine lt_r (e_add rfl kz_1) h ?_
  clear h
  intro v19 h
  cases h
  exact congrArg some (congrArg Sum.inl (e_pair rfl rfl))
theorem rB_X5_advance_17_5 {a1_ : Int32} {a1 : Int} (e_a1 : a1_ = zI a1) {w1_ : Int32} {w1 : Int} (e_w1 : w1_ = zI w1) {g2 : uZ} {zr : ((Int × uZ) ⊕ uZ)} (h : GB_X5_advance_17_5 a1 w1 g2 = some zr) : B_X5_advance_17_5 a1_ w1_ (zS g2) = some (em_3 zr) := by
  subst e_a1 e_w1
  unfold GB_X5_advance_17_5 at h
  unfold B_X5_advance_17_5
  refine cp_r (e := zI) (fun _ h => rF_X1_sizeOf rfl h) h ?_
  clear h
  intro v4 h
  obtain ⟨hr1, h⟩ := ck_e h
  obtain ⟨hr2, h⟩ := ck_e h
  refine ite_r (c_le rfl rfl hr1 hr2) h ?_ ?_
  · clear h
    intro h
    cases h
    exact congrArg some (congrArg Sum.inr rfl)
  · clear h
    intro h
    refine cp_r (e := zI) (fun _ h => rF_X1_lagOf rfl rfl h) h ?_
    clear h
    intro v6 h
    refine lp_r em_0 zI (e_pair kz_536870912 kz_0) (fun q r h => rB_X5_advance_17_3 rfl rfl rfl rfl h) h ?_
    clear h
    intro z h
    exact rC_X5_advance_17_4 rfl rfl rfl h
theorem rB_X5_advance_17_7 {a1_ : Int32} {a1 : Int} (e_a1 : a1_ = zI a1) {w20_ : Int32} {w20 : Int} (e_w20 : w20_ = zI w20) {g21 : uZ} {zr : ((Int × uZ) ⊕ uZ)} (h : GB_X5_advance_17_7 a1 w20 g21 = some zr) : B_X5_advance_17_7 a1_ w20_ (zS g21) = some (em_3 zr) := by
  subst e_a1 e_w20
  unfold GB_X5_advance_17_7 at h
  unfold B_X5_advance_17_7
  refine cp_r (e := zI) (fun _ h => rF_X1_sizeOf rfl h) h ?_
  clear h
  intro v23 h
  obtain ⟨hr1, h⟩ := ck_e h
  obtain ⟨hr2, h⟩ := ck_e h
  refine ite_r (c_le rfl rfl hr1 hr2) h ?_ ?_
  · clear h
    intro h
    cases h
    exact congrArg some (congrArg Sum.inr rfl)
  · clear h
    intro h
    refine rd_r (Nat.le_of_ble_eq_true rfl) rfl h ?_
    clear h
    intro v25 h
    refine wr_r (Nat.le_of_ble_eq_true rfl) rfl rfl h ?_
    clear h
    intro g26 h
    refine lt_r (e_add rfl kz_1) h ?_
    clear h
    intro v27 h
    cases h
    exact congrArg some (congrArg Sum.inl (e_pair rfl rfl))
theorem rC_X5_advance_17_8 {g22 : uZ} {zr : uZ} (h : GC_X5_advance_17_8 g22 = some zr) : C_X5_advance_17_8 (zS g22) = some (zS zr) := by
  unfold GC_X5_advance_17_8 at h
  unfold C_X5_advance_17_8
  cases h
  rfl
theorem rC_X5_advance_17_9 {a1_ : Int32} {a1 : Int} (e_a1 : a1_ = zI a1) {g3 : uZ} {zr : uZ} (h : GC_X5_advance_17_9 a1 g3 = some zr) : C_X5_advance_17_9 a1_ (zS g3) = some (zS zr) := by
  subst e_a1
  unfold GC_X5_advance_17_9 at h
  unfold C_X5_advance_17_9
  refine lp_r em_2 zS (e_pair kz_0 rfl) (fun q r h => rB_X5_advance_17_7 rfl rfl h) h ?_
  clear h
  intro z h
  exact rC_X5_advance_17_8 h
theorem rF_X5_advance_17 {a1_ : Int32} {a1 : Int} (e_a1 : a1_ = zI a1) {g : uZ} {zr : uZ} (h : GF_X5_advance_17 a1 g = some zr) : F_X5_advance_17 a1_ (zS g) = some (zS zr) := by
  subst e_a1
  unfold GF_X5_advance_17 at h
  unfold F_X5_advance_17
  refine lp_r em_2 zS (e_pair kz_0 rfl) (fun q r h => rB_X5_advance_17_5 rfl rfl h) h ?_
  clear h
  intro z h
  exact rC_X5_advance_17_9 rfl h
theorem rJ_X5_leastThroughTwo_2 {w5_ : Int32} {w5 : Int} (e_w5 : w5_ = zI w5) {g6 : uZ} {v13_ : Int32} {v13 : Int} (e_v13 : v13_ = zI v13) {zr : ((Int × uZ) ⊕ uZ)} (h : GJ_X5_leastThroughTwo_2 w5 g6 v13 = some zr) : J_X5_leastThroughTwo_2 w5_ (zS g6) v13_ = some (em_3 zr) := by
  subst e_w5 e_v13
  unfold GJ_X5_leastThroughTwo_2 at h
  unfold J_X5_leastThroughTwo_2
  refine wr_r (Nat.le_of_ble_eq_true rfl) rfl rfl h ?_
  clear h
  intro g14 h
  refine lt_r (e_add rfl kz_1) h ?_
  clear h
  intro v15 h
  cases h
  exact congrArg some (congrArg Sum.inl (e_pair rfl rfl))
theorem rB_X5_leastThroughTwo_3 {a1_ : Int32} {a1 : Int} (e_a1 : a1_ = zI a1) {a2_ : Int32} {a2 : Int} (e_a2 : a2_ = zI a2) {w5_ : Int32} {w5 : Int} (e_w5 : w5_ = zI w5) {g6 : uZ} {zr : ((Int × uZ) ⊕ uZ)} (h : GB_X5_leastThroughTwo_3 a1 a2 w5 g6 = some zr) : B_X5_leastThroughTwo_3 a1_ a2_ w5_ (zS g6) = some (em_3 zr) := by
  subst e_a1 e_a2 e_w5
  unfold GB_X5_leastThroughTwo_3 at h
  unfold B_X5_leastThroughTwo_3
  refine cp_r (e := zI) (fun _ h => rF_X1_sizeOf rfl h) h ?_
  clear h
  intro v8 h
  obtain ⟨hr1, h⟩ := ck_e h
  obtain ⟨hr2, h⟩ := ck_e h
  refine ite_r (c_le rfl rfl hr1 hr2) h ?_ ?_
  · clear h
    intro h
    cases h
    exact congrArg some (congrArg Sum.inr rfl)
  · clear h
    intro h
    obtain ⟨hr3, h⟩ := ck_e h
    refine ite_r (c_eq rfl rfl hr2 hr3) h ?_ ?_
    · clear h
      intro h
      refine cp_r (e := zI) (fun _ h => rF_X11_cell rfl rfl h) h ?_
      clear h
      intro v11 h
      refine rd_r (Nat.le_of_ble_eq_true rfl) rfl h ?_
      clear h
      intro v12 h
      exact rJ_X5_leastThroughTwo_2 rfl rfl h
    · clear h
      intro h
      exact rJ_X5_leastThroughTwo_2 rfl kz_536870912 h
theorem rB_X5_leastThroughTwo_5 {a3_ : Int32} {a3 : Int} (e_a3 : a3_ = zI a3) {w17_ : Int32} {w17 : Int} (e_w17 : w17_ = zI w17) {g18 : uZ} {zr : ((Int × uZ) ⊕ uZ)} (h : GB_X5_leastThroughTwo_5 a3 w17 g18 = some zr) : B_X5_leastThroughTwo_5 a3_ w17_ (zS g18) = some (em_3 zr) := by
  subst e_a3 e_w17
  unfold GB_X5_leastThroughTwo_5 at h
  unfold B_X5_leastThroughTwo_5
  obtain ⟨hr1, h⟩ := ck_e h
  obtain ⟨hr2, h⟩ := ck_e h
  refine ite_r (c_lt rfl rfl hr1 hr2) h ?_ ?_
  · clear h
    intro h
    cases h
    exact congrArg some (congrArg Sum.inr rfl)
  · clear h
    intro h
    refine cp_r (e := zS) (fun _ h => rF_X5_advance_17 rfl h) h ?_
    clear h
    intro g21 h
    refine lt_r (e_add rfl kz_1) h ?_
    clear h
    intro v22 h
    cases h
    exact congrArg some (congrArg Sum.inl (e_pair rfl rfl))
theorem rC_X5_leastThroughTwo_6 {a3_ : Int32} {a3 : Int} (e_a3 : a3_ = zI a3) {a4_ : Int32} {a4 : Int} (e_a4 : a4_ = zI a4) {g19 : uZ} {zr : (Int × uZ)} (h : GC_X5_leastThroughTwo_6 a3 a4 g19 = some zr) : C_X5_leastThroughTwo_6 a3_ a4_ (zS g19) = some (em_2 zr) := by
  subst e_a3 e_a4
  unfold GC_X5_leastThroughTwo_6 at h
  unfold C_X5_leastThroughTwo_6
  refine rd_r (Nat.le_of_ble_eq_true rfl) rfl h ?_
  clear h
  intro v23 h
  refine cp_r (e := zI) (fun _ h => rF_X11_cell rfl rfl h) h ?_
  clear h
  intro v24 h
  refine rd_r (Nat.le_of_ble_eq_true rfl) rfl h ?_
  clear h
  intro v25 h
  refine cp_r (e := zI) (fun _ h => rF_X1_ownOf rfl rfl h) h ?_
  clear h
  intro v26 h
  cases h
  exact congrArg some (e_pair (e_sub (e_add rfl rfl) rfl) rfl)
theorem rC_X5_leastThroughTwo_7 {a1_ : Int32} {a1 : Int} (e_a1 : a1_ = zI a1) {a3_ : Int32} {a3 : Int} (e_a3 : a3_ = zI a3) {a4_ : Int32} {a4 : Int} (e_a4 : a4_ = zI a4) {g7 : uZ} {zr : (Int × uZ)} (h : GC_X5_leastThroughTwo_7 a1 a3 a4 g7 = some zr) : C_X5_leastThroughTwo_7 a1_ a3_ a4_ (zS g7) = some (em_2 zr) := by
  subst e_a1 e_a3 e_a4
  unfold GC_X5_leastThroughTwo_7 at h
  unfold C_X5_leastThroughTwo_7
  refine lt_r (e_add rfl kz_1) h ?_
  clear h
  intro v16 h
  refine lp_r em_2 zS (e_pair rfl rfl) (fun q r h => rB_X5_leastThroughTwo_5 rfl rfl h) h ?_
  clear h
  intro z h
  exact rC_X5_leastThroughTwo_6 rfl rfl h
theorem rJ_X5_leastThroughTwo_8 {g : uZ} {zr : (Int × uZ)} (h : GJ_X5_leastThroughTwo_8 g = some zr) : J_X5_leastThroughTwo_8 (zS g) = some (em_2 zr) := by
  unfold GJ_X5_leastThroughTwo_8 at h
  unfold J_X5_leastThroughTwo_8
  cases h
  exact congrArg some (e_pair kz_0 rfl)
theorem rF_X5_leastThroughTwo {a1_ : Int32} {a1 : Int} (e_a1 : a1_ = zI a1) {a2_ : Int32} {a2 : Int} (e_a2 : a2_ = zI a2) {a3_ : Int32} {a3 : Int} (e_a3 : a3_ = zI a3) {a4_ : Int32} {a4 : Int} (e_a4 : a4_ = zI a4) {g : uZ} {zr : (Int × uZ)} (h : GF_X5_leastThroughTwo a1 a2 a3 a4 g = some zr) : F_X5_leastThroughTwo a1_ a2_ a3_ a4_ (zS g) = some (em_2 zr) := by
  subst e_a1 e_a2 e_a3 e_a4
  unfold GF_X5_leastThroughTwo at h
  unfold F_X5_leastThroughTwo
  refine cp_r (e := zI) (fun _ h => rF_X1_has rfl rfl h) h ?_
  clear h
  intro v1 h
  obtain ⟨hr1, h⟩ := ck_e h
  refine ite_r (c_eq rfl kz_0 hr1 ir_0) h ?_ ?_
  · clear h
    intro h
    exact rJ_X5_leastThroughTwo_8 h
  · clear h
    intro h
    refine cp_r (e := zI) (fun _ h => rF_X1_has rfl rfl h) h ?_
    clear h
    intro v3 h
    obtain ⟨hr2, h⟩ := ck_e h
    refine ite_r (c_eq rfl kz_0 hr2 ir_0) h ?_ ?_
    · clear h
      intro h
      exact rJ_X5_leastThroughTwo_8 h
    · clear h
      intro h
      refine lp_r em_2 zS (e_pair kz_0 rfl) (fun q r h => rB_X5_leastThroughTwo_3 rfl rfl rfl h) h ?_
      clear h
      intro z h
      exact rC_X5_leastThroughTwo_7 rfl rfl rfl h
theorem rB_X5_leastOfAll_17_3 {w8_ : Int32} {w8 : Int} (e_w8 : w8_ = zI w8) {g9 : uZ} {zr : ((Int × uZ) ⊕ uZ)} (h : GB_X5_leastOfAll_17_3 w8 g9 = some zr) : B_X5_leastOfAll_17_3 w8_ (zS g9) = some (em_3 zr) := by
  subst e_w8
  unfold GB_X5_leastOfAll_17_3 at h
  unfold B_X5_leastOfAll_17_3
  refine cp_r (e := zI) (fun _ h => rF_X1_sizeOf kz_0 h) h ?_
  clear h
  intro v11 h
  obtain ⟨hr1, h⟩ := ck_e h
  obtain ⟨hr2, h⟩ := ck_e h
  refine ite_r (c_le rfl rfl hr1 hr2) h ?_ ?_
  · clear h
    intro h
    cases h
    exact congrArg some (congrArg Sum.inr rfl)
  · clear h
    intro h
    refine cp_r (e := zI) (fun _ h => rF_X1_ownOf kz_0 rfl h) h ?_
    clear h
    intro v13 h
    refine wr_r (Nat.le_of_ble_eq_true rfl) rfl rfl h ?_
    clear h
    intro g14 h
    refine lt_r (e_add rfl kz_1) h ?_
    clear h
    intro v15 h
    cases h
    exact congrArg some (congrArg Sum.inl (e_pair rfl rfl))
theorem rJ_X5_leastOfAll_17_6 {w17_ : Int32} {w17 : Int} (e_w17 : w17_ = zI w17) {g18 : uZ} {v26_ : Int32} {v26 : Int} (e_v26 : v26_ = zI v26) {zr : ((Int × uZ) ⊕ uZ)} (h : GJ_X5_leastOfAll_17_6 w17 g18 v26 = some zr) : J_X5_leastOfAll_17_6 w17_ (zS g18) v26_ = some (em_3 zr) := by
  subst e_w17 e_v26
  unfold GJ_X5_leastOfAll_17_6 at h
  unfold J_X5_leastOfAll_17_6
  refine wr_r (Nat.le_of_ble_eq_true rfl) rfl rfl h ?_
  clear h
  intro g27 h
  refine lt_r (e_add rfl kz_1) h ?_
  clear h
  intro v28 h
  cases h
  exact congrArg some (congrArg Sum.inl (e_pair rfl rfl))
theorem rB_X5_leastOfAll_17_7 {a2_ : Int32} {a2 : Int} (e_a2 : a2_ = zI a2) {w2_ : Int32} {w2 : Int} (e_w2 : w2_ = zI w2) {w17_ : Int32} {w17 : Int} (e_w17 : w17_ = zI w17) {g18 : uZ} {zr : ((Int × uZ) ⊕ uZ)} (h : GB_X5_leastOfAll_17_7 a2 w2 w17 g18 = some zr) : B_X5_leastOfAll_17_7 a2_ w2_ w17_ (zS g18) = some (em_3 zr) := by
  subst e_a2 e_w2 e_w17
  unfold GB_X5_leastOfAll_17_7 at h
  unfold B_X5_leastOfAll_17_7
  obtain ⟨hr1, h⟩ := ck_e h
  refine ite_r (c_eq rfl kz_0 hr1 ir_0) h ?_ ?_
  · clear h
    intro h
    refine cp_r (e := zI) (fun _ h => rF_X1_sizeOf rfl h) h ?_
    clear h
    intro v21 h
    obtain ⟨hr2, h⟩ := ck_e h
    obtain ⟨hr3, h⟩ := ck_e h
    refine ite_r (c_le rfl rfl hr2 hr3) h ?_ ?_
    · clear h
      intro h
      cases h
      exact congrArg some (congrArg Sum.inr rfl)
    · clear h
      intro h
      refine cp_r (e := zI) (fun _ h => rF_X1_halfOf rfl rfl h) h ?_
      clear h
      intro v23 h
      obtain ⟨hr4, h⟩ := ck_e h
      refine ite_r (c_eq rfl kz_m1 hr4 ir_m1) h ?_ ?_
      · clear h
        intro h
        refine rd_r (Nat.le_of_ble_eq_true rfl) rfl h ?_
        clear h
        intro v25 h
        exact rJ_X5_leastOfAll_17_6 rfl rfl h
      · clear h
        intro h
        exact rJ_X5_leastOfAll_17_6 rfl kz_536870912 h
  · clear h
    intro h
    cases h
    exact congrArg some (congrArg Sum.inr rfl)
theorem rC_X5_leastOfAll_17_8 {w2_ : Int32} {w2 : Int} (e_w2 : w2_ = zI w2) {g19 : uZ} {zr : ((Int × uZ) ⊕ uZ)} (h : GC_X5_leastOfAll_17_8 w2 g19 = some zr) : C_X5_leastOfAll_17_8 w2_ (zS g19) = some (em_3 zr) := by
  subst e_w2
  unfold GC_X5_leastOfAll_17_8 at h
  unfold C_X5_leastOfAll_17_8
  refine lt_r (e_add rfl kz_1) h ?_
  clear h
  intro v29 h
  cases h
  exact congrArg some (congrArg Sum.inl (e_pair rfl rfl))
theorem rJ_X5_leastOfAll_17_9 {a2_ : Int32} {a2 : Int} (e_a2 : a2_ = zI a2) {w2_ : Int32} {w2 : Int} (e_w2 : w2_ = zI w2) {g16 : uZ} {zr : ((Int × uZ) ⊕ uZ)} (h : GJ_X5_leastOfAll_17_9 a2 w2 g16 = some zr) : J_X5_leastOfAll_17_9 a2_ w2_ (zS g16) = some (em_3 zr) := by
  subst e_a2 e_w2
  unfold GJ_X5_leastOfAll_17_9 at h
  unfold J_X5_leastOfAll_17_9
  refine lp_r em_2 zS (e_pair kz_0 rfl) (fun q r h => rB_X5_leastOfAll_17_7 rfl rfl rfl h) h ?_
  clear h
  intro z h
  exact rC_X5_leastOfAll_17_8 rfl h
theorem rC_X5_leastOfAll_17_4 {a2_ : Int32} {a2 : Int} (e_a2 : a2_ = zI a2) {w2_ : Int32} {w2 : Int} (e_w2 : w2_ = zI w2) {g10 : uZ} {zr : ((Int × uZ) ⊕ uZ)} (h : GC_X5_leastOfAll_17_4 a2 w2 g10 = some zr) : C_X5_leastOfAll_17_4 a2_ w2_ (zS g10) = some (em_3 zr) := by
  subst e_a2 e_w2
  unfold GC_X5_leastOfAll_17_4 at h
  unfold C_X5_leastOfAll_17_4
  exact rJ_X5_leastOfAll_17_9 rfl rfl h
theorem rB_X5_leastOfAll_17_10 {a2_ : Int32} {a2 : Int} (e_a2 : a2_ = zI a2) {w2_ : Int32} {w2 : Int} (e_w2 : w2_ = zI w2) {g3 : uZ} {zr : ((Int × uZ) ⊕ uZ)} (h : GB_X5_leastOfAll_17_10 a2 w2 g3 = some zr) : B_X5_leastOfAll_17_10 a2_ w2_ (zS g3) = some (em_3 zr) := by
  subst e_a2 e_w2
  unfold GB_X5_leastOfAll_17_10 at h
  unfold B_X5_leastOfAll_17_10
  obtain ⟨hr1, h⟩ := ck_e h
  obtain ⟨hr2, h⟩ := ck_e h
  refine ite_r (c_le rfl rfl hr1 hr2) h ?_ ?_
  · clear h
    intro h
    cases h
    exact congrArg some (congrArg Sum.inr rfl)
  · clear h
    intro h
    refine ite_r (c_eq rfl kz_0 hr2 ir_0) h ?_ ?_
    · clear h
      intro h
      refine lp_r em_2 zS (e_pair kz_0 rfl) (fun q r h => rB_X5_leastOfAll_17_3 rfl h) h ?_
      clear h
      intro z h
      exact rC_X5_leastOfAll_17_4 rfl rfl h
    · clear h
      intro h
      refine cp_r (e := zS) (fun _ h => rF_X5_advance_17 rfl h) h ?_
      clear h
      intro g7 h
      exact rJ_X5_leastOfAll_17_9 rfl rfl h
theorem rB_X5_leastOfAll_17_12 {g4 : uZ} {w30_ : Int32} {w30 : Int} (e_w30 : w30_ = zI w30) {w31_ : Int32} {w31 : Int} (e_w31 : w31_ = zI w31) {zr : ((Int × Int) ⊕ Int)} (h : GB_X5_leastOfAll_17_12 g4 w30 w31 = some zr) : B_X5_leastOfAll_17_12 (zS g4) w30_ w31_ = some (em_1 zr) := by
  subst e_w30 e_w31
  unfold GB_X5_leastOfAll_17_12 at h
  unfold B_X5_leastOfAll_17_12
  refine cp_r (e := zI) (fun _ h => rF_X1_sizeOf (e_sub rfl kz_1) h) h ?_
  clear h
  intro v33 h
  obtain ⟨hr1, h⟩ := ck_e h
  obtain ⟨hr2, h⟩ := ck_e h
  refine ite_r (c_le rfl rfl hr1 hr2) h ?_ ?_
  · clear h
    intro h
    cases h
    exact congrArg some (congrArg Sum.inr rfl)
  · clear h
    intro h
    refine rd_r (Nat.le_of_ble_eq_true rfl) rfl h ?_
    clear h
    intro v35 h
    refine cp_r (e := zI) (fun _ h => rF_J9_min_7cf53 rfl rfl h) h ?_
    clear h
    intro v36 h
    refine lt_r (e_add rfl kz_1) h ?_
    clear h
    intro v37 h
    cases h
    exact congrArg some (congrArg Sum.inl (e_pair rfl rfl))
theorem rC_X5_leastOfAll_17_13 {g4 : uZ} {v32_ : Int32} {v32 : Int} (e_v32 : v32_ = zI v32) {zr : (Int × uZ)} (h : GC_X5_leastOfAll_17_13 g4 v32 = some zr) : C_X5_leastOfAll_17_13 (zS g4) v32_ = some (em_2 zr) := by
  subst e_v32
  unfold GC_X5_leastOfAll_17_13 at h
  unfold C_X5_leastOfAll_17_13
  cases h
  exact congrArg some (e_pair rfl rfl)
theorem rC_X5_leastOfAll_17_14 {g4 : uZ} {zr : (Int × uZ)} (h : GC_X5_leastOfAll_17_14 g4 = some zr) : C_X5_leastOfAll_17_14 (zS g4) = some (em_2 zr) := by
  unfold GC_X5_leastOfAll_17_14 at h
  unfold C_X5_leastOfAll_17_14
  refine lp_r em_0 zI (e_pair kz_536870912 kz_0) (fun q r h => rB_X5_leastOfAll_17_12 rfl rfl h) h ?_
  clear h
  intro z h
  exact rC_X5_leastOfAll_17_13 rfl h
theorem rF_X5_leastOfAll_17 {a2_ : Int32} {a2 : Int} (e_a2 : a2_ = zI a2) {g : uZ} {zr : (Int × uZ)} (h : GF_X5_leastOfAll_17 a2 g = some zr) : F_X5_leastOfAll_17 a2_ (zS g) = some (em_2 zr) := by
  subst e_a2
  unfold GF_X5_leastOfAll_17 at h
  unfold F_X5_leastOfAll_17
  obtain ⟨hr1, h⟩ := ck_e h
  refine ite_r (c_eq rfl kz_0 hr1 ir_0) h ?_ ?_
  · clear h
    intro h
    cases h
    exact congrArg some (e_pair kz_0 rfl)
  · clear h
    intro h
    refine lp_r em_2 zS (e_pair kz_0 rfl) (fun q r h => rB_X5_leastOfAll_17_10 rfl rfl h) h ?_
    clear h
    intro z h
    exact rC_X5_leastOfAll_17_14 h
theorem rF_X5_leastWithoutDoubles {g : uZ} {zr : (Int × uZ)} (h : GF_X5_leastWithoutDoubles g = some zr) : F_X5_leastWithoutDoubles (zS g) = some (em_2 zr) := by
  unfold GF_X5_leastWithoutDoubles at h
  unfold F_X5_leastWithoutDoubles
  refine cl_r (fun _ _ h => rF_X5_leastOfAll_17 kz_0 h) h ?_
  clear h
  intro v2 g1 h
  cases h
  exact congrArg some (e_pair rfl rfl)
theorem rB_X5_advance_18_3 {a1_ : Int32} {a1 : Int} (e_a1 : a1_ = zI a1) {v6_ : Int32} {v6 : Int} (e_v6 : v6_ = zI v6) {g2 : uZ} {w7_ : Int32} {w7 : Int} (e_w7 : w7_ = zI w7) {w8_ : Int32} {w8 : Int} (e_w8 : w8_ = zI w8) {zr : ((Int × Int) ⊕ Int)} (h : GB_X5_advance_18_3 a1 v6 g2 w7 w8 = some zr) : B_X5_advance_18_3 a1_ v6_ (zS g2) w7_ w8_ = some (em_1 zr) := by
  subst e_a1 e_v6 e_w7 e_w8
  unfold GB_X5_advance_18_3 at h
  unfold B_X5_advance_18_3
  refine cp_r (e := zI) (fun _ h => rF_X1_sizeOf (e_sub rfl kz_1) h) h ?_
  clear h
  intro v10 h
  obtain ⟨hr1, h⟩ := ck_e h
  obtain ⟨hr2, h⟩ := ck_e h
  refine ite_r (c_le rfl rfl hr1 hr2) h ?_ ?_
  · clear h
    intro h
    cases h
    exact congrArg some (congrArg Sum.inr rfl)
  · clear h
    intro h
    refine rd_r (Nat.le_of_ble_eq_true rfl) rfl h ?_
    clear h
    intro v12 h
    refine cp_r (e := zI) (fun _ h => rF_X1_lagOf (e_sub rfl kz_1) rfl h) h ?_
    clear h
    intro v13 h
    refine cp_r (e := zI) (fun _ h => rF_X9_price_18 rfl rfl h) h ?_
    clear h
    intro v14 h
    refine cp_r (e := zI) (fun _ h => rF_J9_min_7cf53 rfl (e_add rfl rfl) h) h ?_
    clear h
    intro v15 h
    refine lt_r (e_add rfl kz_1) h ?_
    clear h
    intro v16 h
    cases h
    exact congrArg some (congrArg Sum.inl (e_pair rfl rfl))
theorem rC_X5_advance_18_4 {a1_ : Int32} {a1 : Int} (e_a1 : a1_ = zI a1) {w1_ : Int32} {w1 : Int} (e_w1 : w1_ = zI w1) {g2 : uZ} {v9_ : Int32} {v9 : Int} (e_v9 : v9_ = zI v9) {zr : ((Int × uZ) ⊕ uZ)} (h : GC_X5_advance_18_4 a1 w1 g2 v9 = some zr) : C_X5_advance_18_4 a1_ w1_ (zS g2) v9_ = some (em_3 zr) := by
  subst e_a1 e_w1 e_v9
  unfold GC_X5_advance_18_4 at h
  unfold C_X5_advance_18_4
  refine cp_r (e := zI) (fun _ h => rF_X1_ownOf rfl rfl h) h ?_
  clear h
  intro v17 h
  refine wr_r (Nat.le_of_ble_eq_true rfl) rfl (e_add rfl rfl) h ?_
  clear h
  intro g18 h
  refine lt_r (e_add rfl kz_1) h ?_
  clear h
  intro v19 h
  cases h
  exact congrArg some (congrArg Sum.inl (e_pair rfl rfl))
theorem rB_X5_advance_18_5 {a1_ : Int32} {a1 : Int} (e_a1 : a1_ = zI a1) {w1_ : Int32} {w1 : Int} (e_w1 : w1_ = zI w1) {g2 : uZ} {zr : ((Int × uZ) ⊕ uZ)} (h : GB_X5_advance_18_5 a1 w1 g2 = some zr) : B_X5_advance_18_5 a1_ w1_ (zS g2) = some (em_3 zr) := by
  subst e_a1 e_w1
  unfold GB_X5_advance_18_5 at h
  unfold B_X5_advance_18_5
  refine cp_r (e := zI) (fun _ h => rF_X1_sizeOf rfl h) h ?_
  clear h
  intro v4 h
  obtain ⟨hr1, h⟩ := ck_e h
  obtain ⟨hr2, h⟩ := ck_e h
  refine ite_r (c_le rfl rfl hr1 hr2) h ?_ ?_
  · clear h
    intro h
    cases h
    exact congrArg some (congrArg Sum.inr rfl)
  · clear h
    intro h
    refine cp_r (e := zI) (fun _ h => rF_X1_lagOf rfl rfl h) h ?_
    clear h
    intro v6 h
    refine lp_r em_0 zI (e_pair kz_536870912 kz_0) (fun q r h => rB_X5_advance_18_3 rfl rfl rfl rfl h) h ?_
    clear h
    intro z h
    exact rC_X5_advance_18_4 rfl rfl rfl h
theorem rB_X5_advance_18_7 {a1_ : Int32} {a1 : Int} (e_a1 : a1_ = zI a1) {w20_ : Int32} {w20 : Int} (e_w20 : w20_ = zI w20) {g21 : uZ} {zr : ((Int × uZ) ⊕ uZ)} (h : GB_X5_advance_18_7 a1 w20 g21 = some zr) : B_X5_advance_18_7 a1_ w20_ (zS g21) = some (em_3 zr) := by
  subst e_a1 e_w20
  unfold GB_X5_advance_18_7 at h
  unfold B_X5_advance_18_7
  refine cp_r (e := zI) (fun _ h => rF_X1_sizeOf rfl h) h ?_
  clear h
  intro v23 h
  obtain ⟨hr1, h⟩ := ck_e h
  obtain ⟨hr2, h⟩ := ck_e h
  refine ite_r (c_le rfl rfl hr1 hr2) h ?_ ?_
  · clear h
    intro h
    cases h
    exact congrArg some (congrArg Sum.inr rfl)
  · clear h
    intro h
    refine rd_r (Nat.le_of_ble_eq_true rfl) rfl h ?_
    clear h
    intro v25 h
    refine wr_r (Nat.le_of_ble_eq_true rfl) rfl rfl h ?_
    clear h
    intro g26 h
    refine lt_r (e_add rfl kz_1) h ?_
    clear h
    intro v27 h
    cases h
    exact congrArg some (congrArg Sum.inl (e_pair rfl rfl))
theorem rC_X5_advance_18_8 {g22 : uZ} {zr : uZ} (h : GC_X5_advance_18_8 g22 = some zr) : C_X5_advance_18_8 (zS g22) = some (zS zr) := by
  unfold GC_X5_advance_18_8 at h
  unfold C_X5_advance_18_8
  cases h
  rfl
theorem rC_X5_advance_18_9 {a1_ : Int32} {a1 : Int} (e_a1 : a1_ = zI a1) {g3 : uZ} {zr : uZ} (h : GC_X5_advance_18_9 a1 g3 = some zr) : C_X5_advance_18_9 a1_ (zS g3) = some (zS zr) := by
  subst e_a1
  unfold GC_X5_advance_18_9 at h
  unfold C_X5_advance_18_9
  refine lp_r em_2 zS (e_pair kz_0 rfl) (fun q r h => rB_X5_advance_18_7 rfl rfl h) h ?_
  clear h
  intro z h
  exact rC_X5_advance_18_8 h
theorem rF_X5_advance_18 {a1_ : Int32} {a1 : Int} (e_a1 : a1_ = zI a1) {g : uZ} {zr : uZ} (h : GF_X5_advance_18 a1 g = some zr) : F_X5_advance_18 a1_ (zS g) = some (zS zr) := by
  subst e_a1
  unfold GF_X5_advance_18 at h
  unfold F_X5_advance_18
  refine lp_r em_2 zS (e_pair kz_0 rfl) (fun q r h => rB_X5_advance_18_5 rfl rfl h) h ?_
  clear h
  intro z h
  exact rC_X5_advance_18_9 rfl h
theorem rB_X5_leastOfAll_18_3 {w8_ : Int32} {w8 : Int} (e_w8 : w8_ = zI w8) {g9 : uZ} {zr : ((Int × uZ) ⊕ uZ)} (h : GB_X5_leastOfAll_18_3 w8 g9 = some zr) : B_X5_leastOfAll_18_3 w8_ (zS g9) = some (em_3 zr) := by
  subst e_w8
  unfold GB_X5_leastOfAll_18_3 at h
  unfold B_X5_leastOfAll_18_3
  refine cp_r (e := zI) (fun _ h => rF_X1_sizeOf kz_0 h) h ?_
  clear h
  intro v11 h
  obtain ⟨hr1, h⟩ := ck_e h
  obtain ⟨hr2, h⟩ := ck_e h
  refine ite_r (c_le rfl rfl hr1 hr2) h ?_ ?_
  · clear h
    intro h
    cases h
    exact congrArg some (congrArg Sum.inr rfl)
  · clear h
    intro h
    refine cp_r (e := zI) (fun _ h => rF_X1_ownOf kz_0 rfl h) h ?_
    clear h
    intro v13 h
    refine wr_r (Nat.le_of_ble_eq_true rfl) rfl rfl h ?_
    clear h
    intro g14 h
    refine lt_r (e_add rfl kz_1) h ?_
    clear h
    intro v15 h
    cases h
    exact congrArg some (congrArg Sum.inl (e_pair rfl rfl))
theorem rJ_X5_leastOfAll_18_6 {w17_ : Int32} {w17 : Int} (e_w17 : w17_ = zI w17) {g18 : uZ} {v26_ : Int32} {v26 : Int} (e_v26 : v26_ = zI v26) {zr : ((Int × uZ) ⊕ uZ)} (h : GJ_X5_leastOfAll_18_6 w17 g18 v26 = some zr) : J_X5_leastOfAll_18_6 w17_ (zS g18) v26_ = some (em_3 zr) := by
  subst e_w17 e_v26
  unfold GJ_X5_leastOfAll_18_6 at h
  unfold J_X5_leastOfAll_18_6
  refine wr_r (Nat.le_of_ble_eq_true rfl) rfl rfl h ?_
  clear h
  intro g27 h
  refine lt_r (e_add rfl kz_1) h ?_
  clear h
  intro v28 h
  cases h
  exact congrArg some (congrArg Sum.inl (e_pair rfl rfl))
theorem rB_X5_leastOfAll_18_7 {a2_ : Int32} {a2 : Int} (e_a2 : a2_ = zI a2) {w2_ : Int32} {w2 : Int} (e_w2 : w2_ = zI w2) {w17_ : Int32} {w17 : Int} (e_w17 : w17_ = zI w17) {g18 : uZ} {zr : ((Int × uZ) ⊕ uZ)} (h : GB_X5_leastOfAll_18_7 a2 w2 w17 g18 = some zr) : B_X5_leastOfAll_18_7 a2_ w2_ w17_ (zS g18) = some (em_3 zr) := by
  subst e_a2 e_w2 e_w17
  unfold GB_X5_leastOfAll_18_7 at h
  unfold B_X5_leastOfAll_18_7
  obtain ⟨hr1, h⟩ := ck_e h
  refine ite_r (c_eq rfl kz_0 hr1 ir_0) h ?_ ?_
  · clear h
    intro h
    refine cp_r (e := zI) (fun _ h => rF_X1_sizeOf rfl h) h ?_
    clear h
    intro v21 h
    obtain ⟨hr2, h⟩ := ck_e h
    obtain ⟨hr3, h⟩ := ck_e h
    refine ite_r (c_le rfl rfl hr2 hr3) h ?_ ?_
    · clear h
      intro h
      cases h
      exact congrArg some (congrArg Sum.inr rfl)
    · clear h
      intro h
      refine cp_r (e := zI) (fun _ h => rF_X1_halfOf rfl rfl h) h ?_
      clear h
      intro v23 h
      obtain ⟨hr4, h⟩ := ck_e h
      refine ite_r (c_eq rfl kz_m1 hr4 ir_m1) h ?_ ?_
      · clear h
        intro h
        refine rd_r (Nat.le_of_ble_eq_true rfl) rfl h ?_
        clear h
        intro v25 h
        exact rJ_X5_leastOfAll_18_6 rfl rfl h
      · clear h
        intro h
        exact rJ_X5_leastOfAll_18_6 rfl kz_536870912 h
  · clear h
    intro h
    cases h
    exact congrArg some (congrArg Sum.inr rfl)
theorem rC_X5_leastOfAll_18_8 {w2_ : Int32} {w2 : Int} (e_w2 : w2_ = zI w2) {g19 : uZ} {zr : ((Int × uZ) ⊕ uZ)} (h : GC_X5_leastOfAll_18_8 w2 g19 = some zr) : C_X5_leastOfAll_18_8 w2_ (zS g19) = some (em_3 zr) := by
  subst e_w2
  unfold GC_X5_leastOfAll_18_8 at h
  unfold C_X5_leastOfAll_18_8
  refine lt_r (e_add rfl kz_1) h ?_
  clear h
  intro v29 h
  cases h
  exact congrArg some (congrArg Sum.inl (e_pair rfl rfl))
theorem rJ_X5_leastOfAll_18_9 {a2_ : Int32} {a2 : Int} (e_a2 : a2_ = zI a2) {w2_ : Int32} {w2 : Int} (e_w2 : w2_ = zI w2) {g16 : uZ} {zr : ((Int × uZ) ⊕ uZ)} (h : GJ_X5_leastOfAll_18_9 a2 w2 g16 = some zr) : J_X5_leastOfAll_18_9 a2_ w2_ (zS g16) = some (em_3 zr) := by
  subst e_a2 e_w2
  unfold GJ_X5_leastOfAll_18_9 at h
  unfold J_X5_leastOfAll_18_9
  refine lp_r em_2 zS (e_pair kz_0 rfl) (fun q r h => rB_X5_leastOfAll_18_7 rfl rfl rfl h) h ?_
  clear h
  intro z h
  exact rC_X5_leastOfAll_18_8 rfl h
theorem rC_X5_leastOfAll_18_4 {a2_ : Int32} {a2 : Int} (e_a2 : a2_ = zI a2) {w2_ : Int32} {w2 : Int} (e_w2 : w2_ = zI w2) {g10 : uZ} {zr : ((Int × uZ) ⊕ uZ)} (h : GC_X5_leastOfAll_18_4 a2 w2 g10 = some zr) : C_X5_leastOfAll_18_4 a2_ w2_ (zS g10) = some (em_3 zr) := by
  subst e_a2 e_w2
  unfold GC_X5_leastOfAll_18_4 at h
  unfold C_X5_leastOfAll_18_4
  exact rJ_X5_leastOfAll_18_9 rfl rfl h
theorem rB_X5_leastOfAll_18_10 {a2_ : Int32} {a2 : Int} (e_a2 : a2_ = zI a2) {w2_ : Int32} {w2 : Int} (e_w2 : w2_ = zI w2) {g3 : uZ} {zr : ((Int × uZ) ⊕ uZ)} (h : GB_X5_leastOfAll_18_10 a2 w2 g3 = some zr) : B_X5_leastOfAll_18_10 a2_ w2_ (zS g3) = some (em_3 zr) := by
  subst e_a2 e_w2
  unfold GB_X5_leastOfAll_18_10 at h
  unfold B_X5_leastOfAll_18_10
  obtain ⟨hr1, h⟩ := ck_e h
  obtain ⟨hr2, h⟩ := ck_e h
  refine ite_r (c_le rfl rfl hr1 hr2) h ?_ ?_
  · clear h
    intro h
    cases h
    exact congrArg some (congrArg Sum.inr rfl)
  · clear h
    intro h
    refine ite_r (c_eq rfl kz_0 hr2 ir_0) h ?_ ?_
    · clear h
      intro h
      refine lp_r em_2 zS (e_pair kz_0 rfl) (fun q r h => rB_X5_leastOfAll_18_3 rfl h) h ?_
      clear h
      intro z h
      exact rC_X5_leastOfAll_18_4 rfl rfl h
    · clear h
      intro h
      refine cp_r (e := zS) (fun _ h => rF_X5_advance_18 rfl h) h ?_
      clear h
      intro g7 h
      exact rJ_X5_leastOfAll_18_9 rfl rfl h
theorem rB_X5_leastOfAll_18_12 {g4 : uZ} {w30_ : Int32} {w30 : Int} (e_w30 : w30_ = zI w30) {w31_ : Int32} {w31 : Int} (e_w31 : w31_ = zI w31) {zr : ((Int × Int) ⊕ Int)} (h : GB_X5_leastOfAll_18_12 g4 w30 w31 = some zr) : B_X5_leastOfAll_18_12 (zS g4) w30_ w31_ = some (em_1 zr) := by
  subst e_w30 e_w31
  unfold GB_X5_leastOfAll_18_12 at h
  unfold B_X5_leastOfAll_18_12
  refine cp_r (e := zI) (fun _ h => rF_X1_sizeOf (e_sub rfl kz_1) h) h ?_
  clear h
  intro v33 h
  obtain ⟨hr1, h⟩ := ck_e h
  obtain ⟨hr2, h⟩ := ck_e h
  refine ite_r (c_le rfl rfl hr1 hr2) h ?_ ?_
  · clear h
    intro h
    cases h
    exact congrArg some (congrArg Sum.inr rfl)
  · clear h
    intro h
    refine rd_r (Nat.le_of_ble_eq_true rfl) rfl h ?_
    clear h
    intro v35 h
    refine cp_r (e := zI) (fun _ h => rF_J9_min_7cf53 rfl rfl h) h ?_
    clear h
    intro v36 h
    refine lt_r (e_add rfl kz_1) h ?_
    clear h
    intro v37 h
    cases h
    exact congrArg some (congrArg Sum.inl (e_pair rfl rfl))
theorem rC_X5_leastOfAll_18_13 {g4 : uZ} {v32_ : Int32} {v32 : Int} (e_v32 : v32_ = zI v32) {zr : (Int × uZ)} (h : GC_X5_leastOfAll_18_13 g4 v32 = some zr) : C_X5_leastOfAll_18_13 (zS g4) v32_ = some (em_2 zr) := by
  subst e_v32
  unfold GC_X5_leastOfAll_18_13 at h
  unfold C_X5_leastOfAll_18_13
  cases h
  exact congrArg some (e_pair rfl rfl)
theorem rC_X5_leastOfAll_18_14 {g4 : uZ} {zr : (Int × uZ)} (h : GC_X5_leastOfAll_18_14 g4 = some zr) : C_X5_leastOfAll_18_14 (zS g4) = some (em_2 zr) := by
  unfold GC_X5_leastOfAll_18_14 at h
  unfold C_X5_leastOfAll_18_14
  refine lp_r em_0 zI (e_pair kz_536870912 kz_0) (fun q r h => rB_X5_leastOfAll_18_12 rfl rfl h) h ?_
  clear h
  intro z h
  exact rC_X5_leastOfAll_18_13 rfl h
theorem rF_X5_leastOfAll_18 {a2_ : Int32} {a2 : Int} (e_a2 : a2_ = zI a2) {g : uZ} {zr : (Int × uZ)} (h : GF_X5_leastOfAll_18 a2 g = some zr) : F_X5_leastOfAll_18 a2_ (zS g) = some (em_2 zr) := by
  subst e_a2
  unfold GF_X5_leastOfAll_18 at h
  unfold F_X5_leastOfAll_18
  obtain ⟨hr1, h⟩ := ck_e h
  refine ite_r (c_eq rfl kz_0 hr1 ir_0) h ?_ ?_
  · clear h
    intro h
    cases h
    exact congrArg some (e_pair kz_0 rfl)
  · clear h
    intro h
    refine lp_r em_2 zS (e_pair kz_0 rfl) (fun q r h => rB_X5_leastOfAll_18_10 rfl rfl h) h ?_
    clear h
    intro z h
    exact rC_X5_leastOfAll_18_14 h
theorem rF_X5_leastWith {a1_ : Int32} {a1 : Int} (e_a1 : a1_ = zI a1) {a2_ : Int32} {a2 : Int} (e_a2 : a2_ = zI a2) {g : uZ} {zr : (Int × uZ)} (h : GF_X5_leastWith a1 a2 g = some zr) : F_X5_leastWith a1_ a2_ (zS g) = some (em_2 zr) := by
  subst e_a1 e_a2
  unfold GF_X5_leastWith at h
  unfold F_X5_leastWith
  refine cp_r (e := zI) (fun _ h => rF_X0_of kz_10 h) h ?_
  clear h
  intro v1 h
  refine cp_r (e := zS) (fun _ h => rF_X9_set_18 rfl rfl rfl h) h ?_
  clear h
  intro g2 h
  refine cl_r (fun _ _ h => rF_X5_leastOfAll_18 kz_1 h) h ?_
  clear h
  intro v4 g3 h
  cases h
  exact congrArg some (e_pair rfl rfl)
theorem rB_X5_chosenLive_2 {a1_ : Int32} {a1 : Int} (e_a1 : a1_ = zI a1) {g : uZ} {w5_ : Int32} {w5 : Int} (e_w5 : w5_ = zI w5) {w6_ : Int32} {w6 : Int} (e_w6 : w6_ = zI w6) {zr : ((Int × Int) ⊕ Int)} (h : GB_X5_chosenLive_2 a1 g w5 w6 = some zr) : B_X5_chosenLive_2 a1_ (zS g) w5_ w6_ = some (em_1 zr) := by
  subst e_a1 e_w5 e_w6
  unfold GB_X5_chosenLive_2 at h
  unfold B_X5_chosenLive_2
  obtain ⟨hr1, h⟩ := ck_e h
  obtain ⟨hr2, h⟩ := ck_e h
  refine ite_r (c_le rfl rfl hr1 hr2) h ?_ ?_
  · clear h
    intro h
    cases h
    exact congrArg some (congrArg Sum.inr rfl)
  · clear h
    intro h
    refine cp_r (e := zI) (fun _ h => rF_X5_aheadOf rfl rfl h) h ?_
    clear h
    intro v9 h
    refine lt_r (e_add rfl kz_m1) h ?_
    clear h
    intro v10 h
    cases h
    exact congrArg some (congrArg Sum.inl (e_pair rfl rfl))
theorem rC_X5_chosenLive_3 {v7_ : Int32} {v7 : Int} (e_v7 : v7_ = zI v7) {zr : Int} (h : GC_X5_chosenLive_3 v7 = some zr) : C_X5_chosenLive_3 v7_ = some (zI zr) := by
  subst e_v7
  unfold GC_X5_chosenLive_3 at h
  unfold C_X5_chosenLive_3
  cases h
  rfl
theorem rJ_X5_chosenLive_4 {zr : Int} (h : GJ_X5_chosenLive_4 = some zr) : J_X5_chosenLive_4 = some (zI zr) := by
  unfold GJ_X5_chosenLive_4 at h
  unfold J_X5_chosenLive_4
  cases h
  exact congrArg some kz_0
theorem rF_X5_chosenLive {a1_ : Int32} {a1 : Int} (e_a1 : a1_ = zI a1) {a2_ : Int32} {a2 : Int} (e_a2 : a2_ = zI a2) {g : uZ} {zr : Int} (h : GF_X5_chosenLive a1 a2 g = some zr) : F_X5_chosenLive a1_ a2_ (zS g) = some (zI zr) := by
  subst e_a1 e_a2
  unfold GF_X5_chosenLive at h
  unfold F_X5_chosenLive
  refine cp_r (e := zI) (fun _ h => rF_J9_min_7cf53 (e_add rfl rfl) (e_sub rfl kz_1) h) h ?_
  clear h
  intro v1 h
  obtain ⟨hr1, h⟩ := ck_e h
  refine ite_r (c_lt rfl kz_0 hr1 ir_0) h ?_ ?_
  · clear h
    intro h
    exact rJ_X5_chosenLive_4 h
  · clear h
    intro h
    obtain ⟨hr2, h⟩ := ck_e h
    refine ite_r (c_le rfl rfl hr1 hr2) h ?_ ?_
    · clear h
      intro h
      refine cp_r (e := zI) (fun _ h => rF_X5_firstAtEnd rfl h) h ?_
      clear h
      intro v4 h
      refine lp_r em_0 zI (e_pair rfl rfl) (fun q r h => rB_X5_chosenLive_2 rfl rfl rfl h) h ?_
      clear h
      intro z h
      exact rC_X5_chosenLive_3 rfl h
    · clear h
      intro h
      exact rJ_X5_chosenLive_4 h
theorem rF_X9_setBy_28_4 {g : uZ} {zr : uZ} (h : GF_X9_setBy_28_4 g = some zr) : F_X9_setBy_28_4 (zS g) = some (zS zr) := by
  unfold GF_X9_setBy_28_4 at h
  unfold F_X9_setBy_28_4
  refine cp_r (e := zI) (fun _ h => rF_X0_of kz_10 h) h ?_
  clear h
  intro v1 h
  refine cp_r (e := zI) (fun _ h => rF_X0_of kz_11 h) h ?_
  clear h
  intro v2 h
  refine cp_r (e := zI) (fun _ h => rF_X0_of kz_12 h) h ?_
  clear h
  intro v3 h
  refine cp_r (e := zS) (fun _ h => rF_X9_set_28 rfl rfl rfl h) h ?_
  clear h
  intro g4 h
  cases h
  rfl
theorem rF_X6_place {a1_ : Int32} {a1 : Int} (e_a1 : a1_ = zI a1) {a2_ : Int32} {a2 : Int} (e_a2 : a2_ = zI a2) {g : uZ} {zr : Int} (h : GF_X6_place a1 a2 g = some zr) : F_X6_place a1_ a2_ (zS g) = some (zI zr) := by
  subst e_a1 e_a2
  unfold GF_X6_place at h
  unfold F_X6_place
  refine cp_r (e := zI) (fun _ h => rF_X11_cell (e_add rfl kz_1) rfl h) h ?_
  clear h
  intro v1 h
  cases h
  exact congrArg some (e_mul rfl kz_8)
theorem rJ_X6_cheapestNext_3 {w3_ : Int32} {w3 : Int} (e_w3 : w3_ = zI w3) {v20_ : Int32} {v20 : Int} (e_v20 : v20_ = zI v20) {v21_ : Int32} {v21 : Int} (e_v21 : v21_ = zI v21) {zr : ((Int × (Int × Int)) ⊕ Int)} (h : GJ_X6_cheapestNext_3 w3 v20 v21 = some zr) : J_X6_cheapestNext_3 w3_ v20_ v21_ = some (em_11 zr) := by
  subst e_w3 e_v20 e_v21
  unfold GJ_X6_cheapestNext_3 at h
  unfold J_X6_cheapestNext_3
  refine lt_r (e_add rfl kz_1) h ?_
  clear h
  intro v22 h
  cases h
  exact congrArg some (congrArg Sum.inl (e_pair rfl (e_pair rfl rfl)))
theorem rJ_X6_cheapestNext_2 {v17_ : Int32} {v17 : Int} (e_v17 : v17_ = zI v17) {w3_ : Int32} {w3 : Int} (e_w3 : w3_ = zI w3) {zr : ((Int × (Int × Int)) ⊕ Int)} (h : GJ_X6_cheapestNext_2 v17 w3 = some zr) : J_X6_cheapestNext_2 v17_ w3_ = some (em_11 zr) := by
  subst e_v17 e_w3
  unfold GJ_X6_cheapestNext_2 at h
  unfold J_X6_cheapestNext_2
  exact rJ_X6_cheapestNext_3 rfl rfl rfl h
theorem rB_X6_cheapestNext_4 {a1_ : Int32} {a1 : Int} (e_a1 : a1_ = zI a1) {g : uZ} {w1_ : Int32} {w1 : Int} (e_w1 : w1_ = zI w1) {w2_ : Int32} {w2 : Int} (e_w2 : w2_ = zI w2) {w3_ : Int32} {w3 : Int} (e_w3 : w3_ = zI w3) {zr : ((Int × (Int × Int)) ⊕ Int)} (h : GB_X6_cheapestNext_4 a1 g w1 w2 w3 = some zr) : B_X6_cheapestNext_4 a1_ (zS g) w1_ w2_ w3_ = some (em_11 zr) := by
  subst e_a1 e_w1 e_w2 e_w3
  unfold GB_X6_cheapestNext_4 at h
  unfold B_X6_cheapestNext_4
  refine cp_r (e := zI) (fun _ h => rF_X1_sizeOf rfl h) h ?_
  clear h
  intro v5 h
  obtain ⟨hr1, h⟩ := ck_e h
  obtain ⟨hr2, h⟩ := ck_e h
  refine ite_r (c_le rfl rfl hr1 hr2) h ?_ ?_
  · clear h
    intro h
    cases h
    exact congrArg some (congrArg Sum.inr rfl)
  · clear h
    intro h
    refine rd_r (Nat.le_of_ble_eq_true rfl) rfl h ?_
    clear h
    intro v7 h
    refine cp_r (e := zI) (fun _ h => rF_X11_cell (e_add rfl kz_1) rfl h) h ?_
    clear h
    intro v8 h
    refine rd_r (Nat.le_of_ble_eq_true rfl) rfl h ?_
    clear h
    intro v9 h
    obtain ⟨hr3, h⟩ := ck_e h
    obtain ⟨hr4, h⟩ := ck_e h
    refine ite_r (c_le rfl rfl hr3 hr4) h ?_ ?_
    · clear h
      intro h
      exact rJ_X6_cheapestNext_3 rfl rfl rfl h
    · clear h
      intro h
      refine rd_r (Nat.le_of_ble_eq_true rfl) rfl h ?_
      clear h
      intro v11 h
      obtain ⟨hr5, h⟩ := ck_e h
      refine ite_r (c_le kz_8 rfl ir_8 hr5) h ?_ ?_
      · clear h
        intro h
        exact rJ_X6_cheapestNext_3 rfl rfl rfl h
      · clear h
        intro h
        refine rd_r (Nat.le_of_ble_eq_true rfl) rfl h ?_
        clear h
        intro v13 h
        refine cp_r (e := zI) (fun _ h => rF_X6_place rfl rfl h) h ?_
        clear h
        intro v14 h
        refine rd_r (Nat.le_of_ble_eq_true rfl) rfl h ?_
        clear h
        intro v15 h
        refine rd_r (Nat.le_of_ble_eq_true rfl) (e_add rfl rfl) h ?_
        clear h
        intro v16 h
        refine lt_r (e_add rfl rfl) h ?_
        clear h
        intro v17 h
        obtain ⟨hr6, h⟩ := ck_e h
        refine ite_r (c_eq rfl kz_m1 hr6 ir_m1) h ?_ ?_
        · clear h
          intro h
          exact rJ_X6_cheapestNext_2 rfl rfl h
        · clear h
          intro h
          obtain ⟨hr7, h⟩ := ck_e h
          obtain ⟨hr8, h⟩ := ck_e h
          refine ite_r (c_le rfl rfl hr7 hr8) h ?_ ?_
          · clear h
            intro h
            exact rJ_X6_cheapestNext_3 rfl rfl rfl h
          · clear h
            intro h
            exact rJ_X6_cheapestNext_2 rfl rfl h
theorem rC_X6_cheapestNext_5 {v4_ : Int32} {v4 : Int} (e_v4 : v4_ = zI v4) {zr : Int} (h : GC_X6_cheapestNext_5 v4 = some zr) : C_X6_cheapestNext_5 v4_ = some (zI zr) := by
  subst e_v4
  unfold GC_X6_cheapestNext_5 at h
  unfold C_X6_cheapestNext_5
  cases h
  rfl
theorem rF_X6_cheapestNext {a1_ : Int32} {a1 : Int} (e_a1 : a1_ = zI a1) {g : uZ} {zr : Int} (h : GF_X6_cheapestNext a1 g = some zr) : F_X6_cheapestNext a1_ (zS g) = some (zI zr) := by
  subst e_a1
  unfold GF_X6_cheapestNext at h
  unfold F_X6_cheapestNext
  refine lp_r em_9 zI (e_pair kz_m1 (e_pair kz_0 kz_0)) (fun q r h => rB_X6_cheapestNext_4 rfl rfl rfl rfl h) h ?_
  clear h
  intro z h
  exact rC_X6_cheapestNext_5 rfl h
theorem rJ_X6_findWays_2 {w5_ : Int32} {w5 : Int} (e_w5 : w5_ = zI w5) {g10 : uZ} {v15_ : Int32} {v15 : Int} (e_v15 : v15_ = zI v15) {zr : ((Int × uZ) ⊕ uZ)} (h : GJ_X6_findWays_2 w5 g10 v15 = some zr) : J_X6_findWays_2 w5_ (zS g10) v15_ = some (em_3 zr) := by
  subst e_w5 e_v15
  unfold GJ_X6_findWays_2 at h
  unfold J_X6_findWays_2
  refine wr_r (Nat.le_of_ble_eq_true rfl) rfl rfl h ?_
  clear h
  intro g16 h
  refine lt_r (e_add rfl kz_1) h ?_
  clear h
  intro v17 h
  cases h
  exact congrArg some (congrArg Sum.inl (e_pair rfl rfl))
theorem rB_X6_findWays_3 {a1_ : Int32} {a1 : Int} (e_a1 : a1_ = zI a1) {a2_ : Int32} {a2 : Int} (e_a2 : a2_ = zI a2) {w5_ : Int32} {w5 : Int} (e_w5 : w5_ = zI w5) {g6 : uZ} {zr : ((Int × uZ) ⊕ uZ)} (h : GB_X6_findWays_3 a1 a2 w5 g6 = some zr) : B_X6_findWays_3 a1_ a2_ w5_ (zS g6) = some (em_3 zr) := by
  subst e_a1 e_a2 e_w5
  unfold GB_X6_findWays_3 at h
  unfold B_X6_findWays_3
  refine cp_r (e := zI) (fun _ h => rF_X1_sizeOf (e_add rfl kz_1) h) h ?_
  clear h
  intro v8 h
  obtain ⟨hr1, h⟩ := ck_e h
  obtain ⟨hr2, h⟩ := ck_e h
  refine ite_r (c_le rfl rfl hr1 hr2) h ?_ ?_
  · clear h
    intro h
    cases h
    exact congrArg some (congrArg Sum.inr rfl)
  · clear h
    intro h
    refine wr_r (Nat.le_of_ble_eq_true rfl) rfl kz_0 h ?_
    clear h
    intro g10 h
    obtain ⟨hr3, h⟩ := ck_e h
    refine ite_r (c_le kz_0 rfl ir_0 hr3) h ?_ ?_
    · clear h
      intro h
      refine cp_r (e := zI) (fun _ h => rF_X1_lagOf rfl rfl h) h ?_
      clear h
      intro v12 h
      refine cp_r (e := zI) (fun _ h => rF_X1_lagOf (e_add rfl kz_1) rfl h) h ?_
      clear h
      intro v13 h
      refine cp_r (e := zI) (fun _ h => rF_X9_price_28 rfl rfl h) h ?_
      clear h
      intro v14 h
      exact rJ_X6_findWays_2 rfl rfl h
    · clear h
      intro h
      exact rJ_X6_findWays_2 rfl kz_0 h
theorem rB_X6_findWays_5 {a1_ : Int32} {a1 : Int} (e_a1 : a1_ = zI a1) {v1_ : Int32} {v1 : Int} (e_v1 : v1_ = zI v1) {v2_ : Int32} {v2 : Int} (e_v2 : v2_ = zI v2) {w19_ : Int32} {w19 : Int} (e_w19 : w19_ = zI w19) {w20_ : Int32} {w20 : Int} (e_w20 : w20_ = zI w20) {g21 : uZ} {zr : ((Int × (Int × uZ)) ⊕ (Int × uZ))} (h : GB_X6_findWays_5 a1 v1 v2 w19 w20 g21 = some zr) : B_X6_findWays_5 a1_ v1_ v2_ w19_ w20_ (zS g21) = some (em_6 zr) := by
  subst e_a1 e_v1 e_v2 e_w19 e_w20
  unfold GB_X6_findWays_5 at h
  unfold B_X6_findWays_5
  obtain ⟨hr1, h⟩ := ck_e h
  refine ite_r (c_le kz_8 rfl ir_8 hr1) h ?_ ?_
  · clear h
    intro h
    cases h
    exact congrArg some (congrArg Sum.inr (e_pair rfl rfl))
  · clear h
    intro h
    obtain ⟨hr2, h⟩ := ck_e h
    refine ite_r (c_eq rfl kz_m1 hr2 ir_m1) h ?_ ?_
    · clear h
      intro h
      cases h
      exact congrArg some (congrArg Sum.inr (e_pair rfl rfl))
    · clear h
      intro h
      refine rd_r (Nat.le_of_ble_eq_true rfl) rfl h ?_
      clear h
      intro v26 h
      refine cp_r (e := zI) (fun _ h => rF_X6_place (e_add rfl kz_1) rfl h) h ?_
      clear h
      intro v27 h
      refine rd_r (Nat.le_of_ble_eq_true rfl) rfl h ?_
      clear h
      intro v28 h
      refine rd_r (Nat.le_of_ble_eq_true rfl) (e_add rfl rfl) h ?_
      clear h
      intro v29 h
      refine wr_r (Nat.le_of_ble_eq_true rfl) (e_add rfl rfl) (e_add (e_add rfl rfl) rfl) h ?_
      clear h
      intro g30 h
      refine rd_r (Nat.le_of_ble_eq_true rfl) rfl h ?_
      clear h
      intro v31 h
      refine wr_r (Nat.le_of_ble_eq_true rfl) (e_add rfl rfl) (e_add (e_mul rfl kz_8) rfl) h ?_
      clear h
      intro g32 h
      refine rd_r (Nat.le_of_ble_eq_true rfl) rfl h ?_
      clear h
      intro v33 h
      refine wr_r (Nat.le_of_ble_eq_true rfl) rfl (e_add rfl kz_1) h ?_
      clear h
      intro g34 h
      refine lt_r (e_add rfl kz_1) h ?_
      clear h
      intro v35 h
      refine cp_r (e := zI) (fun _ h => rF_X6_cheapestNext (e_add rfl kz_1) h) h ?_
      clear h
      intro v36 h
      cases h
      exact congrArg some (congrArg Sum.inl (e_pair rfl (e_pair rfl rfl)))
theorem rC_X6_findWays_6 {a1_ : Int32} {a1 : Int} (e_a1 : a1_ = zI a1) {a2_ : Int32} {a2 : Int} (e_a2 : a2_ = zI a2) {v22_ : Int32} {v22 : Int} (e_v22 : v22_ = zI v22) {g23 : uZ} {zr : uZ} (h : GC_X6_findWays_6 a1 a2 v22 g23 = some zr) : C_X6_findWays_6 a1_ a2_ v22_ (zS g23) = some (zS zr) := by
  subst e_a1 e_a2 e_v22
  unfold GC_X6_findWays_6 at h
  unfold C_X6_findWays_6
  refine cp_r (e := zI) (fun _ h => rF_X11_cell (e_add rfl kz_1) rfl h) h ?_
  clear h
  intro v37 h
  refine wr_r (Nat.le_of_ble_eq_true rfl) rfl rfl h ?_
  clear h
  intro g38 h
  cases h
  rfl
theorem rC_X6_findWays_7 {a1_ : Int32} {a1 : Int} (e_a1 : a1_ = zI a1) {a2_ : Int32} {a2 : Int} (e_a2 : a2_ = zI a2) {v1_ : Int32} {v1 : Int} (e_v1 : v1_ = zI v1) {v2_ : Int32} {v2 : Int} (e_v2 : v2_ = zI v2) {g7 : uZ} {zr : uZ} (h : GC_X6_findWays_7 a1 a2 v1 v2 g7 = some zr) : C_X6_findWays_7 a1_ a2_ v1_ v2_ (zS g7) = some (zS zr) := by
  subst e_a1 e_a2 e_v1 e_v2
  unfold GC_X6_findWays_7 at h
  unfold C_X6_findWays_7
  refine cp_r (e := zI) (fun _ h => rF_X6_cheapestNext (e_add rfl kz_1) h) h ?_
  clear h
  intro v18 h
  refine lp_r em_4 em_2 (e_pair kz_0 (e_pair rfl rfl)) (fun q r h => rB_X6_findWays_5 rfl rfl rfl rfl rfl h) h ?_
  clear h
  intro z h
  exact rC_X6_findWays_6 rfl rfl rfl h
theorem rF_X6_findWays {a1_ : Int32} {a1 : Int} (e_a1 : a1_ = zI a1) {a2_ : Int32} {a2 : Int} (e_a2 : a2_ = zI a2) {g : uZ} {zr : uZ} (h : GF_X6_findWays a1 a2 g = some zr) : F_X6_findWays a1_ a2_ (zS g) = some (zS zr) := by
  subst e_a1 e_a2
  unfold GF_X6_findWays at h
  unfold F_X6_findWays
  refine cp_r (e := zI) (fun _ h => rF_X1_ownOf rfl rfl h) h ?_
  clear h
  intro v1 h
  refine cp_r (e := zI) (fun _ h => rF_X6_place rfl rfl h) h ?_
  clear h
  intro v2 h
  refine cp_r (e := zI) (fun _ h => rF_X1_frameCount h) h ?_
  clear h
  intro v3 h
  obtain ⟨hr1, h⟩ := ck_e h
  obtain ⟨hr2, h⟩ := ck_e h
  refine ite_r (c_lt (e_add rfl kz_1) rfl hr1 hr2) h ?_ ?_
  · clear h
    intro h
    refine lp_r em_2 zS (e_pair kz_0 rfl) (fun q r h => rB_X6_findWays_3 rfl rfl rfl h) h ?_
    clear h
    intro z h
    exact rC_X6_findWays_7 rfl rfl rfl rfl h
  · clear h
    intro h
    refine wr_r (Nat.le_of_ble_eq_true rfl) rfl rfl h ?_
    clear h
    intro g39 h
    refine cp_r (e := zI) (fun _ h => rF_X11_cell (e_add rfl kz_1) rfl h) h ?_
    clear h
    intro v40 h
    refine wr_r (Nat.le_of_ble_eq_true rfl) rfl kz_1 h ?_
    clear h
    intro g41 h
    cases h
    rfl
theorem rB_X6_find_3 {w4_ : Int32} {w4 : Int} (e_w4 : w4_ = zI w4) {w8_ : Int32} {w8 : Int} (e_w8 : w8_ = zI w8) {g9 : uZ} {zr : ((Int × uZ) ⊕ uZ)} (h : GB_X6_find_3 w4 w8 g9 = some zr) : B_X6_find_3 w4_ w8_ (zS g9) = some (em_3 zr) := by
  subst e_w4 e_w8
  unfold GB_X6_find_3 at h
  unfold B_X6_find_3
  refine cp_r (e := zI) (fun _ h => rF_X1_sizeOf rfl h) h ?_
  clear h
  intro v11 h
  obtain ⟨hr1, h⟩ := ck_e h
  obtain ⟨hr2, h⟩ := ck_e h
  refine ite_r (c_le rfl rfl hr1 hr2) h ?_ ?_
  · clear h
    intro h
    cases h
    exact congrArg some (congrArg Sum.inr rfl)
  · clear h
    intro h
    refine cp_r (e := zS) (fun _ h => rF_X6_findWays rfl rfl h) h ?_
    clear h
    intro g13 h
    refine lt_r (e_add rfl kz_1) h ?_
    clear h
    intro v14 h
    cases h
    exact congrArg some (congrArg Sum.inl (e_pair rfl rfl))

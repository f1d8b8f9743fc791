theorem rF_X12_feed {a1_ : Int32} {a1 : Int} (e_a1 : a1_ = zI a1) {a2_ : Int32} {a2 : Int} (e_a2 : a2_ = zI a2) {a3_ : Int32} {a3 : Int} (e_a3 : a3_ = zI a3) {a4_ : Int32} {a4 : Int} (e_a4 : a4_ = zI a4) {a5_ : Int32} {a5 : Int} (e_a5 : a5_ = zI a5) {g : uZ} {zr : (Int × uZ)} (h : GF_X12_feed a1 a2 a3 a4 a5 g = some zr) : F_X12_feed a1_ a2_ a3_ a4_ a5_ (zS g) = some (em_2 zr) := by
  subst e_a1 e_a2 e_a3 e_a4 e_a5
  unfold GF_X12_feed at h
  unfold F_X12_feed
  refine pf_r kz_0 h ?_
  clear h
  intro g1 h
  obtain ⟨hr1, h⟩ := ck_e h
  refine ite_r (c_le (e_add rfl kz_20) kz_400 hr1 ir_400) h ?_ ?_
  · clear h
    intro h
    refine cp_r (e := zS) (fun _ h => rF_X12_comes rfl h) h ?_
    clear h
    intro g3 h
    refine cp_r (e := zS) (fun _ h => rF_X12_comes rfl h) h ?_
    clear h
    intro g4 h
    refine cp_r (e := zS) (fun _ h => rF_X12_comes rfl h) h ?_
    clear h
    intro g5 h
    refine cp_r (e := zS) (fun _ h => rF_X12_comes rfl h) h ?_
    clear h
    intro g6 h
    refine cp_r (e := zS) (fun _ h => rF_X12_comes rfl h) h ?_
    clear h
    intro g7 h
    cases h
    exact congrArg some (e_pair rfl rfl)
  · clear h
    intro h
    cases h
    exact congrArg some (e_pair kz_m1 rfl)
theorem rF_X12_adds {a1_ : Int32} {a1 : Int} (e_a1 : a1_ = zI a1) {g : uZ} {zr : uZ} (h : GF_X12_adds a1 g = some zr) : F_X12_adds a1_ (zS g) = some (zS zr) := by
  subst e_a1
  unfold GF_X12_adds at h
  unfold F_X12_adds
  refine wr_r (Nat.le_of_ble_eq_true rfl) rfl rfl h ?_
  clear h
  intro g1 h
  refine pf_r (e_add rfl kz_1) h ?_
  clear h
  intro g2 h
  cases h
  rfl
theorem rB_X12_samples_2 {a1_ : Int32} {a1 : Int} (e_a1 : a1_ = zI a1) {w5_ : Int32} {w5 : Int} (e_w5 : w5_ = zI w5) {g6 : uZ} {zr : ((Int × uZ) ⊕ uZ)} (h : GB_X12_samples_2 a1 w5 g6 = some zr) : B_X12_samples_2 a1_ w5_ (zS g6) = some (em_3 zr) := by
  subst e_a1 e_w5
  unfold GB_X12_samples_2 at h
  unfold B_X12_samples_2
  obtain ⟨hr1, h⟩ := ck_e h
  obtain ⟨hr2, h⟩ := ck_e h
  refine ite_r (c_le rfl rfl hr1 hr2) h ?_ ?_
  · clear h
    intro h
    cases h
    exact congrArg some (congrArg Sum.inr rfl)
  · clear h
    intro h
    refine rd_r (Nat.le_of_ble_eq_true rfl) rfl h ?_
    clear h
    intro v9 h
    refine cp_r (e := zS) (fun _ h => rF_X12_adds rfl h) h ?_
    clear h
    intro g10 h
    refine lt_r (e_add rfl kz_1) h ?_
    clear h
    intro v11 h
    cases h
    exact congrArg some (congrArg Sum.inl (e_pair rfl rfl))
theorem rC_X12_samples_3 {g7 : uZ} {zr : (Int × uZ)} (h : GC_X12_samples_3 g7 = some zr) : C_X12_samples_3 (zS g7) = some (em_2 zr) := by
  unfold GC_X12_samples_3 at h
  unfold C_X12_samples_3
  refine pf_r kz_0 h ?_
  clear h
  intro g12 h
  cases h
  exact congrArg some (e_pair rfl rfl)
theorem rJ_X12_samples_4 {g1 : uZ} {zr : (Int × uZ)} (h : GJ_X12_samples_4 g1 = some zr) : J_X12_samples_4 (zS g1) = some (em_2 zr) := by
  unfold GJ_X12_samples_4 at h
  unfold J_X12_samples_4
  cases h
  exact congrArg some (e_pair kz_m1000 rfl)
theorem rF_X12_samples {a1_ : Int32} {a1 : Int} (e_a1 : a1_ = zI a1) {g : uZ} {zr : (Int × uZ)} (h : GF_X12_samples a1 g = some zr) : F_X12_samples a1_ (zS g) = some (em_2 zr) := by
  subst e_a1
  unfold GF_X12_samples at h
  unfold F_X12_samples
  refine pf_r kz_0 h ?_
  clear h
  intro g1 h
  refine cp_r (e := zI) (fun _ h => rF_X12_isIn rfl kz_0 rfl h) h ?_
  clear h
  intro v2 h
  obtain ⟨hr1, h⟩ := ck_e h
  refine ite_r (c_eq rfl kz_0 hr1 ir_0) h ?_ ?_
  · clear h
    intro h
    exact rJ_X12_samples_4 h
  · clear h
    intro h
    obtain ⟨hr2, h⟩ := ck_e h
    refine ite_r (c_le (e_add rfl rfl) kz_800 hr2 ir_800) h ?_ ?_
    · clear h
      intro h
      refine lp_r em_2 zS (e_pair kz_0 rfl) (fun q r h => rB_X12_samples_2 rfl rfl h) h ?_
      clear h
      intro z h
      exact rC_X12_samples_3 h
    · clear h
      intro h
      exact rJ_X12_samples_4 h
theorem rB_X12_cycles_3 {a1_ : Int32} {a1 : Int} (e_a1 : a1_ = zI a1) {a2_ : Int32} {a2 : Int} (e_a2 : a2_ = zI a2) {w13_ : Int32} {w13 : Int} (e_w13 : w13_ = zI w13) {g14 : uZ} {zr : ((Int × uZ) ⊕ uZ)} (h : GB_X12_cycles_3 a1 a2 w13 g14 = some zr) : B_X12_cycles_3 a1_ a2_ w13_ (zS g14) = some (em_3 zr) := by
  subst e_a1 e_a2 e_w13
  unfold GB_X12_cycles_3 at h
  unfold B_X12_cycles_3
  obtain ⟨hr1, h⟩ := ck_e h
  obtain ⟨hr2, h⟩ := ck_e h
  refine ite_r (c_le rfl rfl hr1 hr2) h ?_ ?_
  · clear h
    intro h
    cases h
    exact congrArg some (congrArg Sum.inr rfl)
  · clear h
    intro h
    refine dv_r (e_mul (e_mul kz_2 rfl) rfl) rfl h ?_
    clear h
    intro v17 h
    refine cp_r (e := zS) (fun _ h => rF_X12_adds (e_sub rfl rfl) h) h ?_
    clear h
    intro g18 h
    refine lt_r (e_add rfl kz_1) h ?_
    clear h
    intro v19 h
    cases h
    exact congrArg some (congrArg Sum.inl (e_pair rfl rfl))
theorem rC_X12_cycles_4 {w9_ : Int32} {w9 : Int} (e_w9 : w9_ = zI w9) {g15 : uZ} {zr : ((Int × uZ) ⊕ uZ)} (h : GC_X12_cycles_4 w9 g15 = some zr) : C_X12_cycles_4 w9_ (zS g15) = some (em_3 zr) := by
  subst e_w9
  unfold GC_X12_cycles_4 at h
  unfold C_X12_cycles_4
  refine lt_r (e_add rfl kz_1) h ?_
  clear h
  intro v20 h
  cases h
  exact congrArg some (congrArg Sum.inl (e_pair rfl rfl))
theorem rB_X12_cycles_5 {a1_ : Int32} {a1 : Int} (e_a1 : a1_ = zI a1) {a2_ : Int32} {a2 : Int} (e_a2 : a2_ = zI a2) {a3_ : Int32} {a3 : Int} (e_a3 : a3_ = zI a3) {w9_ : Int32} {w9 : Int} (e_w9 : w9_ = zI w9) {g10 : uZ} {zr : ((Int × uZ) ⊕ uZ)} (h : GB_X12_cycles_5 a1 a2 a3 w9 g10 = some zr) : B_X12_cycles_5 a1_ a2_ a3_ w9_ (zS g10) = some (em_3 zr) := by
  subst e_a1 e_a2 e_a3 e_w9
  unfold GB_X12_cycles_5 at h
  unfold B_X12_cycles_5
  obtain ⟨hr1, h⟩ := ck_e h
  obtain ⟨hr2, h⟩ := ck_e h
  refine ite_r (c_le rfl rfl hr1 hr2) h ?_ ?_
  · clear h
    intro h
    cases h
    exact congrArg some (congrArg Sum.inr rfl)
  · clear h
    intro h
    refine lp_r em_2 zS (e_pair kz_0 rfl) (fun q r h => rB_X12_cycles_3 rfl rfl rfl h) h ?_
    clear h
    intro z h
    exact rC_X12_cycles_4 rfl h
theorem rC_X12_cycles_6 {g11 : uZ} {zr : (Int × uZ)} (h : GC_X12_cycles_6 g11 = some zr) : C_X12_cycles_6 (zS g11) = some (em_2 zr) := by
  unfold GC_X12_cycles_6 at h
  unfold C_X12_cycles_6
  cases h
  exact congrArg some (e_pair rfl rfl)
theorem rJ_X12_cycles_7 {g1 : uZ} {zr : (Int × uZ)} (h : GJ_X12_cycles_7 g1 = some zr) : J_X12_cycles_7 (zS g1) = some (em_2 zr) := by
  unfold GJ_X12_cycles_7 at h
  unfold J_X12_cycles_7
  cases h
  exact congrArg some (e_pair kz_m1000 rfl)
theorem rF_X12_cycles {a1_ : Int32} {a1 : Int} (e_a1 : a1_ = zI a1) {a2_ : Int32} {a2 : Int} (e_a2 : a2_ = zI a2) {a3_ : Int32} {a3 : Int} (e_a3 : a3_ = zI a3) {g : uZ} {zr : (Int × uZ)} (h : GF_X12_cycles a1 a2 a3 g = some zr) : F_X12_cycles a1_ a2_ a3_ (zS g) = some (em_2 zr) := by
  subst e_a1 e_a2 e_a3
  unfold GF_X12_cycles at h
  unfold F_X12_cycles
  refine pf_r kz_0 h ?_
  clear h
  intro g1 h
  refine cp_r (e := zI) (fun _ h => rF_X12_isIn rfl kz_2 kz_48 h) h ?_
  clear h
  intro v2 h
  obtain ⟨hr1, h⟩ := ck_e h
  refine ite_r (c_eq rfl kz_0 hr1 ir_0) h ?_ ?_
  · clear h
    intro h
    exact rJ_X12_cycles_7 h
  · clear h
    intro h
    refine cp_r (e := zI) (fun _ h => rF_X12_isIn rfl kz_0 kz_127 h) h ?_
    clear h
    intro v4 h
    obtain ⟨hr2, h⟩ := ck_e h
    refine ite_r (c_eq rfl kz_0 hr2 ir_0) h ?_ ?_
    · clear h
      intro h
      exact rJ_X12_cycles_7 h
    · clear h
      intro h
      refine cp_r (e := zI) (fun _ h => rF_X12_isIn rfl kz_1 kz_50 h) h ?_
      clear h
      intro v6 h
      obtain ⟨hr3, h⟩ := ck_e h
      refine ite_r (c_eq rfl kz_0 hr3 ir_0) h ?_ ?_
      · clear h
        intro h
        exact rJ_X12_cycles_7 h
      · clear h
        intro h
        obtain ⟨hr4, h⟩ := ck_e h
        refine ite_r (c_le (e_add rfl (e_mul rfl rfl)) kz_800 hr4 ir_800) h ?_ ?_
        · clear h
          intro h
          refine lp_r em_2 zS (e_pair kz_0 rfl) (fun q r h => rB_X12_cycles_5 rfl rfl rfl rfl h) h ?_
          clear h
          intro z h
          exact rC_X12_cycles_6 h
        · clear h
          intro h
          exact rJ_X12_cycles_7 h
theorem rF_X12_draw {a1_ : Int32} {a1 : Int} (e_a1 : a1_ = zI a1) {g : uZ} {zr : (Int × uZ)} (h : GF_X12_draw a1 g = some zr) : F_X12_draw a1_ (zS g) = some (em_2 zr) := by
  subst e_a1
  unfold GF_X12_draw at h
  unfold F_X12_draw
  refine pf_r (e_add (e_mul rfl kz_1103515245) kz_12345) h ?_
  clear h
  intro g1 h
  refine rmd_r (zI_toInt _).symm rfl h ?_
  clear h
  intro v2 h
  cases h
  exact congrArg some (e_pair rfl rfl)
theorem rB_X12_noise_2 {a2_ : Int32} {a2 : Int} (e_a2 : a2_ = zI a2) {a3_ : Int32} {a3 : Int} (e_a3 : a3_ = zI a3) {w8_ : Int32} {w8 : Int} (e_w8 : w8_ = zI w8) {g9 : uZ} {zr : ((Int × uZ) ⊕ uZ)} (h : GB_X12_noise_2 a2 a3 w8 g9 = some zr) : B_X12_noise_2 a2_ a3_ w8_ (zS g9) = some (em_3 zr) := by
  subst e_a2 e_a3 e_w8
  unfold GB_X12_noise_2 at h
  unfold B_X12_noise_2
  obtain ⟨hr1, h⟩ := ck_e h
  obtain ⟨hr2, h⟩ := ck_e h
  refine ite_r (c_le rfl rfl hr1 hr2) h ?_ ?_
  · clear h
    intro h
    cases h
    exact congrArg some (congrArg Sum.inr rfl)
  · clear h
    intro h
    refine cl_r (fun _ _ h => rF_X12_draw (e_add (e_mul kz_2 rfl) kz_1) h) h ?_
    clear h
    intro v13 g12 h
    refine cp_r (e := zS) (fun _ h => rF_X12_adds (e_sub rfl rfl) h) h ?_
    clear h
    intro g14 h
    refine lt_r (e_add rfl kz_1) h ?_
    clear h
    intro v15 h
    cases h
    exact congrArg some (congrArg Sum.inl (e_pair rfl rfl))
theorem rC_X12_noise_3 {g10 : uZ} {zr : (Int × uZ)} (h : GC_X12_noise_3 g10 = some zr) : C_X12_noise_3 (zS g10) = some (em_2 zr) := by
  unfold GC_X12_noise_3 at h
  unfold C_X12_noise_3
  cases h
  exact congrArg some (e_pair rfl rfl)
theorem rJ_X12_noise_4 {g1 : uZ} {zr : (Int × uZ)} (h : GJ_X12_noise_4 g1 = some zr) : J_X12_noise_4 (zS g1) = some (em_2 zr) := by
  unfold GJ_X12_noise_4 at h
  unfold J_X12_noise_4
  cases h
  exact congrArg some (e_pair kz_m1000 rfl)
theorem rF_X12_noise {a1_ : Int32} {a1 : Int} (e_a1 : a1_ = zI a1) {a2_ : Int32} {a2 : Int} (e_a2 : a2_ = zI a2) {a3_ : Int32} {a3 : Int} (e_a3 : a3_ = zI a3) {g : uZ} {zr : (Int × uZ)} (h : GF_X12_noise a1 a2 a3 g = some zr) : F_X12_noise a1_ a2_ a3_ (zS g) = some (em_2 zr) := by
  subst e_a1 e_a2 e_a3
  unfold GF_X12_noise at h
  unfold F_X12_noise
  refine pf_r kz_0 h ?_
  clear h
  intro g1 h
  refine cp_r (e := zI) (fun _ h => rF_X12_isIn rfl kz_1 kz_400 h) h ?_
  clear h
  intro v2 h
  obtain ⟨hr1, h⟩ := ck_e h
  refine ite_r (c_eq rfl kz_0 hr1 ir_0) h ?_ ?_
  · clear h
    intro h
    exact rJ_X12_noise_4 h
  · clear h
    intro h
    refine cp_r (e := zI) (fun _ h => rF_X12_isIn rfl kz_0 kz_127 h) h ?_
    clear h
    intro v4 h
    obtain ⟨hr2, h⟩ := ck_e h
    refine ite_r (c_eq rfl kz_0 hr2 ir_0) h ?_ ?_
    · clear h
      intro h
      exact rJ_X12_noise_4 h
    · clear h
      intro h
      obtain ⟨hr3, h⟩ := ck_e h
      refine ite_r (c_le (e_add rfl rfl) kz_800 hr3 ir_800) h ?_ ?_
      · clear h
        intro h
        refine pf_r rfl h ?_
        clear h
        intro g7 h
        refine lp_r em_2 zS (e_pair kz_0 rfl) (fun q r h => rB_X12_noise_2 rfl rfl rfl h) h ?_
        clear h
        intro z h
        exact rC_X12_noise_3 h
      · clear h
        intro h
        exact rJ_X12_noise_4 h
theorem rJ_X12_poke_1 {g1 : uZ} {zr : (Int × uZ)} (h : GJ_X12_poke_1 g1 = some zr) : J_X12_poke_1 (zS g1) = some (em_2 zr) := by
  unfold GJ_X12_poke_1 at h
  unfold J_X12_poke_1
  cases h
  exact congrArg some (e_pair kz_m1000 rfl)
theorem rF_X12_poke {a1_ : Int32} {a1 : Int} (e_a1 : a1_ = zI a1) {a2_ : Int32} {a2 : Int} (e_a2 : a2_ = zI a2) {g : uZ} {zr : (Int × uZ)} (h : GF_X12_poke a1 a2 g = some zr) : F_X12_poke a1_ a2_ (zS g) = some (em_2 zr) := by
  subst e_a1 e_a2
  unfold GF_X12_poke at h
  unfold F_X12_poke
  refine pf_r kz_0 h ?_
  clear h
  intro g1 h
  refine cp_r (e := zI) (fun _ h => rF_X12_isIn rfl kz_0 (e_sub rfl kz_1) h) h ?_
  clear h
  intro v2 h
  obtain ⟨hr1, h⟩ := ck_e h
  refine ite_r (c_eq rfl kz_0 hr1 ir_0) h ?_ ?_
  · clear h
    intro h
    exact rJ_X12_poke_1 h
  · clear h
    intro h
    refine cp_r (e := zI) (fun _ h => rF_X12_isIn rfl kz_m128 kz_127 h) h ?_
    clear h
    intro v4 h
    obtain ⟨hr2, h⟩ := ck_e h
    refine ite_r (c_eq rfl kz_0 hr2 ir_0) h ?_ ?_
    · clear h
      intro h
      exact rJ_X12_poke_1 h
    · clear h
      intro h
      refine rd_r (Nat.le_of_ble_eq_true rfl) rfl h ?_
      clear h
      intro v6 h
      refine wr_r (Nat.le_of_ble_eq_true rfl) rfl rfl h ?_
      clear h
      intro g7 h
      cases h
      exact congrArg some (e_pair rfl rfl)
theorem rF_X12_cut {a1_ : Int32} {a1 : Int} (e_a1 : a1_ = zI a1) {g : uZ} {zr : (Int × uZ)} (h : GF_X12_cut a1 g = some zr) : F_X12_cut a1_ (zS g) = some (em_2 zr) := by
  subst e_a1
  unfold GF_X12_cut at h
  unfold F_X12_cut
  refine pf_r kz_0 h ?_
  clear h
  intro g1 h
  refine cp_r (e := zI) (fun _ h => rF_X12_isIn rfl kz_0 rfl h) h ?_
  clear h
  intro v2 h
  obtain ⟨hr1, h⟩ := ck_e h
  refine ite_r (c_eq rfl kz_0 hr1 ir_0) h ?_ ?_
  · clear h
    intro h
    cases h
    exact congrArg some (e_pair kz_m1000 rfl)
  · clear h
    intro h
    refine pf_r (e_sub rfl rfl) h ?_
    clear h
    intro g4 h
    cases h
    exact congrArg some (e_pair rfl rfl)
theorem rJ_X12_sample_1 {g3 : uZ} {v7_ : Int32} {v7 : Int} (e_v7 : v7_ = zI v7) {zr : (Int × uZ)} (h : GJ_X12_sample_1 g3 v7 = some zr) : J_X12_sample_1 (zS g3) v7_ = some (em_2 zr) := by
  subst e_v7
  unfold GJ_X12_sample_1 at h
  unfold J_X12_sample_1
  cases h
  exact congrArg some (e_pair rfl rfl)
theorem rF_X12_sample {a1_ : Int32} {a1 : Int} (e_a1 : a1_ = zI a1) {g : uZ} {zr : (Int × uZ)} (h : GF_X12_sample a1 g = some zr) : F_X12_sample a1_ (zS g) = some (em_2 zr) := by
  subst e_a1
  unfold GF_X12_sample at h
  unfold F_X12_sample
  refine pf_r kz_0 h ?_
  clear h
  intro g1 h
  refine cp_r (e := zI) (fun _ h => rF_X12_isIn rfl kz_0 (e_sub rfl kz_1) h) h ?_
  clear h
  intro v2 h
  refine cl_r (fun _ _ h => rF_X12_right rfl kz_1 h) h ?_
  clear h
  intro v4 g3 h
  obtain ⟨hr1, h⟩ := ck_e h
  refine ite_r (c_eq rfl kz_0 hr1 ir_0) h ?_ ?_
  · clear h
    intro h
    exact rJ_X12_sample_1 kz_0 h
  · clear h
    intro h
    refine rd_r (Nat.le_of_ble_eq_true rfl) rfl h ?_
    clear h
    intro v6 h
    exact rJ_X12_sample_1 rfl h
theorem rJ_X12_at_1 {v4_ : Int32} {v4 : Int} (e_v4 : v4_ = zI v4) {zr : Int} (h : GJ_X12_at_1 v4 = some zr) : J_X12_at_1 v4_ = some (zI zr) := by
  subst e_v4
  unfold GJ_X12_at_1 at h
  unfold J_X12_at_1
  cases h
  rfl
theorem rF_X12_at {a1_ : Int32} {a1 : Int} (e_a1 : a1_ = zI a1) {g : uZ} {zr : Int} (h : GF_X12_at a1 g = some zr) : F_X12_at a1_ (zS g) = some (zI zr) := by
  subst e_a1
  unfold GF_X12_at at h
  unfold F_X12_at
  refine cp_r (e := zI) (fun _ h => rF_X12_isIn rfl kz_0 (e_sub rfl kz_1) h) h ?_
  clear h
  intro v1 h
  obtain ⟨hr1, h⟩ := ck_e h
  refine ite_r (c_eq rfl kz_0 hr1 ir_0) h ?_ ?_
  · clear h
    intro h
    exact rJ_X12_at_1 kz_0 h
  · clear h
    intro h
    refine rd_r (Nat.le_of_ble_eq_true rfl) rfl h ?_
    clear h
    intro v3 h
    exact rJ_X12_at_1 rfl h
theorem rJ_X12_canBe_2 {v11_ : Int32} {v11 : Int} (e_v11 : v11_ = zI v11) {zr : Int} (h : GJ_X12_canBe_2 v11 = some zr) : J_X12_canBe_2 v11_ = some (zI zr) := by
  subst e_v11
  unfold GJ_X12_canBe_2 at h
  unfold J_X12_canBe_2
  refine bz_r rfl h ?_
  clear h
  intro h
  cases h
  rfl
theorem rJ_X12_canBe_1 {zr : Int} (h : GJ_X12_canBe_1 = some zr) : J_X12_canBe_1 = some (zI zr) := by
  unfold GJ_X12_canBe_1 at h
  unfold J_X12_canBe_1
  exact rJ_X12_canBe_2 kz_1 h
theorem rJ_X12_canBe_3 {zr : Int} (h : GJ_X12_canBe_3 = some zr) : J_X12_canBe_3 = some (zI zr) := by
  unfold GJ_X12_canBe_3 at h
  unfold J_X12_canBe_3
  cases h
  exact congrArg some kz_0
theorem rF_X12_canBe {a1_ : Int32} {a1 : Int} (e_a1 : a1_ = zI a1) {a2_ : Int32} {a2 : Int} (e_a2 : a2_ = zI a2) {g : uZ} {zr : Int} (h : GF_X12_canBe a1 a2 g = some zr) : F_X12_canBe a1_ a2_ (zS g) = some (zI zr) := by
  subst e_a1 e_a2
  unfold GF_X12_canBe at h
  unfold F_X12_canBe
  refine cp_r (e := zI) (fun _ h => rF_X12_isIn rfl kz_2 kz_15 h) h ?_
  clear h
  intro v1 h
  obtain ⟨hr1, h⟩ := ck_e h
  refine ite_r (c_eq rfl kz_0 hr1 ir_0) h ?_ ?_
  · clear h
    intro h
    exact rJ_X12_canBe_3 h
  · clear h
    intro h
    refine rd_r (Nat.le_of_ble_eq_true rfl) rfl h ?_
    clear h
    intro v3 h
    refine rd_r (Nat.le_of_ble_eq_true rfl) rfl h ?_
    clear h
    intro v4 h
    refine cp_r (e := zI) (fun _ h => rF_X12_isIn rfl rfl rfl h) h ?_
    clear h
    intro v5 h
    obtain ⟨hr2, h⟩ := ck_e h
    refine ite_r (c_eq rfl kz_0 hr2 ir_0) h ?_ ?_
    · clear h
      intro h
      exact rJ_X12_canBe_3 h
    · clear h
      intro h
      obtain ⟨hr3, h⟩ := ck_e h
      refine ite_r (c_eq rfl kz_4 hr3 ir_4) h ?_ ?_
      · clear h
        intro h
        refine rd_r (Nat.le_of_ble_eq_true rfl) kz_5 h ?_
        clear h
        intro v12 h
        obtain ⟨hr4, h⟩ := ck_e h
        obtain ⟨hr5, h⟩ := ck_e h
        refine lt_r (e_ite (c_le rfl rfl hr4 hr5) kz_0 kz_1) h ?_
        clear h
        intro v14 h
        refine bz_r rfl h ?_
        clear h
        intro h
        cases h
        rfl
      · clear h
        intro h
        refine ite_r (c_eq rfl kz_5 hr3 ir_5) h ?_ ?_
        · clear h
          intro h
          refine rd_r (Nat.le_of_ble_eq_true rfl) kz_4 h ?_
          clear h
          intro v9 h
          obtain ⟨hr6, h⟩ := ck_e h
          obtain ⟨hr7, h⟩ := ck_e h
          refine ite_r (c_le rfl rfl hr6 hr7) h ?_ ?_
          · clear h
            intro h
            exact rJ_X12_canBe_2 kz_0 h
          · clear h
            intro h
            exact rJ_X12_canBe_1 h
        · clear h
          intro h
          exact rJ_X12_canBe_1 h
theorem rF_X12_bound {a1_ : Int32} {a1 : Int} (e_a1 : a1_ = zI a1) {a2_ : Int32} {a2 : Int} (e_a2 : a2_ = zI a2) {g : uZ} {zr : (Int × uZ)} (h : GF_X12_bound a1 a2 g = some zr) : F_X12_bound a1_ a2_ (zS g) = some (em_2 zr) := by
  subst e_a1 e_a2
  unfold GF_X12_bound at h
  unfold F_X12_bound
  refine pf_r kz_0 h ?_
  clear h
  intro g1 h
  refine cp_r (e := zI) (fun _ h => rF_X12_canBe rfl rfl h) h ?_
  clear h
  intro v2 h
  obtain ⟨hr1, h⟩ := ck_e h
  refine ite_r (c_eq rfl kz_0 hr1 ir_0) h ?_ ?_
  · clear h
    intro h
    cases h
    exact congrArg some (e_pair kz_m1000 rfl)
  · clear h
    intro h
    refine rd_r (Nat.le_of_ble_eq_true rfl) rfl h ?_
    clear h
    intro v4 h
    refine wr_r (Nat.le_of_ble_eq_true rfl) rfl rfl h ?_
    clear h
    intro g5 h
    cases h
    exact congrArg some (e_pair rfl rfl)
theorem rJ_X12_frames_1 {v7_ : Int32} {v7 : Int} (e_v7 : v7_ = zI v7) {zr : Int} (h : GJ_X12_frames_1 v7 = some zr) : J_X12_frames_1 v7_ = some (zI zr) := by
  subst e_v7
  unfold GJ_X12_frames_1 at h
  unfold J_X12_frames_1
  cases h
  rfl
theorem rF_X12_frames {g : uZ} {zr : Int} (h : GF_X12_frames g = some zr) : F_X12_frames (zS g) = some (zI zr) := by
  unfold GF_X12_frames at h
  unfold F_X12_frames
  refine rd_r (Nat.le_of_ble_eq_true rfl) kz_3 h ?_
  clear h
  intro v1 h
  refine rd_r (Nat.le_of_ble_eq_true rfl) kz_5 h ?_
  clear h
  intro v2 h
  refine lt_r (e_sub (e_sub (e_sub rfl rfl) rfl) kz_1) h ?_
  clear h
  intro v3 h
  obtain ⟨hr1, h⟩ := ck_e h
  refine ite_r (c_le kz_0 rfl ir_0 hr1) h ?_ ?_
  · clear h
    intro h
    refine rd_r (Nat.le_of_ble_eq_true rfl) kz_2 h ?_
    clear h
    intro v5 h
    refine dv_r rfl rfl h ?_
    clear h
    intro v6 h
    exact rJ_X12_frames_1 (e_add rfl kz_1) h
  · clear h
    intro h
    exact rJ_X12_frames_1 kz_0 h
theorem rF_X12_count {a1_ : Int32} {a1 : Int} (e_a1 : a1_ = zI a1) {g : uZ} {zr : (Int × uZ)} (h : GF_X12_count a1 g = some zr) : F_X12_count a1_ (zS g) = some (em_2 zr) := by
  subst e_a1
  unfold GF_X12_count at h
  unfold F_X12_count
  refine pf_r kz_0 h ?_
  clear h
  intro g1 h
  refine cp_r (e := zI) (fun _ h => rF_X12_isIn rfl kz_0 kz_17 h) h ?_
  clear h
  intro v2 h
  refine cl_r (fun _ _ h => rF_X12_right rfl kz_1 h) h ?_
  clear h
  intro v4 g3 h
  obtain ⟨hr1, h⟩ := ck_e h
  refine ite_r (c_eq rfl kz_0 hr1 ir_0) h ?_ ?_
  · clear h
    intro h
    cases h
    exact congrArg some (e_pair kz_0 rfl)
  · clear h
    intro h
    obtain ⟨hr2, h⟩ := ck_e h
    refine ite_r (c_eq rfl kz_0 hr2 ir_0) h ?_ ?_
    · clear h
      intro h
      cases h
      exact congrArg some (e_pair rfl rfl)
    · clear h
      intro h
      refine ite_r (c_eq rfl kz_1 hr2 ir_1) h ?_ ?_
      · clear h
        intro h
        refine cp_r (e := zI) (fun _ h => rF_X12_frames h) h ?_
        clear h
        intro v8 h
        cases h
        exact congrArg some (e_pair rfl rfl)
      · clear h
        intro h
        refine ite_r (c_eq rfl kz_16 hr2 ir_16) h ?_ ?_
        · clear h
          intro h
          cases h
          exact congrArg some (e_pair rfl rfl)
        · clear h
          intro h
          refine ite_r (c_eq rfl kz_17 hr2 ir_17) h ?_ ?_
          · clear h
            intro h
            cases h
            exact congrArg some (e_pair rfl rfl)
          · clear h
            intro h
            refine rd_r (Nat.le_of_ble_eq_true rfl) rfl h ?_
            clear h
            intro v11 h
            cases h
            exact congrArg some (e_pair rfl rfl)
theorem rB_X12_laysDiffs_3 {v2_ : Int32} {v2 : Int} (e_v2 : v2_ = zI v2) {w4_ : Int32} {w4 : Int} (e_w4 : w4_ = zI w4) {g5 : uZ} {w9_ : Int32} {w9 : Int} (e_w9 : w9_ = zI w9) {w10_ : Int32} {w10 : Int} (e_w10 : w10_ = zI w10) {zr : ((Int × Int) ⊕ Int)} (h : GB_X12_laysDiffs_3 v2 w4 g5 w9 w10 = some zr) : B_X12_laysDiffs_3 v2_ w4_ (zS g5) w9_ w10_ = some (em_1 zr) := by
  subst e_v2 e_w4 e_w9 e_w10
  unfold GB_X12_laysDiffs_3 at h
  unfold B_X12_laysDiffs_3
  refine rd_r (Nat.le_of_ble_eq_true rfl) kz_3 h ?_
  clear h
  intro v12 h
  obtain ⟨hr1, h⟩ := ck_e h
  obtain ⟨hr2, h⟩ := ck_e h
  refine ite_r (c_le rfl rfl hr1 hr2) h ?_ ?_
  · clear h
    intro h
    cases h
    exact congrArg some (congrArg Sum.inr rfl)
  · clear h
    intro h
    refine rd_r (Nat.le_of_ble_eq_true rfl) (e_add rfl rfl) h ?_
    clear h
    intro v14 h
    refine rd_r (Nat.le_of_ble_eq_true rfl) (e_add (e_add rfl rfl) rfl) h ?_
    clear h
    intro v15 h
    refine cp_r (e := zI) (fun _ h => rF_X12_apart rfl rfl h) h ?_
    clear h
    intro v16 h
    refine lt_r (e_add rfl rfl) h ?_
    clear h
    intro v17 h
    refine lt_r (e_add rfl kz_1) h ?_
    clear h
    intro v18 h
    cases h
    exact congrArg some (congrArg Sum.inl (e_pair rfl rfl))
theorem rJ_X12_laysDiffs_5 {v22_ : Int32} {v22 : Int} (e_v22 : v22_ = zI v22) {w4_ : Int32} {w4 : Int} (e_w4 : w4_ = zI w4) {g19 : uZ} {v26_ : Int32} {v26 : Int} (e_v26 : v26_ = zI v26) {zr : ((Int × (Int × uZ)) ⊕ uZ)} (h : GJ_X12_laysDiffs_5 v22 w4 g19 v26 = some zr) : J_X12_laysDiffs_5 v22_ w4_ (zS g19) v26_ = some (em_5 zr) := by
  subst e_v22 e_w4 e_v26
  unfold GJ_X12_laysDiffs_5 at h
  unfold J_X12_laysDiffs_5
  refine wr_r (Nat.le_of_ble_eq_true rfl) rfl rfl h ?_
  clear h
  intro g27 h
  refine lt_r (e_add rfl kz_1) h ?_
  clear h
  intro v28 h
  cases h
  exact congrArg some (congrArg Sum.inl (e_pair rfl (e_pair rfl rfl)))
theorem rJ_X12_laysDiffs_4 {v22_ : Int32} {v22 : Int} (e_v22 : v22_ = zI v22) {w4_ : Int32} {w4 : Int} (e_w4 : w4_ = zI w4) {g19 : uZ} {zr : ((Int × (Int × uZ)) ⊕ uZ)} (h : GJ_X12_laysDiffs_4 v22 w4 g19 = some zr) : J_X12_laysDiffs_4 v22_ w4_ (zS g19) = some (em_5 zr) := by
  subst e_v22 e_w4
  unfold GJ_X12_laysDiffs_4 at h
  unfold J_X12_laysDiffs_4
  exact rJ_X12_laysDiffs_5 rfl rfl kz_1000 h
theorem rC_X12_laysDiffs_6 {w3_ : Int32} {w3 : Int} (e_w3 : w3_ = zI w3) {w4_ : Int32} {w4 : Int} (e_w4 : w4_ = zI w4) {g5 : uZ} {v11_ : Int32} {v11 : Int} (e_v11 : v11_ = zI v11) {zr : ((Int × (Int × uZ)) ⊕ uZ)} (h : GC_X12_laysDiffs_6 w3 w4 g5 v11 = some zr) : C_X12_laysDiffs_6 w3_ w4_ (zS g5) v11_ = some (em_5 zr) := by
  subst e_w3 e_w4 e_v11
  unfold GC_X12_laysDiffs_6 at h
  unfold C_X12_laysDiffs_6
  refine wr_r (Nat.le_of_ble_eq_true rfl) rfl rfl h ?_
  clear h
  intro g19 h
  obtain ⟨hr1, h⟩ := ck_e h
  refine lt_r (e_ite (c_eq rfl kz_0 hr1 ir_0) kz_0 rfl) h ?_
  clear h
  intro v21 h
  refine lt_r (e_add rfl rfl) h ?_
  clear h
  intro v22 h
  refine ite_r (c_eq rfl kz_0 hr1 ir_0) h ?_ ?_
  · clear h
    intro h
    exact rJ_X12_laysDiffs_4 rfl rfl h
  · clear h
    intro h
    obtain ⟨hr2, h⟩ := ck_e h
    refine ite_r (c_eq rfl kz_0 hr2 ir_0) h ?_ ?_
    · clear h
      intro h
      exact rJ_X12_laysDiffs_4 rfl rfl h
    · clear h
      intro h
      refine dv_r (e_mul (e_mul kz_1000 rfl) rfl) rfl h ?_
      clear h
      intro v25 h
      exact rJ_X12_laysDiffs_5 rfl rfl rfl h
theorem rB_X12_laysDiffs_7 {v2_ : Int32} {v2 : Int} (e_v2 : v2_ = zI v2) {w3_ : Int32} {w3 : Int} (e_w3 : w3_ = zI w3) {w4_ : Int32} {w4 : Int} (e_w4 : w4_ = zI w4) {g5 : uZ} {zr : ((Int × (Int × uZ)) ⊕ uZ)} (h : GB_X12_laysDiffs_7 v2 w3 w4 g5 = some zr) : B_X12_laysDiffs_7 v2_ w3_ w4_ (zS g5) = some (em_5 zr) := by
  subst e_v2 e_w3 e_w4
  unfold GB_X12_laysDiffs_7 at h
  unfold B_X12_laysDiffs_7
  refine rd_r (Nat.le_of_ble_eq_true rfl) kz_5 h ?_
  clear h
  intro v7 h
  obtain ⟨hr1, h⟩ := ck_e h
  obtain ⟨hr2, h⟩ := ck_e h
  refine ite_r (c_lt (e_add rfl kz_1) rfl hr1 hr2) h ?_ ?_
  · clear h
    intro h
    cases h
    exact congrArg some (congrArg Sum.inr rfl)
  · clear h
    intro h
    refine lp_r em_0 zI (e_pair kz_0 kz_0) (fun q r h => rB_X12_laysDiffs_3 rfl rfl rfl rfl h) h ?_
    clear h
    intro z h
    exact rC_X12_laysDiffs_6 rfl rfl rfl h
theorem rC_X12_laysDiffs_8 {g6 : uZ} {zr : uZ} (h : GC_X12_laysDiffs_8 g6 = some zr) : C_X12_laysDiffs_8 (zS g6) = some (zS zr) := by
  unfold GC_X12_laysDiffs_8 at h
  unfold C_X12_laysDiffs_8
  cases h
  rfl
theorem rF_X12_laysDiffs {a1_ : Int32} {a1 : Int} (e_a1 : a1_ = zI a1) {g : uZ} {zr : uZ} (h : GF_X12_laysDiffs a1 g = some zr) : F_X12_laysDiffs a1_ (zS g) = some (zS zr) := by
  subst e_a1
  unfold GF_X12_laysDiffs at h
  unfold F_X12_laysDiffs
  refine rd_r (Nat.le_of_ble_eq_true rfl) kz_2 h ?_
  clear h
  intro v1 h
  refine lt_r (e_mul rfl rfl) h ?_
  clear h
  intro v2 h
  refine lp_r em_4 zS (e_pair kz_0 (e_pair kz_0 rfl)) (fun q r h => rB_X12_laysDiffs_7 rfl rfl rfl h) h ?_
  clear h
  intro z h
  exact rC_X12_laysDiffs_8 h
theorem rB_X12_loudOf_2 {a1_ : Int32} {a1 : Int} (e_a1 : a1_ = zI a1) {g : uZ} {w1_ : Int32} {w1 : Int} (e_w1 : w1_ = zI w1) {w2_ : Int32} {w2 : Int} (e_w2 : w2_ = zI w2) {zr : ((Int × Int) ⊕ Int)} (h : GB_X12_loudOf_2 a1 g w1 w2 = some zr) : B_X12_loudOf_2 a1_ (zS g) w1_ w2_ = some (em_1 zr) := by
  subst e_a1 e_w1 e_w2
  unfold GB_X12_loudOf_2 at h
  unfold B_X12_loudOf_2
  refine rd_r (Nat.le_of_ble_eq_true rfl) kz_3 h ?_
  clear h
  intro v4 h
  obtain ⟨hr1, h⟩ := ck_e h
  obtain ⟨hr2, h⟩ := ck_e h
  refine ite_r (c_le rfl rfl hr1 hr2) h ?_ ?_
  · clear h
    intro h
    cases h
    exact congrArg some (congrArg Sum.inr rfl)
  · clear h
    intro h
    refine rd_r (Nat.le_of_ble_eq_true rfl) kz_2 h ?_
    clear h
    intro v6 h
    refine rd_r (Nat.le_of_ble_eq_true rfl) (e_add (e_mul rfl rfl) rfl) h ?_
    clear h
    intro v7 h
    refine cp_r (e := zI) (fun _ h => rF_X12_apart rfl kz_0 h) h ?_
    clear h
    intro v8 h
    refine lt_r (e_add rfl rfl) h ?_
    clear h
    intro v9 h
    refine lt_r (e_add rfl kz_1) h ?_
    clear h
    intro v10 h
    cases h
    exact congrArg some (congrArg Sum.inl (e_pair rfl rfl))
theorem rC_X12_loudOf_3 {v3_ : Int32} {v3 : Int} (e_v3 : v3_ = zI v3) {zr : Int} (h : GC_X12_loudOf_3 v3 = some zr) : C_X12_loudOf_3 v3_ = some (zI zr) := by
  subst e_v3
  unfold GC_X12_loudOf_3 at h
  unfold C_X12_loudOf_3
  cases h
  rfl
theorem rF_X12_loudOf {a1_ : Int32} {a1 : Int} (e_a1 : a1_ = zI a1) {g : uZ} {zr : Int} (h : GF_X12_loudOf a1 g = some zr) : F_X12_loudOf a1_ (zS g) = some (zI zr) := by
  subst e_a1
  unfold GF_X12_loudOf at h
  unfold F_X12_loudOf
  refine lp_r em_0 zI (e_pair kz_0 kz_0) (fun q r h => rB_X12_loudOf_2 rfl rfl rfl h) h ?_
  clear h
  intro z h
  exact rC_X12_loudOf_3 rfl h
theorem rF_X12_isFrame {a1_ : Int32} {a1 : Int} (e_a1 : a1_ = zI a1) {g : uZ} {zr : (Int × uZ)} (h : GF_X12_isFrame a1 g = some zr) : F_X12_isFrame a1_ (zS g) = some (em_2 zr) := by
  subst e_a1
  unfold GF_X12_isFrame at h
  unfold F_X12_isFrame
  refine cp_r (e := zI) (fun _ h => rF_X12_frames h) h ?_
  clear h
  intro v1 h
  refine cp_r (e := zI) (fun _ h => rF_X12_isIn rfl kz_0 (e_sub rfl kz_1) h) h ?_
  clear h
  intro v2 h
  refine cl_r (fun _ _ h => rF_X12_right rfl kz_1 h) h ?_
  clear h
  intro v4 g3 h
  refine bz_r rfl h ?_
  clear h
  intro h
  cases h
  exact congrArg some (e_pair rfl rfl)
theorem rF_X12_isLag {a1_ : Int32} {a1 : Int} (e_a1 : a1_ = zI a1) {g : uZ} {zr : (Int × uZ)} (h : GF_X12_isLag a1 g = some zr) : F_X12_isLag a1_ (zS g) = some (em_2 zr) := by
  subst e_a1
  unfold GF_X12_isLag at h
  unfold F_X12_isLag
  refine rd_r (Nat.le_of_ble_eq_true rfl) kz_5 h ?_
  clear h
  intro v1 h
  refine cp_r (e := zI) (fun _ h => rF_X12_isIn rfl kz_0 (e_add rfl kz_1) h) h ?_
  clear h
  intro v2 h
  refine cl_r (fun _ _ h => rF_X12_right rfl kz_1 h) h ?_
  clear h
  intro v4 g3 h
  refine bz_r rfl h ?_
  clear h
  intro h
  cases h
  exact congrArg some (e_pair rfl rfl)
theorem rJ_X12_diff_1 {g10 : uZ} {zr : (Int × uZ)} (h : GJ_X12_diff_1 g10 = some zr) : J_X12_diff_1 (zS g10) = some (em_2 zr) := by
  unfold GJ_X12_diff_1 at h
  unfold J_X12_diff_1
  cases h
  exact congrArg some (e_pair kz_0 rfl)
theorem rF_X12_diff {a1_ : Int32} {a1 : Int} (e_a1 : a1_ = zI a1) {a2_ : Int32} {a2 : Int} (e_a2 : a2_ = zI a2) {g : uZ} {zr : (Int × uZ)} (h : GF_X12_diff a1 a2 g = some zr) : F_X12_diff a1_ a2_ (zS g) = some (em_2 zr) := by
  subst e_a1 e_a2
  unfold GF_X12_diff at h
  unfold F_X12_diff
  refine pf_r kz_0 h ?_
  clear h
  intro g1 h
  refine cl_r (fun _ _ h => rF_X12_isFrame rfl h) h ?_
  clear h
  intro v3 g2 h
  obtain ⟨hr1, h⟩ := ck_e h
  refine ite_r (c_eq rfl kz_0 hr1 ir_0) h ?_ ?_
  · clear h
    intro h
    exact rJ_X12_diff_1 h
  · clear h
    intro h
    refine cl_r (fun _ _ h => rF_X12_isLag rfl h) h ?_
    clear h
    intro v6 g5 h
    obtain ⟨hr2, h⟩ := ck_e h
    refine ite_r (c_eq rfl kz_0 hr2 ir_0) h ?_ ?_
    · clear h
      intro h
      exact rJ_X12_diff_1 h
    · clear h
      intro h
      refine cp_r (e := zS) (fun _ h => rF_X12_laysDiffs rfl h) h ?_
      clear h
      intro g8 h
      refine rd_r (Nat.le_of_ble_eq_true rfl) rfl h ?_
      clear h
      intro v9 h
      cases h
      exact congrArg some (e_pair rfl rfl)
theorem rJ_X12_rel_1 {g10 : uZ} {zr : (Int × uZ)} (h : GJ_X12_rel_1 g10 = some zr) : J_X12_rel_1 (zS g10) = some (em_2 zr) := by
  unfold GJ_X12_rel_1 at h
  unfold J_X12_rel_1
  cases h
  exact congrArg some (e_pair kz_0 rfl)
theorem rF_X12_rel {a1_ : Int32} {a1 : Int} (e_a1 : a1_ = zI a1) {a2_ : Int32} {a2 : Int} (e_a2 : a2_ = zI a2) {g : uZ} {zr : (Int × uZ)} (h : GF_X12_rel a1 a2 g = some zr) : F_X12_rel a1_ a2_ (zS g) = some (em_2 zr) := by
  subst e_a1 e_a2
  unfold GF_X12_rel at h
  unfold F_X12_rel
  refine pf_r kz_0 h ?_
  clear h
  intro g1 h
  refine cl_r (fun _ _ h => rF_X12_isFrame rfl h) h ?_
  clear h
  intro v3 g2 h
  obtain ⟨hr1, h⟩ := ck_e h
  refine ite_r (c_eq rfl kz_0 hr1 ir_0) h ?_ ?_
  · clear h
    intro h
    exact rJ_X12_rel_1 h
  · clear h
    intro h
    refine cl_r (fun _ _ h => rF_X12_isLag rfl h) h ?_
    clear h
    intro v6 g5 h
    obtain ⟨hr2, h⟩ := ck_e h
    refine ite_r (c_eq rfl kz_0 hr2 ir_0) h ?_ ?_
    · clear h
      intro h
      exact rJ_X12_rel_1 h
    · clear h
      intro h
      refine cp_r (e := zS) (fun _ h => rF_X12_laysDiffs rfl h) h ?_
      clear h
      intro g8 h
      refine rd_r (Nat.le_of_ble_eq_true rfl) rfl h ?_
      clear h
      intro v9 h
      cases h
      exact congrArg some (e_pair rfl rfl)
theorem rJ_X12_loud_1 {g2 : uZ} {v6_ : Int32} {v6 : Int} (e_v6 : v6_ = zI v6) {zr : (Int × uZ)} (h : GJ_X12_loud_1 g2 v6 = some zr) : J_X12_loud_1 (zS g2) v6_ = some (em_2 zr) := by
  subst e_v6
  unfold GJ_X12_loud_1 at h
  unfold J_X12_loud_1
  cases h
  exact congrArg some (e_pair rfl rfl)
theorem rF_X12_loud {a1_ : Int32} {a1 : Int} (e_a1 : a1_ = zI a1) {g : uZ} {zr : (Int × uZ)} (h : GF_X12_loud a1 g = some zr) : F_X12_loud a1_ (zS g) = some (em_2 zr) := by
  subst e_a1
  unfold GF_X12_loud at h
  unfold F_X12_loud
  refine pf_r kz_0 h ?_
  clear h
  intro g1 h
  refine cl_r (fun _ _ h => rF_X12_isFrame rfl h) h ?_
  clear h
  intro v3 g2 h
  obtain ⟨hr1, h⟩ := ck_e h
  refine ite_r (c_eq rfl kz_0 hr1 ir_0) h ?_ ?_
  · clear h
    intro h
    exact rJ_X12_loud_1 kz_0 h
  · clear h
    intro h
    refine cp_r (e := zI) (fun _ h => rF_X12_loudOf rfl h) h ?_
    clear h
    intro v5 h
    exact rJ_X12_loud_1 rfl h
theorem rJ_X12_isDipAt_2 {v10_ : Int32} {v10 : Int} (e_v10 : v10_ = zI v10) {zr : Int} (h : GJ_X12_isDipAt_2 v10 = some zr) : J_X12_isDipAt_2 v10_ = some (zI zr) := by
  subst e_v10
  unfold GJ_X12_isDipAt_2 at h
  unfold J_X12_isDipAt_2
  refine bz_r rfl h ?_
  clear h
  intro h
  cases h
  rfl
theorem rJ_X12_isDipAt_1 {zr : Int} (h : GJ_X12_isDipAt_1 = some zr) : J_X12_isDipAt_1 = some (zI zr) := by
  unfold GJ_X12_isDipAt_1 at h
  unfold J_X12_isDipAt_1
  exact rJ_X12_isDipAt_2 kz_0 h
theorem rF_X12_isDipAt {a1_ : Int32} {a1 : Int} (e_a1 : a1_ = zI a1) {g : uZ} {zr : Int} (h : GF_X12_isDipAt a1 g = some zr) : F_X12_isDipAt a1_ (zS g) = some (zI zr) := by
  subst e_a1
  unfold GF_X12_isDipAt at h
  unfold F_X12_isDipAt
  refine rd_r (Nat.le_of_ble_eq_true rfl) rfl h ?_
  clear h
  intro v1 h
  refine rd_r (Nat.le_of_ble_eq_true rfl) kz_6 h ?_
  clear h
  intro v2 h
  obtain ⟨hr1, h⟩ := ck_e h
  obtain ⟨hr2, h⟩ := ck_e h
  refine ite_r (c_lt rfl rfl hr1 hr2) h ?_ ?_
  · clear h
    intro h
    exact rJ_X12_isDipAt_1 h
  · clear h
    intro h
    refine rd_r (Nat.le_of_ble_eq_true rfl) rfl h ?_
    clear h
    intro v4 h
    refine rd_r (Nat.le_of_ble_eq_true rfl) (e_sub rfl kz_1) h ?_
    clear h
    intro v5 h
    obtain ⟨hr3, h⟩ := ck_e h
    obtain ⟨hr4, h⟩ := ck_e h
    refine ite_r (c_le rfl rfl hr3 hr4) h ?_ ?_
    · clear h
      intro h
      exact rJ_X12_isDipAt_1 h
    · clear h
      intro h
      refine rd_r (Nat.le_of_ble_eq_true rfl) rfl h ?_
      clear h
      intro v7 h
      refine rd_r (Nat.le_of_ble_eq_true rfl) (e_add rfl kz_1) h ?_
      clear h
      intro v8 h
      obtain ⟨hr5, h⟩ := ck_e h
      obtain ⟨hr6, h⟩ := ck_e h
      refine ite_r (c_lt rfl rfl hr5 hr6) h ?_ ?_
      · clear h
        intro h
        exact rJ_X12_isDipAt_1 h
      · clear h
        intro h
        exact rJ_X12_isDipAt_2 kz_1 h
theorem rJ_X12_laysDips_3 {w6_ : Int32} {w6 : Int} (e_w6 : w6_ = zI w6) {g7 : uZ} {v14_ : Int32} {v14 : Int} (e_v14 : v14_ = zI v14) {zr : ((Int × uZ) ⊕ uZ)} (h : GJ_X12_laysDips_3 w6 g7 v14 = some zr) : J_X12_laysDips_3 w6_ (zS g7) v14_ = some (em_3 zr) := by
  subst e_w6 e_v14
  unfold GJ_X12_laysDips_3 at h
  unfold J_X12_laysDips_3
  refine wr_r (Nat.le_of_ble_eq_true rfl) rfl (zI_toInt _).symm h ?_
  clear h
  intro g15 h
  refine lt_r (e_add rfl kz_1) h ?_
  clear h
  intro v16 h
  cases h
  exact congrArg some (congrArg Sum.inl (e_pair rfl rfl))
theorem rJ_X12_laysDips_2 {w6_ : Int32} {w6 : Int} (e_w6 : w6_ = zI w6) {g7 : uZ} {zr : ((Int × uZ) ⊕ uZ)} (h : GJ_X12_laysDips_2 w6 g7 = some zr) : J_X12_laysDips_2 w6_ (zS g7) = some (em_3 zr) := by
  subst e_w6
  unfold GJ_X12_laysDips_2 at h
  unfold J_X12_laysDips_2
  exact rJ_X12_laysDips_3 rfl kz_0 h
theorem rB_X12_laysDips_4 {v4_ : Int32} {v4 : Int} (e_v4 : v4_ = zI v4) {w6_ : Int32} {w6 : Int} (e_w6 : w6_ = zI w6) {g7 : uZ} {zr : ((Int × uZ) ⊕ uZ)} (h : GB_X12_laysDips_4 v4 w6 g7 = some zr) : B_X12_laysDips_4 v4_ w6_ (zS g7) = some (em_3 zr) := by
  subst e_v4 e_w6
  unfold GB_X12_laysDips_4 at h
  unfold B_X12_laysDips_4
  refine rd_r (Nat.le_of_ble_eq_true rfl) kz_5 h ?_
  clear h
  intro v9 h
  obtain ⟨hr1, h⟩ := ck_e h
  obtain ⟨hr2, h⟩ := ck_e h
  refine ite_r (c_lt rfl rfl hr1 hr2) h ?_ ?_
  · clear h
    intro h
    cases h
    exact congrArg some (congrArg Sum.inr rfl)
  · clear h
    intro h
    obtain ⟨hr3, h⟩ := ck_e h
    refine ite_r (c_eq rfl kz_0 hr3 ir_0) h ?_ ?_
    · clear h
      intro h
      exact rJ_X12_laysDips_2 rfl h
    · clear h
      intro h
      refine cp_r (e := zI) (fun _ h => rF_X12_isDipAt rfl h) h ?_
      clear h
      intro v12 h
      obtain ⟨hr4, h⟩ := ck_e h
      refine ite_r (c_eq rfl kz_0 hr4 ir_0) h ?_ ?_
      · clear h
        intro h
        exact rJ_X12_laysDips_2 rfl h
      · clear h
        intro h
        exact rJ_X12_laysDips_3 rfl kz_1 h
theorem rC_X12_laysDips_5 {g8 : uZ} {zr : uZ} (h : GC_X12_laysDips_5 g8 = some zr) : C_X12_laysDips_5 (zS g8) = some (zS zr) := by
  unfold GC_X12_laysDips_5 at h
  unfold C_X12_laysDips_5
  cases h
  rfl
theorem rF_X12_laysDips {a1_ : Int32} {a1 : Int} (e_a1 : a1_ = zI a1) {g : uZ} {zr : uZ} (h : GF_X12_laysDips a1 g = some zr) : F_X12_laysDips a1_ (zS g) = some (zS zr) := by
  subst e_a1
  unfold GF_X12_laysDips at h
  unfold F_X12_laysDips
  refine cp_r (e := zI) (fun _ h => rF_X12_loudOf rfl h) h ?_
  clear h
  intro v1 h
  refine rd_r (Nat.le_of_ble_eq_true rfl) kz_14 h ?_
  clear h
  intro v2 h
  obtain ⟨hr1, h⟩ := ck_e h
  obtain ⟨hr2, h⟩ := ck_e h
  refine lt_r (e_ite (c_lt rfl rfl hr1 hr2) kz_0 kz_1) h ?_
  clear h
  intro v4 h
  refine rd_r (Nat.le_of_ble_eq_true rfl) kz_4 h ?_
  clear h
  intro v5 h
  refine lp_r em_2 zS (e_pair rfl rfl) (fun q r h => rB_X12_laysDips_4 rfl rfl h) h ?_
  clear h
  intro z h
  exact rC_X12_laysDips_5 h
theorem rJ_X12_aheadOf_3 {w3_ : Int32} {w3 : Int} (e_w3 : w3_ = zI w3) {v17_ : Int32} {v17 : Int} (e_v17 : v17_ = zI v17) {zr : ((Int × Int) ⊕ Int)} (h : GJ_X12_aheadOf_3 w3 v17 = some zr) : J_X12_aheadOf_3 w3_ v17_ = some (em_1 zr) := by
  subst e_w3 e_v17
  unfold GJ_X12_aheadOf_3 at h
  unfold J_X12_aheadOf_3
  refine lt_r (e_add rfl kz_1) h ?_
  clear h
  intro v18 h
  cases h
  exact congrArg some (congrArg Sum.inl (e_pair rfl rfl))
theorem rJ_X12_aheadOf_2 {w2_ : Int32} {w2 : Int} (e_w2 : w2_ = zI w2) {w3_ : Int32} {w3 : Int} (e_w3 : w3_ = zI w3) {zr : ((Int × Int) ⊕ Int)} (h : GJ_X12_aheadOf_2 w2 w3 = some zr) : J_X12_aheadOf_2 w2_ w3_ = some (em_1 zr) := by
  subst e_w2 e_w3
  unfold GJ_X12_aheadOf_2 at h
  unfold J_X12_aheadOf_2
  refine lt_r (e_add rfl kz_1) h ?_
  clear h
  intro v16 h
  exact rJ_X12_aheadOf_3 rfl rfl h
theorem rB_X12_aheadOf_4 {a1_ : Int32} {a1 : Int} (e_a1 : a1_ = zI a1) {g : uZ} {w2_ : Int32} {w2 : Int} (e_w2 : w2_ = zI w2) {w3_ : Int32} {w3 : Int} (e_w3 : w3_ = zI w3) {zr : ((Int × Int) ⊕ Int)} (h : GB_X12_aheadOf_4 a1 g w2 w3 = some zr) : B_X12_aheadOf_4 a1_ (zS g) w2_ w3_ = some (em_1 zr) := by
  subst e_a1 e_w2 e_w3
  unfold GB_X12_aheadOf_4 at h
  unfold B_X12_aheadOf_4
  refine rd_r (Nat.le_of_ble_eq_true rfl) kz_5 h ?_
  clear h
  intro v5 h
  obtain ⟨hr1, h⟩ := ck_e h
  obtain ⟨hr2, h⟩ := ck_e h
  refine ite_r (c_lt rfl rfl hr1 hr2) h ?_ ?_
  · clear h
    intro h
    cases h
    exact congrArg some (congrArg Sum.inr rfl)
  · clear h
    intro h
    refine rd_r (Nat.le_of_ble_eq_true rfl) rfl h ?_
    clear h
    intro v7 h
    obtain ⟨hr3, h⟩ := ck_e h
    refine ite_r (c_eq rfl kz_0 hr3 ir_0) h ?_ ?_
    · clear h
      intro h
      exact rJ_X12_aheadOf_3 rfl rfl h
    · clear h
      intro h
      refine rd_r (Nat.le_of_ble_eq_true rfl) rfl h ?_
      clear h
      intro v9 h
      refine rd_r (Nat.le_of_ble_eq_true rfl) rfl h ?_
      clear h
      intro v10 h
      obtain ⟨hr4, h⟩ := ck_e h
      obtain ⟨hr5, h⟩ := ck_e h
      refine ite_r (c_lt rfl rfl hr4 hr5) h ?_ ?_
      · clear h
        intro h
        exact rJ_X12_aheadOf_2 rfl rfl h
      · clear h
        intro h
        refine rd_r (Nat.le_of_ble_eq_true rfl) rfl h ?_
        clear h
        intro v12 h
        refine rd_r (Nat.le_of_ble_eq_true rfl) rfl h ?_
        clear h
        intro v13 h
        obtain ⟨hr6, h⟩ := ck_e h
        obtain ⟨hr7, h⟩ := ck_e h
        refine ite_r (c_eq rfl rfl hr6 hr7) h ?_ ?_
        · clear h
          intro h
          obtain ⟨hr8, h⟩ := ck_e h
          refine ite_r (c_le rfl rfl hr8 hr2) h ?_ ?_
          · clear h
            intro h
            exact rJ_X12_aheadOf_3 rfl rfl h
          · clear h
            intro h
            exact rJ_X12_aheadOf_2 rfl rfl h
        · clear h
          intro h
          exact rJ_X12_aheadOf_3 rfl rfl h
theorem rC_X12_aheadOf_5 {v4_ : Int32} {v4 : Int} (e_v4 : v4_ = zI v4) {zr : Int} (h : GC_X12_aheadOf_5 v4 = some zr) : C_X12_aheadOf_5 v4_ = some (zI zr) := by
  subst e_v4
  unfold GC_X12_aheadOf_5 at h
  unfold C_X12_aheadOf_5
  cases h
  rfl
theorem rF_X12_aheadOf {a1_ : Int32} {a1 : Int} (e_a1 : a1_ = zI a1) {g : uZ} {zr : Int} (h : GF_X12_aheadOf a1 g = some zr) : F_X12_aheadOf a1_ (zS g) = some (zI zr) := by
  subst e_a1
  unfold GF_X12_aheadOf at h
  unfold F_X12_aheadOf
  refine rd_r (Nat.le_of_ble_eq_true rfl) kz_4 h ?_
  clear h
  intro v1 h
  refine lp_r em_0 zI (e_pair kz_0 rfl) (fun q r h => rB_X12_aheadOf_4 rfl rfl rfl h) h ?_
  clear h
  intro z h
  exact rC_X12_aheadOf_5 rfl h
theorem rJ_X12_laysFrame_2 {w5_ : Int32} {w5 : Int} (e_w5 : w5_ = zI w5) {v21_ : Int32} {v21 : Int} (e_v21 : v21_ = zI v21) {g22 : uZ} {zr : ((Int × (Int × uZ)) ⊕ (Int × uZ))} (h : GJ_X12_laysFrame_2 w5 v21 g22 = some zr) : J_X12_laysFrame_2 w5_ v21_ (zS g22) = some (em_6 zr) := by
  subst e_w5 e_v21
  unfold GJ_X12_laysFrame_2 at h
  unfold J_X12_laysFrame_2
  refine lt_r (e_add rfl kz_1) h ?_
  clear h
  intro v23 h
  cases h
  exact congrArg some (congrArg Sum.inl (e_pair rfl (e_pair rfl rfl)))
theorem rB_X12_laysFrame_3 {a1_ : Int32} {a1 : Int} (e_a1 : a1_ = zI a1) {w4_ : Int32} {w4 : Int} (e_w4 : w4_ = zI w4) {w5_ : Int32} {w5 : Int} (e_w5 : w5_ = zI w5) {g6 : uZ} {zr : ((Int × (Int × uZ)) ⊕ (Int × uZ))} (h : GB_X12_laysFrame_3 a1 w4 w5 g6 = some zr) : B_X12_laysFrame_3 a1_ w4_ w5_ (zS g6) = some (em_6 zr) := by
  subst e_a1 e_w4 e_w5
  unfold GB_X12_laysFrame_3 at h
  unfold B_X12_laysFrame_3
  refine rd_r (Nat.le_of_ble_eq_true rfl) kz_5 h ?_
  clear h
  intro v9 h
  obtain ⟨hr1, h⟩ := ck_e h
  obtain ⟨hr2, h⟩ := ck_e h
  refine ite_r (c_lt rfl rfl hr1 hr2) h ?_ ?_
  · clear h
    intro h
    cases h
    exact congrArg some (congrArg Sum.inr (e_pair rfl rfl))
  · clear h
    intro h
    refine rd_r (Nat.le_of_ble_eq_true rfl) rfl h ?_
    clear h
    intro v11 h
    obtain ⟨hr3, h⟩ := ck_e h
    refine ite_r (c_eq rfl kz_0 hr3 ir_0) h ?_ ?_
    · clear h
      intro h
      exact rJ_X12_laysFrame_2 rfl rfl h
    · clear h
      intro h
      refine cp_r (e := zI) (fun _ h => rF_X12_aheadOf rfl h) h ?_
      clear h
      intro v13 h
      refine rd_r (Nat.le_of_ble_eq_true rfl) kz_7 h ?_
      clear h
      intro v14 h
      obtain ⟨hr4, h⟩ := ck_e h
      obtain ⟨hr5, h⟩ := ck_e h
      refine ite_r (c_lt rfl rfl hr4 hr5) h ?_ ?_
      · clear h
        intro h
        refine wr_r (Nat.le_of_ble_eq_true rfl) (e_add (e_mul kz_6 rfl) rfl) rfl h ?_
        clear h
        intro g16 h
        refine rd_r (Nat.le_of_ble_eq_true rfl) rfl h ?_
        clear h
        intro v17 h
        refine rd_r (Nat.le_of_ble_eq_true rfl) kz_8 h ?_
        clear h
        intro v18 h
        refine wr_r (Nat.le_of_ble_eq_true rfl) (e_add (e_mul kz_6 rfl) rfl) (e_add rfl (e_mul rfl rfl)) h ?_
        clear h
        intro g19 h
        refine lt_r (e_add rfl kz_1) h ?_
        clear h
        intro v20 h
        exact rJ_X12_laysFrame_2 rfl rfl h
      · clear h
        intro h
        exact rJ_X12_laysFrame_2 rfl rfl h
theorem rC_X12_laysFrame_4 {a1_ : Int32} {a1 : Int} (e_a1 : a1_ = zI a1) {v7_ : Int32} {v7 : Int} (e_v7 : v7_ = zI v7) {g8 : uZ} {zr : uZ} (h : GC_X12_laysFrame_4 a1 v7 g8 = some zr) : C_X12_laysFrame_4 a1_ v7_ (zS g8) = some (zS zr) := by
  subst e_a1 e_v7
  unfold GC_X12_laysFrame_4 at h
  unfold C_X12_laysFrame_4
  refine wr_r (Nat.le_of_ble_eq_true rfl) (e_add (e_mul kz_6 rfl) rfl) kz_0 h ?_
  clear h
  intro g24 h
  refine rd_r (Nat.le_of_ble_eq_true rfl) kz_9 h ?_
  clear h
  intro v25 h
  refine wr_r (Nat.le_of_ble_eq_true rfl) (e_add (e_mul kz_6 rfl) rfl) rfl h ?_
  clear h
  intro g26 h
  refine wr_r (Nat.le_of_ble_eq_true rfl) rfl (e_add rfl kz_1) h ?_
  clear h
  intro g27 h
  cases h
  rfl
theorem rF_X12_laysFrame {a1_ : Int32} {a1 : Int} (e_a1 : a1_ = zI a1) {g : uZ} {zr : uZ} (h : GF_X12_laysFrame a1 g = some zr) : F_X12_laysFrame a1_ (zS g) = some (zS zr) := by
  subst e_a1
  unfold GF_X12_laysFrame at h
  unfold F_X12_laysFrame
  refine cp_r (e := zS) (fun _ h => rF_X12_laysDiffs rfl h) h ?_
  clear h
  intro g1 h
  refine cp_r (e := zS) (fun _ h => rF_X12_laysDips rfl h) h ?_
  clear h
  intro g2 h
  refine rd_r (Nat.le_of_ble_eq_true rfl) kz_4 h ?_
  clear h
  intro v3 h
  refine lp_r em_4 em_2 (e_pair kz_0 (e_pair rfl rfl)) (fun q r h => rB_X12_laysFrame_3 rfl rfl rfl h) h ?_
  clear h
  intro z h
  exact rC_X12_laysFrame_4 rfl rfl h
theorem rB_X12_laysAll_2 {w3_ : Int32} {w3 : Int} (e_w3 : w3_ = zI w3) {g4 : uZ} {zr : ((Int × uZ) ⊕ uZ)} (h : GB_X12_laysAll_2 w3 g4 = some zr) : B_X12_laysAll_2 w3_ (zS g4) = some (em_3 zr) := by
  subst e_w3
  unfold GB_X12_laysAll_2 at h
  unfold B_X12_laysAll_2
  obtain ⟨hr1, h⟩ := ck_e h
  obtain ⟨hr2, h⟩ := ck_e h
  refine ite_r (c_le rfl rfl hr1 hr2) h ?_ ?_
  · clear h
    intro h
    cases h
    exact congrArg some (congrArg Sum.inr rfl)
  · clear h
    intro h
    refine cp_r (e := zS) (fun _ h => rF_X12_laysFrame rfl h) h ?_
    clear h
    intro g7 h
    refine lt_r (e_add rfl kz_1) h ?_
    clear h
    intro v8 h
    cases h
    exact congrArg some (congrArg Sum.inl (e_pair rfl rfl))
theorem rC_X12_laysAll_3 {g5 : uZ} {zr : uZ} (h : GC_X12_laysAll_3 g5 = some zr) : C_X12_laysAll_3 (zS g5) = some (zS zr) := by
  unfold GC_X12_laysAll_3 at h
  unfold C_X12_laysAll_3
  cases h
  rfl
theorem rF_X12_laysAll {g : uZ} {zr : uZ} (h : GF_X12_laysAll g = some zr) : F_X12_laysAll (zS g) = some (zS zr) := by
  unfold GF_X12_laysAll at h
  unfold F_X12_laysAll
  refine cp_r (e := zI) (fun _ h => rF_X12_frames h) h ?_
  clear h
  intro v1 h
  refine pf_r rfl h ?_
  clear h
  intro g2 h
  refine lp_r em_2 zS (e_pair kz_0 rfl) (fun q r h => rB_X12_laysAll_2 rfl h) h ?_
  clear h
  intro z h
  exact rC_X12_laysAll_3 h
theorem rF_X12_lagAt1 {a1_ : Int32} {a1 : Int} (e_a1 : a1_ = zI a1) {a2_ : Int32} {a2 : Int} (e_a2 : a2_ = zI a2) {g : uZ} {zr : Int} (h : GF_X12_lagAt1 a1 a2 g = some zr) : F_X12_lagAt1 a1_ a2_ (zS g) = some (zI zr) := by
  subst e_a1 e_a2
  unfold GF_X12_lagAt1 at h
  unfold F_X12_lagAt1
  refine rd_r (Nat.le_of_ble_eq_true rfl) (e_add (e_mul kz_6 rfl) rfl) h ?_
  clear h
  intro v1 h
  cases h
  rfl
theorem rF_X12_ownAt {a1_ : Int32} {a1 : Int} (e_a1 : a1_ = zI a1) {a2_ : Int32} {a2 : Int} (e_a2 : a2_ = zI a2) {g : uZ} {zr : Int} (h : GF_X12_ownAt a1 a2 g = some zr) : F_X12_ownAt a1_ a2_ (zS g) = some (zI zr) := by
  subst e_a1 e_a2
  unfold GF_X12_ownAt at h
  unfold F_X12_ownAt
  refine rd_r (Nat.le_of_ble_eq_true rfl) (e_add (e_mul kz_6 rfl) rfl) h ?_
  clear h
  intro v1 h
  cases h
  rfl
theorem rJ_X12_doubleOf_2 {w3_ : Int32} {w3 : Int} (e_w3 : w3_ = zI w3) {zr : (Int ⊕ (Unit ⊕ Int))} (h : GJ_X12_doubleOf_2 w3 = some zr) : J_X12_doubleOf_2 w3_ = some (em_8 zr) := by
  subst e_w3
  unfold GJ_X12_doubleOf_2 at h
  unfold J_X12_doubleOf_2
  refine lt_r (e_add rfl kz_1) h ?_
  clear h
  intro v11 h
  cases h
  exact congrArg some (congrArg Sum.inl rfl)
theorem rB_X12_doubleOf_3 {a1_ : Int32} {a1 : Int} (e_a1 : a1_ = zI a1) {a2_ : Int32} {a2 : Int} (e_a2 : a2_ = zI a2) {v1_ : Int32} {v1 : Int} (e_v1 : v1_ = zI v1) {g : uZ} {w3_ : Int32} {w3 : Int} (e_w3 : w3_ = zI w3) {zr : (Int ⊕ (Unit ⊕ Int))} (h : GB_X12_doubleOf_3 a1 a2 v1 g w3 = some zr) : B_X12_doubleOf_3 a1_ a2_ v1_ (zS g) w3_ = some (em_8 zr) := by
  subst e_a1 e_a2 e_v1 e_w3
  unfold GB_X12_doubleOf_3 at h
  unfold B_X12_doubleOf_3
  refine rd_r (Nat.le_of_ble_eq_true rfl) rfl h ?_
  clear h
  intro v4 h
  obtain ⟨hr1, h⟩ := ck_e h
  obtain ⟨hr2, h⟩ := ck_e h
  refine ite_r (c_le rfl rfl hr1 hr2) h ?_ ?_
  · clear h
    intro h
    cases h
    exact congrArg some (congrArg Sum.inr (congrArg Sum.inl rfl))
  · clear h
    intro h
    refine cp_r (e := zI) (fun _ h => rF_X12_lagAt1 rfl rfl h) h ?_
    clear h
    intro v6 h
    obtain ⟨hr3, h⟩ := ck_e h
    refine ite_r (c_eq rfl rfl hr2 hr3) h ?_ ?_
    · clear h
      intro h
      exact rJ_X12_doubleOf_2 rfl h
    · clear h
      intro h
      obtain ⟨hr4, h⟩ := ck_e h
      refine ite_r (c_le rfl kz_0 hr4 ir_0) h ?_ ?_
      · clear h
        intro h
        exact rJ_X12_doubleOf_2 rfl h
      · clear h
        intro h
        refine cp_r (e := zI) (fun _ h => rF_X12_apart rfl (e_mul kz_2 rfl) h) h ?_
        clear h
        intro v9 h
        obtain ⟨hr5, h⟩ := ck_e h
        refine ite_r (c_lt kz_1 rfl ir_1 hr5) h ?_ ?_
        · clear h
          intro h
          exact rJ_X12_doubleOf_2 rfl h
        · clear h
          intro h
          cases h
          exact congrArg some (congrArg Sum.inr (congrArg Sum.inr rfl))
theorem rC_X12_doubleOf_4 {zr : Int} (h : GC_X12_doubleOf_4 = some zr) : C_X12_doubleOf_4 = some (zI zr) := by
  unfold GC_X12_doubleOf_4 at h
  unfold C_X12_doubleOf_4
  cases h
  exact congrArg some kz_m1
theorem rF_X12_doubleOf {a1_ : Int32} {a1 : Int} (e_a1 : a1_ = zI a1) {a2_ : Int32} {a2 : Int} (e_a2 : a2_ = zI a2) {g : uZ} {zr : Int} (h : GF_X12_doubleOf a1 a2 g = some zr) : F_X12_doubleOf a1_ a2_ (zS g) = some (zI zr) := by
  subst e_a1 e_a2
  unfold GF_X12_doubleOf at h
  unfold F_X12_doubleOf
  refine cp_r (e := zI) (fun _ h => rF_X12_lagAt1 rfl rfl h) h ?_
  clear h
  intro v1 h
  obtain ⟨hr1, h⟩ := ck_e h
  refine ite_r (c_eq rfl kz_0 hr1 ir_0) h ?_ ?_
  · clear h
    intro h
    cases h
    exact congrArg some kz_m1
  · clear h
    intro h
    refine lp_r zI em_7 kz_0 (fun q r h => rB_X12_doubleOf_3 rfl rfl rfl rfl h) h ?_
    clear h
    intro z h
    rcases z with z | z
    · exact rC_X12_doubleOf_4 h
    · cases h
      rfl
theorem rF_X12_candidates {a1_ : Int32} {a1 : Int} (e_a1 : a1_ = zI a1) {g : uZ} {zr : (Int × uZ)} (h : GF_X12_candidates a1 g = some zr) : F_X12_candidates a1_ (zS g) = some (em_2 zr) := by
  subst e_a1
  unfold GF_X12_candidates at h
  unfold F_X12_candidates
  refine pf_r kz_0 h ?_
  clear h
  intro g1 h
  refine cl_r (fun _ _ h => rF_X12_isFrame rfl h) h ?_
  clear h
  intro v3 g2 h
  obtain ⟨hr1, h⟩ := ck_e h
  refine ite_r (c_eq rfl kz_0 hr1 ir_0) h ?_ ?_
  · clear h
    intro h
    cases h
    exact congrArg some (e_pair kz_0 rfl)
  · clear h
    intro h
    refine cp_r (e := zS) (fun _ h => rF_X12_laysFrame rfl h) h ?_
    clear h
    intro g5 h
    refine rd_r (Nat.le_of_ble_eq_true rfl) rfl h ?_
    clear h
    intro v6 h
    cases h
    exact congrArg some (e_pair rfl rfl)
theorem rF_X12_isCandidate {a1_ : Int32} {a1 : Int} (e_a1 : a1_ = zI a1) {a2_ : Int32} {a2 : Int} (e_a2 : a2_ = zI a2) {g : uZ} {zr : (Int × uZ)} (h : GF_X12_isCandidate a1 a2 g = some zr) : F_X12_isCandidate a1_ a2_ (zS g) = some (em_2 zr) := by
  subst e_a1 e_a2
  unfold GF_X12_isCandidate at h
  unfold F_X12_isCandidate
  refine cl_r (fun _ _ h => rF_X12_isFrame rfl h) h ?_
  clear h
  intro v2 g1 h
  obtain ⟨hr1, h⟩ := ck_e h
  refine ite_r (c_eq rfl kz_0 hr1 ir_0) h ?_ ?_
  · clear h
    intro h
    cases h
    exact congrArg some (e_pair kz_0 rfl)
  · clear h
    intro h
    refine cp_r (e := zS) (fun _ h => rF_X12_laysFrame rfl h) h ?_
    clear h
    intro g4 h
    refine rd_r (Nat.le_of_ble_eq_true rfl) rfl h ?_
    clear h
    intro v5 h
    refine cp_r (e := zI) (fun _ h => rF_X12_isIn rfl kz_0 (e_sub rfl kz_1) h) h ?_
    clear h
    intro v6 h
    refine cl_r (fun _ _ h => rF_X12_right rfl kz_1 h) h ?_
    clear h
    intro v8 g7 h
    refine bz_r rfl h ?_
    clear h
    intro h
    cases h
    exact congrArg some (e_pair rfl rfl)
theorem rB_X12_candidate_2 {a1_ : Int32} {a1 : Int} (e_a1 : a1_ = zI a1) {a2_ : Int32} {a2 : Int} (e_a2 : a2_ = zI a2) {g6 : uZ} {w15_ : Int32} {w15 : Int} (e_w15 : w15_ = zI w15) {w16_ : Int32} {w16 : Int} (e_w16 : w16_ = zI w16) {zr : ((Int × Int) ⊕ Int)} (h : GB_X12_candidate_2 a1 a2 g6 w15 w16 = some zr) : B_X12_candidate_2 a1_ a2_ (zS g6) w15_ w16_ = some (em_1 zr) := by
  subst e_a1 e_a2 e_w15 e_w16
  unfold GB_X12_candidate_2 at h
  unfold B_X12_candidate_2
  refine rd_r (Nat.le_of_ble_eq_true rfl) rfl h ?_
  clear h
  intro v18 h
  obtain ⟨hr1, h⟩ := ck_e h
  obtain ⟨hr2, h⟩ := ck_e h
  refine ite_r (c_le rfl rfl hr1 hr2) h ?_ ?_
  · clear h
    intro h
    cases h
    exact congrArg some (congrArg Sum.inr rfl)
  · clear h
    intro h
    refine cp_r (e := zI) (fun _ h => rF_X12_ownAt rfl rfl h) h ?_
    clear h
    intro v20 h
    refine cp_r (e := zI) (fun _ h => rF_X12_ownAt rfl rfl h) h ?_
    clear h
    intro v21 h
    obtain ⟨hr3, h⟩ := ck_e h
    obtain ⟨hr4, h⟩ := ck_e h
    refine lt_r (e_ite (c_le rfl rfl hr3 hr4) kz_0 kz_1) h ?_
    clear h
    intro v23 h
    refine lt_r (e_add rfl rfl) h ?_
    clear h
    intro v24 h
    refine lt_r (e_add rfl kz_1) h ?_
    clear h
    intro v25 h
    cases h
    exact congrArg some (congrArg Sum.inl (e_pair rfl rfl))
theorem rC_X12_candidate_3 {g6 : uZ} {v17_ : Int32} {v17 : Int} (e_v17 : v17_ = zI v17) {zr : (Int × uZ)} (h : GC_X12_candidate_3 g6 v17 = some zr) : C_X12_candidate_3 (zS g6) v17_ = some (em_2 zr) := by
  subst e_v17
  unfold GC_X12_candidate_3 at h
  unfold C_X12_candidate_3
  cases h
  exact congrArg some (e_pair rfl rfl)
theorem rJ_X12_candidate_4 {g26 : uZ} {zr : (Int × uZ)} (h : GJ_X12_candidate_4 g26 = some zr) : J_X12_candidate_4 (zS g26) = some (em_2 zr) := by
  unfold GJ_X12_candidate_4 at h
  unfold J_X12_candidate_4
  cases h
  exact congrArg some (e_pair kz_0 rfl)
theorem rF_X12_candidate {a1_ : Int32} {a1 : Int} (e_a1 : a1_ = zI a1) {a2_ : Int32} {a2 : Int} (e_a2 : a2_ = zI a2) {a3_ : Int32} {a3 : Int} (e_a3 : a3_ = zI a3) {g : uZ} {zr : (Int × uZ)} (h : GF_X12_candidate a1 a2 a3 g = some zr) : F_X12_candidate a1_ a2_ a3_ (zS g) = some (em_2 zr) := by
  subst e_a1 e_a2 e_a3
  unfold GF_X12_candidate at h
  unfold F_X12_candidate
  refine pf_r kz_0 h ?_
  clear h
  intro g1 h
  refine cl_r (fun _ _ h => rF_X12_isCandidate rfl rfl h) h ?_
  clear h
  intro v3 g2 h
  obtain ⟨hr1, h⟩ := ck_e h
  refine ite_r (c_eq rfl kz_0 hr1 ir_0) h ?_ ?_
  · clear h
    intro h
    exact rJ_X12_candidate_4 h
  · clear h
    intro h
    refine cp_r (e := zI) (fun _ h => rF_X12_isIn rfl kz_0 kz_3 h) h ?_
    clear h
    intro v5 h
    refine cl_r (fun _ _ h => rF_X12_right rfl kz_1 h) h ?_
    clear h
    intro v7 g6 h
    obtain ⟨hr2, h⟩ := ck_e h
    refine ite_r (c_eq rfl kz_0 hr2 ir_0) h ?_ ?_
    · clear h
      intro h
      exact rJ_X12_candidate_4 h
    · clear h
      intro h
      obtain ⟨hr3, h⟩ := ck_e h
      refine ite_r (c_eq rfl kz_0 hr3 ir_0) h ?_ ?_
      · clear h
        intro h
        refine cp_r (e := zI) (fun _ h => rF_X12_lagAt1 rfl rfl h) h ?_
        clear h
        intro v10 h
        cases h
        exact congrArg some (e_pair rfl rfl)
      · clear h
        intro h
        refine ite_r (c_eq rfl kz_1 hr3 ir_1) h ?_ ?_
        · clear h
          intro h
          refine cp_r (e := zI) (fun _ h => rF_X12_ownAt rfl rfl h) h ?_
          clear h
          intro v12 h
          cases h
          exact congrArg some (e_pair rfl rfl)
        · clear h
          intro h
          refine ite_r (c_eq rfl kz_2 hr3 ir_2) h ?_ ?_
          · clear h
            intro h
            refine cp_r (e := zI) (fun _ h => rF_X12_doubleOf rfl rfl h) h ?_
            clear h
            intro v14 h
            cases h
            exact congrArg some (e_pair rfl rfl)
          · clear h
            intro h
            refine lp_r em_0 zI (e_pair kz_0 kz_0) (fun q r h => rB_X12_candidate_2 rfl rfl rfl rfl h) h ?_
            clear h
            intro z h
            exact rC_X12_candidate_3 rfl h
theorem rJ_X12_fine_1 {g8 : uZ} {v26_ : Int32} {v26 : Int} (e_v26 : v26_ = zI v26) {zr : (Int × uZ)} (h : GJ_X12_fine_1 g8 v26 = some zr) : J_X12_fine_1 (zS g8) v26_ = some (em_2 zr) := by
  subst e_v26
  unfold GJ_X12_fine_1 at h
  unfold J_X12_fine_1
  cases h
  exact congrArg some (e_pair rfl rfl)
theorem rJ_X12_fine_2 {g29 : uZ} {zr : (Int × uZ)} (h : GJ_X12_fine_2 g29 = some zr) : J_X12_fine_2 (zS g29) = some (em_2 zr) := by
  unfold GJ_X12_fine_2 at h
  unfold J_X12_fine_2
  cases h
  exact congrArg some (e_pair kz_0 rfl)
theorem rF_X12_fine {a1_ : Int32} {a1 : Int} (e_a1 : a1_ = zI a1) {a2_ : Int32} {a2 : Int} (e_a2 : a2_ = zI a2) {a3_ : Int32} {a3 : Int} (e_a3 : a3_ = zI a3) {g : uZ} {zr : (Int × uZ)} (h : GF_X12_fine a1 a2 a3 g = some zr) : F_X12_fine a1_ a2_ a3_ (zS g) = some (em_2 zr) := by
  subst e_a1 e_a2 e_a3
  unfold GF_X12_fine at h
  unfold F_X12_fine
  refine pf_r kz_0 h ?_
  clear h
  intro g1 h
  refine cl_r (fun _ _ h => rF_X12_isCandidate rfl rfl h) h ?_
  clear h
  intro v3 g2 h
  obtain ⟨hr1, h⟩ := ck_e h
  refine ite_r (c_eq rfl kz_0 hr1 ir_0) h ?_ ?_
  · clear h
    intro h
    exact rJ_X12_fine_2 h
  · clear h
    intro h
    refine cp_r (e := zI) (fun _ h => rF_X12_lagAt1 rfl rfl h) h ?_
    clear h
    intro v5 h
    obtain ⟨hr2, h⟩ := ck_e h
    refine lt_r (e_ite (c_le rfl kz_0 hr2 ir_0) kz_0 kz_1) h ?_
    clear h
    intro v7 h
    refine cl_r (fun _ _ h => rF_X12_right rfl kz_1 h) h ?_
    clear h
    intro v9 g8 h
    obtain ⟨hr3, h⟩ := ck_e h
    refine ite_r (c_eq rfl kz_0 hr3 ir_0) h ?_ ?_
    · clear h
      intro h
      exact rJ_X12_fine_2 h
    · clear h
      intro h
      refine cp_r (e := zI) (fun _ h => rF_X12_lagAt1 rfl rfl h) h ?_
      clear h
      intro v11 h
      refine rd_r (Nat.le_of_ble_eq_true rfl) (e_sub rfl kz_1) h ?_
      clear h
      intro v12 h
      refine rd_r (Nat.le_of_ble_eq_true rfl) rfl h ?_
      clear h
      intro v13 h
      refine rd_r (Nat.le_of_ble_eq_true rfl) (e_add rfl kz_1) h ?_
      clear h
      intro v14 h
      refine lt_r (e_mul kz_2 (e_add (e_sub rfl (e_mul kz_2 rfl)) rfl)) h ?_
      clear h
      intro v15 h
      obtain ⟨hr4, h⟩ := ck_e h
      refine ite_r (c_eq rfl kz_0 hr4 ir_0) h ?_ ?_
      · clear h
        intro h
        obtain ⟨hr5, h⟩ := ck_e h
        refine lt_r (e_ite (c_eq rfl kz_0 hr5 ir_0) rfl kz_1) h ?_
        clear h
        intro v28 h
        cases h
        exact congrArg some (e_pair rfl rfl)
      · clear h
        intro h
        refine rd_r (Nat.le_of_ble_eq_true rfl) (e_sub rfl kz_1) h ?_
        clear h
        intro v17 h
        refine rd_r (Nat.le_of_ble_eq_true rfl) (e_add rfl kz_1) h ?_
        clear h
        intro v18 h
        refine lt_r (e_sub (e_add (e_mul rfl rfl) rfl) rfl) h ?_
        clear h
        intro v19 h
        refine cp_r (e := zI) (fun _ h => rF_X12_divisor rfl rfl h) h ?_
        clear h
        intro v20 h
        refine lt_r (e_ite (c_le kz_0 rfl ir_0 hr4) rfl (e_neg rfl)) h ?_
        clear h
        intro v22 h
        obtain ⟨hr6, h⟩ := ck_e h
        refine ite_r (c_eq rfl kz_0 hr6 ir_0) h ?_ ?_
        · clear h
          intro h
          refine dv_r rfl rfl h ?_
          clear h
          intro v24 h
          exact rJ_X12_fine_1 rfl h
        · clear h
          intro h
          refine dv_r rfl rfl h ?_
          clear h
          intro v25 h
          exact rJ_X12_fine_1 rfl h
theorem rF_X12_isOctave {a1_ : Int32} {a1 : Int} (e_a1 : a1_ = zI a1) {a2_ : Int32} {a2 : Int} (e_a2 : a2_ = zI a2) {g : uZ} {zr : Int} (h : GF_X12_isOctave a1 a2 g = some zr) : F_X12_isOctave a1_ a2_ (zS g) = some (zI zr) := by
  subst e_a1 e_a2
  unfold GF_X12_isOctave at h
  unfold F_X12_isOctave
  obtain ⟨hr1, h⟩ := ck_e h
  obtain ⟨hr2, h⟩ := ck_e h
  refine lt_r (e_ite (c_le rfl rfl hr1 hr2) rfl rfl) h ?_
  clear h
  intro v2 h
  refine lt_r (e_ite (c_le rfl rfl hr1 hr2) rfl rfl) h ?_
  clear h
  intro v4 h
  obtain ⟨hr3, h⟩ := ck_e h
  obtain ⟨hr4, h⟩ := ck_e h
  refine lt_r (e_ite (c_lt rfl (e_sub (e_mul kz_2 rfl) kz_1) hr3 hr4) kz_0 kz_1) h ?_
  clear h
  intro v6 h
  refine bz_r rfl h ?_
  clear h
  intro h
  cases h
  rfl
theorem rJ_X12_step_1 {a1_ : Int32} {a1 : Int} (e_a1 : a1_ = zI a1) {a2_ : Int32} {a2 : Int} (e_a2 : a2_ = zI a2) {g : uZ} {zr : Int} (h : GJ_X12_step_1 a1 a2 g = some zr) : J_X12_step_1 a1_ a2_ (zS g) = some (zI zr) := by
  subst e_a1 e_a2
  unfold GJ_X12_step_1 at h
  unfold J_X12_step_1
  obtain ⟨hr1, h⟩ := ck_e h
  obtain ⟨hr2, h⟩ := ck_e h
  refine lt_r (e_ite (c_eq rfl rfl hr1 hr2) kz_0 rfl) h ?_
  clear h
  intro v9 h
  cases h
  rfl
theorem rF_X12_step {a1_ : Int32} {a1 : Int} (e_a1 : a1_ = zI a1) {a2_ : Int32} {a2 : Int} (e_a2 : a2_ = zI a2) {g : uZ} {zr : Int} (h : GF_X12_step a1 a2 g = some zr) : F_X12_step a1_ a2_ (zS g) = some (zI zr) := by
  subst e_a1 e_a2
  unfold GF_X12_step at h
  unfold F_X12_step
  obtain ⟨hr1, h⟩ := ck_e h
  refine ite_r (c_eq rfl kz_0 hr1 ir_0) h ?_ ?_
  · clear h
    intro h
    exact rJ_X12_step_1 rfl rfl h
  · clear h
    intro h
    obtain ⟨hr2, h⟩ := ck_e h
    refine ite_r (c_eq rfl kz_0 hr2 ir_0) h ?_ ?_
    · clear h
      intro h
      exact rJ_X12_step_1 rfl rfl h
    · clear h
      intro h
      refine rd_r (Nat.le_of_ble_eq_true rfl) kz_10 h ?_
      clear h
      intro v3 h
      refine cp_r (e := zI) (fun _ h => rF_X12_apart rfl rfl h) h ?_
      clear h
      intro v4 h
      refine cp_r (e := zI) (fun _ h => rF_X12_isOctave rfl rfl h) h ?_
      clear h
      intro v5 h
      obtain ⟨hr3, h⟩ := ck_e h
      refine lt_r (e_ite (c_eq rfl kz_0 hr3 ir_0) kz_0 rfl) h ?_
      clear h
      intro v7 h
      cases h
      exact congrArg some (e_add (e_mul rfl rfl) rfl)
theorem rF_X12_between {a1_ : Int32} {a1 : Int} (e_a1 : a1_ = zI a1) {a2_ : Int32} {a2 : Int} (e_a2 : a2_ = zI a2) {a3_ : Int32} {a3 : Int} (e_a3 : a3_ = zI a3) {g : uZ} {zr : Int} (h : GF_X12_between a1 a2 a3 g = some zr) : F_X12_between a1_ a2_ a3_ (zS g) = some (zI zr) := by
  subst e_a1 e_a2 e_a3
  unfold GF_X12_between at h
  unfold F_X12_between
  refine cp_r (e := zI) (fun _ h => rF_X12_lagAt1 rfl rfl h) h ?_
  clear h
  intro v1 h
  refine cp_r (e := zI) (fun _ h => rF_X12_lagAt1 (e_add rfl kz_1) rfl h) h ?_
  clear h
  intro v2 h
  refine cp_r (e := zI) (fun _ h => rF_X12_step rfl rfl h) h ?_
  clear h
  intro v3 h
  cases h
  rfl
theorem rB_X12_opens_2 {w1_ : Int32} {w1 : Int} (e_w1 : w1_ = zI w1) {g2 : uZ} {zr : ((Int × uZ) ⊕ uZ)} (h : GB_X12_opens_2 w1 g2 = some zr) : B_X12_opens_2 w1_ (zS g2) = some (em_3 zr) := by
  subst e_w1
  unfold GB_X12_opens_2 at h
  unfold B_X12_opens_2
  obtain ⟨hr1, h⟩ := ck_e h
  refine ite_r (c_le kz_660 rfl ir_660 hr1) h ?_ ?_
  · clear h
    intro h
    cases h
    exact congrArg some (congrArg Sum.inr rfl)
  · clear h
    intro h
    refine wr_r (Nat.le_of_ble_eq_true rfl) rfl (zI_toInt _).symm h ?_
    clear h
    intro g5 h
    refine lt_r (e_add rfl kz_1) h ?_
    clear h
    intro v6 h
    cases h
    exact congrArg some (congrArg Sum.inl (e_pair rfl rfl))
theorem rC_X12_opens_3 {g3 : uZ} {zr : uZ} (h : GC_X12_opens_3 g3 = some zr) : C_X12_opens_3 (zS g3) = some (zS zr) := by
  unfold GC_X12_opens_3 at h
  unfold C_X12_opens_3
  refine rd_r (Nat.le_of_ble_eq_true rfl) kz_11 h ?_
  clear h
  intro v7 h
  refine pf_r rfl h ?_
  clear h
  intro g8 h
  refine rd_r (Nat.le_of_ble_eq_true rfl) kz_12 h ?_
  clear h
  intro v9 h
  refine pf_r rfl h ?_
  clear h
  intro g10 h
  cases h
  rfl
theorem rF_X12_opens {g : uZ} {zr : uZ} (h : GF_X12_opens g = some zr) : F_X12_opens (zS g) = some (zS zr) := by
  unfold GF_X12_opens at h
  unfold F_X12_opens
  refine lp_r em_2 zS (e_pair kz_0 rfl) (fun q r h => rB_X12_opens_2 rfl h) h ?_
  clear h
  intro z h
  exact rC_X12_opens_3 h
theorem rJ_X12_leavesOnly_2 {w1_ : Int32} {w1 : Int} (e_w1 : w1_ = zI w1) {g8 : uZ} {zr : ((Int × uZ) ⊕ uZ)} (h : GJ_X12_leavesOnly_2 w1 g8 = some zr) : J_X12_leavesOnly_2 w1_ (zS g8) = some (em_3 zr) := by
  subst e_w1
  unfold GJ_X12_leavesOnly_2 at h
  unfold J_X12_leavesOnly_2
  refine lt_r (e_add rfl kz_1) h ?_
  clear h
  intro v9 h
  cases h
  exact congrArg some (congrArg Sum.inl (e_pair rfl rfl))
theorem rB_X12_leavesOnly_3 {a1_ : Int32} {a1 : Int} (e_a1 : a1_ = zI a1) {a2_ : Int32} {a2 : Int} (e_a2 : a2_ = zI a2) {w1_ : Int32} {w1 : Int} (e_w1 : w1_ = zI w1) {g2 : uZ} {zr : ((Int × uZ) ⊕ uZ)} (h : GB_X12_leavesOnly_3 a1 a2 w1 g2 = some zr) : B_X12_leavesOnly_3 a1_ a2_ w1_ (zS g2) = some (em_3 zr) := by
  subst e_a1 e_a2 e_w1
  unfold GB_X12_leavesOnly_3 at h
  unfold B_X12_leavesOnly_3
  refine rd_r (Nat.le_of_ble_eq_true rfl) rfl h ?_
  clear h
  intro v4 h
  obtain ⟨hr1, h⟩ := ck_e h
  obtain ⟨hr2, h⟩ := ck_e h
  refine ite_r (c_le rfl rfl hr1 hr2) h ?_ ?_
  · clear h
    intro h
    cases h
    exact congrArg some (congrArg Sum.inr rfl)
  · clear h
    intro h
    obtain ⟨hr3, h⟩ := ck_e h
    refine ite_r (c_eq rfl rfl hr2 hr3) h ?_ ?_
    · clear h
      intro h
      exact rJ_X12_leavesOnly_2 rfl h
    · clear h
      intro h
      refine wr_r (Nat.le_of_ble_eq_true rfl) (e_add (e_mul kz_6 rfl) rfl) (zI_toInt _).symm h ?_
      clear h
      intro g7 h
      exact rJ_X12_leavesOnly_2 rfl h
theorem rC_X12_leavesOnly_4 {g3 : uZ} {zr : uZ} (h : GC_X12_leavesOnly_4 g3 = some zr) : C_X12_leavesOnly_4 (zS g3) = some (zS zr) := by
  unfold GC_X12_leavesOnly_4 at h
  unfold C_X12_leavesOnly_4
  cases h
  rfl
theorem rF_X12_leavesOnly {a1_ : Int32} {a1 : Int} (e_a1 : a1_ = zI a1) {a2_ : Int32} {a2 : Int} (e_a2 : a2_ = zI a2) {g : uZ} {zr : uZ} (h : GF_X12_leavesOnly a1 a2 g = some zr) : F_X12_leavesOnly a1_ a2_ (zS g) = some (zS zr) := by
  subst e_a1 e_a2
  unfold GF_X12_leavesOnly at h
  unfold F_X12_leavesOnly
  refine lp_r em_2 zS (e_pair kz_0 rfl) (fun q r h => rB_X12_leavesOnly_3 rfl rfl rfl h) h ?_
  clear h
  intro z h
  exact rC_X12_leavesOnly_4 h
theorem rJ_X12_leastBehind_2 {w2_ : Int32} {w2 : Int} (e_w2 : w2_ = zI w2) {v12_ : Int32} {v12 : Int} (e_v12 : v12_ = zI v12) {zr : ((Int × Int) ⊕ Int)} (h : GJ_X12_leastBehind_2 w2 v12 = some zr) : J_X12_leastBehind_2 w2_ v12_ = some (em_1 zr) := by
  subst e_w2 e_v12
  unfold GJ_X12_leastBehind_2 at h
  unfold J_X12_leastBehind_2
  refine lt_r (e_add rfl kz_1) h ?_
  clear h
  intro v13 h
  cases h
  exact congrArg some (congrArg Sum.inl (e_pair rfl rfl))
theorem rB_X12_leastBehind_3 {a1_ : Int32} {a1 : Int} (e_a1 : a1_ = zI a1) {a2_ : Int32} {a2 : Int} (e_a2 : a2_ = zI a2) {g : uZ} {w1_ : Int32} {w1 : Int} (e_w1 : w1_ = zI w1) {w2_ : Int32} {w2 : Int} (e_w2 : w2_ = zI w2) {zr : ((Int × Int) ⊕ Int)} (h : GB_X12_leastBehind_3 a1 a2 g w1 w2 = some zr) : B_X12_leastBehind_3 a1_ a2_ (zS g) w1_ w2_ = some (em_1 zr) := by
  subst e_a1 e_a2 e_w1 e_w2
  unfold GB_X12_leastBehind_3 at h
  unfold B_X12_leastBehind_3
  refine rd_r (Nat.le_of_ble_eq_true rfl) (e_add rfl kz_1) h ?_
  clear h
  intro v4 h
  obtain ⟨hr1, h⟩ := ck_e h
  obtain ⟨hr2, h⟩ := ck_e h
  refine ite_r (c_le rfl rfl hr1 hr2) h ?_ ?_
  · clear h
    intro h
    cases h
    exact congrArg some (congrArg Sum.inr rfl)
  · clear h
    intro h
    refine rd_r (Nat.le_of_ble_eq_true rfl) (e_add (e_mul kz_6 (e_add rfl kz_1)) rfl) h ?_
    clear h
    intro v6 h
    obtain ⟨hr3, h⟩ := ck_e h
    refine ite_r (c_le kz_2000000000 rfl ir_2000000000 hr3) h ?_ ?_
    · clear h
      intro h
      exact rJ_X12_leastBehind_2 rfl rfl h
    · clear h
      intro h
      refine cp_r (e := zI) (fun _ h => rF_X12_between rfl rfl rfl h) h ?_
      clear h
      intro v8 h
      obtain ⟨hr4, h⟩ := ck_e h
      obtain ⟨hr5, h⟩ := ck_e h
      refine ite_r (c_le rfl (e_add rfl rfl) hr4 hr5) h ?_ ?_
      · clear h
        intro h
        exact rJ_X12_leastBehind_2 rfl rfl h
      · clear h
        intro h
        refine cp_r (e := zI) (fun _ h => rF_X12_between rfl rfl rfl h) h ?_
        clear h
        intro v10 h
        refine lt_r (e_add rfl rfl) h ?_
        clear h
        intro v11 h
        exact rJ_X12_leastBehind_2 rfl rfl h
theorem rC_X12_leastBehind_4 {v3_ : Int32} {v3 : Int} (e_v3 : v3_ = zI v3) {zr : Int} (h : GC_X12_leastBehind_4 v3 = some zr) : C_X12_leastBehind_4 v3_ = some (zI zr) := by
  subst e_v3
  unfold GC_X12_leastBehind_4 at h
  unfold C_X12_leastBehind_4
  cases h
  rfl
theorem rF_X12_leastBehind {a1_ : Int32} {a1 : Int} (e_a1 : a1_ = zI a1) {a2_ : Int32} {a2 : Int} (e_a2 : a2_ = zI a2) {g : uZ} {zr : Int} (h : GF_X12_leastBehind a1 a2 g = some zr) : F_X12_leastBehind a1_ a2_ (zS g) = some (zI zr) := by
  subst e_a1 e_a2
  unfold GF_X12_leastBehind at h
  unfold F_X12_leastBehind
  refine lp_r em_0 zI (e_pair kz_2000000000 kz_0) (fun q r h => rB_X12_leastBehind_3 rfl rfl rfl rfl h) h ?_
  clear h
  intro z h
  exact rC_X12_leastBehind_4 rfl h
theorem rJ_X12_laysCosts_4 {w2_ : Int32} {w2 : Int} (e_w2 : w2_ = zI w2) {w6_ : Int32} {w6 : Int} (e_w6 : w6_ = zI w6) {g7 : uZ} {v18_ : Int32} {v18 : Int} (e_v18 : v18_ = zI v18) {zr : ((Int × uZ) ⊕ uZ)} (h : GJ_X12_laysCosts_4 w2 w6 g7 v18 = some zr) : J_X12_laysCosts_4 w2_ w6_ (zS g7) v18_ = some (em_3 zr) := by
  subst e_w2 e_w6 e_v18
  unfold GJ_X12_laysCosts_4 at h
  unfold J_X12_laysCosts_4
  refine wr_r (Nat.le_of_ble_eq_true rfl) (e_add (e_mul kz_6 rfl) rfl) rfl h ?_
  clear h
  intro g19 h
  refine lt_r (e_add rfl kz_1) h ?_
  clear h
  intro v20 h
  cases h
  exact congrArg some (congrArg Sum.inl (e_pair rfl rfl))
theorem rJ_X12_laysCosts_3 {w2_ : Int32} {w2 : Int} (e_w2 : w2_ = zI w2) {w6_ : Int32} {w6 : Int} (e_w6 : w6_ = zI w6) {g7 : uZ} {zr : ((Int × uZ) ⊕ uZ)} (h : GJ_X12_laysCosts_3 w2 w6 g7 = some zr) : J_X12_laysCosts_3 w2_ w6_ (zS g7) = some (em_3 zr) := by
  subst e_w2 e_w6
  unfold GJ_X12_laysCosts_3 at h
  unfold J_X12_laysCosts_3
  exact rJ_X12_laysCosts_4 rfl rfl kz_2000000000 h
theorem rJ_X12_laysCosts_5 {w2_ : Int32} {w2 : Int} (e_w2 : w2_ = zI w2) {w6_ : Int32} {w6 : Int} (e_w6 : w6_ = zI w6) {g7 : uZ} {v13_ : Int32} {v13 : Int} (e_v13 : v13_ = zI v13) {zr : ((Int × uZ) ⊕ uZ)} (h : GJ_X12_laysCosts_5 w2 w6 g7 v13 = some zr) : J_X12_laysCosts_5 w2_ w6_ (zS g7) v13_ = some (em_3 zr) := by
  subst e_w2 e_w6 e_v13
  unfold GJ_X12_laysCosts_5 at h
  unfold J_X12_laysCosts_5
  refine rd_r (Nat.le_of_ble_eq_true rfl) (e_add (e_mul kz_6 rfl) rfl) h ?_
  clear h
  intro v14 h
  obtain ⟨hr1, h⟩ := ck_e h
  refine ite_r (c_eq rfl kz_0 hr1 ir_0) h ?_ ?_
  · clear h
    intro h
    obtain ⟨hr2, h⟩ := ck_e h
    refine ite_r (c_eq rfl kz_2000000000 hr2 ir_2000000000) h ?_ ?_
    · clear h
      intro h
      exact rJ_X12_laysCosts_3 rfl rfl h
    · clear h
      intro h
      refine cp_r (e := zI) (fun _ h => rF_X12_ownAt rfl rfl h) h ?_
      clear h
      intro v17 h
      exact rJ_X12_laysCosts_4 rfl rfl (e_add rfl rfl) h
  · clear h
    intro h
    exact rJ_X12_laysCosts_3 rfl rfl h
theorem rB_X12_laysCosts_6 {a1_ : Int32} {a1 : Int} (e_a1 : a1_ = zI a1) {w2_ : Int32} {w2 : Int} (e_w2 : w2_ = zI w2) {w6_ : Int32} {w6 : Int} (e_w6 : w6_ = zI w6) {g7 : uZ} {zr : ((Int × uZ) ⊕ uZ)} (h : GB_X12_laysCosts_6 a1 w2 w6 g7 = some zr) : B_X12_laysCosts_6 a1_ w2_ w6_ (zS g7) = some (em_3 zr) := by
  subst e_a1 e_w2 e_w6
  unfold GB_X12_laysCosts_6 at h
  unfold B_X12_laysCosts_6
  refine rd_r (Nat.le_of_ble_eq_true rfl) rfl h ?_
  clear h
  intro v9 h
  obtain ⟨hr1, h⟩ := ck_e h
  obtain ⟨hr2, h⟩ := ck_e h
  refine ite_r (c_le rfl rfl hr1 hr2) h ?_ ?_
  · clear h
    intro h
    cases h
    exact congrArg some (congrArg Sum.inr rfl)
  · clear h
    intro h
    obtain ⟨hr3, h⟩ := ck_e h
    obtain ⟨hr4, h⟩ := ck_e h
    refine ite_r (c_eq rfl rfl hr3 hr4) h ?_ ?_
    · clear h
      intro h
      exact rJ_X12_laysCosts_5 rfl rfl kz_0 h
    · clear h
      intro h
      refine cp_r (e := zI) (fun _ h => rF_X12_leastBehind rfl rfl h) h ?_
      clear h
      intro v12 h
      exact rJ_X12_laysCosts_5 rfl rfl rfl h
theorem rC_X12_laysCosts_7 {w2_ : Int32} {w2 : Int} (e_w2 : w2_ = zI w2) {g8 : uZ} {zr : ((Int × uZ) ⊕ uZ)} (h : GC_X12_laysCosts_7 w2 g8 = some zr) : C_X12_laysCosts_7 w2_ (zS g8) = some (em_3 zr) := by
  subst e_w2
  unfold GC_X12_laysCosts_7 at h
  unfold C_X12_laysCosts_7
  refine lt_r (e_add rfl kz_m1) h ?_
  clear h
  intro v21 h
  cases h
  exact congrArg some (congrArg Sum.inl (e_pair rfl rfl))
theorem rB_X12_laysCosts_8 {a1_ : Int32} {a1 : Int} (e_a1 : a1_ = zI a1) {w2_ : Int32} {w2 : Int} (e_w2 : w2_ = zI w2) {g3 : uZ} {zr : ((Int × uZ) ⊕ uZ)} (h : GB_X12_laysCosts_8 a1 w2 g3 = some zr) : B_X12_laysCosts_8 a1_ w2_ (zS g3) = some (em_3 zr) := by
  subst e_a1 e_w2
  unfold GB_X12_laysCosts_8 at h
  unfold B_X12_laysCosts_8
  obtain ⟨hr1, h⟩ := ck_e h
  refine ite_r (c_lt rfl kz_0 hr1 ir_0) h ?_ ?_
  · clear h
    intro h
    cases h
    exact congrArg some (congrArg Sum.inr rfl)
  · clear h
    intro h
    refine lp_r em_2 zS (e_pair kz_0 rfl) (fun q r h => rB_X12_laysCosts_6 rfl rfl rfl h) h ?_
    clear h
    intro z h
    exact rC_X12_laysCosts_7 rfl h
theorem rC_X12_laysCosts_9 {g4 : uZ} {zr : uZ} (h : GC_X12_laysCosts_9 g4 = some zr) : C_X12_laysCosts_9 (zS g4) = some (zS zr) := by
  unfold GC_X12_laysCosts_9 at h
  unfold C_X12_laysCosts_9
  cases h
  rfl
theorem rF_X12_laysCosts {a1_ : Int32} {a1 : Int} (e_a1 : a1_ = zI a1) {g : uZ} {zr : uZ} (h : GF_X12_laysCosts a1 g = some zr) : F_X12_laysCosts a1_ (zS g) = some (zS zr) := by
  subst e_a1
  unfold GF_X12_laysCosts at h
  unfold F_X12_laysCosts
  refine pf_r rfl h ?_
  clear h
  intro g1 h
  refine lp_r em_2 zS (e_pair rfl rfl) (fun q r h => rB_X12_laysCosts_8 rfl rfl h) h ?_
  clear h
  intro z h
  exact rC_X12_laysCosts_9 h
theorem rJ_X12_leastOfAll_2 {w3_ : Int32} {w3 : Int} (e_w3 : w3_ = zI w3) {v10_ : Int32} {v10 : Int} (e_v10 : v10_ = zI v10) {zr : ((Int × Int) ⊕ Int)} (h : GJ_X12_leastOfAll_2 w3 v10 = some zr) : J_X12_leastOfAll_2 w3_ v10_ = some (em_1 zr) := by
  subst e_w3 e_v10
  unfold GJ_X12_leastOfAll_2 at h
  unfold J_X12_leastOfAll_2
  refine lt_r (e_add rfl kz_1) h ?_
  clear h
  intro v11 h
  cases h
  exact congrArg some (congrArg Sum.inl (e_pair rfl rfl))
theorem rB_X12_leastOfAll_3 {g : uZ} {w2_ : Int32} {w2 : Int} (e_w2 : w2_ = zI w2) {w3_ : Int32} {w3 : Int} (e_w3 : w3_ = zI w3) {zr : ((Int × Int) ⊕ Int)} (h : GB_X12_leastOfAll_3 g w2 w3 = some zr) : B_X12_leastOfAll_3 (zS g) w2_ w3_ = some (em_1 zr) := by
  subst e_w2 e_w3
  unfold GB_X12_leastOfAll_3 at h
  unfold B_X12_leastOfAll_3
  refine rd_r (Nat.le_of_ble_eq_true rfl) kz_0 h ?_
  clear h
  intro v5 h
  obtain ⟨hr1, h⟩ := ck_e h
  obtain ⟨hr2, h⟩ := ck_e h
  refine ite_r (c_le rfl rfl hr1 hr2) h ?_ ?_
  · clear h
    intro h
    cases h
    exact congrArg some (congrArg Sum.inr rfl)
  · clear h
    intro h
    refine rd_r (Nat.le_of_ble_eq_true rfl) rfl h ?_
    clear h
    intro v7 h
    obtain ⟨hr3, h⟩ := ck_e h
    obtain ⟨hr4, h⟩ := ck_e h
    refine ite_r (c_le rfl rfl hr3 hr4) h ?_ ?_
    · clear h
      intro h
      exact rJ_X12_leastOfAll_2 rfl rfl h
    · clear h
      intro h
      refine rd_r (Nat.le_of_ble_eq_true rfl) rfl h ?_
      clear h
      intro v9 h
      exact rJ_X12_leastOfAll_2 rfl rfl h
theorem rC_X12_leastOfAll_4 {v4_ : Int32} {v4 : Int} (e_v4 : v4_ = zI v4) {zr : Int} (h : GC_X12_leastOfAll_4 v4 = some zr) : C_X12_leastOfAll_4 v4_ = some (zI zr) := by
  subst e_v4
  unfold GC_X12_leastOfAll_4 at h
  unfold C_X12_leastOfAll_4
  cases h
  rfl
theorem rF_X12_leastOfAll {g : uZ} {zr : Int} (h : GF_X12_leastOfAll g = some zr) : F_X12_leastOfAll (zS g) = some (zI zr) := by
  unfold GF_X12_leastOfAll at h
  unfold F_X12_leastOfAll
  obtain ⟨hr1, h⟩ := ck_e h
  refine ite_r (c_le kz_0 rfl ir_0 hr1) h ?_ ?_
  · clear h
    intro h
    refine lp_r em_0 zI (e_pair kz_2000000000 kz_0) (fun q r h => rB_X12_leastOfAll_3 rfl rfl h) h ?_
    clear h
    intro z h
    exact rC_X12_leastOfAll_4 rfl h
  · clear h
    intro h
    cases h
    exact congrArg some kz_0
theorem rJ_X12_reached_1 {v6_ : Int32} {v6 : Int} (e_v6 : v6_ = zI v6) {zr : Int} (h : GJ_X12_reached_1 v6 = some zr) : J_X12_reached_1 v6_ = some (zI zr) := by
  subst e_v6
  unfold GJ_X12_reached_1 at h
  unfold J_X12_reached_1
  cases h
  rfl
theorem rF_X12_reached {a1_ : Int32} {a1 : Int} (e_a1 : a1_ = zI a1) {a2_ : Int32} {a2 : Int} (e_a2 : a2_ = zI a2) {g : uZ} {zr : Int} (h : GF_X12_reached a1 a2 g = some zr) : F_X12_reached a1_ a2_ (zS g) = some (zI zr) := by
  subst e_a1 e_a2
  unfold GF_X12_reached at h
  unfold F_X12_reached
  refine rd_r (Nat.le_of_ble_eq_true rfl) (e_add (e_mul kz_6 rfl) rfl) h ?_
  clear h
  intro v1 h
  obtain ⟨hr1, h⟩ := ck_e h
  refine ite_r (c_eq rfl kz_2000000000 hr1 ir_2000000000) h ?_ ?_
  · clear h
    intro h
    cases h
    exact congrArg some kz_2000000000
  · clear h
    intro h
    obtain ⟨hr2, h⟩ := ck_e h
    refine ite_r (c_eq rfl kz_0 hr2 ir_0) h ?_ ?_
    · clear h
      intro h
      exact rJ_X12_reached_1 rfl h
    · clear h
      intro h
      refine rd_r (Nat.le_of_ble_eq_true rfl) (e_sub rfl kz_1) h ?_
      clear h
      intro v4 h
      refine cp_r (e := zI) (fun _ h => rF_X12_between (e_sub rfl kz_1) rfl rfl h) h ?_
      clear h
      intro v5 h
      exact rJ_X12_reached_1 (e_add rfl rfl) h
theorem rB_X12_goesAlong_3 {w2_ : Int32} {w2 : Int} (e_w2 : w2_ = zI w2) {w3_ : Int32} {w3 : Int} (e_w3 : w3_ = zI w3) {g4 : uZ} {w7_ : Int32} {w7 : Int} (e_w7 : w7_ = zI w7) {zr : (Int ⊕ Int)} (h : GB_X12_goesAlong_3 w2 w3 g4 w7 = some zr) : B_X12_goesAlong_3 w2_ w3_ (zS g4) w7_ = some (em_12 zr) := by
  subst e_w2 e_w3 e_w7
  unfold GB_X12_goesAlong_3 at h
  unfold B_X12_goesAlong_3
  refine cp_r (e := zI) (fun _ h => rF_X12_reached rfl rfl h) h ?_
  clear h
  intro v9 h
  obtain ⟨hr1, h⟩ := ck_e h
  obtain ⟨hr2, h⟩ := ck_e h
  refine ite_r (c_eq rfl rfl hr1 hr2) h ?_ ?_
  · clear h
    intro h
    cases h
    exact congrArg some (congrArg Sum.inr rfl)
  · clear h
    intro h
    refine lt_r (e_add rfl kz_1) h ?_
    clear h
    intro v11 h
    cases h
    exact congrArg some (congrArg Sum.inl rfl)
theorem rC_X12_goesAlong_4 {w3_ : Int32} {w3 : Int} (e_w3 : w3_ = zI w3) {g4 : uZ} {v8_ : Int32} {v8 : Int} (e_v8 : v8_ = zI v8) {zr : ((Int × (Int × uZ)) ⊕ uZ)} (h : GC_X12_goesAlong_4 w3 g4 v8 = some zr) : C_X12_goesAlong_4 w3_ (zS g4) v8_ = some (em_5 zr) := by
  subst e_w3 e_v8
  unfold GC_X12_goesAlong_4 at h
  unfold C_X12_goesAlong_4
  refine wr_r (Nat.le_of_ble_eq_true rfl) rfl rfl h ?_
  clear h
  intro g12 h
  refine rd_r (Nat.le_of_ble_eq_true rfl) (e_add (e_mul kz_6 rfl) rfl) h ?_
  clear h
  intro v13 h
  refine cp_r (e := zI) (fun _ h => rF_X12_ownAt rfl rfl h) h ?_
  clear h
  intro v14 h
  refine lt_r (e_sub rfl rfl) h ?_
  clear h
  intro v15 h
  refine lt_r (e_add rfl kz_1) h ?_
  clear h
  intro v16 h
  cases h
  exact congrArg some (congrArg Sum.inl (e_pair rfl (e_pair rfl rfl)))
theorem rB_X12_goesAlong_5 {w2_ : Int32} {w2 : Int} (e_w2 : w2_ = zI w2) {w3_ : Int32} {w3 : Int} (e_w3 : w3_ = zI w3) {g4 : uZ} {zr : ((Int × (Int × uZ)) ⊕ uZ)} (h : GB_X12_goesAlong_5 w2 w3 g4 = some zr) : B_X12_goesAlong_5 w2_ w3_ (zS g4) = some (em_5 zr) := by
  subst e_w2 e_w3
  unfold GB_X12_goesAlong_5 at h
  unfold B_X12_goesAlong_5
  obtain ⟨hr1, h⟩ := ck_e h
  obtain ⟨hr2, h⟩ := ck_e h
  refine ite_r (c_lt rfl rfl hr1 hr2) h ?_ ?_
  · clear h
    intro h
    cases h
    exact congrArg some (congrArg Sum.inr rfl)
  · clear h
    intro h
    refine lp_r zI zI kz_0 (fun q r h => rB_X12_goesAlong_3 rfl rfl rfl h) h ?_
    clear h
    intro z h
    exact rC_X12_goesAlong_4 rfl rfl h
theorem rC_X12_goesAlong_6 {g5 : uZ} {zr : uZ} (h : GC_X12_goesAlong_6 g5 = some zr) : C_X12_goesAlong_6 (zS g5) = some (zS zr) := by
  unfold GC_X12_goesAlong_6 at h
  unfold C_X12_goesAlong_6
  cases h
  rfl
theorem rF_X12_goesAlong {g : uZ} {zr : uZ} (h : GF_X12_goesAlong g = some zr) : F_X12_goesAlong (zS g) = some (zS zr) := by
  unfold GF_X12_goesAlong at h
  unfold F_X12_goesAlong
  refine cp_r (e := zI) (fun _ h => rF_X12_leastOfAll h) h ?_
  clear h
  intro v1 h
  refine lp_r em_4 zS (e_pair rfl (e_pair kz_0 rfl)) (fun q r h => rB_X12_goesAlong_5 rfl rfl h) h ?_
  clear h
  intro z h
  exact rC_X12_goesAlong_6 h
theorem rF_X12_laysPath {g : uZ} {zr : uZ} (h : GF_X12_laysPath g = some zr) : F_X12_laysPath (zS g) = some (zS zr) := by
  unfold GF_X12_laysPath at h
  unfold F_X12_laysPath
  refine cp_r (e := zS) (fun _ h => rF_X12_laysAll h) h ?_
  clear h
  intro g1 h
  refine cp_r (e := zS) (fun _ h => rF_X12_opens h) h ?_
  clear h
  intro g2 h
  refine cp_r (e := zS) (fun _ h => rF_X12_laysCosts (e_sub rfl kz_1) h) h ?_
  clear h
  intro g3 h
  refine cp_r (e := zS) (fun _ h => rF_X12_goesAlong h) h ?_
  clear h
  intro g4 h
  cases h
  rfl
theorem rF_X12_lagOnPath {a1_ : Int32} {a1 : Int} (e_a1 : a1_ = zI a1) {g : uZ} {zr : Int} (h : GF_X12_lagOnPath a1 g = some zr) : F_X12_lagOnPath a1_ (zS g) = some (zI zr) := by
  subst e_a1
  unfold GF_X12_lagOnPath at h
  unfold F_X12_lagOnPath
  refine rd_r (Nat.le_of_ble_eq_true rfl) rfl h ?_
  clear h
  intro v1 h
  refine cp_r (e := zI) (fun _ h => rF_X12_lagAt1 rfl rfl h) h ?_
  clear h
  intro v2 h
  cases h
  rfl
theorem rJ_X12_part_6 {v24_ : Int32} {v24 : Int} (e_v24 : v24_ = zI v24) {zr : Int} (h : GJ_X12_part_6 v24 = some zr) : J_X12_part_6 v24_ = some (zI zr) := by
  subst e_v24
  unfold GJ_X12_part_6 at h
  unfold J_X12_part_6
  cases h
  rfl
theorem rJ_X12_part_5 {v20_ : Int32} {v20 : Int} (e_v20 : v20_ = zI v20) {zr : Int} (h : GJ_X12_part_5 v20 = some zr) : J_X12_part_5 v20_ = some (zI zr) := by
  subst e_v20
  unfold GJ_X12_part_5 at h
  unfold J_X12_part_5
  cases h
  rfl
theorem rJ_X12_part_4 {zr : Int} (h : GJ_X12_part_4 = some zr) : J_X12_part_4 = some (zI zr) := by
  unfold GJ_X12_part_4 at h
  unfold J_X12_part_4
  exact rJ_X12_part_5 kz_0 h
theorem rJ_X12_part_3 {v16_ : Int32} {v16 : Int} (e_v16 : v16_ = zI v16) {zr : Int} (h : GJ_X12_part_3 v16 = some zr) : J_X12_part_3 v16_ = some (zI zr) := by
  subst e_v16
  unfold GJ_X12_part_3 at h
  unfold J_X12_part_3
  cases h
  rfl
theorem rJ_X12_part_2 {zr : Int} (h : GJ_X12_part_2 = some zr) : J_X12_part_2 = some (zI zr) := by
  unfold GJ_X12_part_2 at h
  unfold J_X12_part_2
  exact rJ_X12_part_3 kz_0 h
theorem rJ_X12_part_7 {a2_ : Int32} {a2 : Int} (e_a2 : a2_ = zI a2) {v7_ : Int32} {v7 : Int} (e_v7 : v7_ = zI v7) {v8_ : Int32} {v8 : Int} (e_v8 : v8_ = zI v8) {g : uZ} {v11_ : Int32} {v11 : Int} (e_v11 : v11_ = zI v11) {zr : Int} (h : GJ_X12_part_7 a2 v7 v8 g v11 = some zr) : J_X12_part_7 a2_ v7_ v8_ (zS g) v11_ = some (zI zr) := by
  subst e_a2 e_v7 e_v8 e_v11
  unfold GJ_X12_part_7 at h
  unfold J_X12_part_7
  obtain ⟨hr1, h⟩ := ck_e h
  refine ite_r (c_eq rfl kz_2 hr1 ir_2) h ?_ ?_
  · clear h
    intro h
    obtain ⟨hr2, h⟩ := ck_e h
    refine ite_r (c_eq rfl kz_0 hr2 ir_0) h ?_ ?_
    · clear h
      intro h
      exact rJ_X12_part_6 kz_0 h
    · clear h
      intro h
      refine rd_r (Nat.le_of_ble_eq_true rfl) kz_10 h ?_
      clear h
      intro v22 h
      refine cp_r (e := zI) (fun _ h => rF_X12_apart rfl rfl h) h ?_
      clear h
      intro v23 h
      exact rJ_X12_part_6 (e_mul rfl rfl) h
  · clear h
    intro h
    refine ite_r (c_eq rfl kz_3 hr1 ir_3) h ?_ ?_
    · clear h
      intro h
      obtain ⟨hr3, h⟩ := ck_e h
      refine ite_r (c_eq rfl kz_0 hr3 ir_0) h ?_ ?_
      · clear h
        intro h
        exact rJ_X12_part_4 h
      · clear h
        intro h
        refine cp_r (e := zI) (fun _ h => rF_X12_isOctave rfl rfl h) h ?_
        clear h
        intro v18 h
        obtain ⟨hr4, h⟩ := ck_e h
        refine ite_r (c_eq rfl kz_0 hr4 ir_0) h ?_ ?_
        · clear h
          intro h
          exact rJ_X12_part_4 h
        · clear h
          intro h
          exact rJ_X12_part_5 rfl h
    · clear h
      intro h
      obtain ⟨hr5, h⟩ := ck_e h
      refine ite_r (c_eq rfl kz_0 hr5 ir_0) h ?_ ?_
      · clear h
        intro h
        obtain ⟨hr6, h⟩ := ck_e h
        obtain ⟨hr7, h⟩ := ck_e h
        refine ite_r (c_eq rfl rfl hr6 hr7) h ?_ ?_
        · clear h
          intro h
          exact rJ_X12_part_2 h
        · clear h
          intro h
          exact rJ_X12_part_3 rfl h
      · clear h
        intro h
        exact rJ_X12_part_2 h
theorem rJ_X12_part_1 {a2_ : Int32} {a2 : Int} (e_a2 : a2_ = zI a2) {v7_ : Int32} {v7 : Int} (e_v7 : v7_ = zI v7) {v8_ : Int32} {v8 : Int} (e_v8 : v8_ = zI v8) {g : uZ} {zr : Int} (h : GJ_X12_part_1 a2 v7 v8 g = some zr) : J_X12_part_1 a2_ v7_ v8_ (zS g) = some (zI zr) := by
  subst e_a2 e_v7 e_v8
  unfold GJ_X12_part_1 at h
  unfold J_X12_part_1
  exact rJ_X12_part_7 rfl rfl rfl kz_0 h
theorem rJ_X12_part_8 {v4_ : Int32} {v4 : Int} (e_v4 : v4_ = zI v4) {zr : Int} (h : GJ_X12_part_8 v4 = some zr) : J_X12_part_8 v4_ = some (zI zr) := by
  subst e_v4
  unfold GJ_X12_part_8 at h
  unfold J_X12_part_8
  cases h
  rfl
theorem rJ_X12_part_9 {a1_ : Int32} {a1 : Int} (e_a1 : a1_ = zI a1) {a2_ : Int32} {a2 : Int} (e_a2 : a2_ = zI a2) {g : uZ} {v4_ : Int32} {v4 : Int} (e_v4 : v4_ = zI v4) {zr : Int} (h : GJ_X12_part_9 a1 a2 g v4 = some zr) : J_X12_part_9 a1_ a2_ (zS g) v4_ = some (zI zr) := by
  subst e_a1 e_a2 e_v4
  unfold GJ_X12_part_9 at h
  unfold J_X12_part_9
  obtain ⟨hr1, h⟩ := ck_e h
  refine ite_r (c_eq rfl kz_0 hr1 ir_0) h ?_ ?_
  · clear h
    intro h
    exact rJ_X12_part_8 rfl h
  · clear h
    intro h
    obtain ⟨hr2, h⟩ := ck_e h
    refine ite_r (c_eq rfl kz_1 hr2 ir_1) h ?_ ?_
    · clear h
      intro h
      exact rJ_X12_part_8 rfl h
    · clear h
      intro h
      refine cp_r (e := zI) (fun _ h => rF_X12_lagOnPath (e_sub rfl kz_1) h) h ?_
      clear h
      intro v7 h
      refine cp_r (e := zI) (fun _ h => rF_X12_lagOnPath rfl h) h ?_
      clear h
      intro v8 h
      obtain ⟨hr3, h⟩ := ck_e h
      refine ite_r (c_le rfl kz_0 hr3 ir_0) h ?_ ?_
      · clear h
        intro h
        exact rJ_X12_part_1 rfl rfl rfl h
      · clear h
        intro h
        obtain ⟨hr4, h⟩ := ck_e h
        refine ite_r (c_le rfl kz_0 hr4 ir_0) h ?_ ?_
        · clear h
          intro h
          exact rJ_X12_part_1 rfl rfl rfl h
        · clear h
          intro h
          exact rJ_X12_part_7 rfl rfl rfl kz_1 h
theorem rF_X12_part {a1_ : Int32} {a1 : Int} (e_a1 : a1_ = zI a1) {a2_ : Int32} {a2 : Int} (e_a2 : a2_ = zI a2) {g : uZ} {zr : Int} (h : GF_X12_part a1 a2 g = some zr) : F_X12_part a1_ a2_ (zS g) = some (zI zr) := by
  subst e_a1 e_a2
  unfold GF_X12_part at h
  unfold F_X12_part
  obtain ⟨hr1, h⟩ := ck_e h
  refine ite_r (c_eq rfl kz_1 hr1 ir_1) h ?_ ?_
  · clear h
    intro h
    refine rd_r (Nat.le_of_ble_eq_true rfl) rfl h ?_
    clear h
    intro v2 h
    refine cp_r (e := zI) (fun _ h => rF_X12_ownAt rfl rfl h) h ?_
    clear h
    intro v3 h
    exact rJ_X12_part_9 rfl rfl rfl h
  · clear h
    intro h
    exact rJ_X12_part_9 rfl rfl kz_0 h
theorem rB_X12_cost_2 {a1_ : Int32} {a1 : Int} (e_a1 : a1_ = zI a1) {g6 : uZ} {w8_ : Int32} {w8 : Int} (e_w8 : w8_ = zI w8) {w9_ : Int32} {w9 : Int} (e_w9 : w9_ = zI w9) {zr : ((Int × Int) ⊕ Int)} (h : GB_X12_cost_2 a1 g6 w8 w9 = some zr) : B_X12_cost_2 a1_ (zS g6) w8_ w9_ = some (em_1 zr) := by
  subst e_a1 e_w8 e_w9
  unfold GB_X12_cost_2 at h
  unfold B_X12_cost_2
  obtain ⟨hr1, h⟩ := ck_e h
  obtain ⟨hr2, h⟩ := ck_e h
  refine ite_r (c_le rfl rfl hr1 hr2) h ?_ ?_
  · clear h
    intro h
    cases h
    exact congrArg some (congrArg Sum.inr rfl)
  · clear h
    intro h
    refine cp_r (e := zI) (fun _ h => rF_X12_part rfl rfl h) h ?_
    clear h
    intro v12 h
    refine lt_r (e_add rfl rfl) h ?_
    clear h
    intro v13 h
    refine lt_r (e_add rfl kz_1) h ?_
    clear h
    intro v14 h
    cases h
    exact congrArg some (congrArg Sum.inl (e_pair rfl rfl))
theorem rC_X12_cost_3 {g6 : uZ} {v10_ : Int32} {v10 : Int} (e_v10 : v10_ = zI v10) {zr : (Int × uZ)} (h : GC_X12_cost_3 g6 v10 = some zr) : C_X12_cost_3 (zS g6) v10_ = some (em_2 zr) := by
  subst e_v10
  unfold GC_X12_cost_3 at h
  unfold C_X12_cost_3
  cases h
  exact congrArg some (e_pair rfl rfl)
theorem rF_X12_cost {a1_ : Int32} {a1 : Int} (e_a1 : a1_ = zI a1) {g : uZ} {zr : (Int × uZ)} (h : GF_X12_cost a1 g = some zr) : F_X12_cost a1_ (zS g) = some (em_2 zr) := by
  subst e_a1
  unfold GF_X12_cost at h
  unfold F_X12_cost
  refine pf_r kz_0 h ?_
  clear h
  intro g1 h
  refine cp_r (e := zI) (fun _ h => rF_X12_isIn rfl kz_0 kz_4 h) h ?_
  clear h
  intro v2 h
  refine cl_r (fun _ _ h => rF_X12_right rfl kz_1 h) h ?_
  clear h
  intro v4 g3 h
  obtain ⟨hr1, h⟩ := ck_e h
  refine ite_r (c_eq rfl kz_0 hr1 ir_0) h ?_ ?_
  · clear h
    intro h
    cases h
    exact congrArg some (e_pair kz_0 rfl)
  · clear h
    intro h
    refine cp_r (e := zS) (fun _ h => rF_X12_laysPath h) h ?_
    clear h
    intro g6 h
    obtain ⟨hr2, h⟩ := ck_e h
    refine ite_r (c_eq rfl kz_0 hr2 ir_0) h ?_ ?_
    · clear h
      intro h
      refine cp_r (e := zI) (fun _ h => rF_X12_leastOfAll h) h ?_
      clear h
      intro v15 h
      cases h
      exact congrArg some (e_pair rfl rfl)
    · clear h
      intro h
      refine lp_r em_0 zI (e_pair kz_0 kz_0) (fun q r h => rB_X12_cost_2 rfl rfl rfl h) h ?_
      clear h
      intro z h
      exact rC_X12_cost_3 rfl h
theorem rF_X12_path {a1_ : Int32} {a1 : Int} (e_a1 : a1_ = zI a1) {g : uZ} {zr : (Int × uZ)} (h : GF_X12_path a1 g = some zr) : F_X12_path a1_ (zS g) = some (em_2 zr) := by
  subst e_a1
  unfold GF_X12_path at h
  unfold F_X12_path
  refine pf_r kz_0 h ?_
  clear h
  intro g1 h
  refine cl_r (fun _ _ h => rF_X12_isFrame rfl h) h ?_
  clear h
  intro v3 g2 h
  obtain ⟨hr1, h⟩ := ck_e h
  refine ite_r (c_eq rfl kz_0 hr1 ir_0) h ?_ ?_
  · clear h
    intro h
    cases h
    exact congrArg some (e_pair kz_0 rfl)
  · clear h
    intro h
    refine cp_r (e := zS) (fun _ h => rF_X12_laysPath h) h ?_
    clear h
    intro g5 h
    refine rd_r (Nat.le_of_ble_eq_true rfl) rfl h ?_
    clear h
    intro v6 h
    cases h
    exact congrArg some (e_pair rfl rfl)
theorem rF_X12_lag {a1_ : Int32} {a1 : Int} (e_a1 : a1_ = zI a1) {g : uZ} {zr : (Int × uZ)} (h : GF_X12_lag a1 g = some zr) : F_X12_lag a1_ (zS g) = some (em_2 zr) := by
  subst e_a1
  unfold GF_X12_lag at h
  unfold F_X12_lag
  refine pf_r kz_0 h ?_
  clear h
  intro g1 h
  refine cl_r (fun _ _ h => rF_X12_isFrame rfl h) h ?_
  clear h
  intro v3 g2 h
  obtain ⟨hr1, h⟩ := ck_e h
  refine ite_r (c_eq rfl kz_0 hr1 ir_0) h ?_ ?_
  · clear h
    intro h
    cases h
    exact congrArg some (e_pair kz_0 rfl)
  · clear h
    intro h
    refine cp_r (e := zS) (fun _ h => rF_X12_laysPath h) h ?_
    clear h
    intro g5 h
    refine cp_r (e := zI) (fun _ h => rF_X12_lagOnPath rfl h) h ?_
    clear h
    intro v6 h
    cases h
    exact congrArg some (e_pair rfl rfl)
theorem rF_X12_through {a1_ : Int32} {a1 : Int} (e_a1 : a1_ = zI a1) {a2_ : Int32} {a2 : Int} (e_a2 : a2_ = zI a2) {g : uZ} {zr : (Int × uZ)} (h : GF_X12_through a1 a2 g = some zr) : F_X12_through a1_ a2_ (zS g) = some (em_2 zr) := by
  subst e_a1 e_a2
  unfold GF_X12_through at h
  unfold F_X12_through
  refine pf_r kz_0 h ?_
  clear h
  intro g1 h
  refine cl_r (fun _ _ h => rF_X12_isCandidate rfl rfl h) h ?_
  clear h
  intro v3 g2 h
  obtain ⟨hr1, h⟩ := ck_e h
  refine ite_r (c_eq rfl kz_0 hr1 ir_0) h ?_ ?_
  · clear h
    intro h
    cases h
    exact congrArg some (e_pair kz_0 rfl)
  · clear h
    intro h
    refine cp_r (e := zS) (fun _ h => rF_X12_laysAll h) h ?_
    clear h
    intro g5 h
    refine cp_r (e := zS) (fun _ h => rF_X12_opens h) h ?_
    clear h
    intro g6 h
    refine cp_r (e := zS) (fun _ h => rF_X12_leavesOnly rfl rfl h) h ?_
    clear h
    intro g7 h
    refine cp_r (e := zS) (fun _ h => rF_X12_laysCosts (e_sub rfl kz_1) h) h ?_
    clear h
    intro g8 h
    refine cp_r (e := zI) (fun _ h => rF_X12_leastOfAll h) h ?_
    clear h
    intro v9 h
    cases h
    exact congrArg some (e_pair rfl rfl)
theorem rJ_X12_both_1 {g19 : uZ} {zr : (Int × uZ)} (h : GJ_X12_both_1 g19 = some zr) : J_X12_both_1 (zS g19) = some (em_2 zr) := by
  unfold GJ_X12_both_1 at h
  unfold J_X12_both_1
  cases h
  exact congrArg some (e_pair kz_0 rfl)
theorem rF_X12_both {a1_ : Int32} {a1 : Int} (e_a1 : a1_ = zI a1) {a2_ : Int32} {a2 : Int} (e_a2 : a2_ = zI a2) {a3_ : Int32} {a3 : Int} (e_a3 : a3_ = zI a3) {a4_ : Int32} {a4 : Int} (e_a4 : a4_ = zI a4) {g : uZ} {zr : (Int × uZ)} (h : GF_X12_both a1 a2 a3 a4 g = some zr) : F_X12_both a1_ a2_ a3_ a4_ (zS g) = some (em_2 zr) := by
  subst e_a1 e_a2 e_a3 e_a4
  unfold GF_X12_both at h
  unfold F_X12_both
  refine pf_r kz_0 h ?_
  clear h
  intro g1 h
  refine cl_r (fun _ _ h => rF_X12_isCandidate rfl rfl h) h ?_
  clear h
  intro v3 g2 h
  obtain ⟨hr1, h⟩ := ck_e h
  refine ite_r (c_eq rfl kz_0 hr1 ir_0) h ?_ ?_
  · clear h
    intro h
    exact rJ_X12_both_1 h
  · clear h
    intro h
    refine cl_r (fun _ _ h => rF_X12_isCandidate rfl rfl h) h ?_
    clear h
    intro v6 g5 h
    obtain ⟨hr2, h⟩ := ck_e h
    refine ite_r (c_eq rfl kz_0 hr2 ir_0) h ?_ ?_
    · clear h
      intro h
      exact rJ_X12_both_1 h
    · clear h
      intro h
      obtain ⟨hr3, h⟩ := ck_e h
      obtain ⟨hr4, h⟩ := ck_e h
      refine lt_r (e_ite (c_le rfl rfl hr3 hr4) kz_0 kz_1) h ?_
      clear h
      intro v9 h
      refine cl_r (fun _ _ h => rF_X12_right rfl kz_2 h) h ?_
      clear h
      intro v11 g10 h
      obtain ⟨hr5, h⟩ := ck_e h
      refine ite_r (c_eq rfl kz_0 hr5 ir_0) h ?_ ?_
      · clear h
        intro h
        exact rJ_X12_both_1 h
      · clear h
        intro h
        refine cp_r (e := zS) (fun _ h => rF_X12_laysAll h) h ?_
        clear h
        intro g13 h
        refine cp_r (e := zS) (fun _ h => rF_X12_opens h) h ?_
        clear h
        intro g14 h
        refine cp_r (e := zS) (fun _ h => rF_X12_leavesOnly rfl rfl h) h ?_
        clear h
        intro g15 h
        refine cp_r (e := zS) (fun _ h => rF_X12_leavesOnly rfl rfl h) h ?_
        clear h
        intro g16 h
        refine cp_r (e := zS) (fun _ h => rF_X12_laysCosts (e_sub rfl kz_1) h) h ?_
        clear h
        intro g17 h
        refine cp_r (e := zI) (fun _ h => rF_X12_leastOfAll h) h ?_
        clear h
        intro v18 h
        cases h
        exact congrArg some (e_pair rfl rfl)
theorem rB_X12_single_3 {w4_ : Int32} {w4 : Int} (e_w4 : w4_ = zI w4) {w8_ : Int32} {w8 : Int} (e_w8 : w8_ = zI w8) {g9 : uZ} {zr : ((Int × uZ) ⊕ uZ)} (h : GB_X12_single_3 w4 w8 g9 = some zr) : B_X12_single_3 w4_ w8_ (zS g9) = some (em_3 zr) := by
  subst e_w4 e_w8
  unfold GB_X12_single_3 at h
  unfold B_X12_single_3
  refine rd_r (Nat.le_of_ble_eq_true rfl) rfl h ?_
  clear h
  intro v11 h
  obtain ⟨hr1, h⟩ := ck_e h
  obtain ⟨hr2, h⟩ := ck_e h
  refine ite_r (c_le rfl rfl hr1 hr2) h ?_ ?_
  · clear h
    intro h
    cases h
    exact congrArg some (congrArg Sum.inr rfl)
  · clear h
    intro h
    refine cp_r (e := zI) (fun _ h => rF_X12_doubleOf rfl rfl h) h ?_
    clear h
    intro v13 h
    obtain ⟨hr3, h⟩ := ck_e h
    refine lt_r (e_ite (c_eq rfl kz_m1 hr3 ir_m1) kz_0 kz_1) h ?_
    clear h
    intro v15 h
    refine wr_r (Nat.le_of_ble_eq_true rfl) (e_add (e_mul kz_6 rfl) rfl) (zI_toInt _).symm h ?_
    clear h
    intro g16 h
    refine lt_r (e_add rfl kz_1) h ?_
    clear h
    intro v17 h
    cases h
    exact congrArg some (congrArg Sum.inl (e_pair rfl rfl))
theorem rC_X12_single_4 {w4_ : Int32} {w4 : Int} (e_w4 : w4_ = zI w4) {g10 : uZ} {zr : ((Int × uZ) ⊕ uZ)} (h : GC_X12_single_4 w4 g10 = some zr) : C_X12_single_4 w4_ (zS g10) = some (em_3 zr) := by
  subst e_w4
  unfold GC_X12_single_4 at h
  unfold C_X12_single_4
  refine lt_r (e_add rfl kz_1) h ?_
  clear h
  intro v18 h
  cases h
  exact congrArg some (congrArg Sum.inl (e_pair rfl rfl))
theorem rB_X12_single_5 {w4_ : Int32} {w4 : Int} (e_w4 : w4_ = zI w4) {g5 : uZ} {zr : ((Int × uZ) ⊕ uZ)} (h : GB_X12_single_5 w4 g5 = some zr) : B_X12_single_5 w4_ (zS g5) = some (em_3 zr) := by
  subst e_w4
  unfold GB_X12_single_5 at h
  unfold B_X12_single_5
  obtain ⟨hr1, h⟩ := ck_e h
  obtain ⟨hr2, h⟩ := ck_e h
  refine ite_r (c_le rfl rfl hr1 hr2) h ?_ ?_
  · clear h
    intro h
    cases h
    exact congrArg some (congrArg Sum.inr rfl)
  · clear h
    intro h
    refine lp_r em_2 zS (e_pair kz_0 rfl) (fun q r h => rB_X12_single_3 rfl rfl h) h ?_
    clear h
    intro z h
    exact rC_X12_single_4 rfl h
theorem rC_X12_single_6 {g6 : uZ} {zr : (Int × uZ)} (h : GC_X12_single_6 g6 = some zr) : C_X12_single_6 (zS g6) = some (em_2 zr) := by
  unfold GC_X12_single_6 at h
  unfold C_X12_single_6
  refine cp_r (e := zS) (fun _ h => rF_X12_laysCosts (e_sub rfl kz_1) h) h ?_
  clear h
  intro g19 h
  refine cp_r (e := zI) (fun _ h => rF_X12_leastOfAll h) h ?_
  clear h
  intro v20 h
  cases h
  exact congrArg some (e_pair rfl rfl)
theorem rF_X12_single {g : uZ} {zr : (Int × uZ)} (h : GF_X12_single g = some zr) : F_X12_single (zS g) = some (em_2 zr) := by
  unfold GF_X12_single at h
  unfold F_X12_single
  refine pf_r kz_0 h ?_
  clear h
  intro g1 h
  refine cp_r (e := zS) (fun _ h => rF_X12_laysAll h) h ?_
  clear h
  intro g2 h
  refine cp_r (e := zS) (fun _ h => rF_X12_opens h) h ?_
  clear h
  intro g3 h
  refine lp_r em_2 zS (e_pair kz_0 rfl) (fun q r h => rB_X12_single_5 rfl h) h ?_
  clear h
  intro z h
  exact rC_X12_single_6 h
theorem rF_X12_livesBy {a1_ : Int32} {a1 : Int} (e_a1 : a1_ = zI a1) {a2_ : Int32} {a2 : Int} (e_a2 : a2_ = zI a2) {g : uZ} {zr : (Int × uZ)} (h : GF_X12_livesBy a1 a2 g = some zr) : F_X12_livesBy a1_ a2_ (zS g) = some (em_2 zr) := by
  subst e_a1 e_a2
  unfold GF_X12_livesBy at h
  unfold F_X12_livesBy
  obtain ⟨hr1, h⟩ := ck_e h
  obtain ⟨hr2, h⟩ := ck_e h
  refine lt_r (e_ite (c_le rfl (e_add rfl rfl) hr1 hr2) (e_sub rfl kz_1) (e_add rfl rfl)) h ?_
  clear h
  intro v2 h
  refine cp_r (e := zS) (fun _ h => rF_X12_laysCosts rfl h) h ?_
  clear h
  intro g3 h
  refine cp_r (e := zS) (fun _ h => rF_X12_goesAlong h) h ?_
  clear h
  intro g4 h
  refine rd_r (Nat.le_of_ble_eq_true rfl) rfl h ?_
  clear h
  intro v5 h
  cases h
  exact congrArg some (e_pair rfl rfl)
theorem rJ_X12_live_1 {g13 : uZ} {zr : (Int × uZ)} (h : GJ_X12_live_1 g13 = some zr) : J_X12_live_1 (zS g13) = some (em_2 zr) := by
  unfold GJ_X12_live_1 at h
  unfold J_X12_live_1
  cases h
  exact congrArg some (e_pair kz_0 rfl)
theorem rF_X12_live {a1_ : Int32} {a1 : Int} (e_a1 : a1_ = zI a1) {a2_ : Int32} {a2 : Int} (e_a2 : a2_ = zI a2) {g : uZ} {zr : (Int × uZ)} (h : GF_X12_live a1 a2 g = some zr) : F_X12_live a1_ a2_ (zS g) = some (em_2 zr) := by
  subst e_a1 e_a2
  unfold GF_X12_live at h
  unfold F_X12_live
  refine pf_r kz_0 h ?_
  clear h
  intro g1 h
  refine cl_r (fun _ _ h => rF_X12_isFrame rfl h) h ?_
  clear h
  intro v3 g2 h
  obtain ⟨hr1, h⟩ := ck_e h
  refine ite_r (c_eq rfl kz_0 hr1 ir_0) h ?_ ?_
  · clear h
    intro h
    exact rJ_X12_live_1 h
  · clear h
    intro h
    refine cp_r (e := zI) (fun _ h => rF_X12_isIn rfl kz_0 kz_20 h) h ?_
    clear h
    intro v5 h
    refine cl_r (fun _ _ h => rF_X12_right rfl kz_2 h) h ?_
    clear h
    intro v7 g6 h
    obtain ⟨hr2, h⟩ := ck_e h
    refine ite_r (c_eq rfl kz_0 hr2 ir_0) h ?_ ?_
    · clear h
      intro h
      exact rJ_X12_live_1 h
    · clear h
      intro h
      refine cp_r (e := zS) (fun _ h => rF_X12_laysAll h) h ?_
      clear h
      intro g9 h
      refine cp_r (e := zS) (fun _ h => rF_X12_opens h) h ?_
      clear h
      intro g10 h
      refine cl_r (fun _ _ h => rF_X12_livesBy rfl rfl h) h ?_
      clear h
      intro v12 g11 h
      cases h
      exact congrArg some (e_pair rfl rfl)
theorem rB_X12_settles_2 {a1_ : Int32} {a1 : Int} (e_a1 : a1_ = zI a1) {v8_ : Int32} {v8 : Int} (e_v8 : v8_ = zI v8) {w9_ : Int32} {w9 : Int} (e_w9 : w9_ = zI w9) {g10 : uZ} {zr : ((Int × uZ) ⊕ (Int × uZ))} (h : GB_X12_settles_2 a1 v8 w9 g10 = some zr) : B_X12_settles_2 a1_ v8_ w9_ (zS g10) = some (em_20 zr) := by
  subst e_a1 e_v8 e_w9
  unfold GB_X12_settles_2 at h
  unfold B_X12_settles_2
  obtain ⟨hr1, h⟩ := ck_e h
  refine ite_r (c_le rfl kz_0 hr1 ir_0) h ?_ ?_
  · clear h
    intro h
    cases h
    exact congrArg some (congrArg Sum.inr (e_pair rfl rfl))
  · clear h
    intro h
    refine cl_r (fun _ _ h => rF_X12_livesBy rfl (e_sub rfl kz_1) h) h ?_
    clear h
    intro v15 g14 h
    obtain ⟨hr2, h⟩ := ck_e h
    obtain ⟨hr3, h⟩ := ck_e h
    refine ite_r (c_eq rfl rfl hr2 hr3) h ?_ ?_
    · clear h
      intro h
      refine lt_r (e_add rfl kz_m1) h ?_
      clear h
      intro v17 h
      cases h
      exact congrArg some (congrArg Sum.inl (e_pair rfl rfl))
    · clear h
      intro h
      cases h
      exact congrArg some (congrArg Sum.inr (e_pair rfl rfl))
theorem rC_X12_settles_3 {v11_ : Int32} {v11 : Int} (e_v11 : v11_ = zI v11) {g12 : uZ} {zr : (Int × uZ)} (h : GC_X12_settles_3 v11 g12 = some zr) : C_X12_settles_3 v11_ (zS g12) = some (em_2 zr) := by
  subst e_v11
  unfold GC_X12_settles_3 at h
  unfold C_X12_settles_3
  cases h
  exact congrArg some (e_pair rfl rfl)
theorem rF_X12_settles {a1_ : Int32} {a1 : Int} (e_a1 : a1_ = zI a1) {g : uZ} {zr : (Int × uZ)} (h : GF_X12_settles a1 g = some zr) : F_X12_settles a1_ (zS g) = some (em_2 zr) := by
  subst e_a1
  unfold GF_X12_settles at h
  unfold F_X12_settles
  refine pf_r kz_0 h ?_
  clear h
  intro g1 h
  refine cl_r (fun _ _ h => rF_X12_isFrame rfl h) h ?_
  clear h
  intro v3 g2 h
  obtain ⟨hr1, h⟩ := ck_e h
  refine ite_r (c_eq rfl kz_0 hr1 ir_0) h ?_ ?_
  · clear h
    intro h
    cases h
    exact congrArg some (e_pair kz_0 rfl)
  · clear h
    intro h
    refine cp_r (e := zS) (fun _ h => rF_X12_laysAll h) h ?_
    clear h
    intro g5 h
    refine cp_r (e := zS) (fun _ h => rF_X12_opens h) h ?_
    clear h
    intro g6 h
    refine cl_r (fun _ _ h => rF_X12_livesBy rfl kz_20 h) h ?_
    clear h
    intro v8 g7 h
    refine lp_r em_2 em_2 (e_pair kz_20 rfl) (fun q r h => rB_X12_settles_2 rfl rfl rfl h) h ?_
    clear h
    intro z h
    exact rC_X12_settles_3 rfl h
theorem rJ_X12_would_2 {a1_ : Int32} {a1 : Int} (e_a1 : a1_ = zI a1) {a2_ : Int32} {a2 : Int} (e_a2 : a2_ = zI a2) {g1 : uZ} {v6_ : Int32} {v6 : Int} (e_v6 : v6_ = zI v6) {zr : (Int × uZ)} (h : GJ_X12_would_2 a1 a2 g1 v6 = some zr) : J_X12_would_2 a1_ a2_ (zS g1) v6_ = some (em_2 zr) := by
  subst e_a1 e_a2 e_v6
  unfold GJ_X12_would_2 at h
  unfold J_X12_would_2
  refine cl_r (fun _ _ h => rF_X12_right rfl kz_1 h) h ?_
  clear h
  intro v8 g7 h
  obtain ⟨hr1, h⟩ := ck_e h
  refine ite_r (c_eq rfl kz_0 hr1 ir_0) h ?_ ?_
  · clear h
    intro h
    cases h
    exact congrArg some (e_pair kz_0 rfl)
  · clear h
    intro h
    refine cp_r (e := zS) (fun _ h => rF_X12_laysAll h) h ?_
    clear h
    intro g10 h
    refine cp_r (e := zS) (fun _ h => rF_X12_opens h) h ?_
    clear h
    intro g11 h
    refine pf_r rfl h ?_
    clear h
    intro g12 h
    refine pf_r rfl h ?_
    clear h
    intro g13 h
    refine cp_r (e := zS) (fun _ h => rF_X12_laysCosts (e_sub rfl kz_1) h) h ?_
    clear h
    intro g14 h
    refine cp_r (e := zI) (fun _ h => rF_X12_leastOfAll h) h ?_
    clear h
    intro v15 h
    cases h
    exact congrArg some (e_pair rfl rfl)
theorem rJ_X12_would_1 {a1_ : Int32} {a1 : Int} (e_a1 : a1_ = zI a1) {a2_ : Int32} {a2 : Int} (e_a2 : a2_ = zI a2) {g1 : uZ} {zr : (Int × uZ)} (h : GJ_X12_would_1 a1 a2 g1 = some zr) : J_X12_would_1 a1_ a2_ (zS g1) = some (em_2 zr) := by
  subst e_a1 e_a2
  unfold GJ_X12_would_1 at h
  unfold J_X12_would_1
  exact rJ_X12_would_2 rfl rfl kz_0 h
theorem rF_X12_would {a1_ : Int32} {a1 : Int} (e_a1 : a1_ = zI a1) {a2_ : Int32} {a2 : Int} (e_a2 : a2_ = zI a2) {g : uZ} {zr : (Int × uZ)} (h : GF_X12_would a1 a2 g = some zr) : F_X12_would a1_ a2_ (zS g) = some (em_2 zr) := by
  subst e_a1 e_a2
  unfold GF_X12_would at h
  unfold F_X12_would
  refine pf_r kz_0 h ?_
  clear h
  intro g1 h
  refine cp_r (e := zI) (fun _ h => rF_X12_isIn rfl kz_0 kz_2000 h) h ?_
  clear h
  intro v2 h
  obtain ⟨hr1, h⟩ := ck_e h
  refine ite_r (c_eq rfl kz_0 hr1 ir_0) h ?_ ?_
  · clear h
    intro h
    exact rJ_X12_would_1 rfl rfl h
  · clear h
    intro h
    refine cp_r (e := zI) (fun _ h => rF_X12_isIn rfl kz_0 kz_2000 h) h ?_
    clear h
    intro v4 h
    obtain ⟨hr2, h⟩ := ck_e h
    refine ite_r (c_eq rfl kz_0 hr2 ir_0) h ?_ ?_
    · clear h
      intro h
      exact rJ_X12_would_1 rfl rfl h
    · clear h
      intro h
      exact rJ_X12_would_2 rfl rfl kz_1 h
theorem rB_X12_doubled_2 {g2 : uZ} {w3_ : Int32} {w3 : Int} (e_w3 : w3_ = zI w3) {w4_ : Int32} {w4 : Int} (e_w4 : w4_ = zI w4) {zr : ((Int × Int) ⊕ Int)} (h : GB_X12_doubled_2 g2 w3 w4 = some zr) : B_X12_doubled_2 (zS g2) w3_ w4_ = some (em_1 zr) := by
  subst e_w3 e_w4
  unfold GB_X12_doubled_2 at h
  unfold B_X12_doubled_2
  obtain ⟨hr1, h⟩ := ck_e h
  obtain ⟨hr2, h⟩ := ck_e h
  refine ite_r (c_le rfl rfl hr1 hr2) h ?_ ?_
  · clear h
    intro h
    cases h
    exact congrArg some (congrArg Sum.inr rfl)
  · clear h
    intro h
    refine rd_r (Nat.le_of_ble_eq_true rfl) rfl h ?_
    clear h
    intro v7 h
    refine cp_r (e := zI) (fun _ h => rF_X12_doubleOf rfl rfl h) h ?_
    clear h
    intro v8 h
    obtain ⟨hr3, h⟩ := ck_e h
    refine lt_r (e_ite (c_eq rfl kz_m1 hr3 ir_m1) kz_0 kz_1) h ?_
    clear h
    intro v10 h
    refine lt_r (e_add rfl rfl) h ?_
    clear h
    intro v11 h
    refine lt_r (e_add rfl kz_1) h ?_
    clear h
    intro v12 h
    cases h
    exact congrArg some (congrArg Sum.inl (e_pair rfl rfl))
theorem rC_X12_doubled_3 {g2 : uZ} {v5_ : Int32} {v5 : Int} (e_v5 : v5_ = zI v5) {zr : (Int × uZ)} (h : GC_X12_doubled_3 g2 v5 = some zr) : C_X12_doubled_3 (zS g2) v5_ = some (em_2 zr) := by
  subst e_v5
  unfold GC_X12_doubled_3 at h
  unfold C_X12_doubled_3
  cases h
  exact congrArg some (e_pair rfl rfl)
theorem rF_X12_doubled {g : uZ} {zr : (Int × uZ)} (h : GF_X12_doubled g = some zr) : F_X12_doubled (zS g) = some (em_2 zr) := by
  unfold GF_X12_doubled at h
  unfold F_X12_doubled
  refine pf_r kz_0 h ?_
  clear h
  intro g1 h
  refine cp_r (e := zS) (fun _ h => rF_X12_laysPath h) h ?_
  clear h
  intro g2 h
  refine lp_r em_0 zI (e_pair kz_0 kz_0) (fun q r h => rB_X12_doubled_2 rfl rfl h) h ?_
  clear h
  intro z h
  exact rC_X12_doubled_3 rfl h
theorem rF_X12_rankAt {a1_ : Int32} {a1 : Int} (e_a1 : a1_ = zI a1) {a2_ : Int32} {a2 : Int} (e_a2 : a2_ = zI a2) {a3_ : Int32} {a3 : Int} (e_a3 : a3_ = zI a3) {g : uZ} {zr : Int} (h : GF_X12_rankAt a1 a2 a3 g = some zr) : F_X12_rankAt a1_ a2_ a3_ (zS g) = some (zI zr) := by
  subst e_a1 e_a2 e_a3
  unfold GF_X12_rankAt at h
  unfold F_X12_rankAt
  cases h
  exact congrArg some (e_add (e_mul kz_8 (e_add (e_mul kz_6 rfl) rfl)) rfl)
theorem rB_X12_ranks_2 {a1_ : Int32} {a1 : Int} (e_a1 : a1_ = zI a1) {a2_ : Int32} {a2 : Int} (e_a2 : a2_ = zI a2) {a3_ : Int32} {a3 : Int} (e_a3 : a3_ = zI a3) {g : uZ} {w3_ : Int32} {w3 : Int} (e_w3 : w3_ = zI w3) {zr : (Int ⊕ Int)} (h : GB_X12_ranks_2 a1 a2 a3 g w3 = some zr) : B_X12_ranks_2 a1_ a2_ a3_ (zS g) w3_ = some (em_12 zr) := by
  subst e_a1 e_a2 e_a3 e_w3
  unfold GB_X12_ranks_2 at h
  unfold B_X12_ranks_2
  obtain ⟨hr1, h⟩ := ck_e h
  refine ite_r (c_le rfl kz_0 hr1 ir_0) h ?_ ?_
  · clear h
    intro h
    cases h
    exact congrArg some (congrArg Sum.inr rfl)
  · clear h
    intro h
    refine cp_r (e := zI) (fun _ h => rF_X12_rankAt rfl rfl (e_sub rfl kz_1) h) h ?_
    clear h
    intro v6 h
    refine rd_r (Nat.le_of_ble_eq_true rfl) rfl h ?_
    clear h
    intro v7 h
    obtain ⟨hr2, h⟩ := ck_e h
    obtain ⟨hr3, h⟩ := ck_e h
    refine ite_r (c_le rfl rfl hr2 hr3) h ?_ ?_
    · clear h
      intro h
      cases h
      exact congrArg some (congrArg Sum.inr rfl)
    · clear h
      intro h
      refine lt_r (e_add rfl kz_m1) h ?_
      clear h
      intro v9 h
      cases h
      exact congrArg some (congrArg Sum.inl rfl)
theorem rB_X12_ranks_4 {a1_ : Int32} {a1 : Int} (e_a1 : a1_ = zI a1) {a2_ : Int32} {a2 : Int} (e_a2 : a2_ = zI a2) {v4_ : Int32} {v4 : Int} (e_v4 : v4_ = zI v4) {w15_ : Int32} {w15 : Int} (e_w15 : w15_ = zI w15) {g16 : uZ} {zr : ((Int × uZ) ⊕ uZ)} (h : GB_X12_ranks_4 a1 a2 v4 w15 g16 = some zr) : B_X12_ranks_4 a1_ a2_ v4_ w15_ (zS g16) = some (em_3 zr) := by
  subst e_a1 e_a2 e_v4 e_w15
  unfold GB_X12_ranks_4 at h
  unfold B_X12_ranks_4
  obtain ⟨hr1, h⟩ := ck_e h
  obtain ⟨hr2, h⟩ := ck_e h
  refine ite_r (c_le rfl rfl hr1 hr2) h ?_ ?_
  · clear h
    intro h
    cases h
    exact congrArg some (congrArg Sum.inr rfl)
  · clear h
    intro h
    refine cp_r (e := zI) (fun _ h => rF_X12_rankAt rfl rfl rfl h) h ?_
    clear h
    intro v19 h
    refine cp_r (e := zI) (fun _ h => rF_X12_rankAt rfl rfl (e_sub rfl kz_1) h) h ?_
    clear h
    intro v20 h
    refine rd_r (Nat.le_of_ble_eq_true rfl) rfl h ?_
    clear h
    intro v21 h
    refine wr_r (Nat.le_of_ble_eq_true rfl) rfl rfl h ?_
    clear h
    intro g22 h
    refine cp_r (e := zI) (fun _ h => rF_X12_rankAt rfl rfl rfl h) h ?_
    clear h
    intro v23 h
    refine cp_r (e := zI) (fun _ h => rF_X12_rankAt rfl rfl (e_sub rfl kz_1) h) h ?_
    clear h
    intro v24 h
    refine rd_r (Nat.le_of_ble_eq_true rfl) rfl h ?_
    clear h
    intro v25 h
    refine wr_r (Nat.le_of_ble_eq_true rfl) rfl rfl h ?_
    clear h
    intro g26 h
    refine cp_r (e := zI) (fun _ h => rF_X12_rankAt rfl rfl rfl h) h ?_
    clear h
    intro v27 h
    refine cp_r (e := zI) (fun _ h => rF_X12_rankAt rfl rfl (e_sub rfl kz_1) h) h ?_
    clear h
    intro v28 h
    refine rd_r (Nat.le_of_ble_eq_true rfl) rfl h ?_
    clear h
    intro v29 h
    refine wr_r (Nat.le_of_ble_eq_true rfl) rfl rfl h ?_
    clear h
    intro g30 h
    refine lt_r (e_add rfl kz_m1) h ?_
    clear h
    intro v31 h
    cases h
    exact congrArg some (congrArg Sum.inl (e_pair rfl rfl))
theorem rC_X12_ranks_5 {a1_ : Int32} {a1 : Int} (e_a1 : a1_ = zI a1) {a2_ : Int32} {a2 : Int} (e_a2 : a2_ = zI a2) {a3_ : Int32} {a3 : Int} (e_a3 : a3_ = zI a3) {a4_ : Int32} {a4 : Int} (e_a4 : a4_ = zI a4) {a5_ : Int32} {a5 : Int} (e_a5 : a5_ = zI a5) {v1_ : Int32} {v1 : Int} (e_v1 : v1_ = zI v1) {v4_ : Int32} {v4 : Int} (e_v4 : v4_ = zI v4) {v14_ : Int32} {v14 : Int} (e_v14 : v14_ = zI v14) {g17 : uZ} {zr : uZ} (h : GC_X12_ranks_5 a1 a2 a3 a4 a5 v1 v4 v14 g17 = some zr) : C_X12_ranks_5 a1_ a2_ a3_ a4_ a5_ v1_ v4_ v14_ (zS g17) = some (zS zr) := by
  subst e_a1 e_a2 e_a3 e_a4 e_a5 e_v1 e_v4 e_v14
  unfold GC_X12_ranks_5 at h
  unfold C_X12_ranks_5
  refine cp_r (e := zI) (fun _ h => rF_X12_rankAt rfl rfl rfl h) h ?_
  clear h
  intro v32 h
  refine wr_r (Nat.le_of_ble_eq_true rfl) rfl rfl h ?_
  clear h
  intro g33 h
  refine cp_r (e := zI) (fun _ h => rF_X12_rankAt rfl rfl rfl h) h ?_
  clear h
  intro v34 h
  refine wr_r (Nat.le_of_ble_eq_true rfl) rfl rfl h ?_
  clear h
  intro g35 h
  refine cp_r (e := zI) (fun _ h => rF_X12_rankAt rfl rfl rfl h) h ?_
  clear h
  intro v36 h
  refine wr_r (Nat.le_of_ble_eq_true rfl) rfl rfl h ?_
  clear h
  intro g37 h
  refine wr_r (Nat.le_of_ble_eq_true rfl) rfl (e_add rfl kz_1) h ?_
  clear h
  intro g38 h
  cases h
  rfl
theorem rJ_X12_ranks_6 {a1_ : Int32} {a1 : Int} (e_a1 : a1_ = zI a1) {a2_ : Int32} {a2 : Int} (e_a2 : a2_ = zI a2) {a3_ : Int32} {a3 : Int} (e_a3 : a3_ = zI a3) {a4_ : Int32} {a4 : Int} (e_a4 : a4_ = zI a4) {a5_ : Int32} {a5 : Int} (e_a5 : a5_ = zI a5) {v1_ : Int32} {v1 : Int} (e_v1 : v1_ = zI v1) {v4_ : Int32} {v4 : Int} (e_v4 : v4_ = zI v4) {g : uZ} {v14_ : Int32} {v14 : Int} (e_v14 : v14_ = zI v14) {zr : uZ} (h : GJ_X12_ranks_6 a1 a2 a3 a4 a5 v1 v4 g v14 = some zr) : J_X12_ranks_6 a1_ a2_ a3_ a4_ a5_ v1_ v4_ (zS g) v14_ = some (zS zr) := by
  subst e_a1 e_a2 e_a3 e_a4 e_a5 e_v1 e_v4 e_v14
  unfold GJ_X12_ranks_6 at h
  unfold J_X12_ranks_6
  refine lp_r em_2 zS (e_pair rfl rfl) (fun q r h => rB_X12_ranks_4 rfl rfl rfl rfl h) h ?_
  clear h
  intro z h
  exact rC_X12_ranks_5 rfl rfl rfl rfl rfl rfl rfl rfl h
theorem rC_X12_ranks_7 {a1_ : Int32} {a1 : Int} (e_a1 : a1_ = zI a1) {a2_ : Int32} {a2 : Int} (e_a2 : a2_ = zI a2) {a3_ : Int32} {a3 : Int} (e_a3 : a3_ = zI a3) {a4_ : Int32} {a4 : Int} (e_a4 : a4_ = zI a4) {a5_ : Int32} {a5 : Int} (e_a5 : a5_ = zI a5) {v1_ : Int32} {v1 : Int} (e_v1 : v1_ = zI v1) {g : uZ} {v4_ : Int32} {v4 : Int} (e_v4 : v4_ = zI v4) {zr : uZ} (h : GC_X12_ranks_7 a1 a2 a3 a4 a5 v1 g v4 = some zr) : C_X12_ranks_7 a1_ a2_ a3_ a4_ a5_ v1_ (zS g) v4_ = some (zS zr) := by
  subst e_a1 e_a2 e_a3 e_a4 e_a5 e_v1 e_v4
  unfold GC_X12_ranks_7 at h
  unfold C_X12_ranks_7
  obtain ⟨hr1, h⟩ := ck_e h
  refine ite_r (c_eq rfl kz_8 hr1 ir_8) h ?_ ?_
  · clear h
    intro h
    cases h
    rfl
  · clear h
    intro h
    refine rd_r (Nat.le_of_ble_eq_true rfl) rfl h ?_
    clear h
    intro v11 h
    obtain ⟨hr2, h⟩ := ck_e h
    refine ite_r (c_le kz_8 rfl ir_8 hr2) h ?_ ?_
    · clear h
      intro h
      exact rJ_X12_ranks_6 rfl rfl rfl rfl rfl rfl rfl kz_7 h
    · clear h
      intro h
      refine rd_r (Nat.le_of_ble_eq_true rfl) rfl h ?_
      clear h
      intro v13 h
      exact rJ_X12_ranks_6 rfl rfl rfl rfl rfl rfl rfl rfl h
theorem rF_X12_ranks {a1_ : Int32} {a1 : Int} (e_a1 : a1_ = zI a1) {a2_ : Int32} {a2 : Int} (e_a2 : a2_ = zI a2) {a3_ : Int32} {a3 : Int} (e_a3 : a3_ = zI a3) {a4_ : Int32} {a4 : Int} (e_a4 : a4_ = zI a4) {a5_ : Int32} {a5 : Int} (e_a5 : a5_ = zI a5) {g : uZ} {zr : uZ} (h : GF_X12_ranks a1 a2 a3 a4 a5 g = some zr) : F_X12_ranks a1_ a2_ a3_ a4_ a5_ (zS g) = some (zS zr) := by
  subst e_a1 e_a2 e_a3 e_a4 e_a5
  unfold GF_X12_ranks at h
  unfold F_X12_ranks
  refine lt_r (e_add (e_mul kz_6 rfl) rfl) h ?_
  clear h
  intro v1 h
  refine rd_r (Nat.le_of_ble_eq_true rfl) rfl h ?_
  clear h
  intro v2 h
  refine lp_r zI zI rfl (fun q r h => rB_X12_ranks_2 rfl rfl rfl rfl h) h ?_
  clear h
  intro z h
  exact rC_X12_ranks_7 rfl rfl rfl rfl rfl rfl rfl h
theorem rB_X12_ranksFrom_3 {a1_ : Int32} {a1 : Int} (e_a1 : a1_ = zI a1) {a2_ : Int32} {a2 : Int} (e_a2 : a2_ = zI a2) {v10_ : Int32} {v10 : Int} (e_v10 : v10_ = zI v10) {w3_ : Int32} {w3 : Int} (e_w3 : w3_ = zI w3) {w11_ : Int32} {w11 : Int} (e_w11 : w11_ = zI w11) {g12 : uZ} {zr : ((Int × uZ) ⊕ uZ)} (h : GB_X12_ranksFrom_3 a1 a2 v10 w3 w11 g12 = some zr) : B_X12_ranksFrom_3 a1_ a2_ v10_ w3_ w11_ (zS g12) = some (em_3 zr) := by
  subst e_a1 e_a2 e_v10 e_w3 e_w11
  unfold GB_X12_ranksFrom_3 at h
  unfold B_X12_ranksFrom_3
  refine rd_r (Nat.le_of_ble_eq_true rfl) (e_add (e_mul kz_6 (e_add rfl kz_1)) rfl) h ?_
  clear h
  intro v14 h
  obtain ⟨hr1, h⟩ := ck_e h
  obtain ⟨hr2, h⟩ := ck_e h
  refine ite_r (c_le rfl rfl hr1 hr2) h ?_ ?_
  · clear h
    intro h
    cases h
    exact congrArg some (congrArg Sum.inr rfl)
  · clear h
    intro h
    refine cp_r (e := zI) (fun _ h => rF_X12_rankAt (e_add rfl kz_1) rfl rfl h) h ?_
    clear h
    intro v16 h
    refine rd_r (Nat.le_of_ble_eq_true rfl) rfl h ?_
    clear h
    intro v17 h
    refine cp_r (e := zS) (fun _ h => rF_X12_ranks rfl rfl (e_add rfl rfl) rfl rfl h) h ?_
    clear h
    intro g18 h
    refine lt_r (e_add rfl kz_1) h ?_
    clear h
    intro v19 h
    cases h
    exact congrArg some (congrArg Sum.inl (e_pair rfl rfl))
theorem rC_X12_ranksFrom_4 {w3_ : Int32} {w3 : Int} (e_w3 : w3_ = zI w3) {g13 : uZ} {zr : ((Int × uZ) ⊕ uZ)} (h : GC_X12_ranksFrom_4 w3 g13 = some zr) : C_X12_ranksFrom_4 w3_ (zS g13) = some (em_3 zr) := by
  subst e_w3
  unfold GC_X12_ranksFrom_4 at h
  unfold C_X12_ranksFrom_4
  refine lt_r (e_add rfl kz_1) h ?_
  clear h
  intro v20 h
  cases h
  exact congrArg some (congrArg Sum.inl (e_pair rfl rfl))
theorem rB_X12_ranksFrom_5 {a1_ : Int32} {a1 : Int} (e_a1 : a1_ = zI a1) {a2_ : Int32} {a2 : Int} (e_a2 : a2_ = zI a2) {w3_ : Int32} {w3 : Int} (e_w3 : w3_ = zI w3) {g4 : uZ} {zr : ((Int × uZ) ⊕ uZ)} (h : GB_X12_ranksFrom_5 a1 a2 w3 g4 = some zr) : B_X12_ranksFrom_5 a1_ a2_ w3_ (zS g4) = some (em_3 zr) := by
  subst e_a1 e_a2 e_w3
  unfold GB_X12_ranksFrom_5 at h
  unfold B_X12_ranksFrom_5
  refine rd_r (Nat.le_of_ble_eq_true rfl) (e_add rfl kz_1) h ?_
  clear h
  intro v6 h
  obtain ⟨hr1, h⟩ := ck_e h
  obtain ⟨hr2, h⟩ := ck_e h
  refine ite_r (c_le rfl rfl hr1 hr2) h ?_ ?_
  · clear h
    intro h
    cases h
    exact congrArg some (congrArg Sum.inr rfl)
  · clear h
    intro h
    refine cp_r (e := zI) (fun _ h => rF_X12_ownAt rfl rfl h) h ?_
    clear h
    intro v8 h
    refine cp_r (e := zI) (fun _ h => rF_X12_between rfl rfl rfl h) h ?_
    clear h
    intro v9 h
    refine lt_r (e_add rfl rfl) h ?_
    clear h
    intro v10 h
    refine lp_r em_2 zS (e_pair kz_0 rfl) (fun q r h => rB_X12_ranksFrom_3 rfl rfl rfl rfl rfl h) h ?_
    clear h
    intro z h
    exact rC_X12_ranksFrom_4 rfl h
theorem rC_X12_ranksFrom_6 {g5 : uZ} {zr : uZ} (h : GC_X12_ranksFrom_6 g5 = some zr) : C_X12_ranksFrom_6 (zS g5) = some (zS zr) := by
  unfold GC_X12_ranksFrom_6 at h
  unfold C_X12_ranksFrom_6
  cases h
  rfl
theorem rF_X12_ranksFrom {a1_ : Int32} {a1 : Int} (e_a1 : a1_ = zI a1) {a2_ : Int32} {a2 : Int} (e_a2 : a2_ = zI a2) {g : uZ} {zr : uZ} (h : GF_X12_ranksFrom a1 a2 g = some zr) : F_X12_ranksFrom a1_ a2_ (zS g) = some (zS zr) := by
  subst e_a1 e_a2
  unfold GF_X12_ranksFrom at h
  unfold F_X12_ranksFrom
  refine wr_r (Nat.le_of_ble_eq_true rfl) (e_add (e_mul kz_6 rfl) rfl) kz_0 h ?_
  clear h
  intro g1 h
  obtain ⟨hr1, h⟩ := ck_e h
  obtain ⟨hr2, h⟩ := ck_e h
  refine ite_r (c_eq rfl (e_sub rfl kz_1) hr1 hr2) h ?_ ?_
  · clear h
    intro h
    refine cp_r (e := zI) (fun _ h => rF_X12_ownAt rfl rfl h) h ?_
    clear h
    intro v21 h
    refine cp_r (e := zS) (fun _ h => rF_X12_ranks rfl rfl rfl kz_m1 kz_m1 h) h ?_
    clear h
    intro g22 h
    cases h
    rfl
  · clear h
    intro h
    refine lp_r em_2 zS (e_pair kz_0 rfl) (fun q r h => rB_X12_ranksFrom_5 rfl rfl rfl h) h ?_
    clear h
    intro z h
    exact rC_X12_ranksFrom_6 h
theorem rB_X12_tops_2 {a1_ : Int32} {a1 : Int} (e_a1 : a1_ = zI a1) {g : uZ} {w2_ : Int32} {w2 : Int} (e_w2 : w2_ = zI w2) {zr : (Int ⊕ Int)} (h : GB_X12_tops_2 a1 g w2 = some zr) : B_X12_tops_2 a1_ (zS g) w2_ = some (em_12 zr) := by
  subst e_a1 e_w2
  unfold GB_X12_tops_2 at h
  unfold B_X12_tops_2
  obtain ⟨hr1, h⟩ := ck_e h
  refine ite_r (c_le rfl kz_0 hr1 ir_0) h ?_ ?_
  · clear h
    intro h
    cases h
    exact congrArg some (congrArg Sum.inr rfl)
  · clear h
    intro h
    refine rd_r (Nat.le_of_ble_eq_true rfl) (e_sub rfl kz_1) h ?_
    clear h
    intro v5 h
    obtain ⟨hr2, h⟩ := ck_e h
    obtain ⟨hr3, h⟩ := ck_e h
    refine ite_r (c_le rfl rfl hr2 hr3) h ?_ ?_
    · clear h
      intro h
      cases h
      exact congrArg some (congrArg Sum.inr rfl)
    · clear h
      intro h
      refine lt_r (e_add rfl kz_m1) h ?_
      clear h
      intro v7 h
      cases h
      exact congrArg some (congrArg Sum.inl rfl)
theorem rB_X12_tops_4 {v3_ : Int32} {v3 : Int} (e_v3 : v3_ = zI v3) {w13_ : Int32} {w13 : Int} (e_w13 : w13_ = zI w13) {g14 : uZ} {zr : ((Int × uZ) ⊕ uZ)} (h : GB_X12_tops_4 v3 w13 g14 = some zr) : B_X12_tops_4 v3_ w13_ (zS g14) = some (em_3 zr) := by
  subst e_v3 e_w13
  unfold GB_X12_tops_4 at h
  unfold B_X12_tops_4
  obtain ⟨hr1, h⟩ := ck_e h
  obtain ⟨hr2, h⟩ := ck_e h
  refine ite_r (c_le rfl rfl hr1 hr2) h ?_ ?_
  · clear h
    intro h
    cases h
    exact congrArg some (congrArg Sum.inr rfl)
  · clear h
    intro h
    refine rd_r (Nat.le_of_ble_eq_true rfl) (e_sub rfl kz_1) h ?_
    clear h
    intro v17 h
    refine wr_r (Nat.le_of_ble_eq_true rfl) rfl rfl h ?_
    clear h
    intro g18 h
    refine rd_r (Nat.le_of_ble_eq_true rfl) (e_sub rfl kz_1) h ?_
    clear h
    intro v19 h
    refine wr_r (Nat.le_of_ble_eq_true rfl) rfl rfl h ?_
    clear h
    intro g20 h
    refine rd_r (Nat.le_of_ble_eq_true rfl) (e_sub rfl kz_1) h ?_
    clear h
    intro v21 h
    refine wr_r (Nat.le_of_ble_eq_true rfl) rfl rfl h ?_
    clear h
    intro g22 h
    refine lt_r (e_add rfl kz_m1) h ?_
    clear h
    intro v23 h
    cases h
    exact congrArg some (congrArg Sum.inl (e_pair rfl rfl))
theorem rC_X12_tops_5 {a1_ : Int32} {a1 : Int} (e_a1 : a1_ = zI a1) {a2_ : Int32} {a2 : Int} (e_a2 : a2_ = zI a2) {a3_ : Int32} {a3 : Int} (e_a3 : a3_ = zI a3) {v3_ : Int32} {v3 : Int} (e_v3 : v3_ = zI v3) {g15 : uZ} {zr : uZ} (h : GC_X12_tops_5 a1 a2 a3 v3 g15 = some zr) : C_X12_tops_5 a1_ a2_ a3_ v3_ (zS g15) = some (zS zr) := by
  subst e_a1 e_a2 e_a3 e_v3
  unfold GC_X12_tops_5 at h
  unfold C_X12_tops_5
  refine wr_r (Nat.le_of_ble_eq_true rfl) rfl rfl h ?_
  clear h
  intro g24 h
  refine wr_r (Nat.le_of_ble_eq_true rfl) rfl rfl h ?_
  clear h
  intro g25 h
  refine wr_r (Nat.le_of_ble_eq_true rfl) rfl rfl h ?_
  clear h
  intro g26 h
  cases h
  rfl
theorem rC_X12_tops_6 {a1_ : Int32} {a1 : Int} (e_a1 : a1_ = zI a1) {a2_ : Int32} {a2 : Int} (e_a2 : a2_ = zI a2) {a3_ : Int32} {a3 : Int} (e_a3 : a3_ = zI a3) {g : uZ} {v3_ : Int32} {v3 : Int} (e_v3 : v3_ = zI v3) {zr : uZ} (h : GC_X12_tops_6 a1 a2 a3 g v3 = some zr) : C_X12_tops_6 a1_ a2_ a3_ (zS g) v3_ = some (zS zr) := by
  subst e_a1 e_a2 e_a3 e_v3
  unfold GC_X12_tops_6 at h
  unfold C_X12_tops_6
  obtain ⟨hr1, h⟩ := ck_e h
  refine ite_r (c_eq rfl kz_8 hr1 ir_8) h ?_ ?_
  · clear h
    intro h
    cases h
    rfl
  · clear h
    intro h
    obtain ⟨hr2, h⟩ := ck_e h
    refine lt_r (e_ite (c_le kz_8 rfl ir_8 hr2) kz_8 (e_add rfl kz_1)) h ?_
    clear h
    intro v10 h
    refine pf_r rfl h ?_
    clear h
    intro g11 h
    refine lt_r (e_sub rfl kz_1) h ?_
    clear h
    intro v12 h
    refine lp_r em_2 zS (e_pair rfl rfl) (fun q r h => rB_X12_tops_4 rfl rfl h) h ?_
    clear h
    intro z h
    exact rC_X12_tops_5 rfl rfl rfl rfl h
theorem rF_X12_tops {a1_ : Int32} {a1 : Int} (e_a1 : a1_ = zI a1) {a2_ : Int32} {a2 : Int} (e_a2 : a2_ = zI a2) {a3_ : Int32} {a3 : Int} (e_a3 : a3_ = zI a3) {g : uZ} {zr : uZ} (h : GF_X12_tops a1 a2 a3 g = some zr) : F_X12_tops a1_ a2_ a3_ (zS g) = some (zS zr) := by
  subst e_a1 e_a2 e_a3
  unfold GF_X12_tops at h
  unfold F_X12_tops
  refine lt_r rfl h ?_
  clear h
  intro v1 h
  refine lp_r zI zI rfl (fun q r h => rB_X12_tops_2 rfl rfl h) h ?_
  clear h
  intro z h
  exact rC_X12_tops_6 rfl rfl rfl rfl h
theorem rB_X12_laysTops_3 {w5_ : Int32} {w5 : Int} (e_w5 : w5_ = zI w5) {w9_ : Int32} {w9 : Int} (e_w9 : w9_ = zI w9) {g10 : uZ} {zr : ((Int × uZ) ⊕ uZ)} (h : GB_X12_laysTops_3 w5 w9 g10 = some zr) : B_X12_laysTops_3 w5_ w9_ (zS g10) = some (em_3 zr) := by
  subst e_w5 e_w9
  unfold GB_X12_laysTops_3 at h
  unfold B_X12_laysTops_3
  refine rd_r (Nat.le_of_ble_eq_true rfl) rfl h ?_
  clear h
  intro v12 h
  obtain ⟨hr1, h⟩ := ck_e h
  obtain ⟨hr2, h⟩ := ck_e h
  refine ite_r (c_le rfl rfl hr1 hr2) h ?_ ?_
  · clear h
    intro h
    cases h
    exact congrArg some (congrArg Sum.inr rfl)
  · clear h
    intro h
    refine cp_r (e := zS) (fun _ h => rF_X12_ranksFrom rfl rfl h) h ?_
    clear h
    intro g14 h
    refine lt_r (e_add rfl kz_1) h ?_
    clear h
    intro v15 h
    cases h
    exact congrArg some (congrArg Sum.inl (e_pair rfl rfl))
theorem rC_X12_laysTops_4 {w5_ : Int32} {w5 : Int} (e_w5 : w5_ = zI w5) {g11 : uZ} {zr : ((Int × uZ) ⊕ uZ)} (h : GC_X12_laysTops_4 w5 g11 = some zr) : C_X12_laysTops_4 w5_ (zS g11) = some (em_3 zr) := by
  subst e_w5
  unfold GC_X12_laysTops_4 at h
  unfold C_X12_laysTops_4
  refine lt_r (e_add rfl kz_m1) h ?_
  clear h
  intro v16 h
  cases h
  exact congrArg some (congrArg Sum.inl (e_pair rfl rfl))
theorem rB_X12_laysTops_5 {w5_ : Int32} {w5 : Int} (e_w5 : w5_ = zI w5) {g6 : uZ} {zr : ((Int × uZ) ⊕ uZ)} (h : GB_X12_laysTops_5 w5 g6 = some zr) : B_X12_laysTops_5 w5_ (zS g6) = some (em_3 zr) := by
  subst e_w5
  unfold GB_X12_laysTops_5 at h
  unfold B_X12_laysTops_5
  obtain ⟨hr1, h⟩ := ck_e h
  refine ite_r (c_lt rfl kz_0 hr1 ir_0) h ?_ ?_
  · clear h
    intro h
    cases h
    exact congrArg some (congrArg Sum.inr rfl)
  · clear h
    intro h
    refine lp_r em_2 zS (e_pair kz_0 rfl) (fun q r h => rB_X12_laysTops_3 rfl rfl h) h ?_
    clear h
    intro z h
    exact rC_X12_laysTops_4 rfl h
theorem rB_X12_laysTops_8 {w18_ : Int32} {w18 : Int} (e_w18 : w18_ = zI w18) {w23_ : Int32} {w23 : Int} (e_w23 : w23_ = zI w23) {g24 : uZ} {zr : ((Int × uZ) ⊕ uZ)} (h : GB_X12_laysTops_8 w18 w23 g24 = some zr) : B_X12_laysTops_8 w18_ w23_ (zS g24) = some (em_3 zr) := by
  subst e_w18 e_w23
  unfold GB_X12_laysTops_8 at h
  unfold B_X12_laysTops_8
  refine rd_r (Nat.le_of_ble_eq_true rfl) rfl h ?_
  clear h
  intro v26 h
  obtain ⟨hr1, h⟩ := ck_e h
  obtain ⟨hr2, h⟩ := ck_e h
  refine ite_r (c_le rfl rfl hr1 hr2) h ?_ ?_
  · clear h
    intro h
    cases h
    exact congrArg some (congrArg Sum.inr rfl)
  · clear h
    intro h
    refine cp_r (e := zI) (fun _ h => rF_X12_rankAt kz_0 rfl rfl h) h ?_
    clear h
    intro v28 h
    refine rd_r (Nat.le_of_ble_eq_true rfl) rfl h ?_
    clear h
    intro v29 h
    refine cp_r (e := zS) (fun _ h => rF_X12_tops rfl rfl rfl h) h ?_
    clear h
    intro g30 h
    refine lt_r (e_add rfl kz_1) h ?_
    clear h
    intro v31 h
    cases h
    exact congrArg some (congrArg Sum.inl (e_pair rfl rfl))
theorem rC_X12_laysTops_9 {w18_ : Int32} {w18 : Int} (e_w18 : w18_ = zI w18) {g25 : uZ} {zr : ((Int × uZ) ⊕ uZ)} (h : GC_X12_laysTops_9 w18 g25 = some zr) : C_X12_laysTops_9 w18_ (zS g25) = some (em_3 zr) := by
  subst e_w18
  unfold GC_X12_laysTops_9 at h
  unfold C_X12_laysTops_9
  refine lt_r (e_add rfl kz_1) h ?_
  clear h
  intro v32 h
  cases h
  exact congrArg some (congrArg Sum.inl (e_pair rfl rfl))
theorem rB_X12_laysTops_10 {w18_ : Int32} {w18 : Int} (e_w18 : w18_ = zI w18) {g19 : uZ} {zr : ((Int × uZ) ⊕ uZ)} (h : GB_X12_laysTops_10 w18 g19 = some zr) : B_X12_laysTops_10 w18_ (zS g19) = some (em_3 zr) := by
  subst e_w18
  unfold GB_X12_laysTops_10 at h
  unfold B_X12_laysTops_10
  refine rd_r (Nat.le_of_ble_eq_true rfl) kz_0 h ?_
  clear h
  intro v21 h
  obtain ⟨hr1, h⟩ := ck_e h
  obtain ⟨hr2, h⟩ := ck_e h
  refine ite_r (c_le rfl rfl hr1 hr2) h ?_ ?_
  · clear h
    intro h
    cases h
    exact congrArg some (congrArg Sum.inr rfl)
  · clear h
    intro h
    refine lp_r em_2 zS (e_pair kz_0 rfl) (fun q r h => rB_X12_laysTops_8 rfl rfl h) h ?_
    clear h
    intro z h
    exact rC_X12_laysTops_9 rfl h
theorem rC_X12_laysTops_11 {g20 : uZ} {zr : uZ} (h : GC_X12_laysTops_11 g20 = some zr) : C_X12_laysTops_11 (zS g20) = some (zS zr) := by
  unfold GC_X12_laysTops_11 at h
  unfold C_X12_laysTops_11
  cases h
  rfl
theorem rC_X12_laysTops_12 {g7 : uZ} {zr : uZ} (h : GC_X12_laysTops_12 g7 = some zr) : C_X12_laysTops_12 (zS g7) = some (zS zr) := by
  unfold GC_X12_laysTops_12 at h
  unfold C_X12_laysTops_12
  obtain ⟨hr1, h⟩ := ck_e h
  refine ite_r (c_eq rfl kz_0 hr1 ir_0) h ?_ ?_
  · clear h
    intro h
    refine cp_r (e := zS) (fun _ h => rF_X12_tops kz_0 kz_m1 kz_m1 h) h ?_
    clear h
    intro g33 h
    cases h
    rfl
  · clear h
    intro h
    refine lp_r em_2 zS (e_pair kz_0 rfl) (fun q r h => rB_X12_laysTops_10 rfl h) h ?_
    clear h
    intro z h
    exact rC_X12_laysTops_11 h
theorem rF_X12_laysTops {g : uZ} {zr : uZ} (h : GF_X12_laysTops g = some zr) : F_X12_laysTops (zS g) = some (zS zr) := by
  unfold GF_X12_laysTops at h
  unfold F_X12_laysTops
  refine cp_r (e := zS) (fun _ h => rF_X12_laysAll h) h ?_
  clear h
  intro g1 h
  refine cp_r (e := zS) (fun _ h => rF_X12_opens h) h ?_
  clear h
  intro g2 h
  refine pf_r kz_0 h ?_
  clear h
  intro g3 h
  refine lt_r (e_sub rfl kz_1) h ?_
  clear h
  intro v4 h
  refine lp_r em_2 zS (e_pair rfl rfl) (fun q r h => rB_X12_laysTops_5 rfl h) h ?_
  clear h
  intro z h
  exact rC_X12_laysTops_12 h
theorem rJ_X12_best_1 {g6 : uZ} {v9_ : Int32} {v9 : Int} (e_v9 : v9_ = zI v9) {zr : (Int × uZ)} (h : GJ_X12_best_1 g6 v9 = some zr) : J_X12_best_1 (zS g6) v9_ = some (em_2 zr) := by
  subst e_v9
  unfold GJ_X12_best_1 at h
  unfold J_X12_best_1
  cases h
  exact congrArg some (e_pair rfl rfl)
theorem rF_X12_best {a1_ : Int32} {a1 : Int} (e_a1 : a1_ = zI a1) {g : uZ} {zr : (Int × uZ)} (h : GF_X12_best a1 g = some zr) : F_X12_best a1_ (zS g) = some (em_2 zr) := by
  subst e_a1
  unfold GF_X12_best at h
  unfold F_X12_best
  refine pf_r kz_0 h ?_
  clear h
  intro g1 h
  refine cp_r (e := zI) (fun _ h => rF_X12_isIn rfl kz_0 kz_7 h) h ?_
  clear h
  intro v2 h
  refine cl_r (fun _ _ h => rF_X12_right rfl kz_1 h) h ?_
  clear h
  intro v4 g3 h
  obtain ⟨hr1, h⟩ := ck_e h
  refine ite_r (c_eq rfl kz_0 hr1 ir_0) h ?_ ?_
  · clear h
    intro h
    cases h
    exact congrArg some (e_pair kz_0 rfl)
  · clear h
    intro h
    refine cp_r (e := zS) (fun _ h => rF_X12_laysTops h) h ?_
    clear h
    intro g6 h
    obtain ⟨hr2, h⟩ := ck_e h
    obtain ⟨hr3, h⟩ := ck_e h
    refine ite_r (c_le rfl rfl hr2 hr3) h ?_ ?_
    · clear h
      intro h
      exact rJ_X12_best_1 kz_m1 h
    · clear h
      intro h
      refine rd_r (Nat.le_of_ble_eq_true rfl) rfl h ?_
      clear h
      intro v8 h
      exact rJ_X12_best_1 rfl h
theorem rB_X12_bestAt_2 {a2_ : Int32} {a2 : Int} (e_a2 : a2_ = zI a2) {g11 : uZ} {w15_ : Int32} {w15 : Int} (e_w15 : w15_ = zI w15) {w16_ : Int32} {w16 : Int} (e_w16 : w16_ = zI w16) {w17_ : Int32} {w17 : Int} (e_w17 : w17_ = zI w17) {zr : ((Int × (Int × Int)) ⊕ Int)} (h : GB_X12_bestAt_2 a2 g11 w15 w16 w17 = some zr) : B_X12_bestAt_2 a2_ (zS g11) w15_ w16_ w17_ = some (em_11 zr) := by
  subst e_a2 e_w15 e_w16 e_w17
  unfold GB_X12_bestAt_2 at h
  unfold B_X12_bestAt_2
  obtain ⟨hr1, h⟩ := ck_e h
  obtain ⟨hr2, h⟩ := ck_e h
  refine ite_r (c_le rfl rfl hr1 hr2) h ?_ ?_
  · clear h
    intro h
    cases h
    exact congrArg some (congrArg Sum.inr rfl)
  · clear h
    intro h
    refine cp_r (e := zI) (fun _ h => rF_X12_rankAt rfl rfl rfl h) h ?_
    clear h
    intro v20 h
    refine rd_r (Nat.le_of_ble_eq_true rfl) rfl h ?_
    clear h
    intro v21 h
    refine rd_r (Nat.le_of_ble_eq_true rfl) rfl h ?_
    clear h
    intro v22 h
    refine lt_r (e_add rfl kz_1) h ?_
    clear h
    intro v23 h
    cases h
    exact congrArg some (congrArg Sum.inl (e_pair rfl (e_pair rfl rfl)))
theorem rC_X12_bestAt_3 {g11 : uZ} {v18_ : Int32} {v18 : Int} (e_v18 : v18_ = zI v18) {zr : (Int × uZ)} (h : GC_X12_bestAt_3 g11 v18 = some zr) : C_X12_bestAt_3 (zS g11) v18_ = some (em_2 zr) := by
  subst e_v18
  unfold GC_X12_bestAt_3 at h
  unfold C_X12_bestAt_3
  cases h
  exact congrArg some (e_pair rfl rfl)
theorem rJ_X12_bestAt_4 {g24 : uZ} {zr : (Int × uZ)} (h : GJ_X12_bestAt_4 g24 = some zr) : J_X12_bestAt_4 (zS g24) = some (em_2 zr) := by
  unfold GJ_X12_bestAt_4 at h
  unfold J_X12_bestAt_4
  cases h
  exact congrArg some (e_pair kz_0 rfl)
theorem rF_X12_bestAt {a1_ : Int32} {a1 : Int} (e_a1 : a1_ = zI a1) {a2_ : Int32} {a2 : Int} (e_a2 : a2_ = zI a2) {g : uZ} {zr : (Int × uZ)} (h : GF_X12_bestAt a1 a2 g = some zr) : F_X12_bestAt a1_ a2_ (zS g) = some (em_2 zr) := by
  subst e_a1 e_a2
  unfold GF_X12_bestAt at h
  unfold F_X12_bestAt
  refine pf_r kz_0 h ?_
  clear h
  intro g1 h
  refine cp_r (e := zI) (fun _ h => rF_X12_isIn rfl kz_0 kz_7 h) h ?_
  clear h
  intro v2 h
  refine cl_r (fun _ _ h => rF_X12_right rfl kz_1 h) h ?_
  clear h
  intro v4 g3 h
  obtain ⟨hr1, h⟩ := ck_e h
  refine ite_r (c_eq rfl kz_0 hr1 ir_0) h ?_ ?_
  · clear h
    intro h
    exact rJ_X12_bestAt_4 h
  · clear h
    intro h
    refine cp_r (e := zI) (fun _ h => rF_X12_frames h) h ?_
    clear h
    intro v6 h
    refine cp_r (e := zI) (fun _ h => rF_X12_isIn rfl kz_0 (e_sub rfl kz_1) h) h ?_
    clear h
    intro v7 h
    refine cl_r (fun _ _ h => rF_X12_right rfl kz_2 h) h ?_
    clear h
    intro v9 g8 h
    obtain ⟨hr2, h⟩ := ck_e h
    refine ite_r (c_eq rfl kz_0 hr2 ir_0) h ?_ ?_
    · clear h
      intro h
      exact rJ_X12_bestAt_4 h
    · clear h
      intro h
      refine cp_r (e := zS) (fun _ h => rF_X12_laysTops h) h ?_
      clear h
      intro g11 h
      obtain ⟨hr3, h⟩ := ck_e h
      obtain ⟨hr4, h⟩ := ck_e h
      refine ite_r (c_lt rfl rfl hr3 hr4) h ?_ ?_
      · clear h
        intro h
        refine rd_r (Nat.le_of_ble_eq_true rfl) rfl h ?_
        clear h
        intro v13 h
        refine rd_r (Nat.le_of_ble_eq_true rfl) rfl h ?_
        clear h
        intro v14 h
        refine lp_r em_9 zI (e_pair rfl (e_pair rfl kz_0)) (fun q r h => rB_X12_bestAt_2 rfl rfl rfl rfl h) h ?_
        clear h
        intro z h
        exact rC_X12_bestAt_3 rfl h
      · clear h
        intro h
        cases h
        exact congrArg some (e_pair kz_m1 rfl)
theorem rJ_X12_laysSpans_3 {w3_ : Int32} {w3 : Int} (e_w3 : w3_ = zI w3) {g17 : uZ} {zr : ((Int × uZ) ⊕ uZ)} (h : GJ_X12_laysSpans_3 w3 g17 = some zr) : J_X12_laysSpans_3 w3_ (zS g17) = some (em_3 zr) := by
  subst e_w3
  unfold GJ_X12_laysSpans_3 at h
  unfold J_X12_laysSpans_3
  refine lt_r (e_add rfl kz_1) h ?_
  clear h
  intro v18 h
  cases h
  exact congrArg some (congrArg Sum.inl (e_pair rfl rfl))
theorem rJ_X12_laysSpans_2 {w3_ : Int32} {w3 : Int} (e_w3 : w3_ = zI w3) {g4 : uZ} {zr : ((Int × uZ) ⊕ uZ)} (h : GJ_X12_laysSpans_2 w3 g4 = some zr) : J_X12_laysSpans_2 w3_ (zS g4) = some (em_3 zr) := by
  subst e_w3
  unfold GJ_X12_laysSpans_2 at h
  unfold J_X12_laysSpans_2
  refine wr_r (Nat.le_of_ble_eq_true rfl) rfl rfl h ?_
  clear h
  intro g15 h
  refine pf_r (e_add rfl kz_1) h ?_
  clear h
  intro g16 h
  exact rJ_X12_laysSpans_3 rfl h
theorem rB_X12_laysSpans_4 {w3_ : Int32} {w3 : Int} (e_w3 : w3_ = zI w3) {g4 : uZ} {zr : ((Int × uZ) ⊕ uZ)} (h : GB_X12_laysSpans_4 w3 g4 = some zr) : B_X12_laysSpans_4 w3_ (zS g4) = some (em_3 zr) := by
  subst e_w3
  unfold GB_X12_laysSpans_4 at h
  unfold B_X12_laysSpans_4
  obtain ⟨hr1, h⟩ := ck_e h
  obtain ⟨hr2, h⟩ := ck_e h
  refine ite_r (c_le rfl rfl hr1 hr2) h ?_ ?_
  · clear h
    intro h
    cases h
    exact congrArg some (congrArg Sum.inr rfl)
  · clear h
    intro h
    refine ite_r (c_eq rfl kz_0 hr2 ir_0) h ?_ ?_
    · clear h
      intro h
      exact rJ_X12_laysSpans_2 rfl h
    · clear h
      intro h
      refine cp_r (e := zI) (fun _ h => rF_X12_lagOnPath rfl h) h ?_
      clear h
      intro v8 h
      obtain ⟨hr3, h⟩ := ck_e h
      refine lt_r (e_ite (c_le rfl kz_0 hr3 ir_0) kz_0 kz_1) h ?_
      clear h
      intro v10 h
      refine cp_r (e := zI) (fun _ h => rF_X12_lagOnPath (e_sub rfl kz_1) h) h ?_
      clear h
      intro v11 h
      obtain ⟨hr4, h⟩ := ck_e h
      refine lt_r (e_ite (c_le rfl kz_0 hr4 ir_0) kz_0 kz_1) h ?_
      clear h
      intro v13 h
      obtain ⟨hr5, h⟩ := ck_e h
      obtain ⟨hr6, h⟩ := ck_e h
      refine ite_r (c_eq rfl rfl hr5 hr6) h ?_ ?_
      · clear h
        intro h
        exact rJ_X12_laysSpans_3 rfl h
      · clear h
        intro h
        exact rJ_X12_laysSpans_2 rfl h
theorem rC_X12_laysSpans_5 {g5 : uZ} {zr : uZ} (h : GC_X12_laysSpans_5 g5 = some zr) : C_X12_laysSpans_5 (zS g5) = some (zS zr) := by
  unfold GC_X12_laysSpans_5 at h
  unfold C_X12_laysSpans_5
  refine wr_r (Nat.le_of_ble_eq_true rfl) rfl rfl h ?_
  clear h
  intro g19 h
  cases h
  rfl
theorem rF_X12_laysSpans {g : uZ} {zr : uZ} (h : GF_X12_laysSpans g = some zr) : F_X12_laysSpans (zS g) = some (zS zr) := by
  unfold GF_X12_laysSpans at h
  unfold F_X12_laysSpans
  refine cp_r (e := zS) (fun _ h => rF_X12_laysPath h) h ?_
  clear h
  intro g1 h
  refine pf_r kz_0 h ?_
  clear h
  intro g2 h
  refine lp_r em_2 zS (e_pair kz_0 rfl) (fun q r h => rB_X12_laysSpans_4 rfl h) h ?_
  clear h
  intro z h
  exact rC_X12_laysSpans_5 h
theorem rF_X12_isVoiced {a1_ : Int32} {a1 : Int} (e_a1 : a1_ = zI a1) {g : uZ} {zr : Int} (h : GF_X12_isVoiced a1 g = some zr) : F_X12_isVoiced a1_ (zS g) = some (zI zr) := by
  subst e_a1
  unfold GF_X12_isVoiced at h
  unfold F_X12_isVoiced
  refine rd_r (Nat.le_of_ble_eq_true rfl) rfl h ?_
  clear h
  intro v1 h
  refine cp_r (e := zI) (fun _ h => rF_X12_lagOnPath rfl h) h ?_
  clear h
  intro v2 h
  obtain ⟨hr1, h⟩ := ck_e h
  refine lt_r (e_ite (c_le rfl kz_0 hr1 ir_0) kz_0 kz_1) h ?_
  clear h
  intro v4 h
  refine bz_r rfl h ?_
  clear h
  intro h
  cases h
  rfl
theorem rF_X12_firstSample {a1_ : Int32} {a1 : Int} (e_a1 : a1_ = zI a1) {g : uZ} {zr : Int} (h : GF_X12_firstSample a1 g = some zr) : F_X12_firstSample a1_ (zS g) = some (zI zr) := by
  subst e_a1
  unfold GF_X12_firstSample at h
  unfold F_X12_firstSample
  refine rd_r (Nat.le_of_ble_eq_true rfl) rfl h ?_
  clear h
  intro v1 h
  refine rd_r (Nat.le_of_ble_eq_true rfl) kz_2 h ?_
  clear h
  intro v2 h
  cases h
  exact congrArg some (e_mul rfl rfl)
theorem rF_X12_behindSpan {a1_ : Int32} {a1 : Int} (e_a1 : a1_ = zI a1) {g : uZ} {zr : Int} (h : GF_X12_behindSpan a1 g = some zr) : F_X12_behindSpan a1_ (zS g) = some (zI zr) := by
  subst e_a1
  unfold GF_X12_behindSpan at h
  unfold F_X12_behindSpan
  refine rd_r (Nat.le_of_ble_eq_true rfl) (e_add rfl kz_1) h ?_
  clear h
  intro v1 h
  refine rd_r (Nat.le_of_ble_eq_true rfl) kz_2 h ?_
  clear h
  intro v2 h
  refine lt_r (e_mul rfl rfl) h ?_
  clear h
  intro v3 h
  obtain ⟨hr1, h⟩ := ck_e h
  obtain ⟨hr2, h⟩ := ck_e h
  refine lt_r (e_ite (c_le rfl rfl hr1 hr2) rfl rfl) h ?_
  clear h
  intro v5 h
  cases h
  rfl
theorem rF_X12_spans {g : uZ} {zr : (Int × uZ)} (h : GF_X12_spans g = some zr) : F_X12_spans (zS g) = some (em_2 zr) := by
  unfold GF_X12_spans at h
  unfold F_X12_spans
  refine pf_r kz_0 h ?_
  clear h
  intro g1 h
  refine cp_r (e := zS) (fun _ h => rF_X12_laysSpans h) h ?_
  clear h
  intro g2 h
  cases h
  exact congrArg some (e_pair rfl rfl)
theorem rF_X12_periodAt {a1_ : Int32} {a1 : Int} (e_a1 : a1_ = zI a1) {a2_ : Int32} {a2 : Int} (e_a2 : a2_ = zI a2) {g : uZ} {zr : Int} (h : GF_X12_periodAt a1 a2 g = some zr) : F_X12_periodAt a1_ a2_ (zS g) = some (zI zr) := by
  subst e_a1 e_a2
  unfold GF_X12_periodAt at h
  unfold F_X12_periodAt
  refine rd_r (Nat.le_of_ble_eq_true rfl) kz_2 h ?_
  clear h
  intro v1 h
  refine dv_r rfl rfl h ?_
  clear h
  intro v2 h
  refine rd_r (Nat.le_of_ble_eq_true rfl) (e_add rfl kz_1) h ?_
  clear h
  intro v3 h
  refine lt_r (e_sub rfl kz_1) h ?_
  clear h
  intro v4 h
  obtain ⟨hr1, h⟩ := ck_e h
  obtain ⟨hr2, h⟩ := ck_e h
  refine lt_r (e_ite (c_le rfl rfl hr1 hr2) rfl rfl) h ?_
  clear h
  intro v6 h
  refine cp_r (e := zI) (fun _ h => rF_X12_lagOnPath rfl h) h ?_
  clear h
  intro v7 h
  cases h
  rfl
theorem rF_X12_lesser {a1_ : Int32} {a1 : Int} (e_a1 : a1_ = zI a1) {a2_ : Int32} {a2 : Int} (e_a2 : a2_ = zI a2) {g : uZ} {zr : Int} (h : GF_X12_lesser a1 a2 g = some zr) : F_X12_lesser a1_ a2_ (zS g) = some (zI zr) := by
  subst e_a1 e_a2
  unfold GF_X12_lesser at h
  unfold F_X12_lesser
  obtain ⟨hr1, h⟩ := ck_e h
  obtain ⟨hr2, h⟩ := ck_e h
  refine lt_r (e_ite (c_le rfl rfl hr1 hr2) rfl rfl) h ?_
  clear h
  intro v2 h
  cases h
  rfl
theorem rJ_X12_laysBehind_3 {w9_ : Int32} {w9 : Int} (e_w9 : w9_ = zI w9) {v19_ : Int32} {v19 : Int} (e_v19 : v19_ = zI v19) {v20_ : Int32} {v20 : Int} (e_v20 : v20_ = zI v20) {zr : ((Int × (Int × Int)) ⊕ (Int × Int))} (h : GJ_X12_laysBehind_3 w9 v19 v20 = some zr) : J_X12_laysBehind_3 w9_ v19_ v20_ = some (em_10 zr) := by
  subst e_w9 e_v19 e_v20
  unfold GJ_X12_laysBehind_3 at h
  unfold J_X12_laysBehind_3
  refine lt_r (e_add rfl kz_1) h ?_
  clear h
  intro v21 h
  cases h
  exact congrArg some (congrArg Sum.inl (e_pair rfl (e_pair rfl rfl)))
theorem rJ_X12_laysBehind_2 {v16_ : Int32} {v16 : Int} (e_v16 : v16_ = zI v16) {w9_ : Int32} {w9 : Int} (e_w9 : w9_ = zI w9) {zr : ((Int × (Int × Int)) ⊕ (Int × Int))} (h : GJ_X12_laysBehind_2 v16 w9 = some zr) : J_X12_laysBehind_2 v16_ w9_ = some (em_10 zr) := by
  subst e_v16 e_w9
  unfold GJ_X12_laysBehind_2 at h
  unfold J_X12_laysBehind_2
  exact rJ_X12_laysBehind_3 rfl rfl rfl h
theorem rB_X12_laysBehind_4 {a2_ : Int32} {a2 : Int} (e_a2 : a2_ = zI a2) {v1_ : Int32} {v1 : Int} (e_v1 : v1_ = zI v1) {v6_ : Int32} {v6 : Int} (e_v6 : v6_ = zI v6) {g : uZ} {w7_ : Int32} {w7 : Int} (e_w7 : w7_ = zI w7) {w8_ : Int32} {w8 : Int} (e_w8 : w8_ = zI w8) {w9_ : Int32} {w9 : Int} (e_w9 : w9_ = zI w9) {zr : ((Int × (Int × Int)) ⊕ (Int × Int))} (h : GB_X12_laysBehind_4 a2 v1 v6 g w7 w8 w9 = some zr) : B_X12_laysBehind_4 a2_ v1_ v6_ (zS g) w7_ w8_ w9_ = some (em_10 zr) := by
  subst e_a2 e_v1 e_v6 e_w7 e_w8 e_w9
  unfold GB_X12_laysBehind_4 at h
  unfold B_X12_laysBehind_4
  obtain ⟨hr1, h⟩ := ck_e h
  obtain ⟨hr2, h⟩ := ck_e h
  refine ite_r (c_lt rfl rfl hr1 hr2) h ?_ ?_
  · clear h
    intro h
    cases h
    exact congrArg some (congrArg Sum.inr (e_pair rfl rfl))
  · clear h
    intro h
    refine rd_r (Nat.le_of_ble_eq_true rfl) rfl h ?_
    clear h
    intro v13 h
    refine rd_r (Nat.le_of_ble_eq_true rfl) kz_13 h ?_
    clear h
    intro v14 h
    refine cp_r (e := zI) (fun _ h => rF_X12_apart (e_sub rfl rfl) rfl h) h ?_
    clear h
    intro v15 h
    refine lt_r (e_sub rfl (e_mul rfl rfl)) h ?_
    clear h
    intro v16 h
    obtain ⟨hr3, h⟩ := ck_e h
    refine ite_r (c_eq rfl kz_m1 hr3 ir_m1) h ?_ ?_
    · clear h
      intro h
      exact rJ_X12_laysBehind_2 rfl rfl h
    · clear h
      intro h
      obtain ⟨hr4, h⟩ := ck_e h
      obtain ⟨hr5, h⟩ := ck_e h
      refine ite_r (c_le rfl rfl hr4 hr5) h ?_ ?_
      · clear h
        intro h
        exact rJ_X12_laysBehind_3 rfl rfl rfl h
      · clear h
        intro h
        exact rJ_X12_laysBehind_2 rfl rfl h
theorem rC_X12_laysBehind_5 {a2_ : Int32} {a2 : Int} (e_a2 : a2_ = zI a2) {g : uZ} {v10_ : Int32} {v10 : Int} (e_v10 : v10_ = zI v10) {v11_ : Int32} {v11 : Int} (e_v11 : v11_ = zI v11) {zr : uZ} (h : GC_X12_laysBehind_5 a2 g v10 v11 = some zr) : C_X12_laysBehind_5 a2_ (zS g) v10_ v11_ = some (zS zr) := by
  subst e_a2 e_v10 e_v11
  unfold GC_X12_laysBehind_5 at h
  unfold C_X12_laysBehind_5
  refine wr_r (Nat.le_of_ble_eq_true rfl) rfl rfl h ?_
  clear h
  intro g22 h
  refine rd_r (Nat.le_of_ble_eq_true rfl) rfl h ?_
  clear h
  intro v23 h
  refine wr_r (Nat.le_of_ble_eq_true rfl) rfl (e_add rfl rfl) h ?_
  clear h
  intro g24 h
  cases h
  rfl
theorem rF_X12_laysBehind {a1_ : Int32} {a1 : Int} (e_a1 : a1_ = zI a1) {a2_ : Int32} {a2 : Int} (e_a2 : a2_ = zI a2) {g : uZ} {zr : uZ} (h : GF_X12_laysBehind a1 a2 g = some zr) : F_X12_laysBehind a1_ a2_ (zS g) = some (zS zr) := by
  subst e_a1 e_a2
  unfold GF_X12_laysBehind at h
  unfold F_X12_laysBehind
  refine cp_r (e := zI) (fun _ h => rF_X12_periodAt rfl rfl h) h ?_
  clear h
  intro v1 h
  refine dv_r rfl kz_4 h ?_
  clear h
  intro v2 h
  refine lt_r (e_sub (e_add rfl rfl) rfl) h ?_
  clear h
  intro v3 h
  refine dv_r rfl kz_4 h ?_
  clear h
  intro v4 h
  refine cp_r (e := zI) (fun _ h => rF_X12_behindSpan rfl h) h ?_
  clear h
  intro v5 h
  refine cp_r (e := zI) (fun _ h => rF_X12_lesser (e_add (e_add rfl rfl) rfl) (e_sub rfl kz_1) h) h ?_
  clear h
  intro v6 h
  refine lp_r em_9 em_0 (e_pair kz_m1 (e_pair kz_0 rfl)) (fun q r h => rB_X12_laysBehind_4 rfl rfl rfl rfl rfl rfl h) h ?_
  clear h
  intro z h
  exact rC_X12_laysBehind_5 rfl rfl rfl h
theorem rB_X12_marksOf_2 {a1_ : Int32} {a1 : Int} (e_a1 : a1_ = zI a1) {v1_ : Int32} {v1 : Int} (e_v1 : v1_ = zI v1) {w4_ : Int32} {w4 : Int} (e_w4 : w4_ = zI w4) {g5 : uZ} {zr : ((Int × uZ) ⊕ uZ)} (h : GB_X12_marksOf_2 a1 v1 w4 g5 = some zr) : B_X12_marksOf_2 a1_ v1_ w4_ (zS g5) = some (em_3 zr) := by
  subst e_a1 e_v1 e_w4
  unfold GB_X12_marksOf_2 at h
  unfold B_X12_marksOf_2
  obtain ⟨hr1, h⟩ := ck_e h
  obtain ⟨hr2, h⟩ := ck_e h
  refine ite_r (c_lt rfl rfl hr1 hr2) h ?_ ?_
  · clear h
    intro h
    cases h
    exact congrArg some (congrArg Sum.inr rfl)
  · clear h
    intro h
    refine cp_r (e := zS) (fun _ h => rF_X12_laysBehind rfl rfl h) h ?_
    clear h
    intro g8 h
    refine lt_r (e_add rfl kz_m1) h ?_
    clear h
    intro v9 h
    cases h
    exact congrArg some (congrArg Sum.inl (e_pair rfl rfl))
theorem rB_X12_marksOf_4 {a1_ : Int32} {a1 : Int} (e_a1 : a1_ = zI a1) {v1_ : Int32} {v1 : Int} (e_v1 : v1_ = zI v1) {v2_ : Int32} {v2 : Int} (e_v2 : v2_ = zI v2) {g6 : uZ} {w10_ : Int32} {w10 : Int} (e_w10 : w10_ = zI w10) {w11_ : Int32} {w11 : Int} (e_w11 : w11_ = zI w11) {zr : ((Int × Int) ⊕ Int)} (h : GB_X12_marksOf_4 a1 v1 v2 g6 w10 w11 = some zr) : B_X12_marksOf_4 a1_ v1_ v2_ (zS g6) w10_ w11_ = some (em_1 zr) := by
  subst e_a1 e_v1 e_v2 e_w10 e_w11
  unfold GB_X12_marksOf_4 at h
  unfold B_X12_marksOf_4
  refine cp_r (e := zI) (fun _ h => rF_X12_periodAt rfl rfl h) h ?_
  clear h
  intro v13 h
  refine cp_r (e := zI) (fun _ h => rF_X12_lesser (e_add rfl rfl) rfl h) h ?_
  clear h
  intro v14 h
  obtain ⟨hr1, h⟩ := ck_e h
  obtain ⟨hr2, h⟩ := ck_e h
  refine ite_r (c_le rfl rfl hr1 hr2) h ?_ ?_
  · clear h
    intro h
    cases h
    exact congrArg some (congrArg Sum.inr rfl)
  · clear h
    intro h
    refine rd_r (Nat.le_of_ble_eq_true rfl) rfl h ?_
    clear h
    intro v16 h
    refine rd_r (Nat.le_of_ble_eq_true rfl) rfl h ?_
    clear h
    intro v17 h
    obtain ⟨hr3, h⟩ := ck_e h
    obtain ⟨hr4, h⟩ := ck_e h
    refine lt_r (e_ite (c_le rfl rfl hr3 hr4) rfl rfl) h ?_
    clear h
    intro v19 h
    refine lt_r (e_add rfl kz_1) h ?_
    clear h
    intro v20 h
    cases h
    exact congrArg some (congrArg Sum.inl (e_pair rfl rfl))
theorem rB_X12_marksOf_6 {a1_ : Int32} {a1 : Int} (e_a1 : a1_ = zI a1) {w23_ : Int32} {w23 : Int} (e_w23 : w23_ = zI w23) {g24 : uZ} {zr : ((Int × uZ) ⊕ uZ)} (h : GB_X12_marksOf_6 a1 w23 g24 = some zr) : B_X12_marksOf_6 a1_ w23_ (zS g24) = some (em_3 zr) := by
  subst e_a1 e_w23
  unfold GB_X12_marksOf_6 at h
  unfold B_X12_marksOf_6
  obtain ⟨hr1, h⟩ := ck_e h
  refine ite_r (c_eq rfl kz_m1 hr1 ir_m1) h ?_ ?_
  · clear h
    intro h
    cases h
    exact congrArg some (congrArg Sum.inr rfl)
  · clear h
    intro h
    refine wr_r (Nat.le_of_ble_eq_true rfl) rfl rfl h ?_
    clear h
    intro g27 h
    refine wr_r (Nat.le_of_ble_eq_true rfl) rfl rfl h ?_
    clear h
    intro g28 h
    refine pf_r (e_add rfl kz_1) h ?_
    clear h
    intro g29 h
    refine rd_r (Nat.le_of_ble_eq_true rfl) rfl h ?_
    clear h
    intro v30 h
    cases h
    exact congrArg some (congrArg Sum.inl (e_pair rfl rfl))
theorem rC_X12_marksOf_7 {g25 : uZ} {zr : uZ} (h : GC_X12_marksOf_7 g25 = some zr) : C_X12_marksOf_7 (zS g25) = some (zS zr) := by
  unfold GC_X12_marksOf_7 at h
  unfold C_X12_marksOf_7
  cases h
  rfl
theorem rC_X12_marksOf_8 {a1_ : Int32} {a1 : Int} (e_a1 : a1_ = zI a1) {g6 : uZ} {v12_ : Int32} {v12 : Int} (e_v12 : v12_ = zI v12) {zr : uZ} (h : GC_X12_marksOf_8 a1 g6 v12 = some zr) : C_X12_marksOf_8 a1_ (zS g6) v12_ = some (zS zr) := by
  subst e_a1 e_v12
  unfold GC_X12_marksOf_8 at h
  unfold C_X12_marksOf_8
  refine rd_r (Nat.le_of_ble_eq_true rfl) rfl h ?_
  clear h
  intro v21 h
  refine wr_r (Nat.le_of_ble_eq_true rfl) rfl rfl h ?_
  clear h
  intro g22 h
  refine lp_r em_2 zS (e_pair rfl rfl) (fun q r h => rB_X12_marksOf_6 rfl rfl h) h ?_
  clear h
  intro z h
  exact rC_X12_marksOf_7 h
theorem rC_X12_marksOf_9 {a1_ : Int32} {a1 : Int} (e_a1 : a1_ = zI a1) {v1_ : Int32} {v1 : Int} (e_v1 : v1_ = zI v1) {v2_ : Int32} {v2 : Int} (e_v2 : v2_ = zI v2) {g6 : uZ} {zr : uZ} (h : GC_X12_marksOf_9 a1 v1 v2 g6 = some zr) : C_X12_marksOf_9 a1_ v1_ v2_ (zS g6) = some (zS zr) := by
  subst e_a1 e_v1 e_v2
  unfold GC_X12_marksOf_9 at h
  unfold C_X12_marksOf_9
  refine lp_r em_0 zI (e_pair rfl rfl) (fun q r h => rB_X12_marksOf_4 rfl rfl rfl rfl rfl h) h ?_
  clear h
  intro z h
  exact rC_X12_marksOf_8 rfl rfl h
theorem rF_X12_marksOf {a1_ : Int32} {a1 : Int} (e_a1 : a1_ = zI a1) {g : uZ} {zr : uZ} (h : GF_X12_marksOf a1 g = some zr) : F_X12_marksOf a1_ (zS g) = some (zS zr) := by
  subst e_a1
  unfold GF_X12_marksOf at h
  unfold F_X12_marksOf
  refine cp_r (e := zI) (fun _ h => rF_X12_firstSample rfl h) h ?_
  clear h
  intro v1 h
  refine cp_r (e := zI) (fun _ h => rF_X12_behindSpan rfl h) h ?_
  clear h
  intro v2 h
  refine lt_r (e_sub rfl kz_1) h ?_
  clear h
  intro v3 h
  refine lp_r em_2 zS (e_pair rfl rfl) (fun q r h => rB_X12_marksOf_2 rfl rfl rfl h) h ?_
  clear h
  intro z h
  exact rC_X12_marksOf_9 rfl rfl rfl h
theorem rJ_X12_laysMarks_2 {w3_ : Int32} {w3 : Int} (e_w3 : w3_ = zI w3) {g12 : uZ} {zr : ((Int × uZ) ⊕ uZ)} (h : GJ_X12_laysMarks_2 w3 g12 = some zr) : J_X12_laysMarks_2 w3_ (zS g12) = some (em_3 zr) := by
  subst e_w3
  unfold GJ_X12_laysMarks_2 at h
  unfold J_X12_laysMarks_2
  refine lt_r (e_add rfl kz_1) h ?_
  clear h
  intro v13 h
  cases h
  exact congrArg some (congrArg Sum.inl (e_pair rfl rfl))
theorem rB_X12_laysMarks_3 {w3_ : Int32} {w3 : Int} (e_w3 : w3_ = zI w3) {g4 : uZ} {zr : ((Int × uZ) ⊕ uZ)} (h : GB_X12_laysMarks_3 w3 g4 = some zr) : B_X12_laysMarks_3 w3_ (zS g4) = some (em_3 zr) := by
  subst e_w3
  unfold GB_X12_laysMarks_3 at h
  unfold B_X12_laysMarks_3
  obtain ⟨hr1, h⟩ := ck_e h
  obtain ⟨hr2, h⟩ := ck_e h
  refine ite_r (c_le rfl rfl hr1 hr2) h ?_ ?_
  · clear h
    intro h
    cases h
    exact congrArg some (congrArg Sum.inr rfl)
  · clear h
    intro h
    refine wr_r (Nat.le_of_ble_eq_true rfl) rfl rfl h ?_
    clear h
    intro g7 h
    refine wr_r (Nat.le_of_ble_eq_true rfl) rfl kz_0 h ?_
    clear h
    intro g8 h
    refine cp_r (e := zI) (fun _ h => rF_X12_isVoiced rfl h) h ?_
    clear h
    intro v9 h
    obtain ⟨hr3, h⟩ := ck_e h
    refine ite_r (c_eq rfl kz_0 hr3 ir_0) h ?_ ?_
    · clear h
      intro h
      exact rJ_X12_laysMarks_2 rfl h
    · clear h
      intro h
      refine cp_r (e := zS) (fun _ h => rF_X12_marksOf rfl h) h ?_
      clear h
      intro g11 h
      exact rJ_X12_laysMarks_2 rfl h
theorem rC_X12_laysMarks_4 {g5 : uZ} {zr : uZ} (h : GC_X12_laysMarks_4 g5 = some zr) : C_X12_laysMarks_4 (zS g5) = some (zS zr) := by
  unfold GC_X12_laysMarks_4 at h
  unfold C_X12_laysMarks_4
  refine wr_r (Nat.le_of_ble_eq_true rfl) rfl rfl h ?_
  clear h
  intro g14 h
  cases h
  rfl
theorem rF_X12_laysMarks {g : uZ} {zr : uZ} (h : GF_X12_laysMarks g = some zr) : F_X12_laysMarks (zS g) = some (zS zr) := by
  unfold GF_X12_laysMarks at h
  unfold F_X12_laysMarks
  refine cp_r (e := zS) (fun _ h => rF_X12_laysSpans h) h ?_
  clear h
  intro g1 h
  refine pf_r kz_0 h ?_
  clear h
  intro g2 h
  refine lp_r em_2 zS (e_pair kz_0 rfl) (fun q r h => rB_X12_laysMarks_3 rfl h) h ?_
  clear h
  intro z h
  exact rC_X12_laysMarks_4 h
theorem rJ_X12_span_2 {a1_ : Int32} {a1 : Int} (e_a1 : a1_ = zI a1) {a2_ : Int32} {a2 : Int} (e_a2 : a2_ = zI a2) {g2 : uZ} {v7_ : Int32} {v7 : Int} (e_v7 : v7_ = zI v7) {zr : (Int × uZ)} (h : GJ_X12_span_2 a1 a2 g2 v7 = some zr) : J_X12_span_2 a1_ a2_ (zS g2) v7_ = some (em_2 zr) := by
  subst e_a1 e_a2 e_v7
  unfold GJ_X12_span_2 at h
  unfold J_X12_span_2
  refine cl_r (fun _ _ h => rF_X12_right rfl kz_1 h) h ?_
  clear h
  intro v9 g8 h
  obtain ⟨hr1, h⟩ := ck_e h
  refine ite_r (c_eq rfl kz_0 hr1 ir_0) h ?_ ?_
  · clear h
    intro h
    cases h
    exact congrArg some (e_pair kz_0 rfl)
  · clear h
    intro h
    obtain ⟨hr2, h⟩ := ck_e h
    refine ite_r (c_eq rfl kz_0 hr2 ir_0) h ?_ ?_
    · clear h
      intro h
      refine rd_r (Nat.le_of_ble_eq_true rfl) rfl h ?_
      clear h
      intro v12 h
      cases h
      exact congrArg some (e_pair rfl rfl)
    · clear h
      intro h
      refine ite_r (c_eq rfl kz_1 hr2 ir_1) h ?_ ?_
      · clear h
        intro h
        refine rd_r (Nat.le_of_ble_eq_true rfl) (e_add rfl kz_1) h ?_
        clear h
        intro v14 h
        refine rd_r (Nat.le_of_ble_eq_true rfl) rfl h ?_
        clear h
        intro v15 h
        cases h
        exact congrArg some (e_pair (e_sub rfl rfl) rfl)
      · clear h
        intro h
        refine ite_r (c_eq rfl kz_2 hr2 ir_2) h ?_ ?_
        · clear h
          intro h
          refine cp_r (e := zI) (fun _ h => rF_X12_isVoiced rfl h) h ?_
          clear h
          intro v17 h
          obtain ⟨hr3, h⟩ := ck_e h
          refine lt_r (e_ite (c_eq rfl kz_0 hr3 ir_0) kz_0 kz_1) h ?_
          clear h
          intro v19 h
          cases h
          exact congrArg some (e_pair rfl rfl)
        · clear h
          intro h
          refine ite_r (c_eq rfl kz_3 hr2 ir_3) h ?_ ?_
          · clear h
            intro h
            refine cp_r (e := zI) (fun _ h => rF_X12_firstSample rfl h) h ?_
            clear h
            intro v21 h
            cases h
            exact congrArg some (e_pair rfl rfl)
          · clear h
            intro h
            refine ite_r (c_eq rfl kz_4 hr2 ir_4) h ?_ ?_
            · clear h
              intro h
              refine cp_r (e := zI) (fun _ h => rF_X12_behindSpan rfl h) h ?_
              clear h
              intro v23 h
              cases h
              exact congrArg some (e_pair rfl rfl)
            · clear h
              intro h
              refine ite_r (c_eq rfl kz_5 hr2 ir_5) h ?_ ?_
              · clear h
                intro h
                refine rd_r (Nat.le_of_ble_eq_true rfl) (e_add rfl kz_1) h ?_
                clear h
                intro v25 h
                refine rd_r (Nat.le_of_ble_eq_true rfl) rfl h ?_
                clear h
                intro v26 h
                cases h
                exact congrArg some (e_pair (e_sub rfl rfl) rfl)
              · clear h
                intro h
                refine rd_r (Nat.le_of_ble_eq_true rfl) rfl h ?_
                clear h
                intro v27 h
                cases h
                exact congrArg some (e_pair rfl rfl)

theorem rJ_X12_span_1 {a1_ : Int32} {a1 : Int} (e_a1 : a1_ = zI a1) {a2_ : Int32} {a2 : Int} (e_a2 : a2_ = zI a2) {g2 : uZ} {zr : (Int × uZ)} (h : GJ_X12_span_1 a1 a2 g2 = some zr) : J_X12_span_1 a1_ a2_ (zS g2) = some (em_2 zr) := by
  subst e_a1 e_a2
  unfold GJ_X12_span_1 at h
  unfold J_X12_span_1
  exact rJ_X12_span_2 rfl rfl kz_0 h
theorem rF_X12_span {a1_ : Int32} {a1 : Int} (e_a1 : a1_ = zI a1) {a2_ : Int32} {a2 : Int} (e_a2 : a2_ = zI a2) {g : uZ} {zr : (Int × uZ)} (h : GF_X12_span a1 a2 g = some zr) : F_X12_span a1_ a2_ (zS g) = some (em_2 zr) := by
  subst e_a1 e_a2
  unfold GF_X12_span at h
  unfold F_X12_span
  refine pf_r kz_0 h ?_
  clear h
  intro g1 h
  refine cp_r (e := zS) (fun _ h => rF_X12_laysMarks h) h ?_
  clear h
  intro g2 h
  refine cp_r (e := zI) (fun _ h => rF_X12_isIn rfl kz_0 (e_sub rfl kz_1) h) h ?_
  clear h
  intro v3 h
  obtain ⟨hr1, h⟩ := ck_e h
  refine ite_r (c_eq rfl kz_0 hr1 ir_0) h ?_ ?_
  · clear h
    intro h
    exact rJ_X12_span_1 rfl rfl h
  · clear h
    intro h
    refine cp_r (e := zI) (fun _ h => rF_X12_isIn rfl kz_0 kz_6 h) h ?_
    clear h
    intro v5 h
    obtain ⟨hr2, h⟩ := ck_e h
    refine ite_r (c_eq rfl kz_0 hr2 ir_0) h ?_ ?_
    · clear h
      intro h
      exact rJ_X12_span_1 rfl rfl h
    · clear h
      intro h
      exact rJ_X12_span_2 rfl rfl kz_1 h
theorem rB_X12_sorts_2 {a2_ : Int32} {a2 : Int} (e_a2 : a2_ = zI a2) {w1_ : Int32} {w1 : Int} (e_w1 : w1_ = zI w1) {g2 : uZ} {zr : ((Int × uZ) ⊕ (Int × uZ))} (h : GB_X12_sorts_2 a2 w1 g2 = some zr) : B_X12_sorts_2 a2_ w1_ (zS g2) = some (em_20 zr) := by
  subst e_a2 e_w1
  unfold GB_X12_sorts_2 at h
  unfold B_X12_sorts_2
  obtain ⟨hr1, h⟩ := ck_e h
  refine ite_r (c_le rfl kz_0 hr1 ir_0) h ?_ ?_
  · clear h
    intro h
    cases h
    exact congrArg some (congrArg Sum.inr (e_pair rfl rfl))
  · clear h
    intro h
    refine rd_r (Nat.le_of_ble_eq_true rfl) (e_sub rfl kz_1) h ?_
    clear h
    intro v6 h
    obtain ⟨hr2, h⟩ := ck_e h
    obtain ⟨hr3, h⟩ := ck_e h
    refine ite_r (c_le rfl rfl hr2 hr3) h ?_ ?_
    · clear h
      intro h
      cases h
      exact congrArg some (congrArg Sum.inr (e_pair rfl rfl))
    · clear h
      intro h
      refine rd_r (Nat.le_of_ble_eq_true rfl) (e_sub rfl kz_1) h ?_
      clear h
      intro v8 h
      refine wr_r (Nat.le_of_ble_eq_true rfl) rfl rfl h ?_
      clear h
      intro g9 h
      refine lt_r (e_add rfl kz_m1) h ?_
      clear h
      intro v10 h
      cases h
      exact congrArg some (congrArg Sum.inl (e_pair rfl rfl))
theorem rC_X12_sorts_3 {a1_ : Int32} {a1 : Int} (e_a1 : a1_ = zI a1) {a2_ : Int32} {a2 : Int} (e_a2 : a2_ = zI a2) {v3_ : Int32} {v3 : Int} (e_v3 : v3_ = zI v3) {g4 : uZ} {zr : (Int × uZ)} (h : GC_X12_sorts_3 a1 a2 v3 g4 = some zr) : C_X12_sorts_3 a1_ a2_ v3_ (zS g4) = some (em_2 zr) := by
  subst e_a1 e_a2 e_v3
  unfold GC_X12_sorts_3 at h
  unfold C_X12_sorts_3
  refine wr_r (Nat.le_of_ble_eq_true rfl) rfl rfl h ?_
  clear h
  intro g11 h
  cases h
  exact congrArg some (e_pair (e_add rfl kz_1) rfl)
theorem rF_X12_sorts {a1_ : Int32} {a1 : Int} (e_a1 : a1_ = zI a1) {a2_ : Int32} {a2 : Int} (e_a2 : a2_ = zI a2) {g : uZ} {zr : (Int × uZ)} (h : GF_X12_sorts a1 a2 g = some zr) : F_X12_sorts a1_ a2_ (zS g) = some (em_2 zr) := by
  subst e_a1 e_a2
  unfold GF_X12_sorts at h
  unfold F_X12_sorts
  refine lp_r em_2 em_2 (e_pair rfl rfl) (fun q r h => rB_X12_sorts_2 rfl rfl h) h ?_
  clear h
  intro z h
  exact rC_X12_sorts_3 rfl rfl rfl h
theorem rB_X12_middleOf_2 {a1_ : Int32} {a1 : Int} (e_a1 : a1_ = zI a1) {a2_ : Int32} {a2 : Int} (e_a2 : a2_ = zI a2) {w1_ : Int32} {w1 : Int} (e_w1 : w1_ = zI w1) {w2_ : Int32} {w2 : Int} (e_w2 : w2_ = zI w2) {g3 : uZ} {zr : ((Int × (Int × uZ)) ⊕ (Int × uZ))} (h : GB_X12_middleOf_2 a1 a2 w1 w2 g3 = some zr) : B_X12_middleOf_2 a1_ a2_ w1_ w2_ (zS g3) = some (em_6 zr) := by
  subst e_a1 e_a2 e_w1 e_w2
  unfold GB_X12_middleOf_2 at h
  unfold B_X12_middleOf_2
  obtain ⟨hr1, h⟩ := ck_e h
  obtain ⟨hr2, h⟩ := ck_e h
  refine ite_r (c_le (e_add rfl rfl) rfl hr1 hr2) h ?_ ?_
  · clear h
    intro h
    cases h
    exact congrArg some (congrArg Sum.inr (e_pair rfl rfl))
  · clear h
    intro h
    refine cp_r (e := zI) (fun _ h => rF_X12_lagOnPath rfl h) h ?_
    clear h
    intro v7 h
    refine cl_r (fun _ _ h => rF_X12_sorts rfl rfl h) h ?_
    clear h
    intro v9 g8 h
    refine lt_r (e_add rfl kz_1) h ?_
    clear h
    intro v10 h
    cases h
    exact congrArg some (congrArg Sum.inl (e_pair rfl (e_pair rfl rfl)))
theorem rC_X12_middleOf_3 {v4_ : Int32} {v4 : Int} (e_v4 : v4_ = zI v4) {g5 : uZ} {zr : (Int × uZ)} (h : GC_X12_middleOf_3 v4 g5 = some zr) : C_X12_middleOf_3 v4_ (zS g5) = some (em_2 zr) := by
  subst e_v4
  unfold GC_X12_middleOf_3 at h
  unfold C_X12_middleOf_3
  refine dv_r (e_sub rfl kz_1) kz_2 h ?_
  clear h
  intro v11 h
  refine rd_r (Nat.le_of_ble_eq_true rfl) rfl h ?_
  clear h
  intro v12 h
  cases h
  exact congrArg some (e_pair rfl rfl)
theorem rF_X12_middleOf {a1_ : Int32} {a1 : Int} (e_a1 : a1_ = zI a1) {a2_ : Int32} {a2 : Int} (e_a2 : a2_ = zI a2) {g : uZ} {zr : (Int × uZ)} (h : GF_X12_middleOf a1 a2 g = some zr) : F_X12_middleOf a1_ a2_ (zS g) = some (em_2 zr) := by
  subst e_a1 e_a2
  unfold GF_X12_middleOf at h
  unfold F_X12_middleOf
  refine lp_r em_4 em_2 (e_pair kz_0 (e_pair rfl rfl)) (fun q r h => rB_X12_middleOf_2 rfl rfl rfl rfl h) h ?_
  clear h
  intro z h
  exact rC_X12_middleOf_3 rfl h
theorem rJ_X12_goesOnNote_2 {v7_ : Int32} {v7 : Int} (e_v7 : v7_ = zI v7) {zr : Int} (h : GJ_X12_goesOnNote_2 v7 = some zr) : J_X12_goesOnNote_2 v7_ = some (zI zr) := by
  subst e_v7
  unfold GJ_X12_goesOnNote_2 at h
  unfold J_X12_goesOnNote_2
  refine bz_r rfl h ?_
  clear h
  intro h
  cases h
  rfl
theorem rJ_X12_goesOnNote_1 {zr : Int} (h : GJ_X12_goesOnNote_1 = some zr) : J_X12_goesOnNote_1 = some (zI zr) := by
  unfold GJ_X12_goesOnNote_1 at h
  unfold J_X12_goesOnNote_1
  exact rJ_X12_goesOnNote_2 kz_0 h
theorem rF_X12_goesOnNote {a1_ : Int32} {a1 : Int} (e_a1 : a1_ = zI a1) {g : uZ} {zr : Int} (h : GF_X12_goesOnNote a1 g = some zr) : F_X12_goesOnNote a1_ (zS g) = some (zI zr) := by
  subst e_a1
  unfold GF_X12_goesOnNote at h
  unfold F_X12_goesOnNote
  refine cp_r (e := zI) (fun _ h => rF_X12_lagOnPath (e_sub rfl kz_1) h) h ?_
  clear h
  intro v1 h
  refine cp_r (e := zI) (fun _ h => rF_X12_lagOnPath rfl h) h ?_
  clear h
  intro v2 h
  obtain ⟨hr1, h⟩ := ck_e h
  refine ite_r (c_le rfl kz_0 hr1 ir_0) h ?_ ?_
  · clear h
    intro h
    exact rJ_X12_goesOnNote_1 h
  · clear h
    intro h
    obtain ⟨hr2, h⟩ := ck_e h
    refine ite_r (c_le rfl kz_0 hr2 ir_0) h ?_ ?_
    · clear h
      intro h
      exact rJ_X12_goesOnNote_1 h
    · clear h
      intro h
      refine cp_r (e := zI) (fun _ h => rF_X12_apart rfl rfl h) h ?_
      clear h
      intro v5 h
      obtain ⟨hr3, h⟩ := ck_e h
      refine ite_r (c_lt kz_1 rfl ir_1 hr3) h ?_ ?_
      · clear h
        intro h
        exact rJ_X12_goesOnNote_1 h
      · clear h
        intro h
        exact rJ_X12_goesOnNote_2 kz_1 h
theorem rB_X12_laysNotes_3 {g4 : uZ} {w8_ : Int32} {w8 : Int} (e_w8 : w8_ = zI w8) {zr : (Int ⊕ Int)} (h : GB_X12_laysNotes_3 g4 w8 = some zr) : B_X12_laysNotes_3 (zS g4) w8_ = some (em_12 zr) := by
  subst e_w8
  unfold GB_X12_laysNotes_3 at h
  unfold B_X12_laysNotes_3
  obtain ⟨hr1, h⟩ := ck_e h
  obtain ⟨hr2, h⟩ := ck_e h
  refine ite_r (c_le rfl rfl hr1 hr2) h ?_ ?_
  · clear h
    intro h
    cases h
    exact congrArg some (congrArg Sum.inr rfl)
  · clear h
    intro h
    refine cp_r (e := zI) (fun _ h => rF_X12_goesOnNote rfl h) h ?_
    clear h
    intro v11 h
    obtain ⟨hr3, h⟩ := ck_e h
    refine ite_r (c_eq rfl kz_0 hr3 ir_0) h ?_ ?_
    · clear h
      intro h
      cases h
      exact congrArg some (congrArg Sum.inr rfl)
    · clear h
      intro h
      refine lt_r (e_add rfl kz_1) h ?_
      clear h
      intro v13 h
      cases h
      exact congrArg some (congrArg Sum.inl rfl)
theorem rJ_X12_laysNotes_4 {v9_ : Int32} {v9 : Int} (e_v9 : v9_ = zI v9) {g22 : uZ} {zr : ((Int × uZ) ⊕ uZ)} (h : GJ_X12_laysNotes_4 v9 g22 = some zr) : J_X12_laysNotes_4 v9_ (zS g22) = some (em_3 zr) := by
  subst e_v9
  unfold GJ_X12_laysNotes_4 at h
  unfold J_X12_laysNotes_4
  cases h
  exact congrArg some (congrArg Sum.inl (e_pair rfl rfl))
theorem rC_X12_laysNotes_5 {w3_ : Int32} {w3 : Int} (e_w3 : w3_ = zI w3) {g4 : uZ} {v9_ : Int32} {v9 : Int} (e_v9 : v9_ = zI v9) {zr : ((Int × uZ) ⊕ uZ)} (h : GC_X12_laysNotes_5 w3 g4 v9 = some zr) : C_X12_laysNotes_5 w3_ (zS g4) v9_ = some (em_3 zr) := by
  subst e_w3 e_v9
  unfold GC_X12_laysNotes_5 at h
  unfold C_X12_laysNotes_5
  refine cp_r (e := zI) (fun _ h => rF_X12_lagOnPath rfl h) h ?_
  clear h
  intro v14 h
  obtain ⟨hr1, h⟩ := ck_e h
  refine ite_r (c_le rfl kz_0 hr1 ir_0) h ?_ ?_
  · clear h
    intro h
    exact rJ_X12_laysNotes_4 rfl h
  · clear h
    intro h
    refine wr_r (Nat.le_of_ble_eq_true rfl) rfl rfl h ?_
    clear h
    intro g16 h
    refine wr_r (Nat.le_of_ble_eq_true rfl) rfl (e_sub rfl rfl) h ?_
    clear h
    intro g17 h
    refine cl_r (fun _ _ h => rF_X12_middleOf rfl (e_sub rfl rfl) h) h ?_
    clear h
    intro v19 g18 h
    refine wr_r (Nat.le_of_ble_eq_true rfl) rfl rfl h ?_
    clear h
    intro g20 h
    refine pf_r (e_add rfl kz_1) h ?_
    clear h
    intro g21 h
    exact rJ_X12_laysNotes_4 rfl h
theorem rB_X12_laysNotes_6 {w3_ : Int32} {w3 : Int} (e_w3 : w3_ = zI w3) {g4 : uZ} {zr : ((Int × uZ) ⊕ uZ)} (h : GB_X12_laysNotes_6 w3 g4 = some zr) : B_X12_laysNotes_6 w3_ (zS g4) = some (em_3 zr) := by
  subst e_w3
  unfold GB_X12_laysNotes_6 at h
  unfold B_X12_laysNotes_6
  obtain ⟨hr1, h⟩ := ck_e h
  obtain ⟨hr2, h⟩ := ck_e h
  refine ite_r (c_le rfl rfl hr1 hr2) h ?_ ?_
  · clear h
    intro h
    cases h
    exact congrArg some (congrArg Sum.inr rfl)
  · clear h
    intro h
    refine lt_r (e_add rfl kz_1) h ?_
    clear h
    intro v7 h
    refine lp_r zI zI rfl (fun q r h => rB_X12_laysNotes_3 rfl h) h ?_
    clear h
    intro z h
    exact rC_X12_laysNotes_5 rfl rfl h
theorem rC_X12_laysNotes_7 {g5 : uZ} {zr : uZ} (h : GC_X12_laysNotes_7 g5 = some zr) : C_X12_laysNotes_7 (zS g5) = some (zS zr) := by
  unfold GC_X12_laysNotes_7 at h
  unfold C_X12_laysNotes_7
  cases h
  rfl
theorem rF_X12_laysNotes {g : uZ} {zr : uZ} (h : GF_X12_laysNotes g = some zr) : F_X12_laysNotes (zS g) = some (zS zr) := by
  unfold GF_X12_laysNotes at h
  unfold F_X12_laysNotes
  refine cp_r (e := zS) (fun _ h => rF_X12_laysPath h) h ?_
  clear h
  intro g1 h
  refine pf_r kz_0 h ?_
  clear h
  intro g2 h
  refine lp_r em_2 zS (e_pair kz_0 rfl) (fun q r h => rB_X12_laysNotes_6 rfl h) h ?_
  clear h
  intro z h
  exact rC_X12_laysNotes_7 h
theorem rF_X12_notes {g : uZ} {zr : (Int × uZ)} (h : GF_X12_notes g = some zr) : F_X12_notes (zS g) = some (em_2 zr) := by
  unfold GF_X12_notes at h
  unfold F_X12_notes
  refine pf_r kz_0 h ?_
  clear h
  intro g1 h
  refine cp_r (e := zS) (fun _ h => rF_X12_laysNotes h) h ?_
  clear h
  intro g2 h
  cases h
  exact congrArg some (e_pair rfl rfl)
theorem rJ_X12_note_2 {g8 : uZ} {v16_ : Int32} {v16 : Int} (e_v16 : v16_ = zI v16) {zr : (Int × uZ)} (h : GJ_X12_note_2 g8 v16 = some zr) : J_X12_note_2 (zS g8) v16_ = some (em_2 zr) := by
  subst e_v16
  unfold GJ_X12_note_2 at h
  unfold J_X12_note_2
  cases h
  exact congrArg some (e_pair rfl rfl)
theorem rJ_X12_note_3 {a1_ : Int32} {a1 : Int} (e_a1 : a1_ = zI a1) {a2_ : Int32} {a2 : Int} (e_a2 : a2_ = zI a2) {g2 : uZ} {v7_ : Int32} {v7 : Int} (e_v7 : v7_ = zI v7) {zr : (Int × uZ)} (h : GJ_X12_note_3 a1 a2 g2 v7 = some zr) : J_X12_note_3 a1_ a2_ (zS g2) v7_ = some (em_2 zr) := by
  subst e_a1 e_a2 e_v7
  unfold GJ_X12_note_3 at h
  unfold J_X12_note_3
  refine cl_r (fun _ _ h => rF_X12_right rfl kz_1 h) h ?_
  clear h
  intro v9 g8 h
  obtain ⟨hr1, h⟩ := ck_e h
  refine ite_r (c_eq rfl kz_0 hr1 ir_0) h ?_ ?_
  · clear h
    intro h
    cases h
    exact congrArg some (e_pair kz_0 rfl)
  · clear h
    intro h
    obtain ⟨hr2, h⟩ := ck_e h
    refine ite_r (c_eq rfl kz_0 hr2 ir_0) h ?_ ?_
    · clear h
      intro h
      refine rd_r (Nat.le_of_ble_eq_true rfl) rfl h ?_
      clear h
      intro v15 h
      exact rJ_X12_note_2 rfl h
    · clear h
      intro h
      refine ite_r (c_eq rfl kz_1 hr2 ir_1) h ?_ ?_
      · clear h
        intro h
        refine rd_r (Nat.le_of_ble_eq_true rfl) rfl h ?_
        clear h
        intro v14 h
        exact rJ_X12_note_2 rfl h
      · clear h
        intro h
        refine rd_r (Nat.le_of_ble_eq_true rfl) rfl h ?_
        clear h
        intro v13 h
        exact rJ_X12_note_2 rfl h
theorem rJ_X12_note_1 {a1_ : Int32} {a1 : Int} (e_a1 : a1_ = zI a1) {a2_ : Int32} {a2 : Int} (e_a2 : a2_ = zI a2) {g2 : uZ} {zr : (Int × uZ)} (h : GJ_X12_note_1 a1 a2 g2 = some zr) : J_X12_note_1 a1_ a2_ (zS g2) = some (em_2 zr) := by
  subst e_a1 e_a2
  unfold GJ_X12_note_1 at h
  unfold J_X12_note_1
  exact rJ_X12_note_3 rfl rfl kz_0 h
theorem rF_X12_note {a1_ : Int32} {a1 : Int} (e_a1 : a1_ = zI a1) {a2_ : Int32} {a2 : Int} (e_a2 : a2_ = zI a2) {g : uZ} {zr : (Int × uZ)} (h : GF_X12_note a1 a2 g = some zr) : F_X12_note a1_ a2_ (zS g) = some (em_2 zr) := by
  subst e_a1 e_a2
  unfold GF_X12_note at h
  unfold F_X12_note
  refine pf_r kz_0 h ?_
  clear h
  intro g1 h
  refine cp_r (e := zS) (fun _ h => rF_X12_laysNotes h) h ?_
  clear h
  intro g2 h
  refine cp_r (e := zI) (fun _ h => rF_X12_isIn rfl kz_0 (e_sub rfl kz_1) h) h ?_
  clear h
  intro v3 h
  obtain ⟨hr1, h⟩ := ck_e h
  refine ite_r (c_eq rfl kz_0 hr1 ir_0) h ?_ ?_
  · clear h
    intro h
    exact rJ_X12_note_1 rfl rfl h
  · clear h
    intro h
    refine cp_r (e := zI) (fun _ h => rF_X12_isIn rfl kz_0 kz_2 h) h ?_
    clear h
    intro v5 h
    obtain ⟨hr2, h⟩ := ck_e h
    refine ite_r (c_eq rfl kz_0 hr2 ir_0) h ?_ ?_
    · clear h
      intro h
      exact rJ_X12_note_1 rfl rfl h
    · clear h
      intro h
      exact rJ_X12_note_3 rfl rfl kz_1 h
theorem rB_X12_steady_3 {w9_ : Int32} {w9 : Int} (e_w9 : w9_ = zI w9) {g6 : uZ} {w14_ : Int32} {w14 : Int} (e_w14 : w14_ = zI w14) {zr : (Int ⊕ Int)} (h : GB_X12_steady_3 w9 g6 w14 = some zr) : B_X12_steady_3 w9_ (zS g6) w14_ = some (em_12 zr) := by
  subst e_w9 e_w14
  unfold GB_X12_steady_3 at h
  unfold B_X12_steady_3
  obtain ⟨hr1, h⟩ := ck_e h
  obtain ⟨hr2, h⟩ := ck_e h
  refine ite_r (c_le rfl rfl hr1 hr2) h ?_ ?_
  · clear h
    intro h
    cases h
    exact congrArg some (congrArg Sum.inr rfl)
  · clear h
    intro h
    refine cp_r (e := zI) (fun _ h => rF_X12_lagOnPath rfl h) h ?_
    clear h
    intro v17 h
    refine cp_r (e := zI) (fun _ h => rF_X12_lagOnPath rfl h) h ?_
    clear h
    intro v18 h
    obtain ⟨hr3, h⟩ := ck_e h
    obtain ⟨hr4, h⟩ := ck_e h
    refine ite_r (c_eq rfl rfl hr3 hr4) h ?_ ?_
    · clear h
      intro h
      refine lt_r (e_add rfl kz_1) h ?_
      clear h
      intro v20 h
      cases h
      exact congrArg some (congrArg Sum.inl rfl)
    · clear h
      intro h
      cases h
      exact congrArg some (congrArg Sum.inr rfl)
theorem rJ_X12_steady_4 {v15_ : Int32} {v15 : Int} (e_v15 : v15_ = zI v15) {v25_ : Int32} {v25 : Int} (e_v25 : v25_ = zI v25) {v26_ : Int32} {v26 : Int} (e_v26 : v26_ = zI v26) {zr : ((Int × (Int × Int)) ⊕ (Int × Int))} (h : GJ_X12_steady_4 v15 v25 v26 = some zr) : J_X12_steady_4 v15_ v25_ v26_ = some (em_10 zr) := by
  subst e_v15 e_v25 e_v26
  unfold GJ_X12_steady_4 at h
  unfold J_X12_steady_4
  cases h
  exact congrArg some (congrArg Sum.inl (e_pair rfl (e_pair rfl rfl)))
theorem rC_X12_steady_5 {w7_ : Int32} {w7 : Int} (e_w7 : w7_ = zI w7) {w8_ : Int32} {w8 : Int} (e_w8 : w8_ = zI w8) {w9_ : Int32} {w9 : Int} (e_w9 : w9_ = zI w9) {g6 : uZ} {v15_ : Int32} {v15 : Int} (e_v15 : v15_ = zI v15) {zr : ((Int × (Int × Int)) ⊕ (Int × Int))} (h : GC_X12_steady_5 w7 w8 w9 g6 v15 = some zr) : C_X12_steady_5 w7_ w8_ w9_ (zS g6) v15_ = some (em_10 zr) := by
  subst e_w7 e_w8 e_w9 e_v15
  unfold GC_X12_steady_5 at h
  unfold C_X12_steady_5
  refine cp_r (e := zI) (fun _ h => rF_X12_lagOnPath rfl h) h ?_
  clear h
  intro v21 h
  obtain ⟨hr1, h⟩ := ck_e h
  refine ite_r (c_le rfl kz_0 hr1 ir_0) h ?_ ?_
  · clear h
    intro h
    exact rJ_X12_steady_4 rfl rfl rfl h
  · clear h
    intro h
    obtain ⟨hr2, h⟩ := ck_e h
    obtain ⟨hr3, h⟩ := ck_e h
    refine ite_r (c_le (e_sub rfl rfl) rfl hr2 hr3) h ?_ ?_
    · clear h
      intro h
      exact rJ_X12_steady_4 rfl rfl rfl h
    · clear h
      intro h
      refine lt_r (e_sub rfl rfl) h ?_
      clear h
      intro v24 h
      exact rJ_X12_steady_4 rfl rfl rfl h
theorem rB_X12_steady_6 {g6 : uZ} {w7_ : Int32} {w7 : Int} (e_w7 : w7_ = zI w7) {w8_ : Int32} {w8 : Int} (e_w8 : w8_ = zI w8) {w9_ : Int32} {w9 : Int} (e_w9 : w9_ = zI w9) {zr : ((Int × (Int × Int)) ⊕ (Int × Int))} (h : GB_X12_steady_6 g6 w7 w8 w9 = some zr) : B_X12_steady_6 (zS g6) w7_ w8_ w9_ = some (em_10 zr) := by
  subst e_w7 e_w8 e_w9
  unfold GB_X12_steady_6 at h
  unfold B_X12_steady_6
  obtain ⟨hr1, h⟩ := ck_e h
  obtain ⟨hr2, h⟩ := ck_e h
  refine ite_r (c_le rfl rfl hr1 hr2) h ?_ ?_
  · clear h
    intro h
    cases h
    exact congrArg some (congrArg Sum.inr (e_pair rfl rfl))
  · clear h
    intro h
    refine lt_r (e_add rfl kz_1) h ?_
    clear h
    intro v13 h
    refine lp_r zI zI rfl (fun q r h => rB_X12_steady_3 rfl rfl h) h ?_
    clear h
    intro z h
    exact rC_X12_steady_5 rfl rfl rfl rfl h
theorem rJ_X12_steady_7 {g6 : uZ} {v32_ : Int32} {v32 : Int} (e_v32 : v32_ = zI v32) {zr : (Int × uZ)} (h : GJ_X12_steady_7 g6 v32 = some zr) : J_X12_steady_7 (zS g6) v32_ = some (em_2 zr) := by
  subst e_v32
  unfold GJ_X12_steady_7 at h
  unfold J_X12_steady_7
  cases h
  exact congrArg some (e_pair rfl rfl)
theorem rC_X12_steady_8 {a1_ : Int32} {a1 : Int} (e_a1 : a1_ = zI a1) {g6 : uZ} {v10_ : Int32} {v10 : Int} (e_v10 : v10_ = zI v10) {v11_ : Int32} {v11 : Int} (e_v11 : v11_ = zI v11) {zr : (Int × uZ)} (h : GC_X12_steady_8 a1 g6 v10 v11 = some zr) : C_X12_steady_8 a1_ (zS g6) v10_ v11_ = some (em_2 zr) := by
  subst e_a1 e_v10 e_v11
  unfold GC_X12_steady_8 at h
  unfold C_X12_steady_8
  obtain ⟨hr1, h⟩ := ck_e h
  refine ite_r (c_eq rfl kz_2 hr1 ir_2) h ?_ ?_
  · clear h
    intro h
    obtain ⟨hr2, h⟩ := ck_e h
    refine ite_r (c_eq rfl kz_m1 hr2 ir_m1) h ?_ ?_
    · clear h
      intro h
      exact rJ_X12_steady_7 kz_0 h
    · clear h
      intro h
      refine cp_r (e := zI) (fun _ h => rF_X12_lagOnPath rfl h) h ?_
      clear h
      intro v31 h
      exact rJ_X12_steady_7 rfl h
  · clear h
    intro h
    refine lt_r (e_ite (c_eq rfl kz_0 hr1 ir_0) rfl rfl) h ?_
    clear h
    intro v29 h
    cases h
    exact congrArg some (e_pair rfl rfl)
theorem rF_X12_steady {a1_ : Int32} {a1 : Int} (e_a1 : a1_ = zI a1) {g : uZ} {zr : (Int × uZ)} (h : GF_X12_steady a1 g = some zr) : F_X12_steady a1_ (zS g) = some (em_2 zr) := by
  subst e_a1
  unfold GF_X12_steady at h
  unfold F_X12_steady
  refine pf_r kz_0 h ?_
  clear h
  intro g1 h
  refine cp_r (e := zI) (fun _ h => rF_X12_isIn rfl kz_0 kz_2 h) h ?_
  clear h
  intro v2 h
  refine cl_r (fun _ _ h => rF_X12_right rfl kz_1 h) h ?_
  clear h
  intro v4 g3 h
  obtain ⟨hr1, h⟩ := ck_e h
  refine ite_r (c_eq rfl kz_0 hr1 ir_0) h ?_ ?_
  · clear h
    intro h
    cases h
    exact congrArg some (e_pair kz_0 rfl)
  · clear h
    intro h
    refine cp_r (e := zS) (fun _ h => rF_X12_laysPath h) h ?_
    clear h
    intro g6 h
    refine lp_r em_9 em_0 (e_pair kz_m1 (e_pair kz_0 kz_0)) (fun q r h => rB_X12_steady_6 rfl rfl rfl h) h ?_
    clear h
    intro z h
    exact rC_X12_steady_8 rfl rfl rfl h
theorem rB_X12_laysOften_2 {w2_ : Int32} {w2 : Int} (e_w2 : w2_ = zI w2) {g3 : uZ} {zr : ((Int × uZ) ⊕ uZ)} (h : GB_X12_laysOften_2 w2 g3 = some zr) : B_X12_laysOften_2 w2_ (zS g3) = some (em_3 zr) := by
  subst e_w2
  unfold GB_X12_laysOften_2 at h
  unfold B_X12_laysOften_2
  obtain ⟨hr1, h⟩ := ck_e h
  refine ite_r (c_le kz_50 rfl ir_50 hr1) h ?_ ?_
  · clear h
    intro h
    cases h
    exact congrArg some (congrArg Sum.inr rfl)
  · clear h
    intro h
    refine wr_r (Nat.le_of_ble_eq_true rfl) rfl kz_0 h ?_
    clear h
    intro g6 h
    refine lt_r (e_add rfl kz_1) h ?_
    clear h
    intro v7 h
    cases h
    exact congrArg some (congrArg Sum.inl (e_pair rfl rfl))
theorem rB_X12_laysOften_4 {w8_ : Int32} {w8 : Int} (e_w8 : w8_ = zI w8) {g9 : uZ} {zr : ((Int × uZ) ⊕ uZ)} (h : GB_X12_laysOften_4 w8 g9 = some zr) : B_X12_laysOften_4 w8_ (zS g9) = some (em_3 zr) := by
  subst e_w8
  unfold GB_X12_laysOften_4 at h
  unfold B_X12_laysOften_4
  obtain ⟨hr1, h⟩ := ck_e h
  obtain ⟨hr2, h⟩ := ck_e h
  refine ite_r (c_le rfl rfl hr1 hr2) h ?_ ?_
  · clear h
    intro h
    cases h
    exact congrArg some (congrArg Sum.inr rfl)
  · clear h
    intro h
    refine cp_r (e := zI) (fun _ h => rF_X12_lagOnPath rfl h) h ?_
    clear h
    intro v12 h
    refine rd_r (Nat.le_of_ble_eq_true rfl) rfl h ?_
    clear h
    intro v13 h
    refine wr_r (Nat.le_of_ble_eq_true rfl) rfl (e_add rfl kz_1) h ?_
    clear h
    intro g14 h
    refine lt_r (e_add rfl kz_1) h ?_
    clear h
    intro v15 h
    cases h
    exact congrArg some (congrArg Sum.inl (e_pair rfl rfl))
theorem rC_X12_laysOften_5 {g10 : uZ} {zr : uZ} (h : GC_X12_laysOften_5 g10 = some zr) : C_X12_laysOften_5 (zS g10) = some (zS zr) := by
  unfold GC_X12_laysOften_5 at h
  unfold C_X12_laysOften_5
  refine wr_r (Nat.le_of_ble_eq_true rfl) kz_0 kz_0 h ?_
  clear h
  intro g16 h
  cases h
  rfl
theorem rC_X12_laysOften_6 {g4 : uZ} {zr : uZ} (h : GC_X12_laysOften_6 g4 = some zr) : C_X12_laysOften_6 (zS g4) = some (zS zr) := by
  unfold GC_X12_laysOften_6 at h
  unfold C_X12_laysOften_6
  refine lp_r em_2 zS (e_pair kz_0 rfl) (fun q r h => rB_X12_laysOften_4 rfl h) h ?_
  clear h
  intro z h
  exact rC_X12_laysOften_5 h
theorem rF_X12_laysOften {g : uZ} {zr : uZ} (h : GF_X12_laysOften g = some zr) : F_X12_laysOften (zS g) = some (zS zr) := by
  unfold GF_X12_laysOften at h
  unfold F_X12_laysOften
  refine cp_r (e := zS) (fun _ h => rF_X12_laysPath h) h ?_
  clear h
  intro g1 h
  refine lp_r em_2 zS (e_pair kz_0 rfl) (fun q r h => rB_X12_laysOften_2 rfl h) h ?_
  clear h
  intro z h
  exact rC_X12_laysOften_6 h
theorem rB_X12_lags_2 {g2 : uZ} {w3_ : Int32} {w3 : Int} (e_w3 : w3_ = zI w3) {w4_ : Int32} {w4 : Int} (e_w4 : w4_ = zI w4) {zr : ((Int × Int) ⊕ Int)} (h : GB_X12_lags_2 g2 w3 w4 = some zr) : B_X12_lags_2 (zS g2) w3_ w4_ = some (em_1 zr) := by
  subst e_w3 e_w4
  unfold GB_X12_lags_2 at h
  unfold B_X12_lags_2
  obtain ⟨hr1, h⟩ := ck_e h
  refine ite_r (c_le kz_50 rfl ir_50 hr1) h ?_ ?_
  · clear h
    intro h
    cases h
    exact congrArg some (congrArg Sum.inr rfl)
  · clear h
    intro h
    refine rd_r (Nat.le_of_ble_eq_true rfl) rfl h ?_
    clear h
    intro v7 h
    obtain ⟨hr2, h⟩ := ck_e h
    refine lt_r (e_ite (c_le rfl kz_0 hr2 ir_0) kz_0 kz_1) h ?_
    clear h
    intro v9 h
    refine lt_r (e_add rfl rfl) h ?_
    clear h
    intro v10 h
    refine lt_r (e_add rfl kz_1) h ?_
    clear h
    intro v11 h
    cases h
    exact congrArg some (congrArg Sum.inl (e_pair rfl rfl))
theorem rC_X12_lags_3 {g2 : uZ} {v5_ : Int32} {v5 : Int} (e_v5 : v5_ = zI v5) {zr : (Int × uZ)} (h : GC_X12_lags_3 g2 v5 = some zr) : C_X12_lags_3 (zS g2) v5_ = some (em_2 zr) := by
  subst e_v5
  unfold GC_X12_lags_3 at h
  unfold C_X12_lags_3
  cases h
  exact congrArg some (e_pair rfl rfl)
theorem rF_X12_lags {g : uZ} {zr : (Int × uZ)} (h : GF_X12_lags g = some zr) : F_X12_lags (zS g) = some (em_2 zr) := by
  unfold GF_X12_lags at h
  unfold F_X12_lags
  refine pf_r kz_0 h ?_
  clear h
  intro g1 h
  refine cp_r (e := zS) (fun _ h => rF_X12_laysOften h) h ?_
  clear h
  intro g2 h
  refine lp_r em_0 zI (e_pair kz_0 kz_1) (fun q r h => rB_X12_lags_2 rfl rfl h) h ?_
  clear h
  intro z h
  exact rC_X12_lags_3 rfl h
theorem rJ_X12_lagAt_2 {g14 : uZ} {v19_ : Int32} {v19 : Int} (e_v19 : v19_ = zI v19) {zr : ((Int × (Int × uZ)) ⊕ (uZ ⊕ (Int × uZ)))} (h : GJ_X12_lagAt_2 g14 v19 = some zr) : J_X12_lagAt_2 (zS g14) v19_ = some (em_22 zr) := by
  subst e_v19
  unfold GJ_X12_lagAt_2 at h
  unfold J_X12_lagAt_2
  cases h
  exact congrArg some (congrArg Sum.inr (congrArg Sum.inr (e_pair rfl rfl)))
theorem rJ_X12_lagAt_3 {w4_ : Int32} {w4 : Int} (e_w4 : w4_ = zI w4) {g5 : uZ} {v20_ : Int32} {v20 : Int} (e_v20 : v20_ = zI v20) {zr : ((Int × (Int × uZ)) ⊕ (uZ ⊕ (Int × uZ)))} (h : GJ_X12_lagAt_3 w4 g5 v20 = some zr) : J_X12_lagAt_3 w4_ (zS g5) v20_ = some (em_22 zr) := by
  subst e_w4 e_v20
  unfold GJ_X12_lagAt_3 at h
  unfold J_X12_lagAt_3
  refine lt_r (e_add rfl kz_1) h ?_
  clear h
  intro v21 h
  cases h
  exact congrArg some (congrArg Sum.inl (e_pair rfl (e_pair rfl rfl)))
theorem rB_X12_lagAt_4 {a1_ : Int32} {a1 : Int} (e_a1 : a1_ = zI a1) {a2_ : Int32} {a2 : Int} (e_a2 : a2_ = zI a2) {w3_ : Int32} {w3 : Int} (e_w3 : w3_ = zI w3) {w4_ : Int32} {w4 : Int} (e_w4 : w4_ = zI w4) {g5 : uZ} {zr : ((Int × (Int × uZ)) ⊕ (uZ ⊕ (Int × uZ)))} (h : GB_X12_lagAt_4 a1 a2 w3 w4 g5 = some zr) : B_X12_lagAt_4 a1_ a2_ w3_ w4_ (zS g5) = some (em_22 zr) := by
  subst e_a1 e_a2 e_w3 e_w4
  unfold GB_X12_lagAt_4 at h
  unfold B_X12_lagAt_4
  obtain ⟨hr1, h⟩ := ck_e h
  refine ite_r (c_le kz_50 rfl ir_50 hr1) h ?_ ?_
  · clear h
    intro h
    cases h
    exact congrArg some (congrArg Sum.inr (congrArg Sum.inl rfl))
  · clear h
    intro h
    obtain ⟨hr2, h⟩ := ck_e h
    refine ite_r (c_lt rfl kz_0 hr2 ir_0) h ?_ ?_
    · clear h
      intro h
      cases h
      exact congrArg some (congrArg Sum.inr (congrArg Sum.inl rfl))
    · clear h
      intro h
      refine rd_r (Nat.le_of_ble_eq_true rfl) rfl h ?_
      clear h
      intro v9 h
      obtain ⟨hr3, h⟩ := ck_e h
      refine ite_r (c_eq rfl kz_0 hr3 ir_0) h ?_ ?_
      · clear h
        intro h
        exact rJ_X12_lagAt_3 rfl rfl h
      · clear h
        intro h
        obtain ⟨hr4, h⟩ := ck_e h
        refine ite_r (c_eq rfl kz_0 hr4 ir_0) h ?_ ?_
        · clear h
          intro h
          refine cp_r (e := zI) (fun _ h => rF_X12_isIn rfl kz_0 kz_1 h) h ?_
          clear h
          intro v13 h
          refine cl_r (fun _ _ h => rF_X12_right rfl kz_1 h) h ?_
          clear h
          intro v15 g14 h
          obtain ⟨hr5, h⟩ := ck_e h
          refine ite_r (c_eq rfl kz_0 hr5 ir_0) h ?_ ?_
          · clear h
            intro h
            exact rJ_X12_lagAt_2 kz_0 h
          · clear h
            intro h
            obtain ⟨hr6, h⟩ := ck_e h
            refine ite_r (c_eq rfl kz_0 hr6 ir_0) h ?_ ?_
            · clear h
              intro h
              exact rJ_X12_lagAt_2 rfl h
            · clear h
              intro h
              refine rd_r (Nat.le_of_ble_eq_true rfl) rfl h ?_
              clear h
              intro v18 h
              exact rJ_X12_lagAt_2 rfl h
        · clear h
          intro h
          refine lt_r (e_add rfl kz_m1) h ?_
          clear h
          intro v12 h
          exact rJ_X12_lagAt_3 rfl rfl h
theorem rC_X12_lagAt_5 {g6 : uZ} {zr : (Int × uZ)} (h : GC_X12_lagAt_5 g6 = some zr) : C_X12_lagAt_5 (zS g6) = some (em_2 zr) := by
  unfold GC_X12_lagAt_5 at h
  unfold C_X12_lagAt_5
  refine cl_r (fun _ _ h => rF_X12_right kz_0 kz_1 h) h ?_
  clear h
  intro v23 g22 h
  cases h
  exact congrArg some (e_pair kz_0 rfl)
theorem rF_X12_lagAt {a1_ : Int32} {a1 : Int} (e_a1 : a1_ = zI a1) {a2_ : Int32} {a2 : Int} (e_a2 : a2_ = zI a2) {g : uZ} {zr : (Int × uZ)} (h : GF_X12_lagAt a1 a2 g = some zr) : F_X12_lagAt a1_ a2_ (zS g) = some (em_2 zr) := by
  subst e_a1 e_a2
  unfold GF_X12_lagAt at h
  unfold F_X12_lagAt
  refine pf_r kz_0 h ?_
  clear h
  intro g1 h
  refine cp_r (e := zS) (fun _ h => rF_X12_laysOften h) h ?_
  clear h
  intro g2 h
  refine lp_r em_4 em_21 (e_pair rfl (e_pair kz_1 rfl)) (fun q r h => rB_X12_lagAt_4 rfl rfl rfl rfl h) h ?_
  clear h
  intro z h
  rcases z with z | z
  · exact rC_X12_lagAt_5 h
  · cases h
    rfl
theorem rB_X12_inMiddle_2 {g : uZ} {w2_ : Int32} {w2 : Int} (e_w2 : w2_ = zI w2) {w3_ : Int32} {w3 : Int} (e_w3 : w3_ = zI w3) {zr : ((Int × Int) ⊕ Int)} (h : GB_X12_inMiddle_2 g w2 w3 = some zr) : B_X12_inMiddle_2 (zS g) w2_ w3_ = some (em_1 zr) := by
  subst e_w2 e_w3
  unfold GB_X12_inMiddle_2 at h
  unfold B_X12_inMiddle_2
  refine rd_r (Nat.le_of_ble_eq_true rfl) rfl h ?_
  clear h
  intro v5 h
  obtain ⟨hr1, h⟩ := ck_e h
  obtain ⟨hr2, h⟩ := ck_e h
  refine ite_r (c_lt rfl rfl hr1 hr2) h ?_ ?_
  · clear h
    intro h
    cases h
    exact congrArg some (congrArg Sum.inr rfl)
  · clear h
    intro h
    refine rd_r (Nat.le_of_ble_eq_true rfl) rfl h ?_
    clear h
    intro v7 h
    refine lt_r (e_sub rfl rfl) h ?_
    clear h
    intro v8 h
    refine lt_r (e_add rfl kz_1) h ?_
    clear h
    intro v9 h
    cases h
    exact congrArg some (congrArg Sum.inl (e_pair rfl rfl))
theorem rC_X12_inMiddle_3 {v4_ : Int32} {v4 : Int} (e_v4 : v4_ = zI v4) {zr : Int} (h : GC_X12_inMiddle_3 v4 = some zr) : C_X12_inMiddle_3 v4_ = some (zI zr) := by
  subst e_v4
  unfold GC_X12_inMiddle_3 at h
  unfold C_X12_inMiddle_3
  cases h
  rfl
theorem rF_X12_inMiddle {a1_ : Int32} {a1 : Int} (e_a1 : a1_ = zI a1) {g : uZ} {zr : Int} (h : GF_X12_inMiddle a1 g = some zr) : F_X12_inMiddle a1_ (zS g) = some (zI zr) := by
  subst e_a1
  unfold GF_X12_inMiddle at h
  unfold F_X12_inMiddle
  refine dv_r (e_sub rfl kz_1) kz_2 h ?_
  clear h
  intro v1 h
  refine lp_r em_0 zI (e_pair rfl kz_1) (fun q r h => rB_X12_inMiddle_2 rfl rfl h) h ?_
  clear h
  intro z h
  exact rC_X12_inMiddle_3 rfl h
theorem rJ_X12_common_3 {v14_ : Int32} {v14 : Int} (e_v14 : v14_ = zI v14) {w9_ : Int32} {w9 : Int} (e_w9 : w9_ = zI w9) {v21_ : Int32} {v21 : Int} (e_v21 : v21_ = zI v21) {zr : ((Int × (Int × Int)) ⊕ (Int × Int))} (h : GJ_X12_common_3 v14 w9 v21 = some zr) : J_X12_common_3 v14_ w9_ v21_ = some (em_10 zr) := by
  subst e_v14 e_w9 e_v21
  unfold GJ_X12_common_3 at h
  unfold J_X12_common_3
  refine lt_r (e_add rfl kz_1) h ?_
  clear h
  intro v22 h
  cases h
  exact congrArg some (congrArg Sum.inl (e_pair rfl (e_pair rfl rfl)))
theorem rJ_X12_common_2 {v14_ : Int32} {v14 : Int} (e_v14 : v14_ = zI v14) {w9_ : Int32} {w9 : Int} (e_w9 : w9_ = zI w9) {zr : ((Int × (Int × Int)) ⊕ (Int × Int))} (h : GJ_X12_common_2 v14 w9 = some zr) : J_X12_common_2 v14_ w9_ = some (em_10 zr) := by
  subst e_v14 e_w9
  unfold GJ_X12_common_2 at h
  unfold J_X12_common_2
  exact rJ_X12_common_3 rfl rfl rfl h
theorem rB_X12_common_4 {g6 : uZ} {w7_ : Int32} {w7 : Int} (e_w7 : w7_ = zI w7) {w8_ : Int32} {w8 : Int} (e_w8 : w8_ = zI w8) {w9_ : Int32} {w9 : Int} (e_w9 : w9_ = zI w9) {zr : ((Int × (Int × Int)) ⊕ (Int × Int))} (h : GB_X12_common_4 g6 w7 w8 w9 = some zr) : B_X12_common_4 (zS g6) w7_ w8_ w9_ = some (em_10 zr) := by
  subst e_w7 e_w8 e_w9
  unfold GB_X12_common_4 at h
  unfold B_X12_common_4
  obtain ⟨hr1, h⟩ := ck_e h
  refine ite_r (c_le kz_50 rfl ir_50 hr1) h ?_ ?_
  · clear h
    intro h
    cases h
    exact congrArg some (congrArg Sum.inr (e_pair rfl rfl))
  · clear h
    intro h
    refine rd_r (Nat.le_of_ble_eq_true rfl) rfl h ?_
    clear h
    intro v13 h
    refine lt_r (e_add rfl rfl) h ?_
    clear h
    intro v14 h
    refine rd_r (Nat.le_of_ble_eq_true rfl) rfl h ?_
    clear h
    intro v15 h
    obtain ⟨hr2, h⟩ := ck_e h
    refine ite_r (c_le rfl kz_0 hr2 ir_0) h ?_ ?_
    · clear h
      intro h
      exact rJ_X12_common_3 rfl rfl rfl h
    · clear h
      intro h
      obtain ⟨hr3, h⟩ := ck_e h
      refine ite_r (c_eq rfl kz_m1 hr3 ir_m1) h ?_ ?_
      · clear h
        intro h
        exact rJ_X12_common_2 rfl rfl h
      · clear h
        intro h
        refine rd_r (Nat.le_of_ble_eq_true rfl) rfl h ?_
        clear h
        intro v18 h
        refine rd_r (Nat.le_of_ble_eq_true rfl) rfl h ?_
        clear h
        intro v19 h
        obtain ⟨hr4, h⟩ := ck_e h
        obtain ⟨hr5, h⟩ := ck_e h
        refine ite_r (c_le rfl rfl hr4 hr5) h ?_ ?_
        · clear h
          intro h
          exact rJ_X12_common_3 rfl rfl rfl h
        · clear h
          intro h
          exact rJ_X12_common_2 rfl rfl h
theorem rJ_X12_common_6 {g6 : uZ} {v26_ : Int32} {v26 : Int} (e_v26 : v26_ = zI v26) {zr : (Int × uZ)} (h : GJ_X12_common_6 g6 v26 = some zr) : J_X12_common_6 (zS g6) v26_ = some (em_2 zr) := by
  subst e_v26
  unfold GJ_X12_common_6 at h
  unfold J_X12_common_6
  cases h
  exact congrArg some (e_pair rfl rfl)
theorem rJ_X12_common_5 {v10_ : Int32} {v10 : Int} (e_v10 : v10_ = zI v10) {g6 : uZ} {zr : (Int × uZ)} (h : GJ_X12_common_5 v10 g6 = some zr) : J_X12_common_5 v10_ (zS g6) = some (em_2 zr) := by
  subst e_v10
  unfold GJ_X12_common_5 at h
  unfold J_X12_common_5
  exact rJ_X12_common_6 rfl h
theorem rC_X12_common_7 {a1_ : Int32} {a1 : Int} (e_a1 : a1_ = zI a1) {g6 : uZ} {v10_ : Int32} {v10 : Int} (e_v10 : v10_ = zI v10) {v11_ : Int32} {v11 : Int} (e_v11 : v11_ = zI v11) {zr : (Int × uZ)} (h : GC_X12_common_7 a1 g6 v10 v11 = some zr) : C_X12_common_7 a1_ (zS g6) v10_ v11_ = some (em_2 zr) := by
  subst e_a1 e_v10 e_v11
  unfold GC_X12_common_7 at h
  unfold C_X12_common_7
  obtain ⟨hr1, h⟩ := ck_e h
  refine ite_r (c_eq rfl kz_0 hr1 ir_0) h ?_ ?_
  · clear h
    intro h
    exact rJ_X12_common_5 rfl h
  · clear h
    intro h
    obtain ⟨hr2, h⟩ := ck_e h
    refine ite_r (c_eq rfl kz_0 hr2 ir_0) h ?_ ?_
    · clear h
      intro h
      exact rJ_X12_common_5 rfl h
    · clear h
      intro h
      refine cp_r (e := zI) (fun _ h => rF_X12_inMiddle rfl h) h ?_
      clear h
      intro v25 h
      exact rJ_X12_common_6 rfl h
theorem rF_X12_common {a1_ : Int32} {a1 : Int} (e_a1 : a1_ = zI a1) {g : uZ} {zr : (Int × uZ)} (h : GF_X12_common a1 g = some zr) : F_X12_common a1_ (zS g) = some (em_2 zr) := by
  subst e_a1
  unfold GF_X12_common at h
  unfold F_X12_common
  refine pf_r kz_0 h ?_
  clear h
  intro g1 h
  refine cp_r (e := zI) (fun _ h => rF_X12_isIn rfl kz_0 kz_1 h) h ?_
  clear h
  intro v2 h
  refine cl_r (fun _ _ h => rF_X12_right rfl kz_1 h) h ?_
  clear h
  intro v4 g3 h
  obtain ⟨hr1, h⟩ := ck_e h
  refine ite_r (c_eq rfl kz_0 hr1 ir_0) h ?_ ?_
  · clear h
    intro h
    cases h
    exact congrArg some (e_pair kz_0 rfl)
  · clear h
    intro h
    refine cp_r (e := zS) (fun _ h => rF_X12_laysOften h) h ?_
    clear h
    intro g6 h
    refine lp_r em_9 em_0 (e_pair kz_m1 (e_pair kz_0 kz_1)) (fun q r h => rB_X12_common_4 rfl rfl rfl h) h ?_
    clear h
    intro z h
    exact rC_X12_common_7 rfl rfl rfl h
theorem rJ_X12_tune_1 {g1 : uZ} {zr : (Int × uZ)} (h : GJ_X12_tune_1 g1 = some zr) : J_X12_tune_1 (zS g1) = some (em_2 zr) := by
  unfold GJ_X12_tune_1 at h
  unfold J_X12_tune_1
  cases h
  exact congrArg some (e_pair kz_m1000 rfl)
theorem rF_X12_tune {a1_ : Int32} {a1 : Int} (e_a1 : a1_ = zI a1) {g : uZ} {zr : (Int × uZ)} (h : GF_X12_tune a1 g = some zr) : F_X12_tune a1_ (zS g) = some (em_2 zr) := by
  subst e_a1
  unfold GF_X12_tune at h
  unfold F_X12_tune
  refine pf_r kz_0 h ?_
  clear h
  intro g1 h
  refine cp_r (e := zI) (fun _ h => rF_X12_isIn rfl kz_1 kz_48 h) h ?_
  clear h
  intro v2 h
  obtain ⟨hr1, h⟩ := ck_e h
  refine ite_r (c_eq rfl kz_0 hr1 ir_0) h ?_ ?_
  · clear h
    intro h
    exact rJ_X12_tune_1 h
  · clear h
    intro h
    obtain ⟨hr2, h⟩ := ck_e h
    refine ite_r (c_eq rfl kz_12 hr2 ir_12) h ?_ ?_
    · clear h
      intro h
      exact rJ_X12_tune_1 h
    · clear h
      intro h
      refine wr_r (Nat.le_of_ble_eq_true rfl) rfl rfl h ?_
      clear h
      intro g5 h
      refine pf_r (e_add rfl kz_1) h ?_
      clear h
      intro g6 h
      cases h
      exact congrArg some (e_pair rfl rfl)
theorem rF_X12_hush {g : uZ} {zr : (Int × uZ)} (h : GF_X12_hush g = some zr) : F_X12_hush (zS g) = some (em_2 zr) := by
  unfold GF_X12_hush at h
  unfold F_X12_hush
  refine pf_r kz_0 h ?_
  clear h
  intro g1 h
  refine lt_r rfl h ?_
  clear h
  intro v2 h
  refine pf_r kz_0 h ?_
  clear h
  intro g3 h
  cases h
  exact congrArg some (e_pair rfl rfl)
theorem rF_X12_matchAt {a1_ : Int32} {a1 : Int} (e_a1 : a1_ = zI a1) {a2_ : Int32} {a2 : Int} (e_a2 : a2_ = zI a2) {g : uZ} {zr : Int} (h : GF_X12_matchAt a1 a2 g = some zr) : F_X12_matchAt a1_ a2_ (zS g) = some (zI zr) := by
  subst e_a1 e_a2
  unfold GF_X12_matchAt at h
  unfold F_X12_matchAt
  cases h
  exact congrArg some (e_add (e_mul kz_111 rfl) rfl)
theorem rF_X12_pairCost {a1_ : Int32} {a1 : Int} (e_a1 : a1_ = zI a1) {a2_ : Int32} {a2 : Int} (e_a2 : a2_ = zI a2) {g : uZ} {zr : Int} (h : GF_X12_pairCost a1 a2 g = some zr) : F_X12_pairCost a1_ a2_ (zS g) = some (zI zr) := by
  subst e_a1 e_a2
  unfold GF_X12_pairCost at h
  unfold F_X12_pairCost
  refine rd_r (Nat.le_of_ble_eq_true rfl) rfl h ?_
  clear h
  intro v1 h
  refine rd_r (Nat.le_of_ble_eq_true rfl) rfl h ?_
  clear h
  intro v2 h
  refine cp_r (e := zI) (fun _ h => rF_X12_apart rfl rfl h) h ?_
  clear h
  intro v3 h
  cases h
  exact congrArg some (e_mul kz_10 rfl)
theorem rB_X12_goesMatch_3 {v8_ : Int32} {v8 : Int} (e_v8 : v8_ = zI v8) {w2_ : Int32} {w2 : Int} (e_w2 : w2_ = zI w2) {w3_ : Int32} {w3 : Int} (e_w3 : w3_ = zI w3) {g4 : uZ} {w9_ : Int32} {w9 : Int} (e_w9 : w9_ = zI w9) {zr : (Int ⊕ Int)} (h : GB_X12_goesMatch_3 v8 w2 w3 g4 w9 = some zr) : B_X12_goesMatch_3 v8_ w2_ w3_ (zS g4) w9_ = some (em_12 zr) := by
  subst e_v8 e_w2 e_w3 e_w9
  unfold GB_X12_goesMatch_3 at h
  unfold B_X12_goesMatch_3
  obtain ⟨hr1, h⟩ := ck_e h
  obtain ⟨hr2, h⟩ := ck_e h
  refine ite_r (c_le rfl rfl hr1 hr2) h ?_ ?_
  · clear h
    intro h
    cases h
    exact congrArg some (congrArg Sum.inr rfl)
  · clear h
    intro h
    refine rd_r (Nat.le_of_ble_eq_true rfl) kz_15 h ?_
    clear h
    intro v12 h
    refine cp_r (e := zI) (fun _ h => rF_X12_pairCost rfl rfl h) h ?_
    clear h
    intro v13 h
    refine cp_r (e := zI) (fun _ h => rF_X12_matchAt (e_add rfl kz_1) (e_add rfl kz_1) h) h ?_
    clear h
    intro v14 h
    refine rd_r (Nat.le_of_ble_eq_true rfl) rfl h ?_
    clear h
    intro v15 h
    obtain ⟨hr3, h⟩ := ck_e h
    obtain ⟨hr4, h⟩ := ck_e h
    refine ite_r (c_eq (e_add (e_add (e_mul (e_sub rfl rfl) rfl) rfl) rfl) rfl hr3 hr4) h ?_ ?_
    · clear h
      intro h
      cases h
      exact congrArg some (congrArg Sum.inr rfl)
    · clear h
      intro h
      refine lt_r (e_add rfl kz_1) h ?_
      clear h
      intro v17 h
      cases h
      exact congrArg some (congrArg Sum.inl rfl)
theorem rJ_X12_goesMatch_4 {w3_ : Int32} {w3 : Int} (e_w3 : w3_ = zI w3) {v24_ : Int32} {v24 : Int} (e_v24 : v24_ = zI v24) {g25 : uZ} {zr : ((Int × (Int × uZ)) ⊕ uZ)} (h : GJ_X12_goesMatch_4 w3 v24 g25 = some zr) : J_X12_goesMatch_4 w3_ v24_ (zS g25) = some (em_5 zr) := by
  subst e_w3 e_v24
  unfold GJ_X12_goesMatch_4 at h
  unfold J_X12_goesMatch_4
  refine lt_r (e_add rfl kz_1) h ?_
  clear h
  intro v26 h
  cases h
  exact congrArg some (congrArg Sum.inl (e_pair rfl (e_pair rfl rfl)))
theorem rC_X12_goesMatch_5 {w2_ : Int32} {w2 : Int} (e_w2 : w2_ = zI w2) {w3_ : Int32} {w3 : Int} (e_w3 : w3_ = zI w3) {g4 : uZ} {v10_ : Int32} {v10 : Int} (e_v10 : v10_ = zI v10) {zr : ((Int × (Int × uZ)) ⊕ uZ)} (h : GC_X12_goesMatch_5 w2 w3 g4 v10 = some zr) : C_X12_goesMatch_5 w2_ w3_ (zS g4) v10_ = some (em_5 zr) := by
  subst e_w2 e_w3 e_v10
  unfold GC_X12_goesMatch_5 at h
  unfold C_X12_goesMatch_5
  obtain ⟨hr1, h⟩ := ck_e h
  obtain ⟨hr2, h⟩ := ck_e h
  refine lt_r (e_ite (c_le rfl rfl hr1 hr2) kz_m1 rfl) h ?_
  clear h
  intro v19 h
  refine wr_r (Nat.le_of_ble_eq_true rfl) rfl rfl h ?_
  clear h
  intro g20 h
  obtain ⟨hr3, h⟩ := ck_e h
  refine ite_r (c_le rfl rfl hr3 hr2) h ?_ ?_
  · clear h
    intro h
    exact rJ_X12_goesMatch_4 rfl rfl h
  · clear h
    intro h
    refine pf_r (e_add rfl kz_1) h ?_
    clear h
    intro g22 h
    refine lt_r (e_add rfl kz_1) h ?_
    clear h
    intro v23 h
    exact rJ_X12_goesMatch_4 rfl rfl h
theorem rB_X12_goesMatch_6 {w2_ : Int32} {w2 : Int} (e_w2 : w2_ = zI w2) {w3_ : Int32} {w3 : Int} (e_w3 : w3_ = zI w3) {g4 : uZ} {zr : ((Int × (Int × uZ)) ⊕ uZ)} (h : GB_X12_goesMatch_6 w2 w3 g4 = some zr) : B_X12_goesMatch_6 w2_ w3_ (zS g4) = some (em_5 zr) := by
  subst e_w2 e_w3
  unfold GB_X12_goesMatch_6 at h
  unfold B_X12_goesMatch_6
  obtain ⟨hr1, h⟩ := ck_e h
  obtain ⟨hr2, h⟩ := ck_e h
  refine ite_r (c_le rfl rfl hr1 hr2) h ?_ ?_
  · clear h
    intro h
    cases h
    exact congrArg some (congrArg Sum.inr rfl)
  · clear h
    intro h
    refine cp_r (e := zI) (fun _ h => rF_X12_matchAt rfl rfl h) h ?_
    clear h
    intro v7 h
    refine rd_r (Nat.le_of_ble_eq_true rfl) rfl h ?_
    clear h
    intro v8 h
    refine lp_r zI zI rfl (fun q r h => rB_X12_goesMatch_3 rfl rfl rfl rfl h) h ?_
    clear h
    intro z h
    exact rC_X12_goesMatch_5 rfl rfl rfl h
theorem rC_X12_goesMatch_7 {g5 : uZ} {zr : uZ} (h : GC_X12_goesMatch_7 g5 = some zr) : C_X12_goesMatch_7 (zS g5) = some (zS zr) := by
  unfold GC_X12_goesMatch_7 at h
  unfold C_X12_goesMatch_7
  cases h
  rfl
theorem rF_X12_goesMatch {g : uZ} {zr : uZ} (h : GF_X12_goesMatch g = some zr) : F_X12_goesMatch (zS g) = some (zS zr) := by
  unfold GF_X12_goesMatch at h
  unfold F_X12_goesMatch
  refine pf_r kz_0 h ?_
  clear h
  intro g1 h
  refine lp_r em_4 zS (e_pair kz_0 (e_pair kz_0 rfl)) (fun q r h => rB_X12_goesMatch_6 rfl rfl h) h ?_
  clear h
  intro z h
  exact rC_X12_goesMatch_7 h
theorem rJ_X12_laysMatch_4 {w3_ : Int32} {w3 : Int} (e_w3 : w3_ = zI w3) {w8_ : Int32} {w8 : Int} (e_w8 : w8_ = zI w8) {g9 : uZ} {v33_ : Int32} {v33 : Int} (e_v33 : v33_ = zI v33) {zr : ((Int × uZ) ⊕ uZ)} (h : GJ_X12_laysMatch_4 w3 w8 g9 v33 = some zr) : J_X12_laysMatch_4 w3_ w8_ (zS g9) v33_ = some (em_3 zr) := by
  subst e_w3 e_w8 e_v33
  unfold GJ_X12_laysMatch_4 at h
  unfold J_X12_laysMatch_4
  refine cp_r (e := zI) (fun _ h => rF_X12_matchAt rfl rfl h) h ?_
  clear h
  intro v34 h
  refine wr_r (Nat.le_of_ble_eq_true rfl) rfl rfl h ?_
  clear h
  intro g35 h
  refine lt_r (e_add rfl kz_m1) h ?_
  clear h
  intro v36 h
  cases h
  exact congrArg some (congrArg Sum.inl (e_pair rfl rfl))
theorem rJ_X12_laysMatch_5 {w3_ : Int32} {w3 : Int} (e_w3 : w3_ = zI w3) {w8_ : Int32} {w8 : Int} (e_w8 : w8_ = zI w8) {g9 : uZ} {v26_ : Int32} {v26 : Int} (e_v26 : v26_ = zI v26) {zr : ((Int × uZ) ⊕ uZ)} (h : GJ_X12_laysMatch_5 w3 w8 g9 v26 = some zr) : J_X12_laysMatch_5 w3_ w8_ (zS g9) v26_ = some (em_3 zr) := by
  subst e_w3 e_w8 e_v26
  unfold GJ_X12_laysMatch_5 at h
  unfold J_X12_laysMatch_5
  obtain ⟨hr1, h⟩ := ck_e h
  obtain ⟨hr2, h⟩ := ck_e h
  refine ite_r (c_le rfl rfl hr1 hr2) h ?_ ?_
  · clear h
    intro h
    exact rJ_X12_laysMatch_4 rfl rfl rfl h
  · clear h
    intro h
    obtain ⟨hr3, h⟩ := ck_e h
    obtain ⟨hr4, h⟩ := ck_e h
    refine ite_r (c_le rfl rfl hr3 hr4) h ?_ ?_
    · clear h
      intro h
      exact rJ_X12_laysMatch_4 rfl rfl rfl h
    · clear h
      intro h
      refine cp_r (e := zI) (fun _ h => rF_X12_pairCost rfl rfl h) h ?_
      clear h
      intro v29 h
      refine cp_r (e := zI) (fun _ h => rF_X12_matchAt (e_add rfl kz_1) (e_add rfl kz_1) h) h ?_
      clear h
      intro v30 h
      refine rd_r (Nat.le_of_ble_eq_true rfl) rfl h ?_
      clear h
      intro v31 h
      refine cp_r (e := zI) (fun _ h => rF_X12_lesser rfl (e_add rfl rfl) h) h ?_
      clear h
      intro v32 h
      exact rJ_X12_laysMatch_4 rfl rfl rfl h
theorem rJ_X12_laysMatch_6 {w3_ : Int32} {w3 : Int} (e_w3 : w3_ = zI w3) {w8_ : Int32} {w8 : Int} (e_w8 : w8_ = zI w8) {g9 : uZ} {v20_ : Int32} {v20 : Int} (e_v20 : v20_ = zI v20) {zr : ((Int × uZ) ⊕ uZ)} (h : GJ_X12_laysMatch_6 w3 w8 g9 v20 = some zr) : J_X12_laysMatch_6 w3_ w8_ (zS g9) v20_ = some (em_3 zr) := by
  subst e_w3 e_w8 e_v20
  unfold GJ_X12_laysMatch_6 at h
  unfold J_X12_laysMatch_6
  obtain ⟨hr1, h⟩ := ck_e h
  obtain ⟨hr2, h⟩ := ck_e h
  refine ite_r (c_le rfl rfl hr1 hr2) h ?_ ?_
  · clear h
    intro h
    exact rJ_X12_laysMatch_5 rfl rfl rfl h
  · clear h
    intro h
    refine rd_r (Nat.le_of_ble_eq_true rfl) kz_15 h ?_
    clear h
    intro v22 h
    refine cp_r (e := zI) (fun _ h => rF_X12_matchAt rfl (e_add rfl kz_1) h) h ?_
    clear h
    intro v23 h
    refine rd_r (Nat.le_of_ble_eq_true rfl) rfl h ?_
    clear h
    intro v24 h
    refine cp_r (e := zI) (fun _ h => rF_X12_lesser rfl (e_add rfl rfl) h) h ?_
    clear h
    intro v25 h
    exact rJ_X12_laysMatch_5 rfl rfl rfl h
theorem rJ_X12_laysMatch_7 {w3_ : Int32} {w3 : Int} (e_w3 : w3_ = zI w3) {w8_ : Int32} {w8 : Int} (e_w8 : w8_ = zI w8) {g9 : uZ} {v14_ : Int32} {v14 : Int} (e_v14 : v14_ = zI v14) {zr : ((Int × uZ) ⊕ uZ)} (h : GJ_X12_laysMatch_7 w3 w8 g9 v14 = some zr) : J_X12_laysMatch_7 w3_ w8_ (zS g9) v14_ = some (em_3 zr) := by
  subst e_w3 e_w8 e_v14
  unfold GJ_X12_laysMatch_7 at h
  unfold J_X12_laysMatch_7
  obtain ⟨hr1, h⟩ := ck_e h
  obtain ⟨hr2, h⟩ := ck_e h
  refine ite_r (c_le rfl rfl hr1 hr2) h ?_ ?_
  · clear h
    intro h
    exact rJ_X12_laysMatch_6 rfl rfl rfl h
  · clear h
    intro h
    refine rd_r (Nat.le_of_ble_eq_true rfl) kz_15 h ?_
    clear h
    intro v16 h
    refine cp_r (e := zI) (fun _ h => rF_X12_matchAt (e_add rfl kz_1) rfl h) h ?_
    clear h
    intro v17 h
    refine rd_r (Nat.le_of_ble_eq_true rfl) rfl h ?_
    clear h
    intro v18 h
    refine cp_r (e := zI) (fun _ h => rF_X12_lesser rfl (e_add rfl rfl) h) h ?_
    clear h
    intro v19 h
    exact rJ_X12_laysMatch_6 rfl rfl rfl h
theorem rJ_X12_laysMatch_3 {w3_ : Int32} {w3 : Int} (e_w3 : w3_ = zI w3) {w8_ : Int32} {w8 : Int} (e_w8 : w8_ = zI w8) {g9 : uZ} {zr : ((Int × uZ) ⊕ uZ)} (h : GJ_X12_laysMatch_3 w3 w8 g9 = some zr) : J_X12_laysMatch_3 w3_ w8_ (zS g9) = some (em_3 zr) := by
  subst e_w3 e_w8
  unfold GJ_X12_laysMatch_3 at h
  unfold J_X12_laysMatch_3
  exact rJ_X12_laysMatch_7 rfl rfl kz_2000000000 h
theorem rB_X12_laysMatch_8 {w3_ : Int32} {w3 : Int} (e_w3 : w3_ = zI w3) {w8_ : Int32} {w8 : Int} (e_w8 : w8_ = zI w8) {g9 : uZ} {zr : ((Int × uZ) ⊕ uZ)} (h : GB_X12_laysMatch_8 w3 w8 g9 = some zr) : B_X12_laysMatch_8 w3_ w8_ (zS g9) = some (em_3 zr) := by
  subst e_w3 e_w8
  unfold GB_X12_laysMatch_8 at h
  unfold B_X12_laysMatch_8
  obtain ⟨hr1, h⟩ := ck_e h
  refine ite_r (c_lt rfl kz_0 hr1 ir_0) h ?_ ?_
  · clear h
    intro h
    cases h
    exact congrArg some (congrArg Sum.inr rfl)
  · clear h
    intro h
    obtain ⟨hr2, h⟩ := ck_e h
    obtain ⟨hr3, h⟩ := ck_e h
    refine ite_r (c_eq rfl rfl hr2 hr3) h ?_ ?_
    · clear h
      intro h
      obtain ⟨hr4, h⟩ := ck_e h
      refine ite_r (c_eq rfl rfl hr1 hr4) h ?_ ?_
      · clear h
        intro h
        exact rJ_X12_laysMatch_7 rfl rfl kz_0 h
      · clear h
        intro h
        exact rJ_X12_laysMatch_3 rfl rfl h
    · clear h
      intro h
      exact rJ_X12_laysMatch_3 rfl rfl h
theorem rC_X12_laysMatch_9 {w3_ : Int32} {w3 : Int} (e_w3 : w3_ = zI w3) {g10 : uZ} {zr : ((Int × uZ) ⊕ uZ)} (h : GC_X12_laysMatch_9 w3 g10 = some zr) : C_X12_laysMatch_9 w3_ (zS g10) = some (em_3 zr) := by
  subst e_w3
  unfold GC_X12_laysMatch_9 at h
  unfold C_X12_laysMatch_9
  refine lt_r (e_add rfl kz_m1) h ?_
  clear h
  intro v37 h
  cases h
  exact congrArg some (congrArg Sum.inl (e_pair rfl rfl))
theorem rB_X12_laysMatch_10 {w3_ : Int32} {w3 : Int} (e_w3 : w3_ = zI w3) {g4 : uZ} {zr : ((Int × uZ) ⊕ uZ)} (h : GB_X12_laysMatch_10 w3 g4 = some zr) : B_X12_laysMatch_10 w3_ (zS g4) = some (em_3 zr) := by
  subst e_w3
  unfold GB_X12_laysMatch_10 at h
  unfold B_X12_laysMatch_10
  obtain ⟨hr1, h⟩ := ck_e h
  refine ite_r (c_lt rfl kz_0 hr1 ir_0) h ?_ ?_
  · clear h
    intro h
    cases h
    exact congrArg some (congrArg Sum.inr rfl)
  · clear h
    intro h
    refine lt_r rfl h ?_
    clear h
    intro v7 h
    refine lp_r em_2 zS (e_pair rfl rfl) (fun q r h => rB_X12_laysMatch_8 rfl rfl h) h ?_
    clear h
    intro z h
    exact rC_X12_laysMatch_9 rfl h
theorem rC_X12_laysMatch_11 {g5 : uZ} {zr : uZ} (h : GC_X12_laysMatch_11 g5 = some zr) : C_X12_laysMatch_11 (zS g5) = some (zS zr) := by
  unfold GC_X12_laysMatch_11 at h
  unfold C_X12_laysMatch_11
  refine cp_r (e := zS) (fun _ h => rF_X12_goesMatch h) h ?_
  clear h
  intro g38 h
  cases h
  rfl
theorem rF_X12_laysMatch {g : uZ} {zr : uZ} (h : GF_X12_laysMatch g = some zr) : F_X12_laysMatch (zS g) = some (zS zr) := by
  unfold GF_X12_laysMatch at h
  unfold F_X12_laysMatch
  refine cp_r (e := zS) (fun _ h => rF_X12_laysNotes h) h ?_
  clear h
  intro g1 h
  refine lt_r rfl h ?_
  clear h
  intro v2 h
  refine lp_r em_2 zS (e_pair rfl rfl) (fun q r h => rB_X12_laysMatch_10 rfl h) h ?_
  clear h
  intro z h
  exact rC_X12_laysMatch_11 h
theorem rJ_X12_match_1 {g6 : uZ} {v9_ : Int32} {v9 : Int} (e_v9 : v9_ = zI v9) {zr : (Int × uZ)} (h : GJ_X12_match_1 g6 v9 = some zr) : J_X12_match_1 (zS g6) v9_ = some (em_2 zr) := by
  subst e_v9
  unfold GJ_X12_match_1 at h
  unfold J_X12_match_1
  cases h
  exact congrArg some (e_pair rfl rfl)
theorem rF_X12_match {a1_ : Int32} {a1 : Int} (e_a1 : a1_ = zI a1) {g : uZ} {zr : (Int × uZ)} (h : GF_X12_match a1 g = some zr) : F_X12_match a1_ (zS g) = some (em_2 zr) := by
  subst e_a1
  unfold GF_X12_match at h
  unfold F_X12_match
  refine pf_r kz_0 h ?_
  clear h
  intro g1 h
  refine cp_r (e := zI) (fun _ h => rF_X12_isIn rfl kz_0 kz_1 h) h ?_
  clear h
  intro v2 h
  refine cl_r (fun _ _ h => rF_X12_right rfl kz_1 h) h ?_
  clear h
  intro v4 g3 h
  obtain ⟨hr1, h⟩ := ck_e h
  refine ite_r (c_eq rfl kz_0 hr1 ir_0) h ?_ ?_
  · clear h
    intro h
    cases h
    exact congrArg some (e_pair kz_0 rfl)
  · clear h
    intro h
    refine cp_r (e := zS) (fun _ h => rF_X12_laysMatch h) h ?_
    clear h
    intro g6 h
    obtain ⟨hr2, h⟩ := ck_e h
    refine ite_r (c_eq rfl kz_0 hr2 ir_0) h ?_ ?_
    · clear h
      intro h
      refine rd_r (Nat.le_of_ble_eq_true rfl) kz_0 h ?_
      clear h
      intro v8 h
      exact rJ_X12_match_1 rfl h
    · clear h
      intro h
      exact rJ_X12_match_1 rfl h
theorem rF_X12_matched {a1_ : Int32} {a1 : Int} (e_a1 : a1_ = zI a1) {g : uZ} {zr : (Int × uZ)} (h : GF_X12_matched a1 g = some zr) : F_X12_matched a1_ (zS g) = some (em_2 zr) := by
  subst e_a1
  unfold GF_X12_matched at h
  unfold F_X12_matched
  refine pf_r kz_0 h ?_
  clear h
  intro g1 h
  refine cp_r (e := zI) (fun _ h => rF_X12_isIn rfl kz_0 (e_sub rfl kz_1) h) h ?_
  clear h
  intro v2 h
  refine cl_r (fun _ _ h => rF_X12_right rfl kz_1 h) h ?_
  clear h
  intro v4 g3 h
  obtain ⟨hr1, h⟩ := ck_e h
  refine ite_r (c_eq rfl kz_0 hr1 ir_0) h ?_ ?_
  · clear h
    intro h
    cases h
    exact congrArg some (e_pair kz_0 rfl)
  · clear h
    intro h
    refine cp_r (e := zS) (fun _ h => rF_X12_laysMatch h) h ?_
    clear h
    intro g6 h
    refine rd_r (Nat.le_of_ble_eq_true rfl) rfl h ?_
    clear h
    intro v7 h
    cases h
    exact congrArg some (e_pair rfl rfl)
theorem rF_X12_marks {g : uZ} {zr : (Int × uZ)} (h : GF_X12_marks g = some zr) : F_X12_marks (zS g) = some (em_2 zr) := by
  unfold GF_X12_marks at h
  unfold F_X12_marks
  refine pf_r kz_0 h ?_
  clear h
  intro g1 h
  refine cp_r (e := zS) (fun _ h => rF_X12_laysMarks h) h ?_
  clear h
  intro g2 h
  cases h
  exact congrArg some (e_pair rfl rfl)
theorem rJ_X12_mark_1 {g4 : uZ} {v8_ : Int32} {v8 : Int} (e_v8 : v8_ = zI v8) {zr : (Int × uZ)} (h : GJ_X12_mark_1 g4 v8 = some zr) : J_X12_mark_1 (zS g4) v8_ = some (em_2 zr) := by
  subst e_v8
  unfold GJ_X12_mark_1 at h
  unfold J_X12_mark_1
  cases h
  exact congrArg some (e_pair rfl rfl)
theorem rF_X12_mark {a1_ : Int32} {a1 : Int} (e_a1 : a1_ = zI a1) {g : uZ} {zr : (Int × uZ)} (h : GF_X12_mark a1 g = some zr) : F_X12_mark a1_ (zS g) = some (em_2 zr) := by
  subst e_a1
  unfold GF_X12_mark at h
  unfold F_X12_mark
  refine pf_r kz_0 h ?_
  clear h
  intro g1 h
  refine cp_r (e := zS) (fun _ h => rF_X12_laysMarks h) h ?_
  clear h
  intro g2 h
  refine cp_r (e := zI) (fun _ h => rF_X12_isIn rfl kz_0 (e_sub rfl kz_1) h) h ?_
  clear h
  intro v3 h
  refine cl_r (fun _ _ h => rF_X12_right rfl kz_1 h) h ?_
  clear h
  intro v5 g4 h
  obtain ⟨hr1, h⟩ := ck_e h
  refine ite_r (c_eq rfl kz_0 hr1 ir_0) h ?_ ?_
  · clear h
    intro h
    exact rJ_X12_mark_1 kz_0 h
  · clear h
    intro h
    refine rd_r (Nat.le_of_ble_eq_true rfl) rfl h ?_
    clear h
    intro v7 h
    exact rJ_X12_mark_1 rfl h
theorem rF_X12_off {a1_ : Int64} {a1 : Int} (e_a1 : a1_ = zL a1) {a2_ : Int64} {a2 : Int} (e_a2 : a2_ = zL a2) {g : uZ} {zr : Int} (h : GF_X12_off a1 a2 g = some zr) : F_X12_off a1_ a2_ (zS g) = some (zL zr) := by
  subst e_a1 e_a2
  unfold GF_X12_off at h
  unfold F_X12_off
  obtain ⟨hr1, h⟩ := ck_e h
  refine lt_rL (e_iteL (c_le (zI_toInt _).symm kz_0 hr1 ir_0) (zL_toInt _).symm (zL_toInt _).symm) h ?_
  clear h
  intro v2 h
  cases h
  rfl
theorem rJ_X12_near_3 {w4_ : Int32} {w4 : Int} (e_w4 : w4_ = zI w4) {v13_ : Int32} {v13 : Int} (e_v13 : v13_ = zI v13) {zr : ((Int × Int) ⊕ Int)} (h : GJ_X12_near_3 w4 v13 = some zr) : J_X12_near_3 w4_ v13_ = some (em_1 zr) := by
  subst e_w4 e_v13
  unfold GJ_X12_near_3 at h
  unfold J_X12_near_3
  refine lt_r (e_add rfl kz_1) h ?_
  clear h
  intro v14 h
  cases h
  exact congrArg some (congrArg Sum.inl (e_pair rfl rfl))
theorem rJ_X12_near_2 {w4_ : Int32} {w4 : Int} (e_w4 : w4_ = zI w4) {zr : ((Int × Int) ⊕ Int)} (h : GJ_X12_near_2 w4 = some zr) : J_X12_near_2 w4_ = some (em_1 zr) := by
  subst e_w4
  unfold GJ_X12_near_2 at h
  unfold J_X12_near_2
  exact rJ_X12_near_3 rfl rfl h
theorem rB_X12_near_4 {a1_ : Int32} {a1 : Int} (e_a1 : a1_ = zI a1) {g2 : uZ} {w3_ : Int32} {w3 : Int} (e_w3 : w3_ = zI w3) {w4_ : Int32} {w4 : Int} (e_w4 : w4_ = zI w4) {zr : ((Int × Int) ⊕ Int)} (h : GB_X12_near_4 a1 g2 w3 w4 = some zr) : B_X12_near_4 a1_ (zS g2) w3_ w4_ = some (em_1 zr) := by
  subst e_a1 e_w3 e_w4
  unfold GB_X12_near_4 at h
  unfold B_X12_near_4
  obtain ⟨hr1, h⟩ := ck_e h
  obtain ⟨hr2, h⟩ := ck_e h
  refine ite_r (c_le rfl rfl hr1 hr2) h ?_ ?_
  · clear h
    intro h
    cases h
    exact congrArg some (congrArg Sum.inr rfl)
  · clear h
    intro h
    obtain ⟨hr3, h⟩ := ck_e h
    refine ite_r (c_eq rfl kz_m1 hr3 ir_m1) h ?_ ?_
    · clear h
      intro h
      exact rJ_X12_near_2 rfl h
    · clear h
      intro h
      refine rd_r (Nat.le_of_ble_eq_true rfl) rfl h ?_
      clear h
      intro v8 h
      refine cp_r (e := zL) (fun _ h => rF_X12_off (zL_toInt _).symm (zL_toInt _).symm h) h ?_
      clear h
      intro v9 h
      refine rd_r (Nat.le_of_ble_eq_true rfl) rfl h ?_
      clear h
      intro v10 h
      refine cp_r (e := zL) (fun _ h => rF_X12_off (zL_toInt _).symm (zL_toInt _).symm h) h ?_
      clear h
      intro v11 h
      obtain ⟨hr4, h⟩ := ck_e h
      refine ite_r (c_le kz_0 (zI_toInt _).symm ir_0 hr4) h ?_ ?_
      · clear h
        intro h
        exact rJ_X12_near_3 rfl rfl h
      · clear h
        intro h
        exact rJ_X12_near_2 rfl h
theorem rJ_X12_near_5 {g2 : uZ} {v17_ : Int32} {v17 : Int} (e_v17 : v17_ = zI v17) {zr : (Int × uZ)} (h : GJ_X12_near_5 g2 v17 = some zr) : J_X12_near_5 (zS g2) v17_ = some (em_2 zr) := by
  subst e_v17
  unfold GJ_X12_near_5 at h
  unfold J_X12_near_5
  cases h
  exact congrArg some (e_pair rfl rfl)
theorem rC_X12_near_6 {g2 : uZ} {v5_ : Int32} {v5 : Int} (e_v5 : v5_ = zI v5) {zr : (Int × uZ)} (h : GC_X12_near_6 g2 v5 = some zr) : C_X12_near_6 (zS g2) v5_ = some (em_2 zr) := by
  subst e_v5
  unfold GC_X12_near_6 at h
  unfold C_X12_near_6
  obtain ⟨hr1, h⟩ := ck_e h
  refine ite_r (c_eq rfl kz_m1 hr1 ir_m1) h ?_ ?_
  · clear h
    intro h
    exact rJ_X12_near_5 kz_m1 h
  · clear h
    intro h
    refine rd_r (Nat.le_of_ble_eq_true rfl) rfl h ?_
    clear h
    intro v16 h
    exact rJ_X12_near_5 rfl h
theorem rF_X12_near {a1_ : Int32} {a1 : Int} (e_a1 : a1_ = zI a1) {g : uZ} {zr : (Int × uZ)} (h : GF_X12_near a1 g = some zr) : F_X12_near a1_ (zS g) = some (em_2 zr) := by
  subst e_a1
  unfold GF_X12_near at h
  unfold F_X12_near
  refine pf_r kz_0 h ?_
  clear h
  intro g1 h
  refine cp_r (e := zS) (fun _ h => rF_X12_laysMarks h) h ?_
  clear h
  intro g2 h
  refine lp_r em_0 zI (e_pair kz_m1 kz_0) (fun q r h => rB_X12_near_4 rfl rfl rfl h) h ?_
  clear h
  intro z h
  exact rC_X12_near_6 rfl h
theorem rB_X12_behind_2 {a1_ : Int32} {a1 : Int} (e_a1 : a1_ = zI a1) {g2 : uZ} {w3_ : Int32} {w3 : Int} (e_w3 : w3_ = zI w3) {zr : (Int ⊕ (Unit ⊕ (Int × uZ)))} (h : GB_X12_behind_2 a1 g2 w3 = some zr) : B_X12_behind_2 a1_ (zS g2) w3_ = some (em_19 zr) := by
  subst e_a1 e_w3
  unfold GB_X12_behind_2 at h
  unfold B_X12_behind_2
  obtain ⟨hr1, h⟩ := ck_e h
  obtain ⟨hr2, h⟩ := ck_e h
  refine ite_r (c_le rfl rfl hr1 hr2) h ?_ ?_
  · clear h
    intro h
    cases h
    exact congrArg some (congrArg Sum.inr (congrArg Sum.inl rfl))
  · clear h
    intro h
    refine rd_r (Nat.le_of_ble_eq_true rfl) rfl h ?_
    clear h
    intro v5 h
    obtain ⟨hr3, h⟩ := ck_e h
    obtain ⟨hr4, h⟩ := ck_e h
    refine ite_r (c_le rfl rfl hr3 hr4) h ?_ ?_
    · clear h
      intro h
      refine lt_r (e_add rfl kz_1) h ?_
      clear h
      intro v7 h
      cases h
      exact congrArg some (congrArg Sum.inl rfl)
    · clear h
      intro h
      refine rd_r (Nat.le_of_ble_eq_true rfl) rfl h ?_
      clear h
      intro v8 h
      cases h
      exact congrArg some (congrArg Sum.inr (congrArg Sum.inr (e_pair rfl rfl)))
theorem rC_X12_behind_3 {g2 : uZ} {zr : (Int × uZ)} (h : GC_X12_behind_3 g2 = some zr) : C_X12_behind_3 (zS g2) = some (em_2 zr) := by
  unfold GC_X12_behind_3 at h
  unfold C_X12_behind_3
  cases h
  exact congrArg some (e_pair kz_m1 rfl)
theorem rF_X12_behind {a1_ : Int32} {a1 : Int} (e_a1 : a1_ = zI a1) {g : uZ} {zr : (Int × uZ)} (h : GF_X12_behind a1 g = some zr) : F_X12_behind a1_ (zS g) = some (em_2 zr) := by
  subst e_a1
  unfold GF_X12_behind at h
  unfold F_X12_behind
  refine pf_r kz_0 h ?_
  clear h
  intro g1 h
  refine cp_r (e := zS) (fun _ h => rF_X12_laysMarks h) h ?_
  clear h
  intro g2 h
  refine lp_r zI em_18 kz_0 (fun q r h => rB_X12_behind_2 rfl rfl h) h ?_
  clear h
  intro z h
  rcases z with z | z
  · exact rC_X12_behind_3 h
  · cases h
    rfl
theorem rJ_X12_hasGap_2 {v5_ : Int32} {v5 : Int} (e_v5 : v5_ = zI v5) {zr : Int} (h : GJ_X12_hasGap_2 v5 = some zr) : J_X12_hasGap_2 v5_ = some (zI zr) := by
  subst e_v5
  unfold GJ_X12_hasGap_2 at h
  unfold J_X12_hasGap_2
  refine bz_r rfl h ?_
  clear h
  intro h
  cases h
  rfl
theorem rJ_X12_hasGap_1 {zr : Int} (h : GJ_X12_hasGap_1 = some zr) : J_X12_hasGap_1 = some (zI zr) := by
  unfold GJ_X12_hasGap_1 at h
  unfold J_X12_hasGap_1
  exact rJ_X12_hasGap_2 kz_0 h
theorem rF_X12_hasGap {a1_ : Int32} {a1 : Int} (e_a1 : a1_ = zI a1) {g : uZ} {zr : Int} (h : GF_X12_hasGap a1 g = some zr) : F_X12_hasGap a1_ (zS g) = some (zI zr) := by
  subst e_a1
  unfold GF_X12_hasGap at h
  unfold F_X12_hasGap
  obtain ⟨hr1, h⟩ := ck_e h
  obtain ⟨hr2, h⟩ := ck_e h
  refine ite_r (c_le rfl (e_add rfl kz_1) hr1 hr2) h ?_ ?_
  · clear h
    intro h
    exact rJ_X12_hasGap_1 h
  · clear h
    intro h
    refine rd_r (Nat.le_of_ble_eq_true rfl) (e_add rfl kz_1) h ?_
    clear h
    intro v2 h
    refine rd_r (Nat.le_of_ble_eq_true rfl) rfl h ?_
    clear h
    intro v3 h
    obtain ⟨hr3, h⟩ := ck_e h
    obtain ⟨hr4, h⟩ := ck_e h
    refine ite_r (c_eq rfl rfl hr3 hr4) h ?_ ?_
    · clear h
      intro h
      exact rJ_X12_hasGap_2 kz_1 h
    · clear h
      intro h
      exact rJ_X12_hasGap_1 h
theorem rF_X12_gapOf {a1_ : Int32} {a1 : Int} (e_a1 : a1_ = zI a1) {g : uZ} {zr : Int} (h : GF_X12_gapOf a1 g = some zr) : F_X12_gapOf a1_ (zS g) = some (zI zr) := by
  subst e_a1
  unfold GF_X12_gapOf at h
  unfold F_X12_gapOf
  refine rd_r (Nat.le_of_ble_eq_true rfl) (e_add rfl kz_1) h ?_
  clear h
  intro v1 h
  refine rd_r (Nat.le_of_ble_eq_true rfl) rfl h ?_
  clear h
  intro v2 h
  cases h
  exact congrArg some (e_sub rfl rfl)
theorem rJ_X12_gaps_6 {w12_ : Int32} {w12 : Int} (e_w12 : w12_ = zI w12) {v44_ : Int32} {v44 : Int} (e_v44 : v44_ = zI v44) {v45_ : Int32} {v45 : Int} (e_v45 : v45_ = zI v45) {v46_ : Int32} {v46 : Int} (e_v46 : v46_ = zI v46) {v47_ : Int32} {v47 : Int} (e_v47 : v47_ = zI v47) {v48_ : Int32} {v48 : Int} (e_v48 : v48_ = zI v48) {zr : ((Int × (Int × (Int × (Int × (Int × Int))))) ⊕ (Int × (Int × (Int × (Int × Int)))))} (h : GJ_X12_gaps_6 w12 v44 v45 v46 v47 v48 = some zr) : J_X12_gaps_6 w12_ v44_ v45_ v46_ v47_ v48_ = some (em_26 zr) := by
  subst e_w12 e_v44 e_v45 e_v46 e_v47 e_v48
  unfold GJ_X12_gaps_6 at h
  unfold J_X12_gaps_6
  refine lt_r (e_add rfl kz_1) h ?_
  clear h
  intro v49 h
  cases h
  exact congrArg some (congrArg Sum.inl (e_pair rfl (e_pair rfl (e_pair rfl (e_pair rfl (e_pair rfl rfl))))))
theorem rJ_X12_gaps_3 {v21_ : Int32} {v21 : Int} (e_v21 : v21_ = zI v21) {v27_ : Int32} {v27 : Int} (e_v27 : v27_ = zI v27) {v34_ : Int32} {v34 : Int} (e_v34 : v34_ = zI v34) {v38_ : Int32} {v38 : Int} (e_v38 : v38_ = zI v38) {w12_ : Int32} {w12 : Int} (e_w12 : w12_ = zI w12) {v43_ : Int32} {v43 : Int} (e_v43 : v43_ = zI v43) {zr : ((Int × (Int × (Int × (Int × (Int × Int))))) ⊕ (Int × (Int × (Int × (Int × Int)))))} (h : GJ_X12_gaps_3 v21 v27 v34 v38 w12 v43 = some zr) : J_X12_gaps_3 v21_ v27_ v34_ v38_ w12_ v43_ = some (em_26 zr) := by
  subst e_v21 e_v27 e_v34 e_v38 e_w12 e_v43
  unfold GJ_X12_gaps_3 at h
  unfold J_X12_gaps_3
  exact rJ_X12_gaps_6 rfl rfl rfl rfl rfl rfl h
theorem rJ_X12_gaps_2 {v21_ : Int32} {v21 : Int} (e_v21 : v21_ = zI v21) {v27_ : Int32} {v27 : Int} (e_v27 : v27_ = zI v27) {v34_ : Int32} {v34 : Int} (e_v34 : v34_ = zI v34) {v38_ : Int32} {v38 : Int} (e_v38 : v38_ = zI v38) {w12_ : Int32} {w12 : Int} (e_w12 : w12_ = zI w12) {g6 : uZ} {zr : ((Int × (Int × (Int × (Int × (Int × Int))))) ⊕ (Int × (Int × (Int × (Int × Int)))))} (h : GJ_X12_gaps_2 v21 v27 v34 v38 w12 g6 = some zr) : J_X12_gaps_2 v21_ v27_ v34_ v38_ w12_ (zS g6) = some (em_26 zr) := by
  subst e_v21 e_v27 e_v34 e_v38 e_w12
  unfold GJ_X12_gaps_2 at h
  unfold J_X12_gaps_2
  refine cp_r (e := zI) (fun _ h => rF_X12_gapOf rfl h) h ?_
  clear h
  intro v42 h
  exact rJ_X12_gaps_3 rfl rfl rfl rfl rfl rfl h
theorem rJ_X12_gaps_4 {v21_ : Int32} {v21 : Int} (e_v21 : v21_ = zI v21) {v27_ : Int32} {v27 : Int} (e_v27 : v27_ = zI v27) {v34_ : Int32} {v34 : Int} (e_v34 : v34_ = zI v34) {w11_ : Int32} {w11 : Int} (e_w11 : w11_ = zI w11) {w12_ : Int32} {w12 : Int} (e_w12 : w12_ = zI w12) {g6 : uZ} {v38_ : Int32} {v38 : Int} (e_v38 : v38_ = zI v38) {zr : ((Int × (Int × (Int × (Int × (Int × Int))))) ⊕ (Int × (Int × (Int × (Int × Int)))))} (h : GJ_X12_gaps_4 v21 v27 v34 w11 w12 g6 v38 = some zr) : J_X12_gaps_4 v21_ v27_ v34_ w11_ w12_ (zS g6) v38_ = some (em_26 zr) := by
  subst e_v21 e_v27 e_v34 e_w11 e_w12 e_v38
  unfold GJ_X12_gaps_4 at h
  unfold J_X12_gaps_4
  obtain ⟨hr1, h⟩ := ck_e h
  refine ite_r (c_eq rfl kz_m1 hr1 ir_m1) h ?_ ?_
  · clear h
    intro h
    exact rJ_X12_gaps_2 rfl rfl rfl rfl rfl h
  · clear h
    intro h
    refine cp_r (e := zI) (fun _ h => rF_X12_gapOf rfl h) h ?_
    clear h
    intro v40 h
    obtain ⟨hr2, h⟩ := ck_e h
    refine ite_r (c_le rfl rfl hr1 hr2) h ?_ ?_
    · clear h
      intro h
      exact rJ_X12_gaps_3 rfl rfl rfl rfl rfl rfl h
    · clear h
      intro h
      exact rJ_X12_gaps_2 rfl rfl rfl rfl rfl h
theorem rJ_X12_gaps_5 {v21_ : Int32} {v21 : Int} (e_v21 : v21_ = zI v21) {v27_ : Int32} {v27 : Int} (e_v27 : v27_ = zI v27) {w8_ : Int32} {w8 : Int} (e_w8 : w8_ = zI w8) {w10_ : Int32} {w10 : Int} (e_w10 : w10_ = zI w10) {w11_ : Int32} {w11 : Int} (e_w11 : w11_ = zI w11) {w12_ : Int32} {w12 : Int} (e_w12 : w12_ = zI w12) {g6 : uZ} {v33_ : Int32} {v33 : Int} (e_v33 : v33_ = zI v33) {zr : ((Int × (Int × (Int × (Int × (Int × Int))))) ⊕ (Int × (Int × (Int × (Int × Int)))))} (h : GJ_X12_gaps_5 v21 v27 w8 w10 w11 w12 g6 v33 = some zr) : J_X12_gaps_5 v21_ v27_ w8_ w10_ w11_ w12_ (zS g6) v33_ = some (em_26 zr) := by
  subst e_v21 e_v27 e_w8 e_w10 e_w11 e_w12 e_v33
  unfold GJ_X12_gaps_5 at h
  unfold J_X12_gaps_5
  refine lt_r (e_add rfl rfl) h ?_
  clear h
  intro v34 h
  refine cp_r (e := zI) (fun _ h => rF_X12_gapOf rfl h) h ?_
  clear h
  intro v35 h
  obtain ⟨hr1, h⟩ := ck_e h
  obtain ⟨hr2, h⟩ := ck_e h
  refine ite_r (c_le rfl rfl hr1 hr2) h ?_ ?_
  · clear h
    intro h
    exact rJ_X12_gaps_4 rfl rfl rfl rfl rfl rfl h
  · clear h
    intro h
    refine cp_r (e := zI) (fun _ h => rF_X12_gapOf rfl h) h ?_
    clear h
    intro v37 h
    exact rJ_X12_gaps_4 rfl rfl rfl rfl rfl rfl h
theorem rB_X12_gaps_7 {g6 : uZ} {w7_ : Int32} {w7 : Int} (e_w7 : w7_ = zI w7) {w8_ : Int32} {w8 : Int} (e_w8 : w8_ = zI w8) {w9_ : Int32} {w9 : Int} (e_w9 : w9_ = zI w9) {w10_ : Int32} {w10 : Int} (e_w10 : w10_ = zI w10) {w11_ : Int32} {w11 : Int} (e_w11 : w11_ = zI w11) {w12_ : Int32} {w12 : Int} (e_w12 : w12_ = zI w12) {zr : ((Int × (Int × (Int × (Int × (Int × Int))))) ⊕ (Int × (Int × (Int × (Int × Int)))))} (h : GB_X12_gaps_7 g6 w7 w8 w9 w10 w11 w12 = some zr) : B_X12_gaps_7 (zS g6) w7_ w8_ w9_ w10_ w11_ w12_ = some (em_26 zr) := by
  subst e_w7 e_w8 e_w9 e_w10 e_w11 e_w12
  unfold GB_X12_gaps_7 at h
  unfold B_X12_gaps_7
  obtain ⟨hr1, h⟩ := ck_e h
  obtain ⟨hr2, h⟩ := ck_e h
  refine ite_r (c_le rfl rfl hr1 hr2) h ?_ ?_
  · clear h
    intro h
    cases h
    exact congrArg some (congrArg Sum.inr (e_pair rfl (e_pair rfl (e_pair rfl (e_pair rfl rfl)))))
  · clear h
    intro h
    refine cp_r (e := zI) (fun _ h => rF_X12_hasGap rfl h) h ?_
    clear h
    intro v19 h
    obtain ⟨hr3, h⟩ := ck_e h
    refine ite_r (c_eq rfl kz_0 hr3 ir_0) h ?_ ?_
    · clear h
      intro h
      exact rJ_X12_gaps_6 rfl rfl rfl rfl rfl rfl h
    · clear h
      intro h
      refine lt_r (e_add rfl kz_1) h ?_
      clear h
      intro v21 h
      refine rd_r (Nat.le_of_ble_eq_true rfl) rfl h ?_
      clear h
      intro v22 h
      refine rd_r (Nat.le_of_ble_eq_true rfl) rfl h ?_
      clear h
      intro v23 h
      refine rd_r (Nat.le_of_ble_eq_true rfl) (e_add rfl kz_1) h ?_
      clear h
      intro v24 h
      refine rd_r (Nat.le_of_ble_eq_true rfl) rfl h ?_
      clear h
      intro v25 h
      refine cp_r (e := zI) (fun _ h => rF_X12_apart rfl rfl h) h ?_
      clear h
      intro v26 h
      refine lt_r (e_add rfl rfl) h ?_
      clear h
      intro v27 h
      refine cp_r (e := zI) (fun _ h => rF_X12_hasGap (e_add rfl kz_1) h) h ?_
      clear h
      intro v28 h
      obtain ⟨hr4, h⟩ := ck_e h
      refine ite_r (c_eq rfl kz_0 hr4 ir_0) h ?_ ?_
      · clear h
        intro h
        exact rJ_X12_gaps_5 rfl rfl rfl rfl rfl rfl kz_0 h
      · clear h
        intro h
        refine cp_r (e := zI) (fun _ h => rF_X12_gapOf rfl h) h ?_
        clear h
        intro v30 h
        refine cp_r (e := zI) (fun _ h => rF_X12_gapOf (e_add rfl kz_1) h) h ?_
        clear h
        intro v31 h
        refine cp_r (e := zI) (fun _ h => rF_X12_apart rfl rfl h) h ?_
        clear h
        intro v32 h
        exact rJ_X12_gaps_5 rfl rfl rfl rfl rfl rfl rfl h
theorem rC_X12_gaps_8 {a1_ : Int32} {a1 : Int} (e_a1 : a1_ = zI a1) {g6 : uZ} {v13_ : Int32} {v13 : Int} (e_v13 : v13_ = zI v13) {v14_ : Int32} {v14 : Int} (e_v14 : v14_ = zI v14) {v15_ : Int32} {v15 : Int} (e_v15 : v15_ = zI v15) {v16_ : Int32} {v16 : Int} (e_v16 : v16_ = zI v16) {v17_ : Int32} {v17 : Int} (e_v17 : v17_ = zI v17) {zr : (Int × uZ)} (h : GC_X12_gaps_8 a1 g6 v13 v14 v15 v16 v17 = some zr) : C_X12_gaps_8 a1_ (zS g6) v13_ v14_ v15_ v16_ v17_ = some (em_2 zr) := by
  subst e_a1 e_v13 e_v14 e_v15 e_v16 e_v17
  unfold GC_X12_gaps_8 at h
  unfold C_X12_gaps_8
  obtain ⟨hr1, h⟩ := ck_e h
  refine ite_r (c_eq rfl kz_0 hr1 ir_0) h ?_ ?_
  · clear h
    intro h
    cases h
    exact congrArg some (e_pair rfl rfl)
  · clear h
    intro h
    refine ite_r (c_eq rfl kz_1 hr1 ir_1) h ?_ ?_
    · clear h
      intro h
      cases h
      exact congrArg some (e_pair rfl rfl)
    · clear h
      intro h
      refine ite_r (c_eq rfl kz_2 hr1 ir_2) h ?_ ?_
      · clear h
        intro h
        cases h
        exact congrArg some (e_pair rfl rfl)
      · clear h
        intro h
        refine ite_r (c_eq rfl kz_3 hr1 ir_3) h ?_ ?_
        · clear h
          intro h
          cases h
          exact congrArg some (e_pair rfl rfl)
        · clear h
          intro h
          cases h
          exact congrArg some (e_pair rfl rfl)
theorem rF_X12_gaps {a1_ : Int32} {a1 : Int} (e_a1 : a1_ = zI a1) {g : uZ} {zr : (Int × uZ)} (h : GF_X12_gaps a1 g = some zr) : F_X12_gaps a1_ (zS g) = some (em_2 zr) := by
  subst e_a1
  unfold GF_X12_gaps at h
  unfold F_X12_gaps
  refine pf_r kz_0 h ?_
  clear h
  intro g1 h
  refine cp_r (e := zI) (fun _ h => rF_X12_isIn rfl kz_0 kz_4 h) h ?_
  clear h
  intro v2 h
  refine cl_r (fun _ _ h => rF_X12_right rfl kz_1 h) h ?_
  clear h
  intro v4 g3 h
  obtain ⟨hr1, h⟩ := ck_e h
  refine ite_r (c_eq rfl kz_0 hr1 ir_0) h ?_ ?_
  · clear h
    intro h
    cases h
    exact congrArg some (e_pair kz_0 rfl)
  · clear h
    intro h
    refine cp_r (e := zS) (fun _ h => rF_X12_laysMarks h) h ?_
    clear h
    intro g6 h
    refine lp_r em_25 em_24 (e_pair kz_0 (e_pair kz_0 (e_pair kz_0 (e_pair kz_m1 (e_pair kz_m1 kz_0))))) (fun q r h => rB_X12_gaps_7 rfl rfl rfl rfl rfl rfl h) h ?_
    clear h
    intro z h
    exact rC_X12_gaps_8 rfl rfl rfl rfl rfl rfl h
theorem rB_X12_roughOf_2 {a1_ : Int32} {a1 : Int} (e_a1 : a1_ = zI a1) {g : uZ} {w3_ : Int32} {w3 : Int} (e_w3 : w3_ = zI w3) {w4_ : Int32} {w4 : Int} (e_w4 : w4_ = zI w4) {zr : ((Int × Int) ⊕ Int)} (h : GB_X12_roughOf_2 a1 g w3 w4 = some zr) : B_X12_roughOf_2 a1_ (zS g) w3_ w4_ = some (em_1 zr) := by
  subst e_a1 e_w3 e_w4
  unfold GB_X12_roughOf_2 at h
  unfold B_X12_roughOf_2
  refine cp_r (e := zI) (fun _ h => rF_X12_gapOf rfl h) h ?_
  clear h
  intro v6 h
  obtain ⟨hr1, h⟩ := ck_e h
  obtain ⟨hr2, h⟩ := ck_e h
  refine ite_r (c_le rfl rfl hr1 hr2) h ?_ ?_
  · clear h
    intro h
    cases h
    exact congrArg some (congrArg Sum.inr rfl)
  · clear h
    intro h
    refine rd_r (Nat.le_of_ble_eq_true rfl) rfl h ?_
    clear h
    intro v8 h
    refine cp_r (e := zI) (fun _ h => rF_X12_at (e_add rfl rfl) h) h ?_
    clear h
    intro v9 h
    refine rd_r (Nat.le_of_ble_eq_true rfl) (e_add rfl kz_1) h ?_
    clear h
    intro v10 h
    refine cp_r (e := zI) (fun _ h => rF_X12_at (e_add rfl rfl) h) h ?_
    clear h
    intro v11 h
    refine cp_r (e := zI) (fun _ h => rF_X12_apart rfl rfl h) h ?_
    clear h
    intro v12 h
    refine lt_r (e_add rfl rfl) h ?_
    clear h
    intro v13 h
    refine lt_r (e_add rfl kz_1) h ?_
    clear h
    intro v14 h
    cases h
    exact congrArg some (congrArg Sum.inl (e_pair rfl rfl))
theorem rC_X12_roughOf_3 {v5_ : Int32} {v5 : Int} (e_v5 : v5_ = zI v5) {zr : Int} (h : GC_X12_roughOf_3 v5 = some zr) : C_X12_roughOf_3 v5_ = some (zI zr) := by
  subst e_v5
  unfold GC_X12_roughOf_3 at h
  unfold C_X12_roughOf_3
  cases h
  rfl
theorem rF_X12_roughOf {a1_ : Int32} {a1 : Int} (e_a1 : a1_ = zI a1) {g : uZ} {zr : Int} (h : GF_X12_roughOf a1 g = some zr) : F_X12_roughOf a1_ (zS g) = some (zI zr) := by
  subst e_a1
  unfold GF_X12_roughOf at h
  unfold F_X12_roughOf
  refine cp_r (e := zI) (fun _ h => rF_X12_hasGap rfl h) h ?_
  clear h
  intro v1 h
  obtain ⟨hr1, h⟩ := ck_e h
  refine ite_r (c_eq rfl kz_0 hr1 ir_0) h ?_ ?_
  · clear h
    intro h
    cases h
    exact congrArg some kz_m1
  · clear h
    intro h
    refine lp_r em_0 zI (e_pair kz_0 kz_0) (fun q r h => rB_X12_roughOf_2 rfl rfl rfl h) h ?_
    clear h
    intro z h
    exact rC_X12_roughOf_3 rfl h
theorem rJ_X12_rough_1 {g4 : uZ} {v8_ : Int32} {v8 : Int} (e_v8 : v8_ = zI v8) {zr : (Int × uZ)} (h : GJ_X12_rough_1 g4 v8 = some zr) : J_X12_rough_1 (zS g4) v8_ = some (em_2 zr) := by
  subst e_v8
  unfold GJ_X12_rough_1 at h
  unfold J_X12_rough_1
  cases h
  exact congrArg some (e_pair rfl rfl)
theorem rF_X12_rough {a1_ : Int32} {a1 : Int} (e_a1 : a1_ = zI a1) {g : uZ} {zr : (Int × uZ)} (h : GF_X12_rough a1 g = some zr) : F_X12_rough a1_ (zS g) = some (em_2 zr) := by
  subst e_a1
  unfold GF_X12_rough at h
  unfold F_X12_rough
  refine pf_r kz_0 h ?_
  clear h
  intro g1 h
  refine cp_r (e := zS) (fun _ h => rF_X12_laysMarks h) h ?_
  clear h
  intro g2 h
  refine cp_r (e := zI) (fun _ h => rF_X12_isIn rfl kz_0 (e_sub rfl kz_1) h) h ?_
  clear h
  intro v3 h
  refine cl_r (fun _ _ h => rF_X12_right rfl kz_1 h) h ?_
  clear h
  intro v5 g4 h
  obtain ⟨hr1, h⟩ := ck_e h
  refine ite_r (c_eq rfl kz_0 hr1 ir_0) h ?_ ?_
  · clear h
    intro h
    exact rJ_X12_rough_1 kz_0 h
  · clear h
    intro h
    refine cp_r (e := zI) (fun _ h => rF_X12_roughOf rfl h) h ?_
    clear h
    intro v7 h
    exact rJ_X12_rough_1 rfl h
theorem rJ_X12_roughest_3 {w4_ : Int32} {w4 : Int} (e_w4 : w4_ = zI w4) {v13_ : Int32} {v13 : Int} (e_v13 : v13_ = zI v13) {zr : ((Int × Int) ⊕ Int)} (h : GJ_X12_roughest_3 w4 v13 = some zr) : J_X12_roughest_3 w4_ v13_ = some (em_1 zr) := by
  subst e_w4 e_v13
  unfold GJ_X12_roughest_3 at h
  unfold J_X12_roughest_3
  refine lt_r (e_add rfl kz_1) h ?_
  clear h
  intro v14 h
  cases h
  exact congrArg some (congrArg Sum.inl (e_pair rfl rfl))
theorem rJ_X12_roughest_2 {w4_ : Int32} {w4 : Int} (e_w4 : w4_ = zI w4) {zr : ((Int × Int) ⊕ Int)} (h : GJ_X12_roughest_2 w4 = some zr) : J_X12_roughest_2 w4_ = some (em_1 zr) := by
  subst e_w4
  unfold GJ_X12_roughest_2 at h
  unfold J_X12_roughest_2
  exact rJ_X12_roughest_3 rfl rfl h
theorem rB_X12_roughest_4 {g2 : uZ} {w3_ : Int32} {w3 : Int} (e_w3 : w3_ = zI w3) {w4_ : Int32} {w4 : Int} (e_w4 : w4_ = zI w4) {zr : ((Int × Int) ⊕ Int)} (h : GB_X12_roughest_4 g2 w3 w4 = some zr) : B_X12_roughest_4 (zS g2) w3_ w4_ = some (em_1 zr) := by
  subst e_w3 e_w4
  unfold GB_X12_roughest_4 at h
  unfold B_X12_roughest_4
  obtain ⟨hr1, h⟩ := ck_e h
  obtain ⟨hr2, h⟩ := ck_e h
  refine ite_r (c_le rfl rfl hr1 hr2) h ?_ ?_
  · clear h
    intro h
    cases h
    exact congrArg some (congrArg Sum.inr rfl)
  · clear h
    intro h
    refine cp_r (e := zI) (fun _ h => rF_X12_roughOf rfl h) h ?_
    clear h
    intro v7 h
    obtain ⟨hr3, h⟩ := ck_e h
    refine ite_r (c_eq rfl kz_m1 hr3 ir_m1) h ?_ ?_
    · clear h
      intro h
      exact rJ_X12_roughest_3 rfl rfl h
    · clear h
      intro h
      obtain ⟨hr4, h⟩ := ck_e h
      refine ite_r (c_eq rfl kz_m1 hr4 ir_m1) h ?_ ?_
      · clear h
        intro h
        exact rJ_X12_roughest_2 rfl h
      · clear h
        intro h
        refine cp_r (e := zI) (fun _ h => rF_X12_roughOf rfl h) h ?_
        clear h
        intro v10 h
        refine cp_r (e := zI) (fun _ h => rF_X12_roughOf rfl h) h ?_
        clear h
        intro v11 h
        obtain ⟨hr5, h⟩ := ck_e h
        obtain ⟨hr6, h⟩ := ck_e h
        refine ite_r (c_le rfl rfl hr5 hr6) h ?_ ?_
        · clear h
          intro h
          exact rJ_X12_roughest_3 rfl rfl h
        · clear h
          intro h
          exact rJ_X12_roughest_2 rfl h
theorem rC_X12_roughest_5 {g2 : uZ} {v5_ : Int32} {v5 : Int} (e_v5 : v5_ = zI v5) {zr : (Int × uZ)} (h : GC_X12_roughest_5 g2 v5 = some zr) : C_X12_roughest_5 (zS g2) v5_ = some (em_2 zr) := by
  subst e_v5
  unfold GC_X12_roughest_5 at h
  unfold C_X12_roughest_5
  cases h
  exact congrArg some (e_pair rfl rfl)
theorem rF_X12_roughest {g : uZ} {zr : (Int × uZ)} (h : GF_X12_roughest g = some zr) : F_X12_roughest (zS g) = some (em_2 zr) := by
  unfold GF_X12_roughest at h
  unfold F_X12_roughest
  refine pf_r kz_0 h ?_
  clear h
  intro g1 h
  refine cp_r (e := zS) (fun _ h => rF_X12_laysMarks h) h ?_
  clear h
  intro g2 h
  refine lp_r em_0 zI (e_pair kz_m1 kz_0) (fun q r h => rB_X12_roughest_4 rfl rfl h) h ?_
  clear h
  intro z h
  exact rC_X12_roughest_5 rfl h
theorem rJ_X12_mean_2 {v12_ : Int32} {v12 : Int} (e_v12 : v12_ = zI v12) {w4_ : Int32} {w4 : Int} (e_w4 : w4_ = zI w4) {w5_ : Int32} {w5 : Int} (e_w5 : w5_ = zI w5) {v16_ : Int32} {v16 : Int} (e_v16 : v16_ = zI v16) {zr : ((Int × (Int × Int)) ⊕ (Int × Int))} (h : GJ_X12_mean_2 v12 w4 w5 v16 = some zr) : J_X12_mean_2 v12_ w4_ w5_ v16_ = some (em_10 zr) := by
  subst e_v12 e_w4 e_w5 e_v16
  unfold GJ_X12_mean_2 at h
  unfold J_X12_mean_2
  refine lt_r (e_add rfl rfl) h ?_
  clear h
  intro v17 h
  refine lt_r (e_add rfl kz_1) h ?_
  clear h
  intro v18 h
  cases h
  exact congrArg some (congrArg Sum.inl (e_pair rfl (e_pair rfl rfl)))
theorem rB_X12_mean_3 {g2 : uZ} {w3_ : Int32} {w3 : Int} (e_w3 : w3_ = zI w3) {w4_ : Int32} {w4 : Int} (e_w4 : w4_ = zI w4) {w5_ : Int32} {w5 : Int} (e_w5 : w5_ = zI w5) {zr : ((Int × (Int × Int)) ⊕ (Int × Int))} (h : GB_X12_mean_3 g2 w3 w4 w5 = some zr) : B_X12_mean_3 (zS g2) w3_ w4_ w5_ = some (em_10 zr) := by
  subst e_w3 e_w4 e_w5
  unfold GB_X12_mean_3 at h
  unfold B_X12_mean_3
  obtain ⟨hr1, h⟩ := ck_e h
  obtain ⟨hr2, h⟩ := ck_e h
  refine ite_r (c_le rfl rfl hr1 hr2) h ?_ ?_
  · clear h
    intro h
    cases h
    exact congrArg some (congrArg Sum.inr (e_pair rfl rfl))
  · clear h
    intro h
    refine cp_r (e := zI) (fun _ h => rF_X12_hasGap rfl h) h ?_
    clear h
    intro v9 h
    obtain ⟨hr3, h⟩ := ck_e h
    refine lt_r (e_ite (c_eq rfl kz_0 hr3 ir_0) kz_0 kz_1) h ?_
    clear h
    intro v11 h
    refine lt_r (e_add rfl rfl) h ?_
    clear h
    intro v12 h
    refine cp_r (e := zI) (fun _ h => rF_X12_hasGap rfl h) h ?_
    clear h
    intro v13 h
    obtain ⟨hr4, h⟩ := ck_e h
    refine ite_r (c_eq rfl kz_0 hr4 ir_0) h ?_ ?_
    · clear h
      intro h
      exact rJ_X12_mean_2 rfl rfl rfl kz_0 h
    · clear h
      intro h
      refine cp_r (e := zI) (fun _ h => rF_X12_gapOf rfl h) h ?_
      clear h
      intro v15 h
      exact rJ_X12_mean_2 rfl rfl rfl rfl h
theorem rJ_X12_mean_4 {g21 : uZ} {v28_ : Int32} {v28 : Int} (e_v28 : v28_ = zI v28) {zr : (Int × uZ)} (h : GJ_X12_mean_4 g21 v28 = some zr) : J_X12_mean_4 (zS g21) v28_ = some (em_2 zr) := by
  subst e_v28
  unfold GJ_X12_mean_4 at h
  unfold J_X12_mean_4
  cases h
  exact congrArg some (e_pair rfl rfl)
theorem rC_X12_mean_5 {a1_ : Int32} {a1 : Int} (e_a1 : a1_ = zI a1) {g2 : uZ} {v6_ : Int32} {v6 : Int} (e_v6 : v6_ = zI v6) {v7_ : Int32} {v7 : Int} (e_v7 : v7_ = zI v7) {zr : (Int × uZ)} (h : GC_X12_mean_5 a1 g2 v6 v7 = some zr) : C_X12_mean_5 a1_ (zS g2) v6_ v7_ = some (em_2 zr) := by
  subst e_a1 e_v6 e_v7
  unfold GC_X12_mean_5 at h
  unfold C_X12_mean_5
  obtain ⟨hr1, h⟩ := ck_e h
  refine lt_r (e_ite (c_le rfl kz_0 hr1 ir_0) kz_0 kz_1) h ?_
  clear h
  intro v20 h
  refine cl_r (fun _ _ h => rF_X12_right rfl kz_1 h) h ?_
  clear h
  intro v22 g21 h
  obtain ⟨hr2, h⟩ := ck_e h
  refine ite_r (c_eq rfl kz_0 hr2 ir_0) h ?_ ?_
  · clear h
    intro h
    cases h
    exact congrArg some (e_pair kz_0 rfl)
  · clear h
    intro h
    refine cp_r (e := zI) (fun _ h => rF_X12_divisor rfl rfl h) h ?_
    clear h
    intro v24 h
    obtain ⟨hr3, h⟩ := ck_e h
    refine ite_r (c_eq rfl kz_0 hr3 ir_0) h ?_ ?_
    · clear h
      intro h
      refine dv_r rfl rfl h ?_
      clear h
      intro v26 h
      exact rJ_X12_mean_4 rfl h
    · clear h
      intro h
      refine dv_r rfl rfl h ?_
      clear h
      intro v27 h
      exact rJ_X12_mean_4 rfl h
theorem rF_X12_mean {a1_ : Int32} {a1 : Int} (e_a1 : a1_ = zI a1) {g : uZ} {zr : (Int × uZ)} (h : GF_X12_mean a1 g = some zr) : F_X12_mean a1_ (zS g) = some (em_2 zr) := by
  subst e_a1
  unfold GF_X12_mean at h
  unfold F_X12_mean
  refine pf_r kz_0 h ?_
  clear h
  intro g1 h
  refine cp_r (e := zS) (fun _ h => rF_X12_laysMarks h) h ?_
  clear h
  intro g2 h
  refine lp_r em_9 em_0 (e_pair kz_0 (e_pair kz_0 kz_0)) (fun q r h => rB_X12_mean_3 rfl rfl rfl h) h ?_
  clear h
  intro z h
  exact rC_X12_mean_5 rfl rfl rfl h
theorem rJ_X12_graspOf_1 {v12_ : Int32} {v12 : Int} (e_v12 : v12_ = zI v12) {zr : Int} (h : GJ_X12_graspOf_1 v12 = some zr) : J_X12_graspOf_1 v12_ = some (zI zr) := by
  subst e_v12
  unfold GJ_X12_graspOf_1 at h
  unfold J_X12_graspOf_1
  cases h
  rfl
theorem rF_X12_graspOf {a1_ : Int32} {a1 : Int} (e_a1 : a1_ = zI a1) {g : uZ} {zr : Int} (h : GF_X12_graspOf a1 g = some zr) : F_X12_graspOf a1_ (zS g) = some (zI zr) := by
  subst e_a1
  unfold GF_X12_graspOf at h
  unfold F_X12_graspOf
  refine cp_r (e := zI) (fun _ h => rF_X12_hasGap rfl h) h ?_
  clear h
  intro v1 h
  obtain ⟨hr1, h⟩ := ck_e h
  refine ite_r (c_eq rfl kz_0 hr1 ir_0) h ?_ ?_
  · clear h
    intro h
    refine rd_r (Nat.le_of_ble_eq_true rfl) rfl h ?_
    clear h
    intro v3 h
    refine rd_r (Nat.le_of_ble_eq_true rfl) rfl h ?_
    clear h
    intro v4 h
    obtain ⟨hr2, h⟩ := ck_e h
    obtain ⟨hr3, h⟩ := ck_e h
    refine lt_r (e_ite (c_le rfl rfl hr2 hr3) kz_0 kz_1) h ?_
    clear h
    intro v6 h
    obtain ⟨hr4, h⟩ := ck_e h
    refine ite_r (c_eq rfl kz_0 hr4 ir_0) h ?_ ?_
    · clear h
      intro h
      refine rd_r (Nat.le_of_ble_eq_true rfl) rfl h ?_
      clear h
      intro v8 h
      refine rd_r (Nat.le_of_ble_eq_true rfl) rfl h ?_
      clear h
      intro v9 h
      refine cp_r (e := zI) (fun _ h => rF_X12_periodAt rfl rfl h) h ?_
      clear h
      intro v10 h
      exact rJ_X12_graspOf_1 rfl h
    · clear h
      intro h
      refine cp_r (e := zI) (fun _ h => rF_X12_gapOf (e_sub rfl kz_1) h) h ?_
      clear h
      intro v11 h
      exact rJ_X12_graspOf_1 rfl h
  · clear h
    intro h
    refine cp_r (e := zI) (fun _ h => rF_X12_gapOf rfl h) h ?_
    clear h
    intro v13 h
    cases h
    rfl
theorem rB_X12_markNear_2 {a1_ : Int32} {a1 : Int} (e_a1 : a1_ = zI a1) {a2_ : Int32} {a2 : Int} (e_a2 : a2_ = zI a2) {g : uZ} {w2_ : Int32} {w2 : Int} (e_w2 : w2_ = zI w2) {w3_ : Int32} {w3 : Int} (e_w3 : w3_ = zI w3) {zr : ((Int × Int) ⊕ Int)} (h : GB_X12_markNear_2 a1 a2 g w2 w3 = some zr) : B_X12_markNear_2 a1_ a2_ (zS g) w2_ w3_ = some (em_1 zr) := by
  subst e_a1 e_a2 e_w2 e_w3
  unfold GB_X12_markNear_2 at h
  unfold B_X12_markNear_2
  refine rd_r (Nat.le_of_ble_eq_true rfl) (e_add rfl kz_1) h ?_
  clear h
  intro v5 h
  obtain ⟨hr1, h⟩ := ck_e h
  obtain ⟨hr2, h⟩ := ck_e h
  refine ite_r (c_le rfl rfl hr1 hr2) h ?_ ?_
  · clear h
    intro h
    cases h
    exact congrArg some (congrArg Sum.inr rfl)
  · clear h
    intro h
    refine rd_r (Nat.le_of_ble_eq_true rfl) rfl h ?_
    clear h
    intro v7 h
    refine cp_r (e := zI) (fun _ h => rF_X12_apart rfl rfl h) h ?_
    clear h
    intro v8 h
    refine rd_r (Nat.le_of_ble_eq_true rfl) rfl h ?_
    clear h
    intro v9 h
    refine cp_r (e := zI) (fun _ h => rF_X12_apart rfl rfl h) h ?_
    clear h
    intro v10 h
    obtain ⟨hr3, h⟩ := ck_e h
    obtain ⟨hr4, h⟩ := ck_e h
    refine lt_r (e_ite (c_le rfl rfl hr3 hr4) rfl rfl) h ?_
    clear h
    intro v12 h
    refine lt_r (e_add rfl kz_1) h ?_
    clear h
    intro v13 h
    cases h
    exact congrArg some (congrArg Sum.inl (e_pair rfl rfl))
theorem rC_X12_markNear_3 {v4_ : Int32} {v4 : Int} (e_v4 : v4_ = zI v4) {zr : Int} (h : GC_X12_markNear_3 v4 = some zr) : C_X12_markNear_3 v4_ = some (zI zr) := by
  subst e_v4
  unfold GC_X12_markNear_3 at h
  unfold C_X12_markNear_3
  cases h
  rfl
theorem rF_X12_markNear {a1_ : Int32} {a1 : Int} (e_a1 : a1_ = zI a1) {a2_ : Int32} {a2 : Int} (e_a2 : a2_ = zI a2) {g : uZ} {zr : Int} (h : GF_X12_markNear a1 a2 g = some zr) : F_X12_markNear a1_ a2_ (zS g) = some (zI zr) := by
  subst e_a1 e_a2
  unfold GF_X12_markNear at h
  unfold F_X12_markNear
  refine rd_r (Nat.le_of_ble_eq_true rfl) rfl h ?_
  clear h
  intro v1 h
  refine lp_r em_0 zI (e_pair rfl rfl) (fun q r h => rB_X12_markNear_2 rfl rfl rfl rfl h) h ?_
  clear h
  intro z h
  exact rC_X12_markNear_3 rfl h
theorem rJ_X12_setAnew_2 {a3_ : Int32} {a3 : Int} (e_a3 : a3_ = zI a3) {a4_ : Int32} {a4 : Int} (e_a4 : a4_ = zI a4) {v9_ : Int32} {v9 : Int} (e_v9 : v9_ = zI v9) {w4_ : Int32} {w4 : Int} (e_w4 : w4_ = zI w4) {v16_ : Int32} {v16 : Int} (e_v16 : v16_ = zI v16) {zr : ((Int × Int) ⊕ Int)} (h : GJ_X12_setAnew_2 a3 a4 v9 w4 v16 = some zr) : J_X12_setAnew_2 a3_ a4_ v9_ w4_ v16_ = some (em_1 zr) := by
  subst e_a3 e_a4 e_v9 e_w4 e_v16
  unfold GJ_X12_setAnew_2 at h
  unfold J_X12_setAnew_2
  refine dv_r (e_mul rfl rfl) rfl h ?_
  clear h
  intro v17 h
  obtain ⟨hr1, h⟩ := ck_e h
  refine lt_r (e_ite (c_le kz_1 rfl ir_1 hr1) rfl kz_1) h ?_
  clear h
  intro v19 h
  refine lt_r (e_add rfl rfl) h ?_
  clear h
  intro v20 h
  cases h
  exact congrArg some (congrArg Sum.inl (e_pair rfl rfl))
theorem rB_X12_setAnew_3 {a1_ : Int32} {a1 : Int} (e_a1 : a1_ = zI a1) {a2_ : Int32} {a2 : Int} (e_a2 : a2_ = zI a2) {a3_ : Int32} {a3 : Int} (e_a3 : a3_ = zI a3) {a4_ : Int32} {a4 : Int} (e_a4 : a4_ = zI a4) {g : uZ} {w3_ : Int32} {w3 : Int} (e_w3 : w3_ = zI w3) {w4_ : Int32} {w4 : Int} (e_w4 : w4_ = zI w4) {zr : ((Int × Int) ⊕ Int)} (h : GB_X12_setAnew_3 a1 a2 a3 a4 g w3 w4 = some zr) : B_X12_setAnew_3 a1_ a2_ a3_ a4_ (zS g) w3_ w4_ = some (em_1 zr) := by
  subst e_a1 e_a2 e_a3 e_a4 e_w3 e_w4
  unfold GB_X12_setAnew_3 at h
  unfold B_X12_setAnew_3
  refine cp_r (e := zI) (fun _ h => rF_X12_behindSpan rfl h) h ?_
  clear h
  intro v6 h
  obtain ⟨hr1, h⟩ := ck_e h
  obtain ⟨hr2, h⟩ := ck_e h
  refine ite_r (c_le rfl rfl hr1 hr2) h ?_ ?_
  · clear h
    intro h
    cases h
    exact congrArg some (congrArg Sum.inr rfl)
  · clear h
    intro h
    refine cp_r (e := zI) (fun _ h => rF_X12_markNear rfl rfl h) h ?_
    clear h
    intro v8 h
    refine cp_r (e := zI) (fun _ h => rF_X12_graspOf rfl h) h ?_
    clear h
    intro v9 h
    refine cp_r (e := zI) (fun _ h => rF_X12_apart rfl rfl h) h ?_
    clear h
    intro v10 h
    obtain ⟨hr3, h⟩ := ck_e h
    obtain ⟨hr4, h⟩ := ck_e h
    refine ite_r (c_le rfl rfl hr3 hr4) h ?_ ?_
    · clear h
      intro h
      exact rJ_X12_setAnew_2 rfl rfl rfl rfl rfl h
    · clear h
      intro h
      refine rd_r (Nat.le_of_ble_eq_true rfl) rfl h ?_
      clear h
      intro v12 h
      refine cp_r (e := zI) (fun _ h => rF_X12_at (e_sub (e_add rfl rfl) rfl) h) h ?_
      clear h
      intro v13 h
      refine cp_r (e := zI) (fun _ h => rF_X12_down (e_mul rfl (e_sub rfl rfl)) rfl h) h ?_
      clear h
      intro v14 h
      refine lt_r (e_add rfl rfl) h ?_
      clear h
      intro v15 h
      exact rJ_X12_setAnew_2 rfl rfl rfl rfl rfl h
theorem rC_X12_setAnew_4 {v5_ : Int32} {v5 : Int} (e_v5 : v5_ = zI v5) {zr : Int} (h : GC_X12_setAnew_4 v5 = some zr) : C_X12_setAnew_4 v5_ = some (zI zr) := by
  subst e_v5
  unfold GC_X12_setAnew_4 at h
  unfold C_X12_setAnew_4
  cases h
  rfl
theorem rF_X12_setAnew {a1_ : Int32} {a1 : Int} (e_a1 : a1_ = zI a1) {a2_ : Int32} {a2 : Int} (e_a2 : a2_ = zI a2) {a3_ : Int32} {a3 : Int} (e_a3 : a3_ = zI a3) {a4_ : Int32} {a4 : Int} (e_a4 : a4_ = zI a4) {g : uZ} {zr : Int} (h : GF_X12_setAnew a1 a2 a3 a4 g = some zr) : F_X12_setAnew a1_ a2_ a3_ a4_ (zS g) = some (zI zr) := by
  subst e_a1 e_a2 e_a3 e_a4
  unfold GF_X12_setAnew at h
  unfold F_X12_setAnew
  refine rd_r (Nat.le_of_ble_eq_true rfl) rfl h ?_
  clear h
  intro v1 h
  refine rd_r (Nat.le_of_ble_eq_true rfl) rfl h ?_
  clear h
  intro v2 h
  refine lp_r em_0 zI (e_pair kz_0 rfl) (fun q r h => rB_X12_setAnew_3 rfl rfl rfl rfl rfl rfl h) h ?_
  clear h
  intro z h
  exact rC_X12_setAnew_4 rfl h
theorem rJ_X12_anew_7 {g26 : uZ} {zr : (Int × uZ)} (h : GJ_X12_anew_7 g26 = some zr) : J_X12_anew_7 (zS g26) = some (em_2 zr) := by
  unfold GJ_X12_anew_7 at h
  unfold J_X12_anew_7
  cases h
  exact congrArg some (e_pair kz_0 rfl)
theorem rJ_X12_anew_3 {w15_ : Int32} {w15 : Int} (e_w15 : w15_ = zI w15) {zr : (Int ⊕ (Unit ⊕ (Int × uZ)))} (h : GJ_X12_anew_3 w15 = some zr) : J_X12_anew_3 w15_ = some (em_19 zr) := by
  subst e_w15
  unfold GJ_X12_anew_3 at h
  unfold J_X12_anew_3
  refine lt_r (e_add rfl kz_1) h ?_
  clear h
  intro v24 h
  cases h
  exact congrArg some (congrArg Sum.inl rfl)
theorem rB_X12_anew_4 {a1_ : Int32} {a1 : Int} (e_a1 : a1_ = zI a1) {a2_ : Int32} {a2 : Int} (e_a2 : a2_ = zI a2) {a3_ : Int32} {a3 : Int} (e_a3 : a3_ = zI a3) {g14 : uZ} {w15_ : Int32} {w15 : Int} (e_w15 : w15_ = zI w15) {zr : (Int ⊕ (Unit ⊕ (Int × uZ)))} (h : GB_X12_anew_4 a1 a2 a3 g14 w15 = some zr) : B_X12_anew_4 a1_ a2_ a3_ (zS g14) w15_ = some (em_19 zr) := by
  subst e_a1 e_a2 e_a3 e_w15
  unfold GB_X12_anew_4 at h
  unfold B_X12_anew_4
  obtain ⟨hr1, h⟩ := ck_e h
  obtain ⟨hr2, h⟩ := ck_e h
  refine ite_r (c_le rfl rfl hr1 hr2) h ?_ ?_
  · clear h
    intro h
    cases h
    exact congrArg some (congrArg Sum.inr (congrArg Sum.inl rfl))
  · clear h
    intro h
    refine cp_r (e := zI) (fun _ h => rF_X12_isVoiced rfl h) h ?_
    clear h
    intro v17 h
    obtain ⟨hr3, h⟩ := ck_e h
    refine ite_r (c_eq rfl kz_0 hr3 ir_0) h ?_ ?_
    · clear h
      intro h
      exact rJ_X12_anew_3 rfl h
    · clear h
      intro h
      refine cp_r (e := zI) (fun _ h => rF_X12_firstSample rfl h) h ?_
      clear h
      intro v19 h
      refine cp_r (e := zI) (fun _ h => rF_X12_behindSpan rfl h) h ?_
      clear h
      intro v20 h
      refine cp_r (e := zI) (fun _ h => rF_X12_isIn rfl rfl (e_sub rfl kz_1) h) h ?_
      clear h
      intro v21 h
      obtain ⟨hr4, h⟩ := ck_e h
      refine ite_r (c_eq rfl kz_0 hr4 ir_0) h ?_ ?_
      · clear h
        intro h
        exact rJ_X12_anew_3 rfl h
      · clear h
        intro h
        refine cp_r (e := zI) (fun _ h => rF_X12_setAnew rfl rfl rfl rfl h) h ?_
        clear h
        intro v23 h
        cases h
        exact congrArg some (congrArg Sum.inr (congrArg Sum.inr (e_pair rfl rfl)))
theorem rC_X12_anew_5 {a3_ : Int32} {a3 : Int} (e_a3 : a3_ = zI a3) {g14 : uZ} {zr : (Int × uZ)} (h : GC_X12_anew_5 a3 g14 = some zr) : C_X12_anew_5 a3_ (zS g14) = some (em_2 zr) := by
  subst e_a3
  unfold GC_X12_anew_5 at h
  unfold C_X12_anew_5
  refine rd_r (Nat.le_of_ble_eq_true rfl) rfl h ?_
  clear h
  intro v25 h
  cases h
  exact congrArg some (e_pair rfl rfl)
theorem rJ_X12_anew_6 {a1_ : Int32} {a1 : Int} (e_a1 : a1_ = zI a1) {a2_ : Int32} {a2 : Int} (e_a2 : a2_ = zI a2) {a3_ : Int32} {a3 : Int} (e_a3 : a3_ = zI a3) {g3 : uZ} {v10_ : Int32} {v10 : Int} (e_v10 : v10_ = zI v10) {zr : (Int × uZ)} (h : GJ_X12_anew_6 a1 a2 a3 g3 v10 = some zr) : J_X12_anew_6 a1_ a2_ a3_ (zS g3) v10_ = some (em_2 zr) := by
  subst e_a1 e_a2 e_a3 e_v10
  unfold GJ_X12_anew_6 at h
  unfold J_X12_anew_6
  refine cl_r (fun _ _ h => rF_X12_right rfl kz_2 h) h ?_
  clear h
  intro v12 g11 h
  obtain ⟨hr1, h⟩ := ck_e h
  refine ite_r (c_eq rfl kz_0 hr1 ir_0) h ?_ ?_
  · clear h
    intro h
    exact rJ_X12_anew_7 h
  · clear h
    intro h
    refine cp_r (e := zS) (fun _ h => rF_X12_laysMarks h) h ?_
    clear h
    intro g14 h
    refine lp_r zI em_18 kz_0 (fun q r h => rB_X12_anew_4 rfl rfl rfl rfl h) h ?_
    clear h
    intro z h
    rcases z with z | z
    · exact rC_X12_anew_5 rfl h
    · cases h
      rfl
theorem rJ_X12_anew_1 {a1_ : Int32} {a1 : Int} (e_a1 : a1_ = zI a1) {a2_ : Int32} {a2 : Int} (e_a2 : a2_ = zI a2) {a3_ : Int32} {a3 : Int} (e_a3 : a3_ = zI a3) {g3 : uZ} {zr : (Int × uZ)} (h : GJ_X12_anew_1 a1 a2 a3 g3 = some zr) : J_X12_anew_1 a1_ a2_ a3_ (zS g3) = some (em_2 zr) := by
  subst e_a1 e_a2 e_a3
  unfold GJ_X12_anew_1 at h
  unfold J_X12_anew_1
  exact rJ_X12_anew_6 rfl rfl rfl kz_0 h
theorem rF_X12_anew {a1_ : Int32} {a1 : Int} (e_a1 : a1_ = zI a1) {a2_ : Int32} {a2 : Int} (e_a2 : a2_ = zI a2) {a3_ : Int32} {a3 : Int} (e_a3 : a3_ = zI a3) {g : uZ} {zr : (Int × uZ)} (h : GF_X12_anew a1 a2 a3 g = some zr) : F_X12_anew a1_ a2_ a3_ (zS g) = some (em_2 zr) := by
  subst e_a1 e_a2 e_a3
  unfold GF_X12_anew at h
  unfold F_X12_anew
  refine pf_r kz_0 h ?_
  clear h
  intro g1 h
  refine cp_r (e := zI) (fun _ h => rF_X12_isIn rfl kz_0 (e_sub rfl kz_1) h) h ?_
  clear h
  intro v2 h
  refine cl_r (fun _ _ h => rF_X12_right rfl kz_1 h) h ?_
  clear h
  intro v4 g3 h
  obtain ⟨hr1, h⟩ := ck_e h
  refine ite_r (c_eq rfl kz_0 hr1 ir_0) h ?_ ?_
  · clear h
    intro h
    exact rJ_X12_anew_7 h
  · clear h
    intro h
    refine cp_r (e := zI) (fun _ h => rF_X12_isIn rfl kz_1 kz_4 h) h ?_
    clear h
    intro v6 h
    obtain ⟨hr2, h⟩ := ck_e h
    refine ite_r (c_eq rfl kz_0 hr2 ir_0) h ?_ ?_
    · clear h
      intro h
      exact rJ_X12_anew_1 rfl rfl rfl h
    · clear h
      intro h
      refine cp_r (e := zI) (fun _ h => rF_X12_isIn rfl kz_1 kz_4 h) h ?_
      clear h
      intro v8 h
      obtain ⟨hr3, h⟩ := ck_e h
      refine ite_r (c_eq rfl kz_0 hr3 ir_0) h ?_ ?_
      · clear h
        intro h
        exact rJ_X12_anew_1 rfl rfl rfl h
      · clear h
        intro h
        exact rJ_X12_anew_6 rfl rfl rfl kz_1 h
theorem rF_X11_sample {a1_ : Int32} {a1 : Int} (e_a1 : a1_ = zI a1) {g : uZ} {zr : ((Int ⊕ Nat) × uZ)} (h : GF_X11_sample a1 g = some zr) : F_X11_sample a1_ (zS g) = some (em_28 zr) := by
  subst e_a1
  unfold GF_X11_sample at h
  unfold F_X11_sample
  refine cp_r (e := zI) (fun _ h => rF_X7_has rfl h) h ?_
  clear h
  intro v1 h
  obtain ⟨hr1, h⟩ := ck_e h
  refine ite_r (c_eq rfl kz_0 hr1 ir_0) h ?_ ?_
  · clear h
    intro h
    cases h
    rfl
  · clear h
    intro h
    refine cp_r (e := zI) (fun _ h => rF_X7_at rfl h) h ?_
    clear h
    intro v3 h
    cases h
    exact congrArg some (e_pair (congrArg Sum.inl rfl) rfl)
theorem rJ_X11_count_2 {a1_ : Int32} {a1 : Int} (e_a1 : a1_ = zI a1) {g : uZ} {v3_ : Int32} {v3 : Int} (e_v3 : v3_ = zI v3) {zr : ((Int ⊕ Nat) × uZ)} (h : GJ_X11_count_2 a1 g v3 = some zr) : J_X11_count_2 a1_ (zS g) v3_ = some (em_28 zr) := by
  subst e_a1 e_v3
  unfold GJ_X11_count_2 at h
  unfold J_X11_count_2
  obtain ⟨hr1, h⟩ := ck_e h
  refine ite_r (c_eq rfl kz_0 hr1 ir_0) h ?_ ?_
  · clear h
    intro h
    cases h
    rfl
  · clear h
    intro h
    obtain ⟨hr2, h⟩ := ck_e h
    refine ite_r (c_eq rfl kz_0 hr2 ir_0) h ?_ ?_
    · clear h
      intro h
      refine cp_r (e := zI) (fun _ h => rF_X7_size h) h ?_
      clear h
      intro v6 h
      cases h
      exact congrArg some (e_pair (congrArg Sum.inl rfl) rfl)
    · clear h
      intro h
      refine ite_r (c_eq rfl kz_1 hr2 ir_1) h ?_ ?_
      · clear h
        intro h
        refine cp_r (e := zI) (fun _ h => rF_X2_size h) h ?_
        clear h
        intro v8 h
        cases h
        exact congrArg some (e_pair (congrArg Sum.inl rfl) rfl)
      · clear h
        intro h
        refine ite_r (c_eq rfl kz_16 hr2 ir_16) h ?_ ?_
        · clear h
          intro h
          refine cp_r (e := zI) (fun _ h => rF_X7_tapeSize h) h ?_
          clear h
          intro v10 h
          cases h
          exact congrArg some (e_pair (congrArg Sum.inl rfl) rfl)
        · clear h
          intro h
          refine ite_r (c_eq rfl kz_17 hr2 ir_17) h ?_ ?_
          · clear h
            intro h
            refine cp_r (e := zI) (fun _ h => rF_X10_size h) h ?_
            clear h
            intro v12 h
            cases h
            exact congrArg some (e_pair (congrArg Sum.inl rfl) rfl)
          · clear h
            intro h
            refine cp_r (e := zI) (fun _ h => rF_X0_of rfl h) h ?_
            clear h
            intro v13 h
            cases h
            exact congrArg some (e_pair (congrArg Sum.inl rfl) rfl)
theorem rJ_X11_count_1 {a1_ : Int32} {a1 : Int} (e_a1 : a1_ = zI a1) {g : uZ} {zr : ((Int ⊕ Nat) × uZ)} (h : GJ_X11_count_1 a1 g = some zr) : J_X11_count_1 a1_ (zS g) = some (em_28 zr) := by
  subst e_a1
  unfold GJ_X11_count_1 at h
  unfold J_X11_count_1
  exact rJ_X11_count_2 rfl kz_0 h
theorem rF_X11_count {a1_ : Int32} {a1 : Int} (e_a1 : a1_ = zI a1) {g : uZ} {zr : ((Int ⊕ Nat) × uZ)} (h : GF_X11_count a1 g = some zr) : F_X11_count a1_ (zS g) = some (em_28 zr) := by
  subst e_a1
  unfold GF_X11_count at h
  unfold F_X11_count
  obtain ⟨hr1, h⟩ := ck_e h
  refine ite_r (c_lt rfl kz_0 hr1 ir_0) h ?_ ?_
  · clear h
    intro h
    exact rJ_X11_count_1 rfl h
  · clear h
    intro h
    refine ite_r (c_lt kz_17 rfl ir_17 hr1) h ?_ ?_
    · clear h
      intro h
      exact rJ_X11_count_1 rfl h
    · clear h
      intro h
      exact rJ_X11_count_2 rfl kz_1 h
theorem rJ_X11_diff_2 {a1_ : Int32} {a1 : Int} (e_a1 : a1_ = zI a1) {a2_ : Int32} {a2 : Int} (e_a2 : a2_ = zI a2) {g : uZ} {v5_ : Int32} {v5 : Int} (e_v5 : v5_ = zI v5) {zr : ((Int ⊕ Nat) × uZ)} (h : GJ_X11_diff_2 a1 a2 g v5 = some zr) : J_X11_diff_2 a1_ a2_ (zS g) v5_ = some (em_28 zr) := by
  subst e_a1 e_a2 e_v5
  unfold GJ_X11_diff_2 at h
  unfold J_X11_diff_2
  obtain ⟨hr1, h⟩ := ck_e h
  refine ite_r (c_eq rfl kz_0 hr1 ir_0) h ?_ ?_
  · clear h
    intro h
    cases h
    rfl
  · clear h
    intro h
    refine cp_r (e := zS) (fun _ h => rF_X2_measure rfl h) h ?_
    clear h
    intro g7 h
    refine cp_r (e := zI) (fun _ h => rF_X2_diffAt rfl rfl h) h ?_
    clear h
    intro v8 h
    cases h
    exact congrArg some (e_pair (congrArg Sum.inl rfl) rfl)
theorem rJ_X11_diff_1 {a1_ : Int32} {a1 : Int} (e_a1 : a1_ = zI a1) {a2_ : Int32} {a2 : Int} (e_a2 : a2_ = zI a2) {g : uZ} {zr : ((Int ⊕ Nat) × uZ)} (h : GJ_X11_diff_1 a1 a2 g = some zr) : J_X11_diff_1 a1_ a2_ (zS g) = some (em_28 zr) := by
  subst e_a1 e_a2
  unfold GJ_X11_diff_1 at h
  unfold J_X11_diff_1
  exact rJ_X11_diff_2 rfl rfl kz_0 h
theorem rF_X11_diff {a1_ : Int32} {a1 : Int} (e_a1 : a1_ = zI a1) {a2_ : Int32} {a2 : Int} (e_a2 : a2_ = zI a2) {g : uZ} {zr : ((Int ⊕ Nat) × uZ)} (h : GF_X11_diff a1 a2 g = some zr) : F_X11_diff a1_ a2_ (zS g) = some (em_28 zr) := by
  subst e_a1 e_a2
  unfold GF_X11_diff at h
  unfold F_X11_diff
  refine cp_r (e := zI) (fun _ h => rF_X2_has rfl h) h ?_
  clear h
  intro v1 h
  obtain ⟨hr1, h⟩ := ck_e h
  refine ite_r (c_eq rfl kz_0 hr1 ir_0) h ?_ ?_
  · clear h
    intro h
    exact rJ_X11_diff_1 rfl rfl h
  · clear h
    intro h
    refine cp_r (e := zI) (fun _ h => rF_X11_isLag rfl h) h ?_
    clear h
    intro v3 h
    obtain ⟨hr2, h⟩ := ck_e h
    refine ite_r (c_eq rfl kz_0 hr2 ir_0) h ?_ ?_
    · clear h
      intro h
      exact rJ_X11_diff_1 rfl rfl h
    · clear h
      intro h
      exact rJ_X11_diff_2 rfl rfl kz_1 h
theorem rJ_X11_rel_2 {a1_ : Int32} {a1 : Int} (e_a1 : a1_ = zI a1) {a2_ : Int32} {a2 : Int} (e_a2 : a2_ = zI a2) {g : uZ} {v5_ : Int32} {v5 : Int} (e_v5 : v5_ = zI v5) {zr : ((Int ⊕ Nat) × uZ)} (h : GJ_X11_rel_2 a1 a2 g v5 = some zr) : J_X11_rel_2 a1_ a2_ (zS g) v5_ = some (em_28 zr) := by
  subst e_a1 e_a2 e_v5
  unfold GJ_X11_rel_2 at h
  unfold J_X11_rel_2
  obtain ⟨hr1, h⟩ := ck_e h
  refine ite_r (c_eq rfl kz_0 hr1 ir_0) h ?_ ?_
  · clear h
    intro h
    cases h
    rfl
  · clear h
    intro h
    refine cp_r (e := zS) (fun _ h => rF_X2_measure rfl h) h ?_
    clear h
    intro g7 h
    refine cp_r (e := zI) (fun _ h => rF_X2_relAt rfl rfl h) h ?_
    clear h
    intro v8 h
    cases h
    exact congrArg some (e_pair (congrArg Sum.inl rfl) rfl)
theorem rJ_X11_rel_1 {a1_ : Int32} {a1 : Int} (e_a1 : a1_ = zI a1) {a2_ : Int32} {a2 : Int} (e_a2 : a2_ = zI a2) {g : uZ} {zr : ((Int ⊕ Nat) × uZ)} (h : GJ_X11_rel_1 a1 a2 g = some zr) : J_X11_rel_1 a1_ a2_ (zS g) = some (em_28 zr) := by
  subst e_a1 e_a2
  unfold GJ_X11_rel_1 at h
  unfold J_X11_rel_1
  exact rJ_X11_rel_2 rfl rfl kz_0 h
theorem rF_X11_rel {a1_ : Int32} {a1 : Int} (e_a1 : a1_ = zI a1) {a2_ : Int32} {a2 : Int} (e_a2 : a2_ = zI a2) {g : uZ} {zr : ((Int ⊕ Nat) × uZ)} (h : GF_X11_rel a1 a2 g = some zr) : F_X11_rel a1_ a2_ (zS g) = some (em_28 zr) := by
  subst e_a1 e_a2
  unfold GF_X11_rel at h
  unfold F_X11_rel
  refine cp_r (e := zI) (fun _ h => rF_X2_has rfl h) h ?_
  clear h
  intro v1 h
  obtain ⟨hr1, h⟩ := ck_e h
  refine ite_r (c_eq rfl kz_0 hr1 ir_0) h ?_ ?_
  · clear h
    intro h
    exact rJ_X11_rel_1 rfl rfl h
  · clear h
    intro h
    refine cp_r (e := zI) (fun _ h => rF_X11_isLag rfl h) h ?_
    clear h
    intro v3 h
    obtain ⟨hr2, h⟩ := ck_e h
    refine ite_r (c_eq rfl kz_0 hr2 ir_0) h ?_ ?_
    · clear h
      intro h
      exact rJ_X11_rel_1 rfl rfl h
    · clear h
      intro h
      exact rJ_X11_rel_2 rfl rfl kz_1 h
theorem rF_X11_loud {a1_ : Int32} {a1 : Int} (e_a1 : a1_ = zI a1) {g : uZ} {zr : ((Int ⊕ Nat) × uZ)} (h : GF_X11_loud a1 g = some zr) : F_X11_loud a1_ (zS g) = some (em_28 zr) := by
  subst e_a1
  unfold GF_X11_loud at h
  unfold F_X11_loud
  refine cp_r (e := zI) (fun _ h => rF_X2_has rfl h) h ?_
  clear h
  intro v1 h
  obtain ⟨hr1, h⟩ := ck_e h
  refine ite_r (c_eq rfl kz_0 hr1 ir_0) h ?_ ?_
  · clear h
    intro h
    cases h
    rfl
  · clear h
    intro h
    refine cp_r (e := zS) (fun _ h => rF_X2_measure rfl h) h ?_
    clear h
    intro g3 h
    refine cp_r (e := zI) (fun _ h => rF_X2_loudAt rfl h) h ?_
    clear h
    intro v4 h
    cases h
    exact congrArg some (e_pair (congrArg Sum.inl rfl) rfl)
theorem rF_X11_candidates {a1_ : Int32} {a1 : Int} (e_a1 : a1_ = zI a1) {g : uZ} {zr : ((Int ⊕ Nat) × uZ)} (h : GF_X11_candidates a1 g = some zr) : F_X11_candidates a1_ (zS g) = some (em_28 zr) := by
  subst e_a1
  unfold GF_X11_candidates at h
  unfold F_X11_candidates
  refine cp_r (e := zI) (fun _ h => rF_X2_has rfl h) h ?_
  clear h
  intro v1 h
  obtain ⟨hr1, h⟩ := ck_e h
  refine ite_r (c_eq rfl kz_0 hr1 ir_0) h ?_ ?_
  · clear h
    intro h
    cases h
    rfl
  · clear h
    intro h
    refine cp_r (e := zS) (fun _ h => rF_X11_findPath h) h ?_
    clear h
    intro g3 h
    refine cp_r (e := zI) (fun _ h => rF_X1_sizeOf rfl h) h ?_
    clear h
    intro v4 h
    cases h
    exact congrArg some (e_pair (congrArg Sum.inl rfl) rfl)
theorem rJ_X11_candidate_2 {a1_ : Int32} {a1 : Int} (e_a1 : a1_ = zI a1) {a2_ : Int32} {a2 : Int} (e_a2 : a2_ = zI a2) {a3_ : Int32} {a3 : Int} (e_a3 : a3_ = zI a3) {g1 : uZ} {v6_ : Int32} {v6 : Int} (e_v6 : v6_ = zI v6) {zr : ((Int ⊕ Nat) × uZ)} (h : GJ_X11_candidate_2 a1 a2 a3 g1 v6 = some zr) : J_X11_candidate_2 a1_ a2_ a3_ (zS g1) v6_ = some (em_28 zr) := by
  subst e_a1 e_a2 e_a3 e_v6
  unfold GJ_X11_candidate_2 at h
  unfold J_X11_candidate_2
  obtain ⟨hr1, h⟩ := ck_e h
  refine ite_r (c_eq rfl kz_0 hr1 ir_0) h ?_ ?_
  · clear h
    intro h
    cases h
    rfl
  · clear h
    intro h
    obtain ⟨hr2, h⟩ := ck_e h
    refine ite_r (c_eq rfl kz_0 hr2 ir_0) h ?_ ?_
    · clear h
      intro h
      refine cp_r (e := zI) (fun _ h => rF_X1_lagOf rfl rfl h) h ?_
      clear h
      intro v9 h
      cases h
      exact congrArg some (e_pair (congrArg Sum.inl rfl) rfl)
    · clear h
      intro h
      refine ite_r (c_eq rfl kz_1 hr2 ir_1) h ?_ ?_
      · clear h
        intro h
        refine cp_r (e := zI) (fun _ h => rF_X1_ownOf rfl rfl h) h ?_
        clear h
        intro v11 h
        cases h
        exact congrArg some (e_pair (congrArg Sum.inl rfl) rfl)
      · clear h
        intro h
        refine ite_r (c_eq rfl kz_2 hr2 ir_2) h ?_ ?_
        · clear h
          intro h
          refine cp_r (e := zI) (fun _ h => rF_X1_halfOf rfl rfl h) h ?_
          clear h
          intro v13 h
          cases h
          exact congrArg some (e_pair (congrArg Sum.inl rfl) rfl)
        · clear h
          intro h
          refine cp_r (e := zI) (fun _ h => rF_X1_cheaperThan rfl rfl h) h ?_
          clear h
          intro v14 h
          cases h
          exact congrArg some (e_pair (congrArg Sum.inl rfl) rfl)
theorem rJ_X11_candidate_1 {a1_ : Int32} {a1 : Int} (e_a1 : a1_ = zI a1) {a2_ : Int32} {a2 : Int} (e_a2 : a2_ = zI a2) {a3_ : Int32} {a3 : Int} (e_a3 : a3_ = zI a3) {g1 : uZ} {zr : ((Int ⊕ Nat) × uZ)} (h : GJ_X11_candidate_1 a1 a2 a3 g1 = some zr) : J_X11_candidate_1 a1_ a2_ a3_ (zS g1) = some (em_28 zr) := by
  subst e_a1 e_a2 e_a3
  unfold GJ_X11_candidate_1 at h
  unfold J_X11_candidate_1
  exact rJ_X11_candidate_2 rfl rfl rfl kz_0 h
theorem rF_X11_candidate {a1_ : Int32} {a1 : Int} (e_a1 : a1_ = zI a1) {a2_ : Int32} {a2 : Int} (e_a2 : a2_ = zI a2) {a3_ : Int32} {a3 : Int} (e_a3 : a3_ = zI a3) {g : uZ} {zr : ((Int ⊕ Nat) × uZ)} (h : GF_X11_candidate a1 a2 a3 g = some zr) : F_X11_candidate a1_ a2_ a3_ (zS g) = some (em_28 zr) := by
  subst e_a1 e_a2 e_a3
  unfold GF_X11_candidate at h
  unfold F_X11_candidate
  refine cp_r (e := zS) (fun _ h => rF_X11_findPath h) h ?_
  clear h
  intro g1 h
  refine cp_r (e := zI) (fun _ h => rF_X1_has rfl rfl h) h ?_
  clear h
  intro v2 h
  obtain ⟨hr1, h⟩ := ck_e h
  refine ite_r (c_eq rfl kz_0 hr1 ir_0) h ?_ ?_
  · clear h
    intro h
    cases h
    rfl
  · clear h
    intro h
    obtain ⟨hr2, h⟩ := ck_e h
    refine ite_r (c_lt rfl kz_0 hr2 ir_0) h ?_ ?_
    · clear h
      intro h
      exact rJ_X11_candidate_1 rfl rfl rfl h
    · clear h
      intro h
      refine ite_r (c_lt kz_3 rfl ir_3 hr2) h ?_ ?_
      · clear h
        intro h
        exact rJ_X11_candidate_1 rfl rfl rfl h
      · clear h
        intro h
        exact rJ_X11_candidate_2 rfl rfl rfl kz_1 h
theorem rJ_X11_fine_1 {g1 : uZ} {v17_ : Int32} {v17 : Int} (e_v17 : v17_ = zI v17) {zr : ((Int ⊕ Nat) × uZ)} (h : GJ_X11_fine_1 g1 v17 = some zr) : J_X11_fine_1 (zS g1) v17_ = some (em_28 zr) := by
  subst e_v17
  unfold GJ_X11_fine_1 at h
  unfold J_X11_fine_1
  cases h
  exact congrArg some (e_pair (congrArg Sum.inl rfl) rfl)
theorem rF_X11_fine {a1_ : Int32} {a1 : Int} (e_a1 : a1_ = zI a1) {a2_ : Int32} {a2 : Int} (e_a2 : a2_ = zI a2) {a3_ : Int32} {a3 : Int} (e_a3 : a3_ = zI a3) {g : uZ} {zr : ((Int ⊕ Nat) × uZ)} (h : GF_X11_fine a1 a2 a3 g = some zr) : F_X11_fine a1_ a2_ a3_ (zS g) = some (em_28 zr) := by
  subst e_a1 e_a2 e_a3
  unfold GF_X11_fine at h
  unfold F_X11_fine
  refine cp_r (e := zS) (fun _ h => rF_X11_findPath h) h ?_
  clear h
  intro g1 h
  refine cp_r (e := zI) (fun _ h => rF_X1_has rfl rfl h) h ?_
  clear h
  intro v2 h
  obtain ⟨hr1, h⟩ := ck_e h
  refine ite_r (c_eq rfl kz_0 hr1 ir_0) h ?_ ?_
  · clear h
    intro h
    cases h
    rfl
  · clear h
    intro h
    refine cp_r (e := zI) (fun _ h => rF_X1_lagOf rfl rfl h) h ?_
    clear h
    intro v4 h
    obtain ⟨hr2, h⟩ := ck_e h
    refine lt_r (e_ite (c_eq rfl kz_0 hr2 ir_0) kz_0 kz_1) h ?_
    clear h
    intro v6 h
    obtain ⟨hr3, h⟩ := ck_e h
    refine ite_r (c_eq rfl kz_0 hr3 ir_0) h ?_ ?_
    · clear h
      intro h
      cases h
      rfl
    · clear h
      intro h
      refine cp_r (e := zI) (fun _ h => rF_X2_diffAt rfl (e_sub rfl kz_1) h) h ?_
      clear h
      intro v8 h
      refine cp_r (e := zI) (fun _ h => rF_X2_diffAt rfl rfl h) h ?_
      clear h
      intro v9 h
      refine cp_r (e := zI) (fun _ h => rF_X2_diffAt rfl (e_add rfl kz_1) h) h ?_
      clear h
      intro v10 h
      refine lt_r (e_mul kz_2 (e_add (e_sub rfl (e_mul kz_2 rfl)) rfl)) h ?_
      clear h
      intro v11 h
      obtain ⟨hr4, h⟩ := ck_e h
      refine ite_r (c_eq rfl kz_0 hr4 ir_0) h ?_ ?_
      · clear h
        intro h
        obtain ⟨hr5, h⟩ := ck_e h
        refine lt_r (e_ite (c_eq rfl kz_0 hr5 ir_0) rfl kz_1) h ?_
        clear h
        intro v19 h
        cases h
        exact congrArg some (e_pair (congrArg Sum.inl rfl) rfl)
      · clear h
        intro h
        refine lt_r (e_sub (e_add (e_mul rfl rfl) rfl) rfl) h ?_
        clear h
        intro v13 h
        refine ite_r (c_le kz_0 rfl ir_0 hr4) h ?_ ?_
        · clear h
          intro h
          refine cp_r (e := zI) (fun _ h => rF_X11_lowest rfl rfl rfl h) h ?_
          clear h
          intro v15 h
          exact rJ_X11_fine_1 rfl h
        · clear h
          intro h
          refine cp_r (e := zI) (fun _ h => rF_X11_lowest (e_neg rfl) (e_neg rfl) rfl h) h ?_
          clear h
          intro v16 h
          exact rJ_X11_fine_1 rfl h
theorem rJ_X11_cost_2 {a1_ : Int32} {a1 : Int} (e_a1 : a1_ = zI a1) {g : uZ} {v3_ : Int32} {v3 : Int} (e_v3 : v3_ = zI v3) {zr : ((Int ⊕ Nat) × uZ)} (h : GJ_X11_cost_2 a1 g v3 = some zr) : J_X11_cost_2 a1_ (zS g) v3_ = some (em_28 zr) := by
  subst e_a1 e_v3
  unfold GJ_X11_cost_2 at h
  unfold J_X11_cost_2
  obtain ⟨hr1, h⟩ := ck_e h
  refine ite_r (c_eq rfl kz_0 hr1 ir_0) h ?_ ?_
  · clear h
    intro h
    cases h
    rfl
  · clear h
    intro h
    refine cp_r (e := zS) (fun _ h => rF_X11_findPath h) h ?_
    clear h
    intro g5 h
    refine cl_r (fun _ _ h => rF_X5_priceOf rfl h) h ?_
    clear h
    intro v7 g6 h
    cases h
    exact congrArg some (e_pair (congrArg Sum.inl rfl) rfl)
theorem rJ_X11_cost_1 {a1_ : Int32} {a1 : Int} (e_a1 : a1_ = zI a1) {g : uZ} {zr : ((Int ⊕ Nat) × uZ)} (h : GJ_X11_cost_1 a1 g = some zr) : J_X11_cost_1 a1_ (zS g) = some (em_28 zr) := by
  subst e_a1
  unfold GJ_X11_cost_1 at h
  unfold J_X11_cost_1
  exact rJ_X11_cost_2 rfl kz_0 h
theorem rF_X11_cost {a1_ : Int32} {a1 : Int} (e_a1 : a1_ = zI a1) {g : uZ} {zr : ((Int ⊕ Nat) × uZ)} (h : GF_X11_cost a1 g = some zr) : F_X11_cost a1_ (zS g) = some (em_28 zr) := by
  subst e_a1
  unfold GF_X11_cost at h
  unfold F_X11_cost
  obtain ⟨hr1, h⟩ := ck_e h
  refine ite_r (c_lt rfl kz_0 hr1 ir_0) h ?_ ?_
  · clear h
    intro h
    exact rJ_X11_cost_1 rfl h
  · clear h
    intro h
    refine ite_r (c_lt kz_4 rfl ir_4 hr1) h ?_ ?_
    · clear h
      intro h
      exact rJ_X11_cost_1 rfl h
    · clear h
      intro h
      exact rJ_X11_cost_2 rfl kz_1 h
theorem rF_X11_path {a1_ : Int32} {a1 : Int} (e_a1 : a1_ = zI a1) {g : uZ} {zr : ((Int ⊕ Nat) × uZ)} (h : GF_X11_path a1 g = some zr) : F_X11_path a1_ (zS g) = some (em_28 zr) := by
  subst e_a1
  unfold GF_X11_path at h
  unfold F_X11_path
  refine cp_r (e := zI) (fun _ h => rF_X2_has rfl h) h ?_
  clear h
  intro v1 h
  obtain ⟨hr1, h⟩ := ck_e h
  refine ite_r (c_eq rfl kz_0 hr1 ir_0) h ?_ ?_
  · clear h
    intro h
    cases h
    rfl
  · clear h
    intro h
    refine cp_r (e := zS) (fun _ h => rF_X11_findPath h) h ?_
    clear h
    intro g3 h
    refine cp_r (e := zI) (fun _ h => rF_X5_chosenIn rfl h) h ?_
    clear h
    intro v4 h
    cases h
    exact congrArg some (e_pair (congrArg Sum.inl rfl) rfl)
theorem rF_X11_lag {a1_ : Int32} {a1 : Int} (e_a1 : a1_ = zI a1) {g : uZ} {zr : ((Int ⊕ Nat) × uZ)} (h : GF_X11_lag a1 g = some zr) : F_X11_lag a1_ (zS g) = some (em_28 zr) := by
  subst e_a1
  unfold GF_X11_lag at h
  unfold F_X11_lag
  refine cp_r (e := zI) (fun _ h => rF_X2_has rfl h) h ?_
  clear h
  intro v1 h
  obtain ⟨hr1, h⟩ := ck_e h
  refine ite_r (c_eq rfl kz_0 hr1 ir_0) h ?_ ?_
  · clear h
    intro h
    cases h
    rfl
  · clear h
    intro h
    refine cp_r (e := zS) (fun _ h => rF_X11_findPath h) h ?_
    clear h
    intro g3 h
    refine cp_r (e := zI) (fun _ h => rF_X5_lagIn rfl h) h ?_
    clear h
    intro v4 h
    cases h
    exact congrArg some (e_pair (congrArg Sum.inl rfl) rfl)
theorem rF_X11_through {a1_ : Int32} {a1 : Int} (e_a1 : a1_ = zI a1) {a2_ : Int32} {a2 : Int} (e_a2 : a2_ = zI a2) {g : uZ} {zr : ((Int ⊕ Nat) × uZ)} (h : GF_X11_through a1 a2 g = some zr) : F_X11_through a1_ a2_ (zS g) = some (em_28 zr) := by
  subst e_a1 e_a2
  unfold GF_X11_through at h
  unfold F_X11_through
  refine cp_r (e := zS) (fun _ h => rF_X11_findPath h) h ?_
  clear h
  intro g1 h
  refine cp_r (e := zI) (fun _ h => rF_X1_has rfl rfl h) h ?_
  clear h
  intro v2 h
  obtain ⟨hr1, h⟩ := ck_e h
  refine ite_r (c_eq rfl kz_0 hr1 ir_0) h ?_ ?_
  · clear h
    intro h
    cases h
    rfl
  · clear h
    intro h
    refine cp_r (e := zI) (fun _ h => rF_X5_leastThrough rfl rfl h) h ?_
    clear h
    intro v4 h
    cases h
    exact congrArg some (e_pair (congrArg Sum.inl rfl) rfl)
theorem rF_X11_both {a1_ : Int32} {a1 : Int} (e_a1 : a1_ = zI a1) {a2_ : Int32} {a2 : Int} (e_a2 : a2_ = zI a2) {a3_ : Int32} {a3 : Int} (e_a3 : a3_ = zI a3) {a4_ : Int32} {a4 : Int} (e_a4 : a4_ = zI a4) {g : uZ} {zr : ((Int ⊕ Nat) × uZ)} (h : GF_X11_both a1 a2 a3 a4 g = some zr) : F_X11_both a1_ a2_ a3_ a4_ (zS g) = some (em_28 zr) := by
  subst e_a1 e_a2 e_a3 e_a4
  unfold GF_X11_both at h
  unfold F_X11_both
  refine cp_r (e := zS) (fun _ h => rF_X11_findPath h) h ?_
  clear h
  intro g1 h
  refine cp_r (e := zI) (fun _ h => rF_X1_has rfl rfl h) h ?_
  clear h
  intro v2 h
  obtain ⟨hr1, h⟩ := ck_e h
  refine ite_r (c_eq rfl kz_0 hr1 ir_0) h ?_ ?_
  · clear h
    intro h
    cases h
    rfl
  · clear h
    intro h
    refine cp_r (e := zI) (fun _ h => rF_X1_has rfl rfl h) h ?_
    clear h
    intro v4 h
    obtain ⟨hr2, h⟩ := ck_e h
    refine ite_r (c_eq rfl kz_0 hr2 ir_0) h ?_ ?_
    · clear h
      intro h
      cases h
      rfl
    · clear h
      intro h
      obtain ⟨hr3, h⟩ := ck_e h
      obtain ⟨hr4, h⟩ := ck_e h
      refine lt_r (e_ite (c_le rfl rfl hr3 hr4) kz_0 kz_1) h ?_
      clear h
      intro v7 h
      obtain ⟨hr5, h⟩ := ck_e h
      refine ite_r (c_eq rfl kz_0 hr5 ir_0) h ?_ ?_
      · clear h
        intro h
        cases h
        rfl
      · clear h
        intro h
        refine cl_r (fun _ _ h => rF_X5_leastThroughTwo rfl rfl rfl rfl h) h ?_
        clear h
        intro v10 g9 h
        cases h
        exact congrArg some (e_pair (congrArg Sum.inl rfl) rfl)
theorem rJ_X11_live_2 {a1_ : Int32} {a1 : Int} (e_a1 : a1_ = zI a1) {a2_ : Int32} {a2 : Int} (e_a2 : a2_ = zI a2) {g3 : uZ} {v6_ : Int32} {v6 : Int} (e_v6 : v6_ = zI v6) {zr : ((Int ⊕ Nat) × uZ)} (h : GJ_X11_live_2 a1 a2 g3 v6 = some zr) : J_X11_live_2 a1_ a2_ (zS g3) v6_ = some (em_28 zr) := by
  subst e_a1 e_a2 e_v6
  unfold GJ_X11_live_2 at h
  unfold J_X11_live_2
  obtain ⟨hr1, h⟩ := ck_e h
  refine ite_r (c_eq rfl kz_0 hr1 ir_0) h ?_ ?_
  · clear h
    intro h
    cases h
    rfl
  · clear h
    intro h
    refine cp_r (e := zI) (fun _ h => rF_X5_chosenLive rfl rfl h) h ?_
    clear h
    intro v8 h
    cases h
    exact congrArg some (e_pair (congrArg Sum.inl rfl) rfl)
theorem rJ_X11_live_1 {a1_ : Int32} {a1 : Int} (e_a1 : a1_ = zI a1) {a2_ : Int32} {a2 : Int} (e_a2 : a2_ = zI a2) {g3 : uZ} {zr : ((Int ⊕ Nat) × uZ)} (h : GJ_X11_live_1 a1 a2 g3 = some zr) : J_X11_live_1 a1_ a2_ (zS g3) = some (em_28 zr) := by
  subst e_a1 e_a2
  unfold GJ_X11_live_1 at h
  unfold J_X11_live_1
  exact rJ_X11_live_2 rfl rfl kz_0 h
theorem rF_X11_live {a1_ : Int32} {a1 : Int} (e_a1 : a1_ = zI a1) {a2_ : Int32} {a2 : Int} (e_a2 : a2_ = zI a2) {g : uZ} {zr : ((Int ⊕ Nat) × uZ)} (h : GF_X11_live a1 a2 g = some zr) : F_X11_live a1_ a2_ (zS g) = some (em_28 zr) := by
  subst e_a1 e_a2
  unfold GF_X11_live at h
  unfold F_X11_live
  refine cp_r (e := zI) (fun _ h => rF_X2_has rfl h) h ?_
  clear h
  intro v1 h
  obtain ⟨hr1, h⟩ := ck_e h
  refine ite_r (c_eq rfl kz_0 hr1 ir_0) h ?_ ?_
  · clear h
    intro h
    cases h
    rfl
  · clear h
    intro h
    refine cp_r (e := zS) (fun _ h => rF_X11_findPath h) h ?_
    clear h
    intro g3 h
    obtain ⟨hr2, h⟩ := ck_e h
    refine ite_r (c_lt rfl kz_0 hr2 ir_0) h ?_ ?_
    · clear h
      intro h
      exact rJ_X11_live_1 rfl rfl h
    · clear h
      intro h
      refine ite_r (c_lt kz_20 rfl ir_20 hr2) h ?_ ?_
      · clear h
        intro h
        exact rJ_X11_live_1 rfl rfl h
      · clear h
        intro h
        exact rJ_X11_live_2 rfl rfl kz_1 h
theorem rB_X11_settles_2 {a1_ : Int32} {a1 : Int} (e_a1 : a1_ = zI a1) {v4_ : Int32} {v4 : Int} (e_v4 : v4_ = zI v4) {g3 : uZ} {w5_ : Int32} {w5 : Int} (e_w5 : w5_ = zI w5) {zr : (Int ⊕ Int)} (h : GB_X11_settles_2 a1 v4 g3 w5 = some zr) : B_X11_settles_2 a1_ v4_ (zS g3) w5_ = some (em_12 zr) := by
  subst e_a1 e_v4 e_w5
  unfold GB_X11_settles_2 at h
  unfold B_X11_settles_2
  obtain ⟨hr1, h⟩ := ck_e h
  refine ite_r (c_le rfl kz_0 hr1 ir_0) h ?_ ?_
  · clear h
    intro h
    cases h
    exact congrArg some (congrArg Sum.inr rfl)
  · clear h
    intro h
    refine cp_r (e := zI) (fun _ h => rF_X5_chosenLive rfl (e_sub rfl kz_1) h) h ?_
    clear h
    intro v8 h
    obtain ⟨hr2, h⟩ := ck_e h
    obtain ⟨hr3, h⟩ := ck_e h
    refine ite_r (c_eq rfl rfl hr2 hr3) h ?_ ?_
    · clear h
      intro h
      refine lt_r (e_add rfl kz_m1) h ?_
      clear h
      intro v10 h
      cases h
      exact congrArg some (congrArg Sum.inl rfl)
    · clear h
      intro h
      cases h
      exact congrArg some (congrArg Sum.inr rfl)
theorem rC_X11_settles_3 {g3 : uZ} {v6_ : Int32} {v6 : Int} (e_v6 : v6_ = zI v6) {zr : ((Int ⊕ Nat) × uZ)} (h : GC_X11_settles_3 g3 v6 = some zr) : C_X11_settles_3 (zS g3) v6_ = some (em_28 zr) := by
  subst e_v6
  unfold GC_X11_settles_3 at h
  unfold C_X11_settles_3
  cases h
  exact congrArg some (e_pair (congrArg Sum.inl rfl) rfl)
theorem rF_X11_settles {a1_ : Int32} {a1 : Int} (e_a1 : a1_ = zI a1) {g : uZ} {zr : ((Int ⊕ Nat) × uZ)} (h : GF_X11_settles a1 g = some zr) : F_X11_settles a1_ (zS g) = some (em_28 zr) := by
  subst e_a1
  unfold GF_X11_settles at h
  unfold F_X11_settles
  refine cp_r (e := zI) (fun _ h => rF_X2_has rfl h) h ?_
  clear h
  intro v1 h
  obtain ⟨hr1, h⟩ := ck_e h
  refine ite_r (c_eq rfl kz_0 hr1 ir_0) h ?_ ?_
  · clear h
    intro h
    cases h
    rfl
  · clear h
    intro h
    refine cp_r (e := zS) (fun _ h => rF_X11_findPath h) h ?_
    clear h
    intro g3 h
    refine cp_r (e := zI) (fun _ h => rF_X5_chosenLive rfl kz_20 h) h ?_
    clear h
    intro v4 h
    refine lp_r zI zI kz_20 (fun q r h => rB_X11_settles_2 rfl rfl rfl h) h ?_
    clear h
    intro z h
    exact rC_X11_settles_3 rfl h
theorem rJ_X11_best_2 {a1_ : Int32} {a1 : Int} (e_a1 : a1_ = zI a1) {g : uZ} {v3_ : Int32} {v3 : Int} (e_v3 : v3_ = zI v3) {zr : ((Int ⊕ Nat) × uZ)} (h : GJ_X11_best_2 a1 g v3 = some zr) : J_X11_best_2 a1_ (zS g) v3_ = some (em_28 zr) := by
  subst e_a1 e_v3
  unfold GJ_X11_best_2 at h
  unfold J_X11_best_2
  obtain ⟨hr1, h⟩ := ck_e h
  refine ite_r (c_eq rfl kz_0 hr1 ir_0) h ?_ ?_
  · clear h
    intro h
    cases h
    rfl
  · clear h
    intro h
    refine cp_r (e := zS) (fun _ h => rF_X11_findRanking h) h ?_
    clear h
    intro g5 h
    refine cp_r (e := zI) (fun _ h => rF_X6_priceOf rfl h) h ?_
    clear h
    intro v6 h
    cases h
    exact congrArg some (e_pair (congrArg Sum.inl rfl) rfl)
theorem rJ_X11_best_1 {a1_ : Int32} {a1 : Int} (e_a1 : a1_ = zI a1) {g : uZ} {zr : ((Int ⊕ Nat) × uZ)} (h : GJ_X11_best_1 a1 g = some zr) : J_X11_best_1 a1_ (zS g) = some (em_28 zr) := by
  subst e_a1
  unfold GJ_X11_best_1 at h
  unfold J_X11_best_1
  exact rJ_X11_best_2 rfl kz_0 h
theorem rF_X11_best {a1_ : Int32} {a1 : Int} (e_a1 : a1_ = zI a1) {g : uZ} {zr : ((Int ⊕ Nat) × uZ)} (h : GF_X11_best a1 g = some zr) : F_X11_best a1_ (zS g) = some (em_28 zr) := by
  subst e_a1
  unfold GF_X11_best at h
  unfold F_X11_best
  obtain ⟨hr1, h⟩ := ck_e h
  refine ite_r (c_lt rfl kz_0 hr1 ir_0) h ?_ ?_
  · clear h
    intro h
    exact rJ_X11_best_1 rfl h
  · clear h
    intro h
    refine ite_r (c_le kz_8 rfl ir_8 hr1) h ?_ ?_
    · clear h
      intro h
      exact rJ_X11_best_1 rfl h
    · clear h
      intro h
      exact rJ_X11_best_2 rfl kz_1 h
theorem rJ_X11_bestAt_2 {a1_ : Int32} {a1 : Int} (e_a1 : a1_ = zI a1) {a2_ : Int32} {a2 : Int} (e_a2 : a2_ = zI a2) {g : uZ} {v3_ : Int32} {v3 : Int} (e_v3 : v3_ = zI v3) {zr : ((Int ⊕ Nat) × uZ)} (h : GJ_X11_bestAt_2 a1 a2 g v3 = some zr) : J_X11_bestAt_2 a1_ a2_ (zS g) v3_ = some (em_28 zr) := by
  subst e_a1 e_a2 e_v3
  unfold GJ_X11_bestAt_2 at h
  unfold J_X11_bestAt_2
  obtain ⟨hr1, h⟩ := ck_e h
  refine ite_r (c_eq rfl kz_0 hr1 ir_0) h ?_ ?_
  · clear h
    intro h
    cases h
    rfl
  · clear h
    intro h
    refine cp_r (e := zI) (fun _ h => rF_X2_has rfl h) h ?_
    clear h
    intro v5 h
    obtain ⟨hr2, h⟩ := ck_e h
    refine ite_r (c_eq rfl kz_0 hr2 ir_0) h ?_ ?_
    · clear h
      intro h
      cases h
      rfl
    · clear h
      intro h
      refine cp_r (e := zS) (fun _ h => rF_X11_findRanking h) h ?_
      clear h
      intro g7 h
      refine cp_r (e := zI) (fun _ h => rF_X6_chosenIn rfl rfl h) h ?_
      clear h
      intro v8 h
      cases h
      exact congrArg some (e_pair (congrArg Sum.inl rfl) rfl)
theorem rJ_X11_bestAt_1 {a1_ : Int32} {a1 : Int} (e_a1 : a1_ = zI a1) {a2_ : Int32} {a2 : Int} (e_a2 : a2_ = zI a2) {g : uZ} {zr : ((Int ⊕ Nat) × uZ)} (h : GJ_X11_bestAt_1 a1 a2 g = some zr) : J_X11_bestAt_1 a1_ a2_ (zS g) = some (em_28 zr) := by
  subst e_a1 e_a2
  unfold GJ_X11_bestAt_1 at h
  unfold J_X11_bestAt_1
  exact rJ_X11_bestAt_2 rfl rfl kz_0 h
theorem rF_X11_bestAt {a1_ : Int32} {a1 : Int} (e_a1 : a1_ = zI a1) {a2_ : Int32} {a2 : Int} (e_a2 : a2_ = zI a2) {g : uZ} {zr : ((Int ⊕ Nat) × uZ)} (h : GF_X11_bestAt a1 a2 g = some zr) : F_X11_bestAt a1_ a2_ (zS g) = some (em_28 zr) := by
  subst e_a1 e_a2
  unfold GF_X11_bestAt at h
  unfold F_X11_bestAt
  obtain ⟨hr1, h⟩ := ck_e h
  refine ite_r (c_lt rfl kz_0 hr1 ir_0) h ?_ ?_
  · clear h
    intro h
    exact rJ_X11_bestAt_1 rfl rfl h
  · clear h
    intro h
    refine ite_r (c_le kz_8 rfl ir_8 hr1) h ?_ ?_
    · clear h
      intro h
      exact rJ_X11_bestAt_1 rfl rfl h
    · clear h
      intro h
      exact rJ_X11_bestAt_2 rfl rfl kz_1 h
theorem rJ_X11_would_2 {a1_ : Int32} {a1 : Int} (e_a1 : a1_ = zI a1) {a2_ : Int32} {a2 : Int} (e_a2 : a2_ = zI a2) {g : uZ} {v5_ : Int32} {v5 : Int} (e_v5 : v5_ = zI v5) {zr : ((Int ⊕ Nat) × uZ)} (h : GJ_X11_would_2 a1 a2 g v5 = some zr) : J_X11_would_2 a1_ a2_ (zS g) v5_ = some (em_28 zr) := by
  subst e_a1 e_a2 e_v5
  unfold GJ_X11_would_2 at h
  unfold J_X11_would_2
  obtain ⟨hr1, h⟩ := ck_e h
  refine ite_r (c_eq rfl kz_0 hr1 ir_0) h ?_ ?_
  · clear h
    intro h
    cases h
    rfl
  · clear h
    intro h
    refine cp_r (e := zS) (fun _ h => rF_X11_findPath h) h ?_
    clear h
    intro g7 h
    refine cl_r (fun _ _ h => rF_X5_leastWith rfl rfl h) h ?_
    clear h
    intro v9 g8 h
    cases h
    exact congrArg some (e_pair (congrArg Sum.inl rfl) rfl)
theorem rJ_X11_would_1 {a1_ : Int32} {a1 : Int} (e_a1 : a1_ = zI a1) {a2_ : Int32} {a2 : Int} (e_a2 : a2_ = zI a2) {g : uZ} {zr : ((Int ⊕ Nat) × uZ)} (h : GJ_X11_would_1 a1 a2 g = some zr) : J_X11_would_1 a1_ a2_ (zS g) = some (em_28 zr) := by
  subst e_a1 e_a2
  unfold GJ_X11_would_1 at h
  unfold J_X11_would_1
  exact rJ_X11_would_2 rfl rfl kz_0 h
theorem rF_X11_would {a1_ : Int32} {a1 : Int} (e_a1 : a1_ = zI a1) {a2_ : Int32} {a2 : Int} (e_a2 : a2_ = zI a2) {g : uZ} {zr : ((Int ⊕ Nat) × uZ)} (h : GF_X11_would a1 a2 g = some zr) : F_X11_would a1_ a2_ (zS g) = some (em_28 zr) := by
  subst e_a1 e_a2
  unfold GF_X11_would at h
  unfold F_X11_would
  obtain ⟨hr1, h⟩ := ck_e h
  refine ite_r (c_lt rfl kz_0 hr1 ir_0) h ?_ ?_
  · clear h
    intro h
    exact rJ_X11_would_1 rfl rfl h
  · clear h
    intro h
    refine ite_r (c_lt kz_2000 rfl ir_2000 hr1) h ?_ ?_
    · clear h
      intro h
      exact rJ_X11_would_1 rfl rfl h
    · clear h
      intro h
      obtain ⟨hr2, h⟩ := ck_e h
      refine ite_r (c_lt rfl kz_0 hr2 ir_0) h ?_ ?_
      · clear h
        intro h
        exact rJ_X11_would_1 rfl rfl h
      · clear h
        intro h
        refine ite_r (c_lt kz_2000 rfl ir_2000 hr2) h ?_ ?_
        · clear h
          intro h
          exact rJ_X11_would_1 rfl rfl h
        · clear h
          intro h
          exact rJ_X11_would_2 rfl rfl kz_1 h
theorem rJ_X11_span_2 {a1_ : Int32} {a1 : Int} (e_a1 : a1_ = zI a1) {a2_ : Int32} {a2 : Int} (e_a2 : a2_ = zI a2) {g1 : uZ} {v6_ : Int32} {v6 : Int} (e_v6 : v6_ = zI v6) {zr : ((Int ⊕ Nat) × uZ)} (h : GJ_X11_span_2 a1 a2 g1 v6 = some zr) : J_X11_span_2 a1_ a2_ (zS g1) v6_ = some (em_28 zr) := by
  subst e_a1 e_a2 e_v6
  unfold GJ_X11_span_2 at h
  unfold J_X11_span_2
  obtain ⟨hr1, h⟩ := ck_e h
  refine ite_r (c_eq rfl kz_0 hr1 ir_0) h ?_ ?_
  · clear h
    intro h
    cases h
    rfl
  · clear h
    intro h
    obtain ⟨hr2, h⟩ := ck_e h
    refine ite_r (c_eq rfl kz_0 hr2 ir_0) h ?_ ?_
    · clear h
      intro h
      refine cp_r (e := zI) (fun _ h => rF_X8_firstFrame rfl h) h ?_
      clear h
      intro v9 h
      cases h
      exact congrArg some (e_pair (congrArg Sum.inl rfl) rfl)
    · clear h
      intro h
      refine ite_r (c_eq rfl kz_1 hr2 ir_1) h ?_ ?_
      · clear h
        intro h
        refine cp_r (e := zI) (fun _ h => rF_X8_length rfl h) h ?_
        clear h
        intro v11 h
        cases h
        exact congrArg some (e_pair (congrArg Sum.inl rfl) rfl)
      · clear h
        intro h
        refine ite_r (c_eq rfl kz_2 hr2 ir_2) h ?_ ?_
        · clear h
          intro h
          refine cp_r (e := zI) (fun _ h => rF_X8_isVoiced rfl h) h ?_
          clear h
          intro v13 h
          obtain ⟨hr3, h⟩ := ck_e h
          refine lt_r (e_ite (c_eq rfl kz_0 hr3 ir_0) kz_0 kz_1) h ?_
          clear h
          intro v15 h
          cases h
          exact congrArg some (e_pair (congrArg Sum.inl rfl) rfl)
        · clear h
          intro h
          refine ite_r (c_eq rfl kz_3 hr2 ir_3) h ?_ ?_
          · clear h
            intro h
            refine cp_r (e := zI) (fun _ h => rF_X8_from rfl h) h ?_
            clear h
            intro v17 h
            cases h
            exact congrArg some (e_pair (congrArg Sum.inl rfl) rfl)
          · clear h
            intro h
            refine ite_r (c_eq rfl kz_4 hr2 ir_4) h ?_ ?_
            · clear h
              intro h
              refine cp_r (e := zI) (fun _ h => rF_X8_to rfl h) h ?_
              clear h
              intro v19 h
              cases h
              exact congrArg some (e_pair (congrArg Sum.inl rfl) rfl)
            · clear h
              intro h
              refine ite_r (c_eq rfl kz_5 hr2 ir_5) h ?_ ?_
              · clear h
                intro h
                refine cp_r (e := zS) (fun _ h => rF_X11_findMarks h) h ?_
                clear h
                intro g21 h
                refine cp_r (e := zI) (fun _ h => rF_X3_sizeIn rfl h) h ?_
                clear h
                intro v22 h
                cases h
                exact congrArg some (e_pair (congrArg Sum.inl rfl) rfl)
              · clear h
                intro h
                refine cp_r (e := zS) (fun _ h => rF_X11_findMarks h) h ?_
                clear h
                intro g23 h
                refine cp_r (e := zI) (fun _ h => rF_X3_worthIn rfl h) h ?_
                clear h
                intro v24 h
                cases h
                exact congrArg some (e_pair (congrArg Sum.inl rfl) rfl)
theorem rJ_X11_span_1 {a1_ : Int32} {a1 : Int} (e_a1 : a1_ = zI a1) {a2_ : Int32} {a2 : Int} (e_a2 : a2_ = zI a2) {g1 : uZ} {zr : ((Int ⊕ Nat) × uZ)} (h : GJ_X11_span_1 a1 a2 g1 = some zr) : J_X11_span_1 a1_ a2_ (zS g1) = some (em_28 zr) := by
  subst e_a1 e_a2
  unfold GJ_X11_span_1 at h
  unfold J_X11_span_1
  exact rJ_X11_span_2 rfl rfl kz_0 h
theorem rF_X11_span {a1_ : Int32} {a1 : Int} (e_a1 : a1_ = zI a1) {a2_ : Int32} {a2 : Int} (e_a2 : a2_ = zI a2) {g : uZ} {zr : ((Int ⊕ Nat) × uZ)} (h : GF_X11_span a1 a2 g = some zr) : F_X11_span a1_ a2_ (zS g) = some (em_28 zr) := by
  subst e_a1 e_a2
  unfold GF_X11_span at h
  unfold F_X11_span
  refine cp_r (e := zS) (fun _ h => rF_X11_findPath h) h ?_
  clear h
  intro g1 h
  refine cp_r (e := zI) (fun _ h => rF_X8_has rfl h) h ?_
  clear h
  intro v2 h
  obtain ⟨hr1, h⟩ := ck_e h
  refine ite_r (c_eq rfl kz_0 hr1 ir_0) h ?_ ?_
  · clear h
    intro h
    exact rJ_X11_span_1 rfl rfl h
  · clear h
    intro h
    obtain ⟨hr2, h⟩ := ck_e h
    refine ite_r (c_lt rfl kz_0 hr2 ir_0) h ?_ ?_
    · clear h
      intro h
      exact rJ_X11_span_1 rfl rfl h
    · clear h
      intro h
      refine ite_r (c_lt kz_6 rfl ir_6 hr2) h ?_ ?_
      · clear h
        intro h
        exact rJ_X11_span_1 rfl rfl h
      · clear h
        intro h
        exact rJ_X11_span_2 rfl rfl kz_1 h
theorem rJ_X11_note_2 {a1_ : Int32} {a1 : Int} (e_a1 : a1_ = zI a1) {a2_ : Int32} {a2 : Int} (e_a2 : a2_ = zI a2) {g1 : uZ} {v6_ : Int32} {v6 : Int} (e_v6 : v6_ = zI v6) {zr : ((Int ⊕ Nat) × uZ)} (h : GJ_X11_note_2 a1 a2 g1 v6 = some zr) : J_X11_note_2 a1_ a2_ (zS g1) v6_ = some (em_28 zr) := by
  subst e_a1 e_a2 e_v6
  unfold GJ_X11_note_2 at h
  unfold J_X11_note_2
  obtain ⟨hr1, h⟩ := ck_e h
  refine ite_r (c_eq rfl kz_0 hr1 ir_0) h ?_ ?_
  · clear h
    intro h
    cases h
    rfl
  · clear h
    intro h
    obtain ⟨hr2, h⟩ := ck_e h
    refine ite_r (c_eq rfl kz_0 hr2 ir_0) h ?_ ?_
    · clear h
      intro h
      refine cp_r (e := zI) (fun _ h => rF_X4_firstFrame rfl h) h ?_
      clear h
      intro v9 h
      cases h
      exact congrArg some (e_pair (congrArg Sum.inl rfl) rfl)
    · clear h
      intro h
      refine ite_r (c_eq rfl kz_1 hr2 ir_1) h ?_ ?_
      · clear h
        intro h
        refine cp_r (e := zI) (fun _ h => rF_X4_length rfl h) h ?_
        clear h
        intro v11 h
        cases h
        exact congrArg some (e_pair (congrArg Sum.inl rfl) rfl)
      · clear h
        intro h
        refine cp_r (e := zI) (fun _ h => rF_X4_lagOf rfl h) h ?_
        clear h
        intro v12 h
        cases h
        exact congrArg some (e_pair (congrArg Sum.inl rfl) rfl)
theorem rJ_X11_note_1 {a1_ : Int32} {a1 : Int} (e_a1 : a1_ = zI a1) {a2_ : Int32} {a2 : Int} (e_a2 : a2_ = zI a2) {g1 : uZ} {zr : ((Int ⊕ Nat) × uZ)} (h : GJ_X11_note_1 a1 a2 g1 = some zr) : J_X11_note_1 a1_ a2_ (zS g1) = some (em_28 zr) := by
  subst e_a1 e_a2
  unfold GJ_X11_note_1 at h
  unfold J_X11_note_1
  exact rJ_X11_note_2 rfl rfl kz_0 h
theorem rF_X11_note {a1_ : Int32} {a1 : Int} (e_a1 : a1_ = zI a1) {a2_ : Int32} {a2 : Int} (e_a2 : a2_ = zI a2) {g : uZ} {zr : ((Int ⊕ Nat) × uZ)} (h : GF_X11_note a1 a2 g = some zr) : F_X11_note a1_ a2_ (zS g) = some (em_28 zr) := by
  subst e_a1 e_a2
  unfold GF_X11_note at h
  unfold F_X11_note
  refine cp_r (e := zS) (fun _ h => rF_X11_findPath h) h ?_
  clear h
  intro g1 h
  refine cp_r (e := zI) (fun _ h => rF_X4_has rfl h) h ?_
  clear h
  intro v2 h
  obtain ⟨hr1, h⟩ := ck_e h
  refine ite_r (c_eq rfl kz_0 hr1 ir_0) h ?_ ?_
  · clear h
    intro h
    exact rJ_X11_note_1 rfl rfl h
  · clear h
    intro h
    obtain ⟨hr2, h⟩ := ck_e h
    refine ite_r (c_lt rfl kz_0 hr2 ir_0) h ?_ ?_
    · clear h
      intro h
      exact rJ_X11_note_1 rfl rfl h
    · clear h
      intro h
      refine ite_r (c_lt kz_2 rfl ir_2 hr2) h ?_ ?_
      · clear h
        intro h
        exact rJ_X11_note_1 rfl rfl h
      · clear h
        intro h
        exact rJ_X11_note_2 rfl rfl kz_1 h
theorem rJ_X11_steady_2 {a1_ : Int32} {a1 : Int} (e_a1 : a1_ = zI a1) {g : uZ} {v3_ : Int32} {v3 : Int} (e_v3 : v3_ = zI v3) {zr : ((Int ⊕ Nat) × uZ)} (h : GJ_X11_steady_2 a1 g v3 = some zr) : J_X11_steady_2 a1_ (zS g) v3_ = some (em_28 zr) := by
  subst e_a1 e_v3
  unfold GJ_X11_steady_2 at h
  unfold J_X11_steady_2
  obtain ⟨hr1, h⟩ := ck_e h
  refine ite_r (c_eq rfl kz_0 hr1 ir_0) h ?_ ?_
  · clear h
    intro h
    cases h
    rfl
  · clear h
    intro h
    refine cp_r (e := zS) (fun _ h => rF_X11_findPath h) h ?_
    clear h
    intro g5 h
    obtain ⟨hr2, h⟩ := ck_e h
    refine ite_r (c_eq rfl kz_0 hr2 ir_0) h ?_ ?_
    · clear h
      intro h
      refine cp_r (e := zI) (fun _ h => rF_X4_steadyFirst h) h ?_
      clear h
      intro v7 h
      cases h
      exact congrArg some (e_pair (congrArg Sum.inl rfl) rfl)
    · clear h
      intro h
      refine ite_r (c_eq rfl kz_1 hr2 ir_1) h ?_ ?_
      · clear h
        intro h
        refine cp_r (e := zI) (fun _ h => rF_X4_steadyLength h) h ?_
        clear h
        intro v9 h
        cases h
        exact congrArg some (e_pair (congrArg Sum.inl rfl) rfl)
      · clear h
        intro h
        refine cp_r (e := zI) (fun _ h => rF_X4_steadyLag h) h ?_
        clear h
        intro v10 h
        cases h
        exact congrArg some (e_pair (congrArg Sum.inl rfl) rfl)
theorem rJ_X11_steady_1 {a1_ : Int32} {a1 : Int} (e_a1 : a1_ = zI a1) {g : uZ} {zr : ((Int ⊕ Nat) × uZ)} (h : GJ_X11_steady_1 a1 g = some zr) : J_X11_steady_1 a1_ (zS g) = some (em_28 zr) := by
  subst e_a1
  unfold GJ_X11_steady_1 at h
  unfold J_X11_steady_1
  exact rJ_X11_steady_2 rfl kz_0 h
theorem rF_X11_steady {a1_ : Int32} {a1 : Int} (e_a1 : a1_ = zI a1) {g : uZ} {zr : ((Int ⊕ Nat) × uZ)} (h : GF_X11_steady a1 g = some zr) : F_X11_steady a1_ (zS g) = some (em_28 zr) := by
  subst e_a1
  unfold GF_X11_steady at h
  unfold F_X11_steady
  obtain ⟨hr1, h⟩ := ck_e h
  refine ite_r (c_lt rfl kz_0 hr1 ir_0) h ?_ ?_
  · clear h
    intro h
    exact rJ_X11_steady_1 rfl h
  · clear h
    intro h
    refine ite_r (c_lt kz_2 rfl ir_2 hr1) h ?_ ?_
    · clear h
      intro h
      exact rJ_X11_steady_1 rfl h
    · clear h
      intro h
      exact rJ_X11_steady_2 rfl kz_1 h
theorem rJ_X11_lagAt_2 {g1 : uZ} {v12_ : Int32} {v12 : Int} (e_v12 : v12_ = zI v12) {zr : ((Int ⊕ Nat) × uZ)} (h : GJ_X11_lagAt_2 g1 v12 = some zr) : J_X11_lagAt_2 (zS g1) v12_ = some (em_28 zr) := by
  subst e_v12
  unfold GJ_X11_lagAt_2 at h
  unfold J_X11_lagAt_2
  cases h
  exact congrArg some (e_pair (congrArg Sum.inl rfl) rfl)
theorem rJ_X11_lagAt_3 {a1_ : Int32} {a1 : Int} (e_a1 : a1_ = zI a1) {a2_ : Int32} {a2 : Int} (e_a2 : a2_ = zI a2) {g1 : uZ} {v7_ : Int32} {v7 : Int} (e_v7 : v7_ = zI v7) {zr : ((Int ⊕ Nat) × uZ)} (h : GJ_X11_lagAt_3 a1 a2 g1 v7 = some zr) : J_X11_lagAt_3 a1_ a2_ (zS g1) v7_ = some (em_28 zr) := by
  subst e_a1 e_a2 e_v7
  unfold GJ_X11_lagAt_3 at h
  unfold J_X11_lagAt_3
  obtain ⟨hr1, h⟩ := ck_e h
  refine ite_r (c_eq rfl kz_0 hr1 ir_0) h ?_ ?_
  · clear h
    intro h
    cases h
    rfl
  · clear h
    intro h
    refine cp_r (e := zI) (fun _ h => rF_X4_unlikeLag rfl h) h ?_
    clear h
    intro v9 h
    obtain ⟨hr2, h⟩ := ck_e h
    refine ite_r (c_eq rfl kz_0 hr2 ir_0) h ?_ ?_
    · clear h
      intro h
      exact rJ_X11_lagAt_2 rfl h
    · clear h
      intro h
      refine cp_r (e := zI) (fun _ h => rF_X4_framesWith rfl h) h ?_
      clear h
      intro v11 h
      exact rJ_X11_lagAt_2 rfl h
theorem rJ_X11_lagAt_1 {a1_ : Int32} {a1 : Int} (e_a1 : a1_ = zI a1) {a2_ : Int32} {a2 : Int} (e_a2 : a2_ = zI a2) {g1 : uZ} {zr : ((Int ⊕ Nat) × uZ)} (h : GJ_X11_lagAt_1 a1 a2 g1 = some zr) : J_X11_lagAt_1 a1_ a2_ (zS g1) = some (em_28 zr) := by
  subst e_a1 e_a2
  unfold GJ_X11_lagAt_1 at h
  unfold J_X11_lagAt_1
  exact rJ_X11_lagAt_3 rfl rfl kz_0 h
theorem rF_X11_lagAt {a1_ : Int32} {a1 : Int} (e_a1 : a1_ = zI a1) {a2_ : Int32} {a2 : Int} (e_a2 : a2_ = zI a2) {g : uZ} {zr : ((Int ⊕ Nat) × uZ)} (h : GF_X11_lagAt a1 a2 g = some zr) : F_X11_lagAt a1_ a2_ (zS g) = some (em_28 zr) := by
  subst e_a1 e_a2
  unfold GF_X11_lagAt at h
  unfold F_X11_lagAt
  refine cp_r (e := zS) (fun _ h => rF_X11_findPath h) h ?_
  clear h
  intro g1 h
  obtain ⟨hr1, h⟩ := ck_e h
  refine ite_r (c_lt rfl kz_0 hr1 ir_0) h ?_ ?_
  · clear h
    intro h
    exact rJ_X11_lagAt_1 rfl rfl h
  · clear h
    intro h
    refine cp_r (e := zI) (fun _ h => rF_X4_unlikeLags h) h ?_
    clear h
    intro v3 h
    obtain ⟨hr2, h⟩ := ck_e h
    refine ite_r (c_le rfl rfl hr2 hr1) h ?_ ?_
    · clear h
      intro h
      exact rJ_X11_lagAt_1 rfl rfl h
    · clear h
      intro h
      obtain ⟨hr3, h⟩ := ck_e h
      refine ite_r (c_lt rfl kz_0 hr3 ir_0) h ?_ ?_
      · clear h
        intro h
        exact rJ_X11_lagAt_1 rfl rfl h
      · clear h
        intro h
        refine ite_r (c_lt kz_1 rfl ir_1 hr3) h ?_ ?_
        · clear h
          intro h
          exact rJ_X11_lagAt_1 rfl rfl h
        · clear h
          intro h
          exact rJ_X11_lagAt_3 rfl rfl kz_1 h
theorem rJ_X11_common_2 {g5 : uZ} {v9_ : Int32} {v9 : Int} (e_v9 : v9_ = zI v9) {zr : ((Int ⊕ Nat) × uZ)} (h : GJ_X11_common_2 g5 v9 = some zr) : J_X11_common_2 (zS g5) v9_ = some (em_28 zr) := by
  subst e_v9
  unfold GJ_X11_common_2 at h
  unfold J_X11_common_2
  cases h
  exact congrArg some (e_pair (congrArg Sum.inl rfl) rfl)
theorem rJ_X11_common_3 {a1_ : Int32} {a1 : Int} (e_a1 : a1_ = zI a1) {g : uZ} {v3_ : Int32} {v3 : Int} (e_v3 : v3_ = zI v3) {zr : ((Int ⊕ Nat) × uZ)} (h : GJ_X11_common_3 a1 g v3 = some zr) : J_X11_common_3 a1_ (zS g) v3_ = some (em_28 zr) := by
  subst e_a1 e_v3
  unfold GJ_X11_common_3 at h
  unfold J_X11_common_3
  obtain ⟨hr1, h⟩ := ck_e h
  refine ite_r (c_eq rfl kz_0 hr1 ir_0) h ?_ ?_
  · clear h
    intro h
    cases h
    rfl
  · clear h
    intro h
    refine cp_r (e := zS) (fun _ h => rF_X11_findPath h) h ?_
    clear h
    intro g5 h
    obtain ⟨hr2, h⟩ := ck_e h
    refine ite_r (c_eq rfl kz_0 hr2 ir_0) h ?_ ?_
    · clear h
      intro h
      refine cp_r (e := zI) (fun _ h => rF_X4_commonest h) h ?_
      clear h
      intro v8 h
      exact rJ_X11_common_2 rfl h
    · clear h
      intro h
      refine cp_r (e := zI) (fun _ h => rF_X4_middleOfAll h) h ?_
      clear h
      intro v7 h
      exact rJ_X11_common_2 rfl h
theorem rJ_X11_common_1 {a1_ : Int32} {a1 : Int} (e_a1 : a1_ = zI a1) {g : uZ} {zr : ((Int ⊕ Nat) × uZ)} (h : GJ_X11_common_1 a1 g = some zr) : J_X11_common_1 a1_ (zS g) = some (em_28 zr) := by
  subst e_a1
  unfold GJ_X11_common_1 at h
  unfold J_X11_common_1
  exact rJ_X11_common_3 rfl kz_0 h
theorem rF_X11_common {a1_ : Int32} {a1 : Int} (e_a1 : a1_ = zI a1) {g : uZ} {zr : ((Int ⊕ Nat) × uZ)} (h : GF_X11_common a1 g = some zr) : F_X11_common a1_ (zS g) = some (em_28 zr) := by
  subst e_a1
  unfold GF_X11_common at h
  unfold F_X11_common
  obtain ⟨hr1, h⟩ := ck_e h
  refine ite_r (c_lt rfl kz_0 hr1 ir_0) h ?_ ?_
  · clear h
    intro h
    exact rJ_X11_common_1 rfl h
  · clear h
    intro h
    refine ite_r (c_lt kz_1 rfl ir_1 hr1) h ?_ ?_
    · clear h
      intro h
      exact rJ_X11_common_1 rfl h
    · clear h
      intro h
      exact rJ_X11_common_3 rfl kz_1 h
theorem rJ_X11_match_2 {g6 : uZ} {v10_ : Int32} {v10 : Int} (e_v10 : v10_ = zI v10) {zr : ((Int ⊕ Nat) × uZ)} (h : GJ_X11_match_2 g6 v10 = some zr) : J_X11_match_2 (zS g6) v10_ = some (em_28 zr) := by
  subst e_v10
  unfold GJ_X11_match_2 at h
  unfold J_X11_match_2
  cases h
  exact congrArg some (e_pair (congrArg Sum.inl rfl) rfl)
theorem rJ_X11_match_3 {a1_ : Int32} {a1 : Int} (e_a1 : a1_ = zI a1) {g : uZ} {v3_ : Int32} {v3 : Int} (e_v3 : v3_ = zI v3) {zr : ((Int ⊕ Nat) × uZ)} (h : GJ_X11_match_3 a1 g v3 = some zr) : J_X11_match_3 a1_ (zS g) v3_ = some (em_28 zr) := by
  subst e_a1 e_v3
  unfold GJ_X11_match_3 at h
  unfold J_X11_match_3
  obtain ⟨hr1, h⟩ := ck_e h
  refine ite_r (c_eq rfl kz_0 hr1 ir_0) h ?_ ?_
  · clear h
    intro h
    cases h
    rfl
  · clear h
    intro h
    refine cp_r (e := zS) (fun _ h => rF_X11_findPath h) h ?_
    clear h
    intro g5 h
    refine cp_r (e := zS) (fun _ h => rF_X10_findPairs h) h ?_
    clear h
    intro g6 h
    obtain ⟨hr2, h⟩ := ck_e h
    refine ite_r (c_eq rfl kz_0 hr2 ir_0) h ?_ ?_
    · clear h
      intro h
      refine cp_r (e := zI) (fun _ h => rF_X10_price h) h ?_
      clear h
      intro v9 h
      exact rJ_X11_match_2 rfl h
    · clear h
      intro h
      refine cp_r (e := zI) (fun _ h => rF_X10_pairs h) h ?_
      clear h
      intro v8 h
      exact rJ_X11_match_2 rfl h
theorem rJ_X11_match_1 {a1_ : Int32} {a1 : Int} (e_a1 : a1_ = zI a1) {g : uZ} {zr : ((Int ⊕ Nat) × uZ)} (h : GJ_X11_match_1 a1 g = some zr) : J_X11_match_1 a1_ (zS g) = some (em_28 zr) := by
  subst e_a1
  unfold GJ_X11_match_1 at h
  unfold J_X11_match_1
  exact rJ_X11_match_3 rfl kz_0 h
theorem rF_X11_match {a1_ : Int32} {a1 : Int} (e_a1 : a1_ = zI a1) {g : uZ} {zr : ((Int ⊕ Nat) × uZ)} (h : GF_X11_match a1 g = some zr) : F_X11_match a1_ (zS g) = some (em_28 zr) := by
  subst e_a1
  unfold GF_X11_match at h
  unfold F_X11_match
  obtain ⟨hr1, h⟩ := ck_e h
  refine ite_r (c_lt rfl kz_0 hr1 ir_0) h ?_ ?_
  · clear h
    intro h
    exact rJ_X11_match_1 rfl h
  · clear h
    intro h
    refine ite_r (c_lt kz_1 rfl ir_1 hr1) h ?_ ?_
    · clear h
      intro h
      exact rJ_X11_match_1 rfl h
    · clear h
      intro h
      exact rJ_X11_match_3 rfl kz_1 h
theorem rJ_X11_matched_2 {a1_ : Int32} {a1 : Int} (e_a1 : a1_ = zI a1) {g : uZ} {v4_ : Int32} {v4 : Int} (e_v4 : v4_ = zI v4) {zr : ((Int ⊕ Nat) × uZ)} (h : GJ_X11_matched_2 a1 g v4 = some zr) : J_X11_matched_2 a1_ (zS g) v4_ = some (em_28 zr) := by
  subst e_a1 e_v4
  unfold GJ_X11_matched_2 at h
  unfold J_X11_matched_2
  obtain ⟨hr1, h⟩ := ck_e h
  refine ite_r (c_eq rfl kz_0 hr1 ir_0) h ?_ ?_
  · clear h
    intro h
    cases h
    rfl
  · clear h
    intro h
    refine cp_r (e := zS) (fun _ h => rF_X11_findPath h) h ?_
    clear h
    intro g6 h
    refine cp_r (e := zS) (fun _ h => rF_X10_findPairs h) h ?_
    clear h
    intro g7 h
    refine cp_r (e := zI) (fun _ h => rF_X10_pairOf rfl h) h ?_
    clear h
    intro v8 h
    cases h
    exact congrArg some (e_pair (congrArg Sum.inl rfl) rfl)
theorem rJ_X11_matched_1 {a1_ : Int32} {a1 : Int} (e_a1 : a1_ = zI a1) {g : uZ} {zr : ((Int ⊕ Nat) × uZ)} (h : GJ_X11_matched_1 a1 g = some zr) : J_X11_matched_1 a1_ (zS g) = some (em_28 zr) := by
  subst e_a1
  unfold GJ_X11_matched_1 at h
  unfold J_X11_matched_1
  exact rJ_X11_matched_2 rfl kz_0 h
theorem rF_X11_matched {a1_ : Int32} {a1 : Int} (e_a1 : a1_ = zI a1) {g : uZ} {zr : ((Int ⊕ Nat) × uZ)} (h : GF_X11_matched a1 g = some zr) : F_X11_matched a1_ (zS g) = some (em_28 zr) := by
  subst e_a1
  unfold GF_X11_matched at h
  unfold F_X11_matched
  obtain ⟨hr1, h⟩ := ck_e h
  refine ite_r (c_lt rfl kz_0 hr1 ir_0) h ?_ ?_
  · clear h
    intro h
    exact rJ_X11_matched_1 rfl h
  · clear h
    intro h
    refine cp_r (e := zI) (fun _ h => rF_X10_size h) h ?_
    clear h
    intro v2 h
    obtain ⟨hr2, h⟩ := ck_e h
    refine ite_r (c_le rfl rfl hr2 hr1) h ?_ ?_
    · clear h
      intro h
      exact rJ_X11_matched_1 rfl h
    · clear h
      intro h
      exact rJ_X11_matched_2 rfl kz_1 h
theorem rF_X11_mark {a1_ : Int32} {a1 : Int} (e_a1 : a1_ = zI a1) {g : uZ} {zr : ((Int ⊕ Nat) × uZ)} (h : GF_X11_mark a1 g = some zr) : F_X11_mark a1_ (zS g) = some (em_28 zr) := by
  subst e_a1
  unfold GF_X11_mark at h
  unfold F_X11_mark
  refine cp_r (e := zS) (fun _ h => rF_X11_findMarks h) h ?_
  clear h
  intro g1 h
  refine cp_r (e := zI) (fun _ h => rF_X3_has rfl h) h ?_
  clear h
  intro v2 h
  obtain ⟨hr1, h⟩ := ck_e h
  refine ite_r (c_eq rfl kz_0 hr1 ir_0) h ?_ ?_
  · clear h
    intro h
    cases h
    rfl
  · clear h
    intro h
    refine cp_r (e := zI) (fun _ h => rF_X3_at rfl h) h ?_
    clear h
    intro v4 h
    cases h
    exact congrArg some (e_pair (congrArg Sum.inl rfl) rfl)
theorem rJ_X11_gaps_2 {a1_ : Int32} {a1 : Int} (e_a1 : a1_ = zI a1) {g : uZ} {v3_ : Int32} {v3 : Int} (e_v3 : v3_ = zI v3) {zr : ((Int ⊕ Nat) × uZ)} (h : GJ_X11_gaps_2 a1 g v3 = some zr) : J_X11_gaps_2 a1_ (zS g) v3_ = some (em_28 zr) := by
  subst e_a1 e_v3
  unfold GJ_X11_gaps_2 at h
  unfold J_X11_gaps_2
  obtain ⟨hr1, h⟩ := ck_e h
  refine ite_r (c_eq rfl kz_0 hr1 ir_0) h ?_ ?_
  · clear h
    intro h
    cases h
    rfl
  · clear h
    intro h
    refine cp_r (e := zS) (fun _ h => rF_X11_findMarks h) h ?_
    clear h
    intro g5 h
    obtain ⟨hr2, h⟩ := ck_e h
    refine ite_r (c_eq rfl kz_0 hr2 ir_0) h ?_ ?_
    · clear h
      intro h
      refine cp_r (e := zI) (fun _ h => rF_X3_gapCount h) h ?_
      clear h
      intro v7 h
      cases h
      exact congrArg some (e_pair (congrArg Sum.inl rfl) rfl)
    · clear h
      intro h
      refine ite_r (c_eq rfl kz_1 hr2 ir_1) h ?_ ?_
      · clear h
        intro h
        refine cp_r (e := zI) (fun _ h => rF_X3_jitter h) h ?_
        clear h
        intro v9 h
        cases h
        exact congrArg some (e_pair (congrArg Sum.inl rfl) rfl)
      · clear h
        intro h
        refine ite_r (c_eq rfl kz_2 hr2 ir_2) h ?_ ?_
        · clear h
          intro h
          refine cp_r (e := zI) (fun _ h => rF_X3_shimmer h) h ?_
          clear h
          intro v11 h
          cases h
          exact congrArg some (e_pair (congrArg Sum.inl rfl) rfl)
        · clear h
          intro h
          refine ite_r (c_eq rfl kz_3 hr2 ir_3) h ?_ ?_
          · clear h
            intro h
            refine cp_r (e := zI) (fun _ h => rF_X3_longestGap h) h ?_
            clear h
            intro v13 h
            cases h
            exact congrArg some (e_pair (congrArg Sum.inl rfl) rfl)
          · clear h
            intro h
            refine cp_r (e := zI) (fun _ h => rF_X3_shortestGap h) h ?_
            clear h
            intro v14 h
            cases h
            exact congrArg some (e_pair (congrArg Sum.inl rfl) rfl)
theorem rJ_X11_gaps_1 {a1_ : Int32} {a1 : Int} (e_a1 : a1_ = zI a1) {g : uZ} {zr : ((Int ⊕ Nat) × uZ)} (h : GJ_X11_gaps_1 a1 g = some zr) : J_X11_gaps_1 a1_ (zS g) = some (em_28 zr) := by
  subst e_a1
  unfold GJ_X11_gaps_1 at h
  unfold J_X11_gaps_1
  exact rJ_X11_gaps_2 rfl kz_0 h
theorem rF_X11_gaps {a1_ : Int32} {a1 : Int} (e_a1 : a1_ = zI a1) {g : uZ} {zr : ((Int ⊕ Nat) × uZ)} (h : GF_X11_gaps a1 g = some zr) : F_X11_gaps a1_ (zS g) = some (em_28 zr) := by
  subst e_a1
  unfold GF_X11_gaps at h
  unfold F_X11_gaps
  obtain ⟨hr1, h⟩ := ck_e h
  refine ite_r (c_lt rfl kz_0 hr1 ir_0) h ?_ ?_
  · clear h
    intro h
    exact rJ_X11_gaps_1 rfl h
  · clear h
    intro h
    refine ite_r (c_lt kz_4 rfl ir_4 hr1) h ?_ ?_
    · clear h
      intro h
      exact rJ_X11_gaps_1 rfl h
    · clear h
      intro h
      exact rJ_X11_gaps_2 rfl kz_1 h
theorem rF_X11_rough {a1_ : Int32} {a1 : Int} (e_a1 : a1_ = zI a1) {g : uZ} {zr : ((Int ⊕ Nat) × uZ)} (h : GF_X11_rough a1 g = some zr) : F_X11_rough a1_ (zS g) = some (em_28 zr) := by
  subst e_a1
  unfold GF_X11_rough at h
  unfold F_X11_rough
  refine cp_r (e := zS) (fun _ h => rF_X11_findMarks h) h ?_
  clear h
  intro g1 h
  refine cp_r (e := zI) (fun _ h => rF_X3_has rfl h) h ?_
  clear h
  intro v2 h
  obtain ⟨hr1, h⟩ := ck_e h
  refine ite_r (c_eq rfl kz_0 hr1 ir_0) h ?_ ?_
  · clear h
    intro h
    cases h
    rfl
  · clear h
    intro h
    refine cp_r (e := zI) (fun _ h => rF_X3_roughness rfl h) h ?_
    clear h
    intro v4 h
    cases h
    exact congrArg some (e_pair (congrArg Sum.inl rfl) rfl)
theorem rF_X11_mean {a1_ : Int32} {a1 : Int} (e_a1 : a1_ = zI a1) {g : uZ} {zr : ((Int ⊕ Nat) × uZ)} (h : GF_X11_mean a1 g = some zr) : F_X11_mean a1_ (zS g) = some (em_28 zr) := by
  subst e_a1
  unfold GF_X11_mean at h
  unfold F_X11_mean
  refine cp_r (e := zS) (fun _ h => rF_X11_findMarks h) h ?_
  clear h
  intro g1 h
  refine cp_r (e := zI) (fun _ h => rF_X3_gapCount h) h ?_
  clear h
  intro v2 h
  obtain ⟨hr1, h⟩ := ck_e h
  refine lt_r (e_ite (c_le rfl kz_0 hr1 ir_0) kz_0 kz_1) h ?_
  clear h
  intro v4 h
  obtain ⟨hr2, h⟩ := ck_e h
  refine ite_r (c_eq rfl kz_0 hr2 ir_0) h ?_ ?_
  · clear h
    intro h
    cases h
    rfl
  · clear h
    intro h
    refine cp_r (e := zI) (fun _ h => rF_X3_gapSum h) h ?_
    clear h
    intro v6 h
    refine cp_r (e := zI) (fun _ h => rF_X3_gapCount h) h ?_
    clear h
    intro v7 h
    refine cp_r (e := zI) (fun _ h => rF_X11_lowest rfl rfl rfl h) h ?_
    clear h
    intro v8 h
    cases h
    exact congrArg some (e_pair (congrArg Sum.inl rfl) rfl)
theorem rJ_X11_anew_2 {a1_ : Int32} {a1 : Int} (e_a1 : a1_ = zI a1) {a2_ : Int32} {a2 : Int} (e_a2 : a2_ = zI a2) {a3_ : Int32} {a3 : Int} (e_a3 : a3_ = zI a3) {g : uZ} {v7_ : Int32} {v7 : Int} (e_v7 : v7_ = zI v7) {zr : ((Int ⊕ Nat) × uZ)} (h : GJ_X11_anew_2 a1 a2 a3 g v7 = some zr) : J_X11_anew_2 a1_ a2_ a3_ (zS g) v7_ = some (em_28 zr) := by
  subst e_a1 e_a2 e_a3 e_v7
  unfold GJ_X11_anew_2 at h
  unfold J_X11_anew_2
  obtain ⟨hr1, h⟩ := ck_e h
  refine ite_r (c_eq rfl kz_0 hr1 ir_0) h ?_ ?_
  · clear h
    intro h
    cases h
    rfl
  · clear h
    intro h
    refine cp_r (e := zS) (fun _ h => rF_X11_findMarks h) h ?_
    clear h
    intro g9 h
    refine cp_r (e := zI) (fun _ h => rF_X3_renewed rfl rfl rfl h) h ?_
    clear h
    intro v10 h
    cases h
    exact congrArg some (e_pair (congrArg Sum.inl rfl) rfl)
theorem rJ_X11_anew_1 {a1_ : Int32} {a1 : Int} (e_a1 : a1_ = zI a1) {a2_ : Int32} {a2 : Int} (e_a2 : a2_ = zI a2) {a3_ : Int32} {a3 : Int} (e_a3 : a3_ = zI a3) {g : uZ} {zr : ((Int ⊕ Nat) × uZ)} (h : GJ_X11_anew_1 a1 a2 a3 g = some zr) : J_X11_anew_1 a1_ a2_ a3_ (zS g) = some (em_28 zr) := by
  subst e_a1 e_a2 e_a3
  unfold GJ_X11_anew_1 at h
  unfold J_X11_anew_1
  exact rJ_X11_anew_2 rfl rfl rfl kz_0 h
theorem rF_X11_anew {a1_ : Int32} {a1 : Int} (e_a1 : a1_ = zI a1) {a2_ : Int32} {a2 : Int} (e_a2 : a2_ = zI a2) {a3_ : Int32} {a3 : Int} (e_a3 : a3_ = zI a3) {g : uZ} {zr : ((Int ⊕ Nat) × uZ)} (h : GF_X11_anew a1 a2 a3 g = some zr) : F_X11_anew a1_ a2_ a3_ (zS g) = some (em_28 zr) := by
  subst e_a1 e_a2 e_a3
  unfold GF_X11_anew at h
  unfold F_X11_anew
  refine cp_r (e := zI) (fun _ h => rF_X7_has rfl h) h ?_
  clear h
  intro v1 h
  obtain ⟨hr1, h⟩ := ck_e h
  refine ite_r (c_eq rfl kz_0 hr1 ir_0) h ?_ ?_
  · clear h
    intro h
    cases h
    rfl
  · clear h
    intro h
    obtain ⟨hr2, h⟩ := ck_e h
    refine ite_r (c_lt rfl kz_1 hr2 ir_1) h ?_ ?_
    · clear h
      intro h
      exact rJ_X11_anew_1 rfl rfl rfl h
    · clear h
      intro h
      refine ite_r (c_lt kz_4 rfl ir_4 hr2) h ?_ ?_
      · clear h
        intro h
        exact rJ_X11_anew_1 rfl rfl rfl h
      · clear h
        intro h
        obtain ⟨hr3, h⟩ := ck_e h
        refine ite_r (c_lt rfl kz_1 hr3 ir_1) h ?_ ?_
        · clear h
          intro h
          exact rJ_X11_anew_1 rfl rfl rfl h
        · clear h
          intro h
          refine ite_r (c_lt kz_4 rfl ir_4 hr3) h ?_ ?_
          · clear h
            intro h
            exact rJ_X11_anew_1 rfl rfl rfl h
          · clear h
            intro h
            exact rJ_X11_anew_2 rfl rfl rfl kz_1 h

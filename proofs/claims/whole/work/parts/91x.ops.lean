/-! all calls, over the ints of the machine -/
def IFs (σ : uS) : Prop := ∃ g, σ = zS g ∧ IV RKg MKg g
theorem toV {A B : uS → Option (Int32 × uS)} {GA GB : uZ → Option (Int × uZ)} (h : opV (IV RKg MKg) GA GB) (hA : ∀ g z, GA g = some z → A (zS g) = some (em_2 z)) (hB : ∀ g z, GB g = some z → B (zS g) = some (em_2 z)) : OpV IFs A B := by
  rintro σ ⟨g, rfl, hI⟩
  obtain ⟨r, g1, g2, h1, h2, h3⟩ := h g hI
  exact ⟨zI r, zS g1, zS g2, hA _ _ h1, hB _ _ h2, g2, rfl, h3⟩
theorem toT {xs : List (Nat × Int)} {ys : List (Nat × Int32)} {A : uS → Option ((Int32 ⊕ Nat) × uS)} {B : uS → Option (Int32 × uS)} {GA : uZ → Option ((Int ⊕ Nat) × uZ)} {GB : uZ → Option (Int × uZ)} (hxy : ∀ q ∈ xs, (q.1, zI q.2) ∈ ys) (h : opT (IV RKg MKg) xs GA GB) (hA : ∀ g z, GA g = some z → A (zS g) = some (em_28 z)) (hB : ∀ g z, GB g = some z → B (zS g) = some (em_2 z)) : OpT IFs ys A B := by
  rintro σ ⟨g, rfl, hI⟩
  rcases h g hI with ⟨r, g1, g2, h1, h2, h3, h4⟩ | ⟨q, hq, r, g1, g2, h1, h2, h3, h4⟩
  · left
    exact ⟨zI r, zS g1, zS g2, hA _ _ h1, hB _ _ h2, by show zI (g2 55 9) = 0; rw [h3]; decide +kernel, g2, rfl, h4⟩
  · right
    exact ⟨(q.1, zI q.2), hxy q hq, zI r, zS g1, zS g2, hA _ _ h1, hB _ _ h2, by show zI (g2 55 9) = zI q.2; rw [h3], g2, rfl, h4⟩
theorem kpR : Kp RKg := kR.kp (by decide)
theorem kpM : Kp MKg := kM.kp (by decide)
theorem op_0 (s : Nat → Int32) : OpV IFs (F_X11_feed (s 1) (s 2) (s 3) (s 4) (s 5)) (F_X12_feed (s 1) (s 2) (s 3) (s 4) (s 5)) :=
  toV (o_feed kR kM _ _ _ _ _) (fun g z h => rF_X11_feed (zI_toInt (s 1)).symm (zI_toInt (s 2)).symm (zI_toInt (s 3)).symm (zI_toInt (s 4)).symm (zI_toInt (s 5)).symm h) (fun g z h => rF_X12_feed (zI_toInt (s 1)).symm (zI_toInt (s 2)).symm (zI_toInt (s 3)).symm (zI_toInt (s 4)).symm (zI_toInt (s 5)).symm h)
theorem op_1 (s : Nat → Int32) : OpV IFs (F_X11_samples (s 1)) (F_X12_samples (s 1)) :=
  toV (o_samples kpR kpM (toInt_inR (s 1))) (fun g z h => rF_X11_samples (zI_toInt (s 1)).symm h) (fun g z h => rF_X12_samples (zI_toInt (s 1)).symm h)
theorem op_2 (s : Nat → Int32) : OpV IFs (F_X11_cycles (s 1) (s 2) (s 3)) (F_X12_cycles (s 1) (s 2) (s 3)) :=
  toV (o_cycles kpR kpM (toInt_inR (s 1)) (toInt_inR (s 2)) (toInt_inR (s 3))) (fun g z h => rF_X11_cycles (zI_toInt (s 1)).symm (zI_toInt (s 2)).symm (zI_toInt (s 3)).symm h) (fun g z h => rF_X12_cycles (zI_toInt (s 1)).symm (zI_toInt (s 2)).symm (zI_toInt (s 3)).symm h)
theorem op_3 (s : Nat → Int32) : OpV IFs (F_X11_noise (s 1) (s 2) (s 3)) (F_X12_noise (s 1) (s 2) (s 3)) :=
  toV (o_noise kpR kpM (toInt_inR (s 1)) (toInt_inR (s 2)) (toInt_inR (s 3))) (fun g z h => rF_X11_noise (zI_toInt (s 1)).symm (zI_toInt (s 2)).symm (zI_toInt (s 3)).symm h) (fun g z h => rF_X12_noise (zI_toInt (s 1)).symm (zI_toInt (s 2)).symm (zI_toInt (s 3)).symm h)
theorem op_4 (s : Nat → Int32) : OpV IFs (F_X11_poke (s 1) (s 2)) (F_X12_poke (s 1) (s 2)) :=
  toV (o_poke kpR kpM (toInt_inR (s 1)) (toInt_inR (s 2))) (fun g z h => rF_X11_poke (zI_toInt (s 1)).symm (zI_toInt (s 2)).symm h) (fun g z h => rF_X12_poke (zI_toInt (s 1)).symm (zI_toInt (s 2)).symm h)
theorem op_5 (s : Nat → Int32) : OpV IFs (F_X11_cut (s 1)) (F_X12_cut (s 1)) :=
  toV (o_cut kpR kpM (toInt_inR (s 1))) (fun g z h => rF_X11_cut (zI_toInt (s 1)).symm h) (fun g z h => rF_X12_cut (zI_toInt (s 1)).symm h)
theorem op_6 (s : Nat → Int32) : OpT IFs [(1, 1)] (F_X11_sample (s 1)) (F_X12_sample (s 1)) :=
  toT (by decide +kernel) (o_sample kpR kpM (toInt_inR (s 1))) (fun g z h => rF_X11_sample (zI_toInt (s 1)).symm h) (fun g z h => rF_X12_sample (zI_toInt (s 1)).symm h)
theorem op_7 (s : Nat → Int32) : OpV IFs (F_X11_bound (s 1) (s 2)) (F_X12_bound (s 1) (s 2)) :=
  toV (o_bound kpR kpM (toInt_inR (s 1)) (toInt_inR (s 2))) (fun g z h => rF_X11_bound (zI_toInt (s 1)).symm (zI_toInt (s 2)).symm h) (fun g z h => rF_X12_bound (zI_toInt (s 1)).symm (zI_toInt (s 2)).symm h)
theorem op_8 (s : Nat → Int32) : OpT IFs [(1, 1)] (F_X11_count (s 1)) (F_X12_count (s 1)) :=
  toT (by decide +kernel) (o_count kpR kpM (toInt_inR (s 1))) (fun g z h => rF_X11_count (zI_toInt (s 1)).symm h) (fun g z h => rF_X12_count (zI_toInt (s 1)).symm h)
theorem op_9 (s : Nat → Int32) : OpT IFs [(1, 1)] (F_X11_diff (s 1) (s 2)) (F_X12_diff (s 1) (s 2)) :=
  toT (by decide +kernel) (o_diff kpR kpM (toInt_inR (s 1)) (toInt_inR (s 2))) (fun g z h => rF_X11_diff (zI_toInt (s 1)).symm (zI_toInt (s 2)).symm h) (fun g z h => rF_X12_diff (zI_toInt (s 1)).symm (zI_toInt (s 2)).symm h)
theorem op_10 (s : Nat → Int32) : OpT IFs [(1, 1)] (F_X11_rel (s 1) (s 2)) (F_X12_rel (s 1) (s 2)) :=
  toT (by decide +kernel) (o_rel kpR kpM (toInt_inR (s 1)) (toInt_inR (s 2))) (fun g z h => rF_X11_rel (zI_toInt (s 1)).symm (zI_toInt (s 2)).symm h) (fun g z h => rF_X12_rel (zI_toInt (s 1)).symm (zI_toInt (s 2)).symm h)
theorem op_11 (s : Nat → Int32) : OpT IFs [(1, 1)] (F_X11_loud (s 1)) (F_X12_loud (s 1)) :=
  toT (by decide +kernel) (o_loud kpR kpM (toInt_inR (s 1))) (fun g z h => rF_X11_loud (zI_toInt (s 1)).symm h) (fun g z h => rF_X12_loud (zI_toInt (s 1)).symm h)
theorem op_12 (s : Nat → Int32) : OpT IFs [(1, 1)] (F_X11_candidates (s 1)) (F_X12_candidates (s 1)) :=
  toT (by decide +kernel) (o_candidates kpR kpM (toInt_inR (s 1))) (fun g z h => rF_X11_candidates (zI_toInt (s 1)).symm h) (fun g z h => rF_X12_candidates (zI_toInt (s 1)).symm h)
theorem op_13 (s : Nat → Int32) : OpT IFs [(1, 1)] (F_X11_candidate (s 1) (s 2) (s 3)) (F_X12_candidate (s 1) (s 2) (s 3)) :=
  toT (by decide +kernel) (o_candidate kpR kpM (toInt_inR (s 1)) (toInt_inR (s 2)) (toInt_inR (s 3))) (fun g z h => rF_X11_candidate (zI_toInt (s 1)).symm (zI_toInt (s 2)).symm (zI_toInt (s 3)).symm h) (fun g z h => rF_X12_candidate (zI_toInt (s 1)).symm (zI_toInt (s 2)).symm (zI_toInt (s 3)).symm h)
theorem op_14 (s : Nat → Int32) : OpT IFs [(1, 1)] (F_X11_fine (s 1) (s 2) (if s 3 = 0 then 0 else 1)) (F_X12_fine (s 1) (s 2) (if s 3 = 0 then 0 else 1)) :=
  toT (by decide +kernel) (o_fine kpR kpM (toInt_inR (s 1)) (toInt_inR (s 2)) (toInt_inR (if s 3 = 0 then 0 else 1))) (fun g z h => rF_X11_fine (zI_toInt (s 1)).symm (zI_toInt (s 2)).symm (zI_toInt (if s 3 = 0 then 0 else 1)).symm h) (fun g z h => rF_X12_fine (zI_toInt (s 1)).symm (zI_toInt (s 2)).symm (zI_toInt (if s 3 = 0 then 0 else 1)).symm h)
theorem op_15 (s : Nat → Int32) : OpT IFs [(1, 1)] (F_X11_cost (s 1)) (F_X12_cost (s 1)) :=
  toT (by decide +kernel) (o_cost kpR kpM (toInt_inR (s 1))) (fun g z h => rF_X11_cost (zI_toInt (s 1)).symm h) (fun g z h => rF_X12_cost (zI_toInt (s 1)).symm h)
theorem op_16 (s : Nat → Int32) : OpT IFs [(1, 1)] (F_X11_path (s 1)) (F_X12_path (s 1)) :=
  toT (by decide +kernel) (o_path kpR kpM (toInt_inR (s 1))) (fun g z h => rF_X11_path (zI_toInt (s 1)).symm h) (fun g z h => rF_X12_path (zI_toInt (s 1)).symm h)
theorem op_17 (s : Nat → Int32) : OpT IFs [(1, 1)] (F_X11_lag (s 1)) (F_X12_lag (s 1)) :=
  toT (by decide +kernel) (o_lag kpR kpM (toInt_inR (s 1))) (fun g z h => rF_X11_lag (zI_toInt (s 1)).symm h) (fun g z h => rF_X12_lag (zI_toInt (s 1)).symm h)
theorem op_18 (s : Nat → Int32) : OpT IFs [(1, 1)] (F_X11_through (s 1) (s 2)) (F_X12_through (s 1) (s 2)) :=
  toT (by decide +kernel) (o_through kpR kpM (toInt_inR (s 1)) (toInt_inR (s 2))) (fun g z h => rF_X11_through (zI_toInt (s 1)).symm (zI_toInt (s 2)).symm h) (fun g z h => rF_X12_through (zI_toInt (s 1)).symm (zI_toInt (s 2)).symm h)
theorem op_19 (s : Nat → Int32) : OpT IFs [(1, 1), (2, 2)] (F_X11_both (s 1) (s 2) (s 3) (s 4)) (F_X12_both (s 1) (s 2) (s 3) (s 4)) :=
  toT (by decide +kernel) (o_both kpR kpM (toInt_inR (s 1)) (toInt_inR (s 2)) (toInt_inR (s 3)) (toInt_inR (s 4))) (fun g z h => rF_X11_both (zI_toInt (s 1)).symm (zI_toInt (s 2)).symm (zI_toInt (s 3)).symm (zI_toInt (s 4)).symm h) (fun g z h => rF_X12_both (zI_toInt (s 1)).symm (zI_toInt (s 2)).symm (zI_toInt (s 3)).symm (zI_toInt (s 4)).symm h)
theorem op_20 (s : Nat → Int32) : OpV IFs (F_X11_single) (F_X12_single) :=
  toV (o_single kpR kpM) (fun g z h => rF_X11_single h) (fun g z h => rF_X12_single h)
theorem op_21 (s : Nat → Int32) : OpT IFs [(1, 1), (2, 2)] (F_X11_live (s 1) (s 2)) (F_X12_live (s 1) (s 2)) :=
  toT (by decide +kernel) (o_live kpR kpM (toInt_inR (s 1)) (toInt_inR (s 2))) (fun g z h => rF_X11_live (zI_toInt (s 1)).symm (zI_toInt (s 2)).symm h) (fun g z h => rF_X12_live (zI_toInt (s 1)).symm (zI_toInt (s 2)).symm h)
theorem op_22 (s : Nat → Int32) : OpT IFs [(1, 1)] (F_X11_settles (s 1)) (F_X12_settles (s 1)) :=
  toT (by decide +kernel) (o_settles kpR kpM (toInt_inR (s 1))) (fun g z h => rF_X11_settles (zI_toInt (s 1)).symm h) (fun g z h => rF_X12_settles (zI_toInt (s 1)).symm h)
theorem op_23 (s : Nat → Int32) : OpT IFs [(2, 1)] (F_X11_best (s 1)) (F_X12_best (s 1)) :=
  toT (by decide +kernel) (o_best kM (toInt_inR (s 1))) (fun g z h => rF_X11_best (zI_toInt (s 1)).symm h) (fun g z h => rF_X12_best (zI_toInt (s 1)).symm h)
theorem op_24 (s : Nat → Int32) : OpT IFs [(2, 1), (1, 2)] (F_X11_bestAt (s 1) (s 2)) (F_X12_bestAt (s 1) (s 2)) :=
  toT (by decide +kernel) (o_bestAt kM (toInt_inR (s 1)) (toInt_inR (s 2))) (fun g z h => rF_X11_bestAt (zI_toInt (s 1)).symm (zI_toInt (s 2)).symm h) (fun g z h => rF_X12_bestAt (zI_toInt (s 1)).symm (zI_toInt (s 2)).symm h)
theorem op_25 (s : Nat → Int32) : OpT IFs [(2, 1)] (F_X11_would (s 1) (s 2)) (F_X12_would (s 1) (s 2)) :=
  toT (by decide +kernel) (o_would kpR kpM (toInt_inR (s 1)) (toInt_inR (s 2))) (fun g z h => rF_X11_would (zI_toInt (s 1)).symm (zI_toInt (s 2)).symm h) (fun g z h => rF_X12_would (zI_toInt (s 1)).symm (zI_toInt (s 2)).symm h)
theorem op_26 (s : Nat → Int32) : OpV IFs (F_X11_doubled) (F_X12_doubled) :=
  toV (o_doubled kpR kpM) (fun g z h => rF_X11_doubled h) (fun g z h => rF_X12_doubled h)
theorem op_27 (s : Nat → Int32) : OpV IFs (F_X11_spans) (F_X12_spans) :=
  toV (o_spans kpR kpM) (fun g z h => rF_X11_spans h) (fun g z h => rF_X12_spans h)
theorem op_28 (s : Nat → Int32) : OpT IFs [(1, 1)] (F_X11_span (s 1) (s 2)) (F_X12_span (s 1) (s 2)) :=
  toT (by decide +kernel) (o_span kR (toInt_inR (s 1)) (toInt_inR (s 2))) (fun g z h => rF_X11_span (zI_toInt (s 1)).symm (zI_toInt (s 2)).symm h) (fun g z h => rF_X12_span (zI_toInt (s 1)).symm (zI_toInt (s 2)).symm h)
theorem op_29 (s : Nat → Int32) : OpV IFs (F_X11_notes) (F_X12_notes) :=
  toV (o_notes kpR kpM) (fun g z h => rF_X11_notes h) (fun g z h => rF_X12_notes h)
theorem op_30 (s : Nat → Int32) : OpT IFs [(1, 1)] (F_X11_note (s 1) (s 2)) (F_X12_note (s 1) (s 2)) :=
  toT (by decide +kernel) (o_note kpR kpM (toInt_inR (s 1)) (toInt_inR (s 2))) (fun g z h => rF_X11_note (zI_toInt (s 1)).symm (zI_toInt (s 2)).symm h) (fun g z h => rF_X12_note (zI_toInt (s 1)).symm (zI_toInt (s 2)).symm h)
theorem op_31 (s : Nat → Int32) : OpT IFs [(1, 1)] (F_X11_steady (s 1)) (F_X12_steady (s 1)) :=
  toT (by decide +kernel) (o_steady kpR kpM (toInt_inR (s 1))) (fun g z h => rF_X11_steady (zI_toInt (s 1)).symm h) (fun g z h => rF_X12_steady (zI_toInt (s 1)).symm h)
theorem op_32 (s : Nat → Int32) : OpV IFs (F_X11_lags) (F_X12_lags) :=
  toV (o_lags kpR kpM) (fun g z h => rF_X11_lags h) (fun g z h => rF_X12_lags h)
theorem op_33 (s : Nat → Int32) : OpT IFs [(1, 1)] (F_X11_lagAt (s 1) (s 2)) (F_X12_lagAt (s 1) (s 2)) :=
  toT (by decide +kernel) (o_lagAt kpR kpM (toInt_inR (s 1)) (toInt_inR (s 2))) (fun g z h => rF_X11_lagAt (zI_toInt (s 1)).symm (zI_toInt (s 2)).symm h) (fun g z h => rF_X12_lagAt (zI_toInt (s 1)).symm (zI_toInt (s 2)).symm h)
theorem op_34 (s : Nat → Int32) : OpT IFs [(1, 1)] (F_X11_common (s 1)) (F_X12_common (s 1)) :=
  toT (by decide +kernel) (o_common kpR kpM (toInt_inR (s 1))) (fun g z h => rF_X11_common (zI_toInt (s 1)).symm h) (fun g z h => rF_X12_common (zI_toInt (s 1)).symm h)
theorem op_35 (s : Nat → Int32) : OpV IFs (F_X11_tune (s 1)) (F_X12_tune (s 1)) :=
  toV (o_tune kR kM (toInt_inR (s 1))) (fun g z h => rF_X11_tune (zI_toInt (s 1)).symm h) (fun g z h => rF_X12_tune (zI_toInt (s 1)).symm h)
theorem op_36 (s : Nat → Int32) : OpV IFs (F_X11_hush) (F_X12_hush) :=
  toV (o_hush kR kM) (fun g z h => rF_X11_hush h) (fun g z h => rF_X12_hush h)
theorem op_37 (s : Nat → Int32) : OpT IFs [(1, 1)] (F_X11_match (s 1)) (F_X12_match (s 1)) :=
  toT (by decide +kernel) (o_match kpR kpM (toInt_inR (s 1))) (fun g z h => rF_X11_match (zI_toInt (s 1)).symm h) (fun g z h => rF_X12_match (zI_toInt (s 1)).symm h)
theorem op_38 (s : Nat → Int32) : OpT IFs [(1, 1)] (F_X11_matched (s 1)) (F_X12_matched (s 1)) :=
  toT (by decide +kernel) (o_matched kpR kpM (toInt_inR (s 1))) (fun g z h => rF_X11_matched (zI_toInt (s 1)).symm h) (fun g z h => rF_X12_matched (zI_toInt (s 1)).symm h)
theorem op_39 (s : Nat → Int32) : OpV IFs (F_X11_marks) (F_X12_marks) :=
  toV (o_marks kR) (fun g z h => rF_X11_marks h) (fun g z h => rF_X12_marks h)
theorem op_40 (s : Nat → Int32) : OpT IFs [(1, 1)] (F_X11_mark (s 1)) (F_X12_mark (s 1)) :=
  toT (by decide +kernel) (o_mark kR (toInt_inR (s 1))) (fun g z h => rF_X11_mark (zI_toInt (s 1)).symm h) (fun g z h => rF_X12_mark (zI_toInt (s 1)).symm h)
theorem op_41 (s : Nat → Int32) : OpV IFs (F_X11_near (s 1)) (F_X12_near (s 1)) :=
  toV (o_near kR (toInt_inR (s 1))) (fun g z h => rF_X11_near (zI_toInt (s 1)).symm h) (fun g z h => rF_X12_near (zI_toInt (s 1)).symm h)
theorem op_42 (s : Nat → Int32) : OpV IFs (F_X11_behind (s 1)) (F_X12_behind (s 1)) :=
  toV (o_behind kR (toInt_inR (s 1))) (fun g z h => rF_X11_behind (zI_toInt (s 1)).symm h) (fun g z h => rF_X12_behind (zI_toInt (s 1)).symm h)
theorem op_43 (s : Nat → Int32) : OpT IFs [(1, 1)] (F_X11_gaps (s 1)) (F_X12_gaps (s 1)) :=
  toT (by decide +kernel) (o_gaps kR (toInt_inR (s 1))) (fun g z h => rF_X11_gaps (zI_toInt (s 1)).symm h) (fun g z h => rF_X12_gaps (zI_toInt (s 1)).symm h)
theorem op_44 (s : Nat → Int32) : OpT IFs [(1, 1)] (F_X11_rough (s 1)) (F_X12_rough (s 1)) :=
  toT (by decide +kernel) (o_rough kR (toInt_inR (s 1))) (fun g z h => rF_X11_rough (zI_toInt (s 1)).symm h) (fun g z h => rF_X12_rough (zI_toInt (s 1)).symm h)
theorem op_45 (s : Nat → Int32) : OpV IFs (F_X11_roughest) (F_X12_roughest) :=
  toV (o_roughest kR) (fun g z h => rF_X11_roughest h) (fun g z h => rF_X12_roughest h)
theorem op_46 (s : Nat → Int32) : OpT IFs [(1, 1)] (F_X11_mean (if s 1 = 0 then 0 else 1)) (F_X12_mean (if s 1 = 0 then 0 else 1)) :=
  toT (by decide +kernel) (o_mean kR (toInt_inR (if s 1 = 0 then 0 else 1))) (fun g z h => rF_X11_mean (zI_toInt (if s 1 = 0 then 0 else 1)).symm h) (fun g z h => rF_X12_mean (zI_toInt (if s 1 = 0 then 0 else 1)).symm h)
theorem op_47 (s : Nat → Int32) : OpT IFs [(1, 1), (2, 2)] (F_X11_anew (s 1) (s 2) (s 3)) (F_X12_anew (s 1) (s 2) (s 3)) :=
  toT (by decide +kernel) (o_anew kR (toInt_inR (s 1)) (toInt_inR (s 2)) (toInt_inR (s 3))) (fun g z h => rF_X11_anew (zI_toInt (s 1)).symm (zI_toInt (s 2)).symm (zI_toInt (s 3)).symm h) (fun g z h => rF_X12_anew (zI_toInt (s 1)).symm (zI_toInt (s 2)).symm (zI_toInt (s 3)).symm h)
def g0 : uZ := fun k j => (s0 k j).toInt
theorem u_leastZ_in (j : Nat) : inR (u_leastZ j) := by
  by_cases h : j < 16
  · exact (by decide +kernel : ∀ j : Fin 16, inR (u_leastZ j)) ⟨j, h⟩
  · unfold u_leastZ
    rw [List.getD_eq_getElem?_getD, List.getElem?_eq_none (by simpa using h)]
    decide
theorem u_mostZ_in (j : Nat) : inR (u_mostZ j) := by
  by_cases h : j < 16
  · exact (by decide +kernel : ∀ j : Fin 16, inR (u_mostZ j)) ⟨j, h⟩
  · unfold u_mostZ
    rw [List.getD_eq_getElem?_getD, List.getElem?_eq_none (by simpa using h)]
    decide
theorem iv0 : IV RKg MKg g0 := by
  have z0 : ((0 : Int32)).toInt = 0 := by decide
  refine ⟨0, z0, by omega, fun j => ?_, ⟨fun k h1 h2 => (by decide +kernel : ∀ k : Fin 16, 2 ≤ k.val → k.val ≤ 15 → u_leastZ k ≤ g0 5 k ∧ g0 5 k ≤ u_mostZ k) ⟨k, by omega⟩ h1 h2, by decide +kernel⟩, fun f _ => Or.inl z0, Or.inl ⟨z0, z0, z0⟩, ⟨z0, rfl, rfl⟩, ⟨0, by omega, z0, z0⟩, fun j => ?_, rfl, ⟨0, by omega, z0, z0, fun j hj => absurd hj (Nat.not_lt_zero _)⟩, rfl, ?_, ?_⟩
  · show -128 ≤ ((0 : Int32)).toInt ∧ ((0 : Int32)).toInt ≤ 127
    decide
  · show -128 ≤ ((0 : Int32)).toInt ∧ ((0 : Int32)).toInt ≤ 127
    decide
  · funext j
    show (u_least j).toInt = u_leastZ j
    rw [u_least_k, toInt_zI (u_leastZ_in j)]
  · funext j
    show (u_most j).toInt = u_mostZ j
    rw [u_most_k, toInt_zI (u_mostZ_in j)]
theorem ops_ok : ∃ Inv : uS → Prop, OpsOk Inv ∧ Inv s0 := by
  refine ⟨IFs, fun c s => ?_, g0, ?_, iv0⟩
  · match c with
    | 0 => exact op_0 s
    | 1 => exact op_1 s
    | 2 => exact op_2 s
    | 3 => exact op_3 s
    | 4 => exact op_4 s
    | 5 => exact op_5 s
    | 6 => exact op_6 s
    | 7 => exact op_7 s
    | 8 => exact op_8 s
    | 9 => exact op_9 s
    | 10 => exact op_10 s
    | 11 => exact op_11 s
    | 12 => exact op_12 s
    | 13 => exact op_13 s
    | 14 => exact op_14 s
    | 15 => exact op_15 s
    | 16 => exact op_16 s
    | 17 => exact op_17 s
    | 18 => exact op_18 s
    | 19 => exact op_19 s
    | 20 => exact op_20 s
    | 21 => exact op_21 s
    | 22 => exact op_22 s
    | 23 => exact op_23 s
    | 24 => exact op_24 s
    | 25 => exact op_25 s
    | 26 => exact op_26 s
    | 27 => exact op_27 s
    | 28 => exact op_28 s
    | 29 => exact op_29 s
    | 30 => exact op_30 s
    | 31 => exact op_31 s
    | 32 => exact op_32 s
    | 33 => exact op_33 s
    | 34 => exact op_34 s
    | 35 => exact op_35 s
    | 36 => exact op_36 s
    | 37 => exact op_37 s
    | 38 => exact op_38 s
    | 39 => exact op_39 s
    | 40 => exact op_40 s
    | 41 => exact op_41 s
    | 42 => exact op_42 s
    | 43 => exact op_43 s
    | 44 => exact op_44 s
    | 45 => exact op_45 s
    | 46 => exact op_46 s
    | 47 => exact op_47 s
    | n + 48 => exact True.intro
  · funext k j
    exact (zI_toInt (s0 k j)).symm

theorem Cx_nc {E : uE} {K : uK} {own : String} {cc : ByteArray} {ret : Option FieldType} {fr lo : Nat} (hC : Cx E K own cc ret fr lo) : va_Nc "java/lang/IllegalArgumentException" "java/util/NoSuchElementException" K.1.2.2.2.1 ∧ va_Nc "java/util/NoSuchElementException" "java/lang/IllegalArgumentException" K.1.2.2.2.1 := by
  obtain ⟨⟨p, e, R, s, m, args⟩, ⟨below, meth, c, Q, nL⟩⟩ := K
  obtain ⟨hx, hb, hr, hml, hown, hts, hlk, hK, hj, hz, hfr, hlo⟩ := hC
  exact ⟨hz.2.2.2.2.2.2.2.2.2.2.2.2.2.2.2.1, hz.2.2.2.2.2.2.2.2.2.2.2.2.2.2.2.2⟩
theorem lx_13 : Cond.classLink RL 13 "java/util/NoSuchElementException" ∈ TG := tg_4 (List.mem_of_getElem? (i := 119) rfl) rfl
theorem lx_55 : Cond.classLink RL 55 "java/lang/IllegalArgumentException" ∈ TG := tg_5 (List.mem_of_getElem? (i := 90) rfl) rfl
set_option maxRecDepth 20000 in
theorem hr_sample (l : Launch) (E : uE) (a1 : Int32) (σ : uS) (o : Int64) (r : Int32) (σ2 : uS) (h : F_X11_sample a1 σ = some (.inl r, σ2)) : CtH l E yL_sample cL_sample 4 [(0, 9, 12, 13)] 8 123 0 0 [.ref (E.2.1 0), .int a1, .ref (E.2.1 92)] σ o 0 σ2 r.toInt64 := by
  refine enterH 1 [some (.ref (E.2.1 0)), some (.int a1), some (.ref (E.2.1 92)), none] (by decide +kernel) rfl (Nat.le_of_ble_eq_true rfl) (fun K hnL hC hab _ hT hR => ?_)
  have hC : Cx E K RL cL_sample (some .int) 8 123 := hC
  refine g_aload_n (pc := 0) hC dL_sample_0 rfl ?_
  refine g_iconst (pc := 1) hC ki_0 dL_sample_1 ?_
  refine g_aload_n (pc := 2) hC dL_sample_2 rfl ?_
  refine g_iload_n (pc := 3) hC dL_sample_3 rfl ?_
  refine g_callVi (pc := 4) (As := [.int a1]) (rest := [.int 0, .ref (E.2.1 92)]) hC (c_X11_sample l E a1 σ r σ2 h) mi_X11_sample mv_X11_sample ob_0 rfl rfl lk_L_7 rfl rfl (Nat.le_of_ble_eq_true rfl) ⟨by decide, by decide⟩ hab dL_sample_4 ?_
  refine g_i2l (pc := 7) hC dL_sample_7 ?_
  refine g_last (pc := 8) hC dL_sample_8 ?_
  refine g_goto (tgt := 15) (pc := 9) hC dL_sample_9 (by decide) ?_
  refine g_iconst (pc := 15) hC ki_0 dL_sample_15 ?_
  exact g_hret (pc := 16) hC hR dL_sample_16
set_option maxRecDepth 20000 in
theorem hx_sample_1 (l : Launch) (hl9 : l.stackTraces = false) (E : uE) (a1 : Int32) (σ : uS) (o : Int64) (σ2 : uS) (h : F_X11_sample a1 σ = some (.inr 1, σ2)) : CtH l E yL_sample cL_sample 4 [(0, 9, 12, 13)] 8 123 1 6 [.ref (E.2.1 0), .int a1, .ref (E.2.1 92)] σ o 1 σ2 o := by
  refine enterH 1 [some (.ref (E.2.1 0)), some (.int a1), some (.ref (E.2.1 92)), none] (by decide +kernel) rfl (Nat.le_of_ble_eq_true rfl) (fun K hnL hC hab h6 hT hR => ?_)
  have hC : Cx E K RL cL_sample (some .int) 8 123 := hC
  have hC9 : va_Nc "java/lang/IllegalArgumentException" "java/util/NoSuchElementException" K.1.2.2.2.1 ∧ va_Nc "java/util/NoSuchElementException" "java/lang/IllegalArgumentException" K.1.2.2.2.1 := Cx_nc hC
  refine g_aload_n (pc := 0) hC dL_sample_0 rfl ?_
  refine g_iconst (pc := 1) hC ki_0 dL_sample_1 ?_
  refine g_aload_n (pc := 2) hC dL_sample_2 rfl ?_
  refine g_iload_n (pc := 3) hC dL_sample_3 rfl ?_
  refine g_hok (pc := 4) (As := [.int a1]) (rest := [.int 0, .ref (E.2.1 92)]) hC (x_X11_sample l hl9 E a1 σ 1 σ2 h) mi_X11_sample mv_X11_sample ob_0 rfl rfl lk_L_7 rfl rfl (Nat.le_of_ble_eq_true rfl) ⟨by decide, by decide⟩ h6 hT [] ⟨0, 9, 12, 13⟩ [] rfl (fun z hz9 => nomatch hz9) rfl (by decide) lx_13 (List.mem_of_getElem? (i := 0) rfl) dL_sample_4 (fun q9 => ?_)
  refine g_astore_n (lv2 := [some (.ref (E.2.1 0)), some (.int a1), some (.ref (E.2.1 92)), some (.ref q9)]) (pc := 12) hC dL_sample_12 rfl (Or.inr rfl) (by rw [hnL]; decide) ?_
  refine g_iconst (pc := 13) hC ki_1 dL_sample_13 ?_
  exact g_hret (pc := 14) hC hR dL_sample_14
set_option maxRecDepth 20000 in
theorem hr_count (l : Launch) (E : uE) (a1 : Int32) (σ : uS) (o : Int64) (r : Int32) (σ2 : uS) (h : F_X11_count a1 σ = some (.inl r, σ2)) : CtH l E yL_count cL_count 4 [(0, 9, 12, 13)] 8 123 0 0 [.ref (E.2.1 0), .int a1, .ref (E.2.1 92)] σ o 0 σ2 r.toInt64 := by
  refine enterH 1 [some (.ref (E.2.1 0)), some (.int a1), some (.ref (E.2.1 92)), none] (by decide +kernel) rfl (Nat.le_of_ble_eq_true rfl) (fun K hnL hC hab _ hT hR => ?_)
  have hC : Cx E K RL cL_count (some .int) 8 123 := hC
  refine g_aload_n (pc := 0) hC dL_count_0 rfl ?_
  refine g_iconst (pc := 1) hC ki_0 dL_count_1 ?_
  refine g_aload_n (pc := 2) hC dL_count_2 rfl ?_
  refine g_iload_n (pc := 3) hC dL_count_3 rfl ?_
  refine g_callVi (pc := 4) (As := [.int a1]) (rest := [.int 0, .ref (E.2.1 92)]) hC (c_X11_count l E a1 σ r σ2 h) mi_X11_count mv_X11_count ob_0 rfl rfl lk_L_15 rfl rfl (Nat.le_of_ble_eq_true rfl) ⟨by decide, by decide⟩ hab dL_count_4 ?_
  refine g_i2l (pc := 7) hC dL_count_7 ?_
  refine g_last (pc := 8) hC dL_count_8 ?_
  refine g_goto (tgt := 15) (pc := 9) hC dL_count_9 (by decide) ?_
  refine g_iconst (pc := 15) hC ki_0 dL_count_15 ?_
  exact g_hret (pc := 16) hC hR dL_count_16
set_option maxRecDepth 20000 in
theorem hx_count_1 (l : Launch) (hl9 : l.stackTraces = false) (E : uE) (a1 : Int32) (σ : uS) (o : Int64) (σ2 : uS) (h : F_X11_count a1 σ = some (.inr 1, σ2)) : CtH l E yL_count cL_count 4 [(0, 9, 12, 13)] 8 123 1 6 [.ref (E.2.1 0), .int a1, .ref (E.2.1 92)] σ o 1 σ2 o := by
  refine enterH 1 [some (.ref (E.2.1 0)), some (.int a1), some (.ref (E.2.1 92)), none] (by decide +kernel) rfl (Nat.le_of_ble_eq_true rfl) (fun K hnL hC hab h6 hT hR => ?_)
  have hC : Cx E K RL cL_count (some .int) 8 123 := hC
  have hC9 : va_Nc "java/lang/IllegalArgumentException" "java/util/NoSuchElementException" K.1.2.2.2.1 ∧ va_Nc "java/util/NoSuchElementException" "java/lang/IllegalArgumentException" K.1.2.2.2.1 := Cx_nc hC
  refine g_aload_n (pc := 0) hC dL_count_0 rfl ?_
  refine g_iconst (pc := 1) hC ki_0 dL_count_1 ?_
  refine g_aload_n (pc := 2) hC dL_count_2 rfl ?_
  refine g_iload_n (pc := 3) hC dL_count_3 rfl ?_
  refine g_hok (pc := 4) (As := [.int a1]) (rest := [.int 0, .ref (E.2.1 92)]) hC (x_X11_count l hl9 E a1 σ 1 σ2 h) mi_X11_count mv_X11_count ob_0 rfl rfl lk_L_15 rfl rfl (Nat.le_of_ble_eq_true rfl) ⟨by decide, by decide⟩ h6 hT [] ⟨0, 9, 12, 13⟩ [] rfl (fun z hz9 => nomatch hz9) rfl (by decide) lx_13 (List.mem_of_getElem? (i := 0) rfl) dL_count_4 (fun q9 => ?_)
  refine g_astore_n (lv2 := [some (.ref (E.2.1 0)), some (.int a1), some (.ref (E.2.1 92)), some (.ref q9)]) (pc := 12) hC dL_count_12 rfl (Or.inr rfl) (by rw [hnL]; decide) ?_
  refine g_iconst (pc := 13) hC ki_1 dL_count_13 ?_
  exact g_hret (pc := 14) hC hR dL_count_14
set_option maxRecDepth 20000 in
theorem hr_diff (l : Launch) (E : uE) (a1 : Int32) (a2 : Int32) (σ : uS) (o : Int64) (r : Int32) (σ2 : uS) (h : F_X11_diff a1 a2 σ = some (.inl r, σ2)) : CtH l E yL_diff cL_diff 5 [(0, 10, 13, 13)] 8 124 0 0 [.ref (E.2.1 0), .int a1, .int a2, .ref (E.2.1 92)] σ o 0 σ2 r.toInt64 := by
  refine enterH 1 [some (.ref (E.2.1 0)), some (.int a1), some (.int a2), some (.ref (E.2.1 92)), none] (by decide +kernel) rfl (Nat.le_of_ble_eq_true rfl) (fun K hnL hC hab _ hT hR => ?_)
  have hC : Cx E K RL cL_diff (some .int) 8 124 := hC
  refine g_aload_n (pc := 0) hC dL_diff_0 rfl ?_
  refine g_iconst (pc := 1) hC ki_0 dL_diff_1 ?_
  refine g_aload_n (pc := 2) hC dL_diff_2 rfl ?_
  refine g_iload_n (pc := 3) hC dL_diff_3 rfl ?_
  refine g_iload_n (pc := 4) hC dL_diff_4 rfl ?_
  refine g_callVi (pc := 5) (As := [.int a1, .int a2]) (rest := [.int 0, .ref (E.2.1 92)]) hC (c_X11_diff l E a1 a2 σ r σ2 h) mi_X11_diff mv_X11_diff ob_0 rfl rfl lk_L_18 rfl rfl (Nat.le_of_ble_eq_true rfl) ⟨by decide, by decide⟩ hab dL_diff_5 ?_
  refine g_i2l (pc := 8) hC dL_diff_8 ?_
  refine g_last (pc := 9) hC dL_diff_9 ?_
  refine g_goto (tgt := 17) (pc := 10) hC dL_diff_10 (by decide) ?_
  refine g_iconst (pc := 17) hC ki_0 dL_diff_17 ?_
  exact g_hret (pc := 18) hC hR dL_diff_18
set_option maxRecDepth 20000 in
theorem hx_diff_1 (l : Launch) (hl9 : l.stackTraces = false) (E : uE) (a1 : Int32) (a2 : Int32) (σ : uS) (o : Int64) (σ2 : uS) (h : F_X11_diff a1 a2 σ = some (.inr 1, σ2)) : CtH l E yL_diff cL_diff 5 [(0, 10, 13, 13)] 8 124 1 6 [.ref (E.2.1 0), .int a1, .int a2, .ref (E.2.1 92)] σ o 1 σ2 o := by
  refine enterH 1 [some (.ref (E.2.1 0)), some (.int a1), some (.int a2), some (.ref (E.2.1 92)), none] (by decide +kernel) rfl (Nat.le_of_ble_eq_true rfl) (fun K hnL hC hab h6 hT hR => ?_)
  have hC : Cx E K RL cL_diff (some .int) 8 124 := hC
  have hC9 : va_Nc "java/lang/IllegalArgumentException" "java/util/NoSuchElementException" K.1.2.2.2.1 ∧ va_Nc "java/util/NoSuchElementException" "java/lang/IllegalArgumentException" K.1.2.2.2.1 := Cx_nc hC
  refine g_aload_n (pc := 0) hC dL_diff_0 rfl ?_
  refine g_iconst (pc := 1) hC ki_0 dL_diff_1 ?_
  refine g_aload_n (pc := 2) hC dL_diff_2 rfl ?_
  refine g_iload_n (pc := 3) hC dL_diff_3 rfl ?_
  refine g_iload_n (pc := 4) hC dL_diff_4 rfl ?_
  refine g_hok (pc := 5) (As := [.int a1, .int a2]) (rest := [.int 0, .ref (E.2.1 92)]) hC (x_X11_diff l hl9 E a1 a2 σ 1 σ2 h) mi_X11_diff mv_X11_diff ob_0 rfl rfl lk_L_18 rfl rfl (Nat.le_of_ble_eq_true rfl) ⟨by decide, by decide⟩ h6 hT [] ⟨0, 10, 13, 13⟩ [] rfl (fun z hz9 => nomatch hz9) rfl (by decide) lx_13 (List.mem_of_getElem? (i := 0) rfl) dL_diff_5 (fun q9 => ?_)
  refine g_astore (lv2 := [some (.ref (E.2.1 0)), some (.int a1), some (.int a2), some (.ref (E.2.1 92)), some (.ref q9)]) (pc := 13) hC dL_diff_13 rfl (Or.inr rfl) (by rw [hnL]; decide) ?_
  refine g_iconst (pc := 15) hC ki_1 dL_diff_15 ?_
  exact g_hret (pc := 16) hC hR dL_diff_16
set_option maxRecDepth 20000 in
theorem hr_rel (l : Launch) (E : uE) (a1 : Int32) (a2 : Int32) (σ : uS) (o : Int64) (r : Int32) (σ2 : uS) (h : F_X11_rel a1 a2 σ = some (.inl r, σ2)) : CtH l E yL_rel cL_rel 5 [(0, 10, 13, 13)] 8 124 0 0 [.ref (E.2.1 0), .int a1, .int a2, .ref (E.2.1 92)] σ o 0 σ2 r.toInt64 := by
  refine enterH 1 [some (.ref (E.2.1 0)), some (.int a1), some (.int a2), some (.ref (E.2.1 92)), none] (by decide +kernel) rfl (Nat.le_of_ble_eq_true rfl) (fun K hnL hC hab _ hT hR => ?_)
  have hC : Cx E K RL cL_rel (some .int) 8 124 := hC
  refine g_aload_n (pc := 0) hC dL_rel_0 rfl ?_
  refine g_iconst (pc := 1) hC ki_0 dL_rel_1 ?_
  refine g_aload_n (pc := 2) hC dL_rel_2 rfl ?_
  refine g_iload_n (pc := 3) hC dL_rel_3 rfl ?_
  refine g_iload_n (pc := 4) hC dL_rel_4 rfl ?_
  refine g_callVi (pc := 5) (As := [.int a1, .int a2]) (rest := [.int 0, .ref (E.2.1 92)]) hC (c_X11_rel l E a1 a2 σ r σ2 h) mi_X11_rel mv_X11_rel ob_0 rfl rfl lk_L_22 rfl rfl (Nat.le_of_ble_eq_true rfl) ⟨by decide, by decide⟩ hab dL_rel_5 ?_
  refine g_i2l (pc := 8) hC dL_rel_8 ?_
  refine g_last (pc := 9) hC dL_rel_9 ?_
  refine g_goto (tgt := 17) (pc := 10) hC dL_rel_10 (by decide) ?_
  refine g_iconst (pc := 17) hC ki_0 dL_rel_17 ?_
  exact g_hret (pc := 18) hC hR dL_rel_18
set_option maxRecDepth 20000 in
theorem hx_rel_1 (l : Launch) (hl9 : l.stackTraces = false) (E : uE) (a1 : Int32) (a2 : Int32) (σ : uS) (o : Int64) (σ2 : uS) (h : F_X11_rel a1 a2 σ = some (.inr 1, σ2)) : CtH l E yL_rel cL_rel 5 [(0, 10, 13, 13)] 8 124 1 6 [.ref (E.2.1 0), .int a1, .int a2, .ref (E.2.1 92)] σ o 1 σ2 o := by
  refine enterH 1 [some (.ref (E.2.1 0)), some (.int a1), some (.int a2), some (.ref (E.2.1 92)), none] (by decide +kernel) rfl (Nat.le_of_ble_eq_true rfl) (fun K hnL hC hab h6 hT hR => ?_)
  have hC : Cx E K RL cL_rel (some .int) 8 124 := hC
  have hC9 : va_Nc "java/lang/IllegalArgumentException" "java/util/NoSuchElementException" K.1.2.2.2.1 ∧ va_Nc "java/util/NoSuchElementException" "java/lang/IllegalArgumentException" K.1.2.2.2.1 := Cx_nc hC
  refine g_aload_n (pc := 0) hC dL_rel_0 rfl ?_
  refine g_iconst (pc := 1) hC ki_0 dL_rel_1 ?_
  refine g_aload_n (pc := 2) hC dL_rel_2 rfl ?_
  refine g_iload_n (pc := 3) hC dL_rel_3 rfl ?_
  refine g_iload_n (pc := 4) hC dL_rel_4 rfl ?_
  refine g_hok (pc := 5) (As := [.int a1, .int a2]) (rest := [.int 0, .ref (E.2.1 92)]) hC (x_X11_rel l hl9 E a1 a2 σ 1 σ2 h) mi_X11_rel mv_X11_rel ob_0 rfl rfl lk_L_22 rfl rfl (Nat.le_of_ble_eq_true rfl) ⟨by decide, by decide⟩ h6 hT [] ⟨0, 10, 13, 13⟩ [] rfl (fun z hz9 => nomatch hz9) rfl (by decide) lx_13 (List.mem_of_getElem? (i := 0) rfl) dL_rel_5 (fun q9 => ?_)
  refine g_astore (lv2 := [some (.ref (E.2.1 0)), some (.int a1), some (.int a2), some (.ref (E.2.1 92)), some (.ref q9)]) (pc := 13) hC dL_rel_13 rfl (Or.inr rfl) (by rw [hnL]; decide) ?_
  refine g_iconst (pc := 15) hC ki_1 dL_rel_15 ?_
  exact g_hret (pc := 16) hC hR dL_rel_16
set_option maxRecDepth 20000 in
theorem hr_loud (l : Launch) (E : uE) (a1 : Int32) (σ : uS) (o : Int64) (r : Int32) (σ2 : uS) (h : F_X11_loud a1 σ = some (.inl r, σ2)) : CtH l E yL_loud cL_loud 4 [(0, 9, 12, 13)] 8 123 0 0 [.ref (E.2.1 0), .int a1, .ref (E.2.1 92)] σ o 0 σ2 r.toInt64 := by
  refine enterH 1 [some (.ref (E.2.1 0)), some (.int a1), some (.ref (E.2.1 92)), none] (by decide +kernel) rfl (Nat.le_of_ble_eq_true rfl) (fun K hnL hC hab _ hT hR => ?_)
  have hC : Cx E K RL cL_loud (some .int) 8 123 := hC
  refine g_aload_n (pc := 0) hC dL_loud_0 rfl ?_
  refine g_iconst (pc := 1) hC ki_0 dL_loud_1 ?_
  refine g_aload_n (pc := 2) hC dL_loud_2 rfl ?_
  refine g_iload_n (pc := 3) hC dL_loud_3 rfl ?_
  refine g_callVi (pc := 4) (As := [.int a1]) (rest := [.int 0, .ref (E.2.1 92)]) hC (c_X11_loud l E a1 σ r σ2 h) mi_X11_loud mv_X11_loud ob_0 rfl rfl lk_L_25 rfl rfl (Nat.le_of_ble_eq_true rfl) ⟨by decide, by decide⟩ hab dL_loud_4 ?_
  refine g_i2l (pc := 7) hC dL_loud_7 ?_
  refine g_last (pc := 8) hC dL_loud_8 ?_
  refine g_goto (tgt := 15) (pc := 9) hC dL_loud_9 (by decide) ?_
  refine g_iconst (pc := 15) hC ki_0 dL_loud_15 ?_
  exact g_hret (pc := 16) hC hR dL_loud_16
set_option maxRecDepth 20000 in
theorem hx_loud_1 (l : Launch) (hl9 : l.stackTraces = false) (E : uE) (a1 : Int32) (σ : uS) (o : Int64) (σ2 : uS) (h : F_X11_loud a1 σ = some (.inr 1, σ2)) : CtH l E yL_loud cL_loud 4 [(0, 9, 12, 13)] 8 123 1 6 [.ref (E.2.1 0), .int a1, .ref (E.2.1 92)] σ o 1 σ2 o := by
  refine enterH 1 [some (.ref (E.2.1 0)), some (.int a1), some (.ref (E.2.1 92)), none] (by decide +kernel) rfl (Nat.le_of_ble_eq_true rfl) (fun K hnL hC hab h6 hT hR => ?_)
  have hC : Cx E K RL cL_loud (some .int) 8 123 := hC
  have hC9 : va_Nc "java/lang/IllegalArgumentException" "java/util/NoSuchElementException" K.1.2.2.2.1 ∧ va_Nc "java/util/NoSuchElementException" "java/lang/IllegalArgumentException" K.1.2.2.2.1 := Cx_nc hC
  refine g_aload_n (pc := 0) hC dL_loud_0 rfl ?_
  refine g_iconst (pc := 1) hC ki_0 dL_loud_1 ?_
  refine g_aload_n (pc := 2) hC dL_loud_2 rfl ?_
  refine g_iload_n (pc := 3) hC dL_loud_3 rfl ?_
  refine g_hok (pc := 4) (As := [.int a1]) (rest := [.int 0, .ref (E.2.1 92)]) hC (x_X11_loud l hl9 E a1 σ 1 σ2 h) mi_X11_loud mv_X11_loud ob_0 rfl rfl lk_L_25 rfl rfl (Nat.le_of_ble_eq_true rfl) ⟨by decide, by decide⟩ h6 hT [] ⟨0, 9, 12, 13⟩ [] rfl (fun z hz9 => nomatch hz9) rfl (by decide) lx_13 (List.mem_of_getElem? (i := 0) rfl) dL_loud_4 (fun q9 => ?_)
  refine g_astore_n (lv2 := [some (.ref (E.2.1 0)), some (.int a1), some (.ref (E.2.1 92)), some (.ref q9)]) (pc := 12) hC dL_loud_12 rfl (Or.inr rfl) (by rw [hnL]; decide) ?_
  refine g_iconst (pc := 13) hC ki_1 dL_loud_13 ?_
  exact g_hret (pc := 14) hC hR dL_loud_14
set_option maxRecDepth 20000 in
theorem hr_candidates (l : Launch) (E : uE) (a1 : Int32) (σ : uS) (o : Int64) (r : Int32) (σ2 : uS) (h : F_X11_candidates a1 σ = some (.inl r, σ2)) : CtH l E yL_candidates cL_candidates 4 [(0, 9, 12, 13)] 8 135 0 0 [.ref (E.2.1 0), .int a1, .ref (E.2.1 92)] σ o 0 σ2 r.toInt64 := by
  refine enterH 1 [some (.ref (E.2.1 0)), some (.int a1), some (.ref (E.2.1 92)), none] (by decide +kernel) rfl (Nat.le_of_ble_eq_true rfl) (fun K hnL hC hab _ hT hR => ?_)
  have hC : Cx E K RL cL_candidates (some .int) 8 135 := hC
  refine g_aload_n (pc := 0) hC dL_candidates_0 rfl ?_
  refine g_iconst (pc := 1) hC ki_0 dL_candidates_1 ?_
  refine g_aload_n (pc := 2) hC dL_candidates_2 rfl ?_
  refine g_iload_n (pc := 3) hC dL_candidates_3 rfl ?_
  refine g_callVi (pc := 4) (As := [.int a1]) (rest := [.int 0, .ref (E.2.1 92)]) hC (c_X11_candidates l E a1 σ r σ2 h) mi_X11_candidates mv_X11_candidates ob_0 rfl rfl lk_L_28 rfl rfl (Nat.le_of_ble_eq_true rfl) ⟨by decide, by decide⟩ hab dL_candidates_4 ?_
  refine g_i2l (pc := 7) hC dL_candidates_7 ?_
  refine g_last (pc := 8) hC dL_candidates_8 ?_
  refine g_goto (tgt := 15) (pc := 9) hC dL_candidates_9 (by decide) ?_
  refine g_iconst (pc := 15) hC ki_0 dL_candidates_15 ?_
  exact g_hret (pc := 16) hC hR dL_candidates_16
set_option maxRecDepth 20000 in
theorem hx_candidates_1 (l : Launch) (hl9 : l.stackTraces = false) (E : uE) (a1 : Int32) (σ : uS) (o : Int64) (σ2 : uS) (h : F_X11_candidates a1 σ = some (.inr 1, σ2)) : CtH l E yL_candidates cL_candidates 4 [(0, 9, 12, 13)] 8 135 1 6 [.ref (E.2.1 0), .int a1, .ref (E.2.1 92)] σ o 1 σ2 o := by
  refine enterH 1 [some (.ref (E.2.1 0)), some (.int a1), some (.ref (E.2.1 92)), none] (by decide +kernel) rfl (Nat.le_of_ble_eq_true rfl) (fun K hnL hC hab h6 hT hR => ?_)
  have hC : Cx E K RL cL_candidates (some .int) 8 135 := hC
  have hC9 : va_Nc "java/lang/IllegalArgumentException" "java/util/NoSuchElementException" K.1.2.2.2.1 ∧ va_Nc "java/util/NoSuchElementException" "java/lang/IllegalArgumentException" K.1.2.2.2.1 := Cx_nc hC
  refine g_aload_n (pc := 0) hC dL_candidates_0 rfl ?_
  refine g_iconst (pc := 1) hC ki_0 dL_candidates_1 ?_
  refine g_aload_n (pc := 2) hC dL_candidates_2 rfl ?_
  refine g_iload_n (pc := 3) hC dL_candidates_3 rfl ?_
  refine g_hok (pc := 4) (As := [.int a1]) (rest := [.int 0, .ref (E.2.1 92)]) hC (x_X11_candidates l hl9 E a1 σ 1 σ2 h) mi_X11_candidates mv_X11_candidates ob_0 rfl rfl lk_L_28 rfl rfl (Nat.le_of_ble_eq_true rfl) ⟨by decide, by decide⟩ h6 hT [] ⟨0, 9, 12, 13⟩ [] rfl (fun z hz9 => nomatch hz9) rfl (by decide) lx_13 (List.mem_of_getElem? (i := 0) rfl) dL_candidates_4 (fun q9 => ?_)
  refine g_astore_n (lv2 := [some (.ref (E.2.1 0)), some (.int a1), some (.ref (E.2.1 92)), some (.ref q9)]) (pc := 12) hC dL_candidates_12 rfl (Or.inr rfl) (by rw [hnL]; decide) ?_
  refine g_iconst (pc := 13) hC ki_1 dL_candidates_13 ?_
  exact g_hret (pc := 14) hC hR dL_candidates_14
set_option maxRecDepth 20000 in
theorem hr_candidate (l : Launch) (E : uE) (a1 : Int32) (a2 : Int32) (a3 : Int32) (σ : uS) (o : Int64) (r : Int32) (σ2 : uS) (h : F_X11_candidate a1 a2 a3 σ = some (.inl r, σ2)) : CtH l E yL_candidate cL_candidate 6 [(0, 12, 15, 13)] 8 137 0 0 [.ref (E.2.1 0), .int a1, .int a2, .int a3, .ref (E.2.1 92)] σ o 0 σ2 r.toInt64 := by
  refine enterH 1 [some (.ref (E.2.1 0)), some (.int a1), some (.int a2), some (.int a3), some (.ref (E.2.1 92)), none] (by decide +kernel) rfl (Nat.le_of_ble_eq_true rfl) (fun K hnL hC hab _ hT hR => ?_)
  have hC : Cx E K RL cL_candidate (some .int) 8 137 := hC
  refine g_aload (pc := 0) hC dL_candidate_0 rfl ?_
  refine g_iconst (pc := 2) hC ki_0 dL_candidate_2 ?_
  refine g_aload_n (pc := 3) hC dL_candidate_3 rfl ?_
  refine g_iload_n (pc := 4) hC dL_candidate_4 rfl ?_
  refine g_iload_n (pc := 5) hC dL_candidate_5 rfl ?_
  refine g_iload_n (pc := 6) hC dL_candidate_6 rfl ?_
  refine g_callVi (pc := 7) (As := [.int a1, .int a2, .int a3]) (rest := [.int 0, .ref (E.2.1 92)]) hC (c_X11_candidate l E a1 a2 a3 σ r σ2 h) mi_X11_candidate mv_X11_candidate ob_0 rfl rfl lk_L_31 rfl rfl (Nat.le_of_ble_eq_true rfl) ⟨by decide, by decide⟩ hab dL_candidate_7 ?_
  refine g_i2l (pc := 10) hC dL_candidate_10 ?_
  refine g_last (pc := 11) hC dL_candidate_11 ?_
  refine g_goto (tgt := 19) (pc := 12) hC dL_candidate_12 (by decide) ?_
  refine g_iconst (pc := 19) hC ki_0 dL_candidate_19 ?_
  exact g_hret (pc := 20) hC hR dL_candidate_20
set_option maxRecDepth 20000 in
theorem hx_candidate_1 (l : Launch) (hl9 : l.stackTraces = false) (E : uE) (a1 : Int32) (a2 : Int32) (a3 : Int32) (σ : uS) (o : Int64) (σ2 : uS) (h : F_X11_candidate a1 a2 a3 σ = some (.inr 1, σ2)) : CtH l E yL_candidate cL_candidate 6 [(0, 12, 15, 13)] 8 137 1 6 [.ref (E.2.1 0), .int a1, .int a2, .int a3, .ref (E.2.1 92)] σ o 1 σ2 o := by
  refine enterH 1 [some (.ref (E.2.1 0)), some (.int a1), some (.int a2), some (.int a3), some (.ref (E.2.1 92)), none] (by decide +kernel) rfl (Nat.le_of_ble_eq_true rfl) (fun K hnL hC hab h6 hT hR => ?_)
  have hC : Cx E K RL cL_candidate (some .int) 8 137 := hC
  have hC9 : va_Nc "java/lang/IllegalArgumentException" "java/util/NoSuchElementException" K.1.2.2.2.1 ∧ va_Nc "java/util/NoSuchElementException" "java/lang/IllegalArgumentException" K.1.2.2.2.1 := Cx_nc hC
  refine g_aload (pc := 0) hC dL_candidate_0 rfl ?_
  refine g_iconst (pc := 2) hC ki_0 dL_candidate_2 ?_
  refine g_aload_n (pc := 3) hC dL_candidate_3 rfl ?_
  refine g_iload_n (pc := 4) hC dL_candidate_4 rfl ?_
  refine g_iload_n (pc := 5) hC dL_candidate_5 rfl ?_
  refine g_iload_n (pc := 6) hC dL_candidate_6 rfl ?_
  refine g_hok (pc := 7) (As := [.int a1, .int a2, .int a3]) (rest := [.int 0, .ref (E.2.1 92)]) hC (x_X11_candidate l hl9 E a1 a2 a3 σ 1 σ2 h) mi_X11_candidate mv_X11_candidate ob_0 rfl rfl lk_L_31 rfl rfl (Nat.le_of_ble_eq_true rfl) ⟨by decide, by decide⟩ h6 hT [] ⟨0, 12, 15, 13⟩ [] rfl (fun z hz9 => nomatch hz9) rfl (by decide) lx_13 (List.mem_of_getElem? (i := 0) rfl) dL_candidate_7 (fun q9 => ?_)
  refine g_astore (lv2 := [some (.ref (E.2.1 0)), some (.int a1), some (.int a2), some (.int a3), some (.ref (E.2.1 92)), some (.ref q9)]) (pc := 15) hC dL_candidate_15 rfl (Or.inr rfl) (by rw [hnL]; decide) ?_
  refine g_iconst (pc := 17) hC ki_1 dL_candidate_17 ?_
  exact g_hret (pc := 18) hC hR dL_candidate_18
set_option maxRecDepth 20000 in
theorem hr_fine (l : Launch) (E : uE) (a1 : Int32) (a2 : Int32) (a3 : Int32) (σ : uS) (o : Int64) (r : Int32) (σ2 : uS) (h : F_X11_fine a1 a2 a3 σ = some (.inl r, σ2)) : CtH l E yL_fine cL_fine 6 [(0, 12, 15, 13)] 8 143 0 0 [.ref (E.2.1 0), .int a1, .int a2, .int a3, .ref (E.2.1 92)] σ o 0 σ2 r.toInt64 := by
  refine enterH 1 [some (.ref (E.2.1 0)), some (.int a1), some (.int a2), some (.int a3), some (.ref (E.2.1 92)), none] (by decide +kernel) rfl (Nat.le_of_ble_eq_true rfl) (fun K hnL hC hab _ hT hR => ?_)
  have hC : Cx E K RL cL_fine (some .int) 8 143 := hC
  refine g_aload (pc := 0) hC dL_fine_0 rfl ?_
  refine g_iconst (pc := 2) hC ki_0 dL_fine_2 ?_
  refine g_aload_n (pc := 3) hC dL_fine_3 rfl ?_
  refine g_iload_n (pc := 4) hC dL_fine_4 rfl ?_
  refine g_iload_n (pc := 5) hC dL_fine_5 rfl ?_
  refine g_iload_n (pc := 6) hC dL_fine_6 rfl ?_
  refine g_callVi (pc := 7) (As := [.int a1, .int a2, .int a3]) (rest := [.int 0, .ref (E.2.1 92)]) hC (c_X11_fine l E a1 a2 a3 σ r σ2 h) mi_X11_fine mv_X11_fine ob_0 rfl rfl lk_L_35 rfl rfl (Nat.le_of_ble_eq_true rfl) ⟨by decide, by decide⟩ hab dL_fine_7 ?_
  refine g_i2l (pc := 10) hC dL_fine_10 ?_
  refine g_last (pc := 11) hC dL_fine_11 ?_
  refine g_goto (tgt := 19) (pc := 12) hC dL_fine_12 (by decide) ?_
  refine g_iconst (pc := 19) hC ki_0 dL_fine_19 ?_
  exact g_hret (pc := 20) hC hR dL_fine_20
set_option maxRecDepth 20000 in
theorem hx_fine_1 (l : Launch) (hl9 : l.stackTraces = false) (E : uE) (a1 : Int32) (a2 : Int32) (a3 : Int32) (σ : uS) (o : Int64) (σ2 : uS) (h : F_X11_fine a1 a2 a3 σ = some (.inr 1, σ2)) : CtH l E yL_fine cL_fine 6 [(0, 12, 15, 13)] 8 143 1 6 [.ref (E.2.1 0), .int a1, .int a2, .int a3, .ref (E.2.1 92)] σ o 1 σ2 o := by
  refine enterH 1 [some (.ref (E.2.1 0)), some (.int a1), some (.int a2), some (.int a3), some (.ref (E.2.1 92)), none] (by decide +kernel) rfl (Nat.le_of_ble_eq_true rfl) (fun K hnL hC hab h6 hT hR => ?_)
  have hC : Cx E K RL cL_fine (some .int) 8 143 := hC
  have hC9 : va_Nc "java/lang/IllegalArgumentException" "java/util/NoSuchElementException" K.1.2.2.2.1 ∧ va_Nc "java/util/NoSuchElementException" "java/lang/IllegalArgumentException" K.1.2.2.2.1 := Cx_nc hC
  refine g_aload (pc := 0) hC dL_fine_0 rfl ?_
  refine g_iconst (pc := 2) hC ki_0 dL_fine_2 ?_
  refine g_aload_n (pc := 3) hC dL_fine_3 rfl ?_
  refine g_iload_n (pc := 4) hC dL_fine_4 rfl ?_
  refine g_iload_n (pc := 5) hC dL_fine_5 rfl ?_
  refine g_iload_n (pc := 6) hC dL_fine_6 rfl ?_
  refine g_hok (pc := 7) (As := [.int a1, .int a2, .int a3]) (rest := [.int 0, .ref (E.2.1 92)]) hC (x_X11_fine l hl9 E a1 a2 a3 σ 1 σ2 h) mi_X11_fine mv_X11_fine ob_0 rfl rfl lk_L_35 rfl rfl (Nat.le_of_ble_eq_true rfl) ⟨by decide, by decide⟩ h6 hT [] ⟨0, 12, 15, 13⟩ [] rfl (fun z hz9 => nomatch hz9) rfl (by decide) lx_13 (List.mem_of_getElem? (i := 0) rfl) dL_fine_7 (fun q9 => ?_)
  refine g_astore (lv2 := [some (.ref (E.2.1 0)), some (.int a1), some (.int a2), some (.int a3), some (.ref (E.2.1 92)), some (.ref q9)]) (pc := 15) hC dL_fine_15 rfl (Or.inr rfl) (by rw [hnL]; decide) ?_
  refine g_iconst (pc := 17) hC ki_1 dL_fine_17 ?_
  exact g_hret (pc := 18) hC hR dL_fine_18
set_option maxRecDepth 20000 in
theorem hr_cost (l : Launch) (E : uE) (a1 : Int32) (σ : uS) (o : Int64) (r : Int32) (σ2 : uS) (h : F_X11_cost a1 σ = some (.inl r, σ2)) : CtH l E yL_cost cL_cost 4 [(0, 9, 12, 13)] 8 135 0 0 [.ref (E.2.1 0), .int a1, .ref (E.2.1 92)] σ o 0 σ2 r.toInt64 := by
  refine enterH 1 [some (.ref (E.2.1 0)), some (.int a1), some (.ref (E.2.1 92)), none] (by decide +kernel) rfl (Nat.le_of_ble_eq_true rfl) (fun K hnL hC hab _ hT hR => ?_)
  have hC : Cx E K RL cL_cost (some .int) 8 135 := hC
  refine g_aload_n (pc := 0) hC dL_cost_0 rfl ?_
  refine g_iconst (pc := 1) hC ki_0 dL_cost_1 ?_
  refine g_aload_n (pc := 2) hC dL_cost_2 rfl ?_
  refine g_iload_n (pc := 3) hC dL_cost_3 rfl ?_
  refine g_callVi (pc := 4) (As := [.int a1]) (rest := [.int 0, .ref (E.2.1 92)]) hC (c_X11_cost l E a1 σ r σ2 h) mi_X11_cost mv_X11_cost ob_0 rfl rfl lk_L_39 rfl rfl (Nat.le_of_ble_eq_true rfl) ⟨by decide, by decide⟩ hab dL_cost_4 ?_
  refine g_i2l (pc := 7) hC dL_cost_7 ?_
  refine g_last (pc := 8) hC dL_cost_8 ?_
  refine g_goto (tgt := 15) (pc := 9) hC dL_cost_9 (by decide) ?_
  refine g_iconst (pc := 15) hC ki_0 dL_cost_15 ?_
  exact g_hret (pc := 16) hC hR dL_cost_16
set_option maxRecDepth 20000 in
theorem hx_cost_1 (l : Launch) (hl9 : l.stackTraces = false) (E : uE) (a1 : Int32) (σ : uS) (o : Int64) (σ2 : uS) (h : F_X11_cost a1 σ = some (.inr 1, σ2)) : CtH l E yL_cost cL_cost 4 [(0, 9, 12, 13)] 8 135 1 6 [.ref (E.2.1 0), .int a1, .ref (E.2.1 92)] σ o 1 σ2 o := by
  refine enterH 1 [some (.ref (E.2.1 0)), some (.int a1), some (.ref (E.2.1 92)), none] (by decide +kernel) rfl (Nat.le_of_ble_eq_true rfl) (fun K hnL hC hab h6 hT hR => ?_)
  have hC : Cx E K RL cL_cost (some .int) 8 135 := hC
  have hC9 : va_Nc "java/lang/IllegalArgumentException" "java/util/NoSuchElementException" K.1.2.2.2.1 ∧ va_Nc "java/util/NoSuchElementException" "java/lang/IllegalArgumentException" K.1.2.2.2.1 := Cx_nc hC
  refine g_aload_n (pc := 0) hC dL_cost_0 rfl ?_
  refine g_iconst (pc := 1) hC ki_0 dL_cost_1 ?_
  refine g_aload_n (pc := 2) hC dL_cost_2 rfl ?_
  refine g_iload_n (pc := 3) hC dL_cost_3 rfl ?_
  refine g_hok (pc := 4) (As := [.int a1]) (rest := [.int 0, .ref (E.2.1 92)]) hC (x_X11_cost l hl9 E a1 σ 1 σ2 h) mi_X11_cost mv_X11_cost ob_0 rfl rfl lk_L_39 rfl rfl (Nat.le_of_ble_eq_true rfl) ⟨by decide, by decide⟩ h6 hT [] ⟨0, 9, 12, 13⟩ [] rfl (fun z hz9 => nomatch hz9) rfl (by decide) lx_13 (List.mem_of_getElem? (i := 0) rfl) dL_cost_4 (fun q9 => ?_)
  refine g_astore_n (lv2 := [some (.ref (E.2.1 0)), some (.int a1), some (.ref (E.2.1 92)), some (.ref q9)]) (pc := 12) hC dL_cost_12 rfl (Or.inr rfl) (by rw [hnL]; decide) ?_
  refine g_iconst (pc := 13) hC ki_1 dL_cost_13 ?_
  exact g_hret (pc := 14) hC hR dL_cost_14
set_option maxRecDepth 20000 in
theorem hr_path (l : Launch) (E : uE) (a1 : Int32) (σ : uS) (o : Int64) (r : Int32) (σ2 : uS) (h : F_X11_path a1 σ = some (.inl r, σ2)) : CtH l E yL_path cL_path 4 [(0, 9, 12, 13)] 8 135 0 0 [.ref (E.2.1 0), .int a1, .ref (E.2.1 92)] σ o 0 σ2 r.toInt64 := by
  refine enterH 1 [some (.ref (E.2.1 0)), some (.int a1), some (.ref (E.2.1 92)), none] (by decide +kernel) rfl (Nat.le_of_ble_eq_true rfl) (fun K hnL hC hab _ hT hR => ?_)
  have hC : Cx E K RL cL_path (some .int) 8 135 := hC
  refine g_aload_n (pc := 0) hC dL_path_0 rfl ?_
  refine g_iconst (pc := 1) hC ki_0 dL_path_1 ?_
  refine g_aload_n (pc := 2) hC dL_path_2 rfl ?_
  refine g_iload_n (pc := 3) hC dL_path_3 rfl ?_
  refine g_callVi (pc := 4) (As := [.int a1]) (rest := [.int 0, .ref (E.2.1 92)]) hC (c_X11_path l E a1 σ r σ2 h) mi_X11_path mv_X11_path ob_0 rfl rfl lk_L_42 rfl rfl (Nat.le_of_ble_eq_true rfl) ⟨by decide, by decide⟩ hab dL_path_4 ?_
  refine g_i2l (pc := 7) hC dL_path_7 ?_
  refine g_last (pc := 8) hC dL_path_8 ?_
  refine g_goto (tgt := 15) (pc := 9) hC dL_path_9 (by decide) ?_
  refine g_iconst (pc := 15) hC ki_0 dL_path_15 ?_
  exact g_hret (pc := 16) hC hR dL_path_16
set_option maxRecDepth 20000 in
theorem hx_path_1 (l : Launch) (hl9 : l.stackTraces = false) (E : uE) (a1 : Int32) (σ : uS) (o : Int64) (σ2 : uS) (h : F_X11_path a1 σ = some (.inr 1, σ2)) : CtH l E yL_path cL_path 4 [(0, 9, 12, 13)] 8 135 1 6 [.ref (E.2.1 0), .int a1, .ref (E.2.1 92)] σ o 1 σ2 o := by
  refine enterH 1 [some (.ref (E.2.1 0)), some (.int a1), some (.ref (E.2.1 92)), none] (by decide +kernel) rfl (Nat.le_of_ble_eq_true rfl) (fun K hnL hC hab h6 hT hR => ?_)
  have hC : Cx E K RL cL_path (some .int) 8 135 := hC
  have hC9 : va_Nc "java/lang/IllegalArgumentException" "java/util/NoSuchElementException" K.1.2.2.2.1 ∧ va_Nc "java/util/NoSuchElementException" "java/lang/IllegalArgumentException" K.1.2.2.2.1 := Cx_nc hC
  refine g_aload_n (pc := 0) hC dL_path_0 rfl ?_
  refine g_iconst (pc := 1) hC ki_0 dL_path_1 ?_
  refine g_aload_n (pc := 2) hC dL_path_2 rfl ?_
  refine g_iload_n (pc := 3) hC dL_path_3 rfl ?_
  refine g_hok (pc := 4) (As := [.int a1]) (rest := [.int 0, .ref (E.2.1 92)]) hC (x_X11_path l hl9 E a1 σ 1 σ2 h) mi_X11_path mv_X11_path ob_0 rfl rfl lk_L_42 rfl rfl (Nat.le_of_ble_eq_true rfl) ⟨by decide, by decide⟩ h6 hT [] ⟨0, 9, 12, 13⟩ [] rfl (fun z hz9 => nomatch hz9) rfl (by decide) lx_13 (List.mem_of_getElem? (i := 0) rfl) dL_path_4 (fun q9 => ?_)
  refine g_astore_n (lv2 := [some (.ref (E.2.1 0)), some (.int a1), some (.ref (E.2.1 92)), some (.ref q9)]) (pc := 12) hC dL_path_12 rfl (Or.inr rfl) (by rw [hnL]; decide) ?_
  refine g_iconst (pc := 13) hC ki_1 dL_path_13 ?_
  exact g_hret (pc := 14) hC hR dL_path_14
set_option maxRecDepth 20000 in
theorem hr_lag (l : Launch) (E : uE) (a1 : Int32) (σ : uS) (o : Int64) (r : Int32) (σ2 : uS) (h : F_X11_lag a1 σ = some (.inl r, σ2)) : CtH l E yL_lag cL_lag 4 [(0, 9, 12, 13)] 8 135 0 0 [.ref (E.2.1 0), .int a1, .ref (E.2.1 92)] σ o 0 σ2 r.toInt64 := by
  refine enterH 1 [some (.ref (E.2.1 0)), some (.int a1), some (.ref (E.2.1 92)), none] (by decide +kernel) rfl (Nat.le_of_ble_eq_true rfl) (fun K hnL hC hab _ hT hR => ?_)
  have hC : Cx E K RL cL_lag (some .int) 8 135 := hC
  refine g_aload_n (pc := 0) hC dL_lag_0 rfl ?_
  refine g_iconst (pc := 1) hC ki_0 dL_lag_1 ?_
  refine g_aload_n (pc := 2) hC dL_lag_2 rfl ?_
  refine g_iload_n (pc := 3) hC dL_lag_3 rfl ?_
  refine g_callVi (pc := 4) (As := [.int a1]) (rest := [.int 0, .ref (E.2.1 92)]) hC (c_X11_lag l E a1 σ r σ2 h) mi_X11_lag mv_X11_lag ob_0 rfl rfl lk_L_45 rfl rfl (Nat.le_of_ble_eq_true rfl) ⟨by decide, by decide⟩ hab dL_lag_4 ?_
  refine g_i2l (pc := 7) hC dL_lag_7 ?_
  refine g_last (pc := 8) hC dL_lag_8 ?_
  refine g_goto (tgt := 15) (pc := 9) hC dL_lag_9 (by decide) ?_
  refine g_iconst (pc := 15) hC ki_0 dL_lag_15 ?_
  exact g_hret (pc := 16) hC hR dL_lag_16
set_option maxRecDepth 20000 in
theorem hx_lag_1 (l : Launch) (hl9 : l.stackTraces = false) (E : uE) (a1 : Int32) (σ : uS) (o : Int64) (σ2 : uS) (h : F_X11_lag a1 σ = some (.inr 1, σ2)) : CtH l E yL_lag cL_lag 4 [(0, 9, 12, 13)] 8 135 1 6 [.ref (E.2.1 0), .int a1, .ref (E.2.1 92)] σ o 1 σ2 o := by
  refine enterH 1 [some (.ref (E.2.1 0)), some (.int a1), some (.ref (E.2.1 92)), none] (by decide +kernel) rfl (Nat.le_of_ble_eq_true rfl) (fun K hnL hC hab h6 hT hR => ?_)
  have hC : Cx E K RL cL_lag (some .int) 8 135 := hC
  have hC9 : va_Nc "java/lang/IllegalArgumentException" "java/util/NoSuchElementException" K.1.2.2.2.1 ∧ va_Nc "java/util/NoSuchElementException" "java/lang/IllegalArgumentException" K.1.2.2.2.1 := Cx_nc hC
  refine g_aload_n (pc := 0) hC dL_lag_0 rfl ?_
  refine g_iconst (pc := 1) hC ki_0 dL_lag_1 ?_
  refine g_aload_n (pc := 2) hC dL_lag_2 rfl ?_
  refine g_iload_n (pc := 3) hC dL_lag_3 rfl ?_
  refine g_hok (pc := 4) (As := [.int a1]) (rest := [.int 0, .ref (E.2.1 92)]) hC (x_X11_lag l hl9 E a1 σ 1 σ2 h) mi_X11_lag mv_X11_lag ob_0 rfl rfl lk_L_45 rfl rfl (Nat.le_of_ble_eq_true rfl) ⟨by decide, by decide⟩ h6 hT [] ⟨0, 9, 12, 13⟩ [] rfl (fun z hz9 => nomatch hz9) rfl (by decide) lx_13 (List.mem_of_getElem? (i := 0) rfl) dL_lag_4 (fun q9 => ?_)
  refine g_astore_n (lv2 := [some (.ref (E.2.1 0)), some (.int a1), some (.ref (E.2.1 92)), some (.ref q9)]) (pc := 12) hC dL_lag_12 rfl (Or.inr rfl) (by rw [hnL]; decide) ?_
  refine g_iconst (pc := 13) hC ki_1 dL_lag_13 ?_
  exact g_hret (pc := 14) hC hR dL_lag_14
set_option maxRecDepth 20000 in
theorem hr_through (l : Launch) (E : uE) (a1 : Int32) (a2 : Int32) (σ : uS) (o : Int64) (r : Int32) (σ2 : uS) (h : F_X11_through a1 a2 σ = some (.inl r, σ2)) : CtH l E yL_through cL_through 5 [(0, 10, 13, 13)] 8 136 0 0 [.ref (E.2.1 0), .int a1, .int a2, .ref (E.2.1 92)] σ o 0 σ2 r.toInt64 := by
  refine enterH 1 [some (.ref (E.2.1 0)), some (.int a1), some (.int a2), some (.ref (E.2.1 92)), none] (by decide +kernel) rfl (Nat.le_of_ble_eq_true rfl) (fun K hnL hC hab _ hT hR => ?_)
  have hC : Cx E K RL cL_through (some .int) 8 136 := hC
  refine g_aload_n (pc := 0) hC dL_through_0 rfl ?_
  refine g_iconst (pc := 1) hC ki_0 dL_through_1 ?_
  refine g_aload_n (pc := 2) hC dL_through_2 rfl ?_
  refine g_iload_n (pc := 3) hC dL_through_3 rfl ?_
  refine g_iload_n (pc := 4) hC dL_through_4 rfl ?_
  refine g_callVi (pc := 5) (As := [.int a1, .int a2]) (rest := [.int 0, .ref (E.2.1 92)]) hC (c_X11_through l E a1 a2 σ r σ2 h) mi_X11_through mv_X11_through ob_0 rfl rfl lk_L_48 rfl rfl (Nat.le_of_ble_eq_true rfl) ⟨by decide, by decide⟩ hab dL_through_5 ?_
  refine g_i2l (pc := 8) hC dL_through_8 ?_
  refine g_last (pc := 9) hC dL_through_9 ?_
  refine g_goto (tgt := 17) (pc := 10) hC dL_through_10 (by decide) ?_
  refine g_iconst (pc := 17) hC ki_0 dL_through_17 ?_
  exact g_hret (pc := 18) hC hR dL_through_18
set_option maxRecDepth 20000 in
theorem hx_through_1 (l : Launch) (hl9 : l.stackTraces = false) (E : uE) (a1 : Int32) (a2 : Int32) (σ : uS) (o : Int64) (σ2 : uS) (h : F_X11_through a1 a2 σ = some (.inr 1, σ2)) : CtH l E yL_through cL_through 5 [(0, 10, 13, 13)] 8 136 1 6 [.ref (E.2.1 0), .int a1, .int a2, .ref (E.2.1 92)] σ o 1 σ2 o := by
  refine enterH 1 [some (.ref (E.2.1 0)), some (.int a1), some (.int a2), some (.ref (E.2.1 92)), none] (by decide +kernel) rfl (Nat.le_of_ble_eq_true rfl) (fun K hnL hC hab h6 hT hR => ?_)
  have hC : Cx E K RL cL_through (some .int) 8 136 := hC
  have hC9 : va_Nc "java/lang/IllegalArgumentException" "java/util/NoSuchElementException" K.1.2.2.2.1 ∧ va_Nc "java/util/NoSuchElementException" "java/lang/IllegalArgumentException" K.1.2.2.2.1 := Cx_nc hC
  refine g_aload_n (pc := 0) hC dL_through_0 rfl ?_
  refine g_iconst (pc := 1) hC ki_0 dL_through_1 ?_
  refine g_aload_n (pc := 2) hC dL_through_2 rfl ?_
  refine g_iload_n (pc := 3) hC dL_through_3 rfl ?_
  refine g_iload_n (pc := 4) hC dL_through_4 rfl ?_
  refine g_hok (pc := 5) (As := [.int a1, .int a2]) (rest := [.int 0, .ref (E.2.1 92)]) hC (x_X11_through l hl9 E a1 a2 σ 1 σ2 h) mi_X11_through mv_X11_through ob_0 rfl rfl lk_L_48 rfl rfl (Nat.le_of_ble_eq_true rfl) ⟨by decide, by decide⟩ h6 hT [] ⟨0, 10, 13, 13⟩ [] rfl (fun z hz9 => nomatch hz9) rfl (by decide) lx_13 (List.mem_of_getElem? (i := 0) rfl) dL_through_5 (fun q9 => ?_)
  refine g_astore (lv2 := [some (.ref (E.2.1 0)), some (.int a1), some (.int a2), some (.ref (E.2.1 92)), some (.ref q9)]) (pc := 13) hC dL_through_13 rfl (Or.inr rfl) (by rw [hnL]; decide) ?_
  refine g_iconst (pc := 15) hC ki_1 dL_through_15 ?_
  exact g_hret (pc := 16) hC hR dL_through_16
set_option maxRecDepth 20000 in
theorem hr_both (l : Launch) (E : uE) (a1 : Int32) (a2 : Int32) (a3 : Int32) (a4 : Int32) (σ : uS) (o : Int64) (r : Int32) (σ2 : uS) (h : F_X11_both a1 a2 a3 a4 σ = some (.inl r, σ2)) : CtH l E yL_both cL_both 7 [(0, 14, 17, 13), (0, 14, 21, 55)] 8 138 0 0 [.ref (E.2.1 0), .int a1, .int a2, .int a3, .int a4, .ref (E.2.1 92)] σ o 0 σ2 r.toInt64 := by
  refine enterH 1 [some (.ref (E.2.1 0)), some (.int a1), some (.int a2), some (.int a3), some (.int a4), some (.ref (E.2.1 92)), none] (by decide +kernel) rfl (Nat.le_of_ble_eq_true rfl) (fun K hnL hC hab _ hT hR => ?_)
  have hC : Cx E K RL cL_both (some .int) 8 138 := hC
  refine g_aload (pc := 0) hC dL_both_0 rfl ?_
  refine g_iconst (pc := 2) hC ki_0 dL_both_2 ?_
  refine g_aload_n (pc := 3) hC dL_both_3 rfl ?_
  refine g_iload_n (pc := 4) hC dL_both_4 rfl ?_
  refine g_iload_n (pc := 5) hC dL_both_5 rfl ?_
  refine g_iload_n (pc := 6) hC dL_both_6 rfl ?_
  refine g_iload (pc := 7) hC dL_both_7 rfl ?_
  refine g_callVi (pc := 9) (As := [.int a1, .int a2, .int a3, .int a4]) (rest := [.int 0, .ref (E.2.1 92)]) hC (c_X11_both l E a1 a2 a3 a4 σ r σ2 h) mi_X11_both mv_X11_both ob_0 rfl rfl lk_L_51 rfl rfl (Nat.le_of_ble_eq_true rfl) ⟨by decide, by decide⟩ hab dL_both_9 ?_
  refine g_i2l (pc := 12) hC dL_both_12 ?_
  refine g_last (pc := 13) hC dL_both_13 ?_
  refine g_goto (tgt := 25) (pc := 14) hC dL_both_14 (by decide) ?_
  refine g_iconst (pc := 25) hC ki_0 dL_both_25 ?_
  exact g_hret (pc := 26) hC hR dL_both_26
set_option maxRecDepth 20000 in
theorem hx_both_1 (l : Launch) (hl9 : l.stackTraces = false) (E : uE) (a1 : Int32) (a2 : Int32) (a3 : Int32) (a4 : Int32) (σ : uS) (o : Int64) (σ2 : uS) (h : F_X11_both a1 a2 a3 a4 σ = some (.inr 1, σ2)) : CtH l E yL_both cL_both 7 [(0, 14, 17, 13), (0, 14, 21, 55)] 8 138 1 6 [.ref (E.2.1 0), .int a1, .int a2, .int a3, .int a4, .ref (E.2.1 92)] σ o 1 σ2 o := by
  refine enterH 1 [some (.ref (E.2.1 0)), some (.int a1), some (.int a2), some (.int a3), some (.int a4), some (.ref (E.2.1 92)), none] (by decide +kernel) rfl (Nat.le_of_ble_eq_true rfl) (fun K hnL hC hab h6 hT hR => ?_)
  have hC : Cx E K RL cL_both (some .int) 8 138 := hC
  have hC9 : va_Nc "java/lang/IllegalArgumentException" "java/util/NoSuchElementException" K.1.2.2.2.1 ∧ va_Nc "java/util/NoSuchElementException" "java/lang/IllegalArgumentException" K.1.2.2.2.1 := Cx_nc hC
  refine g_aload (pc := 0) hC dL_both_0 rfl ?_
  refine g_iconst (pc := 2) hC ki_0 dL_both_2 ?_
  refine g_aload_n (pc := 3) hC dL_both_3 rfl ?_
  refine g_iload_n (pc := 4) hC dL_both_4 rfl ?_
  refine g_iload_n (pc := 5) hC dL_both_5 rfl ?_
  refine g_iload_n (pc := 6) hC dL_both_6 rfl ?_
  refine g_iload (pc := 7) hC dL_both_7 rfl ?_
  refine g_hok (pc := 9) (As := [.int a1, .int a2, .int a3, .int a4]) (rest := [.int 0, .ref (E.2.1 92)]) hC (x_X11_both l hl9 E a1 a2 a3 a4 σ 1 σ2 h) mi_X11_both mv_X11_both ob_0 rfl rfl lk_L_51 rfl rfl (Nat.le_of_ble_eq_true rfl) ⟨by decide, by decide⟩ h6 hT [] ⟨0, 14, 17, 13⟩ [⟨0, 14, 21, 55⟩] rfl (fun z hz9 => nomatch hz9) rfl (by decide) lx_13 (List.mem_of_getElem? (i := 0) rfl) dL_both_9 (fun q9 => ?_)
  refine g_astore (lv2 := [some (.ref (E.2.1 0)), some (.int a1), some (.int a2), some (.int a3), some (.int a4), some (.ref (E.2.1 92)), some (.ref q9)]) (pc := 17) hC dL_both_17 rfl (Or.inr rfl) (by rw [hnL]; decide) ?_
  refine g_iconst (pc := 19) hC ki_1 dL_both_19 ?_
  exact g_hret (pc := 20) hC hR dL_both_20
set_option maxRecDepth 20000 in
theorem hx_both_2 (l : Launch) (hl9 : l.stackTraces = false) (E : uE) (a1 : Int32) (a2 : Int32) (a3 : Int32) (a4 : Int32) (σ : uS) (o : Int64) (σ2 : uS) (h : F_X11_both a1 a2 a3 a4 σ = some (.inr 2, σ2)) : CtH l E yL_both cL_both 7 [(0, 14, 17, 13), (0, 14, 21, 55)] 8 138 1 6 [.ref (E.2.1 0), .int a1, .int a2, .int a3, .int a4, .ref (E.2.1 92)] σ o 2 σ2 o := by
  refine enterH 1 [some (.ref (E.2.1 0)), some (.int a1), some (.int a2), some (.int a3), some (.int a4), some (.ref (E.2.1 92)), none] (by decide +kernel) rfl (Nat.le_of_ble_eq_true rfl) (fun K hnL hC hab h6 hT hR => ?_)
  have hC : Cx E K RL cL_both (some .int) 8 138 := hC
  have hC9 : va_Nc "java/lang/IllegalArgumentException" "java/util/NoSuchElementException" K.1.2.2.2.1 ∧ va_Nc "java/util/NoSuchElementException" "java/lang/IllegalArgumentException" K.1.2.2.2.1 := Cx_nc hC
  refine g_aload (pc := 0) hC dL_both_0 rfl ?_
  refine g_iconst (pc := 2) hC ki_0 dL_both_2 ?_
  refine g_aload_n (pc := 3) hC dL_both_3 rfl ?_
  refine g_iload_n (pc := 4) hC dL_both_4 rfl ?_
  refine g_iload_n (pc := 5) hC dL_both_5 rfl ?_
  refine g_iload_n (pc := 6) hC dL_both_6 rfl ?_
  refine g_iload (pc := 7) hC dL_both_7 rfl ?_
  refine g_hok (pc := 9) (As := [.int a1, .int a2, .int a3, .int a4]) (rest := [.int 0, .ref (E.2.1 92)]) hC (x_X11_both l hl9 E a1 a2 a3 a4 σ 2 σ2 h) mi_X11_both mv_X11_both ob_0 rfl rfl lk_L_51 rfl rfl (Nat.le_of_ble_eq_true rfl) ⟨by decide, by decide⟩ h6 hT [⟨0, 14, 17, 13⟩] ⟨0, 14, 21, 55⟩ [] rfl (fun z hz9 => by rcases List.mem_singleton.mp hz9 with rfl; exact ⟨by decide, "java/util/NoSuchElementException", lx_13, hC9.1⟩) rfl (by decide) lx_55 (List.mem_of_getElem? (i := 1) rfl) dL_both_9 (fun q9 => ?_)
  refine g_astore (lv2 := [some (.ref (E.2.1 0)), some (.int a1), some (.int a2), some (.int a3), some (.int a4), some (.ref (E.2.1 92)), some (.ref q9)]) (pc := 21) hC dL_both_21 rfl (Or.inr rfl) (by rw [hnL]; decide) ?_
  refine g_iconst (pc := 23) hC ki_2 dL_both_23 ?_
  exact g_hret (pc := 24) hC hR dL_both_24
set_option maxRecDepth 20000 in
theorem hr_live (l : Launch) (E : uE) (a1 : Int32) (a2 : Int32) (σ : uS) (o : Int64) (r : Int32) (σ2 : uS) (h : F_X11_live a1 a2 σ = some (.inl r, σ2)) : CtH l E yL_live cL_live 5 [(0, 10, 13, 13), (0, 10, 17, 55)] 8 136 0 0 [.ref (E.2.1 0), .int a1, .int a2, .ref (E.2.1 92)] σ o 0 σ2 r.toInt64 := by
  refine enterH 1 [some (.ref (E.2.1 0)), some (.int a1), some (.int a2), some (.ref (E.2.1 92)), none] (by decide +kernel) rfl (Nat.le_of_ble_eq_true rfl) (fun K hnL hC hab _ hT hR => ?_)
  have hC : Cx E K RL cL_live (some .int) 8 136 := hC
  refine g_aload_n (pc := 0) hC dL_live_0 rfl ?_
  refine g_iconst (pc := 1) hC ki_0 dL_live_1 ?_
  refine g_aload_n (pc := 2) hC dL_live_2 rfl ?_
  refine g_iload_n (pc := 3) hC dL_live_3 rfl ?_
  refine g_iload_n (pc := 4) hC dL_live_4 rfl ?_
  refine g_callVi (pc := 5) (As := [.int a1, .int a2]) (rest := [.int 0, .ref (E.2.1 92)]) hC (c_X11_live l E a1 a2 σ r σ2 h) mi_X11_live mv_X11_live ob_0 rfl rfl lk_L_57 rfl rfl (Nat.le_of_ble_eq_true rfl) ⟨by decide, by decide⟩ hab dL_live_5 ?_
  refine g_i2l (pc := 8) hC dL_live_8 ?_
  refine g_last (pc := 9) hC dL_live_9 ?_
  refine g_goto (tgt := 21) (pc := 10) hC dL_live_10 (by decide) ?_
  refine g_iconst (pc := 21) hC ki_0 dL_live_21 ?_
  exact g_hret (pc := 22) hC hR dL_live_22
set_option maxRecDepth 20000 in
theorem hx_live_1 (l : Launch) (hl9 : l.stackTraces = false) (E : uE) (a1 : Int32) (a2 : Int32) (σ : uS) (o : Int64) (σ2 : uS) (h : F_X11_live a1 a2 σ = some (.inr 1, σ2)) : CtH l E yL_live cL_live 5 [(0, 10, 13, 13), (0, 10, 17, 55)] 8 136 1 6 [.ref (E.2.1 0), .int a1, .int a2, .ref (E.2.1 92)] σ o 1 σ2 o := by
  refine enterH 1 [some (.ref (E.2.1 0)), some (.int a1), some (.int a2), some (.ref (E.2.1 92)), none] (by decide +kernel) rfl (Nat.le_of_ble_eq_true rfl) (fun K hnL hC hab h6 hT hR => ?_)
  have hC : Cx E K RL cL_live (some .int) 8 136 := hC
  have hC9 : va_Nc "java/lang/IllegalArgumentException" "java/util/NoSuchElementException" K.1.2.2.2.1 ∧ va_Nc "java/util/NoSuchElementException" "java/lang/IllegalArgumentException" K.1.2.2.2.1 := Cx_nc hC
  refine g_aload_n (pc := 0) hC dL_live_0 rfl ?_
  refine g_iconst (pc := 1) hC ki_0 dL_live_1 ?_
  refine g_aload_n (pc := 2) hC dL_live_2 rfl ?_
  refine g_iload_n (pc := 3) hC dL_live_3 rfl ?_
  refine g_iload_n (pc := 4) hC dL_live_4 rfl ?_
  refine g_hok (pc := 5) (As := [.int a1, .int a2]) (rest := [.int 0, .ref (E.2.1 92)]) hC (x_X11_live l hl9 E a1 a2 σ 1 σ2 h) mi_X11_live mv_X11_live ob_0 rfl rfl lk_L_57 rfl rfl (Nat.le_of_ble_eq_true rfl) ⟨by decide, by decide⟩ h6 hT [] ⟨0, 10, 13, 13⟩ [⟨0, 10, 17, 55⟩] rfl (fun z hz9 => nomatch hz9) rfl (by decide) lx_13 (List.mem_of_getElem? (i := 0) rfl) dL_live_5 (fun q9 => ?_)
  refine g_astore (lv2 := [some (.ref (E.2.1 0)), some (.int a1), some (.int a2), some (.ref (E.2.1 92)), some (.ref q9)]) (pc := 13) hC dL_live_13 rfl (Or.inr rfl) (by rw [hnL]; decide) ?_
  refine g_iconst (pc := 15) hC ki_1 dL_live_15 ?_
  exact g_hret (pc := 16) hC hR dL_live_16
set_option maxRecDepth 20000 in
theorem hx_live_2 (l : Launch) (hl9 : l.stackTraces = false) (E : uE) (a1 : Int32) (a2 : Int32) (σ : uS) (o : Int64) (σ2 : uS) (h : F_X11_live a1 a2 σ = some (.inr 2, σ2)) : CtH l E yL_live cL_live 5 [(0, 10, 13, 13), (0, 10, 17, 55)] 8 136 1 6 [.ref (E.2.1 0), .int a1, .int a2, .ref (E.2.1 92)] σ o 2 σ2 o := by
  refine enterH 1 [some (.ref (E.2.1 0)), some (.int a1), some (.int a2), some (.ref (E.2.1 92)), none] (by decide +kernel) rfl (Nat.le_of_ble_eq_true rfl) (fun K hnL hC hab h6 hT hR => ?_)
  have hC : Cx E K RL cL_live (some .int) 8 136 := hC
  have hC9 : va_Nc "java/lang/IllegalArgumentException" "java/util/NoSuchElementException" K.1.2.2.2.1 ∧ va_Nc "java/util/NoSuchElementException" "java/lang/IllegalArgumentException" K.1.2.2.2.1 := Cx_nc hC
  refine g_aload_n (pc := 0) hC dL_live_0 rfl ?_
  refine g_iconst (pc := 1) hC ki_0 dL_live_1 ?_
  refine g_aload_n (pc := 2) hC dL_live_2 rfl ?_
  refine g_iload_n (pc := 3) hC dL_live_3 rfl ?_
  refine g_iload_n (pc := 4) hC dL_live_4 rfl ?_
  refine g_hok (pc := 5) (As := [.int a1, .int a2]) (rest := [.int 0, .ref (E.2.1 92)]) hC (x_X11_live l hl9 E a1 a2 σ 2 σ2 h) mi_X11_live mv_X11_live ob_0 rfl rfl lk_L_57 rfl rfl (Nat.le_of_ble_eq_true rfl) ⟨by decide, by decide⟩ h6 hT [⟨0, 10, 13, 13⟩] ⟨0, 10, 17, 55⟩ [] rfl (fun z hz9 => by rcases List.mem_singleton.mp hz9 with rfl; exact ⟨by decide, "java/util/NoSuchElementException", lx_13, hC9.1⟩) rfl (by decide) lx_55 (List.mem_of_getElem? (i := 1) rfl) dL_live_5 (fun q9 => ?_)
  refine g_astore (lv2 := [some (.ref (E.2.1 0)), some (.int a1), some (.int a2), some (.ref (E.2.1 92)), some (.ref q9)]) (pc := 17) hC dL_live_17 rfl (Or.inr rfl) (by rw [hnL]; decide) ?_
  refine g_iconst (pc := 19) hC ki_2 dL_live_19 ?_
  exact g_hret (pc := 20) hC hR dL_live_20
set_option maxRecDepth 20000 in
theorem hr_settles (l : Launch) (E : uE) (a1 : Int32) (σ : uS) (o : Int64) (r : Int32) (σ2 : uS) (h : F_X11_settles a1 σ = some (.inl r, σ2)) : CtH l E yL_settles cL_settles 4 [(0, 9, 12, 13)] 8 137 0 0 [.ref (E.2.1 0), .int a1, .ref (E.2.1 92)] σ o 0 σ2 r.toInt64 := by
  refine enterH 1 [some (.ref (E.2.1 0)), some (.int a1), some (.ref (E.2.1 92)), none] (by decide +kernel) rfl (Nat.le_of_ble_eq_true rfl) (fun K hnL hC hab _ hT hR => ?_)
  have hC : Cx E K RL cL_settles (some .int) 8 137 := hC
  refine g_aload_n (pc := 0) hC dL_settles_0 rfl ?_
  refine g_iconst (pc := 1) hC ki_0 dL_settles_1 ?_
  refine g_aload_n (pc := 2) hC dL_settles_2 rfl ?_
  refine g_iload_n (pc := 3) hC dL_settles_3 rfl ?_
  refine g_callVi (pc := 4) (As := [.int a1]) (rest := [.int 0, .ref (E.2.1 92)]) hC (c_X11_settles l E a1 σ r σ2 h) mi_X11_settles mv_X11_settles ob_0 rfl rfl lk_L_60 rfl rfl (Nat.le_of_ble_eq_true rfl) ⟨by decide, by decide⟩ hab dL_settles_4 ?_
  refine g_i2l (pc := 7) hC dL_settles_7 ?_
  refine g_last (pc := 8) hC dL_settles_8 ?_
  refine g_goto (tgt := 15) (pc := 9) hC dL_settles_9 (by decide) ?_
  refine g_iconst (pc := 15) hC ki_0 dL_settles_15 ?_
  exact g_hret (pc := 16) hC hR dL_settles_16
set_option maxRecDepth 20000 in
theorem hx_settles_1 (l : Launch) (hl9 : l.stackTraces = false) (E : uE) (a1 : Int32) (σ : uS) (o : Int64) (σ2 : uS) (h : F_X11_settles a1 σ = some (.inr 1, σ2)) : CtH l E yL_settles cL_settles 4 [(0, 9, 12, 13)] 8 137 1 6 [.ref (E.2.1 0), .int a1, .ref (E.2.1 92)] σ o 1 σ2 o := by
  refine enterH 1 [some (.ref (E.2.1 0)), some (.int a1), some (.ref (E.2.1 92)), none] (by decide +kernel) rfl (Nat.le_of_ble_eq_true rfl) (fun K hnL hC hab h6 hT hR => ?_)
  have hC : Cx E K RL cL_settles (some .int) 8 137 := hC
  have hC9 : va_Nc "java/lang/IllegalArgumentException" "java/util/NoSuchElementException" K.1.2.2.2.1 ∧ va_Nc "java/util/NoSuchElementException" "java/lang/IllegalArgumentException" K.1.2.2.2.1 := Cx_nc hC
  refine g_aload_n (pc := 0) hC dL_settles_0 rfl ?_
  refine g_iconst (pc := 1) hC ki_0 dL_settles_1 ?_
  refine g_aload_n (pc := 2) hC dL_settles_2 rfl ?_
  refine g_iload_n (pc := 3) hC dL_settles_3 rfl ?_
  refine g_hok (pc := 4) (As := [.int a1]) (rest := [.int 0, .ref (E.2.1 92)]) hC (x_X11_settles l hl9 E a1 σ 1 σ2 h) mi_X11_settles mv_X11_settles ob_0 rfl rfl lk_L_60 rfl rfl (Nat.le_of_ble_eq_true rfl) ⟨by decide, by decide⟩ h6 hT [] ⟨0, 9, 12, 13⟩ [] rfl (fun z hz9 => nomatch hz9) rfl (by decide) lx_13 (List.mem_of_getElem? (i := 0) rfl) dL_settles_4 (fun q9 => ?_)
  refine g_astore_n (lv2 := [some (.ref (E.2.1 0)), some (.int a1), some (.ref (E.2.1 92)), some (.ref q9)]) (pc := 12) hC dL_settles_12 rfl (Or.inr rfl) (by rw [hnL]; decide) ?_
  refine g_iconst (pc := 13) hC ki_1 dL_settles_13 ?_
  exact g_hret (pc := 14) hC hR dL_settles_14
set_option maxRecDepth 20000 in
theorem hr_best (l : Launch) (E : uE) (a1 : Int32) (σ : uS) (o : Int64) (r : Int32) (σ2 : uS) (h : F_X11_best a1 σ = some (.inl r, σ2)) : CtH l E yL_best cL_best 4 [(0, 9, 12, 55)] 8 156 0 0 [.ref (E.2.1 0), .int a1, .ref (E.2.1 92)] σ o 0 σ2 r.toInt64 := by
  refine enterH 1 [some (.ref (E.2.1 0)), some (.int a1), some (.ref (E.2.1 92)), none] (by decide +kernel) rfl (Nat.le_of_ble_eq_true rfl) (fun K hnL hC hab _ hT hR => ?_)
  have hC : Cx E K RL cL_best (some .int) 8 156 := hC
  refine g_aload_n (pc := 0) hC dL_best_0 rfl ?_
  refine g_iconst (pc := 1) hC ki_0 dL_best_1 ?_
  refine g_aload_n (pc := 2) hC dL_best_2 rfl ?_
  refine g_iload_n (pc := 3) hC dL_best_3 rfl ?_
  refine g_callVi (pc := 4) (As := [.int a1]) (rest := [.int 0, .ref (E.2.1 92)]) hC (c_X11_best l E a1 σ r σ2 h) mi_X11_best mv_X11_best ob_0 rfl rfl lk_L_63 rfl rfl (Nat.le_of_ble_eq_true rfl) ⟨by decide, by decide⟩ hab dL_best_4 ?_
  refine g_i2l (pc := 7) hC dL_best_7 ?_
  refine g_last (pc := 8) hC dL_best_8 ?_
  refine g_goto (tgt := 15) (pc := 9) hC dL_best_9 (by decide) ?_
  refine g_iconst (pc := 15) hC ki_0 dL_best_15 ?_
  exact g_hret (pc := 16) hC hR dL_best_16
set_option maxRecDepth 20000 in
theorem hx_best_2 (l : Launch) (hl9 : l.stackTraces = false) (E : uE) (a1 : Int32) (σ : uS) (o : Int64) (σ2 : uS) (h : F_X11_best a1 σ = some (.inr 2, σ2)) : CtH l E yL_best cL_best 4 [(0, 9, 12, 55)] 8 156 1 6 [.ref (E.2.1 0), .int a1, .ref (E.2.1 92)] σ o 1 σ2 o := by
  refine enterH 1 [some (.ref (E.2.1 0)), some (.int a1), some (.ref (E.2.1 92)), none] (by decide +kernel) rfl (Nat.le_of_ble_eq_true rfl) (fun K hnL hC hab h6 hT hR => ?_)
  have hC : Cx E K RL cL_best (some .int) 8 156 := hC
  have hC9 : va_Nc "java/lang/IllegalArgumentException" "java/util/NoSuchElementException" K.1.2.2.2.1 ∧ va_Nc "java/util/NoSuchElementException" "java/lang/IllegalArgumentException" K.1.2.2.2.1 := Cx_nc hC
  refine g_aload_n (pc := 0) hC dL_best_0 rfl ?_
  refine g_iconst (pc := 1) hC ki_0 dL_best_1 ?_
  refine g_aload_n (pc := 2) hC dL_best_2 rfl ?_
  refine g_iload_n (pc := 3) hC dL_best_3 rfl ?_
  refine g_hok (pc := 4) (As := [.int a1]) (rest := [.int 0, .ref (E.2.1 92)]) hC (x_X11_best l hl9 E a1 σ 2 σ2 h) mi_X11_best mv_X11_best ob_0 rfl rfl lk_L_63 rfl rfl (Nat.le_of_ble_eq_true rfl) ⟨by decide, by decide⟩ h6 hT [] ⟨0, 9, 12, 55⟩ [] rfl (fun z hz9 => nomatch hz9) rfl (by decide) lx_55 (List.mem_of_getElem? (i := 1) rfl) dL_best_4 (fun q9 => ?_)
  refine g_astore_n (lv2 := [some (.ref (E.2.1 0)), some (.int a1), some (.ref (E.2.1 92)), some (.ref q9)]) (pc := 12) hC dL_best_12 rfl (Or.inr rfl) (by rw [hnL]; decide) ?_
  refine g_iconst (pc := 13) hC ki_1 dL_best_13 ?_
  exact g_hret (pc := 14) hC hR dL_best_14
set_option maxRecDepth 20000 in
theorem hr_bestAt (l : Launch) (E : uE) (a1 : Int32) (a2 : Int32) (σ : uS) (o : Int64) (r : Int32) (σ2 : uS) (h : F_X11_bestAt a1 a2 σ = some (.inl r, σ2)) : CtH l E yL_bestAt cL_bestAt 5 [(0, 10, 13, 55), (0, 10, 17, 13)] 8 157 0 0 [.ref (E.2.1 0), .int a1, .int a2, .ref (E.2.1 92)] σ o 0 σ2 r.toInt64 := by
  refine enterH 1 [some (.ref (E.2.1 0)), some (.int a1), some (.int a2), some (.ref (E.2.1 92)), none] (by decide +kernel) rfl (Nat.le_of_ble_eq_true rfl) (fun K hnL hC hab _ hT hR => ?_)
  have hC : Cx E K RL cL_bestAt (some .int) 8 157 := hC
  refine g_aload_n (pc := 0) hC dL_bestAt_0 rfl ?_
  refine g_iconst (pc := 1) hC ki_0 dL_bestAt_1 ?_
  refine g_aload_n (pc := 2) hC dL_bestAt_2 rfl ?_
  refine g_iload_n (pc := 3) hC dL_bestAt_3 rfl ?_
  refine g_iload_n (pc := 4) hC dL_bestAt_4 rfl ?_
  refine g_callVi (pc := 5) (As := [.int a1, .int a2]) (rest := [.int 0, .ref (E.2.1 92)]) hC (c_X11_bestAt l E a1 a2 σ r σ2 h) mi_X11_bestAt mv_X11_bestAt ob_0 rfl rfl lk_L_66 rfl rfl (Nat.le_of_ble_eq_true rfl) ⟨by decide, by decide⟩ hab dL_bestAt_5 ?_
  refine g_i2l (pc := 8) hC dL_bestAt_8 ?_
  refine g_last (pc := 9) hC dL_bestAt_9 ?_
  refine g_goto (tgt := 21) (pc := 10) hC dL_bestAt_10 (by decide) ?_
  refine g_iconst (pc := 21) hC ki_0 dL_bestAt_21 ?_
  exact g_hret (pc := 22) hC hR dL_bestAt_22
set_option maxRecDepth 20000 in
theorem hx_bestAt_2 (l : Launch) (hl9 : l.stackTraces = false) (E : uE) (a1 : Int32) (a2 : Int32) (σ : uS) (o : Int64) (σ2 : uS) (h : F_X11_bestAt a1 a2 σ = some (.inr 2, σ2)) : CtH l E yL_bestAt cL_bestAt 5 [(0, 10, 13, 55), (0, 10, 17, 13)] 8 157 1 6 [.ref (E.2.1 0), .int a1, .int a2, .ref (E.2.1 92)] σ o 1 σ2 o := by
  refine enterH 1 [some (.ref (E.2.1 0)), some (.int a1), some (.int a2), some (.ref (E.2.1 92)), none] (by decide +kernel) rfl (Nat.le_of_ble_eq_true rfl) (fun K hnL hC hab h6 hT hR => ?_)
  have hC : Cx E K RL cL_bestAt (some .int) 8 157 := hC
  have hC9 : va_Nc "java/lang/IllegalArgumentException" "java/util/NoSuchElementException" K.1.2.2.2.1 ∧ va_Nc "java/util/NoSuchElementException" "java/lang/IllegalArgumentException" K.1.2.2.2.1 := Cx_nc hC
  refine g_aload_n (pc := 0) hC dL_bestAt_0 rfl ?_
  refine g_iconst (pc := 1) hC ki_0 dL_bestAt_1 ?_
  refine g_aload_n (pc := 2) hC dL_bestAt_2 rfl ?_
  refine g_iload_n (pc := 3) hC dL_bestAt_3 rfl ?_
  refine g_iload_n (pc := 4) hC dL_bestAt_4 rfl ?_
  refine g_hok (pc := 5) (As := [.int a1, .int a2]) (rest := [.int 0, .ref (E.2.1 92)]) hC (x_X11_bestAt l hl9 E a1 a2 σ 2 σ2 h) mi_X11_bestAt mv_X11_bestAt ob_0 rfl rfl lk_L_66 rfl rfl (Nat.le_of_ble_eq_true rfl) ⟨by decide, by decide⟩ h6 hT [] ⟨0, 10, 13, 55⟩ [⟨0, 10, 17, 13⟩] rfl (fun z hz9 => nomatch hz9) rfl (by decide) lx_55 (List.mem_of_getElem? (i := 1) rfl) dL_bestAt_5 (fun q9 => ?_)
  refine g_astore (lv2 := [some (.ref (E.2.1 0)), some (.int a1), some (.int a2), some (.ref (E.2.1 92)), some (.ref q9)]) (pc := 13) hC dL_bestAt_13 rfl (Or.inr rfl) (by rw [hnL]; decide) ?_
  refine g_iconst (pc := 15) hC ki_1 dL_bestAt_15 ?_
  exact g_hret (pc := 16) hC hR dL_bestAt_16
set_option maxRecDepth 20000 in
theorem hx_bestAt_1 (l : Launch) (hl9 : l.stackTraces = false) (E : uE) (a1 : Int32) (a2 : Int32) (σ : uS) (o : Int64) (σ2 : uS) (h : F_X11_bestAt a1 a2 σ = some (.inr 1, σ2)) : CtH l E yL_bestAt cL_bestAt 5 [(0, 10, 13, 55), (0, 10, 17, 13)] 8 157 1 6 [.ref (E.2.1 0), .int a1, .int a2, .ref (E.2.1 92)] σ o 2 σ2 o := by
  refine enterH 1 [some (.ref (E.2.1 0)), some (.int a1), some (.int a2), some (.ref (E.2.1 92)), none] (by decide +kernel) rfl (Nat.le_of_ble_eq_true rfl) (fun K hnL hC hab h6 hT hR => ?_)
  have hC : Cx E K RL cL_bestAt (some .int) 8 157 := hC
  have hC9 : va_Nc "java/lang/IllegalArgumentException" "java/util/NoSuchElementException" K.1.2.2.2.1 ∧ va_Nc "java/util/NoSuchElementException" "java/lang/IllegalArgumentException" K.1.2.2.2.1 := Cx_nc hC
  refine g_aload_n (pc := 0) hC dL_bestAt_0 rfl ?_
  refine g_iconst (pc := 1) hC ki_0 dL_bestAt_1 ?_
  refine g_aload_n (pc := 2) hC dL_bestAt_2 rfl ?_
  refine g_iload_n (pc := 3) hC dL_bestAt_3 rfl ?_
  refine g_iload_n (pc := 4) hC dL_bestAt_4 rfl ?_
  refine g_hok (pc := 5) (As := [.int a1, .int a2]) (rest := [.int 0, .ref (E.2.1 92)]) hC (x_X11_bestAt l hl9 E a1 a2 σ 1 σ2 h) mi_X11_bestAt mv_X11_bestAt ob_0 rfl rfl lk_L_66 rfl rfl (Nat.le_of_ble_eq_true rfl) ⟨by decide, by decide⟩ h6 hT [⟨0, 10, 13, 55⟩] ⟨0, 10, 17, 13⟩ [] rfl (fun z hz9 => by rcases List.mem_singleton.mp hz9 with rfl; exact ⟨by decide, "java/lang/IllegalArgumentException", lx_55, hC9.2⟩) rfl (by decide) lx_13 (List.mem_of_getElem? (i := 0) rfl) dL_bestAt_5 (fun q9 => ?_)
  refine g_astore (lv2 := [some (.ref (E.2.1 0)), some (.int a1), some (.int a2), some (.ref (E.2.1 92)), some (.ref q9)]) (pc := 17) hC dL_bestAt_17 rfl (Or.inr rfl) (by rw [hnL]; decide) ?_
  refine g_iconst (pc := 19) hC ki_2 dL_bestAt_19 ?_
  exact g_hret (pc := 20) hC hR dL_bestAt_20
set_option maxRecDepth 20000 in
theorem hr_would (l : Launch) (E : uE) (a1 : Int32) (a2 : Int32) (σ : uS) (o : Int64) (r : Int32) (σ2 : uS) (h : F_X11_would a1 a2 σ = some (.inl r, σ2)) : CtH l E yL_would cL_would 5 [(0, 10, 13, 55)] 8 138 0 0 [.ref (E.2.1 0), .int a1, .int a2, .ref (E.2.1 92)] σ o 0 σ2 r.toInt64 := by
  refine enterH 1 [some (.ref (E.2.1 0)), some (.int a1), some (.int a2), some (.ref (E.2.1 92)), none] (by decide +kernel) rfl (Nat.le_of_ble_eq_true rfl) (fun K hnL hC hab _ hT hR => ?_)
  have hC : Cx E K RL cL_would (some .int) 8 138 := hC
  refine g_aload_n (pc := 0) hC dL_would_0 rfl ?_
  refine g_iconst (pc := 1) hC ki_0 dL_would_1 ?_
  refine g_aload_n (pc := 2) hC dL_would_2 rfl ?_
  refine g_iload_n (pc := 3) hC dL_would_3 rfl ?_
  refine g_iload_n (pc := 4) hC dL_would_4 rfl ?_
  refine g_callVi (pc := 5) (As := [.int a1, .int a2]) (rest := [.int 0, .ref (E.2.1 92)]) hC (c_X11_would l E a1 a2 σ r σ2 h) mi_X11_would mv_X11_would ob_0 rfl rfl lk_L_69 rfl rfl (Nat.le_of_ble_eq_true rfl) ⟨by decide, by decide⟩ hab dL_would_5 ?_
  refine g_i2l (pc := 8) hC dL_would_8 ?_
  refine g_last (pc := 9) hC dL_would_9 ?_
  refine g_goto (tgt := 17) (pc := 10) hC dL_would_10 (by decide) ?_
  refine g_iconst (pc := 17) hC ki_0 dL_would_17 ?_
  exact g_hret (pc := 18) hC hR dL_would_18
set_option maxRecDepth 20000 in
theorem hx_would_2 (l : Launch) (hl9 : l.stackTraces = false) (E : uE) (a1 : Int32) (a2 : Int32) (σ : uS) (o : Int64) (σ2 : uS) (h : F_X11_would a1 a2 σ = some (.inr 2, σ2)) : CtH l E yL_would cL_would 5 [(0, 10, 13, 55)] 8 138 1 6 [.ref (E.2.1 0), .int a1, .int a2, .ref (E.2.1 92)] σ o 1 σ2 o := by
  refine enterH 1 [some (.ref (E.2.1 0)), some (.int a1), some (.int a2), some (.ref (E.2.1 92)), none] (by decide +kernel) rfl (Nat.le_of_ble_eq_true rfl) (fun K hnL hC hab h6 hT hR => ?_)
  have hC : Cx E K RL cL_would (some .int) 8 138 := hC
  have hC9 : va_Nc "java/lang/IllegalArgumentException" "java/util/NoSuchElementException" K.1.2.2.2.1 ∧ va_Nc "java/util/NoSuchElementException" "java/lang/IllegalArgumentException" K.1.2.2.2.1 := Cx_nc hC
  refine g_aload_n (pc := 0) hC dL_would_0 rfl ?_
  refine g_iconst (pc := 1) hC ki_0 dL_would_1 ?_
  refine g_aload_n (pc := 2) hC dL_would_2 rfl ?_
  refine g_iload_n (pc := 3) hC dL_would_3 rfl ?_
  refine g_iload_n (pc := 4) hC dL_would_4 rfl ?_
  refine g_hok (pc := 5) (As := [.int a1, .int a2]) (rest := [.int 0, .ref (E.2.1 92)]) hC (x_X11_would l hl9 E a1 a2 σ 2 σ2 h) mi_X11_would mv_X11_would ob_0 rfl rfl lk_L_69 rfl rfl (Nat.le_of_ble_eq_true rfl) ⟨by decide, by decide⟩ h6 hT [] ⟨0, 10, 13, 55⟩ [] rfl (fun z hz9 => nomatch hz9) rfl (by decide) lx_55 (List.mem_of_getElem? (i := 1) rfl) dL_would_5 (fun q9 => ?_)
  refine g_astore (lv2 := [some (.ref (E.2.1 0)), some (.int a1), some (.int a2), some (.ref (E.2.1 92)), some (.ref q9)]) (pc := 13) hC dL_would_13 rfl (Or.inr rfl) (by rw [hnL]; decide) ?_
  refine g_iconst (pc := 15) hC ki_1 dL_would_15 ?_
  exact g_hret (pc := 16) hC hR dL_would_16
set_option maxRecDepth 20000 in
theorem hr_span (l : Launch) (E : uE) (a1 : Int32) (a2 : Int32) (σ : uS) (o : Int64) (r : Int32) (σ2 : uS) (h : F_X11_span a1 a2 σ = some (.inl r, σ2)) : CtH l E yL_span cL_span 5 [(0, 10, 13, 13)] 8 156 0 0 [.ref (E.2.1 0), .int a1, .int a2, .ref (E.2.1 92)] σ o 0 σ2 r.toInt64 := by
  refine enterH 1 [some (.ref (E.2.1 0)), some (.int a1), some (.int a2), some (.ref (E.2.1 92)), none] (by decide +kernel) rfl (Nat.le_of_ble_eq_true rfl) (fun K hnL hC hab _ hT hR => ?_)
  have hC : Cx E K RL cL_span (some .int) 8 156 := hC
  refine g_aload_n (pc := 0) hC dL_span_0 rfl ?_
  refine g_iconst (pc := 1) hC ki_0 dL_span_1 ?_
  refine g_aload_n (pc := 2) hC dL_span_2 rfl ?_
  refine g_iload_n (pc := 3) hC dL_span_3 rfl ?_
  refine g_iload_n (pc := 4) hC dL_span_4 rfl ?_
  refine g_callVi (pc := 5) (As := [.int a1, .int a2]) (rest := [.int 0, .ref (E.2.1 92)]) hC (c_X11_span l E a1 a2 σ r σ2 h) mi_X11_span mv_X11_span ob_0 rfl rfl lk_L_72 rfl rfl (Nat.le_of_ble_eq_true rfl) ⟨by decide, by decide⟩ hab dL_span_5 ?_
  refine g_i2l (pc := 8) hC dL_span_8 ?_
  refine g_last (pc := 9) hC dL_span_9 ?_
  refine g_goto (tgt := 17) (pc := 10) hC dL_span_10 (by decide) ?_
  refine g_iconst (pc := 17) hC ki_0 dL_span_17 ?_
  exact g_hret (pc := 18) hC hR dL_span_18
set_option maxRecDepth 20000 in
theorem hx_span_1 (l : Launch) (hl9 : l.stackTraces = false) (E : uE) (a1 : Int32) (a2 : Int32) (σ : uS) (o : Int64) (σ2 : uS) (h : F_X11_span a1 a2 σ = some (.inr 1, σ2)) : CtH l E yL_span cL_span 5 [(0, 10, 13, 13)] 8 156 1 6 [.ref (E.2.1 0), .int a1, .int a2, .ref (E.2.1 92)] σ o 1 σ2 o := by
  refine enterH 1 [some (.ref (E.2.1 0)), some (.int a1), some (.int a2), some (.ref (E.2.1 92)), none] (by decide +kernel) rfl (Nat.le_of_ble_eq_true rfl) (fun K hnL hC hab h6 hT hR => ?_)
  have hC : Cx E K RL cL_span (some .int) 8 156 := hC
  have hC9 : va_Nc "java/lang/IllegalArgumentException" "java/util/NoSuchElementException" K.1.2.2.2.1 ∧ va_Nc "java/util/NoSuchElementException" "java/lang/IllegalArgumentException" K.1.2.2.2.1 := Cx_nc hC
  refine g_aload_n (pc := 0) hC dL_span_0 rfl ?_
  refine g_iconst (pc := 1) hC ki_0 dL_span_1 ?_
  refine g_aload_n (pc := 2) hC dL_span_2 rfl ?_
  refine g_iload_n (pc := 3) hC dL_span_3 rfl ?_
  refine g_iload_n (pc := 4) hC dL_span_4 rfl ?_
  refine g_hok (pc := 5) (As := [.int a1, .int a2]) (rest := [.int 0, .ref (E.2.1 92)]) hC (x_X11_span l hl9 E a1 a2 σ 1 σ2 h) mi_X11_span mv_X11_span ob_0 rfl rfl lk_L_72 rfl rfl (Nat.le_of_ble_eq_true rfl) ⟨by decide, by decide⟩ h6 hT [] ⟨0, 10, 13, 13⟩ [] rfl (fun z hz9 => nomatch hz9) rfl (by decide) lx_13 (List.mem_of_getElem? (i := 0) rfl) dL_span_5 (fun q9 => ?_)
  refine g_astore (lv2 := [some (.ref (E.2.1 0)), some (.int a1), some (.int a2), some (.ref (E.2.1 92)), some (.ref q9)]) (pc := 13) hC dL_span_13 rfl (Or.inr rfl) (by rw [hnL]; decide) ?_
  refine g_iconst (pc := 15) hC ki_1 dL_span_15 ?_
  exact g_hret (pc := 16) hC hR dL_span_16
set_option maxRecDepth 20000 in
theorem hr_note (l : Launch) (E : uE) (a1 : Int32) (a2 : Int32) (σ : uS) (o : Int64) (r : Int32) (σ2 : uS) (h : F_X11_note a1 a2 σ = some (.inl r, σ2)) : CtH l E yL_note cL_note 5 [(0, 10, 13, 13)] 8 136 0 0 [.ref (E.2.1 0), .int a1, .int a2, .ref (E.2.1 92)] σ o 0 σ2 r.toInt64 := by
  refine enterH 1 [some (.ref (E.2.1 0)), some (.int a1), some (.int a2), some (.ref (E.2.1 92)), none] (by decide +kernel) rfl (Nat.le_of_ble_eq_true rfl) (fun K hnL hC hab _ hT hR => ?_)
  have hC : Cx E K RL cL_note (some .int) 8 136 := hC
  refine g_aload_n (pc := 0) hC dL_note_0 rfl ?_
  refine g_iconst (pc := 1) hC ki_0 dL_note_1 ?_
  refine g_aload_n (pc := 2) hC dL_note_2 rfl ?_
  refine g_iload_n (pc := 3) hC dL_note_3 rfl ?_
  refine g_iload_n (pc := 4) hC dL_note_4 rfl ?_
  refine g_callVi (pc := 5) (As := [.int a1, .int a2]) (rest := [.int 0, .ref (E.2.1 92)]) hC (c_X11_note l E a1 a2 σ r σ2 h) mi_X11_note mv_X11_note ob_0 rfl rfl lk_L_75 rfl rfl (Nat.le_of_ble_eq_true rfl) ⟨by decide, by decide⟩ hab dL_note_5 ?_
  refine g_i2l (pc := 8) hC dL_note_8 ?_
  refine g_last (pc := 9) hC dL_note_9 ?_
  refine g_goto (tgt := 17) (pc := 10) hC dL_note_10 (by decide) ?_
  refine g_iconst (pc := 17) hC ki_0 dL_note_17 ?_
  exact g_hret (pc := 18) hC hR dL_note_18
set_option maxRecDepth 20000 in
theorem hx_note_1 (l : Launch) (hl9 : l.stackTraces = false) (E : uE) (a1 : Int32) (a2 : Int32) (σ : uS) (o : Int64) (σ2 : uS) (h : F_X11_note a1 a2 σ = some (.inr 1, σ2)) : CtH l E yL_note cL_note 5 [(0, 10, 13, 13)] 8 136 1 6 [.ref (E.2.1 0), .int a1, .int a2, .ref (E.2.1 92)] σ o 1 σ2 o := by
  refine enterH 1 [some (.ref (E.2.1 0)), some (.int a1), some (.int a2), some (.ref (E.2.1 92)), none] (by decide +kernel) rfl (Nat.le_of_ble_eq_true rfl) (fun K hnL hC hab h6 hT hR => ?_)
  have hC : Cx E K RL cL_note (some .int) 8 136 := hC
  have hC9 : va_Nc "java/lang/IllegalArgumentException" "java/util/NoSuchElementException" K.1.2.2.2.1 ∧ va_Nc "java/util/NoSuchElementException" "java/lang/IllegalArgumentException" K.1.2.2.2.1 := Cx_nc hC
  refine g_aload_n (pc := 0) hC dL_note_0 rfl ?_
  refine g_iconst (pc := 1) hC ki_0 dL_note_1 ?_
  refine g_aload_n (pc := 2) hC dL_note_2 rfl ?_
  refine g_iload_n (pc := 3) hC dL_note_3 rfl ?_
  refine g_iload_n (pc := 4) hC dL_note_4 rfl ?_
  refine g_hok (pc := 5) (As := [.int a1, .int a2]) (rest := [.int 0, .ref (E.2.1 92)]) hC (x_X11_note l hl9 E a1 a2 σ 1 σ2 h) mi_X11_note mv_X11_note ob_0 rfl rfl lk_L_75 rfl rfl (Nat.le_of_ble_eq_true rfl) ⟨by decide, by decide⟩ h6 hT [] ⟨0, 10, 13, 13⟩ [] rfl (fun z hz9 => nomatch hz9) rfl (by decide) lx_13 (List.mem_of_getElem? (i := 0) rfl) dL_note_5 (fun q9 => ?_)
  refine g_astore (lv2 := [some (.ref (E.2.1 0)), some (.int a1), some (.int a2), some (.ref (E.2.1 92)), some (.ref q9)]) (pc := 13) hC dL_note_13 rfl (Or.inr rfl) (by rw [hnL]; decide) ?_
  refine g_iconst (pc := 15) hC ki_1 dL_note_15 ?_
  exact g_hret (pc := 16) hC hR dL_note_16
set_option maxRecDepth 20000 in
theorem hr_steady (l : Launch) (E : uE) (a1 : Int32) (σ : uS) (o : Int64) (r : Int32) (σ2 : uS) (h : F_X11_steady a1 σ = some (.inl r, σ2)) : CtH l E yL_steady cL_steady 4 [(0, 9, 12, 13)] 8 135 0 0 [.ref (E.2.1 0), .int a1, .ref (E.2.1 92)] σ o 0 σ2 r.toInt64 := by
  refine enterH 1 [some (.ref (E.2.1 0)), some (.int a1), some (.ref (E.2.1 92)), none] (by decide +kernel) rfl (Nat.le_of_ble_eq_true rfl) (fun K hnL hC hab _ hT hR => ?_)
  have hC : Cx E K RL cL_steady (some .int) 8 135 := hC
  refine g_aload_n (pc := 0) hC dL_steady_0 rfl ?_
  refine g_iconst (pc := 1) hC ki_0 dL_steady_1 ?_
  refine g_aload_n (pc := 2) hC dL_steady_2 rfl ?_
  refine g_iload_n (pc := 3) hC dL_steady_3 rfl ?_
  refine g_callVi (pc := 4) (As := [.int a1]) (rest := [.int 0, .ref (E.2.1 92)]) hC (c_X11_steady l E a1 σ r σ2 h) mi_X11_steady mv_X11_steady ob_0 rfl rfl lk_L_78 rfl rfl (Nat.le_of_ble_eq_true rfl) ⟨by decide, by decide⟩ hab dL_steady_4 ?_
  refine g_i2l (pc := 7) hC dL_steady_7 ?_
  refine g_last (pc := 8) hC dL_steady_8 ?_
  refine g_goto (tgt := 15) (pc := 9) hC dL_steady_9 (by decide) ?_
  refine g_iconst (pc := 15) hC ki_0 dL_steady_15 ?_
  exact g_hret (pc := 16) hC hR dL_steady_16
set_option maxRecDepth 20000 in
theorem hx_steady_1 (l : Launch) (hl9 : l.stackTraces = false) (E : uE) (a1 : Int32) (σ : uS) (o : Int64) (σ2 : uS) (h : F_X11_steady a1 σ = some (.inr 1, σ2)) : CtH l E yL_steady cL_steady 4 [(0, 9, 12, 13)] 8 135 1 6 [.ref (E.2.1 0), .int a1, .ref (E.2.1 92)] σ o 1 σ2 o := by
  refine enterH 1 [some (.ref (E.2.1 0)), some (.int a1), some (.ref (E.2.1 92)), none] (by decide +kernel) rfl (Nat.le_of_ble_eq_true rfl) (fun K hnL hC hab h6 hT hR => ?_)
  have hC : Cx E K RL cL_steady (some .int) 8 135 := hC
  have hC9 : va_Nc "java/lang/IllegalArgumentException" "java/util/NoSuchElementException" K.1.2.2.2.1 ∧ va_Nc "java/util/NoSuchElementException" "java/lang/IllegalArgumentException" K.1.2.2.2.1 := Cx_nc hC
  refine g_aload_n (pc := 0) hC dL_steady_0 rfl ?_
  refine g_iconst (pc := 1) hC ki_0 dL_steady_1 ?_
  refine g_aload_n (pc := 2) hC dL_steady_2 rfl ?_
  refine g_iload_n (pc := 3) hC dL_steady_3 rfl ?_
  refine g_hok (pc := 4) (As := [.int a1]) (rest := [.int 0, .ref (E.2.1 92)]) hC (x_X11_steady l hl9 E a1 σ 1 σ2 h) mi_X11_steady mv_X11_steady ob_0 rfl rfl lk_L_78 rfl rfl (Nat.le_of_ble_eq_true rfl) ⟨by decide, by decide⟩ h6 hT [] ⟨0, 9, 12, 13⟩ [] rfl (fun z hz9 => nomatch hz9) rfl (by decide) lx_13 (List.mem_of_getElem? (i := 0) rfl) dL_steady_4 (fun q9 => ?_)
  refine g_astore_n (lv2 := [some (.ref (E.2.1 0)), some (.int a1), some (.ref (E.2.1 92)), some (.ref q9)]) (pc := 12) hC dL_steady_12 rfl (Or.inr rfl) (by rw [hnL]; decide) ?_
  refine g_iconst (pc := 13) hC ki_1 dL_steady_13 ?_
  exact g_hret (pc := 14) hC hR dL_steady_14
set_option maxRecDepth 20000 in
theorem hr_lagAt (l : Launch) (E : uE) (a1 : Int32) (a2 : Int32) (σ : uS) (o : Int64) (r : Int32) (σ2 : uS) (h : F_X11_lagAt a1 a2 σ = some (.inl r, σ2)) : CtH l E yL_lagAt cL_lagAt 5 [(0, 10, 13, 13)] 8 137 0 0 [.ref (E.2.1 0), .int a1, .int a2, .ref (E.2.1 92)] σ o 0 σ2 r.toInt64 := by
  refine enterH 1 [some (.ref (E.2.1 0)), some (.int a1), some (.int a2), some (.ref (E.2.1 92)), none] (by decide +kernel) rfl (Nat.le_of_ble_eq_true rfl) (fun K hnL hC hab _ hT hR => ?_)
  have hC : Cx E K RL cL_lagAt (some .int) 8 137 := hC
  refine g_aload_n (pc := 0) hC dL_lagAt_0 rfl ?_
  refine g_iconst (pc := 1) hC ki_0 dL_lagAt_1 ?_
  refine g_aload_n (pc := 2) hC dL_lagAt_2 rfl ?_
  refine g_iload_n (pc := 3) hC dL_lagAt_3 rfl ?_
  refine g_iload_n (pc := 4) hC dL_lagAt_4 rfl ?_
  refine g_callVi (pc := 5) (As := [.int a1, .int a2]) (rest := [.int 0, .ref (E.2.1 92)]) hC (c_X11_lagAt l E a1 a2 σ r σ2 h) mi_X11_lagAt mv_X11_lagAt ob_0 rfl rfl lk_L_81 rfl rfl (Nat.le_of_ble_eq_true rfl) ⟨by decide, by decide⟩ hab dL_lagAt_5 ?_
  refine g_i2l (pc := 8) hC dL_lagAt_8 ?_
  refine g_last (pc := 9) hC dL_lagAt_9 ?_
  refine g_goto (tgt := 17) (pc := 10) hC dL_lagAt_10 (by decide) ?_
  refine g_iconst (pc := 17) hC ki_0 dL_lagAt_17 ?_
  exact g_hret (pc := 18) hC hR dL_lagAt_18
set_option maxRecDepth 20000 in
theorem hx_lagAt_1 (l : Launch) (hl9 : l.stackTraces = false) (E : uE) (a1 : Int32) (a2 : Int32) (σ : uS) (o : Int64) (σ2 : uS) (h : F_X11_lagAt a1 a2 σ = some (.inr 1, σ2)) : CtH l E yL_lagAt cL_lagAt 5 [(0, 10, 13, 13)] 8 137 1 6 [.ref (E.2.1 0), .int a1, .int a2, .ref (E.2.1 92)] σ o 1 σ2 o := by
  refine enterH 1 [some (.ref (E.2.1 0)), some (.int a1), some (.int a2), some (.ref (E.2.1 92)), none] (by decide +kernel) rfl (Nat.le_of_ble_eq_true rfl) (fun K hnL hC hab h6 hT hR => ?_)
  have hC : Cx E K RL cL_lagAt (some .int) 8 137 := hC
  have hC9 : va_Nc "java/lang/IllegalArgumentException" "java/util/NoSuchElementException" K.1.2.2.2.1 ∧ va_Nc "java/util/NoSuchElementException" "java/lang/IllegalArgumentException" K.1.2.2.2.1 := Cx_nc hC
  refine g_aload_n (pc := 0) hC dL_lagAt_0 rfl ?_
  refine g_iconst (pc := 1) hC ki_0 dL_lagAt_1 ?_
  refine g_aload_n (pc := 2) hC dL_lagAt_2 rfl ?_
  refine g_iload_n (pc := 3) hC dL_lagAt_3 rfl ?_
  refine g_iload_n (pc := 4) hC dL_lagAt_4 rfl ?_
  refine g_hok (pc := 5) (As := [.int a1, .int a2]) (rest := [.int 0, .ref (E.2.1 92)]) hC (x_X11_lagAt l hl9 E a1 a2 σ 1 σ2 h) mi_X11_lagAt mv_X11_lagAt ob_0 rfl rfl lk_L_81 rfl rfl (Nat.le_of_ble_eq_true rfl) ⟨by decide, by decide⟩ h6 hT [] ⟨0, 10, 13, 13⟩ [] rfl (fun z hz9 => nomatch hz9) rfl (by decide) lx_13 (List.mem_of_getElem? (i := 0) rfl) dL_lagAt_5 (fun q9 => ?_)
  refine g_astore (lv2 := [some (.ref (E.2.1 0)), some (.int a1), some (.int a2), some (.ref (E.2.1 92)), some (.ref q9)]) (pc := 13) hC dL_lagAt_13 rfl (Or.inr rfl) (by rw [hnL]; decide) ?_
  refine g_iconst (pc := 15) hC ki_1 dL_lagAt_15 ?_
  exact g_hret (pc := 16) hC hR dL_lagAt_16
set_option maxRecDepth 20000 in
theorem hr_common (l : Launch) (E : uE) (a1 : Int32) (σ : uS) (o : Int64) (r : Int32) (σ2 : uS) (h : F_X11_common a1 σ = some (.inl r, σ2)) : CtH l E yL_common cL_common 4 [(0, 9, 12, 13)] 8 135 0 0 [.ref (E.2.1 0), .int a1, .ref (E.2.1 92)] σ o 0 σ2 r.toInt64 := by
  refine enterH 1 [some (.ref (E.2.1 0)), some (.int a1), some (.ref (E.2.1 92)), none] (by decide +kernel) rfl (Nat.le_of_ble_eq_true rfl) (fun K hnL hC hab _ hT hR => ?_)
  have hC : Cx E K RL cL_common (some .int) 8 135 := hC
  refine g_aload_n (pc := 0) hC dL_common_0 rfl ?_
  refine g_iconst (pc := 1) hC ki_0 dL_common_1 ?_
  refine g_aload_n (pc := 2) hC dL_common_2 rfl ?_
  refine g_iload_n (pc := 3) hC dL_common_3 rfl ?_
  refine g_callVi (pc := 4) (As := [.int a1]) (rest := [.int 0, .ref (E.2.1 92)]) hC (c_X11_common l E a1 σ r σ2 h) mi_X11_common mv_X11_common ob_0 rfl rfl lk_L_84 rfl rfl (Nat.le_of_ble_eq_true rfl) ⟨by decide, by decide⟩ hab dL_common_4 ?_
  refine g_i2l (pc := 7) hC dL_common_7 ?_
  refine g_last (pc := 8) hC dL_common_8 ?_
  refine g_goto (tgt := 15) (pc := 9) hC dL_common_9 (by decide) ?_
  refine g_iconst (pc := 15) hC ki_0 dL_common_15 ?_
  exact g_hret (pc := 16) hC hR dL_common_16
set_option maxRecDepth 20000 in
theorem hx_common_1 (l : Launch) (hl9 : l.stackTraces = false) (E : uE) (a1 : Int32) (σ : uS) (o : Int64) (σ2 : uS) (h : F_X11_common a1 σ = some (.inr 1, σ2)) : CtH l E yL_common cL_common 4 [(0, 9, 12, 13)] 8 135 1 6 [.ref (E.2.1 0), .int a1, .ref (E.2.1 92)] σ o 1 σ2 o := by
  refine enterH 1 [some (.ref (E.2.1 0)), some (.int a1), some (.ref (E.2.1 92)), none] (by decide +kernel) rfl (Nat.le_of_ble_eq_true rfl) (fun K hnL hC hab h6 hT hR => ?_)
  have hC : Cx E K RL cL_common (some .int) 8 135 := hC
  have hC9 : va_Nc "java/lang/IllegalArgumentException" "java/util/NoSuchElementException" K.1.2.2.2.1 ∧ va_Nc "java/util/NoSuchElementException" "java/lang/IllegalArgumentException" K.1.2.2.2.1 := Cx_nc hC
  refine g_aload_n (pc := 0) hC dL_common_0 rfl ?_
  refine g_iconst (pc := 1) hC ki_0 dL_common_1 ?_
  refine g_aload_n (pc := 2) hC dL_common_2 rfl ?_
  refine g_iload_n (pc := 3) hC dL_common_3 rfl ?_
  refine g_hok (pc := 4) (As := [.int a1]) (rest := [.int 0, .ref (E.2.1 92)]) hC (x_X11_common l hl9 E a1 σ 1 σ2 h) mi_X11_common mv_X11_common ob_0 rfl rfl lk_L_84 rfl rfl (Nat.le_of_ble_eq_true rfl) ⟨by decide, by decide⟩ h6 hT [] ⟨0, 9, 12, 13⟩ [] rfl (fun z hz9 => nomatch hz9) rfl (by decide) lx_13 (List.mem_of_getElem? (i := 0) rfl) dL_common_4 (fun q9 => ?_)
  refine g_astore_n (lv2 := [some (.ref (E.2.1 0)), some (.int a1), some (.ref (E.2.1 92)), some (.ref q9)]) (pc := 12) hC dL_common_12 rfl (Or.inr rfl) (by rw [hnL]; decide) ?_
  refine g_iconst (pc := 13) hC ki_1 dL_common_13 ?_
  exact g_hret (pc := 14) hC hR dL_common_14
set_option maxRecDepth 20000 in
theorem hr_match (l : Launch) (E : uE) (a1 : Int32) (σ : uS) (o : Int64) (r : Int32) (σ2 : uS) (h : F_X11_match a1 σ = some (.inl r, σ2)) : CtH l E yL_match cL_match 4 [(0, 9, 12, 13)] 8 135 0 0 [.ref (E.2.1 0), .int a1, .ref (E.2.1 92)] σ o 0 σ2 r.toInt64 := by
  refine enterH 1 [some (.ref (E.2.1 0)), some (.int a1), some (.ref (E.2.1 92)), none] (by decide +kernel) rfl (Nat.le_of_ble_eq_true rfl) (fun K hnL hC hab _ hT hR => ?_)
  have hC : Cx E K RL cL_match (some .int) 8 135 := hC
  refine g_aload_n (pc := 0) hC dL_match_0 rfl ?_
  refine g_iconst (pc := 1) hC ki_0 dL_match_1 ?_
  refine g_aload_n (pc := 2) hC dL_match_2 rfl ?_
  refine g_iload_n (pc := 3) hC dL_match_3 rfl ?_
  refine g_callVi (pc := 4) (As := [.int a1]) (rest := [.int 0, .ref (E.2.1 92)]) hC (c_X11_match l E a1 σ r σ2 h) mi_X11_match mv_X11_match ob_0 rfl rfl lk_L_87 rfl rfl (Nat.le_of_ble_eq_true rfl) ⟨by decide, by decide⟩ hab dL_match_4 ?_
  refine g_i2l (pc := 7) hC dL_match_7 ?_
  refine g_last (pc := 8) hC dL_match_8 ?_
  refine g_goto (tgt := 15) (pc := 9) hC dL_match_9 (by decide) ?_
  refine g_iconst (pc := 15) hC ki_0 dL_match_15 ?_
  exact g_hret (pc := 16) hC hR dL_match_16
set_option maxRecDepth 20000 in
theorem hx_match_1 (l : Launch) (hl9 : l.stackTraces = false) (E : uE) (a1 : Int32) (σ : uS) (o : Int64) (σ2 : uS) (h : F_X11_match a1 σ = some (.inr 1, σ2)) : CtH l E yL_match cL_match 4 [(0, 9, 12, 13)] 8 135 1 6 [.ref (E.2.1 0), .int a1, .ref (E.2.1 92)] σ o 1 σ2 o := by
  refine enterH 1 [some (.ref (E.2.1 0)), some (.int a1), some (.ref (E.2.1 92)), none] (by decide +kernel) rfl (Nat.le_of_ble_eq_true rfl) (fun K hnL hC hab h6 hT hR => ?_)
  have hC : Cx E K RL cL_match (some .int) 8 135 := hC
  have hC9 : va_Nc "java/lang/IllegalArgumentException" "java/util/NoSuchElementException" K.1.2.2.2.1 ∧ va_Nc "java/util/NoSuchElementException" "java/lang/IllegalArgumentException" K.1.2.2.2.1 := Cx_nc hC
  refine g_aload_n (pc := 0) hC dL_match_0 rfl ?_
  refine g_iconst (pc := 1) hC ki_0 dL_match_1 ?_
  refine g_aload_n (pc := 2) hC dL_match_2 rfl ?_
  refine g_iload_n (pc := 3) hC dL_match_3 rfl ?_
  refine g_hok (pc := 4) (As := [.int a1]) (rest := [.int 0, .ref (E.2.1 92)]) hC (x_X11_match l hl9 E a1 σ 1 σ2 h) mi_X11_match mv_X11_match ob_0 rfl rfl lk_L_87 rfl rfl (Nat.le_of_ble_eq_true rfl) ⟨by decide, by decide⟩ h6 hT [] ⟨0, 9, 12, 13⟩ [] rfl (fun z hz9 => nomatch hz9) rfl (by decide) lx_13 (List.mem_of_getElem? (i := 0) rfl) dL_match_4 (fun q9 => ?_)
  refine g_astore_n (lv2 := [some (.ref (E.2.1 0)), some (.int a1), some (.ref (E.2.1 92)), some (.ref q9)]) (pc := 12) hC dL_match_12 rfl (Or.inr rfl) (by rw [hnL]; decide) ?_
  refine g_iconst (pc := 13) hC ki_1 dL_match_13 ?_
  exact g_hret (pc := 14) hC hR dL_match_14
set_option maxRecDepth 20000 in
theorem hr_matched (l : Launch) (E : uE) (a1 : Int32) (σ : uS) (o : Int64) (r : Int32) (σ2 : uS) (h : F_X11_matched a1 σ = some (.inl r, σ2)) : CtH l E yL_matched cL_matched 4 [(0, 9, 12, 13)] 8 135 0 0 [.ref (E.2.1 0), .int a1, .ref (E.2.1 92)] σ o 0 σ2 r.toInt64 := by
  refine enterH 1 [some (.ref (E.2.1 0)), some (.int a1), some (.ref (E.2.1 92)), none] (by decide +kernel) rfl (Nat.le_of_ble_eq_true rfl) (fun K hnL hC hab _ hT hR => ?_)
  have hC : Cx E K RL cL_matched (some .int) 8 135 := hC
  refine g_aload_n (pc := 0) hC dL_matched_0 rfl ?_
  refine g_iconst (pc := 1) hC ki_0 dL_matched_1 ?_
  refine g_aload_n (pc := 2) hC dL_matched_2 rfl ?_
  refine g_iload_n (pc := 3) hC dL_matched_3 rfl ?_
  refine g_callVi (pc := 4) (As := [.int a1]) (rest := [.int 0, .ref (E.2.1 92)]) hC (c_X11_matched l E a1 σ r σ2 h) mi_X11_matched mv_X11_matched ob_0 rfl rfl lk_L_90 rfl rfl (Nat.le_of_ble_eq_true rfl) ⟨by decide, by decide⟩ hab dL_matched_4 ?_
  refine g_i2l (pc := 7) hC dL_matched_7 ?_
  refine g_last (pc := 8) hC dL_matched_8 ?_
  refine g_goto (tgt := 15) (pc := 9) hC dL_matched_9 (by decide) ?_
  refine g_iconst (pc := 15) hC ki_0 dL_matched_15 ?_
  exact g_hret (pc := 16) hC hR dL_matched_16
set_option maxRecDepth 20000 in
theorem hx_matched_1 (l : Launch) (hl9 : l.stackTraces = false) (E : uE) (a1 : Int32) (σ : uS) (o : Int64) (σ2 : uS) (h : F_X11_matched a1 σ = some (.inr 1, σ2)) : CtH l E yL_matched cL_matched 4 [(0, 9, 12, 13)] 8 135 1 6 [.ref (E.2.1 0), .int a1, .ref (E.2.1 92)] σ o 1 σ2 o := by
  refine enterH 1 [some (.ref (E.2.1 0)), some (.int a1), some (.ref (E.2.1 92)), none] (by decide +kernel) rfl (Nat.le_of_ble_eq_true rfl) (fun K hnL hC hab h6 hT hR => ?_)
  have hC : Cx E K RL cL_matched (some .int) 8 135 := hC
  have hC9 : va_Nc "java/lang/IllegalArgumentException" "java/util/NoSuchElementException" K.1.2.2.2.1 ∧ va_Nc "java/util/NoSuchElementException" "java/lang/IllegalArgumentException" K.1.2.2.2.1 := Cx_nc hC
  refine g_aload_n (pc := 0) hC dL_matched_0 rfl ?_
  refine g_iconst (pc := 1) hC ki_0 dL_matched_1 ?_
  refine g_aload_n (pc := 2) hC dL_matched_2 rfl ?_
  refine g_iload_n (pc := 3) hC dL_matched_3 rfl ?_
  refine g_hok (pc := 4) (As := [.int a1]) (rest := [.int 0, .ref (E.2.1 92)]) hC (x_X11_matched l hl9 E a1 σ 1 σ2 h) mi_X11_matched mv_X11_matched ob_0 rfl rfl lk_L_90 rfl rfl (Nat.le_of_ble_eq_true rfl) ⟨by decide, by decide⟩ h6 hT [] ⟨0, 9, 12, 13⟩ [] rfl (fun z hz9 => nomatch hz9) rfl (by decide) lx_13 (List.mem_of_getElem? (i := 0) rfl) dL_matched_4 (fun q9 => ?_)
  refine g_astore_n (lv2 := [some (.ref (E.2.1 0)), some (.int a1), some (.ref (E.2.1 92)), some (.ref q9)]) (pc := 12) hC dL_matched_12 rfl (Or.inr rfl) (by rw [hnL]; decide) ?_
  refine g_iconst (pc := 13) hC ki_1 dL_matched_13 ?_
  exact g_hret (pc := 14) hC hR dL_matched_14
set_option maxRecDepth 20000 in
theorem hr_mark (l : Launch) (E : uE) (a1 : Int32) (σ : uS) (o : Int64) (r : Int32) (σ2 : uS) (h : F_X11_mark a1 σ = some (.inl r, σ2)) : CtH l E yL_mark cL_mark 4 [(0, 9, 12, 13)] 8 155 0 0 [.ref (E.2.1 0), .int a1, .ref (E.2.1 92)] σ o 0 σ2 r.toInt64 := by
  refine enterH 1 [some (.ref (E.2.1 0)), some (.int a1), some (.ref (E.2.1 92)), none] (by decide +kernel) rfl (Nat.le_of_ble_eq_true rfl) (fun K hnL hC hab _ hT hR => ?_)
  have hC : Cx E K RL cL_mark (some .int) 8 155 := hC
  refine g_aload_n (pc := 0) hC dL_mark_0 rfl ?_
  refine g_iconst (pc := 1) hC ki_0 dL_mark_1 ?_
  refine g_aload_n (pc := 2) hC dL_mark_2 rfl ?_
  refine g_iload_n (pc := 3) hC dL_mark_3 rfl ?_
  refine g_callVi (pc := 4) (As := [.int a1]) (rest := [.int 0, .ref (E.2.1 92)]) hC (c_X11_mark l E a1 σ r σ2 h) mi_X11_mark mv_X11_mark ob_0 rfl rfl lk_L_93 rfl rfl (Nat.le_of_ble_eq_true rfl) ⟨by decide, by decide⟩ hab dL_mark_4 ?_
  refine g_i2l (pc := 7) hC dL_mark_7 ?_
  refine g_last (pc := 8) hC dL_mark_8 ?_
  refine g_goto (tgt := 15) (pc := 9) hC dL_mark_9 (by decide) ?_
  refine g_iconst (pc := 15) hC ki_0 dL_mark_15 ?_
  exact g_hret (pc := 16) hC hR dL_mark_16
set_option maxRecDepth 20000 in
theorem hx_mark_1 (l : Launch) (hl9 : l.stackTraces = false) (E : uE) (a1 : Int32) (σ : uS) (o : Int64) (σ2 : uS) (h : F_X11_mark a1 σ = some (.inr 1, σ2)) : CtH l E yL_mark cL_mark 4 [(0, 9, 12, 13)] 8 155 1 6 [.ref (E.2.1 0), .int a1, .ref (E.2.1 92)] σ o 1 σ2 o := by
  refine enterH 1 [some (.ref (E.2.1 0)), some (.int a1), some (.ref (E.2.1 92)), none] (by decide +kernel) rfl (Nat.le_of_ble_eq_true rfl) (fun K hnL hC hab h6 hT hR => ?_)
  have hC : Cx E K RL cL_mark (some .int) 8 155 := hC
  have hC9 : va_Nc "java/lang/IllegalArgumentException" "java/util/NoSuchElementException" K.1.2.2.2.1 ∧ va_Nc "java/util/NoSuchElementException" "java/lang/IllegalArgumentException" K.1.2.2.2.1 := Cx_nc hC
  refine g_aload_n (pc := 0) hC dL_mark_0 rfl ?_
  refine g_iconst (pc := 1) hC ki_0 dL_mark_1 ?_
  refine g_aload_n (pc := 2) hC dL_mark_2 rfl ?_
  refine g_iload_n (pc := 3) hC dL_mark_3 rfl ?_
  refine g_hok (pc := 4) (As := [.int a1]) (rest := [.int 0, .ref (E.2.1 92)]) hC (x_X11_mark l hl9 E a1 σ 1 σ2 h) mi_X11_mark mv_X11_mark ob_0 rfl rfl lk_L_93 rfl rfl (Nat.le_of_ble_eq_true rfl) ⟨by decide, by decide⟩ h6 hT [] ⟨0, 9, 12, 13⟩ [] rfl (fun z hz9 => nomatch hz9) rfl (by decide) lx_13 (List.mem_of_getElem? (i := 0) rfl) dL_mark_4 (fun q9 => ?_)
  refine g_astore_n (lv2 := [some (.ref (E.2.1 0)), some (.int a1), some (.ref (E.2.1 92)), some (.ref q9)]) (pc := 12) hC dL_mark_12 rfl (Or.inr rfl) (by rw [hnL]; decide) ?_
  refine g_iconst (pc := 13) hC ki_1 dL_mark_13 ?_
  exact g_hret (pc := 14) hC hR dL_mark_14
set_option maxRecDepth 20000 in
theorem hr_gaps (l : Launch) (E : uE) (a1 : Int32) (σ : uS) (o : Int64) (r : Int32) (σ2 : uS) (h : F_X11_gaps a1 σ = some (.inl r, σ2)) : CtH l E yL_gaps cL_gaps 4 [(0, 9, 12, 13)] 8 155 0 0 [.ref (E.2.1 0), .int a1, .ref (E.2.1 92)] σ o 0 σ2 r.toInt64 := by
  refine enterH 1 [some (.ref (E.2.1 0)), some (.int a1), some (.ref (E.2.1 92)), none] (by decide +kernel) rfl (Nat.le_of_ble_eq_true rfl) (fun K hnL hC hab _ hT hR => ?_)
  have hC : Cx E K RL cL_gaps (some .int) 8 155 := hC
  refine g_aload_n (pc := 0) hC dL_gaps_0 rfl ?_
  refine g_iconst (pc := 1) hC ki_0 dL_gaps_1 ?_
  refine g_aload_n (pc := 2) hC dL_gaps_2 rfl ?_
  refine g_iload_n (pc := 3) hC dL_gaps_3 rfl ?_
  refine g_callVi (pc := 4) (As := [.int a1]) (rest := [.int 0, .ref (E.2.1 92)]) hC (c_X11_gaps l E a1 σ r σ2 h) mi_X11_gaps mv_X11_gaps ob_0 rfl rfl lk_L_96 rfl rfl (Nat.le_of_ble_eq_true rfl) ⟨by decide, by decide⟩ hab dL_gaps_4 ?_
  refine g_i2l (pc := 7) hC dL_gaps_7 ?_
  refine g_last (pc := 8) hC dL_gaps_8 ?_
  refine g_goto (tgt := 15) (pc := 9) hC dL_gaps_9 (by decide) ?_
  refine g_iconst (pc := 15) hC ki_0 dL_gaps_15 ?_
  exact g_hret (pc := 16) hC hR dL_gaps_16
set_option maxRecDepth 20000 in
theorem hx_gaps_1 (l : Launch) (hl9 : l.stackTraces = false) (E : uE) (a1 : Int32) (σ : uS) (o : Int64) (σ2 : uS) (h : F_X11_gaps a1 σ = some (.inr 1, σ2)) : CtH l E yL_gaps cL_gaps 4 [(0, 9, 12, 13)] 8 155 1 6 [.ref (E.2.1 0), .int a1, .ref (E.2.1 92)] σ o 1 σ2 o := by
  refine enterH 1 [some (.ref (E.2.1 0)), some (.int a1), some (.ref (E.2.1 92)), none] (by decide +kernel) rfl (Nat.le_of_ble_eq_true rfl) (fun K hnL hC hab h6 hT hR => ?_)
  have hC : Cx E K RL cL_gaps (some .int) 8 155 := hC
  have hC9 : va_Nc "java/lang/IllegalArgumentException" "java/util/NoSuchElementException" K.1.2.2.2.1 ∧ va_Nc "java/util/NoSuchElementException" "java/lang/IllegalArgumentException" K.1.2.2.2.1 := Cx_nc hC
  refine g_aload_n (pc := 0) hC dL_gaps_0 rfl ?_
  refine g_iconst (pc := 1) hC ki_0 dL_gaps_1 ?_
  refine g_aload_n (pc := 2) hC dL_gaps_2 rfl ?_
  refine g_iload_n (pc := 3) hC dL_gaps_3 rfl ?_
  refine g_hok (pc := 4) (As := [.int a1]) (rest := [.int 0, .ref (E.2.1 92)]) hC (x_X11_gaps l hl9 E a1 σ 1 σ2 h) mi_X11_gaps mv_X11_gaps ob_0 rfl rfl lk_L_96 rfl rfl (Nat.le_of_ble_eq_true rfl) ⟨by decide, by decide⟩ h6 hT [] ⟨0, 9, 12, 13⟩ [] rfl (fun z hz9 => nomatch hz9) rfl (by decide) lx_13 (List.mem_of_getElem? (i := 0) rfl) dL_gaps_4 (fun q9 => ?_)
  refine g_astore_n (lv2 := [some (.ref (E.2.1 0)), some (.int a1), some (.ref (E.2.1 92)), some (.ref q9)]) (pc := 12) hC dL_gaps_12 rfl (Or.inr rfl) (by rw [hnL]; decide) ?_
  refine g_iconst (pc := 13) hC ki_1 dL_gaps_13 ?_
  exact g_hret (pc := 14) hC hR dL_gaps_14
set_option maxRecDepth 20000 in
theorem hr_rough (l : Launch) (E : uE) (a1 : Int32) (σ : uS) (o : Int64) (r : Int32) (σ2 : uS) (h : F_X11_rough a1 σ = some (.inl r, σ2)) : CtH l E yL_rough cL_rough 4 [(0, 9, 12, 13)] 8 155 0 0 [.ref (E.2.1 0), .int a1, .ref (E.2.1 92)] σ o 0 σ2 r.toInt64 := by
  refine enterH 1 [some (.ref (E.2.1 0)), some (.int a1), some (.ref (E.2.1 92)), none] (by decide +kernel) rfl (Nat.le_of_ble_eq_true rfl) (fun K hnL hC hab _ hT hR => ?_)
  have hC : Cx E K RL cL_rough (some .int) 8 155 := hC
  refine g_aload_n (pc := 0) hC dL_rough_0 rfl ?_
  refine g_iconst (pc := 1) hC ki_0 dL_rough_1 ?_
  refine g_aload_n (pc := 2) hC dL_rough_2 rfl ?_
  refine g_iload_n (pc := 3) hC dL_rough_3 rfl ?_
  refine g_callVi (pc := 4) (As := [.int a1]) (rest := [.int 0, .ref (E.2.1 92)]) hC (c_X11_rough l E a1 σ r σ2 h) mi_X11_rough mv_X11_rough ob_0 rfl rfl lk_L_99 rfl rfl (Nat.le_of_ble_eq_true rfl) ⟨by decide, by decide⟩ hab dL_rough_4 ?_
  refine g_i2l (pc := 7) hC dL_rough_7 ?_
  refine g_last (pc := 8) hC dL_rough_8 ?_
  refine g_goto (tgt := 15) (pc := 9) hC dL_rough_9 (by decide) ?_
  refine g_iconst (pc := 15) hC ki_0 dL_rough_15 ?_
  exact g_hret (pc := 16) hC hR dL_rough_16
set_option maxRecDepth 20000 in
theorem hx_rough_1 (l : Launch) (hl9 : l.stackTraces = false) (E : uE) (a1 : Int32) (σ : uS) (o : Int64) (σ2 : uS) (h : F_X11_rough a1 σ = some (.inr 1, σ2)) : CtH l E yL_rough cL_rough 4 [(0, 9, 12, 13)] 8 155 1 6 [.ref (E.2.1 0), .int a1, .ref (E.2.1 92)] σ o 1 σ2 o := by
  refine enterH 1 [some (.ref (E.2.1 0)), some (.int a1), some (.ref (E.2.1 92)), none] (by decide +kernel) rfl (Nat.le_of_ble_eq_true rfl) (fun K hnL hC hab h6 hT hR => ?_)
  have hC : Cx E K RL cL_rough (some .int) 8 155 := hC
  have hC9 : va_Nc "java/lang/IllegalArgumentException" "java/util/NoSuchElementException" K.1.2.2.2.1 ∧ va_Nc "java/util/NoSuchElementException" "java/lang/IllegalArgumentException" K.1.2.2.2.1 := Cx_nc hC
  refine g_aload_n (pc := 0) hC dL_rough_0 rfl ?_
  refine g_iconst (pc := 1) hC ki_0 dL_rough_1 ?_
  refine g_aload_n (pc := 2) hC dL_rough_2 rfl ?_
  refine g_iload_n (pc := 3) hC dL_rough_3 rfl ?_
  refine g_hok (pc := 4) (As := [.int a1]) (rest := [.int 0, .ref (E.2.1 92)]) hC (x_X11_rough l hl9 E a1 σ 1 σ2 h) mi_X11_rough mv_X11_rough ob_0 rfl rfl lk_L_99 rfl rfl (Nat.le_of_ble_eq_true rfl) ⟨by decide, by decide⟩ h6 hT [] ⟨0, 9, 12, 13⟩ [] rfl (fun z hz9 => nomatch hz9) rfl (by decide) lx_13 (List.mem_of_getElem? (i := 0) rfl) dL_rough_4 (fun q9 => ?_)
  refine g_astore_n (lv2 := [some (.ref (E.2.1 0)), some (.int a1), some (.ref (E.2.1 92)), some (.ref q9)]) (pc := 12) hC dL_rough_12 rfl (Or.inr rfl) (by rw [hnL]; decide) ?_
  refine g_iconst (pc := 13) hC ki_1 dL_rough_13 ?_
  exact g_hret (pc := 14) hC hR dL_rough_14
set_option maxRecDepth 20000 in
theorem hr_mean (l : Launch) (E : uE) (a1 : Int32) (σ : uS) (o : Int64) (r : Int32) (σ2 : uS) (h : F_X11_mean a1 σ = some (.inl r, σ2)) : CtH l E yL_mean cL_mean 4 [(0, 9, 12, 13)] 8 155 0 0 [.ref (E.2.1 0), .int a1, .ref (E.2.1 92)] σ o 0 σ2 r.toInt64 := by
  refine enterH 1 [some (.ref (E.2.1 0)), some (.int a1), some (.ref (E.2.1 92)), none] (by decide +kernel) rfl (Nat.le_of_ble_eq_true rfl) (fun K hnL hC hab _ hT hR => ?_)
  have hC : Cx E K RL cL_mean (some .int) 8 155 := hC
  refine g_aload_n (pc := 0) hC dL_mean_0 rfl ?_
  refine g_iconst (pc := 1) hC ki_0 dL_mean_1 ?_
  refine g_aload_n (pc := 2) hC dL_mean_2 rfl ?_
  refine g_iload_n (pc := 3) hC dL_mean_3 rfl ?_
  refine g_callVi (pc := 4) (As := [.int a1]) (rest := [.int 0, .ref (E.2.1 92)]) hC (c_X11_mean l E a1 σ r σ2 h) mi_X11_mean mv_X11_mean ob_0 rfl rfl lk_L_102 rfl rfl (Nat.le_of_ble_eq_true rfl) ⟨by decide, by decide⟩ hab dL_mean_4 ?_
  refine g_i2l (pc := 7) hC dL_mean_7 ?_
  refine g_last (pc := 8) hC dL_mean_8 ?_
  refine g_goto (tgt := 15) (pc := 9) hC dL_mean_9 (by decide) ?_
  refine g_iconst (pc := 15) hC ki_0 dL_mean_15 ?_
  exact g_hret (pc := 16) hC hR dL_mean_16
set_option maxRecDepth 20000 in
theorem hx_mean_1 (l : Launch) (hl9 : l.stackTraces = false) (E : uE) (a1 : Int32) (σ : uS) (o : Int64) (σ2 : uS) (h : F_X11_mean a1 σ = some (.inr 1, σ2)) : CtH l E yL_mean cL_mean 4 [(0, 9, 12, 13)] 8 155 1 6 [.ref (E.2.1 0), .int a1, .ref (E.2.1 92)] σ o 1 σ2 o := by
  refine enterH 1 [some (.ref (E.2.1 0)), some (.int a1), some (.ref (E.2.1 92)), none] (by decide +kernel) rfl (Nat.le_of_ble_eq_true rfl) (fun K hnL hC hab h6 hT hR => ?_)
  have hC : Cx E K RL cL_mean (some .int) 8 155 := hC
  have hC9 : va_Nc "java/lang/IllegalArgumentException" "java/util/NoSuchElementException" K.1.2.2.2.1 ∧ va_Nc "java/util/NoSuchElementException" "java/lang/IllegalArgumentException" K.1.2.2.2.1 := Cx_nc hC
  refine g_aload_n (pc := 0) hC dL_mean_0 rfl ?_
  refine g_iconst (pc := 1) hC ki_0 dL_mean_1 ?_
  refine g_aload_n (pc := 2) hC dL_mean_2 rfl ?_
  refine g_iload_n (pc := 3) hC dL_mean_3 rfl ?_
  refine g_hok (pc := 4) (As := [.int a1]) (rest := [.int 0, .ref (E.2.1 92)]) hC (x_X11_mean l hl9 E a1 σ 1 σ2 h) mi_X11_mean mv_X11_mean ob_0 rfl rfl lk_L_102 rfl rfl (Nat.le_of_ble_eq_true rfl) ⟨by decide, by decide⟩ h6 hT [] ⟨0, 9, 12, 13⟩ [] rfl (fun z hz9 => nomatch hz9) rfl (by decide) lx_13 (List.mem_of_getElem? (i := 0) rfl) dL_mean_4 (fun q9 => ?_)
  refine g_astore_n (lv2 := [some (.ref (E.2.1 0)), some (.int a1), some (.ref (E.2.1 92)), some (.ref q9)]) (pc := 12) hC dL_mean_12 rfl (Or.inr rfl) (by rw [hnL]; decide) ?_
  refine g_iconst (pc := 13) hC ki_1 dL_mean_13 ?_
  exact g_hret (pc := 14) hC hR dL_mean_14
set_option maxRecDepth 20000 in
theorem hr_anew (l : Launch) (E : uE) (a1 : Int32) (a2 : Int32) (a3 : Int32) (σ : uS) (o : Int64) (r : Int32) (σ2 : uS) (h : F_X11_anew a1 a2 a3 σ = some (.inl r, σ2)) : CtH l E yL_anew cL_anew 6 [(0, 12, 15, 13), (0, 12, 19, 55)] 8 157 0 0 [.ref (E.2.1 0), .int a1, .int a2, .int a3, .ref (E.2.1 92)] σ o 0 σ2 r.toInt64 := by
  refine enterH 1 [some (.ref (E.2.1 0)), some (.int a1), some (.int a2), some (.int a3), some (.ref (E.2.1 92)), none] (by decide +kernel) rfl (Nat.le_of_ble_eq_true rfl) (fun K hnL hC hab _ hT hR => ?_)
  have hC : Cx E K RL cL_anew (some .int) 8 157 := hC
  refine g_aload (pc := 0) hC dL_anew_0 rfl ?_
  refine g_iconst (pc := 2) hC ki_0 dL_anew_2 ?_
  refine g_aload_n (pc := 3) hC dL_anew_3 rfl ?_
  refine g_iload_n (pc := 4) hC dL_anew_4 rfl ?_
  refine g_iload_n (pc := 5) hC dL_anew_5 rfl ?_
  refine g_iload_n (pc := 6) hC dL_anew_6 rfl ?_
  refine g_callVi (pc := 7) (As := [.int a1, .int a2, .int a3]) (rest := [.int 0, .ref (E.2.1 92)]) hC (c_X11_anew l E a1 a2 a3 σ r σ2 h) mi_X11_anew mv_X11_anew ob_0 rfl rfl lk_L_106 rfl rfl (Nat.le_of_ble_eq_true rfl) ⟨by decide, by decide⟩ hab dL_anew_7 ?_
  refine g_i2l (pc := 10) hC dL_anew_10 ?_
  refine g_last (pc := 11) hC dL_anew_11 ?_
  refine g_goto (tgt := 23) (pc := 12) hC dL_anew_12 (by decide) ?_
  refine g_iconst (pc := 23) hC ki_0 dL_anew_23 ?_
  exact g_hret (pc := 24) hC hR dL_anew_24
set_option maxRecDepth 20000 in
theorem hx_anew_1 (l : Launch) (hl9 : l.stackTraces = false) (E : uE) (a1 : Int32) (a2 : Int32) (a3 : Int32) (σ : uS) (o : Int64) (σ2 : uS) (h : F_X11_anew a1 a2 a3 σ = some (.inr 1, σ2)) : CtH l E yL_anew cL_anew 6 [(0, 12, 15, 13), (0, 12, 19, 55)] 8 157 1 6 [.ref (E.2.1 0), .int a1, .int a2, .int a3, .ref (E.2.1 92)] σ o 1 σ2 o := by
  refine enterH 1 [some (.ref (E.2.1 0)), some (.int a1), some (.int a2), some (.int a3), some (.ref (E.2.1 92)), none] (by decide +kernel) rfl (Nat.le_of_ble_eq_true rfl) (fun K hnL hC hab h6 hT hR => ?_)
  have hC : Cx E K RL cL_anew (some .int) 8 157 := hC
  have hC9 : va_Nc "java/lang/IllegalArgumentException" "java/util/NoSuchElementException" K.1.2.2.2.1 ∧ va_Nc "java/util/NoSuchElementException" "java/lang/IllegalArgumentException" K.1.2.2.2.1 := Cx_nc hC
  refine g_aload (pc := 0) hC dL_anew_0 rfl ?_
  refine g_iconst (pc := 2) hC ki_0 dL_anew_2 ?_
  refine g_aload_n (pc := 3) hC dL_anew_3 rfl ?_
  refine g_iload_n (pc := 4) hC dL_anew_4 rfl ?_
  refine g_iload_n (pc := 5) hC dL_anew_5 rfl ?_
  refine g_iload_n (pc := 6) hC dL_anew_6 rfl ?_
  refine g_hok (pc := 7) (As := [.int a1, .int a2, .int a3]) (rest := [.int 0, .ref (E.2.1 92)]) hC (x_X11_anew l hl9 E a1 a2 a3 σ 1 σ2 h) mi_X11_anew mv_X11_anew ob_0 rfl rfl lk_L_106 rfl rfl (Nat.le_of_ble_eq_true rfl) ⟨by decide, by decide⟩ h6 hT [] ⟨0, 12, 15, 13⟩ [⟨0, 12, 19, 55⟩] rfl (fun z hz9 => nomatch hz9) rfl (by decide) lx_13 (List.mem_of_getElem? (i := 0) rfl) dL_anew_7 (fun q9 => ?_)
  refine g_astore (lv2 := [some (.ref (E.2.1 0)), some (.int a1), some (.int a2), some (.int a3), some (.ref (E.2.1 92)), some (.ref q9)]) (pc := 15) hC dL_anew_15 rfl (Or.inr rfl) (by rw [hnL]; decide) ?_
  refine g_iconst (pc := 17) hC ki_1 dL_anew_17 ?_
  exact g_hret (pc := 18) hC hR dL_anew_18
set_option maxRecDepth 20000 in
theorem hx_anew_2 (l : Launch) (hl9 : l.stackTraces = false) (E : uE) (a1 : Int32) (a2 : Int32) (a3 : Int32) (σ : uS) (o : Int64) (σ2 : uS) (h : F_X11_anew a1 a2 a3 σ = some (.inr 2, σ2)) : CtH l E yL_anew cL_anew 6 [(0, 12, 15, 13), (0, 12, 19, 55)] 8 157 1 6 [.ref (E.2.1 0), .int a1, .int a2, .int a3, .ref (E.2.1 92)] σ o 2 σ2 o := by
  refine enterH 1 [some (.ref (E.2.1 0)), some (.int a1), some (.int a2), some (.int a3), some (.ref (E.2.1 92)), none] (by decide +kernel) rfl (Nat.le_of_ble_eq_true rfl) (fun K hnL hC hab h6 hT hR => ?_)
  have hC : Cx E K RL cL_anew (some .int) 8 157 := hC
  have hC9 : va_Nc "java/lang/IllegalArgumentException" "java/util/NoSuchElementException" K.1.2.2.2.1 ∧ va_Nc "java/util/NoSuchElementException" "java/lang/IllegalArgumentException" K.1.2.2.2.1 := Cx_nc hC
  refine g_aload (pc := 0) hC dL_anew_0 rfl ?_
  refine g_iconst (pc := 2) hC ki_0 dL_anew_2 ?_
  refine g_aload_n (pc := 3) hC dL_anew_3 rfl ?_
  refine g_iload_n (pc := 4) hC dL_anew_4 rfl ?_
  refine g_iload_n (pc := 5) hC dL_anew_5 rfl ?_
  refine g_iload_n (pc := 6) hC dL_anew_6 rfl ?_
  refine g_hok (pc := 7) (As := [.int a1, .int a2, .int a3]) (rest := [.int 0, .ref (E.2.1 92)]) hC (x_X11_anew l hl9 E a1 a2 a3 σ 2 σ2 h) mi_X11_anew mv_X11_anew ob_0 rfl rfl lk_L_106 rfl rfl (Nat.le_of_ble_eq_true rfl) ⟨by decide, by decide⟩ h6 hT [⟨0, 12, 15, 13⟩] ⟨0, 12, 19, 55⟩ [] rfl (fun z hz9 => by rcases List.mem_singleton.mp hz9 with rfl; exact ⟨by decide, "java/util/NoSuchElementException", lx_13, hC9.1⟩) rfl (by decide) lx_55 (List.mem_of_getElem? (i := 1) rfl) dL_anew_7 (fun q9 => ?_)
  refine g_astore (lv2 := [some (.ref (E.2.1 0)), some (.int a1), some (.int a2), some (.int a3), some (.ref (E.2.1 92)), some (.ref q9)]) (pc := 19) hC dL_anew_19 rfl (Or.inr rfl) (by rw [hnL]; decide) ?_
  refine g_iconst (pc := 21) hC ki_2 dL_anew_21 ?_
  exact g_hret (pc := 22) hC hR dL_anew_22

set_option maxRecDepth 20000 in
theorem x_X11_bestAt (l : Launch) (hl9 : l.stackTraces = false) (E : uE) (a1 : Int32) (a2 : Int32) (σ : uS) (kx : Nat) (σr : uS) (h : F_X11_bestAt a1 a2 σ = some (.inr kx, σr)) : CtX l E yX11_bestAt cX11_bestAt 3 7 135 [.ref (E.2.1 0), .int a1, .int a2] σ kx σr := by
  refine enterX 0 [some (.ref (E.2.1 0)), some (.int a1), some (.int a2)] (by decide +kernel) rfl (Nat.le_of_ble_eq_true rfl) (fun o K hnL hC hab h6 hXt hR => ?_)
  have hC : Cx E K RX11 cX11_bestAt (some .int) 7 135 := hC
  have hN : ∀ k, k < 3 → k < K.2.2.2.2.2 := fun k hk => hnL ▸ hk
  delta F_X11_bestAt at h
  refine g_iload_n (pc := 0) hC dX11_bestAt_0 rfl ?_
  have hJ15 : ∀ (v3 : Int32), J_X11_bestAt_2 a1 a2 σ v3 = some (.inr kx, σr) → Gd l E K 0 0 o σ 15 [some (.ref (E.2.1 0)), some (.int a1), some (.int a2)] [.int v3] := by
    intro v3 h
    delta J_X11_bestAt_2 at h
    by_cases c4 : v3 = 0
    · replace h := it_t c4 h
      exact g_thr (pc := 15) (As := [.int v3]) (rest := []) hC (x_X11_allow l hl9 E v3 σ c4) mi_X11_allow ms_X11_allow lk_X11_211 rfl rfl (Nat.le_of_ble_eq_true rfl) ⟨by decide, by decide⟩ h6 hXt h hR dX11_bestAt_15
    · replace h := it_f c4 h
      refine g_callSv (pc := 15) (As := [.int v3]) (rest := []) hC (c_X11_allow l E v3 σ c4) mi_X11_allow ms_X11_allow lk_X11_211 rfl rfl (Nat.le_of_ble_eq_true rfl) ⟨by decide, by decide⟩ hab dX11_bestAt_15 ?_
      refine g_aload_n (pc := 18) hC dX11_bestAt_18 rfl ?_
      refine fg_X11_28_0 (pc := 19) hC dX11_bestAt_19 ?_
      refine g_iload_n (pc := 22) hC dX11_bestAt_22 rfl ?_
      obtain ⟨v5, hc, h⟩ := cp_e h
      refine g_callVi (pc := 23) (As := [.int a2]) (rest := []) hC (c_X2_has l E a2 σ v5 hc) mi_X2_has mv_X2_has ob_6 rfl rfl lk_X11_159 rfl rfl (Nat.le_of_ble_eq_true rfl) ⟨by decide, by decide⟩ hab dX11_bestAt_23 ?_
      by_cases c6 : v5 = 0
      · replace h := it_t c6 h
        exact g_thr (pc := 26) (As := [.int v5]) (rest := []) hC (x_X11_need l hl9 E v5 σ c6) mi_X11_need ms_X11_need lk_X11_139 rfl rfl (Nat.le_of_ble_eq_true rfl) ⟨by decide, by decide⟩ h6 hXt h hR dX11_bestAt_26
      · replace h := it_f c6 h
        refine g_callSv (pc := 26) (As := [.int v5]) (rest := []) hC (c_X11_need l E v5 σ c6) mi_X11_need ms_X11_need lk_X11_139 rfl rfl (Nat.le_of_ble_eq_true rfl) ⟨by decide, by decide⟩ hab dX11_bestAt_26 ?_
        refine g_aload_n (pc := 29) hC dX11_bestAt_29 rfl ?_
        obtain ⟨σ7, hc, h⟩ := cp_e h
        refine g_callVv (pc := 30) (As := []) (rest := []) hC (c_X11_findRanking l E σ σ7 hc) mi_X11_findRanking mv_X11_findRanking ob_0 rfl rfl lk_X11_224 rfl rfl (Nat.le_of_ble_eq_true rfl) ⟨by decide, by decide⟩ hab dX11_bestAt_30 ?_
        refine g_aload_n (pc := 33) hC dX11_bestAt_33 rfl ?_
        refine fg_X11_53_0 (pc := 34) hC dX11_bestAt_34 ?_
        refine g_iload_n (pc := 37) hC dX11_bestAt_37 rfl ?_
        refine g_iload_n (pc := 38) hC dX11_bestAt_38 rfl ?_
        obtain ⟨v8, hc, h⟩ := cp_e h
        refine g_callVi (pc := 39) (As := [.int a1, .int a2]) (rest := []) hC (c_X6_chosenIn l E a1 a2 σ7 v8 hc) mi_X6_chosenIn mv_X6_chosenIn ob_27 rfl rfl lk_X11_228 rfl rfl (Nat.le_of_ble_eq_true rfl) ⟨by decide, by decide⟩ hab dX11_bestAt_39 ?_
        exact th_tr h
  have hJ14 : J_X11_bestAt_1 a1 a2 σ = some (.inr kx, σr) → Gd l E K 0 0 o σ 14 [some (.ref (E.2.1 0)), some (.int a1), some (.int a2)] [] := by
    intro h
    delta J_X11_bestAt_1 at h
    refine g_iconst (pc := 14) hC ki_0 dX11_bestAt_14 ?_
    exact hJ15 0 h
  refine g_if_lt (tgt := 14) (pc := 1) hC dX11_bestAt_1 (by decide) (fun c1 => ?_) (fun c1 => ?_)
  · replace h := it_t c1 h
    exact hJ14 h
  · replace h := it_f c1 h
    refine g_iload_n (pc := 4) hC dX11_bestAt_4 rfl ?_
    refine g_bipush (pc := 5) hC kb_8 dX11_bestAt_5 ?_
    refine g_icmp_ge (tgt := 14) (pc := 7) hC dX11_bestAt_7 (by decide) (fun c2 => ?_) (fun c2 => ?_)
    · replace h := it_t c2 h
      exact hJ14 h
    · replace h := it_f c2 h
      refine g_iconst (pc := 10) hC ki_1 dX11_bestAt_10 ?_
      refine g_goto (tgt := 15) (pc := 11) hC dX11_bestAt_11 (by decide) ?_
      exact hJ15 1 h
set_option maxRecDepth 20000 in
theorem c_X11_would (l : Launch) (E : uE) (a1 : Int32) (a2 : Int32) (σ : uS) (r : Int32) (σr : uS) (h : F_X11_would a1 a2 σ = some (.inl r, σr)) : CtI l E yX11_would cX11_would 3 (some .int) 7 116 [.ref (E.2.1 0), .int a1, .int a2] σ r σr := by
  refine enterI 0 [some (.ref (E.2.1 0)), some (.int a1), some (.int a2)] (by decide +kernel) rfl (Nat.le_of_ble_eq_true rfl) (fun o K hnL hC hab hR => ?_)
  have hC : Cx E K RX11 cX11_would (some .int) 7 116 := hC
  have hN : ∀ k, k < 3 → k < K.2.2.2.2.2 := fun k hk => hnL ▸ hk
  delta F_X11_would at h
  refine g_iload_n (pc := 0) hC dX11_would_0 rfl ?_
  have hJ27 : ∀ (v5 : Int32), J_X11_would_2 a1 a2 σ v5 = some (.inl r, σr) → Gd l E K 0 0 o σ 27 [some (.ref (E.2.1 0)), some (.int a1), some (.int a2)] [.int v5] := by
    intro v5 h
    delta J_X11_would_2 at h
    by_cases c6 : v5 = 0
    · replace h := it_t c6 h
      exact th_rt h
    · replace h := it_f c6 h
      refine g_callSv (pc := 27) (As := [.int v5]) (rest := []) hC (c_X11_allow l E v5 σ c6) mi_X11_allow ms_X11_allow lk_X11_211 rfl rfl (Nat.le_of_ble_eq_true rfl) ⟨by decide, by decide⟩ hab dX11_would_27 ?_
      refine g_aload_n (pc := 30) hC dX11_would_30 rfl ?_
      obtain ⟨σ7, hc, h⟩ := cp_e h
      refine g_callVv (pc := 31) (As := []) (rest := []) hC (c_X11_findPath l E σ σ7 hc) mi_X11_findPath mv_X11_findPath ob_0 rfl rfl lk_X11_175 rfl rfl (Nat.le_of_ble_eq_true rfl) ⟨by decide, by decide⟩ hab dX11_would_31 ?_
      refine g_aload_n (pc := 34) hC dX11_would_34 rfl ?_
      refine fg_X11_46_0 (pc := 35) hC dX11_would_35 ?_
      refine g_iload_n (pc := 38) hC dX11_would_38 rfl ?_
      refine g_iload_n (pc := 39) hC dX11_would_39 rfl ?_
      obtain ⟨v9, σ8, hc, h⟩ := cl_e h
      refine g_callVi (pc := 40) (As := [.int a1, .int a2]) (rest := []) hC (c_X5_leastWith l E a1 a2 σ7 v9 σ8 hc) mi_X5_leastWith mv_X5_leastWith ob_16 rfl rfl lk_X11_230 rfl rfl (Nat.le_of_ble_eq_true rfl) ⟨by decide, by decide⟩ hab dX11_would_40 ?_
      exact g_rett (pc := 43) hC h hR dX11_would_43
  have hJ26 : J_X11_would_1 a1 a2 σ = some (.inl r, σr) → Gd l E K 0 0 o σ 26 [some (.ref (E.2.1 0)), some (.int a1), some (.int a2)] [] := by
    intro h
    delta J_X11_would_1 at h
    refine g_iconst (pc := 26) hC ki_0 dX11_would_26 ?_
    exact hJ27 0 h
  refine g_if_lt (tgt := 26) (pc := 1) hC dX11_would_1 (by decide) (fun c1 => ?_) (fun c1 => ?_)
  · replace h := it_t c1 h
    exact hJ26 h
  · replace h := it_f c1 h
    refine g_iload_n (pc := 4) hC dX11_would_4 rfl ?_
    refine g_sipush (pc := 5) hC ks_2000 dX11_would_5 ?_
    refine g_icmp_gt (tgt := 26) (pc := 8) hC dX11_would_8 (by decide) (fun c2 => ?_) (fun c2 => ?_)
    · replace h := it_t c2 h
      exact hJ26 h
    · replace h := it_f c2 h
      refine g_iload_n (pc := 11) hC dX11_would_11 rfl ?_
      refine g_if_lt (tgt := 26) (pc := 12) hC dX11_would_12 (by decide) (fun c3 => ?_) (fun c3 => ?_)
      · replace h := it_t c3 h
        exact hJ26 h
      · replace h := it_f c3 h
        refine g_iload_n (pc := 15) hC dX11_would_15 rfl ?_
        refine g_sipush (pc := 16) hC ks_2000 dX11_would_16 ?_
        refine g_icmp_gt (tgt := 26) (pc := 19) hC dX11_would_19 (by decide) (fun c4 => ?_) (fun c4 => ?_)
        · replace h := it_t c4 h
          exact hJ26 h
        · replace h := it_f c4 h
          refine g_iconst (pc := 22) hC ki_1 dX11_would_22 ?_
          refine g_goto (tgt := 27) (pc := 23) hC dX11_would_23 (by decide) ?_
          exact hJ27 1 h
set_option maxRecDepth 20000 in
theorem x_X11_would (l : Launch) (hl9 : l.stackTraces = false) (E : uE) (a1 : Int32) (a2 : Int32) (σ : uS) (kx : Nat) (σr : uS) (h : F_X11_would a1 a2 σ = some (.inr kx, σr)) : CtX l E yX11_would cX11_would 3 7 116 [.ref (E.2.1 0), .int a1, .int a2] σ kx σr := by
  refine enterX 0 [some (.ref (E.2.1 0)), some (.int a1), some (.int a2)] (by decide +kernel) rfl (Nat.le_of_ble_eq_true rfl) (fun o K hnL hC hab h6 hXt hR => ?_)
  have hC : Cx E K RX11 cX11_would (some .int) 7 116 := hC
  have hN : ∀ k, k < 3 → k < K.2.2.2.2.2 := fun k hk => hnL ▸ hk
  delta F_X11_would at h
  refine g_iload_n (pc := 0) hC dX11_would_0 rfl ?_
  have hJ27 : ∀ (v5 : Int32), J_X11_would_2 a1 a2 σ v5 = some (.inr kx, σr) → Gd l E K 0 0 o σ 27 [some (.ref (E.2.1 0)), some (.int a1), some (.int a2)] [.int v5] := by
    intro v5 h
    delta J_X11_would_2 at h
    by_cases c6 : v5 = 0
    · replace h := it_t c6 h
      exact g_thr (pc := 27) (As := [.int v5]) (rest := []) hC (x_X11_allow l hl9 E v5 σ c6) mi_X11_allow ms_X11_allow lk_X11_211 rfl rfl (Nat.le_of_ble_eq_true rfl) ⟨by decide, by decide⟩ h6 hXt h hR dX11_would_27
    · replace h := it_f c6 h
      refine g_callSv (pc := 27) (As := [.int v5]) (rest := []) hC (c_X11_allow l E v5 σ c6) mi_X11_allow ms_X11_allow lk_X11_211 rfl rfl (Nat.le_of_ble_eq_true rfl) ⟨by decide, by decide⟩ hab dX11_would_27 ?_
      refine g_aload_n (pc := 30) hC dX11_would_30 rfl ?_
      obtain ⟨σ7, hc, h⟩ := cp_e h
      refine g_callVv (pc := 31) (As := []) (rest := []) hC (c_X11_findPath l E σ σ7 hc) mi_X11_findPath mv_X11_findPath ob_0 rfl rfl lk_X11_175 rfl rfl (Nat.le_of_ble_eq_true rfl) ⟨by decide, by decide⟩ hab dX11_would_31 ?_
      refine g_aload_n (pc := 34) hC dX11_would_34 rfl ?_
      refine fg_X11_46_0 (pc := 35) hC dX11_would_35 ?_
      refine g_iload_n (pc := 38) hC dX11_would_38 rfl ?_
      refine g_iload_n (pc := 39) hC dX11_would_39 rfl ?_
      obtain ⟨v9, σ8, hc, h⟩ := cl_e h
      refine g_callVi (pc := 40) (As := [.int a1, .int a2]) (rest := []) hC (c_X5_leastWith l E a1 a2 σ7 v9 σ8 hc) mi_X5_leastWith mv_X5_leastWith ob_16 rfl rfl lk_X11_230 rfl rfl (Nat.le_of_ble_eq_true rfl) ⟨by decide, by decide⟩ hab dX11_would_40 ?_
      exact th_tr h
  have hJ26 : J_X11_would_1 a1 a2 σ = some (.inr kx, σr) → Gd l E K 0 0 o σ 26 [some (.ref (E.2.1 0)), some (.int a1), some (.int a2)] [] := by
    intro h
    delta J_X11_would_1 at h
    refine g_iconst (pc := 26) hC ki_0 dX11_would_26 ?_
    exact hJ27 0 h
  refine g_if_lt (tgt := 26) (pc := 1) hC dX11_would_1 (by decide) (fun c1 => ?_) (fun c1 => ?_)
  · replace h := it_t c1 h
    exact hJ26 h
  · replace h := it_f c1 h
    refine g_iload_n (pc := 4) hC dX11_would_4 rfl ?_
    refine g_sipush (pc := 5) hC ks_2000 dX11_would_5 ?_
    refine g_icmp_gt (tgt := 26) (pc := 8) hC dX11_would_8 (by decide) (fun c2 => ?_) (fun c2 => ?_)
    · replace h := it_t c2 h
      exact hJ26 h
    · replace h := it_f c2 h
      refine g_iload_n (pc := 11) hC dX11_would_11 rfl ?_
      refine g_if_lt (tgt := 26) (pc := 12) hC dX11_would_12 (by decide) (fun c3 => ?_) (fun c3 => ?_)
      · replace h := it_t c3 h
        exact hJ26 h
      · replace h := it_f c3 h
        refine g_iload_n (pc := 15) hC dX11_would_15 rfl ?_
        refine g_sipush (pc := 16) hC ks_2000 dX11_would_16 ?_
        refine g_icmp_gt (tgt := 26) (pc := 19) hC dX11_would_19 (by decide) (fun c4 => ?_) (fun c4 => ?_)
        · replace h := it_t c4 h
          exact hJ26 h
        · replace h := it_f c4 h
          refine g_iconst (pc := 22) hC ki_1 dX11_would_22 ?_
          refine g_goto (tgt := 27) (pc := 23) hC dX11_would_23 (by decide) ?_
          exact hJ27 1 h
set_option maxRecDepth 20000 in
theorem c_X11_span (l : Launch) (E : uE) (a1 : Int32) (a2 : Int32) (σ : uS) (r : Int32) (σr : uS) (h : F_X11_span a1 a2 σ = some (.inl r, σr)) : CtI l E yX11_span cX11_span 3 (some .int) 7 134 [.ref (E.2.1 0), .int a1, .int a2] σ r σr := by
  refine enterI 0 [some (.ref (E.2.1 0)), some (.int a1), some (.int a2)] (by decide +kernel) rfl (Nat.le_of_ble_eq_true rfl) (fun o K hnL hC hab hR => ?_)
  have hC : Cx E K RX11 cX11_span (some .int) 7 134 := hC
  have hN : ∀ k, k < 3 → k < K.2.2.2.2.2 := fun k hk => hnL ▸ hk
  delta F_X11_span at h
  refine g_aload_n (pc := 0) hC dX11_span_0 rfl ?_
  obtain ⟨σ1, hc, h⟩ := cp_e h
  refine g_callVv (pc := 1) (As := []) (rest := []) hC (c_X11_findPath l E σ σ1 hc) mi_X11_findPath mv_X11_findPath ob_0 rfl rfl lk_X11_175 rfl rfl (Nat.le_of_ble_eq_true rfl) ⟨by decide, by decide⟩ hab dX11_span_1 ?_
  refine g_aload_n (pc := 4) hC dX11_span_4 rfl ?_
  refine fg_X11_62_0 (pc := 5) hC dX11_span_5 ?_
  refine g_iload_n (pc := 8) hC dX11_span_8 rfl ?_
  obtain ⟨v2, hc, h⟩ := cp_e h
  refine g_callVi (pc := 9) (As := [.int a1]) (rest := []) hC (c_X8_has l E a1 σ1 v2 hc) mi_X8_has mv_X8_has ob_34 rfl rfl lk_X11_237 rfl rfl (Nat.le_of_ble_eq_true rfl) ⟨by decide, by decide⟩ hab dX11_span_9 ?_
  have hJ30 : ∀ (v6 : Int32), J_X11_span_2 a1 a2 σ1 v6 = some (.inl r, σr) → Gd l E K 0 0 o σ1 30 [some (.ref (E.2.1 0)), some (.int a1), some (.int a2)] [.int v6] := by
    intro v6 h
    delta J_X11_span_2 at h
    by_cases c7 : v6 = 0
    · replace h := it_t c7 h
      exact th_rt h
    · replace h := it_f c7 h
      refine g_callSv (pc := 30) (As := [.int v6]) (rest := []) hC (c_X11_need l E v6 σ1 c7) mi_X11_need ms_X11_need lk_X11_139 rfl rfl (Nat.le_of_ble_eq_true rfl) ⟨by decide, by decide⟩ hab dX11_span_30 ?_
      refine g_iload_n (pc := 33) hC dX11_span_33 rfl ?_
      by_cases c8 : a2 = 0
      · replace h := it_t c8 h
        refine g_tabIn (tgt := 72) (off := 38) (pc := 34) hC dX11_span_34 (by rw [c8]; decide) (by rw [c8]; decide) (by rw [c8]; rfl) (by decide) ?_
        refine g_aload_n (pc := 72) hC dX11_span_72 rfl ?_
        refine fg_X11_62_0 (pc := 73) hC dX11_span_73 ?_
        refine g_iload_n (pc := 76) hC dX11_span_76 rfl ?_
        obtain ⟨v9, hc, h⟩ := cp_e h
        refine g_callVi (pc := 77) (As := [.int a1]) (rest := []) hC (c_X8_firstFrame l E a1 σ1 v9 hc) mi_X8_firstFrame mv_X8_firstFrame ob_34 rfl rfl lk_X11_238 rfl rfl (Nat.le_of_ble_eq_true rfl) ⟨by decide, by decide⟩ hab dX11_span_77 ?_
        exact g_rett (pc := 80) hC h hR dX11_span_80
      · replace h := it_f c8 h
        by_cases c10 : a2 = 1
        · replace h := it_t c10 h
          refine g_tabIn (tgt := 81) (off := 47) (pc := 34) hC dX11_span_34 (by rw [c10]; decide) (by rw [c10]; decide) (by rw [c10]; rfl) (by decide) ?_
          refine g_aload_n (pc := 81) hC dX11_span_81 rfl ?_
          refine fg_X11_62_0 (pc := 82) hC dX11_span_82 ?_
          refine g_iload_n (pc := 85) hC dX11_span_85 rfl ?_
          obtain ⟨v11, hc, h⟩ := cp_e h
          refine g_callVi (pc := 86) (As := [.int a1]) (rest := []) hC (c_X8_length l E a1 σ1 v11 hc) mi_X8_length mv_X8_length ob_34 rfl rfl lk_X11_241 rfl rfl (Nat.le_of_ble_eq_true rfl) ⟨by decide, by decide⟩ hab dX11_span_86 ?_
          exact g_rett (pc := 89) hC h hR dX11_span_89
        · replace h := it_f c10 h
          by_cases c12 : a2 = 2
          · replace h := it_t c12 h
            refine g_tabIn (tgt := 90) (off := 56) (pc := 34) hC dX11_span_34 (by rw [c12]; decide) (by rw [c12]; decide) (by rw [c12]; rfl) (by decide) ?_
            refine g_aload_n (pc := 90) hC dX11_span_90 rfl ?_
            refine fg_X11_62_0 (pc := 91) hC dX11_span_91 ?_
            refine g_iload_n (pc := 94) hC dX11_span_94 rfl ?_
            obtain ⟨v13, hc, h⟩ := cp_e h
            refine g_callVi (pc := 95) (As := [.int a1]) (rest := []) hC (c_X8_isVoiced l E a1 σ1 v13 hc) mi_X8_isVoiced mv_X8_isVoiced ob_34 rfl rfl lk_X11_244 rfl rfl (Nat.le_of_ble_eq_true rfl) ⟨by decide, by decide⟩ hab dX11_span_95 ?_
            obtain ⟨v15, ev15, h⟩ := lt_e h
            have hJ106 : Gd l E K 0 0 o σ1 106 [none, none, none] [.int v15] := by
              exact g_rett (pc := 106) hC h hR dX11_span_106
            refine g_if_eq (tgt := 105) (pc := 98) hC dX11_span_98 (by decide) (fun c14 => ?_) (fun c14 => ?_)
            · refine g_iconst (pc := 105) hC ki_0 dX11_span_105 ?_
              refine g_mask [false, false, false] rfl ?_
              exact g_top (iv_t c14 ev15) hJ106
            · refine g_iconst (pc := 101) hC ki_1 dX11_span_101 ?_
              refine g_goto (tgt := 106) (pc := 102) hC dX11_span_102 (by decide) ?_
              refine g_mask [false, false, false] rfl ?_
              exact g_top (iv_f c14 ev15) hJ106
          · replace h := it_f c12 h
            by_cases c16 : a2 = 3
            · replace h := it_t c16 h
              refine g_tabIn (tgt := 107) (off := 73) (pc := 34) hC dX11_span_34 (by rw [c16]; decide) (by rw [c16]; decide) (by rw [c16]; rfl) (by decide) ?_
              refine g_aload_n (pc := 107) hC dX11_span_107 rfl ?_
              refine fg_X11_62_0 (pc := 108) hC dX11_span_108 ?_
              refine g_iload_n (pc := 111) hC dX11_span_111 rfl ?_
              obtain ⟨v17, hc, h⟩ := cp_e h
              refine g_callVi (pc := 112) (As := [.int a1]) (rest := []) hC (c_X8_from l E a1 σ1 v17 hc) mi_X8_from mv_X8_from ob_34 rfl rfl lk_X11_247 rfl rfl (Nat.le_of_ble_eq_true rfl) ⟨by decide, by decide⟩ hab dX11_span_112 ?_
              exact g_rett (pc := 115) hC h hR dX11_span_115
            · replace h := it_f c16 h
              by_cases c18 : a2 = 4
              · replace h := it_t c18 h
                refine g_tabIn (tgt := 116) (off := 82) (pc := 34) hC dX11_span_34 (by rw [c18]; decide) (by rw [c18]; decide) (by rw [c18]; rfl) (by decide) ?_
                refine g_aload_n (pc := 116) hC dX11_span_116 rfl ?_
                refine fg_X11_62_0 (pc := 117) hC dX11_span_117 ?_
                refine g_iload_n (pc := 120) hC dX11_span_120 rfl ?_
                obtain ⟨v19, hc, h⟩ := cp_e h
                refine g_callVi (pc := 121) (As := [.int a1]) (rest := []) hC (c_X8_to l E a1 σ1 v19 hc) mi_X8_to mv_X8_to ob_34 rfl rfl lk_X11_250 rfl rfl (Nat.le_of_ble_eq_true rfl) ⟨by decide, by decide⟩ hab dX11_span_121 ?_
                exact g_rett (pc := 124) hC h hR dX11_span_124
              · replace h := it_f c18 h
                by_cases c20 : a2 = 5
                · replace h := it_t c20 h
                  refine g_tabIn (tgt := 125) (off := 91) (pc := 34) hC dX11_span_34 (by rw [c20]; decide) (by rw [c20]; decide) (by rw [c20]; rfl) (by decide) ?_
                  refine g_aload_n (pc := 125) hC dX11_span_125 rfl ?_
                  obtain ⟨σ21, hc, h⟩ := cp_e h
                  refine g_callVv (pc := 126) (As := []) (rest := []) hC (c_X11_findMarks l E σ1 σ21 hc) mi_X11_findMarks mv_X11_findMarks ob_0 rfl rfl lk_X11_253 rfl rfl (Nat.le_of_ble_eq_true rfl) ⟨by decide, by decide⟩ hab dX11_span_126 ?_
                  refine g_aload_n (pc := 129) hC dX11_span_129 rfl ?_
                  refine fg_X11_80_0 (pc := 130) hC dX11_span_130 ?_
                  refine g_iload_n (pc := 133) hC dX11_span_133 rfl ?_
                  obtain ⟨v22, hc, h⟩ := cp_e h
                  refine g_callVi (pc := 134) (As := [.int a1]) (rest := []) hC (c_X3_sizeIn l E a1 σ21 v22 hc) mi_X3_sizeIn mv_X3_sizeIn ob_44 rfl rfl lk_X11_256 rfl rfl (Nat.le_of_ble_eq_true rfl) ⟨by decide, by decide⟩ hab dX11_span_134 ?_
                  exact g_rett (pc := 137) hC h hR dX11_span_137
                · replace h := it_f c20 h
                  have q0 := sw_ne (n := 0) c8 rfl
                  have q1 := sw_ne (n := 1) c10 rfl
                  have q2 := sw_ne (n := 2) c12 rfl
                  have q3 := sw_ne (n := 3) c16 rfl
                  have q4 := sw_ne (n := 4) c18 rfl
                  have q5 := sw_ne (n := 5) c20 rfl
                  refine g_tabOut (tgt := 138) (pc := 34) hC dX11_span_34 (by omega) (by decide) ?_
                  refine g_aload_n (pc := 138) hC dX11_span_138 rfl ?_
                  obtain ⟨σ23, hc, h⟩ := cp_e h
                  refine g_callVv (pc := 139) (As := []) (rest := []) hC (c_X11_findMarks l E σ1 σ23 hc) mi_X11_findMarks mv_X11_findMarks ob_0 rfl rfl lk_X11_253 rfl rfl (Nat.le_of_ble_eq_true rfl) ⟨by decide, by decide⟩ hab dX11_span_139 ?_
                  refine g_aload_n (pc := 142) hC dX11_span_142 rfl ?_
                  refine fg_X11_80_0 (pc := 143) hC dX11_span_143 ?_
                  refine g_iload_n (pc := 146) hC dX11_span_146 rfl ?_
                  obtain ⟨v24, hc, h⟩ := cp_e h
                  refine g_callVi (pc := 147) (As := [.int a1]) (rest := []) hC (c_X3_worthIn l E a1 σ23 v24 hc) mi_X3_worthIn mv_X3_worthIn ob_44 rfl rfl lk_X11_259 rfl rfl (Nat.le_of_ble_eq_true rfl) ⟨by decide, by decide⟩ hab dX11_span_147 ?_
                  exact g_rett (pc := 150) hC h hR dX11_span_150
  have hJ29 : J_X11_span_1 a1 a2 σ1 = some (.inl r, σr) → Gd l E K 0 0 o σ1 29 [some (.ref (E.2.1 0)), some (.int a1), some (.int a2)] [] := by
    intro h
    delta J_X11_span_1 at h
    refine g_iconst (pc := 29) hC ki_0 dX11_span_29 ?_
    exact hJ30 0 h
  refine g_if_eq (tgt := 29) (pc := 12) hC dX11_span_12 (by decide) (fun c3 => ?_) (fun c3 => ?_)
  · replace h := it_t c3 h
    exact hJ29 h
  · replace h := it_f c3 h
    refine g_iload_n (pc := 15) hC dX11_span_15 rfl ?_
    refine g_if_lt (tgt := 29) (pc := 16) hC dX11_span_16 (by decide) (fun c4 => ?_) (fun c4 => ?_)
    · replace h := it_t c4 h
      exact hJ29 h
    · replace h := it_f c4 h
      refine g_iload_n (pc := 19) hC dX11_span_19 rfl ?_
      refine g_bipush (pc := 20) hC kb_6 dX11_span_20 ?_
      refine g_icmp_gt (tgt := 29) (pc := 22) hC dX11_span_22 (by decide) (fun c5 => ?_) (fun c5 => ?_)
      · replace h := it_t c5 h
        exact hJ29 h
      · replace h := it_f c5 h
        refine g_iconst (pc := 25) hC ki_1 dX11_span_25 ?_
        refine g_goto (tgt := 30) (pc := 26) hC dX11_span_26 (by decide) ?_
        exact hJ30 1 h
set_option maxRecDepth 20000 in
theorem x_X11_span (l : Launch) (hl9 : l.stackTraces = false) (E : uE) (a1 : Int32) (a2 : Int32) (σ : uS) (kx : Nat) (σr : uS) (h : F_X11_span a1 a2 σ = some (.inr kx, σr)) : CtX l E yX11_span cX11_span 3 7 134 [.ref (E.2.1 0), .int a1, .int a2] σ kx σr := by
  refine enterX 0 [some (.ref (E.2.1 0)), some (.int a1), some (.int a2)] (by decide +kernel) rfl (Nat.le_of_ble_eq_true rfl) (fun o K hnL hC hab h6 hXt hR => ?_)
  have hC : Cx E K RX11 cX11_span (some .int) 7 134 := hC
  have hN : ∀ k, k < 3 → k < K.2.2.2.2.2 := fun k hk => hnL ▸ hk
  delta F_X11_span at h
  refine g_aload_n (pc := 0) hC dX11_span_0 rfl ?_
  obtain ⟨σ1, hc, h⟩ := cp_e h
  refine g_callVv (pc := 1) (As := []) (rest := []) hC (c_X11_findPath l E σ σ1 hc) mi_X11_findPath mv_X11_findPath ob_0 rfl rfl lk_X11_175 rfl rfl (Nat.le_of_ble_eq_true rfl) ⟨by decide, by decide⟩ hab dX11_span_1 ?_
  refine g_aload_n (pc := 4) hC dX11_span_4 rfl ?_
  refine fg_X11_62_0 (pc := 5) hC dX11_span_5 ?_
  refine g_iload_n (pc := 8) hC dX11_span_8 rfl ?_
  obtain ⟨v2, hc, h⟩ := cp_e h
  refine g_callVi (pc := 9) (As := [.int a1]) (rest := []) hC (c_X8_has l E a1 σ1 v2 hc) mi_X8_has mv_X8_has ob_34 rfl rfl lk_X11_237 rfl rfl (Nat.le_of_ble_eq_true rfl) ⟨by decide, by decide⟩ hab dX11_span_9 ?_
  have hJ30 : ∀ (v6 : Int32), J_X11_span_2 a1 a2 σ1 v6 = some (.inr kx, σr) → Gd l E K 0 0 o σ1 30 [some (.ref (E.2.1 0)), some (.int a1), some (.int a2)] [.int v6] := by
    intro v6 h
    delta J_X11_span_2 at h
    by_cases c7 : v6 = 0
    · replace h := it_t c7 h
      exact g_thr (pc := 30) (As := [.int v6]) (rest := []) hC (x_X11_need l hl9 E v6 σ1 c7) mi_X11_need ms_X11_need lk_X11_139 rfl rfl (Nat.le_of_ble_eq_true rfl) ⟨by decide, by decide⟩ h6 hXt h hR dX11_span_30
    · replace h := it_f c7 h
      refine g_callSv (pc := 30) (As := [.int v6]) (rest := []) hC (c_X11_need l E v6 σ1 c7) mi_X11_need ms_X11_need lk_X11_139 rfl rfl (Nat.le_of_ble_eq_true rfl) ⟨by decide, by decide⟩ hab dX11_span_30 ?_
      refine g_iload_n (pc := 33) hC dX11_span_33 rfl ?_
      by_cases c8 : a2 = 0
      · replace h := it_t c8 h
        refine g_tabIn (tgt := 72) (off := 38) (pc := 34) hC dX11_span_34 (by rw [c8]; decide) (by rw [c8]; decide) (by rw [c8]; rfl) (by decide) ?_
        refine g_aload_n (pc := 72) hC dX11_span_72 rfl ?_
        refine fg_X11_62_0 (pc := 73) hC dX11_span_73 ?_
        refine g_iload_n (pc := 76) hC dX11_span_76 rfl ?_
        obtain ⟨v9, hc, h⟩ := cp_e h
        refine g_callVi (pc := 77) (As := [.int a1]) (rest := []) hC (c_X8_firstFrame l E a1 σ1 v9 hc) mi_X8_firstFrame mv_X8_firstFrame ob_34 rfl rfl lk_X11_238 rfl rfl (Nat.le_of_ble_eq_true rfl) ⟨by decide, by decide⟩ hab dX11_span_77 ?_
        exact th_tr h
      · replace h := it_f c8 h
        by_cases c10 : a2 = 1
        · replace h := it_t c10 h
          refine g_tabIn (tgt := 81) (off := 47) (pc := 34) hC dX11_span_34 (by rw [c10]; decide) (by rw [c10]; decide) (by rw [c10]; rfl) (by decide) ?_
          refine g_aload_n (pc := 81) hC dX11_span_81 rfl ?_
          refine fg_X11_62_0 (pc := 82) hC dX11_span_82 ?_
          refine g_iload_n (pc := 85) hC dX11_span_85 rfl ?_
          obtain ⟨v11, hc, h⟩ := cp_e h
          refine g_callVi (pc := 86) (As := [.int a1]) (rest := []) hC (c_X8_length l E a1 σ1 v11 hc) mi_X8_length mv_X8_length ob_34 rfl rfl lk_X11_241 rfl rfl (Nat.le_of_ble_eq_true rfl) ⟨by decide, by decide⟩ hab dX11_span_86 ?_
          exact th_tr h
        · replace h := it_f c10 h
          by_cases c12 : a2 = 2
          · replace h := it_t c12 h
            refine g_tabIn (tgt := 90) (off := 56) (pc := 34) hC dX11_span_34 (by rw [c12]; decide) (by rw [c12]; decide) (by rw [c12]; rfl) (by decide) ?_
            refine g_aload_n (pc := 90) hC dX11_span_90 rfl ?_
            refine fg_X11_62_0 (pc := 91) hC dX11_span_91 ?_
            refine g_iload_n (pc := 94) hC dX11_span_94 rfl ?_
            obtain ⟨v13, hc, h⟩ := cp_e h
            refine g_callVi (pc := 95) (As := [.int a1]) (rest := []) hC (c_X8_isVoiced l E a1 σ1 v13 hc) mi_X8_isVoiced mv_X8_isVoiced ob_34 rfl rfl lk_X11_244 rfl rfl (Nat.le_of_ble_eq_true rfl) ⟨by decide, by decide⟩ hab dX11_span_95 ?_
            obtain ⟨v15, ev15, h⟩ := lt_e h
            have hJ106 : Gd l E K 0 0 o σ1 106 [none, none, none] [.int v15] := by
              exact th_tr h
            refine g_if_eq (tgt := 105) (pc := 98) hC dX11_span_98 (by decide) (fun c14 => ?_) (fun c14 => ?_)
            · refine g_iconst (pc := 105) hC ki_0 dX11_span_105 ?_
              refine g_mask [false, false, false] rfl ?_
              exact g_top (iv_t c14 ev15) hJ106
            · refine g_iconst (pc := 101) hC ki_1 dX11_span_101 ?_
              refine g_goto (tgt := 106) (pc := 102) hC dX11_span_102 (by decide) ?_
              refine g_mask [false, false, false] rfl ?_
              exact g_top (iv_f c14 ev15) hJ106
          · replace h := it_f c12 h
            by_cases c16 : a2 = 3
            · replace h := it_t c16 h
              refine g_tabIn (tgt := 107) (off := 73) (pc := 34) hC dX11_span_34 (by rw [c16]; decide) (by rw [c16]; decide) (by rw [c16]; rfl) (by decide) ?_
              refine g_aload_n (pc := 107) hC dX11_span_107 rfl ?_
              refine fg_X11_62_0 (pc := 108) hC dX11_span_108 ?_
              refine g_iload_n (pc := 111) hC dX11_span_111 rfl ?_
              obtain ⟨v17, hc, h⟩ := cp_e h
              refine g_callVi (pc := 112) (As := [.int a1]) (rest := []) hC (c_X8_from l E a1 σ1 v17 hc) mi_X8_from mv_X8_from ob_34 rfl rfl lk_X11_247 rfl rfl (Nat.le_of_ble_eq_true rfl) ⟨by decide, by decide⟩ hab dX11_span_112 ?_
              exact th_tr h
            · replace h := it_f c16 h
              by_cases c18 : a2 = 4
              · replace h := it_t c18 h
                refine g_tabIn (tgt := 116) (off := 82) (pc := 34) hC dX11_span_34 (by rw [c18]; decide) (by rw [c18]; decide) (by rw [c18]; rfl) (by decide) ?_
                refine g_aload_n (pc := 116) hC dX11_span_116 rfl ?_
                refine fg_X11_62_0 (pc := 117) hC dX11_span_117 ?_
                refine g_iload_n (pc := 120) hC dX11_span_120 rfl ?_
                obtain ⟨v19, hc, h⟩ := cp_e h
                refine g_callVi (pc := 121) (As := [.int a1]) (rest := []) hC (c_X8_to l E a1 σ1 v19 hc) mi_X8_to mv_X8_to ob_34 rfl rfl lk_X11_250 rfl rfl (Nat.le_of_ble_eq_true rfl) ⟨by decide, by decide⟩ hab dX11_span_121 ?_
                exact th_tr h
              · replace h := it_f c18 h
                by_cases c20 : a2 = 5
                · replace h := it_t c20 h
                  refine g_tabIn (tgt := 125) (off := 91) (pc := 34) hC dX11_span_34 (by rw [c20]; decide) (by rw [c20]; decide) (by rw [c20]; rfl) (by decide) ?_
                  refine g_aload_n (pc := 125) hC dX11_span_125 rfl ?_
                  obtain ⟨σ21, hc, h⟩ := cp_e h
                  refine g_callVv (pc := 126) (As := []) (rest := []) hC (c_X11_findMarks l E σ1 σ21 hc) mi_X11_findMarks mv_X11_findMarks ob_0 rfl rfl lk_X11_253 rfl rfl (Nat.le_of_ble_eq_true rfl) ⟨by decide, by decide⟩ hab dX11_span_126 ?_
                  refine g_aload_n (pc := 129) hC dX11_span_129 rfl ?_
                  refine fg_X11_80_0 (pc := 130) hC dX11_span_130 ?_
                  refine g_iload_n (pc := 133) hC dX11_span_133 rfl ?_
                  obtain ⟨v22, hc, h⟩ := cp_e h
                  refine g_callVi (pc := 134) (As := [.int a1]) (rest := []) hC (c_X3_sizeIn l E a1 σ21 v22 hc) mi_X3_sizeIn mv_X3_sizeIn ob_44 rfl rfl lk_X11_256 rfl rfl (Nat.le_of_ble_eq_true rfl) ⟨by decide, by decide⟩ hab dX11_span_134 ?_
                  exact th_tr h
                · replace h := it_f c20 h
                  have q0 := sw_ne (n := 0) c8 rfl
                  have q1 := sw_ne (n := 1) c10 rfl
                  have q2 := sw_ne (n := 2) c12 rfl
                  have q3 := sw_ne (n := 3) c16 rfl
                  have q4 := sw_ne (n := 4) c18 rfl
                  have q5 := sw_ne (n := 5) c20 rfl
                  refine g_tabOut (tgt := 138) (pc := 34) hC dX11_span_34 (by omega) (by decide) ?_
                  refine g_aload_n (pc := 138) hC dX11_span_138 rfl ?_
                  obtain ⟨σ23, hc, h⟩ := cp_e h
                  refine g_callVv (pc := 139) (As := []) (rest := []) hC (c_X11_findMarks l E σ1 σ23 hc) mi_X11_findMarks mv_X11_findMarks ob_0 rfl rfl lk_X11_253 rfl rfl (Nat.le_of_ble_eq_true rfl) ⟨by decide, by decide⟩ hab dX11_span_139 ?_
                  refine g_aload_n (pc := 142) hC dX11_span_142 rfl ?_
                  refine fg_X11_80_0 (pc := 143) hC dX11_span_143 ?_
                  refine g_iload_n (pc := 146) hC dX11_span_146 rfl ?_
                  obtain ⟨v24, hc, h⟩ := cp_e h
                  refine g_callVi (pc := 147) (As := [.int a1]) (rest := []) hC (c_X3_worthIn l E a1 σ23 v24 hc) mi_X3_worthIn mv_X3_worthIn ob_44 rfl rfl lk_X11_259 rfl rfl (Nat.le_of_ble_eq_true rfl) ⟨by decide, by decide⟩ hab dX11_span_147 ?_
                  exact th_tr h
  have hJ29 : J_X11_span_1 a1 a2 σ1 = some (.inr kx, σr) → Gd l E K 0 0 o σ1 29 [some (.ref (E.2.1 0)), some (.int a1), some (.int a2)] [] := by
    intro h
    delta J_X11_span_1 at h
    refine g_iconst (pc := 29) hC ki_0 dX11_span_29 ?_
    exact hJ30 0 h
  refine g_if_eq (tgt := 29) (pc := 12) hC dX11_span_12 (by decide) (fun c3 => ?_) (fun c3 => ?_)
  · replace h := it_t c3 h
    exact hJ29 h
  · replace h := it_f c3 h
    refine g_iload_n (pc := 15) hC dX11_span_15 rfl ?_
    refine g_if_lt (tgt := 29) (pc := 16) hC dX11_span_16 (by decide) (fun c4 => ?_) (fun c4 => ?_)
    · replace h := it_t c4 h
      exact hJ29 h
    · replace h := it_f c4 h
      refine g_iload_n (pc := 19) hC dX11_span_19 rfl ?_
      refine g_bipush (pc := 20) hC kb_6 dX11_span_20 ?_
      refine g_icmp_gt (tgt := 29) (pc := 22) hC dX11_span_22 (by decide) (fun c5 => ?_) (fun c5 => ?_)
      · replace h := it_t c5 h
        exact hJ29 h
      · replace h := it_f c5 h
        refine g_iconst (pc := 25) hC ki_1 dX11_span_25 ?_
        refine g_goto (tgt := 30) (pc := 26) hC dX11_span_26 (by decide) ?_
        exact hJ30 1 h
set_option maxRecDepth 20000 in
theorem c_X11_note (l : Launch) (E : uE) (a1 : Int32) (a2 : Int32) (σ : uS) (r : Int32) (σr : uS) (h : F_X11_note a1 a2 σ = some (.inl r, σr)) : CtI l E yX11_note cX11_note 3 (some .int) 7 114 [.ref (E.2.1 0), .int a1, .int a2] σ r σr := by
  refine enterI 0 [some (.ref (E.2.1 0)), some (.int a1), some (.int a2)] (by decide +kernel) rfl (Nat.le_of_ble_eq_true rfl) (fun o K hnL hC hab hR => ?_)
  have hC : Cx E K RX11 cX11_note (some .int) 7 114 := hC
  have hN : ∀ k, k < 3 → k < K.2.2.2.2.2 := fun k hk => hnL ▸ hk
  delta F_X11_note at h
  refine g_aload_n (pc := 0) hC dX11_note_0 rfl ?_
  obtain ⟨σ1, hc, h⟩ := cp_e h
  refine g_callVv (pc := 1) (As := []) (rest := []) hC (c_X11_findPath l E σ σ1 hc) mi_X11_findPath mv_X11_findPath ob_0 rfl rfl lk_X11_175 rfl rfl (Nat.le_of_ble_eq_true rfl) ⟨by decide, by decide⟩ hab dX11_note_1 ?_
  refine g_aload_n (pc := 4) hC dX11_note_4 rfl ?_
  refine fg_X11_71_0 (pc := 5) hC dX11_note_5 ?_
  refine g_iload_n (pc := 8) hC dX11_note_8 rfl ?_
  obtain ⟨v2, hc, h⟩ := cp_e h
  refine g_callVi (pc := 9) (As := [.int a1]) (rest := []) hC (c_X4_has l E a1 σ1 v2 hc) mi_X4_has mv_X4_has ob_38 rfl rfl lk_X11_263 rfl rfl (Nat.le_of_ble_eq_true rfl) ⟨by decide, by decide⟩ hab dX11_note_9 ?_
  have hJ29 : ∀ (v6 : Int32), J_X11_note_2 a1 a2 σ1 v6 = some (.inl r, σr) → Gd l E K 0 0 o σ1 29 [some (.ref (E.2.1 0)), some (.int a1), some (.int a2)] [.int v6] := by
    intro v6 h
    delta J_X11_note_2 at h
    by_cases c7 : v6 = 0
    · replace h := it_t c7 h
      exact th_rt h
    · replace h := it_f c7 h
      refine g_callSv (pc := 29) (As := [.int v6]) (rest := []) hC (c_X11_need l E v6 σ1 c7) mi_X11_need ms_X11_need lk_X11_139 rfl rfl (Nat.le_of_ble_eq_true rfl) ⟨by decide, by decide⟩ hab dX11_note_29 ?_
      refine g_iload_n (pc := 32) hC dX11_note_32 rfl ?_
      by_cases c8 : a2 = 0
      · replace h := it_t c8 h
        refine g_look (tgt := 60) (off := 27) (pc := 33) hC dX11_note_33 rfl (by rw [c8]; rfl) (by decide) ?_
        refine g_aload_n (pc := 60) hC dX11_note_60 rfl ?_
        refine fg_X11_71_0 (pc := 61) hC dX11_note_61 ?_
        refine g_iload_n (pc := 64) hC dX11_note_64 rfl ?_
        obtain ⟨v9, hc, h⟩ := cp_e h
        refine g_callVi (pc := 65) (As := [.int a1]) (rest := []) hC (c_X4_firstFrame l E a1 σ1 v9 hc) mi_X4_firstFrame mv_X4_firstFrame ob_38 rfl rfl lk_X11_264 rfl rfl (Nat.le_of_ble_eq_true rfl) ⟨by decide, by decide⟩ hab dX11_note_65 ?_
        exact g_rett (pc := 68) hC h hR dX11_note_68
      · replace h := it_f c8 h
        by_cases c10 : a2 = 1
        · replace h := it_t c10 h
          refine g_look (tgt := 69) (off := 36) (pc := 33) hC dX11_note_33 rfl (by rw [c10]; rfl) (by decide) ?_
          refine g_aload_n (pc := 69) hC dX11_note_69 rfl ?_
          refine fg_X11_71_0 (pc := 70) hC dX11_note_70 ?_
          refine g_iload_n (pc := 73) hC dX11_note_73 rfl ?_
          obtain ⟨v11, hc, h⟩ := cp_e h
          refine g_callVi (pc := 74) (As := [.int a1]) (rest := []) hC (c_X4_length l E a1 σ1 v11 hc) mi_X4_length mv_X4_length ob_38 rfl rfl lk_X11_265 rfl rfl (Nat.le_of_ble_eq_true rfl) ⟨by decide, by decide⟩ hab dX11_note_74 ?_
          exact g_rett (pc := 77) hC h hR dX11_note_77
        · replace h := it_f c10 h
          have q0 := sw_ne (n := 0) c8 rfl
          have q1 := sw_ne (n := 1) c10 rfl
          refine g_look (tgt := 78) (off := 45) (pc := 33) hC dX11_note_33 rfl (by simp [Op.lookupswitch.offset, q0, q0.symm, q1, q1.symm]) (by decide) ?_
          refine g_aload_n (pc := 78) hC dX11_note_78 rfl ?_
          refine fg_X11_71_0 (pc := 79) hC dX11_note_79 ?_
          refine g_iload_n (pc := 82) hC dX11_note_82 rfl ?_
          obtain ⟨v12, hc, h⟩ := cp_e h
          refine g_callVi (pc := 83) (As := [.int a1]) (rest := []) hC (c_X4_lagOf l E a1 σ1 v12 hc) mi_X4_lagOf mv_X4_lagOf ob_38 rfl rfl lk_X11_266 rfl rfl (Nat.le_of_ble_eq_true rfl) ⟨by decide, by decide⟩ hab dX11_note_83 ?_
          exact g_rett (pc := 86) hC h hR dX11_note_86
  have hJ28 : J_X11_note_1 a1 a2 σ1 = some (.inl r, σr) → Gd l E K 0 0 o σ1 28 [some (.ref (E.2.1 0)), some (.int a1), some (.int a2)] [] := by
    intro h
    delta J_X11_note_1 at h
    refine g_iconst (pc := 28) hC ki_0 dX11_note_28 ?_
    exact hJ29 0 h
  refine g_if_eq (tgt := 28) (pc := 12) hC dX11_note_12 (by decide) (fun c3 => ?_) (fun c3 => ?_)
  · replace h := it_t c3 h
    exact hJ28 h
  · replace h := it_f c3 h
    refine g_iload_n (pc := 15) hC dX11_note_15 rfl ?_
    refine g_if_lt (tgt := 28) (pc := 16) hC dX11_note_16 (by decide) (fun c4 => ?_) (fun c4 => ?_)
    · replace h := it_t c4 h
      exact hJ28 h
    · replace h := it_f c4 h
      refine g_iload_n (pc := 19) hC dX11_note_19 rfl ?_
      refine g_iconst (pc := 20) hC ki_2 dX11_note_20 ?_
      refine g_icmp_gt (tgt := 28) (pc := 21) hC dX11_note_21 (by decide) (fun c5 => ?_) (fun c5 => ?_)
      · replace h := it_t c5 h
        exact hJ28 h
      · replace h := it_f c5 h
        refine g_iconst (pc := 24) hC ki_1 dX11_note_24 ?_
        refine g_goto (tgt := 29) (pc := 25) hC dX11_note_25 (by decide) ?_
        exact hJ29 1 h
set_option maxRecDepth 20000 in
theorem x_X11_note (l : Launch) (hl9 : l.stackTraces = false) (E : uE) (a1 : Int32) (a2 : Int32) (σ : uS) (kx : Nat) (σr : uS) (h : F_X11_note a1 a2 σ = some (.inr kx, σr)) : CtX l E yX11_note cX11_note 3 7 114 [.ref (E.2.1 0), .int a1, .int a2] σ kx σr := by
  refine enterX 0 [some (.ref (E.2.1 0)), some (.int a1), some (.int a2)] (by decide +kernel) rfl (Nat.le_of_ble_eq_true rfl) (fun o K hnL hC hab h6 hXt hR => ?_)
  have hC : Cx E K RX11 cX11_note (some .int) 7 114 := hC
  have hN : ∀ k, k < 3 → k < K.2.2.2.2.2 := fun k hk => hnL ▸ hk
  delta F_X11_note at h
  refine g_aload_n (pc := 0) hC dX11_note_0 rfl ?_
  obtain ⟨σ1, hc, h⟩ := cp_e h
  refine g_callVv (pc := 1) (As := []) (rest := []) hC (c_X11_findPath l E σ σ1 hc) mi_X11_findPath mv_X11_findPath ob_0 rfl rfl lk_X11_175 rfl rfl (Nat.le_of_ble_eq_true rfl) ⟨by decide, by decide⟩ hab dX11_note_1 ?_
  refine g_aload_n (pc := 4) hC dX11_note_4 rfl ?_
  refine fg_X11_71_0 (pc := 5) hC dX11_note_5 ?_
  refine g_iload_n (pc := 8) hC dX11_note_8 rfl ?_
  obtain ⟨v2, hc, h⟩ := cp_e h
  refine g_callVi (pc := 9) (As := [.int a1]) (rest := []) hC (c_X4_has l E a1 σ1 v2 hc) mi_X4_has mv_X4_has ob_38 rfl rfl lk_X11_263 rfl rfl (Nat.le_of_ble_eq_true rfl) ⟨by decide, by decide⟩ hab dX11_note_9 ?_
  have hJ29 : ∀ (v6 : Int32), J_X11_note_2 a1 a2 σ1 v6 = some (.inr kx, σr) → Gd l E K 0 0 o σ1 29 [some (.ref (E.2.1 0)), some (.int a1), some (.int a2)] [.int v6] := by
    intro v6 h
    delta J_X11_note_2 at h
    by_cases c7 : v6 = 0
    · replace h := it_t c7 h
      exact g_thr (pc := 29) (As := [.int v6]) (rest := []) hC (x_X11_need l hl9 E v6 σ1 c7) mi_X11_need ms_X11_need lk_X11_139 rfl rfl (Nat.le_of_ble_eq_true rfl) ⟨by decide, by decide⟩ h6 hXt h hR dX11_note_29
    · replace h := it_f c7 h
      refine g_callSv (pc := 29) (As := [.int v6]) (rest := []) hC (c_X11_need l E v6 σ1 c7) mi_X11_need ms_X11_need lk_X11_139 rfl rfl (Nat.le_of_ble_eq_true rfl) ⟨by decide, by decide⟩ hab dX11_note_29 ?_
      refine g_iload_n (pc := 32) hC dX11_note_32 rfl ?_
      by_cases c8 : a2 = 0
      · replace h := it_t c8 h
        refine g_look (tgt := 60) (off := 27) (pc := 33) hC dX11_note_33 rfl (by rw [c8]; rfl) (by decide) ?_
        refine g_aload_n (pc := 60) hC dX11_note_60 rfl ?_
        refine fg_X11_71_0 (pc := 61) hC dX11_note_61 ?_
        refine g_iload_n (pc := 64) hC dX11_note_64 rfl ?_
        obtain ⟨v9, hc, h⟩ := cp_e h
        refine g_callVi (pc := 65) (As := [.int a1]) (rest := []) hC (c_X4_firstFrame l E a1 σ1 v9 hc) mi_X4_firstFrame mv_X4_firstFrame ob_38 rfl rfl lk_X11_264 rfl rfl (Nat.le_of_ble_eq_true rfl) ⟨by decide, by decide⟩ hab dX11_note_65 ?_
        exact th_tr h
      · replace h := it_f c8 h
        by_cases c10 : a2 = 1
        · replace h := it_t c10 h
          refine g_look (tgt := 69) (off := 36) (pc := 33) hC dX11_note_33 rfl (by rw [c10]; rfl) (by decide) ?_
          refine g_aload_n (pc := 69) hC dX11_note_69 rfl ?_
          refine fg_X11_71_0 (pc := 70) hC dX11_note_70 ?_
          refine g_iload_n (pc := 73) hC dX11_note_73 rfl ?_
          obtain ⟨v11, hc, h⟩ := cp_e h
          refine g_callVi (pc := 74) (As := [.int a1]) (rest := []) hC (c_X4_length l E a1 σ1 v11 hc) mi_X4_length mv_X4_length ob_38 rfl rfl lk_X11_265 rfl rfl (Nat.le_of_ble_eq_true rfl) ⟨by decide, by decide⟩ hab dX11_note_74 ?_
          exact th_tr h
        · replace h := it_f c10 h
          have q0 := sw_ne (n := 0) c8 rfl
          have q1 := sw_ne (n := 1) c10 rfl
          refine g_look (tgt := 78) (off := 45) (pc := 33) hC dX11_note_33 rfl (by simp [Op.lookupswitch.offset, q0, q0.symm, q1, q1.symm]) (by decide) ?_
          refine g_aload_n (pc := 78) hC dX11_note_78 rfl ?_
          refine fg_X11_71_0 (pc := 79) hC dX11_note_79 ?_
          refine g_iload_n (pc := 82) hC dX11_note_82 rfl ?_
          obtain ⟨v12, hc, h⟩ := cp_e h
          refine g_callVi (pc := 83) (As := [.int a1]) (rest := []) hC (c_X4_lagOf l E a1 σ1 v12 hc) mi_X4_lagOf mv_X4_lagOf ob_38 rfl rfl lk_X11_266 rfl rfl (Nat.le_of_ble_eq_true rfl) ⟨by decide, by decide⟩ hab dX11_note_83 ?_
          exact th_tr h
  have hJ28 : J_X11_note_1 a1 a2 σ1 = some (.inr kx, σr) → Gd l E K 0 0 o σ1 28 [some (.ref (E.2.1 0)), some (.int a1), some (.int a2)] [] := by
    intro h
    delta J_X11_note_1 at h
    refine g_iconst (pc := 28) hC ki_0 dX11_note_28 ?_
    exact hJ29 0 h
  refine g_if_eq (tgt := 28) (pc := 12) hC dX11_note_12 (by decide) (fun c3 => ?_) (fun c3 => ?_)
  · replace h := it_t c3 h
    exact hJ28 h
  · replace h := it_f c3 h
    refine g_iload_n (pc := 15) hC dX11_note_15 rfl ?_
    refine g_if_lt (tgt := 28) (pc := 16) hC dX11_note_16 (by decide) (fun c4 => ?_) (fun c4 => ?_)
    · replace h := it_t c4 h
      exact hJ28 h
    · replace h := it_f c4 h
      refine g_iload_n (pc := 19) hC dX11_note_19 rfl ?_
      refine g_iconst (pc := 20) hC ki_2 dX11_note_20 ?_
      refine g_icmp_gt (tgt := 28) (pc := 21) hC dX11_note_21 (by decide) (fun c5 => ?_) (fun c5 => ?_)
      · replace h := it_t c5 h
        exact hJ28 h
      · replace h := it_f c5 h
        refine g_iconst (pc := 24) hC ki_1 dX11_note_24 ?_
        refine g_goto (tgt := 29) (pc := 25) hC dX11_note_25 (by decide) ?_
        exact hJ29 1 h
set_option maxRecDepth 20000 in
theorem c_X11_steady (l : Launch) (E : uE) (a1 : Int32) (σ : uS) (r : Int32) (σr : uS) (h : F_X11_steady a1 σ = some (.inl r, σr)) : CtI l E yX11_steady cX11_steady 2 (some .int) 7 114 [.ref (E.2.1 0), .int a1] σ r σr := by
  refine enterI 0 [some (.ref (E.2.1 0)), some (.int a1)] (by decide +kernel) rfl (Nat.le_of_ble_eq_true rfl) (fun o K hnL hC hab hR => ?_)
  have hC : Cx E K RX11 cX11_steady (some .int) 7 114 := hC
  have hN : ∀ k, k < 2 → k < K.2.2.2.2.2 := fun k hk => hnL ▸ hk
  delta F_X11_steady at h
  refine g_iload_n (pc := 0) hC dX11_steady_0 rfl ?_
  have hJ14 : ∀ (v3 : Int32), J_X11_steady_2 a1 σ v3 = some (.inl r, σr) → Gd l E K 0 0 o σ 14 [some (.ref (E.2.1 0)), some (.int a1)] [.int v3] := by
    intro v3 h
    delta J_X11_steady_2 at h
    by_cases c4 : v3 = 0
    · replace h := it_t c4 h
      exact th_rt h
    · replace h := it_f c4 h
      refine g_callSv (pc := 14) (As := [.int v3]) (rest := []) hC (c_X11_need l E v3 σ c4) mi_X11_need ms_X11_need lk_X11_139 rfl rfl (Nat.le_of_ble_eq_true rfl) ⟨by decide, by decide⟩ hab dX11_steady_14 ?_
      refine g_aload_n (pc := 17) hC dX11_steady_17 rfl ?_
      obtain ⟨σ5, hc, h⟩ := cp_e h
      refine g_callVv (pc := 18) (As := []) (rest := []) hC (c_X11_findPath l E σ σ5 hc) mi_X11_findPath mv_X11_findPath ob_0 rfl rfl lk_X11_175 rfl rfl (Nat.le_of_ble_eq_true rfl) ⟨by decide, by decide⟩ hab dX11_steady_18 ?_
      refine g_iload_n (pc := 21) hC dX11_steady_21 rfl ?_
      by_cases c6 : a1 = 0
      · replace h := it_t c6 h
        refine g_look (tgt := 48) (off := 26) (pc := 22) hC dX11_steady_22 rfl (by rw [c6]; rfl) (by decide) ?_
        refine g_aload_n (pc := 48) hC dX11_steady_48 rfl ?_
        refine fg_X11_71_0 (pc := 49) hC dX11_steady_49 ?_
        obtain ⟨v7, hc, h⟩ := cp_e h
        refine g_callVi (pc := 52) (As := []) (rest := []) hC (c_X4_steadyFirst l E σ5 v7 hc) mi_X4_steadyFirst mv_X4_steadyFirst ob_38 rfl rfl lk_X11_268 rfl rfl (Nat.le_of_ble_eq_true rfl) ⟨by decide, by decide⟩ hab dX11_steady_52 ?_
        exact g_rett (pc := 55) hC h hR dX11_steady_55
      · replace h := it_f c6 h
        by_cases c8 : a1 = 1
        · replace h := it_t c8 h
          refine g_look (tgt := 56) (off := 34) (pc := 22) hC dX11_steady_22 rfl (by rw [c8]; rfl) (by decide) ?_
          refine g_aload_n (pc := 56) hC dX11_steady_56 rfl ?_
          refine fg_X11_71_0 (pc := 57) hC dX11_steady_57 ?_
          obtain ⟨v9, hc, h⟩ := cp_e h
          refine g_callVi (pc := 60) (As := []) (rest := []) hC (c_X4_steadyLength l E σ5 v9 hc) mi_X4_steadyLength mv_X4_steadyLength ob_38 rfl rfl lk_X11_271 rfl rfl (Nat.le_of_ble_eq_true rfl) ⟨by decide, by decide⟩ hab dX11_steady_60 ?_
          exact g_rett (pc := 63) hC h hR dX11_steady_63
        · replace h := it_f c8 h
          have q0 := sw_ne (n := 0) c6 rfl
          have q1 := sw_ne (n := 1) c8 rfl
          refine g_look (tgt := 64) (off := 42) (pc := 22) hC dX11_steady_22 rfl (by simp [Op.lookupswitch.offset, q0, q0.symm, q1, q1.symm]) (by decide) ?_
          refine g_aload_n (pc := 64) hC dX11_steady_64 rfl ?_
          refine fg_X11_71_0 (pc := 65) hC dX11_steady_65 ?_
          obtain ⟨v10, hc, h⟩ := cp_e h
          refine g_callVi (pc := 68) (As := []) (rest := []) hC (c_X4_steadyLag l E σ5 v10 hc) mi_X4_steadyLag mv_X4_steadyLag ob_38 rfl rfl lk_X11_274 rfl rfl (Nat.le_of_ble_eq_true rfl) ⟨by decide, by decide⟩ hab dX11_steady_68 ?_
          exact g_rett (pc := 71) hC h hR dX11_steady_71
  have hJ13 : J_X11_steady_1 a1 σ = some (.inl r, σr) → Gd l E K 0 0 o σ 13 [some (.ref (E.2.1 0)), some (.int a1)] [] := by
    intro h
    delta J_X11_steady_1 at h
    refine g_iconst (pc := 13) hC ki_0 dX11_steady_13 ?_
    exact hJ14 0 h
  refine g_if_lt (tgt := 13) (pc := 1) hC dX11_steady_1 (by decide) (fun c1 => ?_) (fun c1 => ?_)
  · replace h := it_t c1 h
    exact hJ13 h
  · replace h := it_f c1 h
    refine g_iload_n (pc := 4) hC dX11_steady_4 rfl ?_
    refine g_iconst (pc := 5) hC ki_2 dX11_steady_5 ?_
    refine g_icmp_gt (tgt := 13) (pc := 6) hC dX11_steady_6 (by decide) (fun c2 => ?_) (fun c2 => ?_)
    · replace h := it_t c2 h
      exact hJ13 h
    · replace h := it_f c2 h
      refine g_iconst (pc := 9) hC ki_1 dX11_steady_9 ?_
      refine g_goto (tgt := 14) (pc := 10) hC dX11_steady_10 (by decide) ?_
      exact hJ14 1 h
set_option maxRecDepth 20000 in
theorem x_X11_steady (l : Launch) (hl9 : l.stackTraces = false) (E : uE) (a1 : Int32) (σ : uS) (kx : Nat) (σr : uS) (h : F_X11_steady a1 σ = some (.inr kx, σr)) : CtX l E yX11_steady cX11_steady 2 7 114 [.ref (E.2.1 0), .int a1] σ kx σr := by
  refine enterX 0 [some (.ref (E.2.1 0)), some (.int a1)] (by decide +kernel) rfl (Nat.le_of_ble_eq_true rfl) (fun o K hnL hC hab h6 hXt hR => ?_)
  have hC : Cx E K RX11 cX11_steady (some .int) 7 114 := hC
  have hN : ∀ k, k < 2 → k < K.2.2.2.2.2 := fun k hk => hnL ▸ hk
  delta F_X11_steady at h
  refine g_iload_n (pc := 0) hC dX11_steady_0 rfl ?_
  have hJ14 : ∀ (v3 : Int32), J_X11_steady_2 a1 σ v3 = some (.inr kx, σr) → Gd l E K 0 0 o σ 14 [some (.ref (E.2.1 0)), some (.int a1)] [.int v3] := by
    intro v3 h
    delta J_X11_steady_2 at h
    by_cases c4 : v3 = 0
    · replace h := it_t c4 h
      exact g_thr (pc := 14) (As := [.int v3]) (rest := []) hC (x_X11_need l hl9 E v3 σ c4) mi_X11_need ms_X11_need lk_X11_139 rfl rfl (Nat.le_of_ble_eq_true rfl) ⟨by decide, by decide⟩ h6 hXt h hR dX11_steady_14
    · replace h := it_f c4 h
      refine g_callSv (pc := 14) (As := [.int v3]) (rest := []) hC (c_X11_need l E v3 σ c4) mi_X11_need ms_X11_need lk_X11_139 rfl rfl (Nat.le_of_ble_eq_true rfl) ⟨by decide, by decide⟩ hab dX11_steady_14 ?_
      refine g_aload_n (pc := 17) hC dX11_steady_17 rfl ?_
      obtain ⟨σ5, hc, h⟩ := cp_e h
      refine g_callVv (pc := 18) (As := []) (rest := []) hC (c_X11_findPath l E σ σ5 hc) mi_X11_findPath mv_X11_findPath ob_0 rfl rfl lk_X11_175 rfl rfl (Nat.le_of_ble_eq_true rfl) ⟨by decide, by decide⟩ hab dX11_steady_18 ?_
      refine g_iload_n (pc := 21) hC dX11_steady_21 rfl ?_
      by_cases c6 : a1 = 0
      · replace h := it_t c6 h
        refine g_look (tgt := 48) (off := 26) (pc := 22) hC dX11_steady_22 rfl (by rw [c6]; rfl) (by decide) ?_
        refine g_aload_n (pc := 48) hC dX11_steady_48 rfl ?_
        refine fg_X11_71_0 (pc := 49) hC dX11_steady_49 ?_
        obtain ⟨v7, hc, h⟩ := cp_e h
        refine g_callVi (pc := 52) (As := []) (rest := []) hC (c_X4_steadyFirst l E σ5 v7 hc) mi_X4_steadyFirst mv_X4_steadyFirst ob_38 rfl rfl lk_X11_268 rfl rfl (Nat.le_of_ble_eq_true rfl) ⟨by decide, by decide⟩ hab dX11_steady_52 ?_
        exact th_tr h
      · replace h := it_f c6 h
        by_cases c8 : a1 = 1
        · replace h := it_t c8 h
          refine g_look (tgt := 56) (off := 34) (pc := 22) hC dX11_steady_22 rfl (by rw [c8]; rfl) (by decide) ?_
          refine g_aload_n (pc := 56) hC dX11_steady_56 rfl ?_
          refine fg_X11_71_0 (pc := 57) hC dX11_steady_57 ?_
          obtain ⟨v9, hc, h⟩ := cp_e h
          refine g_callVi (pc := 60) (As := []) (rest := []) hC (c_X4_steadyLength l E σ5 v9 hc) mi_X4_steadyLength mv_X4_steadyLength ob_38 rfl rfl lk_X11_271 rfl rfl (Nat.le_of_ble_eq_true rfl) ⟨by decide, by decide⟩ hab dX11_steady_60 ?_
          exact th_tr h
        · replace h := it_f c8 h
          have q0 := sw_ne (n := 0) c6 rfl
          have q1 := sw_ne (n := 1) c8 rfl
          refine g_look (tgt := 64) (off := 42) (pc := 22) hC dX11_steady_22 rfl (by simp [Op.lookupswitch.offset, q0, q0.symm, q1, q1.symm]) (by decide) ?_
          refine g_aload_n (pc := 64) hC dX11_steady_64 rfl ?_
          refine fg_X11_71_0 (pc := 65) hC dX11_steady_65 ?_
          obtain ⟨v10, hc, h⟩ := cp_e h
          refine g_callVi (pc := 68) (As := []) (rest := []) hC (c_X4_steadyLag l E σ5 v10 hc) mi_X4_steadyLag mv_X4_steadyLag ob_38 rfl rfl lk_X11_274 rfl rfl (Nat.le_of_ble_eq_true rfl) ⟨by decide, by decide⟩ hab dX11_steady_68 ?_
          exact th_tr h
  have hJ13 : J_X11_steady_1 a1 σ = some (.inr kx, σr) → Gd l E K 0 0 o σ 13 [some (.ref (E.2.1 0)), some (.int a1)] [] := by
    intro h
    delta J_X11_steady_1 at h
    refine g_iconst (pc := 13) hC ki_0 dX11_steady_13 ?_
    exact hJ14 0 h
  refine g_if_lt (tgt := 13) (pc := 1) hC dX11_steady_1 (by decide) (fun c1 => ?_) (fun c1 => ?_)
  · replace h := it_t c1 h
    exact hJ13 h
  · replace h := it_f c1 h
    refine g_iload_n (pc := 4) hC dX11_steady_4 rfl ?_
    refine g_iconst (pc := 5) hC ki_2 dX11_steady_5 ?_
    refine g_icmp_gt (tgt := 13) (pc := 6) hC dX11_steady_6 (by decide) (fun c2 => ?_) (fun c2 => ?_)
    · replace h := it_t c2 h
      exact hJ13 h
    · replace h := it_f c2 h
      refine g_iconst (pc := 9) hC ki_1 dX11_steady_9 ?_
      refine g_goto (tgt := 14) (pc := 10) hC dX11_steady_10 (by decide) ?_
      exact hJ14 1 h
set_option maxRecDepth 20000 in
theorem c_X11_lagAt (l : Launch) (E : uE) (a1 : Int32) (a2 : Int32) (σ : uS) (r : Int32) (σr : uS) (h : F_X11_lagAt a1 a2 σ = some (.inl r, σr)) : CtI l E yX11_lagAt cX11_lagAt 4 (some .int) 7 114 [.ref (E.2.1 0), .int a1, .int a2] σ r σr := by
  refine enterI 1 [some (.ref (E.2.1 0)), some (.int a1), some (.int a2), none] (by decide +kernel) rfl (Nat.le_of_ble_eq_true rfl) (fun o K hnL hC hab hR => ?_)
  have hC : Cx E K RX11 cX11_lagAt (some .int) 7 114 := hC
  have hN : ∀ k, k < 4 → k < K.2.2.2.2.2 := fun k hk => hnL ▸ hk
  delta F_X11_lagAt at h
  refine g_aload_n (pc := 0) hC dX11_lagAt_0 rfl ?_
  obtain ⟨σ1, hc, h⟩ := cp_e h
  refine g_callVv (pc := 1) (As := []) (rest := []) hC (c_X11_findPath l E σ σ1 hc) mi_X11_findPath mv_X11_findPath ob_0 rfl rfl lk_X11_175 rfl rfl (Nat.le_of_ble_eq_true rfl) ⟨by decide, by decide⟩ hab dX11_lagAt_1 ?_
  refine g_iload_n (pc := 4) hC dX11_lagAt_4 rfl ?_
  have hJ33 : ∀ (v7 : Int32), J_X11_lagAt_3 a1 a2 σ1 v7 = some (.inl r, σr) → Gd l E K 0 0 o σ1 33 [some (.ref (E.2.1 0)), some (.int a1), some (.int a2), none] [.int v7] := by
    intro v7 h
    delta J_X11_lagAt_3 at h
    by_cases c8 : v7 = 0
    · replace h := it_t c8 h
      exact th_rt h
    · replace h := it_f c8 h
      refine g_callSv (pc := 33) (As := [.int v7]) (rest := []) hC (c_X11_need l E v7 σ1 c8) mi_X11_need ms_X11_need lk_X11_139 rfl rfl (Nat.le_of_ble_eq_true rfl) ⟨by decide, by decide⟩ hab dX11_lagAt_33 ?_
      refine g_aload_n (pc := 36) hC dX11_lagAt_36 rfl ?_
      refine fg_X11_71_0 (pc := 37) hC dX11_lagAt_37 ?_
      refine g_iload_n (pc := 40) hC dX11_lagAt_40 rfl ?_
      obtain ⟨v9, hc, h⟩ := cp_e h
      refine g_callVi (pc := 41) (As := [.int a1]) (rest := []) hC (c_X4_unlikeLag l E a1 σ1 v9 hc) mi_X4_unlikeLag mv_X4_unlikeLag ob_38 rfl rfl lk_X11_280 rfl rfl (Nat.le_of_ble_eq_true rfl) ⟨by decide, by decide⟩ hab dX11_lagAt_41 ?_
      refine g_istore_n (lv2 := [some (.ref (E.2.1 0)), some (.int a1), some (.int a2), some (.int v9)]) (pc := 44) hC dX11_lagAt_44 rfl (Or.inr rfl) (hN _ (by decide)) ?_
      refine g_iload_n (pc := 45) hC dX11_lagAt_45 rfl ?_
      have hJ61 : ∀ (v12 : Int32), J_X11_lagAt_2 σ1 v12 = some (.inl r, σr) → Gd l E K 0 0 o σ1 61 [none, none, none, none] [.int v12] := by
        intro v12 h
        delta J_X11_lagAt_2 at h
        exact g_rett (pc := 61) hC h hR dX11_lagAt_61
      refine g_if_ne (tgt := 53) (pc := 46) hC dX11_lagAt_46 (by decide) (fun c10 => ?_) (fun c10 => ?_)
      · replace h := it_f c10 h
        refine g_aload_n (pc := 53) hC dX11_lagAt_53 rfl ?_
        refine fg_X11_71_0 (pc := 54) hC dX11_lagAt_54 ?_
        refine g_iload_n (pc := 57) hC dX11_lagAt_57 rfl ?_
        obtain ⟨v11, hc, h⟩ := cp_e h
        refine g_callVi (pc := 58) (As := [.int v9]) (rest := []) hC (c_X4_framesWith l E v9 σ1 v11 hc) mi_X4_framesWith mv_X4_framesWith ob_38 rfl rfl lk_X11_283 rfl rfl (Nat.le_of_ble_eq_true rfl) ⟨by decide, by decide⟩ hab dX11_lagAt_58 ?_
        refine g_mask [false, false, false, false] rfl ?_
        exact hJ61 v11 h
      · replace h := it_t c10 h
        refine g_iload_n (pc := 49) hC dX11_lagAt_49 rfl ?_
        refine g_goto (tgt := 61) (pc := 50) hC dX11_lagAt_50 (by decide) ?_
        refine g_mask [false, false, false, false] rfl ?_
        exact hJ61 v9 h
  have hJ32 : J_X11_lagAt_1 a1 a2 σ1 = some (.inl r, σr) → Gd l E K 0 0 o σ1 32 [some (.ref (E.2.1 0)), some (.int a1), some (.int a2), none] [] := by
    intro h
    delta J_X11_lagAt_1 at h
    refine g_iconst (pc := 32) hC ki_0 dX11_lagAt_32 ?_
    exact hJ33 0 h
  refine g_if_lt (tgt := 32) (pc := 5) hC dX11_lagAt_5 (by decide) (fun c2 => ?_) (fun c2 => ?_)
  · replace h := it_t c2 h
    exact hJ32 h
  · replace h := it_f c2 h
    refine g_iload_n (pc := 8) hC dX11_lagAt_8 rfl ?_
    refine g_aload_n (pc := 9) hC dX11_lagAt_9 rfl ?_
    refine fg_X11_71_0 (pc := 10) hC dX11_lagAt_10 ?_
    obtain ⟨v3, hc, h⟩ := cp_e h
    refine g_callVi (pc := 13) (As := []) (rest := [.int a1]) hC (c_X4_unlikeLags l E σ1 v3 hc) mi_X4_unlikeLags mv_X4_unlikeLags ob_38 rfl rfl lk_X11_277 rfl rfl (Nat.le_of_ble_eq_true rfl) ⟨by decide, by decide⟩ hab dX11_lagAt_13 ?_
    refine g_icmp_ge (tgt := 32) (pc := 16) hC dX11_lagAt_16 (by decide) (fun c4 => ?_) (fun c4 => ?_)
    · replace h := it_t c4 h
      exact hJ32 h
    · replace h := it_f c4 h
      refine g_iload_n (pc := 19) hC dX11_lagAt_19 rfl ?_
      refine g_if_lt (tgt := 32) (pc := 20) hC dX11_lagAt_20 (by decide) (fun c5 => ?_) (fun c5 => ?_)
      · replace h := it_t c5 h
        exact hJ32 h
      · replace h := it_f c5 h
        refine g_iload_n (pc := 23) hC dX11_lagAt_23 rfl ?_
        refine g_iconst (pc := 24) hC ki_1 dX11_lagAt_24 ?_
        refine g_icmp_gt (tgt := 32) (pc := 25) hC dX11_lagAt_25 (by decide) (fun c6 => ?_) (fun c6 => ?_)
        · replace h := it_t c6 h
          exact hJ32 h
        · replace h := it_f c6 h
          refine g_iconst (pc := 28) hC ki_1 dX11_lagAt_28 ?_
          refine g_goto (tgt := 33) (pc := 29) hC dX11_lagAt_29 (by decide) ?_
          exact hJ33 1 h
set_option maxRecDepth 20000 in
theorem x_X11_lagAt (l : Launch) (hl9 : l.stackTraces = false) (E : uE) (a1 : Int32) (a2 : Int32) (σ : uS) (kx : Nat) (σr : uS) (h : F_X11_lagAt a1 a2 σ = some (.inr kx, σr)) : CtX l E yX11_lagAt cX11_lagAt 4 7 114 [.ref (E.2.1 0), .int a1, .int a2] σ kx σr := by
  refine enterX 1 [some (.ref (E.2.1 0)), some (.int a1), some (.int a2), none] (by decide +kernel) rfl (Nat.le_of_ble_eq_true rfl) (fun o K hnL hC hab h6 hXt hR => ?_)
  have hC : Cx E K RX11 cX11_lagAt (some .int) 7 114 := hC
  have hN : ∀ k, k < 4 → k < K.2.2.2.2.2 := fun k hk => hnL ▸ hk
  delta F_X11_lagAt at h
  refine g_aload_n (pc := 0) hC dX11_lagAt_0 rfl ?_
  obtain ⟨σ1, hc, h⟩ := cp_e h
  refine g_callVv (pc := 1) (As := []) (rest := []) hC (c_X11_findPath l E σ σ1 hc) mi_X11_findPath mv_X11_findPath ob_0 rfl rfl lk_X11_175 rfl rfl (Nat.le_of_ble_eq_true rfl) ⟨by decide, by decide⟩ hab dX11_lagAt_1 ?_
  refine g_iload_n (pc := 4) hC dX11_lagAt_4 rfl ?_
  have hJ33 : ∀ (v7 : Int32), J_X11_lagAt_3 a1 a2 σ1 v7 = some (.inr kx, σr) → Gd l E K 0 0 o σ1 33 [some (.ref (E.2.1 0)), some (.int a1), some (.int a2), none] [.int v7] := by
    intro v7 h
    delta J_X11_lagAt_3 at h
    by_cases c8 : v7 = 0
    · replace h := it_t c8 h
      exact g_thr (pc := 33) (As := [.int v7]) (rest := []) hC (x_X11_need l hl9 E v7 σ1 c8) mi_X11_need ms_X11_need lk_X11_139 rfl rfl (Nat.le_of_ble_eq_true rfl) ⟨by decide, by decide⟩ h6 hXt h hR dX11_lagAt_33
    · replace h := it_f c8 h
      refine g_callSv (pc := 33) (As := [.int v7]) (rest := []) hC (c_X11_need l E v7 σ1 c8) mi_X11_need ms_X11_need lk_X11_139 rfl rfl (Nat.le_of_ble_eq_true rfl) ⟨by decide, by decide⟩ hab dX11_lagAt_33 ?_
      refine g_aload_n (pc := 36) hC dX11_lagAt_36 rfl ?_
      refine fg_X11_71_0 (pc := 37) hC dX11_lagAt_37 ?_
      refine g_iload_n (pc := 40) hC dX11_lagAt_40 rfl ?_
      obtain ⟨v9, hc, h⟩ := cp_e h
      refine g_callVi (pc := 41) (As := [.int a1]) (rest := []) hC (c_X4_unlikeLag l E a1 σ1 v9 hc) mi_X4_unlikeLag mv_X4_unlikeLag ob_38 rfl rfl lk_X11_280 rfl rfl (Nat.le_of_ble_eq_true rfl) ⟨by decide, by decide⟩ hab dX11_lagAt_41 ?_
      refine g_istore_n (lv2 := [some (.ref (E.2.1 0)), some (.int a1), some (.int a2), some (.int v9)]) (pc := 44) hC dX11_lagAt_44 rfl (Or.inr rfl) (hN _ (by decide)) ?_
      refine g_iload_n (pc := 45) hC dX11_lagAt_45 rfl ?_
      have hJ61 : ∀ (v12 : Int32), J_X11_lagAt_2 σ1 v12 = some (.inr kx, σr) → Gd l E K 0 0 o σ1 61 [none, none, none, none] [.int v12] := by
        intro v12 h
        delta J_X11_lagAt_2 at h
        exact th_tr h
      refine g_if_ne (tgt := 53) (pc := 46) hC dX11_lagAt_46 (by decide) (fun c10 => ?_) (fun c10 => ?_)
      · replace h := it_f c10 h
        refine g_aload_n (pc := 53) hC dX11_lagAt_53 rfl ?_
        refine fg_X11_71_0 (pc := 54) hC dX11_lagAt_54 ?_
        refine g_iload_n (pc := 57) hC dX11_lagAt_57 rfl ?_
        obtain ⟨v11, hc, h⟩ := cp_e h
        refine g_callVi (pc := 58) (As := [.int v9]) (rest := []) hC (c_X4_framesWith l E v9 σ1 v11 hc) mi_X4_framesWith mv_X4_framesWith ob_38 rfl rfl lk_X11_283 rfl rfl (Nat.le_of_ble_eq_true rfl) ⟨by decide, by decide⟩ hab dX11_lagAt_58 ?_
        refine g_mask [false, false, false, false] rfl ?_
        exact hJ61 v11 h
      · replace h := it_t c10 h
        refine g_iload_n (pc := 49) hC dX11_lagAt_49 rfl ?_
        refine g_goto (tgt := 61) (pc := 50) hC dX11_lagAt_50 (by decide) ?_
        refine g_mask [false, false, false, false] rfl ?_
        exact hJ61 v9 h
  have hJ32 : J_X11_lagAt_1 a1 a2 σ1 = some (.inr kx, σr) → Gd l E K 0 0 o σ1 32 [some (.ref (E.2.1 0)), some (.int a1), some (.int a2), none] [] := by
    intro h
    delta J_X11_lagAt_1 at h
    refine g_iconst (pc := 32) hC ki_0 dX11_lagAt_32 ?_
    exact hJ33 0 h
  refine g_if_lt (tgt := 32) (pc := 5) hC dX11_lagAt_5 (by decide) (fun c2 => ?_) (fun c2 => ?_)
  · replace h := it_t c2 h
    exact hJ32 h
  · replace h := it_f c2 h
    refine g_iload_n (pc := 8) hC dX11_lagAt_8 rfl ?_
    refine g_aload_n (pc := 9) hC dX11_lagAt_9 rfl ?_
    refine fg_X11_71_0 (pc := 10) hC dX11_lagAt_10 ?_
    obtain ⟨v3, hc, h⟩ := cp_e h
    refine g_callVi (pc := 13) (As := []) (rest := [.int a1]) hC (c_X4_unlikeLags l E σ1 v3 hc) mi_X4_unlikeLags mv_X4_unlikeLags ob_38 rfl rfl lk_X11_277 rfl rfl (Nat.le_of_ble_eq_true rfl) ⟨by decide, by decide⟩ hab dX11_lagAt_13 ?_
    refine g_icmp_ge (tgt := 32) (pc := 16) hC dX11_lagAt_16 (by decide) (fun c4 => ?_) (fun c4 => ?_)
    · replace h := it_t c4 h
      exact hJ32 h
    · replace h := it_f c4 h
      refine g_iload_n (pc := 19) hC dX11_lagAt_19 rfl ?_
      refine g_if_lt (tgt := 32) (pc := 20) hC dX11_lagAt_20 (by decide) (fun c5 => ?_) (fun c5 => ?_)
      · replace h := it_t c5 h
        exact hJ32 h
      · replace h := it_f c5 h
        refine g_iload_n (pc := 23) hC dX11_lagAt_23 rfl ?_
        refine g_iconst (pc := 24) hC ki_1 dX11_lagAt_24 ?_
        refine g_icmp_gt (tgt := 32) (pc := 25) hC dX11_lagAt_25 (by decide) (fun c6 => ?_) (fun c6 => ?_)
        · replace h := it_t c6 h
          exact hJ32 h
        · replace h := it_f c6 h
          refine g_iconst (pc := 28) hC ki_1 dX11_lagAt_28 ?_
          refine g_goto (tgt := 33) (pc := 29) hC dX11_lagAt_29 (by decide) ?_
          exact hJ33 1 h
set_option maxRecDepth 20000 in
theorem c_X11_common (l : Launch) (E : uE) (a1 : Int32) (σ : uS) (r : Int32) (σr : uS) (h : F_X11_common a1 σ = some (.inl r, σr)) : CtI l E yX11_common cX11_common 2 (some .int) 7 114 [.ref (E.2.1 0), .int a1] σ r σr := by
  refine enterI 0 [some (.ref (E.2.1 0)), some (.int a1)] (by decide +kernel) rfl (Nat.le_of_ble_eq_true rfl) (fun o K hnL hC hab hR => ?_)
  have hC : Cx E K RX11 cX11_common (some .int) 7 114 := hC
  have hN : ∀ k, k < 2 → k < K.2.2.2.2.2 := fun k hk => hnL ▸ hk
  delta F_X11_common at h
  refine g_iload_n (pc := 0) hC dX11_common_0 rfl ?_
  have hJ14 : ∀ (v3 : Int32), J_X11_common_3 a1 σ v3 = some (.inl r, σr) → Gd l E K 0 0 o σ 14 [some (.ref (E.2.1 0)), some (.int a1)] [.int v3] := by
    intro v3 h
    delta J_X11_common_3 at h
    by_cases c4 : v3 = 0
    · replace h := it_t c4 h
      exact th_rt h
    · replace h := it_f c4 h
      refine g_callSv (pc := 14) (As := [.int v3]) (rest := []) hC (c_X11_need l E v3 σ c4) mi_X11_need ms_X11_need lk_X11_139 rfl rfl (Nat.le_of_ble_eq_true rfl) ⟨by decide, by decide⟩ hab dX11_common_14 ?_
      refine g_aload_n (pc := 17) hC dX11_common_17 rfl ?_
      obtain ⟨σ5, hc, h⟩ := cp_e h
      refine g_callVv (pc := 18) (As := []) (rest := []) hC (c_X11_findPath l E σ σ5 hc) mi_X11_findPath mv_X11_findPath ob_0 rfl rfl lk_X11_175 rfl rfl (Nat.le_of_ble_eq_true rfl) ⟨by decide, by decide⟩ hab dX11_common_18 ?_
      refine g_iload_n (pc := 21) hC dX11_common_21 rfl ?_
      have hJ42 : ∀ (v9 : Int32), J_X11_common_2 σ5 v9 = some (.inl r, σr) → Gd l E K 0 0 o σ5 42 [none, none] [.int v9] := by
        intro v9 h
        delta J_X11_common_2 at h
        exact g_rett (pc := 42) hC h hR dX11_common_42
      refine g_if_ne (tgt := 35) (pc := 22) hC dX11_common_22 (by decide) (fun c6 => ?_) (fun c6 => ?_)
      · replace h := it_f c6 h
        refine g_aload_n (pc := 35) hC dX11_common_35 rfl ?_
        refine fg_X11_71_0 (pc := 36) hC dX11_common_36 ?_
        obtain ⟨v7, hc, h⟩ := cp_e h
        refine g_callVi (pc := 39) (As := []) (rest := []) hC (c_X4_middleOfAll l E σ5 v7 hc) mi_X4_middleOfAll mv_X4_middleOfAll ob_38 rfl rfl lk_X11_289 rfl rfl (Nat.le_of_ble_eq_true rfl) ⟨by decide, by decide⟩ hab dX11_common_39 ?_
        refine g_mask [false, false] rfl ?_
        exact hJ42 v7 h
      · replace h := it_t c6 h
        refine g_aload_n (pc := 25) hC dX11_common_25 rfl ?_
        refine fg_X11_71_0 (pc := 26) hC dX11_common_26 ?_
        obtain ⟨v8, hc, h⟩ := cp_e h
        refine g_callVi (pc := 29) (As := []) (rest := []) hC (c_X4_commonest l E σ5 v8 hc) mi_X4_commonest mv_X4_commonest ob_38 rfl rfl lk_X11_286 rfl rfl (Nat.le_of_ble_eq_true rfl) ⟨by decide, by decide⟩ hab dX11_common_29 ?_
        refine g_goto (tgt := 42) (pc := 32) hC dX11_common_32 (by decide) ?_
        refine g_mask [false, false] rfl ?_
        exact hJ42 v8 h
  have hJ13 : J_X11_common_1 a1 σ = some (.inl r, σr) → Gd l E K 0 0 o σ 13 [some (.ref (E.2.1 0)), some (.int a1)] [] := by
    intro h
    delta J_X11_common_1 at h
    refine g_iconst (pc := 13) hC ki_0 dX11_common_13 ?_
    exact hJ14 0 h
  refine g_if_lt (tgt := 13) (pc := 1) hC dX11_common_1 (by decide) (fun c1 => ?_) (fun c1 => ?_)
  · replace h := it_t c1 h
    exact hJ13 h
  · replace h := it_f c1 h
    refine g_iload_n (pc := 4) hC dX11_common_4 rfl ?_
    refine g_iconst (pc := 5) hC ki_1 dX11_common_5 ?_
    refine g_icmp_gt (tgt := 13) (pc := 6) hC dX11_common_6 (by decide) (fun c2 => ?_) (fun c2 => ?_)
    · replace h := it_t c2 h
      exact hJ13 h
    · replace h := it_f c2 h
      refine g_iconst (pc := 9) hC ki_1 dX11_common_9 ?_
      refine g_goto (tgt := 14) (pc := 10) hC dX11_common_10 (by decide) ?_
      exact hJ14 1 h
set_option maxRecDepth 20000 in
theorem x_X11_common (l : Launch) (hl9 : l.stackTraces = false) (E : uE) (a1 : Int32) (σ : uS) (kx : Nat) (σr : uS) (h : F_X11_common a1 σ = some (.inr kx, σr)) : CtX l E yX11_common cX11_common 2 7 114 [.ref (E.2.1 0), .int a1] σ kx σr := by
  refine enterX 0 [some (.ref (E.2.1 0)), some (.int a1)] (by decide +kernel) rfl (Nat.le_of_ble_eq_true rfl) (fun o K hnL hC hab h6 hXt hR => ?_)
  have hC : Cx E K RX11 cX11_common (some .int) 7 114 := hC
  have hN : ∀ k, k < 2 → k < K.2.2.2.2.2 := fun k hk => hnL ▸ hk
  delta F_X11_common at h
  refine g_iload_n (pc := 0) hC dX11_common_0 rfl ?_
  have hJ14 : ∀ (v3 : Int32), J_X11_common_3 a1 σ v3 = some (.inr kx, σr) → Gd l E K 0 0 o σ 14 [some (.ref (E.2.1 0)), some (.int a1)] [.int v3] := by
    intro v3 h
    delta J_X11_common_3 at h
    by_cases c4 : v3 = 0
    · replace h := it_t c4 h
      exact g_thr (pc := 14) (As := [.int v3]) (rest := []) hC (x_X11_need l hl9 E v3 σ c4) mi_X11_need ms_X11_need lk_X11_139 rfl rfl (Nat.le_of_ble_eq_true rfl) ⟨by decide, by decide⟩ h6 hXt h hR dX11_common_14
    · replace h := it_f c4 h
      refine g_callSv (pc := 14) (As := [.int v3]) (rest := []) hC (c_X11_need l E v3 σ c4) mi_X11_need ms_X11_need lk_X11_139 rfl rfl (Nat.le_of_ble_eq_true rfl) ⟨by decide, by decide⟩ hab dX11_common_14 ?_
      refine g_aload_n (pc := 17) hC dX11_common_17 rfl ?_
      obtain ⟨σ5, hc, h⟩ := cp_e h
      refine g_callVv (pc := 18) (As := []) (rest := []) hC (c_X11_findPath l E σ σ5 hc) mi_X11_findPath mv_X11_findPath ob_0 rfl rfl lk_X11_175 rfl rfl (Nat.le_of_ble_eq_true rfl) ⟨by decide, by decide⟩ hab dX11_common_18 ?_
      refine g_iload_n (pc := 21) hC dX11_common_21 rfl ?_
      have hJ42 : ∀ (v9 : Int32), J_X11_common_2 σ5 v9 = some (.inr kx, σr) → Gd l E K 0 0 o σ5 42 [none, none] [.int v9] := by
        intro v9 h
        delta J_X11_common_2 at h
        exact th_tr h
      refine g_if_ne (tgt := 35) (pc := 22) hC dX11_common_22 (by decide) (fun c6 => ?_) (fun c6 => ?_)
      · replace h := it_f c6 h
        refine g_aload_n (pc := 35) hC dX11_common_35 rfl ?_
        refine fg_X11_71_0 (pc := 36) hC dX11_common_36 ?_
        obtain ⟨v7, hc, h⟩ := cp_e h
        refine g_callVi (pc := 39) (As := []) (rest := []) hC (c_X4_middleOfAll l E σ5 v7 hc) mi_X4_middleOfAll mv_X4_middleOfAll ob_38 rfl rfl lk_X11_289 rfl rfl (Nat.le_of_ble_eq_true rfl) ⟨by decide, by decide⟩ hab dX11_common_39 ?_
        refine g_mask [false, false] rfl ?_
        exact hJ42 v7 h
      · replace h := it_t c6 h
        refine g_aload_n (pc := 25) hC dX11_common_25 rfl ?_
        refine fg_X11_71_0 (pc := 26) hC dX11_common_26 ?_
        obtain ⟨v8, hc, h⟩ := cp_e h
        refine g_callVi (pc := 29) (As := []) (rest := []) hC (c_X4_commonest l E σ5 v8 hc) mi_X4_commonest mv_X4_commonest ob_38 rfl rfl lk_X11_286 rfl rfl (Nat.le_of_ble_eq_true rfl) ⟨by decide, by decide⟩ hab dX11_common_29 ?_
        refine g_goto (tgt := 42) (pc := 32) hC dX11_common_32 (by decide) ?_
        refine g_mask [false, false] rfl ?_
        exact hJ42 v8 h
  have hJ13 : J_X11_common_1 a1 σ = some (.inr kx, σr) → Gd l E K 0 0 o σ 13 [some (.ref (E.2.1 0)), some (.int a1)] [] := by
    intro h
    delta J_X11_common_1 at h
    refine g_iconst (pc := 13) hC ki_0 dX11_common_13 ?_
    exact hJ14 0 h
  refine g_if_lt (tgt := 13) (pc := 1) hC dX11_common_1 (by decide) (fun c1 => ?_) (fun c1 => ?_)
  · replace h := it_t c1 h
    exact hJ13 h
  · replace h := it_f c1 h
    refine g_iload_n (pc := 4) hC dX11_common_4 rfl ?_
    refine g_iconst (pc := 5) hC ki_1 dX11_common_5 ?_
    refine g_icmp_gt (tgt := 13) (pc := 6) hC dX11_common_6 (by decide) (fun c2 => ?_) (fun c2 => ?_)
    · replace h := it_t c2 h
      exact hJ13 h
    · replace h := it_f c2 h
      refine g_iconst (pc := 9) hC ki_1 dX11_common_9 ?_
      refine g_goto (tgt := 14) (pc := 10) hC dX11_common_10 (by decide) ?_
      exact hJ14 1 h
set_option maxRecDepth 20000 in
theorem c_X11_match (l : Launch) (E : uE) (a1 : Int32) (σ : uS) (r : Int32) (σr : uS) (h : F_X11_match a1 σ = some (.inl r, σr)) : CtI l E yX11_match cX11_match 2 (some .int) 7 114 [.ref (E.2.1 0), .int a1] σ r σr := by
  refine enterI 0 [some (.ref (E.2.1 0)), some (.int a1)] (by decide +kernel) rfl (Nat.le_of_ble_eq_true rfl) (fun o K hnL hC hab hR => ?_)
  have hC : Cx E K RX11 cX11_match (some .int) 7 114 := hC
  have hN : ∀ k, k < 2 → k < K.2.2.2.2.2 := fun k hk => hnL ▸ hk
  delta F_X11_match at h
  refine g_iload_n (pc := 0) hC dX11_match_0 rfl ?_
  have hJ14 : ∀ (v3 : Int32), J_X11_match_3 a1 σ v3 = some (.inl r, σr) → Gd l E K 0 0 o σ 14 [some (.ref (E.2.1 0)), some (.int a1)] [.int v3] := by
    intro v3 h
    delta J_X11_match_3 at h
    by_cases c4 : v3 = 0
    · replace h := it_t c4 h
      exact th_rt h
    · replace h := it_f c4 h
      refine g_callSv (pc := 14) (As := [.int v3]) (rest := []) hC (c_X11_need l E v3 σ c4) mi_X11_need ms_X11_need lk_X11_139 rfl rfl (Nat.le_of_ble_eq_true rfl) ⟨by decide, by decide⟩ hab dX11_match_14 ?_
      refine g_aload_n (pc := 17) hC dX11_match_17 rfl ?_
      obtain ⟨σ5, hc, h⟩ := cp_e h
      refine g_callVv (pc := 18) (As := []) (rest := []) hC (c_X11_findPath l E σ σ5 hc) mi_X11_findPath mv_X11_findPath ob_0 rfl rfl lk_X11_175 rfl rfl (Nat.le_of_ble_eq_true rfl) ⟨by decide, by decide⟩ hab dX11_match_18 ?_
      refine g_aload_n (pc := 21) hC dX11_match_21 rfl ?_
      refine fg_X11_89_0 (pc := 22) hC dX11_match_22 ?_
      obtain ⟨σ6, hc, h⟩ := cp_e h
      refine g_callVv (pc := 25) (As := []) (rest := []) hC (c_X10_findPairs l E σ5 σ6 hc) mi_X10_findPairs mv_X10_findPairs ob_51 rfl rfl lk_X11_301 rfl rfl (Nat.le_of_ble_eq_true rfl) ⟨by decide, by decide⟩ hab dX11_match_25 ?_
      refine g_iload_n (pc := 28) hC dX11_match_28 rfl ?_
      have hJ49 : ∀ (v10 : Int32), J_X11_match_2 σ6 v10 = some (.inl r, σr) → Gd l E K 0 0 o σ6 49 [none, none] [.int v10] := by
        intro v10 h
        delta J_X11_match_2 at h
        exact g_rett (pc := 49) hC h hR dX11_match_49
      refine g_if_ne (tgt := 42) (pc := 29) hC dX11_match_29 (by decide) (fun c7 => ?_) (fun c7 => ?_)
      · replace h := it_f c7 h
        refine g_aload_n (pc := 42) hC dX11_match_42 rfl ?_
        refine fg_X11_89_0 (pc := 43) hC dX11_match_43 ?_
        obtain ⟨v8, hc, h⟩ := cp_e h
        refine g_callVi (pc := 46) (As := []) (rest := []) hC (c_X10_pairs l E σ6 v8 hc) mi_X10_pairs mv_X10_pairs ob_51 rfl rfl lk_X11_307 rfl rfl (Nat.le_of_ble_eq_true rfl) ⟨by decide, by decide⟩ hab dX11_match_46 ?_
        refine g_mask [false, false] rfl ?_
        exact hJ49 v8 h
      · replace h := it_t c7 h
        refine g_aload_n (pc := 32) hC dX11_match_32 rfl ?_
        refine fg_X11_89_0 (pc := 33) hC dX11_match_33 ?_
        obtain ⟨v9, hc, h⟩ := cp_e h
        refine g_callVi (pc := 36) (As := []) (rest := []) hC (c_X10_price l E σ6 v9 hc) mi_X10_price mv_X10_price ob_51 rfl rfl lk_X11_304 rfl rfl (Nat.le_of_ble_eq_true rfl) ⟨by decide, by decide⟩ hab dX11_match_36 ?_
        refine g_goto (tgt := 49) (pc := 39) hC dX11_match_39 (by decide) ?_
        refine g_mask [false, false] rfl ?_
        exact hJ49 v9 h
  have hJ13 : J_X11_match_1 a1 σ = some (.inl r, σr) → Gd l E K 0 0 o σ 13 [some (.ref (E.2.1 0)), some (.int a1)] [] := by
    intro h
    delta J_X11_match_1 at h
    refine g_iconst (pc := 13) hC ki_0 dX11_match_13 ?_
    exact hJ14 0 h
  refine g_if_lt (tgt := 13) (pc := 1) hC dX11_match_1 (by decide) (fun c1 => ?_) (fun c1 => ?_)
  · replace h := it_t c1 h
    exact hJ13 h
  · replace h := it_f c1 h
    refine g_iload_n (pc := 4) hC dX11_match_4 rfl ?_
    refine g_iconst (pc := 5) hC ki_1 dX11_match_5 ?_
    refine g_icmp_gt (tgt := 13) (pc := 6) hC dX11_match_6 (by decide) (fun c2 => ?_) (fun c2 => ?_)
    · replace h := it_t c2 h
      exact hJ13 h
    · replace h := it_f c2 h
      refine g_iconst (pc := 9) hC ki_1 dX11_match_9 ?_
      refine g_goto (tgt := 14) (pc := 10) hC dX11_match_10 (by decide) ?_
      exact hJ14 1 h
set_option maxRecDepth 20000 in
theorem x_X11_match (l : Launch) (hl9 : l.stackTraces = false) (E : uE) (a1 : Int32) (σ : uS) (kx : Nat) (σr : uS) (h : F_X11_match a1 σ = some (.inr kx, σr)) : CtX l E yX11_match cX11_match 2 7 114 [.ref (E.2.1 0), .int a1] σ kx σr := by
  refine enterX 0 [some (.ref (E.2.1 0)), some (.int a1)] (by decide +kernel) rfl (Nat.le_of_ble_eq_true rfl) (fun o K hnL hC hab h6 hXt hR => ?_)
  have hC : Cx E K RX11 cX11_match (some .int) 7 114 := hC
  have hN : ∀ k, k < 2 → k < K.2.2.2.2.2 := fun k hk => hnL ▸ hk
  delta F_X11_match at h
  refine g_iload_n (pc := 0) hC dX11_match_0 rfl ?_
  have hJ14 : ∀ (v3 : Int32), J_X11_match_3 a1 σ v3 = some (.inr kx, σr) → Gd l E K 0 0 o σ 14 [some (.ref (E.2.1 0)), some (.int a1)] [.int v3] := by
    intro v3 h
    delta J_X11_match_3 at h
    by_cases c4 : v3 = 0
    · replace h := it_t c4 h
      exact g_thr (pc := 14) (As := [.int v3]) (rest := []) hC (x_X11_need l hl9 E v3 σ c4) mi_X11_need ms_X11_need lk_X11_139 rfl rfl (Nat.le_of_ble_eq_true rfl) ⟨by decide, by decide⟩ h6 hXt h hR dX11_match_14
    · replace h := it_f c4 h
      refine g_callSv (pc := 14) (As := [.int v3]) (rest := []) hC (c_X11_need l E v3 σ c4) mi_X11_need ms_X11_need lk_X11_139 rfl rfl (Nat.le_of_ble_eq_true rfl) ⟨by decide, by decide⟩ hab dX11_match_14 ?_
      refine g_aload_n (pc := 17) hC dX11_match_17 rfl ?_
      obtain ⟨σ5, hc, h⟩ := cp_e h
      refine g_callVv (pc := 18) (As := []) (rest := []) hC (c_X11_findPath l E σ σ5 hc) mi_X11_findPath mv_X11_findPath ob_0 rfl rfl lk_X11_175 rfl rfl (Nat.le_of_ble_eq_true rfl) ⟨by decide, by decide⟩ hab dX11_match_18 ?_
      refine g_aload_n (pc := 21) hC dX11_match_21 rfl ?_
      refine fg_X11_89_0 (pc := 22) hC dX11_match_22 ?_
      obtain ⟨σ6, hc, h⟩ := cp_e h
      refine g_callVv (pc := 25) (As := []) (rest := []) hC (c_X10_findPairs l E σ5 σ6 hc) mi_X10_findPairs mv_X10_findPairs ob_51 rfl rfl lk_X11_301 rfl rfl (Nat.le_of_ble_eq_true rfl) ⟨by decide, by decide⟩ hab dX11_match_25 ?_
      refine g_iload_n (pc := 28) hC dX11_match_28 rfl ?_
      have hJ49 : ∀ (v10 : Int32), J_X11_match_2 σ6 v10 = some (.inr kx, σr) → Gd l E K 0 0 o σ6 49 [none, none] [.int v10] := by
        intro v10 h
        delta J_X11_match_2 at h
        exact th_tr h
      refine g_if_ne (tgt := 42) (pc := 29) hC dX11_match_29 (by decide) (fun c7 => ?_) (fun c7 => ?_)
      · replace h := it_f c7 h
        refine g_aload_n (pc := 42) hC dX11_match_42 rfl ?_
        refine fg_X11_89_0 (pc := 43) hC dX11_match_43 ?_
        obtain ⟨v8, hc, h⟩ := cp_e h
        refine g_callVi (pc := 46) (As := []) (rest := []) hC (c_X10_pairs l E σ6 v8 hc) mi_X10_pairs mv_X10_pairs ob_51 rfl rfl lk_X11_307 rfl rfl (Nat.le_of_ble_eq_true rfl) ⟨by decide, by decide⟩ hab dX11_match_46 ?_
        refine g_mask [false, false] rfl ?_
        exact hJ49 v8 h
      · replace h := it_t c7 h
        refine g_aload_n (pc := 32) hC dX11_match_32 rfl ?_
        refine fg_X11_89_0 (pc := 33) hC dX11_match_33 ?_
        obtain ⟨v9, hc, h⟩ := cp_e h
        refine g_callVi (pc := 36) (As := []) (rest := []) hC (c_X10_price l E σ6 v9 hc) mi_X10_price mv_X10_price ob_51 rfl rfl lk_X11_304 rfl rfl (Nat.le_of_ble_eq_true rfl) ⟨by decide, by decide⟩ hab dX11_match_36 ?_
        refine g_goto (tgt := 49) (pc := 39) hC dX11_match_39 (by decide) ?_
        refine g_mask [false, false] rfl ?_
        exact hJ49 v9 h
  have hJ13 : J_X11_match_1 a1 σ = some (.inr kx, σr) → Gd l E K 0 0 o σ 13 [some (.ref (E.2.1 0)), some (.int a1)] [] := by
    intro h
    delta J_X11_match_1 at h
    refine g_iconst (pc := 13) hC ki_0 dX11_match_13 ?_
    exact hJ14 0 h
  refine g_if_lt (tgt := 13) (pc := 1) hC dX11_match_1 (by decide) (fun c1 => ?_) (fun c1 => ?_)
  · replace h := it_t c1 h
    exact hJ13 h
  · replace h := it_f c1 h
    refine g_iload_n (pc := 4) hC dX11_match_4 rfl ?_
    refine g_iconst (pc := 5) hC ki_1 dX11_match_5 ?_
    refine g_icmp_gt (tgt := 13) (pc := 6) hC dX11_match_6 (by decide) (fun c2 => ?_) (fun c2 => ?_)
    · replace h := it_t c2 h
      exact hJ13 h
    · replace h := it_f c2 h
      refine g_iconst (pc := 9) hC ki_1 dX11_match_9 ?_
      refine g_goto (tgt := 14) (pc := 10) hC dX11_match_10 (by decide) ?_
      exact hJ14 1 h
set_option maxRecDepth 20000 in
theorem c_X11_matched (l : Launch) (E : uE) (a1 : Int32) (σ : uS) (r : Int32) (σr : uS) (h : F_X11_matched a1 σ = some (.inl r, σr)) : CtI l E yX11_matched cX11_matched 2 (some .int) 7 114 [.ref (E.2.1 0), .int a1] σ r σr := by
  refine enterI 0 [some (.ref (E.2.1 0)), some (.int a1)] (by decide +kernel) rfl (Nat.le_of_ble_eq_true rfl) (fun o K hnL hC hab hR => ?_)
  have hC : Cx E K RX11 cX11_matched (some .int) 7 114 := hC
  have hN : ∀ k, k < 2 → k < K.2.2.2.2.2 := fun k hk => hnL ▸ hk
  delta F_X11_matched at h
  refine g_iload_n (pc := 0) hC dX11_matched_0 rfl ?_
  have hJ20 : ∀ (v4 : Int32), J_X11_matched_2 a1 σ v4 = some (.inl r, σr) → Gd l E K 0 0 o σ 20 [some (.ref (E.2.1 0)), some (.int a1)] [.int v4] := by
    intro v4 h
    delta J_X11_matched_2 at h
    by_cases c5 : v4 = 0
    · replace h := it_t c5 h
      exact th_rt h
    · replace h := it_f c5 h
      refine g_callSv (pc := 20) (As := [.int v4]) (rest := []) hC (c_X11_need l E v4 σ c5) mi_X11_need ms_X11_need lk_X11_139 rfl rfl (Nat.le_of_ble_eq_true rfl) ⟨by decide, by decide⟩ hab dX11_matched_20 ?_
      refine g_aload_n (pc := 23) hC dX11_matched_23 rfl ?_
      obtain ⟨σ6, hc, h⟩ := cp_e h
      refine g_callVv (pc := 24) (As := []) (rest := []) hC (c_X11_findPath l E σ σ6 hc) mi_X11_findPath mv_X11_findPath ob_0 rfl rfl lk_X11_175 rfl rfl (Nat.le_of_ble_eq_true rfl) ⟨by decide, by decide⟩ hab dX11_matched_24 ?_
      refine g_aload_n (pc := 27) hC dX11_matched_27 rfl ?_
      refine fg_X11_89_0 (pc := 28) hC dX11_matched_28 ?_
      obtain ⟨σ7, hc, h⟩ := cp_e h
      refine g_callVv (pc := 31) (As := []) (rest := []) hC (c_X10_findPairs l E σ6 σ7 hc) mi_X10_findPairs mv_X10_findPairs ob_51 rfl rfl lk_X11_301 rfl rfl (Nat.le_of_ble_eq_true rfl) ⟨by decide, by decide⟩ hab dX11_matched_31 ?_
      refine g_aload_n (pc := 34) hC dX11_matched_34 rfl ?_
      refine fg_X11_89_0 (pc := 35) hC dX11_matched_35 ?_
      refine g_iload_n (pc := 38) hC dX11_matched_38 rfl ?_
      obtain ⟨v8, hc, h⟩ := cp_e h
      refine g_callVi (pc := 39) (As := [.int a1]) (rest := []) hC (c_X10_pairOf l E a1 σ7 v8 hc) mi_X10_pairOf mv_X10_pairOf ob_51 rfl rfl lk_X11_310 rfl rfl (Nat.le_of_ble_eq_true rfl) ⟨by decide, by decide⟩ hab dX11_matched_39 ?_
      exact g_rett (pc := 42) hC h hR dX11_matched_42
  have hJ19 : J_X11_matched_1 a1 σ = some (.inl r, σr) → Gd l E K 0 0 o σ 19 [some (.ref (E.2.1 0)), some (.int a1)] [] := by
    intro h
    delta J_X11_matched_1 at h
    refine g_iconst (pc := 19) hC ki_0 dX11_matched_19 ?_
    exact hJ20 0 h
  refine g_if_lt (tgt := 19) (pc := 1) hC dX11_matched_1 (by decide) (fun c1 => ?_) (fun c1 => ?_)
  · replace h := it_t c1 h
    exact hJ19 h
  · replace h := it_f c1 h
    refine g_iload_n (pc := 4) hC dX11_matched_4 rfl ?_
    refine g_aload_n (pc := 5) hC dX11_matched_5 rfl ?_
    refine fg_X11_89_0 (pc := 6) hC dX11_matched_6 ?_
    obtain ⟨v2, hc, h⟩ := cp_e h
    refine g_callVi (pc := 9) (As := []) (rest := [.int a1]) hC (c_X10_size l E σ v2 hc) mi_X10_size mv_X10_size ob_51 rfl rfl lk_X11_158 rfl rfl (Nat.le_of_ble_eq_true rfl) ⟨by decide, by decide⟩ hab dX11_matched_9 ?_
    refine g_icmp_ge (tgt := 19) (pc := 12) hC dX11_matched_12 (by decide) (fun c3 => ?_) (fun c3 => ?_)
    · replace h := it_t c3 h
      exact hJ19 h
    · replace h := it_f c3 h
      refine g_iconst (pc := 15) hC ki_1 dX11_matched_15 ?_
      refine g_goto (tgt := 20) (pc := 16) hC dX11_matched_16 (by decide) ?_
      exact hJ20 1 h
set_option maxRecDepth 20000 in
theorem x_X11_matched (l : Launch) (hl9 : l.stackTraces = false) (E : uE) (a1 : Int32) (σ : uS) (kx : Nat) (σr : uS) (h : F_X11_matched a1 σ = some (.inr kx, σr)) : CtX l E yX11_matched cX11_matched 2 7 114 [.ref (E.2.1 0), .int a1] σ kx σr := by
  refine enterX 0 [some (.ref (E.2.1 0)), some (.int a1)] (by decide +kernel) rfl (Nat.le_of_ble_eq_true rfl) (fun o K hnL hC hab h6 hXt hR => ?_)
  have hC : Cx E K RX11 cX11_matched (some .int) 7 114 := hC
  have hN : ∀ k, k < 2 → k < K.2.2.2.2.2 := fun k hk => hnL ▸ hk
  delta F_X11_matched at h
  refine g_iload_n (pc := 0) hC dX11_matched_0 rfl ?_
  have hJ20 : ∀ (v4 : Int32), J_X11_matched_2 a1 σ v4 = some (.inr kx, σr) → Gd l E K 0 0 o σ 20 [some (.ref (E.2.1 0)), some (.int a1)] [.int v4] := by
    intro v4 h
    delta J_X11_matched_2 at h
    by_cases c5 : v4 = 0
    · replace h := it_t c5 h
      exact g_thr (pc := 20) (As := [.int v4]) (rest := []) hC (x_X11_need l hl9 E v4 σ c5) mi_X11_need ms_X11_need lk_X11_139 rfl rfl (Nat.le_of_ble_eq_true rfl) ⟨by decide, by decide⟩ h6 hXt h hR dX11_matched_20
    · replace h := it_f c5 h
      refine g_callSv (pc := 20) (As := [.int v4]) (rest := []) hC (c_X11_need l E v4 σ c5) mi_X11_need ms_X11_need lk_X11_139 rfl rfl (Nat.le_of_ble_eq_true rfl) ⟨by decide, by decide⟩ hab dX11_matched_20 ?_
      refine g_aload_n (pc := 23) hC dX11_matched_23 rfl ?_
      obtain ⟨σ6, hc, h⟩ := cp_e h
      refine g_callVv (pc := 24) (As := []) (rest := []) hC (c_X11_findPath l E σ σ6 hc) mi_X11_findPath mv_X11_findPath ob_0 rfl rfl lk_X11_175 rfl rfl (Nat.le_of_ble_eq_true rfl) ⟨by decide, by decide⟩ hab dX11_matched_24 ?_
      refine g_aload_n (pc := 27) hC dX11_matched_27 rfl ?_
      refine fg_X11_89_0 (pc := 28) hC dX11_matched_28 ?_
      obtain ⟨σ7, hc, h⟩ := cp_e h
      refine g_callVv (pc := 31) (As := []) (rest := []) hC (c_X10_findPairs l E σ6 σ7 hc) mi_X10_findPairs mv_X10_findPairs ob_51 rfl rfl lk_X11_301 rfl rfl (Nat.le_of_ble_eq_true rfl) ⟨by decide, by decide⟩ hab dX11_matched_31 ?_
      refine g_aload_n (pc := 34) hC dX11_matched_34 rfl ?_
      refine fg_X11_89_0 (pc := 35) hC dX11_matched_35 ?_
      refine g_iload_n (pc := 38) hC dX11_matched_38 rfl ?_
      obtain ⟨v8, hc, h⟩ := cp_e h
      refine g_callVi (pc := 39) (As := [.int a1]) (rest := []) hC (c_X10_pairOf l E a1 σ7 v8 hc) mi_X10_pairOf mv_X10_pairOf ob_51 rfl rfl lk_X11_310 rfl rfl (Nat.le_of_ble_eq_true rfl) ⟨by decide, by decide⟩ hab dX11_matched_39 ?_
      exact th_tr h
  have hJ19 : J_X11_matched_1 a1 σ = some (.inr kx, σr) → Gd l E K 0 0 o σ 19 [some (.ref (E.2.1 0)), some (.int a1)] [] := by
    intro h
    delta J_X11_matched_1 at h
    refine g_iconst (pc := 19) hC ki_0 dX11_matched_19 ?_
    exact hJ20 0 h
  refine g_if_lt (tgt := 19) (pc := 1) hC dX11_matched_1 (by decide) (fun c1 => ?_) (fun c1 => ?_)
  · replace h := it_t c1 h
    exact hJ19 h
  · replace h := it_f c1 h
    refine g_iload_n (pc := 4) hC dX11_matched_4 rfl ?_
    refine g_aload_n (pc := 5) hC dX11_matched_5 rfl ?_
    refine fg_X11_89_0 (pc := 6) hC dX11_matched_6 ?_
    obtain ⟨v2, hc, h⟩ := cp_e h
    refine g_callVi (pc := 9) (As := []) (rest := [.int a1]) hC (c_X10_size l E σ v2 hc) mi_X10_size mv_X10_size ob_51 rfl rfl lk_X11_158 rfl rfl (Nat.le_of_ble_eq_true rfl) ⟨by decide, by decide⟩ hab dX11_matched_9 ?_
    refine g_icmp_ge (tgt := 19) (pc := 12) hC dX11_matched_12 (by decide) (fun c3 => ?_) (fun c3 => ?_)
    · replace h := it_t c3 h
      exact hJ19 h
    · replace h := it_f c3 h
      refine g_iconst (pc := 15) hC ki_1 dX11_matched_15 ?_
      refine g_goto (tgt := 20) (pc := 16) hC dX11_matched_16 (by decide) ?_
      exact hJ20 1 h
set_option maxRecDepth 20000 in
theorem c_X11_mark (l : Launch) (E : uE) (a1 : Int32) (σ : uS) (r : Int32) (σr : uS) (h : F_X11_mark a1 σ = some (.inl r, σr)) : CtI l E yX11_mark cX11_mark 2 (some .int) 7 134 [.ref (E.2.1 0), .int a1] σ r σr := by
  refine enterI 0 [some (.ref (E.2.1 0)), some (.int a1)] (by decide +kernel) rfl (Nat.le_of_ble_eq_true rfl) (fun o K hnL hC hab hR => ?_)
  have hC : Cx E K RX11 cX11_mark (some .int) 7 134 := hC
  have hN : ∀ k, k < 2 → k < K.2.2.2.2.2 := fun k hk => hnL ▸ hk
  delta F_X11_mark at h
  refine g_aload_n (pc := 0) hC dX11_mark_0 rfl ?_
  obtain ⟨σ1, hc, h⟩ := cp_e h
  refine g_callVv (pc := 1) (As := []) (rest := []) hC (c_X11_findMarks l E σ σ1 hc) mi_X11_findMarks mv_X11_findMarks ob_0 rfl rfl lk_X11_253 rfl rfl (Nat.le_of_ble_eq_true rfl) ⟨by decide, by decide⟩ hab dX11_mark_1 ?_
  refine g_aload_n (pc := 4) hC dX11_mark_4 rfl ?_
  refine fg_X11_80_0 (pc := 5) hC dX11_mark_5 ?_
  refine g_iload_n (pc := 8) hC dX11_mark_8 rfl ?_
  obtain ⟨v2, hc, h⟩ := cp_e h
  refine g_callVi (pc := 9) (As := [.int a1]) (rest := []) hC (c_X3_has l E a1 σ1 v2 hc) mi_X3_has mv_X3_has ob_44 rfl rfl lk_X11_314 rfl rfl (Nat.le_of_ble_eq_true rfl) ⟨by decide, by decide⟩ hab dX11_mark_9 ?_
  by_cases c3 : v2 = 0
  · replace h := it_t c3 h
    exact th_rt h
  · replace h := it_f c3 h
    refine g_callSv (pc := 12) (As := [.int v2]) (rest := []) hC (c_X11_need l E v2 σ1 c3) mi_X11_need ms_X11_need lk_X11_139 rfl rfl (Nat.le_of_ble_eq_true rfl) ⟨by decide, by decide⟩ hab dX11_mark_12 ?_
    refine g_aload_n (pc := 15) hC dX11_mark_15 rfl ?_
    refine fg_X11_80_0 (pc := 16) hC dX11_mark_16 ?_
    refine g_iload_n (pc := 19) hC dX11_mark_19 rfl ?_
    obtain ⟨v4, hc, h⟩ := cp_e h
    refine g_callVi (pc := 20) (As := [.int a1]) (rest := []) hC (c_X3_at l E a1 σ1 v4 hc) mi_X3_at mv_X3_at ob_44 rfl rfl lk_X11_315 rfl rfl (Nat.le_of_ble_eq_true rfl) ⟨by decide, by decide⟩ hab dX11_mark_20 ?_
    exact g_rett (pc := 23) hC h hR dX11_mark_23
set_option maxRecDepth 20000 in
theorem x_X11_mark (l : Launch) (hl9 : l.stackTraces = false) (E : uE) (a1 : Int32) (σ : uS) (kx : Nat) (σr : uS) (h : F_X11_mark a1 σ = some (.inr kx, σr)) : CtX l E yX11_mark cX11_mark 2 7 134 [.ref (E.2.1 0), .int a1] σ kx σr := by
  refine enterX 0 [some (.ref (E.2.1 0)), some (.int a1)] (by decide +kernel) rfl (Nat.le_of_ble_eq_true rfl) (fun o K hnL hC hab h6 hXt hR => ?_)
  have hC : Cx E K RX11 cX11_mark (some .int) 7 134 := hC
  have hN : ∀ k, k < 2 → k < K.2.2.2.2.2 := fun k hk => hnL ▸ hk
  delta F_X11_mark at h
  refine g_aload_n (pc := 0) hC dX11_mark_0 rfl ?_
  obtain ⟨σ1, hc, h⟩ := cp_e h
  refine g_callVv (pc := 1) (As := []) (rest := []) hC (c_X11_findMarks l E σ σ1 hc) mi_X11_findMarks mv_X11_findMarks ob_0 rfl rfl lk_X11_253 rfl rfl (Nat.le_of_ble_eq_true rfl) ⟨by decide, by decide⟩ hab dX11_mark_1 ?_
  refine g_aload_n (pc := 4) hC dX11_mark_4 rfl ?_
  refine fg_X11_80_0 (pc := 5) hC dX11_mark_5 ?_
  refine g_iload_n (pc := 8) hC dX11_mark_8 rfl ?_
  obtain ⟨v2, hc, h⟩ := cp_e h
  refine g_callVi (pc := 9) (As := [.int a1]) (rest := []) hC (c_X3_has l E a1 σ1 v2 hc) mi_X3_has mv_X3_has ob_44 rfl rfl lk_X11_314 rfl rfl (Nat.le_of_ble_eq_true rfl) ⟨by decide, by decide⟩ hab dX11_mark_9 ?_
  by_cases c3 : v2 = 0
  · replace h := it_t c3 h
    exact g_thr (pc := 12) (As := [.int v2]) (rest := []) hC (x_X11_need l hl9 E v2 σ1 c3) mi_X11_need ms_X11_need lk_X11_139 rfl rfl (Nat.le_of_ble_eq_true rfl) ⟨by decide, by decide⟩ h6 hXt h hR dX11_mark_12
  · replace h := it_f c3 h
    refine g_callSv (pc := 12) (As := [.int v2]) (rest := []) hC (c_X11_need l E v2 σ1 c3) mi_X11_need ms_X11_need lk_X11_139 rfl rfl (Nat.le_of_ble_eq_true rfl) ⟨by decide, by decide⟩ hab dX11_mark_12 ?_
    refine g_aload_n (pc := 15) hC dX11_mark_15 rfl ?_
    refine fg_X11_80_0 (pc := 16) hC dX11_mark_16 ?_
    refine g_iload_n (pc := 19) hC dX11_mark_19 rfl ?_
    obtain ⟨v4, hc, h⟩ := cp_e h
    refine g_callVi (pc := 20) (As := [.int a1]) (rest := []) hC (c_X3_at l E a1 σ1 v4 hc) mi_X3_at mv_X3_at ob_44 rfl rfl lk_X11_315 rfl rfl (Nat.le_of_ble_eq_true rfl) ⟨by decide, by decide⟩ hab dX11_mark_20 ?_
    exact th_tr h
set_option maxRecDepth 20000 in
theorem c_X11_gaps (l : Launch) (E : uE) (a1 : Int32) (σ : uS) (r : Int32) (σr : uS) (h : F_X11_gaps a1 σ = some (.inl r, σr)) : CtI l E yX11_gaps cX11_gaps 2 (some .int) 7 134 [.ref (E.2.1 0), .int a1] σ r σr := by
  refine enterI 0 [some (.ref (E.2.1 0)), some (.int a1)] (by decide +kernel) rfl (Nat.le_of_ble_eq_true rfl) (fun o K hnL hC hab hR => ?_)
  have hC : Cx E K RX11 cX11_gaps (some .int) 7 134 := hC
  have hN : ∀ k, k < 2 → k < K.2.2.2.2.2 := fun k hk => hnL ▸ hk
  delta F_X11_gaps at h
  refine g_iload_n (pc := 0) hC dX11_gaps_0 rfl ?_
  have hJ14 : ∀ (v3 : Int32), J_X11_gaps_2 a1 σ v3 = some (.inl r, σr) → Gd l E K 0 0 o σ 14 [some (.ref (E.2.1 0)), some (.int a1)] [.int v3] := by
    intro v3 h
    delta J_X11_gaps_2 at h
    by_cases c4 : v3 = 0
    · replace h := it_t c4 h
      exact th_rt h
    · replace h := it_f c4 h
      refine g_callSv (pc := 14) (As := [.int v3]) (rest := []) hC (c_X11_need l E v3 σ c4) mi_X11_need ms_X11_need lk_X11_139 rfl rfl (Nat.le_of_ble_eq_true rfl) ⟨by decide, by decide⟩ hab dX11_gaps_14 ?_
      refine g_aload_n (pc := 17) hC dX11_gaps_17 rfl ?_
      obtain ⟨σ5, hc, h⟩ := cp_e h
      refine g_callVv (pc := 18) (As := []) (rest := []) hC (c_X11_findMarks l E σ σ5 hc) mi_X11_findMarks mv_X11_findMarks ob_0 rfl rfl lk_X11_253 rfl rfl (Nat.le_of_ble_eq_true rfl) ⟨by decide, by decide⟩ hab dX11_gaps_18 ?_
      refine g_iload_n (pc := 21) hC dX11_gaps_21 rfl ?_
      by_cases c6 : a1 = 0
      · replace h := it_t c6 h
        refine g_tabIn (tgt := 52) (off := 30) (pc := 22) hC dX11_gaps_22 (by rw [c6]; decide) (by rw [c6]; decide) (by rw [c6]; rfl) (by decide) ?_
        refine g_aload_n (pc := 52) hC dX11_gaps_52 rfl ?_
        refine fg_X11_80_0 (pc := 53) hC dX11_gaps_53 ?_
        obtain ⟨v7, hc, h⟩ := cp_e h
        refine g_callVi (pc := 56) (As := []) (rest := []) hC (c_X3_gapCount l E σ5 v7 hc) mi_X3_gapCount mv_X3_gapCount ob_44 rfl rfl lk_X11_320 rfl rfl (Nat.le_of_ble_eq_true rfl) ⟨by decide, by decide⟩ hab dX11_gaps_56 ?_
        exact g_rett (pc := 59) hC h hR dX11_gaps_59
      · replace h := it_f c6 h
        by_cases c8 : a1 = 1
        · replace h := it_t c8 h
          refine g_tabIn (tgt := 60) (off := 38) (pc := 22) hC dX11_gaps_22 (by rw [c8]; decide) (by rw [c8]; decide) (by rw [c8]; rfl) (by decide) ?_
          refine g_aload_n (pc := 60) hC dX11_gaps_60 rfl ?_
          refine fg_X11_80_0 (pc := 61) hC dX11_gaps_61 ?_
          obtain ⟨v9, hc, h⟩ := cp_e h
          refine g_callVi (pc := 64) (As := []) (rest := []) hC (c_X3_jitter l E σ5 v9 hc) mi_X3_jitter mv_X3_jitter ob_44 rfl rfl lk_X11_323 rfl rfl (Nat.le_of_ble_eq_true rfl) ⟨by decide, by decide⟩ hab dX11_gaps_64 ?_
          exact g_rett (pc := 67) hC h hR dX11_gaps_67
        · replace h := it_f c8 h
          by_cases c10 : a1 = 2
          · replace h := it_t c10 h
            refine g_tabIn (tgt := 68) (off := 46) (pc := 22) hC dX11_gaps_22 (by rw [c10]; decide) (by rw [c10]; decide) (by rw [c10]; rfl) (by decide) ?_
            refine g_aload_n (pc := 68) hC dX11_gaps_68 rfl ?_
            refine fg_X11_80_0 (pc := 69) hC dX11_gaps_69 ?_
            obtain ⟨v11, hc, h⟩ := cp_e h
            refine g_callVi (pc := 72) (As := []) (rest := []) hC (c_X3_shimmer l E σ5 v11 hc) mi_X3_shimmer mv_X3_shimmer ob_44 rfl rfl lk_X11_326 rfl rfl (Nat.le_of_ble_eq_true rfl) ⟨by decide, by decide⟩ hab dX11_gaps_72 ?_
            exact g_rett (pc := 75) hC h hR dX11_gaps_75
          · replace h := it_f c10 h
            by_cases c12 : a1 = 3
            · replace h := it_t c12 h
              refine g_tabIn (tgt := 76) (off := 54) (pc := 22) hC dX11_gaps_22 (by rw [c12]; decide) (by rw [c12]; decide) (by rw [c12]; rfl) (by decide) ?_
              refine g_aload_n (pc := 76) hC dX11_gaps_76 rfl ?_
              refine fg_X11_80_0 (pc := 77) hC dX11_gaps_77 ?_
              obtain ⟨v13, hc, h⟩ := cp_e h
              refine g_callVi (pc := 80) (As := []) (rest := []) hC (c_X3_longestGap l E σ5 v13 hc) mi_X3_longestGap mv_X3_longestGap ob_44 rfl rfl lk_X11_329 rfl rfl (Nat.le_of_ble_eq_true rfl) ⟨by decide, by decide⟩ hab dX11_gaps_80 ?_
              exact g_rett (pc := 83) hC h hR dX11_gaps_83
            · replace h := it_f c12 h
              have q0 := sw_ne (n := 0) c6 rfl
              have q1 := sw_ne (n := 1) c8 rfl
              have q2 := sw_ne (n := 2) c10 rfl
              have q3 := sw_ne (n := 3) c12 rfl
              refine g_tabOut (tgt := 84) (pc := 22) hC dX11_gaps_22 (by omega) (by decide) ?_
              refine g_aload_n (pc := 84) hC dX11_gaps_84 rfl ?_
              refine fg_X11_80_0 (pc := 85) hC dX11_gaps_85 ?_
              obtain ⟨v14, hc, h⟩ := cp_e h
              refine g_callVi (pc := 88) (As := []) (rest := []) hC (c_X3_shortestGap l E σ5 v14 hc) mi_X3_shortestGap mv_X3_shortestGap ob_44 rfl rfl lk_X11_332 rfl rfl (Nat.le_of_ble_eq_true rfl) ⟨by decide, by decide⟩ hab dX11_gaps_88 ?_
              exact g_rett (pc := 91) hC h hR dX11_gaps_91
  have hJ13 : J_X11_gaps_1 a1 σ = some (.inl r, σr) → Gd l E K 0 0 o σ 13 [some (.ref (E.2.1 0)), some (.int a1)] [] := by
    intro h
    delta J_X11_gaps_1 at h
    refine g_iconst (pc := 13) hC ki_0 dX11_gaps_13 ?_
    exact hJ14 0 h
  refine g_if_lt (tgt := 13) (pc := 1) hC dX11_gaps_1 (by decide) (fun c1 => ?_) (fun c1 => ?_)
  · replace h := it_t c1 h
    exact hJ13 h
  · replace h := it_f c1 h
    refine g_iload_n (pc := 4) hC dX11_gaps_4 rfl ?_
    refine g_iconst (pc := 5) hC ki_4 dX11_gaps_5 ?_
    refine g_icmp_gt (tgt := 13) (pc := 6) hC dX11_gaps_6 (by decide) (fun c2 => ?_) (fun c2 => ?_)
    · replace h := it_t c2 h
      exact hJ13 h
    · replace h := it_f c2 h
      refine g_iconst (pc := 9) hC ki_1 dX11_gaps_9 ?_
      refine g_goto (tgt := 14) (pc := 10) hC dX11_gaps_10 (by decide) ?_
      exact hJ14 1 h
set_option maxRecDepth 20000 in
theorem x_X11_gaps (l : Launch) (hl9 : l.stackTraces = false) (E : uE) (a1 : Int32) (σ : uS) (kx : Nat) (σr : uS) (h : F_X11_gaps a1 σ = some (.inr kx, σr)) : CtX l E yX11_gaps cX11_gaps 2 7 134 [.ref (E.2.1 0), .int a1] σ kx σr := by
  refine enterX 0 [some (.ref (E.2.1 0)), some (.int a1)] (by decide +kernel) rfl (Nat.le_of_ble_eq_true rfl) (fun o K hnL hC hab h6 hXt hR => ?_)
  have hC : Cx E K RX11 cX11_gaps (some .int) 7 134 := hC
  have hN : ∀ k, k < 2 → k < K.2.2.2.2.2 := fun k hk => hnL ▸ hk
  delta F_X11_gaps at h
  refine g_iload_n (pc := 0) hC dX11_gaps_0 rfl ?_
  have hJ14 : ∀ (v3 : Int32), J_X11_gaps_2 a1 σ v3 = some (.inr kx, σr) → Gd l E K 0 0 o σ 14 [some (.ref (E.2.1 0)), some (.int a1)] [.int v3] := by
    intro v3 h
    delta J_X11_gaps_2 at h
    by_cases c4 : v3 = 0
    · replace h := it_t c4 h
      exact g_thr (pc := 14) (As := [.int v3]) (rest := []) hC (x_X11_need l hl9 E v3 σ c4) mi_X11_need ms_X11_need lk_X11_139 rfl rfl (Nat.le_of_ble_eq_true rfl) ⟨by decide, by decide⟩ h6 hXt h hR dX11_gaps_14
    · replace h := it_f c4 h
      refine g_callSv (pc := 14) (As := [.int v3]) (rest := []) hC (c_X11_need l E v3 σ c4) mi_X11_need ms_X11_need lk_X11_139 rfl rfl (Nat.le_of_ble_eq_true rfl) ⟨by decide, by decide⟩ hab dX11_gaps_14 ?_
      refine g_aload_n (pc := 17) hC dX11_gaps_17 rfl ?_
      obtain ⟨σ5, hc, h⟩ := cp_e h
      refine g_callVv (pc := 18) (As := []) (rest := []) hC (c_X11_findMarks l E σ σ5 hc) mi_X11_findMarks mv_X11_findMarks ob_0 rfl rfl lk_X11_253 rfl rfl (Nat.le_of_ble_eq_true rfl) ⟨by decide, by decide⟩ hab dX11_gaps_18 ?_
      refine g_iload_n (pc := 21) hC dX11_gaps_21 rfl ?_
      by_cases c6 : a1 = 0
      · replace h := it_t c6 h
        refine g_tabIn (tgt := 52) (off := 30) (pc := 22) hC dX11_gaps_22 (by rw [c6]; decide) (by rw [c6]; decide) (by rw [c6]; rfl) (by decide) ?_
        refine g_aload_n (pc := 52) hC dX11_gaps_52 rfl ?_
        refine fg_X11_80_0 (pc := 53) hC dX11_gaps_53 ?_
        obtain ⟨v7, hc, h⟩ := cp_e h
        refine g_callVi (pc := 56) (As := []) (rest := []) hC (c_X3_gapCount l E σ5 v7 hc) mi_X3_gapCount mv_X3_gapCount ob_44 rfl rfl lk_X11_320 rfl rfl (Nat.le_of_ble_eq_true rfl) ⟨by decide, by decide⟩ hab dX11_gaps_56 ?_
        exact th_tr h
      · replace h := it_f c6 h
        by_cases c8 : a1 = 1
        · replace h := it_t c8 h
          refine g_tabIn (tgt := 60) (off := 38) (pc := 22) hC dX11_gaps_22 (by rw [c8]; decide) (by rw [c8]; decide) (by rw [c8]; rfl) (by decide) ?_
          refine g_aload_n (pc := 60) hC dX11_gaps_60 rfl ?_
          refine fg_X11_80_0 (pc := 61) hC dX11_gaps_61 ?_
          obtain ⟨v9, hc, h⟩ := cp_e h
          refine g_callVi (pc := 64) (As := []) (rest := []) hC (c_X3_jitter l E σ5 v9 hc) mi_X3_jitter mv_X3_jitter ob_44 rfl rfl lk_X11_323 rfl rfl (Nat.le_of_ble_eq_true rfl) ⟨by decide, by decide⟩ hab dX11_gaps_64 ?_
          exact th_tr h
        · replace h := it_f c8 h
          by_cases c10 : a1 = 2
          · replace h := it_t c10 h
            refine g_tabIn (tgt := 68) (off := 46) (pc := 22) hC dX11_gaps_22 (by rw [c10]; decide) (by rw [c10]; decide) (by rw [c10]; rfl) (by decide) ?_
            refine g_aload_n (pc := 68) hC dX11_gaps_68 rfl ?_
            refine fg_X11_80_0 (pc := 69) hC dX11_gaps_69 ?_
            obtain ⟨v11, hc, h⟩ := cp_e h
            refine g_callVi (pc := 72) (As := []) (rest := []) hC (c_X3_shimmer l E σ5 v11 hc) mi_X3_shimmer mv_X3_shimmer ob_44 rfl rfl lk_X11_326 rfl rfl (Nat.le_of_ble_eq_true rfl) ⟨by decide, by decide⟩ hab dX11_gaps_72 ?_
            exact th_tr h
          · replace h := it_f c10 h
            by_cases c12 : a1 = 3
            · replace h := it_t c12 h
              refine g_tabIn (tgt := 76) (off := 54) (pc := 22) hC dX11_gaps_22 (by rw [c12]; decide) (by rw [c12]; decide) (by rw [c12]; rfl) (by decide) ?_
              refine g_aload_n (pc := 76) hC dX11_gaps_76 rfl ?_
              refine fg_X11_80_0 (pc := 77) hC dX11_gaps_77 ?_
              obtain ⟨v13, hc, h⟩ := cp_e h
              refine g_callVi (pc := 80) (As := []) (rest := []) hC (c_X3_longestGap l E σ5 v13 hc) mi_X3_longestGap mv_X3_longestGap ob_44 rfl rfl lk_X11_329 rfl rfl (Nat.le_of_ble_eq_true rfl) ⟨by decide, by decide⟩ hab dX11_gaps_80 ?_
              exact th_tr h
            · replace h := it_f c12 h
              have q0 := sw_ne (n := 0) c6 rfl
              have q1 := sw_ne (n := 1) c8 rfl
              have q2 := sw_ne (n := 2) c10 rfl
              have q3 := sw_ne (n := 3) c12 rfl
              refine g_tabOut (tgt := 84) (pc := 22) hC dX11_gaps_22 (by omega) (by decide) ?_
              refine g_aload_n (pc := 84) hC dX11_gaps_84 rfl ?_
              refine fg_X11_80_0 (pc := 85) hC dX11_gaps_85 ?_
              obtain ⟨v14, hc, h⟩ := cp_e h
              refine g_callVi (pc := 88) (As := []) (rest := []) hC (c_X3_shortestGap l E σ5 v14 hc) mi_X3_shortestGap mv_X3_shortestGap ob_44 rfl rfl lk_X11_332 rfl rfl (Nat.le_of_ble_eq_true rfl) ⟨by decide, by decide⟩ hab dX11_gaps_88 ?_
              exact th_tr h
  have hJ13 : J_X11_gaps_1 a1 σ = some (.inr kx, σr) → Gd l E K 0 0 o σ 13 [some (.ref (E.2.1 0)), some (.int a1)] [] := by
    intro h
    delta J_X11_gaps_1 at h
    refine g_iconst (pc := 13) hC ki_0 dX11_gaps_13 ?_
    exact hJ14 0 h
  refine g_if_lt (tgt := 13) (pc := 1) hC dX11_gaps_1 (by decide) (fun c1 => ?_) (fun c1 => ?_)
  · replace h := it_t c1 h
    exact hJ13 h
  · replace h := it_f c1 h
    refine g_iload_n (pc := 4) hC dX11_gaps_4 rfl ?_
    refine g_iconst (pc := 5) hC ki_4 dX11_gaps_5 ?_
    refine g_icmp_gt (tgt := 13) (pc := 6) hC dX11_gaps_6 (by decide) (fun c2 => ?_) (fun c2 => ?_)
    · replace h := it_t c2 h
      exact hJ13 h
    · replace h := it_f c2 h
      refine g_iconst (pc := 9) hC ki_1 dX11_gaps_9 ?_
      refine g_goto (tgt := 14) (pc := 10) hC dX11_gaps_10 (by decide) ?_
      exact hJ14 1 h
set_option maxRecDepth 20000 in
theorem c_X11_rough (l : Launch) (E : uE) (a1 : Int32) (σ : uS) (r : Int32) (σr : uS) (h : F_X11_rough a1 σ = some (.inl r, σr)) : CtI l E yX11_rough cX11_rough 2 (some .int) 7 134 [.ref (E.2.1 0), .int a1] σ r σr := by
  refine enterI 0 [some (.ref (E.2.1 0)), some (.int a1)] (by decide +kernel) rfl (Nat.le_of_ble_eq_true rfl) (fun o K hnL hC hab hR => ?_)
  have hC : Cx E K RX11 cX11_rough (some .int) 7 134 := hC
  have hN : ∀ k, k < 2 → k < K.2.2.2.2.2 := fun k hk => hnL ▸ hk
  delta F_X11_rough at h
  refine g_aload_n (pc := 0) hC dX11_rough_0 rfl ?_
  obtain ⟨σ1, hc, h⟩ := cp_e h
  refine g_callVv (pc := 1) (As := []) (rest := []) hC (c_X11_findMarks l E σ σ1 hc) mi_X11_findMarks mv_X11_findMarks ob_0 rfl rfl lk_X11_253 rfl rfl (Nat.le_of_ble_eq_true rfl) ⟨by decide, by decide⟩ hab dX11_rough_1 ?_
  refine g_aload_n (pc := 4) hC dX11_rough_4 rfl ?_
  refine fg_X11_80_0 (pc := 5) hC dX11_rough_5 ?_
  refine g_iload_n (pc := 8) hC dX11_rough_8 rfl ?_
  obtain ⟨v2, hc, h⟩ := cp_e h
  refine g_callVi (pc := 9) (As := [.int a1]) (rest := []) hC (c_X3_has l E a1 σ1 v2 hc) mi_X3_has mv_X3_has ob_44 rfl rfl lk_X11_314 rfl rfl (Nat.le_of_ble_eq_true rfl) ⟨by decide, by decide⟩ hab dX11_rough_9 ?_
  by_cases c3 : v2 = 0
  · replace h := it_t c3 h
    exact th_rt h
  · replace h := it_f c3 h
    refine g_callSv (pc := 12) (As := [.int v2]) (rest := []) hC (c_X11_need l E v2 σ1 c3) mi_X11_need ms_X11_need lk_X11_139 rfl rfl (Nat.le_of_ble_eq_true rfl) ⟨by decide, by decide⟩ hab dX11_rough_12 ?_
    refine g_aload_n (pc := 15) hC dX11_rough_15 rfl ?_
    refine fg_X11_80_0 (pc := 16) hC dX11_rough_16 ?_
    refine g_iload_n (pc := 19) hC dX11_rough_19 rfl ?_
    obtain ⟨v4, hc, h⟩ := cp_e h
    refine g_callVi (pc := 20) (As := [.int a1]) (rest := []) hC (c_X3_roughness l E a1 σ1 v4 hc) mi_X3_roughness mv_X3_roughness ob_44 rfl rfl lk_X11_335 rfl rfl (Nat.le_of_ble_eq_true rfl) ⟨by decide, by decide⟩ hab dX11_rough_20 ?_
    exact g_rett (pc := 23) hC h hR dX11_rough_23
set_option maxRecDepth 20000 in
theorem x_X11_rough (l : Launch) (hl9 : l.stackTraces = false) (E : uE) (a1 : Int32) (σ : uS) (kx : Nat) (σr : uS) (h : F_X11_rough a1 σ = some (.inr kx, σr)) : CtX l E yX11_rough cX11_rough 2 7 134 [.ref (E.2.1 0), .int a1] σ kx σr := by
  refine enterX 0 [some (.ref (E.2.1 0)), some (.int a1)] (by decide +kernel) rfl (Nat.le_of_ble_eq_true rfl) (fun o K hnL hC hab h6 hXt hR => ?_)
  have hC : Cx E K RX11 cX11_rough (some .int) 7 134 := hC
  have hN : ∀ k, k < 2 → k < K.2.2.2.2.2 := fun k hk => hnL ▸ hk
  delta F_X11_rough at h
  refine g_aload_n (pc := 0) hC dX11_rough_0 rfl ?_
  obtain ⟨σ1, hc, h⟩ := cp_e h
  refine g_callVv (pc := 1) (As := []) (rest := []) hC (c_X11_findMarks l E σ σ1 hc) mi_X11_findMarks mv_X11_findMarks ob_0 rfl rfl lk_X11_253 rfl rfl (Nat.le_of_ble_eq_true rfl) ⟨by decide, by decide⟩ hab dX11_rough_1 ?_
  refine g_aload_n (pc := 4) hC dX11_rough_4 rfl ?_
  refine fg_X11_80_0 (pc := 5) hC dX11_rough_5 ?_
  refine g_iload_n (pc := 8) hC dX11_rough_8 rfl ?_
  obtain ⟨v2, hc, h⟩ := cp_e h
  refine g_callVi (pc := 9) (As := [.int a1]) (rest := []) hC (c_X3_has l E a1 σ1 v2 hc) mi_X3_has mv_X3_has ob_44 rfl rfl lk_X11_314 rfl rfl (Nat.le_of_ble_eq_true rfl) ⟨by decide, by decide⟩ hab dX11_rough_9 ?_
  by_cases c3 : v2 = 0
  · replace h := it_t c3 h
    exact g_thr (pc := 12) (As := [.int v2]) (rest := []) hC (x_X11_need l hl9 E v2 σ1 c3) mi_X11_need ms_X11_need lk_X11_139 rfl rfl (Nat.le_of_ble_eq_true rfl) ⟨by decide, by decide⟩ h6 hXt h hR dX11_rough_12
  · replace h := it_f c3 h
    refine g_callSv (pc := 12) (As := [.int v2]) (rest := []) hC (c_X11_need l E v2 σ1 c3) mi_X11_need ms_X11_need lk_X11_139 rfl rfl (Nat.le_of_ble_eq_true rfl) ⟨by decide, by decide⟩ hab dX11_rough_12 ?_
    refine g_aload_n (pc := 15) hC dX11_rough_15 rfl ?_
    refine fg_X11_80_0 (pc := 16) hC dX11_rough_16 ?_
    refine g_iload_n (pc := 19) hC dX11_rough_19 rfl ?_
    obtain ⟨v4, hc, h⟩ := cp_e h
    refine g_callVi (pc := 20) (As := [.int a1]) (rest := []) hC (c_X3_roughness l E a1 σ1 v4 hc) mi_X3_roughness mv_X3_roughness ob_44 rfl rfl lk_X11_335 rfl rfl (Nat.le_of_ble_eq_true rfl) ⟨by decide, by decide⟩ hab dX11_rough_20 ?_
    exact th_tr h
set_option maxRecDepth 20000 in
theorem c_X11_mean (l : Launch) (E : uE) (a1 : Int32) (σ : uS) (r : Int32) (σr : uS) (h : F_X11_mean a1 σ = some (.inl r, σr)) : CtI l E yX11_mean cX11_mean 2 (some .int) 7 134 [.ref (E.2.1 0), .int a1] σ r σr := by
  refine enterI 0 [some (.ref (E.2.1 0)), some (.int a1)] (by decide +kernel) rfl (Nat.le_of_ble_eq_true rfl) (fun o K hnL hC hab hR => ?_)
  have hC : Cx E K RX11 cX11_mean (some .int) 7 134 := hC
  have hN : ∀ k, k < 2 → k < K.2.2.2.2.2 := fun k hk => hnL ▸ hk
  delta F_X11_mean at h
  refine g_aload_n (pc := 0) hC dX11_mean_0 rfl ?_
  obtain ⟨σ1, hc, h⟩ := cp_e h
  refine g_callVv (pc := 1) (As := []) (rest := []) hC (c_X11_findMarks l E σ σ1 hc) mi_X11_findMarks mv_X11_findMarks ob_0 rfl rfl lk_X11_253 rfl rfl (Nat.le_of_ble_eq_true rfl) ⟨by decide, by decide⟩ hab dX11_mean_1 ?_
  refine g_aload_n (pc := 4) hC dX11_mean_4 rfl ?_
  refine fg_X11_80_0 (pc := 5) hC dX11_mean_5 ?_
  obtain ⟨v2, hc, h⟩ := cp_e h
  refine g_callVi (pc := 8) (As := []) (rest := []) hC (c_X3_gapCount l E σ1 v2 hc) mi_X3_gapCount mv_X3_gapCount ob_44 rfl rfl lk_X11_320 rfl rfl (Nat.le_of_ble_eq_true rfl) ⟨by decide, by decide⟩ hab dX11_mean_8 ?_
  obtain ⟨v4, ev4, h⟩ := lt_e h
  have hJ19 : Gd l E K 0 0 o σ1 19 [some (.ref (E.2.1 0)), some (.int a1)] [.int v4] := by
    by_cases c5 : v4 = 0
    · replace h := it_t c5 h
      exact th_rt h
    · replace h := it_f c5 h
      refine g_callSv (pc := 19) (As := [.int v4]) (rest := []) hC (c_X11_need l E v4 σ1 c5) mi_X11_need ms_X11_need lk_X11_139 rfl rfl (Nat.le_of_ble_eq_true rfl) ⟨by decide, by decide⟩ hab dX11_mean_19 ?_
      refine g_aload_n (pc := 22) hC dX11_mean_22 rfl ?_
      refine fg_X11_80_0 (pc := 23) hC dX11_mean_23 ?_
      obtain ⟨v6, hc, h⟩ := cp_e h
      refine g_callVi (pc := 26) (As := []) (rest := []) hC (c_X3_gapSum l E σ1 v6 hc) mi_X3_gapSum mv_X3_gapSum ob_44 rfl rfl lk_X11_338 rfl rfl (Nat.le_of_ble_eq_true rfl) ⟨by decide, by decide⟩ hab dX11_mean_26 ?_
      refine g_aload_n (pc := 29) hC dX11_mean_29 rfl ?_
      refine fg_X11_80_0 (pc := 30) hC dX11_mean_30 ?_
      obtain ⟨v7, hc, h⟩ := cp_e h
      refine g_callVi (pc := 33) (As := []) (rest := [.int v6]) hC (c_X3_gapCount l E σ1 v7 hc) mi_X3_gapCount mv_X3_gapCount ob_44 rfl rfl lk_X11_320 rfl rfl (Nat.le_of_ble_eq_true rfl) ⟨by decide, by decide⟩ hab dX11_mean_33 ?_
      refine g_iload_n (pc := 36) hC dX11_mean_36 rfl ?_
      obtain ⟨v8, hc, h⟩ := cp_e h
      refine g_callSi (pc := 37) (As := [.int v6, .int v7, .int a1]) (rest := []) hC (c_X11_lowest l E v6 v7 a1 σ1 v8 hc) mi_X11_lowest ms_X11_lowest lk_X11_195 rfl rfl (Nat.le_of_ble_eq_true rfl) ⟨by decide, by decide⟩ hab dX11_mean_37 ?_
      exact g_rett (pc := 40) hC h hR dX11_mean_40
  refine g_if_le (tgt := 18) (pc := 11) hC dX11_mean_11 (by decide) (fun c3 => ?_) (fun c3 => ?_)
  · refine g_iconst (pc := 18) hC ki_0 dX11_mean_18 ?_
    exact g_top (iv_t c3 ev4) hJ19
  · refine g_iconst (pc := 14) hC ki_1 dX11_mean_14 ?_
    refine g_goto (tgt := 19) (pc := 15) hC dX11_mean_15 (by decide) ?_
    exact g_top (iv_f c3 ev4) hJ19
set_option maxRecDepth 20000 in
theorem x_X11_mean (l : Launch) (hl9 : l.stackTraces = false) (E : uE) (a1 : Int32) (σ : uS) (kx : Nat) (σr : uS) (h : F_X11_mean a1 σ = some (.inr kx, σr)) : CtX l E yX11_mean cX11_mean 2 7 134 [.ref (E.2.1 0), .int a1] σ kx σr := by
  refine enterX 0 [some (.ref (E.2.1 0)), some (.int a1)] (by decide +kernel) rfl (Nat.le_of_ble_eq_true rfl) (fun o K hnL hC hab h6 hXt hR => ?_)
  have hC : Cx E K RX11 cX11_mean (some .int) 7 134 := hC
  have hN : ∀ k, k < 2 → k < K.2.2.2.2.2 := fun k hk => hnL ▸ hk
  delta F_X11_mean at h
  refine g_aload_n (pc := 0) hC dX11_mean_0 rfl ?_
  obtain ⟨σ1, hc, h⟩ := cp_e h
  refine g_callVv (pc := 1) (As := []) (rest := []) hC (c_X11_findMarks l E σ σ1 hc) mi_X11_findMarks mv_X11_findMarks ob_0 rfl rfl lk_X11_253 rfl rfl (Nat.le_of_ble_eq_true rfl) ⟨by decide, by decide⟩ hab dX11_mean_1 ?_
  refine g_aload_n (pc := 4) hC dX11_mean_4 rfl ?_
  refine fg_X11_80_0 (pc := 5) hC dX11_mean_5 ?_
  obtain ⟨v2, hc, h⟩ := cp_e h
  refine g_callVi (pc := 8) (As := []) (rest := []) hC (c_X3_gapCount l E σ1 v2 hc) mi_X3_gapCount mv_X3_gapCount ob_44 rfl rfl lk_X11_320 rfl rfl (Nat.le_of_ble_eq_true rfl) ⟨by decide, by decide⟩ hab dX11_mean_8 ?_
  obtain ⟨v4, ev4, h⟩ := lt_e h
  have hJ19 : Gd l E K 0 0 o σ1 19 [some (.ref (E.2.1 0)), some (.int a1)] [.int v4] := by
    by_cases c5 : v4 = 0
    · replace h := it_t c5 h
      exact g_thr (pc := 19) (As := [.int v4]) (rest := []) hC (x_X11_need l hl9 E v4 σ1 c5) mi_X11_need ms_X11_need lk_X11_139 rfl rfl (Nat.le_of_ble_eq_true rfl) ⟨by decide, by decide⟩ h6 hXt h hR dX11_mean_19
    · replace h := it_f c5 h
      refine g_callSv (pc := 19) (As := [.int v4]) (rest := []) hC (c_X11_need l E v4 σ1 c5) mi_X11_need ms_X11_need lk_X11_139 rfl rfl (Nat.le_of_ble_eq_true rfl) ⟨by decide, by decide⟩ hab dX11_mean_19 ?_
      refine g_aload_n (pc := 22) hC dX11_mean_22 rfl ?_
      refine fg_X11_80_0 (pc := 23) hC dX11_mean_23 ?_
      obtain ⟨v6, hc, h⟩ := cp_e h
      refine g_callVi (pc := 26) (As := []) (rest := []) hC (c_X3_gapSum l E σ1 v6 hc) mi_X3_gapSum mv_X3_gapSum ob_44 rfl rfl lk_X11_338 rfl rfl (Nat.le_of_ble_eq_true rfl) ⟨by decide, by decide⟩ hab dX11_mean_26 ?_
      refine g_aload_n (pc := 29) hC dX11_mean_29 rfl ?_
      refine fg_X11_80_0 (pc := 30) hC dX11_mean_30 ?_
      obtain ⟨v7, hc, h⟩ := cp_e h
      refine g_callVi (pc := 33) (As := []) (rest := [.int v6]) hC (c_X3_gapCount l E σ1 v7 hc) mi_X3_gapCount mv_X3_gapCount ob_44 rfl rfl lk_X11_320 rfl rfl (Nat.le_of_ble_eq_true rfl) ⟨by decide, by decide⟩ hab dX11_mean_33 ?_
      refine g_iload_n (pc := 36) hC dX11_mean_36 rfl ?_
      obtain ⟨v8, hc, h⟩ := cp_e h
      refine g_callSi (pc := 37) (As := [.int v6, .int v7, .int a1]) (rest := []) hC (c_X11_lowest l E v6 v7 a1 σ1 v8 hc) mi_X11_lowest ms_X11_lowest lk_X11_195 rfl rfl (Nat.le_of_ble_eq_true rfl) ⟨by decide, by decide⟩ hab dX11_mean_37 ?_
      exact th_tr h
  refine g_if_le (tgt := 18) (pc := 11) hC dX11_mean_11 (by decide) (fun c3 => ?_) (fun c3 => ?_)
  · refine g_iconst (pc := 18) hC ki_0 dX11_mean_18 ?_
    exact g_top (iv_t c3 ev4) hJ19
  · refine g_iconst (pc := 14) hC ki_1 dX11_mean_14 ?_
    refine g_goto (tgt := 19) (pc := 15) hC dX11_mean_15 (by decide) ?_
    exact g_top (iv_f c3 ev4) hJ19
set_option maxRecDepth 20000 in
theorem c_X11_anew (l : Launch) (E : uE) (a1 : Int32) (a2 : Int32) (a3 : Int32) (σ : uS) (r : Int32) (σr : uS) (h : F_X11_anew a1 a2 a3 σ = some (.inl r, σr)) : CtI l E yX11_anew cX11_anew 4 (some .int) 7 134 [.ref (E.2.1 0), .int a1, .int a2, .int a3] σ r σr := by
  refine enterI 0 [some (.ref (E.2.1 0)), some (.int a1), some (.int a2), some (.int a3)] (by decide +kernel) rfl (Nat.le_of_ble_eq_true rfl) (fun o K hnL hC hab hR => ?_)
  have hC : Cx E K RX11 cX11_anew (some .int) 7 134 := hC
  have hN : ∀ k, k < 4 → k < K.2.2.2.2.2 := fun k hk => hnL ▸ hk
  delta F_X11_anew at h
  refine g_aload_n (pc := 0) hC dX11_anew_0 rfl ?_
  refine fg_X11_10_0 (pc := 1) hC dX11_anew_1 ?_
  refine g_iload_n (pc := 4) hC dX11_anew_4 rfl ?_
  obtain ⟨v1, hc, h⟩ := cp_e h
  refine g_callVi (pc := 5) (As := [.int a3]) (rest := []) hC (c_X7_has l E a3 σ v1 hc) mi_X7_has mv_X7_has ob_1 rfl rfl lk_X11_125 rfl rfl (Nat.le_of_ble_eq_true rfl) ⟨by decide, by decide⟩ hab dX11_anew_5 ?_
  by_cases c2 : v1 = 0
  · replace h := it_t c2 h
    exact th_rt h
  · replace h := it_f c2 h
    refine g_callSv (pc := 8) (As := [.int v1]) (rest := []) hC (c_X11_need l E v1 σ c2) mi_X11_need ms_X11_need lk_X11_139 rfl rfl (Nat.le_of_ble_eq_true rfl) ⟨by decide, by decide⟩ hab dX11_anew_8 ?_
    refine g_iload_n (pc := 11) hC dX11_anew_11 rfl ?_
    refine g_iconst (pc := 12) hC ki_1 dX11_anew_12 ?_
    have hJ36 : ∀ (v7 : Int32), J_X11_anew_2 a1 a2 a3 σ v7 = some (.inl r, σr) → Gd l E K 0 0 o σ 36 [some (.ref (E.2.1 0)), some (.int a1), some (.int a2), some (.int a3)] [.int v7] := by
      intro v7 h
      delta J_X11_anew_2 at h
      by_cases c8 : v7 = 0
      · replace h := it_t c8 h
        exact th_rt h
      · replace h := it_f c8 h
        refine g_callSv (pc := 36) (As := [.int v7]) (rest := []) hC (c_X11_allow l E v7 σ c8) mi_X11_allow ms_X11_allow lk_X11_211 rfl rfl (Nat.le_of_ble_eq_true rfl) ⟨by decide, by decide⟩ hab dX11_anew_36 ?_
        refine g_aload_n (pc := 39) hC dX11_anew_39 rfl ?_
        obtain ⟨σ9, hc, h⟩ := cp_e h
        refine g_callVv (pc := 40) (As := []) (rest := []) hC (c_X11_findMarks l E σ σ9 hc) mi_X11_findMarks mv_X11_findMarks ob_0 rfl rfl lk_X11_253 rfl rfl (Nat.le_of_ble_eq_true rfl) ⟨by decide, by decide⟩ hab dX11_anew_40 ?_
        refine g_aload_n (pc := 43) hC dX11_anew_43 rfl ?_
        refine fg_X11_80_0 (pc := 44) hC dX11_anew_44 ?_
        refine g_iload_n (pc := 47) hC dX11_anew_47 rfl ?_
        refine g_iload_n (pc := 48) hC dX11_anew_48 rfl ?_
        refine g_iload_n (pc := 49) hC dX11_anew_49 rfl ?_
        obtain ⟨v10, hc, h⟩ := cp_e h
        refine g_callVi (pc := 50) (As := [.int a1, .int a2, .int a3]) (rest := []) hC (c_X3_renewed l E a1 a2 a3 σ9 v10 hc) mi_X3_renewed mv_X3_renewed ob_44 rfl rfl lk_X11_341 rfl rfl (Nat.le_of_ble_eq_true rfl) ⟨by decide, by decide⟩ hab dX11_anew_50 ?_
        exact g_rett (pc := 53) hC h hR dX11_anew_53
    have hJ35 : J_X11_anew_1 a1 a2 a3 σ = some (.inl r, σr) → Gd l E K 0 0 o σ 35 [some (.ref (E.2.1 0)), some (.int a1), some (.int a2), some (.int a3)] [] := by
      intro h
      delta J_X11_anew_1 at h
      refine g_iconst (pc := 35) hC ki_0 dX11_anew_35 ?_
      exact hJ36 0 h
    refine g_icmp_lt (tgt := 35) (pc := 13) hC dX11_anew_13 (by decide) (fun c3 => ?_) (fun c3 => ?_)
    · replace h := it_t c3 h
      exact hJ35 h
    · replace h := it_f c3 h
      refine g_iload_n (pc := 16) hC dX11_anew_16 rfl ?_
      refine g_iconst (pc := 17) hC ki_4 dX11_anew_17 ?_
      refine g_icmp_gt (tgt := 35) (pc := 18) hC dX11_anew_18 (by decide) (fun c4 => ?_) (fun c4 => ?_)
      · replace h := it_t c4 h
        exact hJ35 h
      · replace h := it_f c4 h
        refine g_iload_n (pc := 21) hC dX11_anew_21 rfl ?_
        refine g_iconst (pc := 22) hC ki_1 dX11_anew_22 ?_
        refine g_icmp_lt (tgt := 35) (pc := 23) hC dX11_anew_23 (by decide) (fun c5 => ?_) (fun c5 => ?_)
        · replace h := it_t c5 h
          exact hJ35 h
        · replace h := it_f c5 h
          refine g_iload_n (pc := 26) hC dX11_anew_26 rfl ?_
          refine g_iconst (pc := 27) hC ki_4 dX11_anew_27 ?_
          refine g_icmp_gt (tgt := 35) (pc := 28) hC dX11_anew_28 (by decide) (fun c6 => ?_) (fun c6 => ?_)
          · replace h := it_t c6 h
            exact hJ35 h
          · replace h := it_f c6 h
            refine g_iconst (pc := 31) hC ki_1 dX11_anew_31 ?_
            refine g_goto (tgt := 36) (pc := 32) hC dX11_anew_32 (by decide) ?_
            exact hJ36 1 h
set_option maxRecDepth 20000 in
theorem x_X11_anew (l : Launch) (hl9 : l.stackTraces = false) (E : uE) (a1 : Int32) (a2 : Int32) (a3 : Int32) (σ : uS) (kx : Nat) (σr : uS) (h : F_X11_anew a1 a2 a3 σ = some (.inr kx, σr)) : CtX l E yX11_anew cX11_anew 4 7 134 [.ref (E.2.1 0), .int a1, .int a2, .int a3] σ kx σr := by
  refine enterX 0 [some (.ref (E.2.1 0)), some (.int a1), some (.int a2), some (.int a3)] (by decide +kernel) rfl (Nat.le_of_ble_eq_true rfl) (fun o K hnL hC hab h6 hXt hR => ?_)
  have hC : Cx E K RX11 cX11_anew (some .int) 7 134 := hC
  have hN : ∀ k, k < 4 → k < K.2.2.2.2.2 := fun k hk => hnL ▸ hk
  delta F_X11_anew at h
  refine g_aload_n (pc := 0) hC dX11_anew_0 rfl ?_
  refine fg_X11_10_0 (pc := 1) hC dX11_anew_1 ?_
  refine g_iload_n (pc := 4) hC dX11_anew_4 rfl ?_
  obtain ⟨v1, hc, h⟩ := cp_e h
  refine g_callVi (pc := 5) (As := [.int a3]) (rest := []) hC (c_X7_has l E a3 σ v1 hc) mi_X7_has mv_X7_has ob_1 rfl rfl lk_X11_125 rfl rfl (Nat.le_of_ble_eq_true rfl) ⟨by decide, by decide⟩ hab dX11_anew_5 ?_
  by_cases c2 : v1 = 0
  · replace h := it_t c2 h
    exact g_thr (pc := 8) (As := [.int v1]) (rest := []) hC (x_X11_need l hl9 E v1 σ c2) mi_X11_need ms_X11_need lk_X11_139 rfl rfl (Nat.le_of_ble_eq_true rfl) ⟨by decide, by decide⟩ h6 hXt h hR dX11_anew_8
  · replace h := it_f c2 h
    refine g_callSv (pc := 8) (As := [.int v1]) (rest := []) hC (c_X11_need l E v1 σ c2) mi_X11_need ms_X11_need lk_X11_139 rfl rfl (Nat.le_of_ble_eq_true rfl) ⟨by decide, by decide⟩ hab dX11_anew_8 ?_
    refine g_iload_n (pc := 11) hC dX11_anew_11 rfl ?_
    refine g_iconst (pc := 12) hC ki_1 dX11_anew_12 ?_
    have hJ36 : ∀ (v7 : Int32), J_X11_anew_2 a1 a2 a3 σ v7 = some (.inr kx, σr) → Gd l E K 0 0 o σ 36 [some (.ref (E.2.1 0)), some (.int a1), some (.int a2), some (.int a3)] [.int v7] := by
      intro v7 h
      delta J_X11_anew_2 at h
      by_cases c8 : v7 = 0
      · replace h := it_t c8 h
        exact g_thr (pc := 36) (As := [.int v7]) (rest := []) hC (x_X11_allow l hl9 E v7 σ c8) mi_X11_allow ms_X11_allow lk_X11_211 rfl rfl (Nat.le_of_ble_eq_true rfl) ⟨by decide, by decide⟩ h6 hXt h hR dX11_anew_36
      · replace h := it_f c8 h
        refine g_callSv (pc := 36) (As := [.int v7]) (rest := []) hC (c_X11_allow l E v7 σ c8) mi_X11_allow ms_X11_allow lk_X11_211 rfl rfl (Nat.le_of_ble_eq_true rfl) ⟨by decide, by decide⟩ hab dX11_anew_36 ?_
        refine g_aload_n (pc := 39) hC dX11_anew_39 rfl ?_
        obtain ⟨σ9, hc, h⟩ := cp_e h
        refine g_callVv (pc := 40) (As := []) (rest := []) hC (c_X11_findMarks l E σ σ9 hc) mi_X11_findMarks mv_X11_findMarks ob_0 rfl rfl lk_X11_253 rfl rfl (Nat.le_of_ble_eq_true rfl) ⟨by decide, by decide⟩ hab dX11_anew_40 ?_
        refine g_aload_n (pc := 43) hC dX11_anew_43 rfl ?_
        refine fg_X11_80_0 (pc := 44) hC dX11_anew_44 ?_
        refine g_iload_n (pc := 47) hC dX11_anew_47 rfl ?_
        refine g_iload_n (pc := 48) hC dX11_anew_48 rfl ?_
        refine g_iload_n (pc := 49) hC dX11_anew_49 rfl ?_
        obtain ⟨v10, hc, h⟩ := cp_e h
        refine g_callVi (pc := 50) (As := [.int a1, .int a2, .int a3]) (rest := []) hC (c_X3_renewed l E a1 a2 a3 σ9 v10 hc) mi_X3_renewed mv_X3_renewed ob_44 rfl rfl lk_X11_341 rfl rfl (Nat.le_of_ble_eq_true rfl) ⟨by decide, by decide⟩ hab dX11_anew_50 ?_
        exact th_tr h
    have hJ35 : J_X11_anew_1 a1 a2 a3 σ = some (.inr kx, σr) → Gd l E K 0 0 o σ 35 [some (.ref (E.2.1 0)), some (.int a1), some (.int a2), some (.int a3)] [] := by
      intro h
      delta J_X11_anew_1 at h
      refine g_iconst (pc := 35) hC ki_0 dX11_anew_35 ?_
      exact hJ36 0 h
    refine g_icmp_lt (tgt := 35) (pc := 13) hC dX11_anew_13 (by decide) (fun c3 => ?_) (fun c3 => ?_)
    · replace h := it_t c3 h
      exact hJ35 h
    · replace h := it_f c3 h
      refine g_iload_n (pc := 16) hC dX11_anew_16 rfl ?_
      refine g_iconst (pc := 17) hC ki_4 dX11_anew_17 ?_
      refine g_icmp_gt (tgt := 35) (pc := 18) hC dX11_anew_18 (by decide) (fun c4 => ?_) (fun c4 => ?_)
      · replace h := it_t c4 h
        exact hJ35 h
      · replace h := it_f c4 h
        refine g_iload_n (pc := 21) hC dX11_anew_21 rfl ?_
        refine g_iconst (pc := 22) hC ki_1 dX11_anew_22 ?_
        refine g_icmp_lt (tgt := 35) (pc := 23) hC dX11_anew_23 (by decide) (fun c5 => ?_) (fun c5 => ?_)
        · replace h := it_t c5 h
          exact hJ35 h
        · replace h := it_f c5 h
          refine g_iload_n (pc := 26) hC dX11_anew_26 rfl ?_
          refine g_iconst (pc := 27) hC ki_4 dX11_anew_27 ?_
          refine g_icmp_gt (tgt := 35) (pc := 28) hC dX11_anew_28 (by decide) (fun c6 => ?_) (fun c6 => ?_)
          · replace h := it_t c6 h
            exact hJ35 h
          · replace h := it_f c6 h
            refine g_iconst (pc := 31) hC ki_1 dX11_anew_31 ?_
            refine g_goto (tgt := 36) (pc := 32) hC dX11_anew_32 (by decide) ?_
            exact hJ36 1 h
